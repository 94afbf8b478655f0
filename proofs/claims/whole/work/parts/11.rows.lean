def q_I (f : Int32 → am_M → am_Q → Prop) : am_Sp := fun as μ Q => match as with
  | [.int a0] => f a0 μ Q
  | _ => False
theorem q_I_i {f : Int32 → am_M → am_Q → Prop} {as : List Value} {μ : am_M} {Q : am_Q} (h : q_I f as μ Q) : ∃ (a0 : Int32), as = [.int a0] ∧ f a0 μ Q := by
  unfold q_I at h
  split at h
  · exact ⟨_, rfl, h⟩
  · exact h.elim
theorem q_I_h {f : Int32 → am_M → am_Q → Prop} {maxL : Nat} (hn : 1 ≤ maxL) (as : List Value) (μ : am_M) (Q : am_Q) (h : q_I f as μ Q) : as.length ≤ maxL ∧ ∀ v ∈ as, am_cat v = 1 := by
  obtain ⟨a0, rfl, -⟩ := q_I_i h
  exact ⟨hn, by simp [am_cat]⟩
theorem q_I_b {f : Int32 → am_M → am_Q → Prop} {maxL : Nat} {E : am_E} {cd : am_cd} (h : ∀ (a0 : Int32) (μ : am_M) (Q : am_Q) (At : am_J), am_ok E cd Q At → f a0 μ Q → At 0 (am_en [.int a0] maxL) [] μ) (as : List Value) (μ : am_M) (Q : am_Q) (At : am_J) (hA : am_ok E cd Q At) (hq : q_I f as μ Q) : At 0 (am_en as maxL) [] μ := by
  obtain ⟨a0, rfl, hf⟩ := q_I_i hq
  exact h a0 μ Q At hA hf
def q_II (f : Int32 → Int32 → am_M → am_Q → Prop) : am_Sp := fun as μ Q => match as with
  | [.int a0, .int a1] => f a0 a1 μ Q
  | _ => False
theorem q_II_i {f : Int32 → Int32 → am_M → am_Q → Prop} {as : List Value} {μ : am_M} {Q : am_Q} (h : q_II f as μ Q) : ∃ (a0 : Int32) (a1 : Int32), as = [.int a0, .int a1] ∧ f a0 a1 μ Q := by
  unfold q_II at h
  split at h
  · exact ⟨_, _, rfl, h⟩
  · exact h.elim
theorem q_II_h {f : Int32 → Int32 → am_M → am_Q → Prop} {maxL : Nat} (hn : 2 ≤ maxL) (as : List Value) (μ : am_M) (Q : am_Q) (h : q_II f as μ Q) : as.length ≤ maxL ∧ ∀ v ∈ as, am_cat v = 1 := by
  obtain ⟨a0, a1, rfl, -⟩ := q_II_i h
  exact ⟨hn, by simp [am_cat]⟩
theorem q_II_b {f : Int32 → Int32 → am_M → am_Q → Prop} {maxL : Nat} {E : am_E} {cd : am_cd} (h : ∀ (a0 : Int32) (a1 : Int32) (μ : am_M) (Q : am_Q) (At : am_J), am_ok E cd Q At → f a0 a1 μ Q → At 0 (am_en [.int a0, .int a1] maxL) [] μ) (as : List Value) (μ : am_M) (Q : am_Q) (At : am_J) (hA : am_ok E cd Q At) (hq : q_II f as μ Q) : At 0 (am_en as maxL) [] μ := by
  obtain ⟨a0, a1, rfl, hf⟩ := q_II_i hq
  exact h a0 a1 μ Q At hA hf
def q_III (f : Int32 → Int32 → Int32 → am_M → am_Q → Prop) : am_Sp := fun as μ Q => match as with
  | [.int a0, .int a1, .int a2] => f a0 a1 a2 μ Q
  | _ => False
theorem q_III_i {f : Int32 → Int32 → Int32 → am_M → am_Q → Prop} {as : List Value} {μ : am_M} {Q : am_Q} (h : q_III f as μ Q) : ∃ (a0 : Int32) (a1 : Int32) (a2 : Int32), as = [.int a0, .int a1, .int a2] ∧ f a0 a1 a2 μ Q := by
  unfold q_III at h
  split at h
  · exact ⟨_, _, _, rfl, h⟩
  · exact h.elim
theorem q_III_h {f : Int32 → Int32 → Int32 → am_M → am_Q → Prop} {maxL : Nat} (hn : 3 ≤ maxL) (as : List Value) (μ : am_M) (Q : am_Q) (h : q_III f as μ Q) : as.length ≤ maxL ∧ ∀ v ∈ as, am_cat v = 1 := by
  obtain ⟨a0, a1, a2, rfl, -⟩ := q_III_i h
  exact ⟨hn, by simp [am_cat]⟩
theorem q_III_b {f : Int32 → Int32 → Int32 → am_M → am_Q → Prop} {maxL : Nat} {E : am_E} {cd : am_cd} (h : ∀ (a0 : Int32) (a1 : Int32) (a2 : Int32) (μ : am_M) (Q : am_Q) (At : am_J), am_ok E cd Q At → f a0 a1 a2 μ Q → At 0 (am_en [.int a0, .int a1, .int a2] maxL) [] μ) (as : List Value) (μ : am_M) (Q : am_Q) (At : am_J) (hA : am_ok E cd Q At) (hq : q_III f as μ Q) : At 0 (am_en as maxL) [] μ := by
  obtain ⟨a0, a1, a2, rfl, hf⟩ := q_III_i hq
  exact h a0 a1 a2 μ Q At hA hf
def q_IIN (f : Int32 → Int32 → am_M → am_Q → Prop) : am_Sp := fun as μ Q => match as with
  | [.int a0, .int a1, .null] => f a0 a1 μ Q
  | _ => False
theorem q_IIN_i {f : Int32 → Int32 → am_M → am_Q → Prop} {as : List Value} {μ : am_M} {Q : am_Q} (h : q_IIN f as μ Q) : ∃ (a0 : Int32) (a1 : Int32), as = [.int a0, .int a1, .null] ∧ f a0 a1 μ Q := by
  unfold q_IIN at h
  split at h
  · exact ⟨_, _, rfl, h⟩
  · exact h.elim
theorem q_IIN_h {f : Int32 → Int32 → am_M → am_Q → Prop} {maxL : Nat} (hn : 3 ≤ maxL) (as : List Value) (μ : am_M) (Q : am_Q) (h : q_IIN f as μ Q) : as.length ≤ maxL ∧ ∀ v ∈ as, am_cat v = 1 := by
  obtain ⟨a0, a1, rfl, -⟩ := q_IIN_i h
  exact ⟨hn, by simp [am_cat]⟩
theorem q_IIN_b {f : Int32 → Int32 → am_M → am_Q → Prop} {maxL : Nat} {E : am_E} {cd : am_cd} (h : ∀ (a0 : Int32) (a1 : Int32) (μ : am_M) (Q : am_Q) (At : am_J), am_ok E cd Q At → f a0 a1 μ Q → At 0 (am_en [.int a0, .int a1, .null] maxL) [] μ) (as : List Value) (μ : am_M) (Q : am_Q) (At : am_J) (hA : am_ok E cd Q At) (hq : q_IIN f as μ Q) : At 0 (am_en as maxL) [] μ := by
  obtain ⟨a0, a1, rfl, hf⟩ := q_IIN_i hq
  exact h a0 a1 μ Q At hA hf
def q_R (f : Nat → am_M → am_Q → Prop) : am_Sp := fun as μ Q => match as with
  | [.ref a0] => f a0 μ Q
  | _ => False
theorem q_R_i {f : Nat → am_M → am_Q → Prop} {as : List Value} {μ : am_M} {Q : am_Q} (h : q_R f as μ Q) : ∃ (a0 : Nat), as = [.ref a0] ∧ f a0 μ Q := by
  unfold q_R at h
  split at h
  · exact ⟨_, rfl, h⟩
  · exact h.elim
theorem q_R_h {f : Nat → am_M → am_Q → Prop} {maxL : Nat} (hn : 1 ≤ maxL) (as : List Value) (μ : am_M) (Q : am_Q) (h : q_R f as μ Q) : as.length ≤ maxL ∧ ∀ v ∈ as, am_cat v = 1 := by
  obtain ⟨a0, rfl, -⟩ := q_R_i h
  exact ⟨hn, by simp [am_cat]⟩
theorem q_R_b {f : Nat → am_M → am_Q → Prop} {maxL : Nat} {E : am_E} {cd : am_cd} (h : ∀ (a0 : Nat) (μ : am_M) (Q : am_Q) (At : am_J), am_ok E cd Q At → f a0 μ Q → At 0 (am_en [.ref a0] maxL) [] μ) (as : List Value) (μ : am_M) (Q : am_Q) (At : am_J) (hA : am_ok E cd Q At) (hq : q_R f as μ Q) : At 0 (am_en as maxL) [] μ := by
  obtain ⟨a0, rfl, hf⟩ := q_R_i hq
  exact h a0 μ Q At hA hf
def q_RI (f : Nat → Int32 → am_M → am_Q → Prop) : am_Sp := fun as μ Q => match as with
  | [.ref a0, .int a1] => f a0 a1 μ Q
  | _ => False
theorem q_RI_i {f : Nat → Int32 → am_M → am_Q → Prop} {as : List Value} {μ : am_M} {Q : am_Q} (h : q_RI f as μ Q) : ∃ (a0 : Nat) (a1 : Int32), as = [.ref a0, .int a1] ∧ f a0 a1 μ Q := by
  unfold q_RI at h
  split at h
  · exact ⟨_, _, rfl, h⟩
  · exact h.elim
theorem q_RI_h {f : Nat → Int32 → am_M → am_Q → Prop} {maxL : Nat} (hn : 2 ≤ maxL) (as : List Value) (μ : am_M) (Q : am_Q) (h : q_RI f as μ Q) : as.length ≤ maxL ∧ ∀ v ∈ as, am_cat v = 1 := by
  obtain ⟨a0, a1, rfl, -⟩ := q_RI_i h
  exact ⟨hn, by simp [am_cat]⟩
theorem q_RI_b {f : Nat → Int32 → am_M → am_Q → Prop} {maxL : Nat} {E : am_E} {cd : am_cd} (h : ∀ (a0 : Nat) (a1 : Int32) (μ : am_M) (Q : am_Q) (At : am_J), am_ok E cd Q At → f a0 a1 μ Q → At 0 (am_en [.ref a0, .int a1] maxL) [] μ) (as : List Value) (μ : am_M) (Q : am_Q) (At : am_J) (hA : am_ok E cd Q At) (hq : q_RI f as μ Q) : At 0 (am_en as maxL) [] μ := by
  obtain ⟨a0, a1, rfl, hf⟩ := q_RI_i hq
  exact h a0 a1 μ Q At hA hf
def q_RII (f : Nat → Int32 → Int32 → am_M → am_Q → Prop) : am_Sp := fun as μ Q => match as with
  | [.ref a0, .int a1, .int a2] => f a0 a1 a2 μ Q
  | _ => False
theorem q_RII_i {f : Nat → Int32 → Int32 → am_M → am_Q → Prop} {as : List Value} {μ : am_M} {Q : am_Q} (h : q_RII f as μ Q) : ∃ (a0 : Nat) (a1 : Int32) (a2 : Int32), as = [.ref a0, .int a1, .int a2] ∧ f a0 a1 a2 μ Q := by
  unfold q_RII at h
  split at h
  · exact ⟨_, _, _, rfl, h⟩
  · exact h.elim
theorem q_RII_h {f : Nat → Int32 → Int32 → am_M → am_Q → Prop} {maxL : Nat} (hn : 3 ≤ maxL) (as : List Value) (μ : am_M) (Q : am_Q) (h : q_RII f as μ Q) : as.length ≤ maxL ∧ ∀ v ∈ as, am_cat v = 1 := by
  obtain ⟨a0, a1, a2, rfl, -⟩ := q_RII_i h
  exact ⟨hn, by simp [am_cat]⟩
theorem q_RII_b {f : Nat → Int32 → Int32 → am_M → am_Q → Prop} {maxL : Nat} {E : am_E} {cd : am_cd} (h : ∀ (a0 : Nat) (a1 : Int32) (a2 : Int32) (μ : am_M) (Q : am_Q) (At : am_J), am_ok E cd Q At → f a0 a1 a2 μ Q → At 0 (am_en [.ref a0, .int a1, .int a2] maxL) [] μ) (as : List Value) (μ : am_M) (Q : am_Q) (At : am_J) (hA : am_ok E cd Q At) (hq : q_RII f as μ Q) : At 0 (am_en as maxL) [] μ := by
  obtain ⟨a0, a1, a2, rfl, hf⟩ := q_RII_i hq
  exact h a0 a1 a2 μ Q At hA hf
def q_RIII (f : Nat → Int32 → Int32 → Int32 → am_M → am_Q → Prop) : am_Sp := fun as μ Q => match as with
  | [.ref a0, .int a1, .int a2, .int a3] => f a0 a1 a2 a3 μ Q
  | _ => False
theorem q_RIII_i {f : Nat → Int32 → Int32 → Int32 → am_M → am_Q → Prop} {as : List Value} {μ : am_M} {Q : am_Q} (h : q_RIII f as μ Q) : ∃ (a0 : Nat) (a1 : Int32) (a2 : Int32) (a3 : Int32), as = [.ref a0, .int a1, .int a2, .int a3] ∧ f a0 a1 a2 a3 μ Q := by
  unfold q_RIII at h
  split at h
  · exact ⟨_, _, _, _, rfl, h⟩
  · exact h.elim
theorem q_RIII_h {f : Nat → Int32 → Int32 → Int32 → am_M → am_Q → Prop} {maxL : Nat} (hn : 4 ≤ maxL) (as : List Value) (μ : am_M) (Q : am_Q) (h : q_RIII f as μ Q) : as.length ≤ maxL ∧ ∀ v ∈ as, am_cat v = 1 := by
  obtain ⟨a0, a1, a2, a3, rfl, -⟩ := q_RIII_i h
  exact ⟨hn, by simp [am_cat]⟩
theorem q_RIII_b {f : Nat → Int32 → Int32 → Int32 → am_M → am_Q → Prop} {maxL : Nat} {E : am_E} {cd : am_cd} (h : ∀ (a0 : Nat) (a1 : Int32) (a2 : Int32) (a3 : Int32) (μ : am_M) (Q : am_Q) (At : am_J), am_ok E cd Q At → f a0 a1 a2 a3 μ Q → At 0 (am_en [.ref a0, .int a1, .int a2, .int a3] maxL) [] μ) (as : List Value) (μ : am_M) (Q : am_Q) (At : am_J) (hA : am_ok E cd Q At) (hq : q_RIII f as μ Q) : At 0 (am_en as maxL) [] μ := by
  obtain ⟨a0, a1, a2, a3, rfl, hf⟩ := q_RIII_i hq
  exact h a0 a1 a2 a3 μ Q At hA hf
def q_RIIII (f : Nat → Int32 → Int32 → Int32 → Int32 → am_M → am_Q → Prop) : am_Sp := fun as μ Q => match as with
  | [.ref a0, .int a1, .int a2, .int a3, .int a4] => f a0 a1 a2 a3 a4 μ Q
  | _ => False
theorem q_RIIII_i {f : Nat → Int32 → Int32 → Int32 → Int32 → am_M → am_Q → Prop} {as : List Value} {μ : am_M} {Q : am_Q} (h : q_RIIII f as μ Q) : ∃ (a0 : Nat) (a1 : Int32) (a2 : Int32) (a3 : Int32) (a4 : Int32), as = [.ref a0, .int a1, .int a2, .int a3, .int a4] ∧ f a0 a1 a2 a3 a4 μ Q := by
  unfold q_RIIII at h
  split at h
  · exact ⟨_, _, _, _, _, rfl, h⟩
  · exact h.elim
theorem q_RIIII_h {f : Nat → Int32 → Int32 → Int32 → Int32 → am_M → am_Q → Prop} {maxL : Nat} (hn : 5 ≤ maxL) (as : List Value) (μ : am_M) (Q : am_Q) (h : q_RIIII f as μ Q) : as.length ≤ maxL ∧ ∀ v ∈ as, am_cat v = 1 := by
  obtain ⟨a0, a1, a2, a3, a4, rfl, -⟩ := q_RIIII_i h
  exact ⟨hn, by simp [am_cat]⟩
theorem q_RIIII_b {f : Nat → Int32 → Int32 → Int32 → Int32 → am_M → am_Q → Prop} {maxL : Nat} {E : am_E} {cd : am_cd} (h : ∀ (a0 : Nat) (a1 : Int32) (a2 : Int32) (a3 : Int32) (a4 : Int32) (μ : am_M) (Q : am_Q) (At : am_J), am_ok E cd Q At → f a0 a1 a2 a3 a4 μ Q → At 0 (am_en [.ref a0, .int a1, .int a2, .int a3, .int a4] maxL) [] μ) (as : List Value) (μ : am_M) (Q : am_Q) (At : am_J) (hA : am_ok E cd Q At) (hq : q_RIIII f as μ Q) : At 0 (am_en as maxL) [] μ := by
  obtain ⟨a0, a1, a2, a3, a4, rfl, hf⟩ := q_RIIII_i hq
  exact h a0 a1 a2 a3 a4 μ Q At hA hf
def q_RIIIII (f : Nat → Int32 → Int32 → Int32 → Int32 → Int32 → am_M → am_Q → Prop) : am_Sp := fun as μ Q => match as with
  | [.ref a0, .int a1, .int a2, .int a3, .int a4, .int a5] => f a0 a1 a2 a3 a4 a5 μ Q
  | _ => False
theorem q_RIIIII_i {f : Nat → Int32 → Int32 → Int32 → Int32 → Int32 → am_M → am_Q → Prop} {as : List Value} {μ : am_M} {Q : am_Q} (h : q_RIIIII f as μ Q) : ∃ (a0 : Nat) (a1 : Int32) (a2 : Int32) (a3 : Int32) (a4 : Int32) (a5 : Int32), as = [.ref a0, .int a1, .int a2, .int a3, .int a4, .int a5] ∧ f a0 a1 a2 a3 a4 a5 μ Q := by
  unfold q_RIIIII at h
  split at h
  · exact ⟨_, _, _, _, _, _, rfl, h⟩
  · exact h.elim
theorem q_RIIIII_h {f : Nat → Int32 → Int32 → Int32 → Int32 → Int32 → am_M → am_Q → Prop} {maxL : Nat} (hn : 6 ≤ maxL) (as : List Value) (μ : am_M) (Q : am_Q) (h : q_RIIIII f as μ Q) : as.length ≤ maxL ∧ ∀ v ∈ as, am_cat v = 1 := by
  obtain ⟨a0, a1, a2, a3, a4, a5, rfl, -⟩ := q_RIIIII_i h
  exact ⟨hn, by simp [am_cat]⟩
theorem q_RIIIII_b {f : Nat → Int32 → Int32 → Int32 → Int32 → Int32 → am_M → am_Q → Prop} {maxL : Nat} {E : am_E} {cd : am_cd} (h : ∀ (a0 : Nat) (a1 : Int32) (a2 : Int32) (a3 : Int32) (a4 : Int32) (a5 : Int32) (μ : am_M) (Q : am_Q) (At : am_J), am_ok E cd Q At → f a0 a1 a2 a3 a4 a5 μ Q → At 0 (am_en [.ref a0, .int a1, .int a2, .int a3, .int a4, .int a5] maxL) [] μ) (as : List Value) (μ : am_M) (Q : am_Q) (At : am_J) (hA : am_ok E cd Q At) (hq : q_RIIIII f as μ Q) : At 0 (am_en as maxL) [] μ := by
  obtain ⟨a0, a1, a2, a3, a4, a5, rfl, hf⟩ := q_RIIIII_i hq
  exact h a0 a1 a2 a3 a4 a5 μ Q At hA hf
def q_RR (f : Nat → Nat → am_M → am_Q → Prop) : am_Sp := fun as μ Q => match as with
  | [.ref a0, .ref a1] => f a0 a1 μ Q
  | _ => False
theorem q_RR_i {f : Nat → Nat → am_M → am_Q → Prop} {as : List Value} {μ : am_M} {Q : am_Q} (h : q_RR f as μ Q) : ∃ (a0 : Nat) (a1 : Nat), as = [.ref a0, .ref a1] ∧ f a0 a1 μ Q := by
  unfold q_RR at h
  split at h
  · exact ⟨_, _, rfl, h⟩
  · exact h.elim
theorem q_RR_h {f : Nat → Nat → am_M → am_Q → Prop} {maxL : Nat} (hn : 2 ≤ maxL) (as : List Value) (μ : am_M) (Q : am_Q) (h : q_RR f as μ Q) : as.length ≤ maxL ∧ ∀ v ∈ as, am_cat v = 1 := by
  obtain ⟨a0, a1, rfl, -⟩ := q_RR_i h
  exact ⟨hn, by simp [am_cat]⟩
theorem q_RR_b {f : Nat → Nat → am_M → am_Q → Prop} {maxL : Nat} {E : am_E} {cd : am_cd} (h : ∀ (a0 : Nat) (a1 : Nat) (μ : am_M) (Q : am_Q) (At : am_J), am_ok E cd Q At → f a0 a1 μ Q → At 0 (am_en [.ref a0, .ref a1] maxL) [] μ) (as : List Value) (μ : am_M) (Q : am_Q) (At : am_J) (hA : am_ok E cd Q At) (hq : q_RR f as μ Q) : At 0 (am_en as maxL) [] μ := by
  obtain ⟨a0, a1, rfl, hf⟩ := q_RR_i hq
  exact h a0 a1 μ Q At hA hf
def q_RRI (f : Nat → Nat → Int32 → am_M → am_Q → Prop) : am_Sp := fun as μ Q => match as with
  | [.ref a0, .ref a1, .int a2] => f a0 a1 a2 μ Q
  | _ => False
theorem q_RRI_i {f : Nat → Nat → Int32 → am_M → am_Q → Prop} {as : List Value} {μ : am_M} {Q : am_Q} (h : q_RRI f as μ Q) : ∃ (a0 : Nat) (a1 : Nat) (a2 : Int32), as = [.ref a0, .ref a1, .int a2] ∧ f a0 a1 a2 μ Q := by
  unfold q_RRI at h
  split at h
  · exact ⟨_, _, _, rfl, h⟩
  · exact h.elim
theorem q_RRI_h {f : Nat → Nat → Int32 → am_M → am_Q → Prop} {maxL : Nat} (hn : 3 ≤ maxL) (as : List Value) (μ : am_M) (Q : am_Q) (h : q_RRI f as μ Q) : as.length ≤ maxL ∧ ∀ v ∈ as, am_cat v = 1 := by
  obtain ⟨a0, a1, a2, rfl, -⟩ := q_RRI_i h
  exact ⟨hn, by simp [am_cat]⟩
theorem q_RRI_b {f : Nat → Nat → Int32 → am_M → am_Q → Prop} {maxL : Nat} {E : am_E} {cd : am_cd} (h : ∀ (a0 : Nat) (a1 : Nat) (a2 : Int32) (μ : am_M) (Q : am_Q) (At : am_J), am_ok E cd Q At → f a0 a1 a2 μ Q → At 0 (am_en [.ref a0, .ref a1, .int a2] maxL) [] μ) (as : List Value) (μ : am_M) (Q : am_Q) (At : am_J) (hA : am_ok E cd Q At) (hq : q_RRI f as μ Q) : At 0 (am_en as maxL) [] μ := by
  obtain ⟨a0, a1, a2, rfl, hf⟩ := q_RRI_i hq
  exact h a0 a1 a2 μ Q At hA hf
def q_RRRI (f : Nat → Nat → Nat → Int32 → am_M → am_Q → Prop) : am_Sp := fun as μ Q => match as with
  | [.ref a0, .ref a1, .ref a2, .int a3] => f a0 a1 a2 a3 μ Q
  | _ => False
theorem q_RRRI_i {f : Nat → Nat → Nat → Int32 → am_M → am_Q → Prop} {as : List Value} {μ : am_M} {Q : am_Q} (h : q_RRRI f as μ Q) : ∃ (a0 : Nat) (a1 : Nat) (a2 : Nat) (a3 : Int32), as = [.ref a0, .ref a1, .ref a2, .int a3] ∧ f a0 a1 a2 a3 μ Q := by
  unfold q_RRRI at h
  split at h
  · exact ⟨_, _, _, _, rfl, h⟩
  · exact h.elim
theorem q_RRRI_h {f : Nat → Nat → Nat → Int32 → am_M → am_Q → Prop} {maxL : Nat} (hn : 4 ≤ maxL) (as : List Value) (μ : am_M) (Q : am_Q) (h : q_RRRI f as μ Q) : as.length ≤ maxL ∧ ∀ v ∈ as, am_cat v = 1 := by
  obtain ⟨a0, a1, a2, a3, rfl, -⟩ := q_RRRI_i h
  exact ⟨hn, by simp [am_cat]⟩
theorem q_RRRI_b {f : Nat → Nat → Nat → Int32 → am_M → am_Q → Prop} {maxL : Nat} {E : am_E} {cd : am_cd} (h : ∀ (a0 : Nat) (a1 : Nat) (a2 : Nat) (a3 : Int32) (μ : am_M) (Q : am_Q) (At : am_J), am_ok E cd Q At → f a0 a1 a2 a3 μ Q → At 0 (am_en [.ref a0, .ref a1, .ref a2, .int a3] maxL) [] μ) (as : List Value) (μ : am_M) (Q : am_Q) (At : am_J) (hA : am_ok E cd Q At) (hq : q_RRRI f as μ Q) : At 0 (am_en as maxL) [] μ := by
  obtain ⟨a0, a1, a2, a3, rfl, hf⟩ := q_RRRI_i hq
  exact h a0 a1 a2 a3 μ Q At hA hf
def am_WV (y : MethodName) (bytes : ByteArray) (maxL : Nat) (ret : Option FieldType) (n ci : Nat) : Prop :=
  .initialized y.cls ∈ am_tb ∧ .code y bytes maxL ret ∈ am_tb ∧ (y.cls ≠ "java/lang/invoke/MethodHandle" ∧ y.cls ≠ "java/lang/invoke/VarHandle" ∧ (parseMethodDescriptor y.desc).map (fun d => d.parameters.length) = some n) ∧ y.cls = am_cn ci ∧ (ci < 6 ∨ ci = 21) ∧ .instanceMethod y ∈ am_tb ∧ .selects y.cls y y ∈ am_tb
def am_WS (y : MethodName) (bytes : ByteArray) (maxL : Nat) (ret : Option FieldType) (n : Nat) : Prop :=
  .initialized y.cls ∈ am_tb ∧ .code y bytes maxL ret ∈ am_tb ∧ (y.cls ≠ "java/lang/invoke/MethodHandle" ∧ y.cls ≠ "java/lang/invoke/VarHandle" ∧ (parseMethodDescriptor y.desc).map (fun d => d.parameters.length) = some n) ∧ .static y ∈ am_tb
theorem am_mkV {own : String} {R : Room} {idx ci n : Nat} {sp : am_Sp} {y : MethodName} {bytes : ByteArray} {maxL : Nat} {ret : Option FieldType} {rm : Room} (ok : am_OK y bytes maxL ret rm sp) (w : am_WV y bytes maxL ret n ci) (hl : .methodLink own idx y ∈ am_tb) (hR : rm.cells = 0 ∧ rm.slots = 0 ∧ rm.frames + 1 ≤ R.frames ∧ 8 + (maxL + 11) + rm.locals ≤ R.locals) : am_CV own R idx ci n sp :=
  ⟨y, bytes, maxL, ret, rm, ok, ⟨w.1, w.2.1, w.2.2.1, hR⟩, w.2.2.2.1, w.2.2.2.2.1, hl, w.2.2.2.2.2⟩
theorem am_mkS {own : String} {R : Room} {idx n : Nat} {sp : am_Sp} {y : MethodName} {bytes : ByteArray} {maxL : Nat} {ret : Option FieldType} {rm : Room} (ok : am_OK y bytes maxL ret rm sp) (w : am_WS y bytes maxL ret n) (hl : .methodLink own idx y ∈ am_tb ∨ .methodLinkNest own idx y RX4 ∈ am_nest) (hR : rm.cells = 0 ∧ rm.slots = 0 ∧ rm.frames + 1 ≤ R.frames ∧ 8 + (maxL + 11) + rm.locals ≤ R.locals) : am_CS own R idx n sp :=
  ⟨y, bytes, maxL, ret, rm, ok, ⟨w.1, w.2.1, w.2.2.1, hR⟩, w.2.2.2, hl⟩
theorem s_aload_0 {E : am_E} {pc : Nat} {L S : List Value} {μ : am_M} {nx : am_K} {jp : am_J} {Q : am_Q}  : am_st E pc (.aload_n 0) L S μ nx jp Q = (am_lR L 0 fun k => nx L (.ref k :: S) μ) := Eq.trans rfl rfl
theorem s_iload_0 {E : am_E} {pc : Nat} {L S : List Value} {μ : am_M} {nx : am_K} {jp : am_J} {Q : am_Q}  : am_st E pc (.iload_n 0) L S μ nx jp Q = (am_lI L 0 fun k => nx L (.int k :: S) μ) := Eq.trans rfl rfl
theorem s_lload_0 {E : am_E} {pc : Nat} {L S : List Value} {μ : am_M} {nx : am_K} {jp : am_J} {Q : am_Q}  : am_st E pc (.lload_n 0) L S μ nx jp Q = (am_lL L 0 fun k => nx L (.long k :: S) μ) := Eq.trans rfl rfl
theorem s_istore_0 {E : am_E} {pc : Nat} {L S : List Value} {μ : am_M} {nx : am_K} {jp : am_J} {Q : am_Q} {x : Int32} : am_st E pc (.istore_n 0) L (.int x :: S) μ nx jp Q = (0 < am_nL E ∧ nx (am_sto L 0 (.int x)) S μ) := Eq.trans rfl rfl
theorem s_lstore_0 {E : am_E} {pc : Nat} {L S : List Value} {μ : am_M} {nx : am_K} {jp : am_J} {Q : am_Q} {x : Int64} : am_st E pc (.lstore_n 0) L (.long x :: S) μ nx jp Q = (0 + 1 < am_nL E ∧ nx (am_stL L 0 x) S μ) := Eq.trans rfl rfl
theorem s_astore_0 {E : am_E} {pc : Nat} {L S : List Value} {μ : am_M} {nx : am_K} {jp : am_J} {Q : am_Q} {x : Nat} : am_st E pc (.astore_n 0) L (.ref x :: S) μ nx jp Q = (0 < am_nL E ∧ nx (am_sto L 0 (.ref x)) S μ) := Eq.trans rfl rfl
theorem s_aload_1 {E : am_E} {pc : Nat} {L S : List Value} {μ : am_M} {nx : am_K} {jp : am_J} {Q : am_Q}  : am_st E pc (.aload_n 1) L S μ nx jp Q = (am_lR L 1 fun k => nx L (.ref k :: S) μ) := Eq.trans rfl rfl
theorem s_iload_1 {E : am_E} {pc : Nat} {L S : List Value} {μ : am_M} {nx : am_K} {jp : am_J} {Q : am_Q}  : am_st E pc (.iload_n 1) L S μ nx jp Q = (am_lI L 1 fun k => nx L (.int k :: S) μ) := Eq.trans rfl rfl
theorem s_lload_1 {E : am_E} {pc : Nat} {L S : List Value} {μ : am_M} {nx : am_K} {jp : am_J} {Q : am_Q}  : am_st E pc (.lload_n 1) L S μ nx jp Q = (am_lL L 1 fun k => nx L (.long k :: S) μ) := Eq.trans rfl rfl
theorem s_istore_1 {E : am_E} {pc : Nat} {L S : List Value} {μ : am_M} {nx : am_K} {jp : am_J} {Q : am_Q} {x : Int32} : am_st E pc (.istore_n 1) L (.int x :: S) μ nx jp Q = (1 < am_nL E ∧ nx (am_sto L 1 (.int x)) S μ) := Eq.trans rfl rfl
theorem s_lstore_1 {E : am_E} {pc : Nat} {L S : List Value} {μ : am_M} {nx : am_K} {jp : am_J} {Q : am_Q} {x : Int64} : am_st E pc (.lstore_n 1) L (.long x :: S) μ nx jp Q = (1 + 1 < am_nL E ∧ nx (am_stL L 1 x) S μ) := Eq.trans rfl rfl
theorem s_astore_1 {E : am_E} {pc : Nat} {L S : List Value} {μ : am_M} {nx : am_K} {jp : am_J} {Q : am_Q} {x : Nat} : am_st E pc (.astore_n 1) L (.ref x :: S) μ nx jp Q = (1 < am_nL E ∧ nx (am_sto L 1 (.ref x)) S μ) := Eq.trans rfl rfl
theorem s_aload_2 {E : am_E} {pc : Nat} {L S : List Value} {μ : am_M} {nx : am_K} {jp : am_J} {Q : am_Q}  : am_st E pc (.aload_n 2) L S μ nx jp Q = (am_lR L 2 fun k => nx L (.ref k :: S) μ) := Eq.trans rfl rfl
theorem s_iload_2 {E : am_E} {pc : Nat} {L S : List Value} {μ : am_M} {nx : am_K} {jp : am_J} {Q : am_Q}  : am_st E pc (.iload_n 2) L S μ nx jp Q = (am_lI L 2 fun k => nx L (.int k :: S) μ) := Eq.trans rfl rfl
theorem s_lload_2 {E : am_E} {pc : Nat} {L S : List Value} {μ : am_M} {nx : am_K} {jp : am_J} {Q : am_Q}  : am_st E pc (.lload_n 2) L S μ nx jp Q = (am_lL L 2 fun k => nx L (.long k :: S) μ) := Eq.trans rfl rfl
theorem s_istore_2 {E : am_E} {pc : Nat} {L S : List Value} {μ : am_M} {nx : am_K} {jp : am_J} {Q : am_Q} {x : Int32} : am_st E pc (.istore_n 2) L (.int x :: S) μ nx jp Q = (2 < am_nL E ∧ nx (am_sto L 2 (.int x)) S μ) := Eq.trans rfl rfl
theorem s_lstore_2 {E : am_E} {pc : Nat} {L S : List Value} {μ : am_M} {nx : am_K} {jp : am_J} {Q : am_Q} {x : Int64} : am_st E pc (.lstore_n 2) L (.long x :: S) μ nx jp Q = (2 + 1 < am_nL E ∧ nx (am_stL L 2 x) S μ) := Eq.trans rfl rfl
theorem s_astore_2 {E : am_E} {pc : Nat} {L S : List Value} {μ : am_M} {nx : am_K} {jp : am_J} {Q : am_Q} {x : Nat} : am_st E pc (.astore_n 2) L (.ref x :: S) μ nx jp Q = (2 < am_nL E ∧ nx (am_sto L 2 (.ref x)) S μ) := Eq.trans rfl rfl
theorem s_aload_3 {E : am_E} {pc : Nat} {L S : List Value} {μ : am_M} {nx : am_K} {jp : am_J} {Q : am_Q}  : am_st E pc (.aload_n 3) L S μ nx jp Q = (am_lR L 3 fun k => nx L (.ref k :: S) μ) := Eq.trans rfl rfl
theorem s_iload_3 {E : am_E} {pc : Nat} {L S : List Value} {μ : am_M} {nx : am_K} {jp : am_J} {Q : am_Q}  : am_st E pc (.iload_n 3) L S μ nx jp Q = (am_lI L 3 fun k => nx L (.int k :: S) μ) := Eq.trans rfl rfl
theorem s_lload_3 {E : am_E} {pc : Nat} {L S : List Value} {μ : am_M} {nx : am_K} {jp : am_J} {Q : am_Q}  : am_st E pc (.lload_n 3) L S μ nx jp Q = (am_lL L 3 fun k => nx L (.long k :: S) μ) := Eq.trans rfl rfl
theorem s_istore_3 {E : am_E} {pc : Nat} {L S : List Value} {μ : am_M} {nx : am_K} {jp : am_J} {Q : am_Q} {x : Int32} : am_st E pc (.istore_n 3) L (.int x :: S) μ nx jp Q = (3 < am_nL E ∧ nx (am_sto L 3 (.int x)) S μ) := Eq.trans rfl rfl
theorem s_lstore_3 {E : am_E} {pc : Nat} {L S : List Value} {μ : am_M} {nx : am_K} {jp : am_J} {Q : am_Q} {x : Int64} : am_st E pc (.lstore_n 3) L (.long x :: S) μ nx jp Q = (3 + 1 < am_nL E ∧ nx (am_stL L 3 x) S μ) := Eq.trans rfl rfl
theorem s_astore_3 {E : am_E} {pc : Nat} {L S : List Value} {μ : am_M} {nx : am_K} {jp : am_J} {Q : am_Q} {x : Nat} : am_st E pc (.astore_n 3) L (.ref x :: S) μ nx jp Q = (3 < am_nL E ∧ nx (am_sto L 3 (.ref x)) S μ) := Eq.trans rfl rfl
theorem s_aload {E : am_E} {pc : Nat} {L S : List Value} {μ : am_M} {nx : am_K} {jp : am_J} {Q : am_Q} {i : Nat} : am_st E pc (.aload i) L S μ nx jp Q = (am_lR L i fun k => nx L (.ref k :: S) μ) := Eq.trans rfl rfl
theorem s_iload {E : am_E} {pc : Nat} {L S : List Value} {μ : am_M} {nx : am_K} {jp : am_J} {Q : am_Q} {i : Nat} : am_st E pc (.iload i) L S μ nx jp Q = (am_lI L i fun k => nx L (.int k :: S) μ) := Eq.trans rfl rfl
theorem s_lload {E : am_E} {pc : Nat} {L S : List Value} {μ : am_M} {nx : am_K} {jp : am_J} {Q : am_Q} {i : Nat} : am_st E pc (.lload i) L S μ nx jp Q = (am_lL L i fun k => nx L (.long k :: S) μ) := Eq.trans rfl rfl
theorem s_istore {E : am_E} {pc : Nat} {L S : List Value} {μ : am_M} {nx : am_K} {jp : am_J} {Q : am_Q} {i : Nat} {x : Int32} : am_st E pc (.istore i) L (.int x :: S) μ nx jp Q = (i < am_nL E ∧ nx (am_sto L i (.int x)) S μ) := Eq.trans rfl rfl
theorem s_lstore {E : am_E} {pc : Nat} {L S : List Value} {μ : am_M} {nx : am_K} {jp : am_J} {Q : am_Q} {i : Nat} {x : Int64} : am_st E pc (.lstore i) L (.long x :: S) μ nx jp Q = (i + 1 < am_nL E ∧ nx (am_stL L i x) S μ) := Eq.trans rfl rfl
theorem s_astore {E : am_E} {pc : Nat} {L S : List Value} {μ : am_M} {nx : am_K} {jp : am_J} {Q : am_Q} {i : Nat} {x : Nat} : am_st E pc (.astore i) L (.ref x :: S) μ nx jp Q = (i < am_nL E ∧ nx (am_sto L i (.ref x)) S μ) := Eq.trans rfl rfl
theorem s_iconst {E : am_E} {pc : Nat} {L S : List Value} {μ : am_M} {nx : am_K} {jp : am_J} {Q : am_Q} {i : Int} : am_st E pc (.iconst i) L S μ nx jp Q = (nx L (.int (Int32.ofInt i) :: S) μ) := Eq.trans rfl rfl
theorem s_bipush {E : am_E} {pc : Nat} {L S : List Value} {μ : am_M} {nx : am_K} {jp : am_J} {Q : am_Q} {i : Int} : am_st E pc (.bipush i) L S μ nx jp Q = (nx L (.int (Int8.ofInt i).toInt32 :: S) μ) := Eq.trans rfl rfl
theorem s_sipush {E : am_E} {pc : Nat} {L S : List Value} {μ : am_M} {nx : am_K} {jp : am_J} {Q : am_Q} {i : Int} : am_st E pc (.sipush i) L S μ nx jp Q = (nx L (.int (Int16.ofInt i).toInt32 :: S) μ) := Eq.trans rfl rfl
theorem s_lconst_0 {E : am_E} {pc : Nat} {L S : List Value} {μ : am_M} {nx : am_K} {jp : am_J} {Q : am_Q}  : am_st E pc (.lconst 0) L S μ nx jp Q = (nx L (.long 0 :: S) μ) := Eq.trans rfl rfl
theorem s_lconst_1 {E : am_E} {pc : Nat} {L S : List Value} {μ : am_M} {nx : am_K} {jp : am_J} {Q : am_Q}  : am_st E pc (.lconst 1) L S μ nx jp Q = (nx L (.long 1 :: S) μ) := Eq.trans rfl rfl
theorem s_iinc {E : am_E} {pc : Nat} {L S : List Value} {μ : am_M} {nx : am_K} {jp : am_J} {Q : am_Q} {i : Nat} {n : Int} : am_st E pc (.iinc i n) L S μ nx jp Q = (am_lI L i fun x => i < am_nL E ∧ nx (am_sto L i (.int (x + Int32.ofInt n))) S μ) := Eq.trans rfl rfl
theorem s_iadd {E : am_E} {pc : Nat} {L S : List Value} {μ : am_M} {nx : am_K} {jp : am_J} {Q : am_Q} {x y : Int32} : am_st E pc (.iadd) L (.int y :: .int x :: S) μ nx jp Q = (nx L (.int (x + y) :: S) μ) := Eq.trans rfl rfl
theorem s_isub {E : am_E} {pc : Nat} {L S : List Value} {μ : am_M} {nx : am_K} {jp : am_J} {Q : am_Q} {x y : Int32} : am_st E pc (.isub) L (.int y :: .int x :: S) μ nx jp Q = (nx L (.int (x - y) :: S) μ) := Eq.trans rfl rfl
theorem s_imul {E : am_E} {pc : Nat} {L S : List Value} {μ : am_M} {nx : am_K} {jp : am_J} {Q : am_Q} {x y : Int32} : am_st E pc (.imul) L (.int y :: .int x :: S) μ nx jp Q = (nx L (.int (x * y) :: S) μ) := Eq.trans rfl rfl
theorem s_iand {E : am_E} {pc : Nat} {L S : List Value} {μ : am_M} {nx : am_K} {jp : am_J} {Q : am_Q} {x y : Int32} : am_st E pc (.iand) L (.int y :: .int x :: S) μ nx jp Q = (nx L (.int (x &&& y) :: S) μ) := Eq.trans rfl rfl
theorem s_ior {E : am_E} {pc : Nat} {L S : List Value} {μ : am_M} {nx : am_K} {jp : am_J} {Q : am_Q} {x y : Int32} : am_st E pc (.ior) L (.int y :: .int x :: S) μ nx jp Q = (nx L (.int (x ||| y) :: S) μ) := Eq.trans rfl rfl
theorem s_ixor {E : am_E} {pc : Nat} {L S : List Value} {μ : am_M} {nx : am_K} {jp : am_J} {Q : am_Q} {x y : Int32} : am_st E pc (.ixor) L (.int y :: .int x :: S) μ nx jp Q = (nx L (.int (x ^^^ y) :: S) μ) := Eq.trans rfl rfl
theorem s_ishl {E : am_E} {pc : Nat} {L S : List Value} {μ : am_M} {nx : am_K} {jp : am_J} {Q : am_Q} {x y : Int32} : am_st E pc (.ishl) L (.int y :: .int x :: S) μ nx jp Q = (nx L (.int (x <<< (y &&& 31)) :: S) μ) := Eq.trans rfl rfl
theorem s_ishr {E : am_E} {pc : Nat} {L S : List Value} {μ : am_M} {nx : am_K} {jp : am_J} {Q : am_Q} {x y : Int32} : am_st E pc (.ishr) L (.int y :: .int x :: S) μ nx jp Q = (nx L (.int (x >>> (y &&& 31)) :: S) μ) := Eq.trans rfl rfl
theorem s_iushr {E : am_E} {pc : Nat} {L S : List Value} {μ : am_M} {nx : am_K} {jp : am_J} {Q : am_Q} {x y : Int32} : am_st E pc (.iushr) L (.int y :: .int x :: S) μ nx jp Q = (nx L (.int (x.toUInt32 >>> (y.toUInt32 &&& Int32.toUInt32 31)).toInt32 :: S) μ) := Eq.trans rfl rfl
theorem s_idiv {E : am_E} {pc : Nat} {L S : List Value} {μ : am_M} {nx : am_K} {jp : am_J} {Q : am_Q} {x y : Int32} : am_st E pc (.idiv) L (.int y :: .int x :: S) μ nx jp Q = (¬ y = 0 ∧ nx L (.int (x / y) :: S) μ) := Eq.trans rfl rfl
theorem s_irem {E : am_E} {pc : Nat} {L S : List Value} {μ : am_M} {nx : am_K} {jp : am_J} {Q : am_Q} {x y : Int32} : am_st E pc (.irem) L (.int y :: .int x :: S) μ nx jp Q = (¬ y = 0 ∧ nx L (.int (x - x / y * y) :: S) μ) := Eq.trans rfl rfl
theorem s_ladd {E : am_E} {pc : Nat} {L S : List Value} {μ : am_M} {nx : am_K} {jp : am_J} {Q : am_Q} {x y : Int64} : am_st E pc (.ladd) L (.long y :: .long x :: S) μ nx jp Q = (nx L (.long (x + y) :: S) μ) := Eq.trans rfl rfl
theorem s_lsub {E : am_E} {pc : Nat} {L S : List Value} {μ : am_M} {nx : am_K} {jp : am_J} {Q : am_Q} {x y : Int64} : am_st E pc (.lsub) L (.long y :: .long x :: S) μ nx jp Q = (nx L (.long (x - y) :: S) μ) := Eq.trans rfl rfl
theorem s_lmul {E : am_E} {pc : Nat} {L S : List Value} {μ : am_M} {nx : am_K} {jp : am_J} {Q : am_Q} {x y : Int64} : am_st E pc (.lmul) L (.long y :: .long x :: S) μ nx jp Q = (nx L (.long (x * y) :: S) μ) := Eq.trans rfl rfl
theorem s_ldiv {E : am_E} {pc : Nat} {L S : List Value} {μ : am_M} {nx : am_K} {jp : am_J} {Q : am_Q} {x y : Int64} : am_st E pc (.ldiv) L (.long y :: .long x :: S) μ nx jp Q = (¬ y = 0 ∧ nx L (.long (x / y) :: S) μ) := Eq.trans rfl rfl
theorem s_lrem {E : am_E} {pc : Nat} {L S : List Value} {μ : am_M} {nx : am_K} {jp : am_J} {Q : am_Q} {x y : Int64} : am_st E pc (.lrem) L (.long y :: .long x :: S) μ nx jp Q = (¬ y = 0 ∧ nx L (.long (x - x / y * y) :: S) μ) := Eq.trans rfl rfl
theorem s_lcmp {E : am_E} {pc : Nat} {L S : List Value} {μ : am_M} {nx : am_K} {jp : am_J} {Q : am_Q} {x y : Int64} : am_st E pc (.lcmp) L (.long y :: .long x :: S) μ nx jp Q = (nx L (.int (lg_cmp x y) :: S) μ) := Eq.trans rfl rfl
theorem s_i2l {E : am_E} {pc : Nat} {L S : List Value} {μ : am_M} {nx : am_K} {jp : am_J} {Q : am_Q} {x : Int32} : am_st E pc (.i2l) L (.int x :: S) μ nx jp Q = (nx L (.long x.toInt64 :: S) μ) := Eq.trans rfl rfl
theorem s_l2i {E : am_E} {pc : Nat} {L S : List Value} {μ : am_M} {nx : am_K} {jp : am_J} {Q : am_Q} {x : Int64} : am_st E pc (.l2i) L (.long x :: S) μ nx jp Q = (nx L (.int x.toInt32 :: S) μ) := Eq.trans rfl rfl
theorem s_i2b {E : am_E} {pc : Nat} {L S : List Value} {μ : am_M} {nx : am_K} {jp : am_J} {Q : am_Q} {x : Int32} : am_st E pc (.i2b) L (.int x :: S) μ nx jp Q = (nx L (.int x.toInt8.toInt32 :: S) μ) := Eq.trans rfl rfl
theorem s_i2s {E : am_E} {pc : Nat} {L S : List Value} {μ : am_M} {nx : am_K} {jp : am_J} {Q : am_Q} {x : Int32} : am_st E pc (.i2s) L (.int x :: S) μ nx jp Q = (nx L (.int x.toInt16.toInt32 :: S) μ) := Eq.trans rfl rfl
theorem s_i2c {E : am_E} {pc : Nat} {L S : List Value} {μ : am_M} {nx : am_K} {jp : am_J} {Q : am_Q} {x : Int32} : am_st E pc (.i2c) L (.int x :: S) μ nx jp Q = (nx L (.int (x.toUInt32 % 65536).toInt32 :: S) μ) := Eq.trans rfl rfl
theorem s_dupI {E : am_E} {pc : Nat} {L S : List Value} {μ : am_M} {nx : am_K} {jp : am_J} {Q : am_Q} {x : Int32} : am_st E pc (.dup) L (.int x :: S) μ nx jp Q = ((1 : Nat) = 1 ∧ nx L (.int x :: .int x :: S) μ) := Eq.trans rfl rfl
theorem s_dupR {E : am_E} {pc : Nat} {L S : List Value} {μ : am_M} {nx : am_K} {jp : am_J} {Q : am_Q} {x : Nat} : am_st E pc (.dup) L (.ref x :: S) μ nx jp Q = ((1 : Nat) = 1 ∧ nx L (.ref x :: .ref x :: S) μ) := Eq.trans rfl rfl
theorem s_dup2IR {E : am_E} {pc : Nat} {L S : List Value} {μ : am_M} {nx : am_K} {jp : am_J} {Q : am_Q} {x : Int32} {y : Nat} : am_st E pc (.dup2) L (.int x :: .ref y :: S) μ nx jp Q = ((1 : Nat) = 1 ∧ (1 : Nat) = 1 ∧ nx L (.int x :: .ref y :: .int x :: .ref y :: S) μ) := Eq.trans rfl rfl
theorem s_dupx1 {E : am_E} {pc : Nat} {L S : List Value} {μ : am_M} {nx : am_K} {jp : am_J} {Q : am_Q} {x : Int32} {y : Nat} : am_st E pc (.dup_x1) L (.int x :: .ref y :: S) μ nx jp Q = ((1 : Nat) = 1 ∧ (1 : Nat) = 1 ∧ nx L (.int x :: .ref y :: .int x :: S) μ) := Eq.trans rfl rfl
theorem s_popI {E : am_E} {pc : Nat} {L S : List Value} {μ : am_M} {nx : am_K} {jp : am_J} {Q : am_Q} {x : Int32} : am_st E pc (.pop) L (.int x :: S) μ nx jp Q = ((1 : Nat) = 1 ∧ nx L S μ) := Eq.trans rfl rfl
theorem s_if_eq {E : am_E} {pc : Nat} {L S : List Value} {μ : am_M} {nx : am_K} {jp : am_J} {Q : am_Q} {x : Int32} {off : Int} : am_st E pc (.ifCond .eq off) L (.int x :: S) μ nx jp Q = ((x = 0 → jp (am_tg pc off) L S μ) ∧ (¬ (x = 0) → nx L S μ)) := Eq.trans rfl rfl
theorem s_if_ne {E : am_E} {pc : Nat} {L S : List Value} {μ : am_M} {nx : am_K} {jp : am_J} {Q : am_Q} {x : Int32} {off : Int} : am_st E pc (.ifCond .ne off) L (.int x :: S) μ nx jp Q = ((¬ x = 0 → jp (am_tg pc off) L S μ) ∧ (¬ (¬ x = 0) → nx L S μ)) := Eq.trans rfl rfl
theorem s_if_lt {E : am_E} {pc : Nat} {L S : List Value} {μ : am_M} {nx : am_K} {jp : am_J} {Q : am_Q} {x : Int32} {off : Int} : am_st E pc (.ifCond .lt off) L (.int x :: S) μ nx jp Q = ((x < 0 → jp (am_tg pc off) L S μ) ∧ (¬ (x < 0) → nx L S μ)) := Eq.trans rfl rfl
theorem s_if_ge {E : am_E} {pc : Nat} {L S : List Value} {μ : am_M} {nx : am_K} {jp : am_J} {Q : am_Q} {x : Int32} {off : Int} : am_st E pc (.ifCond .ge off) L (.int x :: S) μ nx jp Q = ((0 ≤ x → jp (am_tg pc off) L S μ) ∧ (¬ (0 ≤ x) → nx L S μ)) := Eq.trans rfl rfl
theorem s_if_gt {E : am_E} {pc : Nat} {L S : List Value} {μ : am_M} {nx : am_K} {jp : am_J} {Q : am_Q} {x : Int32} {off : Int} : am_st E pc (.ifCond .gt off) L (.int x :: S) μ nx jp Q = ((0 < x → jp (am_tg pc off) L S μ) ∧ (¬ (0 < x) → nx L S μ)) := Eq.trans rfl rfl
theorem s_if_le {E : am_E} {pc : Nat} {L S : List Value} {μ : am_M} {nx : am_K} {jp : am_J} {Q : am_Q} {x : Int32} {off : Int} : am_st E pc (.ifCond .le off) L (.int x :: S) μ nx jp Q = ((x ≤ 0 → jp (am_tg pc off) L S μ) ∧ (¬ (x ≤ 0) → nx L S μ)) := Eq.trans rfl rfl
theorem s_cmp_eq {E : am_E} {pc : Nat} {L S : List Value} {μ : am_M} {nx : am_K} {jp : am_J} {Q : am_Q} {x y : Int32} {off : Int} : am_st E pc (.if_icmp .eq off) L (.int y :: .int x :: S) μ nx jp Q = ((x = y → jp (am_tg pc off) L S μ) ∧ (¬ (x = y) → nx L S μ)) := Eq.trans rfl rfl
theorem s_cmp_ne {E : am_E} {pc : Nat} {L S : List Value} {μ : am_M} {nx : am_K} {jp : am_J} {Q : am_Q} {x y : Int32} {off : Int} : am_st E pc (.if_icmp .ne off) L (.int y :: .int x :: S) μ nx jp Q = ((¬ x = y → jp (am_tg pc off) L S μ) ∧ (¬ (¬ x = y) → nx L S μ)) := Eq.trans rfl rfl
theorem s_cmp_lt {E : am_E} {pc : Nat} {L S : List Value} {μ : am_M} {nx : am_K} {jp : am_J} {Q : am_Q} {x y : Int32} {off : Int} : am_st E pc (.if_icmp .lt off) L (.int y :: .int x :: S) μ nx jp Q = ((x < y → jp (am_tg pc off) L S μ) ∧ (¬ (x < y) → nx L S μ)) := Eq.trans rfl rfl
theorem s_cmp_ge {E : am_E} {pc : Nat} {L S : List Value} {μ : am_M} {nx : am_K} {jp : am_J} {Q : am_Q} {x y : Int32} {off : Int} : am_st E pc (.if_icmp .ge off) L (.int y :: .int x :: S) μ nx jp Q = ((y ≤ x → jp (am_tg pc off) L S μ) ∧ (¬ (y ≤ x) → nx L S μ)) := Eq.trans rfl rfl
theorem s_cmp_gt {E : am_E} {pc : Nat} {L S : List Value} {μ : am_M} {nx : am_K} {jp : am_J} {Q : am_Q} {x y : Int32} {off : Int} : am_st E pc (.if_icmp .gt off) L (.int y :: .int x :: S) μ nx jp Q = ((y < x → jp (am_tg pc off) L S μ) ∧ (¬ (y < x) → nx L S μ)) := Eq.trans rfl rfl
theorem s_cmp_le {E : am_E} {pc : Nat} {L S : List Value} {μ : am_M} {nx : am_K} {jp : am_J} {Q : am_Q} {x y : Int32} {off : Int} : am_st E pc (.if_icmp .le off) L (.int y :: .int x :: S) μ nx jp Q = ((x ≤ y → jp (am_tg pc off) L S μ) ∧ (¬ (x ≤ y) → nx L S μ)) := Eq.trans rfl rfl
theorem s_goto {E : am_E} {pc : Nat} {L S : List Value} {μ : am_M} {nx : am_K} {jp : am_J} {Q : am_Q} {off : Int} : am_st E pc (.goto off) L S μ nx jp Q = (jp (am_tg pc off) L S μ) := Eq.trans rfl rfl
theorem s_tsw {E : am_E} {pc : Nat} {L S : List Value} {μ : am_M} {nx : am_K} {jp : am_J} {Q : am_Q} {x : Int32} {dflt lo hi : Int} {offs : Array Int} : am_st E pc (.tableswitch dflt lo hi offs) L (.int x :: S) μ nx jp Q = (am_tsd x (jp (am_tg pc dflt) L S μ) lo offs.toList ∧ am_tsw pc x (fun t => jp t L S μ) lo offs.toList) := Eq.trans rfl rfl
theorem s_iaload {E : am_E} {pc : Nat} {L S : List Value} {μ : am_M} {nx : am_K} {jp : am_J} {Q : am_Q} {i : Int32} {k : Nat} : am_st E pc (.iaload) L (.int i :: .ref k :: S) μ nx jp Q = (am_ial μ k i fun x => nx L (.int x :: S) μ) := Eq.trans rfl rfl
theorem s_baload {E : am_E} {pc : Nat} {L S : List Value} {μ : am_M} {nx : am_K} {jp : am_J} {Q : am_Q} {i : Int32} {k : Nat} : am_st E pc (.baload) L (.int i :: .ref k :: S) μ nx jp Q = (am_bal μ k i fun x => nx L (.int x :: S) μ) := Eq.trans rfl rfl
theorem s_caload {E : am_E} {pc : Nat} {L S : List Value} {μ : am_M} {nx : am_K} {jp : am_J} {Q : am_Q} {i : Int32} {k : Nat} : am_st E pc (.caload) L (.int i :: .ref k :: S) μ nx jp Q = ((am_sh k).1 = 12 ∧ vp_in i (am_sh k).2 ∧ nx L (.int (μ.1 k i.toNatClampNeg) :: S) μ) := Eq.trans rfl rfl
theorem s_aaload {E : am_E} {pc : Nat} {L S : List Value} {μ : am_M} {nx : am_K} {jp : am_J} {Q : am_Q} {i : Int32} {k : Nat} : am_st E pc (.aaload) L (.int i :: .ref k :: S) μ nx jp Q = (((am_sh k).1 = 13 ∨ (am_sh k).1 = 14) ∧ vp_in i (am_sh k).2 ∧ nx L (.ref (am_rf k i.toNatClampNeg) :: S) μ) := Eq.trans rfl rfl
theorem s_iastore {E : am_E} {pc : Nat} {L S : List Value} {μ : am_M} {nx : am_K} {jp : am_J} {Q : am_Q} {x i : Int32} {k : Nat} : am_st E pc (.iastore) L (.int x :: .int i :: .ref k :: S) μ nx jp Q = ((am_sh k).1 = 10 ∧ vp_in i (am_sh k).2 ∧ nx L S (am_set μ k i.toNatClampNeg x)) := Eq.trans rfl rfl
theorem s_bastore {E : am_E} {pc : Nat} {L S : List Value} {μ : am_M} {nx : am_K} {jp : am_J} {Q : am_Q} {x i : Int32} {k : Nat} : am_st E pc (.bastore) L (.int x :: .int i :: .ref k :: S) μ nx jp Q = ((am_sh k).1 = 11 ∧ vp_in i (am_sh k).2 ∧ nx L S (am_set μ k i.toNatClampNeg (vp_nar .byte x))) := Eq.trans rfl rfl
theorem s_alen {E : am_E} {pc : Nat} {L S : List Value} {μ : am_M} {nx : am_K} {jp : am_J} {Q : am_Q} {k : Nat} : am_st E pc (.arraylength) L (.ref k :: S) μ nx jp Q = (am_aln μ k fun x => nx L (.int x :: S) μ) := Eq.trans rfl rfl
theorem s_ireturn {E : am_E} {pc : Nat} {L : List Value} {μ : am_M} {nx : am_K} {jp : am_J} {Q : am_Q} {x : Int32} : am_st E pc (.ireturn) L [.int x] μ nx jp Q = (narrow (am_rt E) (.int x) = .int x ∧ Q (some (.int x)) μ) := Eq.trans rfl rfl
theorem s_lreturn {E : am_E} {pc : Nat} {L : List Value} {μ : am_M} {nx : am_K} {jp : am_J} {Q : am_Q} {x : Int64} : am_st E pc (.lreturn) L [.long x] μ nx jp Q = (Q (some (.long x)) μ) := Eq.trans rfl rfl
theorem s_return {E : am_E} {pc : Nat} {L : List Value} {μ : am_M} {nx : am_K} {jp : am_J} {Q : am_Q}  : am_st E pc (.return_) L [] μ nx jp Q = (Q none μ) := Eq.trans rfl rfl
theorem am_lI_0 {x : Int32} {L : List Value} {k : Int32 → Prop} : am_lI (.int x :: L) 0 k = k x := Eq.trans rfl rfl
theorem am_lI_S {v : Value} {i : Nat} {L : List Value} {k : Int32 → Prop} : am_lI (v :: L) (i + 1) k = am_lI L i k := Eq.trans rfl rfl
theorem am_lL_0 {x : Int64} {L : List Value} {k : Int64 → Prop} : am_lL (.long x :: L) 0 k = k x := Eq.trans rfl rfl
theorem am_lL_S {v : Value} {i : Nat} {L : List Value} {k : Int64 → Prop} : am_lL (v :: L) (i + 1) k = am_lL L i k := Eq.trans rfl rfl
theorem am_lR_0 {x : Nat} {L : List Value} {k : Nat → Prop} : am_lR (.ref x :: L) 0 k = k x := Eq.trans rfl rfl
theorem am_lR_S {v : Value} {i : Nat} {L : List Value} {k : Nat → Prop} : am_lR (v :: L) (i + 1) k = am_lR L i k := Eq.trans rfl rfl
theorem am_sto_0 {v w : Value} {L : List Value} : am_sto (w :: L) 0 v = v :: L := Eq.trans rfl rfl
theorem am_sto_1I {v w : Value} {x : Int32} {L : List Value} : am_sto (.int x :: w :: L) 1 v = .int x :: v :: L := Eq.trans rfl rfl
theorem am_sto_1R {v w : Value} {x : Nat} {L : List Value} : am_sto (.ref x :: w :: L) 1 v = .ref x :: v :: L := Eq.trans rfl rfl
theorem am_sto_1N {v w : Value} {L : List Value} : am_sto (.null :: w :: L) 1 v = .null :: v :: L := Eq.trans rfl rfl
theorem am_sto_1L {v w : Value} {x : Int64} {L : List Value} : am_sto (.long x :: w :: L) 1 v = .null :: v :: L := Eq.trans rfl rfl
theorem am_sto_S {v w : Value} {j : Nat} {L : List Value} : am_sto (w :: L) (j + 2) v = w :: am_sto L (j + 1) v := by
  unfold am_sto
  simp only [List.getElem?_cons_succ]
  split <;> rfl
theorem am_stL_d {L : List Value} {i : Nat} {x : Int64} : am_stL L i x = (am_sto L i (.long x)).set (i + 1) .null := Eq.trans rfl rfl
theorem am_blk_0 {E : am_E} {gt : am_J} {Q : am_Q} {pc : Nat} {L S : List Value} {μ : am_M} : am_blk E gt Q [] pc L S μ = gt pc L S μ := Eq.trans rfl rfl
theorem am_blk_1 {E : am_E} {gt : am_J} {Q : am_Q} {ins : Instr} {r : List Instr} {pc : Nat} {L S : List Value} {μ : am_M} : am_blk E gt Q (ins :: r) pc L S μ = am_st E pc ins L S μ (am_blk E gt Q r (pc + am_ln ins)) gt Q := Eq.trans rfl rfl
theorem am_ln_aload_n {n : Fin 4} : am_ln (.aload_n n) = 1 := Eq.trans rfl rfl
theorem am_ln_iload_n {n : Fin 4} : am_ln (.iload_n n) = 1 := Eq.trans rfl rfl
theorem am_ln_lload_n {n : Fin 4} : am_ln (.lload_n n) = 1 := Eq.trans rfl rfl
theorem am_ln_istore_n {n : Fin 4} : am_ln (.istore_n n) = 1 := Eq.trans rfl rfl
theorem am_ln_lstore_n {n : Fin 4} : am_ln (.lstore_n n) = 1 := Eq.trans rfl rfl
theorem am_ln_astore_n {n : Fin 4} : am_ln (.astore_n n) = 1 := Eq.trans rfl rfl
theorem am_ln_iconst {j : Int} : am_ln (.iconst j) = 1 := Eq.trans rfl rfl
theorem am_ln_lconst {n2 : Fin 2} : am_ln (.lconst n2) = 1 := Eq.trans rfl rfl
theorem am_ln_iadd : am_ln (.iadd) = 1 := Eq.trans rfl rfl
theorem am_ln_isub : am_ln (.isub) = 1 := Eq.trans rfl rfl
theorem am_ln_imul : am_ln (.imul) = 1 := Eq.trans rfl rfl
theorem am_ln_idiv : am_ln (.idiv) = 1 := Eq.trans rfl rfl
theorem am_ln_irem : am_ln (.irem) = 1 := Eq.trans rfl rfl
theorem am_ln_iand : am_ln (.iand) = 1 := Eq.trans rfl rfl
theorem am_ln_ior : am_ln (.ior) = 1 := Eq.trans rfl rfl
theorem am_ln_ixor : am_ln (.ixor) = 1 := Eq.trans rfl rfl
theorem am_ln_ishl : am_ln (.ishl) = 1 := Eq.trans rfl rfl
theorem am_ln_ishr : am_ln (.ishr) = 1 := Eq.trans rfl rfl
theorem am_ln_iushr : am_ln (.iushr) = 1 := Eq.trans rfl rfl
theorem am_ln_ladd : am_ln (.ladd) = 1 := Eq.trans rfl rfl
theorem am_ln_lsub : am_ln (.lsub) = 1 := Eq.trans rfl rfl
theorem am_ln_lmul : am_ln (.lmul) = 1 := Eq.trans rfl rfl
theorem am_ln_ldiv : am_ln (.ldiv) = 1 := Eq.trans rfl rfl
theorem am_ln_lrem : am_ln (.lrem) = 1 := Eq.trans rfl rfl
theorem am_ln_lcmp : am_ln (.lcmp) = 1 := Eq.trans rfl rfl
theorem am_ln_i2l : am_ln (.i2l) = 1 := Eq.trans rfl rfl
theorem am_ln_l2i : am_ln (.l2i) = 1 := Eq.trans rfl rfl
theorem am_ln_i2b : am_ln (.i2b) = 1 := Eq.trans rfl rfl
theorem am_ln_i2s : am_ln (.i2s) = 1 := Eq.trans rfl rfl
theorem am_ln_i2c : am_ln (.i2c) = 1 := Eq.trans rfl rfl
theorem am_ln_dup : am_ln (.dup) = 1 := Eq.trans rfl rfl
theorem am_ln_dup2 : am_ln (.dup2) = 1 := Eq.trans rfl rfl
theorem am_ln_dup_x1 : am_ln (.dup_x1) = 1 := Eq.trans rfl rfl
theorem am_ln_pop : am_ln (.pop) = 1 := Eq.trans rfl rfl
theorem am_ln_iaload : am_ln (.iaload) = 1 := Eq.trans rfl rfl
theorem am_ln_iastore : am_ln (.iastore) = 1 := Eq.trans rfl rfl
theorem am_ln_baload : am_ln (.baload) = 1 := Eq.trans rfl rfl
theorem am_ln_bastore : am_ln (.bastore) = 1 := Eq.trans rfl rfl
theorem am_ln_caload : am_ln (.caload) = 1 := Eq.trans rfl rfl
theorem am_ln_aaload : am_ln (.aaload) = 1 := Eq.trans rfl rfl
theorem am_ln_arraylength : am_ln (.arraylength) = 1 := Eq.trans rfl rfl
theorem am_ln_ireturn : am_ln (.ireturn) = 1 := Eq.trans rfl rfl
theorem am_ln_lreturn : am_ln (.lreturn) = 1 := Eq.trans rfl rfl
theorem am_ln_return_ : am_ln (.return_) = 1 := Eq.trans rfl rfl
theorem am_ln_aload {i : Nat} : am_ln (.aload i) = 2 := Eq.trans rfl rfl
theorem am_ln_iload {i : Nat} : am_ln (.iload i) = 2 := Eq.trans rfl rfl
theorem am_ln_lload {i : Nat} : am_ln (.lload i) = 2 := Eq.trans rfl rfl
theorem am_ln_istore {i : Nat} : am_ln (.istore i) = 2 := Eq.trans rfl rfl
theorem am_ln_lstore {i : Nat} : am_ln (.lstore i) = 2 := Eq.trans rfl rfl
theorem am_ln_astore {i : Nat} : am_ln (.astore i) = 2 := Eq.trans rfl rfl
theorem am_ln_bipush {j : Int} : am_ln (.bipush j) = 2 := Eq.trans rfl rfl
theorem am_ln_ldc {i : Nat} : am_ln (.ldc i) = 2 := Eq.trans rfl rfl
theorem am_ln_sipush {j : Int} : am_ln (.sipush j) = 3 := Eq.trans rfl rfl
theorem am_ln_ldc_w {i : Nat} : am_ln (.ldc_w i) = 3 := Eq.trans rfl rfl
theorem am_ln_ldc2_w {i : Nat} : am_ln (.ldc2_w i) = 3 := Eq.trans rfl rfl
theorem am_ln_iinc {i : Nat} {j : Int} : am_ln (.iinc i j) = 3 := Eq.trans rfl rfl
theorem am_ln_ifCond {cd : ClassFile.Cond} {j : Int} : am_ln (.ifCond cd j) = 3 := Eq.trans rfl rfl
theorem am_ln_if_icmp {cd : ClassFile.Cond} {j : Int} : am_ln (.if_icmp cd j) = 3 := Eq.trans rfl rfl
theorem am_ln_goto {j : Int} : am_ln (.goto j) = 3 := Eq.trans rfl rfl
theorem am_ln_getfield {i : Nat} : am_ln (.getfield i) = 3 := Eq.trans rfl rfl
theorem am_ln_putfield {i : Nat} : am_ln (.putfield i) = 3 := Eq.trans rfl rfl
theorem am_ln_getstatic {i : Nat} : am_ln (.getstatic i) = 3 := Eq.trans rfl rfl
theorem am_ln_invokevirtual {i : Nat} : am_ln (.invokevirtual i) = 3 := Eq.trans rfl rfl
theorem am_ln_invokestatic {i : Nat} : am_ln (.invokestatic i) = 3 := Eq.trans rfl rfl
theorem am_csum_0 : am_csum [] = 0 := Eq.trans rfl rfl
theorem am_csum_I {x : Int32} {S : List Value} : am_csum (.int x :: S) = 1 + am_csum S := Eq.trans rfl rfl
theorem am_csum_R {x : Nat} {S : List Value} : am_csum (.ref x :: S) = 1 + am_csum S := Eq.trans rfl rfl
theorem am_csum_L {x : Int64} {S : List Value} : am_csum (.long x :: S) = 2 + am_csum S := Eq.trans rfl rfl
theorem k_im16 : Int32.ofInt (-16) = (-16) := by decide +kernel
theorem k_im8 : Int32.ofInt (-8) = (-8) := by decide +kernel
theorem k_im4 : Int32.ofInt (-4) = (-4) := by decide +kernel
theorem k_im2 : Int32.ofInt (-2) = (-2) := by decide +kernel
theorem k_im1 : Int32.ofInt (-1) = (-1) := by decide +kernel
theorem k_i0 : Int32.ofInt 0 = 0 := by decide +kernel
theorem k_i1 : Int32.ofInt 1 = 1 := by decide +kernel
theorem k_i2 : Int32.ofInt 2 = 2 := by decide +kernel
theorem k_i3 : Int32.ofInt 3 = 3 := by decide +kernel
theorem k_i4 : Int32.ofInt 4 = 4 := by decide +kernel
theorem k_i5 : Int32.ofInt 5 = 5 := by decide +kernel
theorem k_i6 : Int32.ofInt 6 = 6 := by decide +kernel
theorem k_i7 : Int32.ofInt 7 = 7 := by decide +kernel
theorem k_i8 : Int32.ofInt 8 = 8 := by decide +kernel
theorem k_i9 : Int32.ofInt 9 = 9 := by decide +kernel
theorem k_i10 : Int32.ofInt 10 = 10 := by decide +kernel
theorem k_i11 : Int32.ofInt 11 = 11 := by decide +kernel
theorem k_i12 : Int32.ofInt 12 = 12 := by decide +kernel
theorem k_i13 : Int32.ofInt 13 = 13 := by decide +kernel
theorem k_i14 : Int32.ofInt 14 = 14 := by decide +kernel
theorem k_i15 : Int32.ofInt 15 = 15 := by decide +kernel
theorem k_i16 : Int32.ofInt 16 = 16 := by decide +kernel
theorem k_i17 : Int32.ofInt 17 = 17 := by decide +kernel
theorem k_i18 : Int32.ofInt 18 = 18 := by decide +kernel
theorem k_i19 : Int32.ofInt 19 = 19 := by decide +kernel
theorem k_i20 : Int32.ofInt 20 = 20 := by decide +kernel
theorem k_i21 : Int32.ofInt 21 = 21 := by decide +kernel
theorem k_i22 : Int32.ofInt 22 = 22 := by decide +kernel
theorem k_i23 : Int32.ofInt 23 = 23 := by decide +kernel
theorem k_i24 : Int32.ofInt 24 = 24 := by decide +kernel
theorem k_i25 : Int32.ofInt 25 = 25 := by decide +kernel
theorem k_i26 : Int32.ofInt 26 = 26 := by decide +kernel
theorem k_i27 : Int32.ofInt 27 = 27 := by decide +kernel
theorem k_i28 : Int32.ofInt 28 = 28 := by decide +kernel
theorem k_i29 : Int32.ofInt 29 = 29 := by decide +kernel
theorem k_i30 : Int32.ofInt 30 = 30 := by decide +kernel
theorem k_i31 : Int32.ofInt 31 = 31 := by decide +kernel
theorem k_i32 : Int32.ofInt 32 = 32 := by decide +kernel
theorem k_i33 : Int32.ofInt 33 = 33 := by decide +kernel
theorem k_i34 : Int32.ofInt 34 = 34 := by decide +kernel
theorem k_i35 : Int32.ofInt 35 = 35 := by decide +kernel
theorem k_i36 : Int32.ofInt 36 = 36 := by decide +kernel
theorem k_i37 : Int32.ofInt 37 = 37 := by decide +kernel
theorem k_i38 : Int32.ofInt 38 = 38 := by decide +kernel
theorem k_i39 : Int32.ofInt 39 = 39 := by decide +kernel
theorem k_i40 : Int32.ofInt 40 = 40 := by decide +kernel
theorem k_i41 : Int32.ofInt 41 = 41 := by decide +kernel
theorem k_b6 : (Int8.ofInt 6).toInt32 = 6 := by decide +kernel
theorem k_b7 : (Int8.ofInt 7).toInt32 = 7 := by decide +kernel
theorem k_b8 : (Int8.ofInt 8).toInt32 = 8 := by decide +kernel
theorem k_b9 : (Int8.ofInt 9).toInt32 = 9 := by decide +kernel
theorem k_b10 : (Int8.ofInt 10).toInt32 = 10 := by decide +kernel
theorem k_b11 : (Int8.ofInt 11).toInt32 = 11 := by decide +kernel
theorem k_b12 : (Int8.ofInt 12).toInt32 = 12 := by decide +kernel
theorem k_b13 : (Int8.ofInt 13).toInt32 = 13 := by decide +kernel
theorem k_b14 : (Int8.ofInt 14).toInt32 = 14 := by decide +kernel
theorem k_b15 : (Int8.ofInt 15).toInt32 = 15 := by decide +kernel
theorem k_b16 : (Int8.ofInt 16).toInt32 = 16 := by decide +kernel
theorem k_b17 : (Int8.ofInt 17).toInt32 = 17 := by decide +kernel
theorem k_b18 : (Int8.ofInt 18).toInt32 = 18 := by decide +kernel
theorem k_b19 : (Int8.ofInt 19).toInt32 = 19 := by decide +kernel
theorem k_b20 : (Int8.ofInt 20).toInt32 = 20 := by decide +kernel
theorem k_b21 : (Int8.ofInt 21).toInt32 = 21 := by decide +kernel
theorem k_b22 : (Int8.ofInt 22).toInt32 = 22 := by decide +kernel
theorem k_b23 : (Int8.ofInt 23).toInt32 = 23 := by decide +kernel
theorem k_b24 : (Int8.ofInt 24).toInt32 = 24 := by decide +kernel
theorem k_b25 : (Int8.ofInt 25).toInt32 = 25 := by decide +kernel
theorem k_b26 : (Int8.ofInt 26).toInt32 = 26 := by decide +kernel
theorem k_b27 : (Int8.ofInt 27).toInt32 = 27 := by decide +kernel
theorem k_b28 : (Int8.ofInt 28).toInt32 = 28 := by decide +kernel
theorem k_b29 : (Int8.ofInt 29).toInt32 = 29 := by decide +kernel
theorem k_b30 : (Int8.ofInt 30).toInt32 = 30 := by decide +kernel
theorem k_b31 : (Int8.ofInt 31).toInt32 = 31 := by decide +kernel
theorem k_b32 : (Int8.ofInt 32).toInt32 = 32 := by decide +kernel
theorem k_b33 : (Int8.ofInt 33).toInt32 = 33 := by decide +kernel
theorem k_b34 : (Int8.ofInt 34).toInt32 = 34 := by decide +kernel
theorem k_b35 : (Int8.ofInt 35).toInt32 = 35 := by decide +kernel
theorem k_b36 : (Int8.ofInt 36).toInt32 = 36 := by decide +kernel
theorem k_b37 : (Int8.ofInt 37).toInt32 = 37 := by decide +kernel
theorem k_b38 : (Int8.ofInt 38).toInt32 = 38 := by decide +kernel
theorem k_b39 : (Int8.ofInt 39).toInt32 = 39 := by decide +kernel
theorem k_b40 : (Int8.ofInt 40).toInt32 = 40 := by decide +kernel
theorem k_b41 : (Int8.ofInt 41).toInt32 = 41 := by decide +kernel
theorem k_b42 : (Int8.ofInt 42).toInt32 = 42 := by decide +kernel
theorem k_b43 : (Int8.ofInt 43).toInt32 = 43 := by decide +kernel
theorem k_b44 : (Int8.ofInt 44).toInt32 = 44 := by decide +kernel
theorem k_b45 : (Int8.ofInt 45).toInt32 = 45 := by decide +kernel
theorem k_b46 : (Int8.ofInt 46).toInt32 = 46 := by decide +kernel
theorem k_b47 : (Int8.ofInt 47).toInt32 = 47 := by decide +kernel
theorem k_b48 : (Int8.ofInt 48).toInt32 = 48 := by decide +kernel
theorem k_b49 : (Int8.ofInt 49).toInt32 = 49 := by decide +kernel
theorem k_b50 : (Int8.ofInt 50).toInt32 = 50 := by decide +kernel
theorem k_b51 : (Int8.ofInt 51).toInt32 = 51 := by decide +kernel
theorem k_b52 : (Int8.ofInt 52).toInt32 = 52 := by decide +kernel
theorem k_b53 : (Int8.ofInt 53).toInt32 = 53 := by decide +kernel
theorem k_b54 : (Int8.ofInt 54).toInt32 = 54 := by decide +kernel
theorem k_b55 : (Int8.ofInt 55).toInt32 = 55 := by decide +kernel
theorem k_b56 : (Int8.ofInt 56).toInt32 = 56 := by decide +kernel
theorem k_b57 : (Int8.ofInt 57).toInt32 = 57 := by decide +kernel
theorem k_b58 : (Int8.ofInt 58).toInt32 = 58 := by decide +kernel
theorem k_b59 : (Int8.ofInt 59).toInt32 = 59 := by decide +kernel
theorem k_b60 : (Int8.ofInt 60).toInt32 = 60 := by decide +kernel
theorem k_b61 : (Int8.ofInt 61).toInt32 = 61 := by decide +kernel
theorem k_b62 : (Int8.ofInt 62).toInt32 = 62 := by decide +kernel
theorem k_b63 : (Int8.ofInt 63).toInt32 = 63 := by decide +kernel
theorem k_b66 : (Int8.ofInt 66).toInt32 = 66 := by decide +kernel
theorem k_b76 : (Int8.ofInt 76).toInt32 = 76 := by decide +kernel
theorem k_b97 : (Int8.ofInt 97).toInt32 = 97 := by decide +kernel
theorem k_b98 : (Int8.ofInt 98).toInt32 = 98 := by decide +kernel
theorem k_b99 : (Int8.ofInt 99).toInt32 = 99 := by decide +kernel
theorem k_b100 : (Int8.ofInt 100).toInt32 = 100 := by decide +kernel
theorem k_b101 : (Int8.ofInt 101).toInt32 = 101 := by decide +kernel
theorem k_b102 : (Int8.ofInt 102).toInt32 = 102 := by decide +kernel
theorem k_b103 : (Int8.ofInt 103).toInt32 = 103 := by decide +kernel
theorem k_b104 : (Int8.ofInt 104).toInt32 = 104 := by decide +kernel
theorem k_b105 : (Int8.ofInt 105).toInt32 = 105 := by decide +kernel
theorem k_b107 : (Int8.ofInt 107).toInt32 = 107 := by decide +kernel
theorem k_b108 : (Int8.ofInt 108).toInt32 = 108 := by decide +kernel
theorem k_b109 : (Int8.ofInt 109).toInt32 = 109 := by decide +kernel
theorem k_b110 : (Int8.ofInt 110).toInt32 = 110 := by decide +kernel
theorem k_b112 : (Int8.ofInt 112).toInt32 = 112 := by decide +kernel
theorem k_b114 : (Int8.ofInt 114).toInt32 = 114 := by decide +kernel
theorem k_b115 : (Int8.ofInt 115).toInt32 = 115 := by decide +kernel
theorem k_b116 : (Int8.ofInt 116).toInt32 = 116 := by decide +kernel
theorem k_b117 : (Int8.ofInt 117).toInt32 = 117 := by decide +kernel
theorem k_b120 : (Int8.ofInt 120).toInt32 = 120 := by decide +kernel
theorem k_b121 : (Int8.ofInt 121).toInt32 = 121 := by decide +kernel
theorem k_b122 : (Int8.ofInt 122).toInt32 = 122 := by decide +kernel
theorem k_s160 : (Int16.ofInt 160).toInt32 = 160 := by decide +kernel
theorem k_s200 : (Int16.ofInt 200).toInt32 = 200 := by decide +kernel
theorem k_s255 : (Int16.ofInt 255).toInt32 = 255 := by decide +kernel
theorem k_s256 : (Int16.ofInt 256).toInt32 = 256 := by decide +kernel
theorem k_s999 : (Int16.ofInt 999).toInt32 = 999 := by decide +kernel
theorem k_s2048 : (Int16.ofInt 2048).toInt32 = 2048 := by decide +kernel
theorem k_s4095 : (Int16.ofInt 4095).toInt32 = 4095 := by decide +kernel
theorem k_s9999 : (Int16.ofInt 9999).toInt32 = 9999 := by decide +kernel
theorem k_s10000 : (Int16.ofInt 10000).toInt32 = 10000 := by decide +kernel
theorem k_s12345 : (Int16.ofInt 12345).toInt32 = 12345 := by decide +kernel
theorem k_narI {x : Int32} : narrow .int (.int x) = .int x := Eq.trans rfl rfl
theorem k_narZ0 : narrow .boolean (.int 0) = .int 0 := by decide +kernel
theorem k_narZ1 : narrow .boolean (.int 1) = .int 1 := by decide +kernel
theorem k_ffalse {P : Prop} : (false = true → P) = True := by simp
theorem k_ts0 {x : Int32} {P : Prop} {v : Int} : am_tsd x P v [] = P := Eq.trans rfl rfl
theorem k_ts1 {x : Int32} {P : Prop} {v o : Int} {r : List Int} : am_tsd x P v (o :: r) = (¬ x = Int32.ofInt v → am_tsd x P (v + 1) r) := Eq.trans rfl rfl
theorem k_tw0 {pc : Nat} {x : Int32} {jp : Nat → Prop} {v : Int} : am_tsw pc x jp v [] = True := Eq.trans rfl rfl
theorem k_tw1 {pc : Nat} {x : Int32} {jp : Nat → Prop} {v o : Int} {r : List Int} : am_tsw pc x jp v (o :: r) = ((x = Int32.ofInt v → jp (am_tg pc o)) ∧ am_tsw pc x jp (v + 1) r) := Eq.trans rfl rfl
theorem k_rt {v : Value} {S : List Value} : (some v).toList ++ S = v :: S := Eq.trans rfl rfl
theorem k_rn {S : List Value} : (none : Option Value).toList ++ S = S := Eq.trans rfl rfl
theorem k_n2 : (¬ (2 : Int32) = 0) = True := by decide +kernel
theorem k_n3 : (¬ (3 : Int32) = 0) = True := by decide +kernel
theorem k_n4 : (¬ (4 : Int32) = 0) = True := by decide +kernel
theorem k_n5 : (¬ (5 : Int32) = 0) = True := by decide +kernel
theorem k_n6 : (¬ (6 : Int32) = 0) = True := by decide +kernel
theorem k_n7 : (¬ (7 : Int32) = 0) = True := by decide +kernel
theorem k_n8 : (¬ (8 : Int32) = 0) = True := by decide +kernel
theorem k_n9 : (¬ (9 : Int32) = 0) = True := by decide +kernel
theorem k_n10 : (¬ (10 : Int32) = 0) = True := by decide +kernel
theorem k_n12 : (¬ (12 : Int32) = 0) = True := by decide +kernel
theorem k_nn {P : Prop} : (¬ ¬ P) = P := by
  by_cases h : P <;> simp [h]
theorem k_z10 : ((1 : Int32) = 0) = False := by decide +kernel
