theorem am_inL {ws : List Cond} (ps : List Nat) (hp : ws = ps.filterMap (fun i => lw_tbl[i]?)) (hg : ws.all goodWord = true) : ∀ w ∈ ws, w ∈ am_tb := by
  intro w hw
  have h1 := List.all_eq_true.mp hg w hw
  rw [hp] at hw
  obtain ⟨i, -, hi⟩ := List.mem_filterMap.mp hw
  exact am_in i hi h1
theorem am_inX0 : ∀ w ∈ u_ws RX0 TX0 7, w ∈ am_tb := am_inL [112, 114, 116, 118, 120, 122, 124] (by decide +kernel) (by decide +kernel)
theorem am_inX1 : ∀ w ∈ u_ws RX1 TX1 7, w ∈ am_tb := am_inL [145, 147, 149, 151, 153, 155, 157] (by decide +kernel) (by decide +kernel)
theorem am_inX2 : ∀ w ∈ u_ws RX2 TX2 3, w ∈ am_tb := am_inL [200, 202, 204] (by decide +kernel) (by decide +kernel)
theorem am_inX3 : ∀ w ∈ u_ws RX3 TX3 6, w ∈ am_tb := am_inL [173, 175, 177, 179, 181, 183] (by decide +kernel) (by decide +kernel)
theorem am_inX4 : ∀ w ∈ u_ws RX4 TX4 7, w ∈ am_tb := am_inL [214, 216, 218, 220, 222, 224, 226] (by decide +kernel) (by decide +kernel)
theorem am_inX5 : ∀ w ∈ u_ws RX5 TX5 18, w ∈ am_tb := am_inL [775, 777, 779, 781, 783, 785, 787, 789, 791, 793, 795, 797, 799, 801, 803, 805, 807, 809] (by decide +kernel) (by decide +kernel)
theorem am_inC : ∀ (ci : Nat) (r : vw_C), am_cl[ci]? = some r → ∀ w ∈ u_ws r.1 r.2.1 r.2.2, w ∈ am_tb := by
  intro ci r h
  match ci, h with
  | 0, h => cases h; exact am_inX0
  | 1, h => cases h; exact am_inX1
  | 2, h => cases h; exact am_inX2
  | 3, h => cases h; exact am_inX3
  | 4, h => cases h; exact am_inX4
  | 5, h => cases h; exact am_inX5
  | k + 6, h => simp [am_cl] at h
def am_tyc (ci : Nat) : Nat → FieldType := match ci with
  | 0 => tyX0
  | 1 => tyX1
  | 2 => tyX2
  | 3 => tyX3
  | 4 => tyX4
  | _ => tyX5
theorem am_tyC : ∀ (ci : Nat) (r : vw_C), am_cl[ci]? = some r → (∀ k, k < r.2.2 → parseFieldDescriptor (r.2.1 k).2.2.1 = some (am_tyc ci k)) ∧ ∀ a, a < r.2.2 → ∀ b, b < r.2.2 → a ≠ b → (r.2.1 a).2.1 ≠ (r.2.1 b).2.1 := by
  intro ci r h
  match ci, h with
  | 0, h => cases h; exact ⟨tyX0_ok, nmX0⟩
  | 1, h => cases h; exact ⟨tyX1_ok, nmX1⟩
  | 2, h => cases h; exact ⟨tyX2_ok, nmX2⟩
  | 3, h => cases h; exact ⟨tyX3_ok, nmX3⟩
  | 4, h => cases h; exact ⟨tyX4_ok, nmX4⟩
  | 5, h => cases h; exact ⟨tyX5_ok, nmX5⟩
  | k + 6, h => simp [am_cl] at h
/-- an int's field isn't final and takes ints; a boolean's takes 0 and 1 -/
theorem am_fkC : ∀ (ci : Nat) (r : vw_C), am_cl[ci]? = some r → ∀ j, j < r.2.2 → am_fk ci j = 0 → (r.2.1 j).2.2.2 = false ∧ (am_tyc ci j = .int ∨ (am_tyc ci j = .boolean ∧ am_bz ci j = true)) := by
  intro ci r h
  match ci, h with
  | 0, h => cases h; decide +kernel
  | 1, h => cases h; decide +kernel
  | 2, h => cases h; decide +kernel
  | 3, h => cases h; decide +kernel
  | 4, h => cases h; decide +kernel
  | 5, h => cases h; decide +kernel
  | k + 6, h => simp [am_cl] at h
theorem am_shlt {k ci n : Nat} (h : am_sh k = (ci, n)) (hc : ci < 20) : k < 62 := am_lt (by rw [h]; exact hc)
def am_At (p : Program) (l : Launch) (e : Env) (R : Room) (s : State) (m : MethodId) (args : Array Value) (below : List Frame) (meth : Method) (c : Code) (cells slots : Nat) (Z : State → Prop) (g : am_G) (μ0 : am_M) (nL : Nat) : am_J := fun pc L S μ =>
  ∀ (H : Heap) (locs : List Loc) (ls : Array Slot), am_off μ0 μ → va_P (am_D g) am_cl (am_cw g μ) H → va_S (am_A g) s.heap H locs → lv_has ls nL (am_lv g L) → W p l e R s m args below meth c H locs cells slots Z (F0 m pc ls (S.map (am_cv g)))
/-- what stands at a method's entry -/
def am_Cx (p : Program) (s : State) (m : MethodId) (args : Array Value) (c : Code) (cc : ByteArray) (own : String) (E : am_E) (g : am_G) (μ0 : am_M) : Prop :=
  p.tables.exec = Jvm.exec ∧ c.code = cc ∧ s.vm.findClass own = some m.cls ∧ (∀ w ∈ am_tb, w.before args s = true) ∧ c.maxLocals = am_nL E ∧ am_SW g μ0 s
theorem am_pI_inv {S : List Value} {k : Int32 → List Value → Prop} (h : am_pI S k) : ∃ x S', S = .int x :: S' ∧ k x S' := by
  unfold am_pI at h
  split at h
  · exact ⟨_, _, rfl, h⟩
  · exact h.elim
theorem am_pL_inv {S : List Value} {k : Int64 → List Value → Prop} (h : am_pL S k) : ∃ x S', S = .long x :: S' ∧ k x S' := by
  unfold am_pL at h
  split at h
  · exact ⟨_, _, rfl, h⟩
  · exact h.elim
theorem am_pR_inv {S : List Value} {k : Nat → List Value → Prop} (h : am_pR S k) : ∃ x S', S = .ref x :: S' ∧ k x S' := by
  unfold am_pR at h
  split at h
  · exact ⟨_, _, rfl, h⟩
  · exact h.elim
theorem am_pV_inv {S : List Value} {k : Value → List Value → Prop} (h : am_pV S k) : ∃ x S', S = x :: S' ∧ am_cat x = 1 ∧ k x S' := by
  unfold am_pV at h
  split at h
  · exact ⟨_, _, rfl, h⟩
  · exact h.elim
theorem am_lI_inv {L : List Value} {i : Nat} {k : Int32 → Prop} (h : am_lI L i k) : ∃ x, L[i]? = some (.int x) ∧ k x := by
  unfold am_lI at h
  split at h
  · exact ⟨_, by assumption, h⟩
  · exact h.elim
theorem am_lL_inv {L : List Value} {i : Nat} {k : Int64 → Prop} (h : am_lL L i k) : ∃ x, L[i]? = some (.long x) ∧ k x := by
  unfold am_lL at h
  split at h
  · exact ⟨_, by assumption, h⟩
  · exact h.elim
theorem am_lR_inv {L : List Value} {i : Nat} {k : Nat → Prop} (h : am_lR L i k) : ∃ x, L[i]? = some (.ref x) ∧ k x := by
  unfold am_lR at h
  split at h
  · exact ⟨_, by assumption, h⟩
  · exact h.elim
theorem am_pop_inv : ∀ {n : Nat} {acc S : List Value} {k : List Value → List Value → Prop}, am_pop n acc S k → ∃ bs S', S = bs ++ S' ∧ bs.length = n ∧ k (bs.reverse ++ acc) S'
  | 0, acc, S, k, h => ⟨[], S, rfl, rfl, h⟩
  | n + 1, acc, [], k, h => h.elim
  | n + 1, acc, v :: S, k, h => by
    obtain ⟨bs, S', h1, h2, h3⟩ := am_pop_inv (n := n) h
    refine ⟨v :: bs, S', by rw [h1]; rfl, by simp [h2], ?_⟩
    simpa using h3
theorem am_tgE {pc : Nat} {off : Int} (h : decide (0 ≤ (pc : Int) + off) = true) : (pc : Int) + off = ((am_tg pc off : Nat) : Int) := by
  unfold am_tg
  have := of_decide_eq_true h
  omega
theorem am_csumE {g : am_G} (hz : (am_zv g).category = 1) (S : List Value) : ((S.map (am_cv g)).map fun v => v.category).sum = am_csum S := by
  unfold am_csum
  rw [List.map_map]
  congr 1
  apply List.map_congr_left
  intro v _
  exact am_cv_cat hz v
theorem am_tsw_inv {pc : Nat} {x : Int32} {jp : Nat → Prop} : ∀ {offs : List Int} {lo : Int} {j : Nat} {o : Int}, am_tsw pc x jp lo offs → offs[j]? = some o → x = Int32.ofInt (lo + j) → jp (am_tg pc o)
  | [], _, _, _, _, h, _ => by simp at h
  | o' :: r, lo, 0, o, h, ho, hx => by
    simp at ho
    subst ho
    exact h.1 (by rw [hx]; simp)
  | o' :: r, lo, j + 1, o, h, ho, hx => am_tsw_inv (j := j) h.2 (by simpa using ho) (by rw [hx]; congr 1; push_cast; omega)
theorem am_tsd_inv {x : Int32} {P : Prop} : ∀ {offs : List Int} {lo : Int}, am_tsd x P lo offs → (∀ j : Nat, j < offs.length → ¬ x = Int32.ofInt (lo + j)) → P
  | [], _, h, _ => h
  | o :: r, lo, h, hn => am_tsd_inv (offs := r) (lo := lo + 1) (h (by have := hn 0 (by simp); simpa using this)) (fun j hj e => hn (j + 1) (by simp; omega) (by rw [e]; congr 1; push_cast; omega))
