/-! ===== the words that every contract takes ===== -/
def am_tb : List Cond := lw_tbl.filter goodWord
theorem am_in {w : Cond} (i : Nat) (h : lw_tbl[i]? = some w) (hg : goodWord w = true) : w ∈ am_tb := List.mem_filter.mpr ⟨List.mem_of_getElem? h, hg⟩
theorem am_tbl {w : Cond} (h : w ∈ am_tb) : w ∈ lw_tbl := (List.mem_filter.mp h).1
theorem am_good {w : Cond} (h : w ∈ am_tb) : (w.onTables && w.keeps) = true ∨ ∃ ty, w = .arrayClass ty := good_of_word (List.mem_filter.mp h).2
/-! ===== the picture: cells by numbers, ints by cell and slot ===== -/
abbrev am_M : Type := (Nat → Nat → Int32) × Int64
abbrev am_G : Type := (Nat → ClassId) × (Nat → Nat → Nat) × (Nat → ClassId) × (Nat → Nat) × Value
abbrev am_D (g : am_G) : va_G := (g.1, g.2.1)
abbrev am_cA (g : am_G) : Nat → ClassId := g.2.2.1
abbrev am_ad (g : am_G) : Nat → Nat := g.2.2.2.1
abbrev am_zv (g : am_G) : Value := g.2.2.2.2
abbrev am_cl : List vw_C := [(RX0, TX0, 7), (RX1, TX1, 7), (RX2, TX2, 3), (RX3, TX3, 6), (RX4, TX4, 7), (RX5, TX5, 18)]
def am_nf (ci : Nat) : Nat := [7, 7, 3, 6, 7, 18].getD ci 0
/-- 0 an int, 1 the long, 2 a reference -/
def am_fk (ci j : Nat) : Nat := ([[0, 0, 0, 0, 0, 0, 0], [0, 0, 0, 0, 2, 2, 2], [0, 0, 2], [0, 2, 0, 0, 0, 0], [2, 2, 2, 0, 2, 2, 2], [2, 2, 2, 0, 2, 2, 0, 0, 0, 0, 1, 2, 2, 2, 2, 2, 2, 2]].getD ci []).getD j 0
def am_bz (ci j : Nat) : Bool := (ci == 4 && j == 3) || (ci == 5 && j == 3)
def am_slen : List Nat := [6, 3, 6, 5, 5, 3, 5, 4, 4, 3, 4, 4, 3]
/-- tag (0 to 5 a class; 10 int[], 11 byte[], 12 char[], 13 Carpet[], 14 Sheet[]; 20 a read-only int[], 21 a text, 22 its bytes), length -/
def am_sh (k : Nat) : Nat × Nat :=
  if k < 62 then
    (if k = 0 then (4, 0) else if k < 37 then
      (if (k - 1) % 12 = 0 then (1, 0) else if (k - 1) % 12 = 1 then (10, 6) else if (k - 1) % 12 = 2 then (13, 8) else if (k - 1) % 12 < 11 then (0, 0) else (10, 10))
    else [(3, 0), (11, 120), (14, 4), (2, 0), (2, 0), (2, 0), (2, 0), (10, 40), (10, 40), (10, 40), (10, 40), (10, 7), (5, 0), (10, 76), (10, 76), (10, 76), (10, 7), (10, 120), (12, 63), (12, 36), (12, 18), (10, 4), (10, 4), (10, 160), (10, 40)].getD (k - 37) (98, 0))
  else if k = 100 then (20, 7) else if k = 101 then (20, 7) else if k = 102 then (20, 0) else if 110 ≤ k ∧ k < 123 then (21, 0) else if 130 ≤ k ∧ k < 143 then (22, am_slen.getD (k - 130) 0) else (99, 0)
/-- where a reference of a cell leads -/
def am_rf (k j : Nat) : Nat :=
  if k = 0 then [1, 13, 25, 0, 37, 39, 48].getD j 0 else if k < 37 then
    (if (k - 1) % 12 = 0 then (if j = 4 then k + 1 else if j = 5 then k + 2 else k + 11) else k + 1 + j)
  else if k = 37 then 38 else if k = 39 then 40 + j else if k < 44 then k + 4
  else if k = 49 then [50, 51, 52, 0, 53, 54, 0, 0, 0, 0, 0, 55, 56, 57, 58, 59, 60, 61].getD j 0 else k + 20
def am_fv (g : am_G) (μ : am_M) (k ci j : Nat) : Value := if am_fk ci j = 0 then .int (μ.1 k j) else if am_fk ci j = 1 then .long μ.2 else .ref (am_ad g (am_rf k j))
def am_ce (g : am_G) (μ : am_M) (k : Nat) : va_E :=
  if (am_sh k).1 < 10 then .inr ((am_sh k).1, (List.range (am_nf (am_sh k).1)).map (am_fv g μ k (am_sh k).1))
  else if (am_sh k).1 < 13 then .inl (am_cA g (am_sh k).1, (am_sh k).2, .inl (μ.1 k))
  else .inl (am_cA g (am_sh k).1, (am_sh k).2, .inr (.inr (.inr (.inr (fun j => some (am_ad g (am_rf k j)))))))
def am_cw (g : am_G) (μ : am_M) : va_W := (List.range 62).map (fun k => (am_ad g k, am_ce g μ k))
def am_A (g : am_G) : Nat → Prop := fun q => ∃ k, k < 62 ∧ q = am_ad g k
def am_tys (g : am_G) : List (ClassId × FieldType) := [(am_cA g 10, .int), (am_cA g 11, .byte), (am_cA g 12, .char), (am_cA g 13, .object "CarpetLane$Carpet"), (am_cA g 14, .object "CarpetLane$Sheet")]
theorem am_cw_get {g : am_G} {μ : am_M} {k : Nat} (h : k < 62) : (am_cw g μ)[k]? = some (am_ad g k, am_ce g μ k) := by
  unfold am_cw
  rw [List.getElem?_map, List.getElem?_range h]
  rfl
theorem am_lt {k : Nat} (h : (am_sh k).1 < 20) : k < 62 := by
  rcases Nat.lt_or_ge k 62 with q | q
  · exact q
  · exfalso
    unfold am_sh at h
    rw [if_neg (by omega)] at h
    split at h
    · simp at h
    · split at h
      · simp at h
      · split at h
        · simp at h
        · split at h
          · simp at h
          · split at h <;> simp at h
def am_set (μ : am_M) (k j : Nat) (x : Int32) : am_M := (fun a b => if a = k ∧ b = j then x else μ.1 a b, μ.2)
def am_cpm (μ : am_M) (a b sp dp n : Nat) : am_M := (fun k j => if k = b then va_cpy (μ.1 a) (μ.1 b) sp dp n j else μ.1 k j, μ.2)
theorem am_ce_off {g : am_G} {μ μ' : am_M} {i : Nat} (h1 : μ'.1 i = μ.1 i) (h2 : μ'.2 = μ.2) : am_ce g μ' i = am_ce g μ i := by
  unfold am_ce
  have : am_fv g μ' i = am_fv g μ i := by
    funext ci j
    unfold am_fv
    rw [h1, h2]
  rw [this, h1]
theorem am_cw_upd {g : am_G} {μ μ' : am_M} {k : Nat} (hk : k < 62) (h1 : ∀ i, i ≠ k → μ'.1 i = μ.1 i) (h2 : μ'.2 = μ.2) : (am_cw g μ).set k (am_ad g k, am_ce g μ' k) = am_cw g μ' := by
  apply List.ext_getElem?
  intro i
  by_cases hi : i = k
  · subst hi
    rw [List.getElem?_set_self (by simp [am_cw, hk]), am_cw_get hk]
  · rw [List.getElem?_set_ne (fun q => hi q.symm)]
    by_cases h62 : i < 62
    · rw [am_cw_get h62, am_cw_get h62, am_ce_off (h1 i hi) h2]
    · rw [List.getElem?_eq_none (by simp [am_cw]; omega), List.getElem?_eq_none (by simp [am_cw]; omega)]
theorem am_D_of {g : am_G} {μ : am_M} (h : ∀ i j, i < 62 → j < 62 → am_ad g i = am_ad g j → i = j) : va_D (am_A g) (am_cw g μ) := by
  have key : ∀ (i : Nat) (p : Nat × va_E), (am_cw g μ)[i]? = some p → i < 62 ∧ p.1 = am_ad g i := by
    intro i p hp
    by_cases h62 : i < 62
    · rw [am_cw_get h62] at hp
      cases hp
      exact ⟨h62, rfl⟩
    · rw [List.getElem?_eq_none (by simp [am_cw]; omega)] at hp
      cases hp
  refine ⟨fun i j p q hi hj e => ?_, fun k q hk => ?_⟩
  · obtain ⟨a1, a2⟩ := key i p hi
    obtain ⟨b1, b2⟩ := key j q hj
    exact h i j a1 b1 (by rw [← a2, ← b2]; exact e)
  · obtain ⟨a1, a2⟩ := key k q hk
    exact ⟨k, a1, a2⟩
theorem am_nfN : ∀ ci, ci < 6 → ∃ r, am_cl[ci]? = some r ∧ r.2.2 = am_nf ci := by
  intro ci h
  match ci, h with
  | 0, _ => exact ⟨_, rfl, rfl⟩
  | 1, _ => exact ⟨_, rfl, rfl⟩
  | 2, _ => exact ⟨_, rfl, rfl⟩
  | 3, _ => exact ⟨_, rfl, rfl⟩
  | 4, _ => exact ⟨_, rfl, rfl⟩
  | 5, _ => exact ⟨_, rfl, rfl⟩
theorem am_ce_obj {g : am_G} {μ : am_M} {k ci : Nat} (h : am_sh k = (ci, 0)) (hc : ci < 10) : am_ce g μ k = .inr (ci, (List.range (am_nf ci)).map (am_fv g μ k ci)) := by
  unfold am_ce
  rw [h]
  simp [hc]
theorem am_ce_arr {g : am_G} {μ : am_M} {k t n : Nat} (h : am_sh k = (t, n)) (h1 : ¬ t < 10) (h2 : t < 13) : am_ce g μ k = .inl (am_cA g t, n, .inl (μ.1 k)) := by
  unfold am_ce
  rw [h]
  simp [h1, h2]
theorem am_ce_ref {g : am_G} {μ : am_M} {k t n : Nat} (h : am_sh k = (t, n)) (h1 : ¬ t < 13) : am_ce g μ k = .inl (am_cA g t, n, .inr (.inr (.inr (.inr (fun j => some (am_ad g (am_rf k j))))))) := by
  unfold am_ce
  rw [h]
  have : ¬ t < 10 := by omega
  simp [h1, this]
theorem am_ce_setI {g : am_G} {μ : am_M} {k ci j : Nat} {x : Int32} (h : am_sh k = (ci, 0)) (hc : ci < 10) (hj : am_fk ci j = 0) : am_ce g (am_set μ k j x) k = .inr (ci, ((List.range (am_nf ci)).map (am_fv g μ k ci)).set j (.int x)) := by
  rw [am_ce_obj h hc]
  congr 2
  apply List.ext_getElem?
  intro i
  by_cases hi : i = j
  · subst hi
    by_cases hn : i < am_nf ci
    · rw [List.getElem?_set_self (by simpa using hn), List.getElem?_map, List.getElem?_range hn]
      simp [am_fv, hj, am_set]
    · rw [List.getElem?_eq_none (by simp; omega), List.getElem?_eq_none (by simp; omega)]
  · rw [List.getElem?_set_ne (fun q => hi q.symm), List.getElem?_map, List.getElem?_map]
    by_cases hn : i < am_nf ci
    · rw [List.getElem?_range hn]
      simp only [Option.map_some]
      congr 1
      unfold am_fv am_set
      simp [hi]
    · rw [List.getElem?_eq_none (by simp; omega)]
      rfl
theorem am_ce_setA {g : am_G} {μ : am_M} {k t n j : Nat} {x : Int32} (h : am_sh k = (t, n)) (h1 : ¬ t < 10) (h2 : t < 13) : am_ce g (am_set μ k j x) k = .inl (am_cA g t, n, .inl (upd (μ.1 k) j x)) := by
  rw [am_ce_arr h h1 h2]
  congr 4
  funext q
  unfold am_set upd
  simp
