/-! ===== the first world: what is made, as the machine of the cells has it ===== -/
def sp0 : Nat → Int32 := (upd (upd (upd (upd (upd (upd (upd (upd (upd (upd (fun _ => 0) 0 (-1)) 1 (-1)) 2 (-1)) 3 (-1)) 4 (-1)) 5 (-1)) 6 (-1)) 7 (-1)) 8 (-1)) 9 (-1))
def ms0 : Nat → Int32 := (upd (upd (upd (upd (upd (upd (upd (upd (upd (upd (upd (fun _ => 0) 2 1) 66 (-1)) 67 (-1)) 68 (-1)) 69 (-1)) 70 (-1)) 71 (-1)) 72 (-1)) 73 (-1)) 74 (-1)) 75 (-1))
def mu00 (k : Nat) : Nat → Int32 := if k = 1 ∨ k = 13 ∨ k = 25 then (fun j => if j = 2 then 1 else 0) else if k = 12 ∨ k = 24 ∨ k = 36 then sp0 else if k = 50 then ms0 else if k = 55 then (ffn (fun _ => 0) cs_49) else if k = 56 then (ffn (fun _ => 0) cs_429) else if k = 57 then (ffn (fun _ => 0) cs_647) else (fun _ => 0)
def mu0 (L : Nat) (xs : Nat → Int32) : am_M := (fun k => if k < 62 then mu00 k else if k = 102 then xs else (fun _ => nI L), 0)
def W0 (g : am_G) : va_W := [(am_ad g 0, .inr (4, [.ref (am_ad g 1), .ref (am_ad g 13), .ref (am_ad g 25), .int 0, .ref (am_ad g 37), .ref (am_ad g 39), .ref (am_ad g 48)])), (am_ad g 1, .inr (1, [.int 0, .int 0, .int 1, .int 0, .ref (am_ad g 2), .ref (am_ad g 3), .ref (am_ad g 12)])), (am_ad g 2, .inl (am_cA g 10, 6, .inl (fun _ => 0))), (am_ad g 3, .inl (am_cA g 13, 8, .inr (.inr (.inr (.inr (va_up (va_up (va_up (va_up (va_up (va_up (va_up (va_up (fun _ => none) 0 (some (am_ad g 4))) 1 (some (am_ad g 5))) 2 (some (am_ad g 6))) 3 (some (am_ad g 7))) 4 (some (am_ad g 8))) 5 (some (am_ad g 9))) 6 (some (am_ad g 10))) 7 (some (am_ad g 11)))))))), (am_ad g 4, .inr (0, [.int 0, .int 0, .int 0, .int 0, .int 0, .int 0, .int 0])), (am_ad g 5, .inr (0, [.int 0, .int 0, .int 0, .int 0, .int 0, .int 0, .int 0])), (am_ad g 6, .inr (0, [.int 0, .int 0, .int 0, .int 0, .int 0, .int 0, .int 0])), (am_ad g 7, .inr (0, [.int 0, .int 0, .int 0, .int 0, .int 0, .int 0, .int 0])), (am_ad g 8, .inr (0, [.int 0, .int 0, .int 0, .int 0, .int 0, .int 0, .int 0])), (am_ad g 9, .inr (0, [.int 0, .int 0, .int 0, .int 0, .int 0, .int 0, .int 0])), (am_ad g 10, .inr (0, [.int 0, .int 0, .int 0, .int 0, .int 0, .int 0, .int 0])), (am_ad g 11, .inr (0, [.int 0, .int 0, .int 0, .int 0, .int 0, .int 0, .int 0])), (am_ad g 12, .inl (am_cA g 10, 10, .inl (upd (upd (upd (upd (upd (upd (upd (upd (upd (upd (fun _ => 0) 0 (-1)) 1 (-1)) 2 (-1)) 3 (-1)) 4 (-1)) 5 (-1)) 6 (-1)) 7 (-1)) 8 (-1)) 9 (-1)))), (am_ad g 13, .inr (1, [.int 0, .int 0, .int 1, .int 0, .ref (am_ad g 14), .ref (am_ad g 15), .ref (am_ad g 24)])), (am_ad g 14, .inl (am_cA g 10, 6, .inl (fun _ => 0))), (am_ad g 15, .inl (am_cA g 13, 8, .inr (.inr (.inr (.inr (va_up (va_up (va_up (va_up (va_up (va_up (va_up (va_up (fun _ => none) 0 (some (am_ad g 16))) 1 (some (am_ad g 17))) 2 (some (am_ad g 18))) 3 (some (am_ad g 19))) 4 (some (am_ad g 20))) 5 (some (am_ad g 21))) 6 (some (am_ad g 22))) 7 (some (am_ad g 23)))))))), (am_ad g 16, .inr (0, [.int 0, .int 0, .int 0, .int 0, .int 0, .int 0, .int 0])), (am_ad g 17, .inr (0, [.int 0, .int 0, .int 0, .int 0, .int 0, .int 0, .int 0])), (am_ad g 18, .inr (0, [.int 0, .int 0, .int 0, .int 0, .int 0, .int 0, .int 0])), (am_ad g 19, .inr (0, [.int 0, .int 0, .int 0, .int 0, .int 0, .int 0, .int 0])), (am_ad g 20, .inr (0, [.int 0, .int 0, .int 0, .int 0, .int 0, .int 0, .int 0])), (am_ad g 21, .inr (0, [.int 0, .int 0, .int 0, .int 0, .int 0, .int 0, .int 0])), (am_ad g 22, .inr (0, [.int 0, .int 0, .int 0, .int 0, .int 0, .int 0, .int 0])), (am_ad g 23, .inr (0, [.int 0, .int 0, .int 0, .int 0, .int 0, .int 0, .int 0])), (am_ad g 24, .inl (am_cA g 10, 10, .inl (upd (upd (upd (upd (upd (upd (upd (upd (upd (upd (fun _ => 0) 0 (-1)) 1 (-1)) 2 (-1)) 3 (-1)) 4 (-1)) 5 (-1)) 6 (-1)) 7 (-1)) 8 (-1)) 9 (-1)))), (am_ad g 25, .inr (1, [.int 0, .int 0, .int 1, .int 0, .ref (am_ad g 26), .ref (am_ad g 27), .ref (am_ad g 36)])), (am_ad g 26, .inl (am_cA g 10, 6, .inl (fun _ => 0))), (am_ad g 27, .inl (am_cA g 13, 8, .inr (.inr (.inr (.inr (va_up (va_up (va_up (va_up (va_up (va_up (va_up (va_up (fun _ => none) 0 (some (am_ad g 28))) 1 (some (am_ad g 29))) 2 (some (am_ad g 30))) 3 (some (am_ad g 31))) 4 (some (am_ad g 32))) 5 (some (am_ad g 33))) 6 (some (am_ad g 34))) 7 (some (am_ad g 35)))))))), (am_ad g 28, .inr (0, [.int 0, .int 0, .int 0, .int 0, .int 0, .int 0, .int 0])), (am_ad g 29, .inr (0, [.int 0, .int 0, .int 0, .int 0, .int 0, .int 0, .int 0])), (am_ad g 30, .inr (0, [.int 0, .int 0, .int 0, .int 0, .int 0, .int 0, .int 0])), (am_ad g 31, .inr (0, [.int 0, .int 0, .int 0, .int 0, .int 0, .int 0, .int 0])), (am_ad g 32, .inr (0, [.int 0, .int 0, .int 0, .int 0, .int 0, .int 0, .int 0])), (am_ad g 33, .inr (0, [.int 0, .int 0, .int 0, .int 0, .int 0, .int 0, .int 0])), (am_ad g 34, .inr (0, [.int 0, .int 0, .int 0, .int 0, .int 0, .int 0, .int 0])), (am_ad g 35, .inr (0, [.int 0, .int 0, .int 0, .int 0, .int 0, .int 0, .int 0])), (am_ad g 36, .inl (am_cA g 10, 10, .inl (upd (upd (upd (upd (upd (upd (upd (upd (upd (upd (fun _ => 0) 0 (-1)) 1 (-1)) 2 (-1)) 3 (-1)) 4 (-1)) 5 (-1)) 6 (-1)) 7 (-1)) 8 (-1)) 9 (-1)))), (am_ad g 37, .inr (3, [.int 0, .ref (am_ad g 38), .int 0, .int 0, .int 0, .int 0])), (am_ad g 38, .inl (am_cA g 11, 120, .inl (fun _ => 0))), (am_ad g 39, .inl (am_cA g 14, 4, .inr (.inr (.inr (.inr (va_up (va_up (va_up (va_up (fun _ => none) 0 (some (am_ad g 40))) 1 (some (am_ad g 41))) 2 (some (am_ad g 42))) 3 (some (am_ad g 43)))))))), (am_ad g 40, .inr (2, [.int 0, .int 0, .ref (am_ad g 44)])), (am_ad g 41, .inr (2, [.int 0, .int 0, .ref (am_ad g 45)])), (am_ad g 42, .inr (2, [.int 0, .int 0, .ref (am_ad g 46)])), (am_ad g 43, .inr (2, [.int 0, .int 0, .ref (am_ad g 47)])), (am_ad g 44, .inl (am_cA g 10, 40, .inl (fun _ => 0))), (am_ad g 45, .inl (am_cA g 10, 40, .inl (fun _ => 0))), (am_ad g 46, .inl (am_cA g 10, 40, .inl (fun _ => 0))), (am_ad g 47, .inl (am_cA g 10, 40, .inl (fun _ => 0))), (am_ad g 48, .inl (am_cA g 10, 7, .inl (fun _ => 0))), (am_ad g 49, .inr (5, [.ref (am_ad g 50), .ref (am_ad g 51), .ref (am_ad g 52), .int 0, .ref (am_ad g 53), .ref (am_ad g 54), .int 0, .int 0, .int 0, .int 0, .long 0, .ref (am_ad g 55), .ref (am_ad g 56), .ref (am_ad g 57), .ref (am_ad g 58), .ref (am_ad g 59), .ref (am_ad g 60), .ref (am_ad g 61)])), (am_ad g 50, .inl (am_cA g 10, 76, .inl (upd (upd (upd (upd (upd (upd (upd (upd (upd (upd (upd (fun _ => 0) 2 1) 66 (-1)) 67 (-1)) 68 (-1)) 69 (-1)) 70 (-1)) 71 (-1)) 72 (-1)) 73 (-1)) 74 (-1)) 75 (-1)))), (am_ad g 51, .inl (am_cA g 10, 76, .inl (fun _ => 0))), (am_ad g 52, .inl (am_cA g 10, 76, .inl (fun _ => 0))), (am_ad g 53, .inl (am_cA g 10, 7, .inl (fun _ => 0))), (am_ad g 54, .inl (am_cA g 10, 120, .inl (fun _ => 0))), (am_ad g 55, .inl (am_cA g 12, 63, .inl (ffn (fun _ => 0) cs_49))), (am_ad g 56, .inl (am_cA g 12, 36, .inl (ffn (fun _ => 0) cs_429))), (am_ad g 57, .inl (am_cA g 12, 18, .inl (ffn (fun _ => 0) cs_647))), (am_ad g 58, .inl (am_cA g 10, 4, .inl (fun _ => 0))), (am_ad g 59, .inl (am_cA g 10, 4, .inl (fun _ => 0))), (am_ad g 60, .inl (am_cA g 10, 160, .inl (fun _ => 0))), (am_ad g 61, .inl (am_cA g 10, 40, .inl (fun _ => 0)))]
theorem at_ref {D : va_G} {cl : List vw_C} {a n : Nat} {cA : ClassId} {f f' : Nat → Option Nat} {H : Heap} (h : va_at D cl (a, .inl (cA, n, .inr (.inr (.inr (.inr f))))) H) (hf : ∀ j, j < n → f j = f' j) : va_at D cl (a, .inl (cA, n, .inr (.inr (.inr (.inr f'))))) H := by
  have h : H[a]? = some (vp_cell cA (n, .inr (.inr (.inr (.inr f))))) := h
  show H[a]? = some (vp_cell cA (n, .inr (.inr (.inr (.inr f')))))
  rw [h, vp_cell_q, vp_cell_q]
  unfold arrV
  congr 2
  congr 1
  funext j
  show va_rf (f j.val) = va_rf (f' j.val)
  rw [hf j.val j.isLt]
theorem rf_3 (g : am_G) : ∀ j, j < 8 → (va_up (va_up (va_up (va_up (va_up (va_up (va_up (va_up (fun _ => none) 0 (some (am_ad g 4))) 1 (some (am_ad g 5))) 2 (some (am_ad g 6))) 3 (some (am_ad g 7))) 4 (some (am_ad g 8))) 5 (some (am_ad g 9))) 6 (some (am_ad g 10))) 7 (some (am_ad g 11))) j = some (am_ad g (am_rf 3 j)) := by
  intro j hj
  match j, hj with
  | 0, _ => rfl
  | 1, _ => rfl
  | 2, _ => rfl
  | 3, _ => rfl
  | 4, _ => rfl
  | 5, _ => rfl
  | 6, _ => rfl
  | 7, _ => rfl
theorem rf_15 (g : am_G) : ∀ j, j < 8 → (va_up (va_up (va_up (va_up (va_up (va_up (va_up (va_up (fun _ => none) 0 (some (am_ad g 16))) 1 (some (am_ad g 17))) 2 (some (am_ad g 18))) 3 (some (am_ad g 19))) 4 (some (am_ad g 20))) 5 (some (am_ad g 21))) 6 (some (am_ad g 22))) 7 (some (am_ad g 23))) j = some (am_ad g (am_rf 15 j)) := by
  intro j hj
  match j, hj with
  | 0, _ => rfl
  | 1, _ => rfl
  | 2, _ => rfl
  | 3, _ => rfl
  | 4, _ => rfl
  | 5, _ => rfl
  | 6, _ => rfl
  | 7, _ => rfl
theorem rf_27 (g : am_G) : ∀ j, j < 8 → (va_up (va_up (va_up (va_up (va_up (va_up (va_up (va_up (fun _ => none) 0 (some (am_ad g 28))) 1 (some (am_ad g 29))) 2 (some (am_ad g 30))) 3 (some (am_ad g 31))) 4 (some (am_ad g 32))) 5 (some (am_ad g 33))) 6 (some (am_ad g 34))) 7 (some (am_ad g 35))) j = some (am_ad g (am_rf 27 j)) := by
  intro j hj
  match j, hj with
  | 0, _ => rfl
  | 1, _ => rfl
  | 2, _ => rfl
  | 3, _ => rfl
  | 4, _ => rfl
  | 5, _ => rfl
  | 6, _ => rfl
  | 7, _ => rfl
theorem rf_39 (g : am_G) : ∀ j, j < 4 → (va_up (va_up (va_up (va_up (fun _ => none) 0 (some (am_ad g 40))) 1 (some (am_ad g 41))) 2 (some (am_ad g 42))) 3 (some (am_ad g 43))) j = some (am_ad g (am_rf 39 j)) := by
  intro j hj
  match j, hj with
  | 0, _ => rfl
  | 1, _ => rfl
  | 2, _ => rfl
  | 3, _ => rfl
theorem wc_0 {g : am_G} {H : Heap} {L : Nat} {xs : Nat → Int32} (hP : va_P (am_D g) am_cl (W0 g) H) : va_at (am_D g) am_cl (am_ad g 0, am_ce g (mu0 L xs) 0) H := by
  have h : va_at (am_D g) am_cl (am_ad g 0, .inr (4, [.ref (am_ad g 1), .ref (am_ad g 13), .ref (am_ad g 25), .int 0, .ref (am_ad g 37), .ref (am_ad g 39), .ref (am_ad g 48)])) H := hP 0 _ rfl
  have e : am_ce g (mu0 L xs) 0 = .inr (4, [.ref (am_ad g 1), .ref (am_ad g 13), .ref (am_ad g 25), .int 0, .ref (am_ad g 37), .ref (am_ad g 39), .ref (am_ad g 48)]) := (am_ce_obj (k := 0) (ci := 4) (by decide +kernel) (by decide)).trans rfl
  rw [e]; exact h
theorem wc_1 {g : am_G} {H : Heap} {L : Nat} {xs : Nat → Int32} (hP : va_P (am_D g) am_cl (W0 g) H) : va_at (am_D g) am_cl (am_ad g 1, am_ce g (mu0 L xs) 1) H := by
  have h : va_at (am_D g) am_cl (am_ad g 1, .inr (1, [.int 0, .int 0, .int 1, .int 0, .ref (am_ad g 2), .ref (am_ad g 3), .ref (am_ad g 12)])) H := hP 1 _ rfl
  have e : am_ce g (mu0 L xs) 1 = .inr (1, [.int 0, .int 0, .int 1, .int 0, .ref (am_ad g 2), .ref (am_ad g 3), .ref (am_ad g 12)]) := (am_ce_obj (k := 1) (ci := 1) (by decide +kernel) (by decide)).trans rfl
  rw [e]; exact h
theorem wc_2 {g : am_G} {H : Heap} {L : Nat} {xs : Nat → Int32} (hP : va_P (am_D g) am_cl (W0 g) H) : va_at (am_D g) am_cl (am_ad g 2, am_ce g (mu0 L xs) 2) H := by
  have h : va_at (am_D g) am_cl (am_ad g 2, .inl (am_cA g 10, 6, .inl (fun _ => 0))) H := hP 2 _ rfl
  have e : am_ce g (mu0 L xs) 2 = .inl (am_cA g 10, 6, .inl (fun _ => 0)) := (am_ce_arr (k := 2) (t := 10) (n := 6) (by decide +kernel) (by decide) (by decide)).trans rfl
  rw [e]; exact h
theorem wc_3 {g : am_G} {H : Heap} {L : Nat} {xs : Nat → Int32} (hP : va_P (am_D g) am_cl (W0 g) H) : va_at (am_D g) am_cl (am_ad g 3, am_ce g (mu0 L xs) 3) H := by
  have h : va_at (am_D g) am_cl (am_ad g 3, .inl (am_cA g 13, 8, .inr (.inr (.inr (.inr (va_up (va_up (va_up (va_up (va_up (va_up (va_up (va_up (fun _ => none) 0 (some (am_ad g 4))) 1 (some (am_ad g 5))) 2 (some (am_ad g 6))) 3 (some (am_ad g 7))) 4 (some (am_ad g 8))) 5 (some (am_ad g 9))) 6 (some (am_ad g 10))) 7 (some (am_ad g 11)))))))) H := hP 3 _ rfl
  rw [am_ce_ref (k := 3) (t := 13) (n := 8) (by decide +kernel) (by decide)]
  exact at_ref h (rf_3 g)
theorem wc_4 {g : am_G} {H : Heap} {L : Nat} {xs : Nat → Int32} (hP : va_P (am_D g) am_cl (W0 g) H) : va_at (am_D g) am_cl (am_ad g 4, am_ce g (mu0 L xs) 4) H := by
  have h : va_at (am_D g) am_cl (am_ad g 4, .inr (0, [.int 0, .int 0, .int 0, .int 0, .int 0, .int 0, .int 0])) H := hP 4 _ rfl
  have e : am_ce g (mu0 L xs) 4 = .inr (0, [.int 0, .int 0, .int 0, .int 0, .int 0, .int 0, .int 0]) := (am_ce_obj (k := 4) (ci := 0) (by decide +kernel) (by decide)).trans rfl
  rw [e]; exact h
theorem wc_5 {g : am_G} {H : Heap} {L : Nat} {xs : Nat → Int32} (hP : va_P (am_D g) am_cl (W0 g) H) : va_at (am_D g) am_cl (am_ad g 5, am_ce g (mu0 L xs) 5) H := by
  have h : va_at (am_D g) am_cl (am_ad g 5, .inr (0, [.int 0, .int 0, .int 0, .int 0, .int 0, .int 0, .int 0])) H := hP 5 _ rfl
  have e : am_ce g (mu0 L xs) 5 = .inr (0, [.int 0, .int 0, .int 0, .int 0, .int 0, .int 0, .int 0]) := (am_ce_obj (k := 5) (ci := 0) (by decide +kernel) (by decide)).trans rfl
  rw [e]; exact h
theorem wc_6 {g : am_G} {H : Heap} {L : Nat} {xs : Nat → Int32} (hP : va_P (am_D g) am_cl (W0 g) H) : va_at (am_D g) am_cl (am_ad g 6, am_ce g (mu0 L xs) 6) H := by
  have h : va_at (am_D g) am_cl (am_ad g 6, .inr (0, [.int 0, .int 0, .int 0, .int 0, .int 0, .int 0, .int 0])) H := hP 6 _ rfl
  have e : am_ce g (mu0 L xs) 6 = .inr (0, [.int 0, .int 0, .int 0, .int 0, .int 0, .int 0, .int 0]) := (am_ce_obj (k := 6) (ci := 0) (by decide +kernel) (by decide)).trans rfl
  rw [e]; exact h
theorem wc_7 {g : am_G} {H : Heap} {L : Nat} {xs : Nat → Int32} (hP : va_P (am_D g) am_cl (W0 g) H) : va_at (am_D g) am_cl (am_ad g 7, am_ce g (mu0 L xs) 7) H := by
  have h : va_at (am_D g) am_cl (am_ad g 7, .inr (0, [.int 0, .int 0, .int 0, .int 0, .int 0, .int 0, .int 0])) H := hP 7 _ rfl
  have e : am_ce g (mu0 L xs) 7 = .inr (0, [.int 0, .int 0, .int 0, .int 0, .int 0, .int 0, .int 0]) := (am_ce_obj (k := 7) (ci := 0) (by decide +kernel) (by decide)).trans rfl
  rw [e]; exact h
theorem wc_8 {g : am_G} {H : Heap} {L : Nat} {xs : Nat → Int32} (hP : va_P (am_D g) am_cl (W0 g) H) : va_at (am_D g) am_cl (am_ad g 8, am_ce g (mu0 L xs) 8) H := by
  have h : va_at (am_D g) am_cl (am_ad g 8, .inr (0, [.int 0, .int 0, .int 0, .int 0, .int 0, .int 0, .int 0])) H := hP 8 _ rfl
  have e : am_ce g (mu0 L xs) 8 = .inr (0, [.int 0, .int 0, .int 0, .int 0, .int 0, .int 0, .int 0]) := (am_ce_obj (k := 8) (ci := 0) (by decide +kernel) (by decide)).trans rfl
  rw [e]; exact h
theorem wc_9 {g : am_G} {H : Heap} {L : Nat} {xs : Nat → Int32} (hP : va_P (am_D g) am_cl (W0 g) H) : va_at (am_D g) am_cl (am_ad g 9, am_ce g (mu0 L xs) 9) H := by
  have h : va_at (am_D g) am_cl (am_ad g 9, .inr (0, [.int 0, .int 0, .int 0, .int 0, .int 0, .int 0, .int 0])) H := hP 9 _ rfl
  have e : am_ce g (mu0 L xs) 9 = .inr (0, [.int 0, .int 0, .int 0, .int 0, .int 0, .int 0, .int 0]) := (am_ce_obj (k := 9) (ci := 0) (by decide +kernel) (by decide)).trans rfl
  rw [e]; exact h
theorem wc_10 {g : am_G} {H : Heap} {L : Nat} {xs : Nat → Int32} (hP : va_P (am_D g) am_cl (W0 g) H) : va_at (am_D g) am_cl (am_ad g 10, am_ce g (mu0 L xs) 10) H := by
  have h : va_at (am_D g) am_cl (am_ad g 10, .inr (0, [.int 0, .int 0, .int 0, .int 0, .int 0, .int 0, .int 0])) H := hP 10 _ rfl
  have e : am_ce g (mu0 L xs) 10 = .inr (0, [.int 0, .int 0, .int 0, .int 0, .int 0, .int 0, .int 0]) := (am_ce_obj (k := 10) (ci := 0) (by decide +kernel) (by decide)).trans rfl
  rw [e]; exact h
theorem wc_11 {g : am_G} {H : Heap} {L : Nat} {xs : Nat → Int32} (hP : va_P (am_D g) am_cl (W0 g) H) : va_at (am_D g) am_cl (am_ad g 11, am_ce g (mu0 L xs) 11) H := by
  have h : va_at (am_D g) am_cl (am_ad g 11, .inr (0, [.int 0, .int 0, .int 0, .int 0, .int 0, .int 0, .int 0])) H := hP 11 _ rfl
  have e : am_ce g (mu0 L xs) 11 = .inr (0, [.int 0, .int 0, .int 0, .int 0, .int 0, .int 0, .int 0]) := (am_ce_obj (k := 11) (ci := 0) (by decide +kernel) (by decide)).trans rfl
  rw [e]; exact h
theorem wc_12 {g : am_G} {H : Heap} {L : Nat} {xs : Nat → Int32} (hP : va_P (am_D g) am_cl (W0 g) H) : va_at (am_D g) am_cl (am_ad g 12, am_ce g (mu0 L xs) 12) H := by
  have h : va_at (am_D g) am_cl (am_ad g 12, .inl (am_cA g 10, 10, .inl (upd (upd (upd (upd (upd (upd (upd (upd (upd (upd (fun _ => 0) 0 (-1)) 1 (-1)) 2 (-1)) 3 (-1)) 4 (-1)) 5 (-1)) 6 (-1)) 7 (-1)) 8 (-1)) 9 (-1)))) H := hP 12 _ rfl
  have e : am_ce g (mu0 L xs) 12 = .inl (am_cA g 10, 10, .inl (upd (upd (upd (upd (upd (upd (upd (upd (upd (upd (fun _ => 0) 0 (-1)) 1 (-1)) 2 (-1)) 3 (-1)) 4 (-1)) 5 (-1)) 6 (-1)) 7 (-1)) 8 (-1)) 9 (-1))) := (am_ce_arr (k := 12) (t := 10) (n := 10) (by decide +kernel) (by decide) (by decide)).trans rfl
  rw [e]; exact h
theorem wc_13 {g : am_G} {H : Heap} {L : Nat} {xs : Nat → Int32} (hP : va_P (am_D g) am_cl (W0 g) H) : va_at (am_D g) am_cl (am_ad g 13, am_ce g (mu0 L xs) 13) H := by
  have h : va_at (am_D g) am_cl (am_ad g 13, .inr (1, [.int 0, .int 0, .int 1, .int 0, .ref (am_ad g 14), .ref (am_ad g 15), .ref (am_ad g 24)])) H := hP 13 _ rfl
  have e : am_ce g (mu0 L xs) 13 = .inr (1, [.int 0, .int 0, .int 1, .int 0, .ref (am_ad g 14), .ref (am_ad g 15), .ref (am_ad g 24)]) := (am_ce_obj (k := 13) (ci := 1) (by decide +kernel) (by decide)).trans rfl
  rw [e]; exact h
theorem wc_14 {g : am_G} {H : Heap} {L : Nat} {xs : Nat → Int32} (hP : va_P (am_D g) am_cl (W0 g) H) : va_at (am_D g) am_cl (am_ad g 14, am_ce g (mu0 L xs) 14) H := by
  have h : va_at (am_D g) am_cl (am_ad g 14, .inl (am_cA g 10, 6, .inl (fun _ => 0))) H := hP 14 _ rfl
  have e : am_ce g (mu0 L xs) 14 = .inl (am_cA g 10, 6, .inl (fun _ => 0)) := (am_ce_arr (k := 14) (t := 10) (n := 6) (by decide +kernel) (by decide) (by decide)).trans rfl
  rw [e]; exact h
theorem wc_15 {g : am_G} {H : Heap} {L : Nat} {xs : Nat → Int32} (hP : va_P (am_D g) am_cl (W0 g) H) : va_at (am_D g) am_cl (am_ad g 15, am_ce g (mu0 L xs) 15) H := by
  have h : va_at (am_D g) am_cl (am_ad g 15, .inl (am_cA g 13, 8, .inr (.inr (.inr (.inr (va_up (va_up (va_up (va_up (va_up (va_up (va_up (va_up (fun _ => none) 0 (some (am_ad g 16))) 1 (some (am_ad g 17))) 2 (some (am_ad g 18))) 3 (some (am_ad g 19))) 4 (some (am_ad g 20))) 5 (some (am_ad g 21))) 6 (some (am_ad g 22))) 7 (some (am_ad g 23)))))))) H := hP 15 _ rfl
  rw [am_ce_ref (k := 15) (t := 13) (n := 8) (by decide +kernel) (by decide)]
  exact at_ref h (rf_15 g)
theorem wc_16 {g : am_G} {H : Heap} {L : Nat} {xs : Nat → Int32} (hP : va_P (am_D g) am_cl (W0 g) H) : va_at (am_D g) am_cl (am_ad g 16, am_ce g (mu0 L xs) 16) H := by
  have h : va_at (am_D g) am_cl (am_ad g 16, .inr (0, [.int 0, .int 0, .int 0, .int 0, .int 0, .int 0, .int 0])) H := hP 16 _ rfl
  have e : am_ce g (mu0 L xs) 16 = .inr (0, [.int 0, .int 0, .int 0, .int 0, .int 0, .int 0, .int 0]) := (am_ce_obj (k := 16) (ci := 0) (by decide +kernel) (by decide)).trans rfl
  rw [e]; exact h
theorem wc_17 {g : am_G} {H : Heap} {L : Nat} {xs : Nat → Int32} (hP : va_P (am_D g) am_cl (W0 g) H) : va_at (am_D g) am_cl (am_ad g 17, am_ce g (mu0 L xs) 17) H := by
  have h : va_at (am_D g) am_cl (am_ad g 17, .inr (0, [.int 0, .int 0, .int 0, .int 0, .int 0, .int 0, .int 0])) H := hP 17 _ rfl
  have e : am_ce g (mu0 L xs) 17 = .inr (0, [.int 0, .int 0, .int 0, .int 0, .int 0, .int 0, .int 0]) := (am_ce_obj (k := 17) (ci := 0) (by decide +kernel) (by decide)).trans rfl
  rw [e]; exact h
theorem wc_18 {g : am_G} {H : Heap} {L : Nat} {xs : Nat → Int32} (hP : va_P (am_D g) am_cl (W0 g) H) : va_at (am_D g) am_cl (am_ad g 18, am_ce g (mu0 L xs) 18) H := by
  have h : va_at (am_D g) am_cl (am_ad g 18, .inr (0, [.int 0, .int 0, .int 0, .int 0, .int 0, .int 0, .int 0])) H := hP 18 _ rfl
  have e : am_ce g (mu0 L xs) 18 = .inr (0, [.int 0, .int 0, .int 0, .int 0, .int 0, .int 0, .int 0]) := (am_ce_obj (k := 18) (ci := 0) (by decide +kernel) (by decide)).trans rfl
  rw [e]; exact h
theorem wc_19 {g : am_G} {H : Heap} {L : Nat} {xs : Nat → Int32} (hP : va_P (am_D g) am_cl (W0 g) H) : va_at (am_D g) am_cl (am_ad g 19, am_ce g (mu0 L xs) 19) H := by
  have h : va_at (am_D g) am_cl (am_ad g 19, .inr (0, [.int 0, .int 0, .int 0, .int 0, .int 0, .int 0, .int 0])) H := hP 19 _ rfl
  have e : am_ce g (mu0 L xs) 19 = .inr (0, [.int 0, .int 0, .int 0, .int 0, .int 0, .int 0, .int 0]) := (am_ce_obj (k := 19) (ci := 0) (by decide +kernel) (by decide)).trans rfl
  rw [e]; exact h
theorem wc_20 {g : am_G} {H : Heap} {L : Nat} {xs : Nat → Int32} (hP : va_P (am_D g) am_cl (W0 g) H) : va_at (am_D g) am_cl (am_ad g 20, am_ce g (mu0 L xs) 20) H := by
  have h : va_at (am_D g) am_cl (am_ad g 20, .inr (0, [.int 0, .int 0, .int 0, .int 0, .int 0, .int 0, .int 0])) H := hP 20 _ rfl
  have e : am_ce g (mu0 L xs) 20 = .inr (0, [.int 0, .int 0, .int 0, .int 0, .int 0, .int 0, .int 0]) := (am_ce_obj (k := 20) (ci := 0) (by decide +kernel) (by decide)).trans rfl
  rw [e]; exact h
theorem wc_21 {g : am_G} {H : Heap} {L : Nat} {xs : Nat → Int32} (hP : va_P (am_D g) am_cl (W0 g) H) : va_at (am_D g) am_cl (am_ad g 21, am_ce g (mu0 L xs) 21) H := by
  have h : va_at (am_D g) am_cl (am_ad g 21, .inr (0, [.int 0, .int 0, .int 0, .int 0, .int 0, .int 0, .int 0])) H := hP 21 _ rfl
  have e : am_ce g (mu0 L xs) 21 = .inr (0, [.int 0, .int 0, .int 0, .int 0, .int 0, .int 0, .int 0]) := (am_ce_obj (k := 21) (ci := 0) (by decide +kernel) (by decide)).trans rfl
  rw [e]; exact h
theorem wc_22 {g : am_G} {H : Heap} {L : Nat} {xs : Nat → Int32} (hP : va_P (am_D g) am_cl (W0 g) H) : va_at (am_D g) am_cl (am_ad g 22, am_ce g (mu0 L xs) 22) H := by
  have h : va_at (am_D g) am_cl (am_ad g 22, .inr (0, [.int 0, .int 0, .int 0, .int 0, .int 0, .int 0, .int 0])) H := hP 22 _ rfl
  have e : am_ce g (mu0 L xs) 22 = .inr (0, [.int 0, .int 0, .int 0, .int 0, .int 0, .int 0, .int 0]) := (am_ce_obj (k := 22) (ci := 0) (by decide +kernel) (by decide)).trans rfl
  rw [e]; exact h
theorem wc_23 {g : am_G} {H : Heap} {L : Nat} {xs : Nat → Int32} (hP : va_P (am_D g) am_cl (W0 g) H) : va_at (am_D g) am_cl (am_ad g 23, am_ce g (mu0 L xs) 23) H := by
  have h : va_at (am_D g) am_cl (am_ad g 23, .inr (0, [.int 0, .int 0, .int 0, .int 0, .int 0, .int 0, .int 0])) H := hP 23 _ rfl
  have e : am_ce g (mu0 L xs) 23 = .inr (0, [.int 0, .int 0, .int 0, .int 0, .int 0, .int 0, .int 0]) := (am_ce_obj (k := 23) (ci := 0) (by decide +kernel) (by decide)).trans rfl
  rw [e]; exact h
theorem wc_24 {g : am_G} {H : Heap} {L : Nat} {xs : Nat → Int32} (hP : va_P (am_D g) am_cl (W0 g) H) : va_at (am_D g) am_cl (am_ad g 24, am_ce g (mu0 L xs) 24) H := by
  have h : va_at (am_D g) am_cl (am_ad g 24, .inl (am_cA g 10, 10, .inl (upd (upd (upd (upd (upd (upd (upd (upd (upd (upd (fun _ => 0) 0 (-1)) 1 (-1)) 2 (-1)) 3 (-1)) 4 (-1)) 5 (-1)) 6 (-1)) 7 (-1)) 8 (-1)) 9 (-1)))) H := hP 24 _ rfl
  have e : am_ce g (mu0 L xs) 24 = .inl (am_cA g 10, 10, .inl (upd (upd (upd (upd (upd (upd (upd (upd (upd (upd (fun _ => 0) 0 (-1)) 1 (-1)) 2 (-1)) 3 (-1)) 4 (-1)) 5 (-1)) 6 (-1)) 7 (-1)) 8 (-1)) 9 (-1))) := (am_ce_arr (k := 24) (t := 10) (n := 10) (by decide +kernel) (by decide) (by decide)).trans rfl
  rw [e]; exact h
theorem wc_25 {g : am_G} {H : Heap} {L : Nat} {xs : Nat → Int32} (hP : va_P (am_D g) am_cl (W0 g) H) : va_at (am_D g) am_cl (am_ad g 25, am_ce g (mu0 L xs) 25) H := by
  have h : va_at (am_D g) am_cl (am_ad g 25, .inr (1, [.int 0, .int 0, .int 1, .int 0, .ref (am_ad g 26), .ref (am_ad g 27), .ref (am_ad g 36)])) H := hP 25 _ rfl
  have e : am_ce g (mu0 L xs) 25 = .inr (1, [.int 0, .int 0, .int 1, .int 0, .ref (am_ad g 26), .ref (am_ad g 27), .ref (am_ad g 36)]) := (am_ce_obj (k := 25) (ci := 1) (by decide +kernel) (by decide)).trans rfl
  rw [e]; exact h
theorem wc_26 {g : am_G} {H : Heap} {L : Nat} {xs : Nat → Int32} (hP : va_P (am_D g) am_cl (W0 g) H) : va_at (am_D g) am_cl (am_ad g 26, am_ce g (mu0 L xs) 26) H := by
  have h : va_at (am_D g) am_cl (am_ad g 26, .inl (am_cA g 10, 6, .inl (fun _ => 0))) H := hP 26 _ rfl
  have e : am_ce g (mu0 L xs) 26 = .inl (am_cA g 10, 6, .inl (fun _ => 0)) := (am_ce_arr (k := 26) (t := 10) (n := 6) (by decide +kernel) (by decide) (by decide)).trans rfl
  rw [e]; exact h
theorem wc_27 {g : am_G} {H : Heap} {L : Nat} {xs : Nat → Int32} (hP : va_P (am_D g) am_cl (W0 g) H) : va_at (am_D g) am_cl (am_ad g 27, am_ce g (mu0 L xs) 27) H := by
  have h : va_at (am_D g) am_cl (am_ad g 27, .inl (am_cA g 13, 8, .inr (.inr (.inr (.inr (va_up (va_up (va_up (va_up (va_up (va_up (va_up (va_up (fun _ => none) 0 (some (am_ad g 28))) 1 (some (am_ad g 29))) 2 (some (am_ad g 30))) 3 (some (am_ad g 31))) 4 (some (am_ad g 32))) 5 (some (am_ad g 33))) 6 (some (am_ad g 34))) 7 (some (am_ad g 35)))))))) H := hP 27 _ rfl
  rw [am_ce_ref (k := 27) (t := 13) (n := 8) (by decide +kernel) (by decide)]
  exact at_ref h (rf_27 g)
theorem wc_28 {g : am_G} {H : Heap} {L : Nat} {xs : Nat → Int32} (hP : va_P (am_D g) am_cl (W0 g) H) : va_at (am_D g) am_cl (am_ad g 28, am_ce g (mu0 L xs) 28) H := by
  have h : va_at (am_D g) am_cl (am_ad g 28, .inr (0, [.int 0, .int 0, .int 0, .int 0, .int 0, .int 0, .int 0])) H := hP 28 _ rfl
  have e : am_ce g (mu0 L xs) 28 = .inr (0, [.int 0, .int 0, .int 0, .int 0, .int 0, .int 0, .int 0]) := (am_ce_obj (k := 28) (ci := 0) (by decide +kernel) (by decide)).trans rfl
  rw [e]; exact h
theorem wc_29 {g : am_G} {H : Heap} {L : Nat} {xs : Nat → Int32} (hP : va_P (am_D g) am_cl (W0 g) H) : va_at (am_D g) am_cl (am_ad g 29, am_ce g (mu0 L xs) 29) H := by
  have h : va_at (am_D g) am_cl (am_ad g 29, .inr (0, [.int 0, .int 0, .int 0, .int 0, .int 0, .int 0, .int 0])) H := hP 29 _ rfl
  have e : am_ce g (mu0 L xs) 29 = .inr (0, [.int 0, .int 0, .int 0, .int 0, .int 0, .int 0, .int 0]) := (am_ce_obj (k := 29) (ci := 0) (by decide +kernel) (by decide)).trans rfl
  rw [e]; exact h
theorem wc_30 {g : am_G} {H : Heap} {L : Nat} {xs : Nat → Int32} (hP : va_P (am_D g) am_cl (W0 g) H) : va_at (am_D g) am_cl (am_ad g 30, am_ce g (mu0 L xs) 30) H := by
  have h : va_at (am_D g) am_cl (am_ad g 30, .inr (0, [.int 0, .int 0, .int 0, .int 0, .int 0, .int 0, .int 0])) H := hP 30 _ rfl
  have e : am_ce g (mu0 L xs) 30 = .inr (0, [.int 0, .int 0, .int 0, .int 0, .int 0, .int 0, .int 0]) := (am_ce_obj (k := 30) (ci := 0) (by decide +kernel) (by decide)).trans rfl
  rw [e]; exact h
theorem wc_31 {g : am_G} {H : Heap} {L : Nat} {xs : Nat → Int32} (hP : va_P (am_D g) am_cl (W0 g) H) : va_at (am_D g) am_cl (am_ad g 31, am_ce g (mu0 L xs) 31) H := by
  have h : va_at (am_D g) am_cl (am_ad g 31, .inr (0, [.int 0, .int 0, .int 0, .int 0, .int 0, .int 0, .int 0])) H := hP 31 _ rfl
  have e : am_ce g (mu0 L xs) 31 = .inr (0, [.int 0, .int 0, .int 0, .int 0, .int 0, .int 0, .int 0]) := (am_ce_obj (k := 31) (ci := 0) (by decide +kernel) (by decide)).trans rfl
  rw [e]; exact h
theorem wc_32 {g : am_G} {H : Heap} {L : Nat} {xs : Nat → Int32} (hP : va_P (am_D g) am_cl (W0 g) H) : va_at (am_D g) am_cl (am_ad g 32, am_ce g (mu0 L xs) 32) H := by
  have h : va_at (am_D g) am_cl (am_ad g 32, .inr (0, [.int 0, .int 0, .int 0, .int 0, .int 0, .int 0, .int 0])) H := hP 32 _ rfl
  have e : am_ce g (mu0 L xs) 32 = .inr (0, [.int 0, .int 0, .int 0, .int 0, .int 0, .int 0, .int 0]) := (am_ce_obj (k := 32) (ci := 0) (by decide +kernel) (by decide)).trans rfl
  rw [e]; exact h
theorem wc_33 {g : am_G} {H : Heap} {L : Nat} {xs : Nat → Int32} (hP : va_P (am_D g) am_cl (W0 g) H) : va_at (am_D g) am_cl (am_ad g 33, am_ce g (mu0 L xs) 33) H := by
  have h : va_at (am_D g) am_cl (am_ad g 33, .inr (0, [.int 0, .int 0, .int 0, .int 0, .int 0, .int 0, .int 0])) H := hP 33 _ rfl
  have e : am_ce g (mu0 L xs) 33 = .inr (0, [.int 0, .int 0, .int 0, .int 0, .int 0, .int 0, .int 0]) := (am_ce_obj (k := 33) (ci := 0) (by decide +kernel) (by decide)).trans rfl
  rw [e]; exact h
theorem wc_34 {g : am_G} {H : Heap} {L : Nat} {xs : Nat → Int32} (hP : va_P (am_D g) am_cl (W0 g) H) : va_at (am_D g) am_cl (am_ad g 34, am_ce g (mu0 L xs) 34) H := by
  have h : va_at (am_D g) am_cl (am_ad g 34, .inr (0, [.int 0, .int 0, .int 0, .int 0, .int 0, .int 0, .int 0])) H := hP 34 _ rfl
  have e : am_ce g (mu0 L xs) 34 = .inr (0, [.int 0, .int 0, .int 0, .int 0, .int 0, .int 0, .int 0]) := (am_ce_obj (k := 34) (ci := 0) (by decide +kernel) (by decide)).trans rfl
  rw [e]; exact h
theorem wc_35 {g : am_G} {H : Heap} {L : Nat} {xs : Nat → Int32} (hP : va_P (am_D g) am_cl (W0 g) H) : va_at (am_D g) am_cl (am_ad g 35, am_ce g (mu0 L xs) 35) H := by
  have h : va_at (am_D g) am_cl (am_ad g 35, .inr (0, [.int 0, .int 0, .int 0, .int 0, .int 0, .int 0, .int 0])) H := hP 35 _ rfl
  have e : am_ce g (mu0 L xs) 35 = .inr (0, [.int 0, .int 0, .int 0, .int 0, .int 0, .int 0, .int 0]) := (am_ce_obj (k := 35) (ci := 0) (by decide +kernel) (by decide)).trans rfl
  rw [e]; exact h
theorem wc_36 {g : am_G} {H : Heap} {L : Nat} {xs : Nat → Int32} (hP : va_P (am_D g) am_cl (W0 g) H) : va_at (am_D g) am_cl (am_ad g 36, am_ce g (mu0 L xs) 36) H := by
  have h : va_at (am_D g) am_cl (am_ad g 36, .inl (am_cA g 10, 10, .inl (upd (upd (upd (upd (upd (upd (upd (upd (upd (upd (fun _ => 0) 0 (-1)) 1 (-1)) 2 (-1)) 3 (-1)) 4 (-1)) 5 (-1)) 6 (-1)) 7 (-1)) 8 (-1)) 9 (-1)))) H := hP 36 _ rfl
  have e : am_ce g (mu0 L xs) 36 = .inl (am_cA g 10, 10, .inl (upd (upd (upd (upd (upd (upd (upd (upd (upd (upd (fun _ => 0) 0 (-1)) 1 (-1)) 2 (-1)) 3 (-1)) 4 (-1)) 5 (-1)) 6 (-1)) 7 (-1)) 8 (-1)) 9 (-1))) := (am_ce_arr (k := 36) (t := 10) (n := 10) (by decide +kernel) (by decide) (by decide)).trans rfl
  rw [e]; exact h
theorem wc_37 {g : am_G} {H : Heap} {L : Nat} {xs : Nat → Int32} (hP : va_P (am_D g) am_cl (W0 g) H) : va_at (am_D g) am_cl (am_ad g 37, am_ce g (mu0 L xs) 37) H := by
  have h : va_at (am_D g) am_cl (am_ad g 37, .inr (3, [.int 0, .ref (am_ad g 38), .int 0, .int 0, .int 0, .int 0])) H := hP 37 _ rfl
  have e : am_ce g (mu0 L xs) 37 = .inr (3, [.int 0, .ref (am_ad g 38), .int 0, .int 0, .int 0, .int 0]) := (am_ce_obj (k := 37) (ci := 3) (by decide +kernel) (by decide)).trans rfl
  rw [e]; exact h
theorem wc_38 {g : am_G} {H : Heap} {L : Nat} {xs : Nat → Int32} (hP : va_P (am_D g) am_cl (W0 g) H) : va_at (am_D g) am_cl (am_ad g 38, am_ce g (mu0 L xs) 38) H := by
  have h : va_at (am_D g) am_cl (am_ad g 38, .inl (am_cA g 11, 120, .inl (fun _ => 0))) H := hP 38 _ rfl
  have e : am_ce g (mu0 L xs) 38 = .inl (am_cA g 11, 120, .inl (fun _ => 0)) := (am_ce_arr (k := 38) (t := 11) (n := 120) (by decide +kernel) (by decide) (by decide)).trans rfl
  rw [e]; exact h
theorem wc_39 {g : am_G} {H : Heap} {L : Nat} {xs : Nat → Int32} (hP : va_P (am_D g) am_cl (W0 g) H) : va_at (am_D g) am_cl (am_ad g 39, am_ce g (mu0 L xs) 39) H := by
  have h : va_at (am_D g) am_cl (am_ad g 39, .inl (am_cA g 14, 4, .inr (.inr (.inr (.inr (va_up (va_up (va_up (va_up (fun _ => none) 0 (some (am_ad g 40))) 1 (some (am_ad g 41))) 2 (some (am_ad g 42))) 3 (some (am_ad g 43)))))))) H := hP 39 _ rfl
  rw [am_ce_ref (k := 39) (t := 14) (n := 4) (by decide +kernel) (by decide)]
  exact at_ref h (rf_39 g)
theorem wc_40 {g : am_G} {H : Heap} {L : Nat} {xs : Nat → Int32} (hP : va_P (am_D g) am_cl (W0 g) H) : va_at (am_D g) am_cl (am_ad g 40, am_ce g (mu0 L xs) 40) H := by
  have h : va_at (am_D g) am_cl (am_ad g 40, .inr (2, [.int 0, .int 0, .ref (am_ad g 44)])) H := hP 40 _ rfl
  have e : am_ce g (mu0 L xs) 40 = .inr (2, [.int 0, .int 0, .ref (am_ad g 44)]) := (am_ce_obj (k := 40) (ci := 2) (by decide +kernel) (by decide)).trans rfl
  rw [e]; exact h
theorem wc_41 {g : am_G} {H : Heap} {L : Nat} {xs : Nat → Int32} (hP : va_P (am_D g) am_cl (W0 g) H) : va_at (am_D g) am_cl (am_ad g 41, am_ce g (mu0 L xs) 41) H := by
  have h : va_at (am_D g) am_cl (am_ad g 41, .inr (2, [.int 0, .int 0, .ref (am_ad g 45)])) H := hP 41 _ rfl
  have e : am_ce g (mu0 L xs) 41 = .inr (2, [.int 0, .int 0, .ref (am_ad g 45)]) := (am_ce_obj (k := 41) (ci := 2) (by decide +kernel) (by decide)).trans rfl
  rw [e]; exact h
theorem wc_42 {g : am_G} {H : Heap} {L : Nat} {xs : Nat → Int32} (hP : va_P (am_D g) am_cl (W0 g) H) : va_at (am_D g) am_cl (am_ad g 42, am_ce g (mu0 L xs) 42) H := by
  have h : va_at (am_D g) am_cl (am_ad g 42, .inr (2, [.int 0, .int 0, .ref (am_ad g 46)])) H := hP 42 _ rfl
  have e : am_ce g (mu0 L xs) 42 = .inr (2, [.int 0, .int 0, .ref (am_ad g 46)]) := (am_ce_obj (k := 42) (ci := 2) (by decide +kernel) (by decide)).trans rfl
  rw [e]; exact h
theorem wc_43 {g : am_G} {H : Heap} {L : Nat} {xs : Nat → Int32} (hP : va_P (am_D g) am_cl (W0 g) H) : va_at (am_D g) am_cl (am_ad g 43, am_ce g (mu0 L xs) 43) H := by
  have h : va_at (am_D g) am_cl (am_ad g 43, .inr (2, [.int 0, .int 0, .ref (am_ad g 47)])) H := hP 43 _ rfl
  have e : am_ce g (mu0 L xs) 43 = .inr (2, [.int 0, .int 0, .ref (am_ad g 47)]) := (am_ce_obj (k := 43) (ci := 2) (by decide +kernel) (by decide)).trans rfl
  rw [e]; exact h
theorem wc_44 {g : am_G} {H : Heap} {L : Nat} {xs : Nat → Int32} (hP : va_P (am_D g) am_cl (W0 g) H) : va_at (am_D g) am_cl (am_ad g 44, am_ce g (mu0 L xs) 44) H := by
  have h : va_at (am_D g) am_cl (am_ad g 44, .inl (am_cA g 10, 40, .inl (fun _ => 0))) H := hP 44 _ rfl
  have e : am_ce g (mu0 L xs) 44 = .inl (am_cA g 10, 40, .inl (fun _ => 0)) := (am_ce_arr (k := 44) (t := 10) (n := 40) (by decide +kernel) (by decide) (by decide)).trans rfl
  rw [e]; exact h
theorem wc_45 {g : am_G} {H : Heap} {L : Nat} {xs : Nat → Int32} (hP : va_P (am_D g) am_cl (W0 g) H) : va_at (am_D g) am_cl (am_ad g 45, am_ce g (mu0 L xs) 45) H := by
  have h : va_at (am_D g) am_cl (am_ad g 45, .inl (am_cA g 10, 40, .inl (fun _ => 0))) H := hP 45 _ rfl
  have e : am_ce g (mu0 L xs) 45 = .inl (am_cA g 10, 40, .inl (fun _ => 0)) := (am_ce_arr (k := 45) (t := 10) (n := 40) (by decide +kernel) (by decide) (by decide)).trans rfl
  rw [e]; exact h
theorem wc_46 {g : am_G} {H : Heap} {L : Nat} {xs : Nat → Int32} (hP : va_P (am_D g) am_cl (W0 g) H) : va_at (am_D g) am_cl (am_ad g 46, am_ce g (mu0 L xs) 46) H := by
  have h : va_at (am_D g) am_cl (am_ad g 46, .inl (am_cA g 10, 40, .inl (fun _ => 0))) H := hP 46 _ rfl
  have e : am_ce g (mu0 L xs) 46 = .inl (am_cA g 10, 40, .inl (fun _ => 0)) := (am_ce_arr (k := 46) (t := 10) (n := 40) (by decide +kernel) (by decide) (by decide)).trans rfl
  rw [e]; exact h
theorem wc_47 {g : am_G} {H : Heap} {L : Nat} {xs : Nat → Int32} (hP : va_P (am_D g) am_cl (W0 g) H) : va_at (am_D g) am_cl (am_ad g 47, am_ce g (mu0 L xs) 47) H := by
  have h : va_at (am_D g) am_cl (am_ad g 47, .inl (am_cA g 10, 40, .inl (fun _ => 0))) H := hP 47 _ rfl
  have e : am_ce g (mu0 L xs) 47 = .inl (am_cA g 10, 40, .inl (fun _ => 0)) := (am_ce_arr (k := 47) (t := 10) (n := 40) (by decide +kernel) (by decide) (by decide)).trans rfl
  rw [e]; exact h
theorem wc_48 {g : am_G} {H : Heap} {L : Nat} {xs : Nat → Int32} (hP : va_P (am_D g) am_cl (W0 g) H) : va_at (am_D g) am_cl (am_ad g 48, am_ce g (mu0 L xs) 48) H := by
  have h : va_at (am_D g) am_cl (am_ad g 48, .inl (am_cA g 10, 7, .inl (fun _ => 0))) H := hP 48 _ rfl
  have e : am_ce g (mu0 L xs) 48 = .inl (am_cA g 10, 7, .inl (fun _ => 0)) := (am_ce_arr (k := 48) (t := 10) (n := 7) (by decide +kernel) (by decide) (by decide)).trans rfl
  rw [e]; exact h
theorem wc_49 {g : am_G} {H : Heap} {L : Nat} {xs : Nat → Int32} (hP : va_P (am_D g) am_cl (W0 g) H) : va_at (am_D g) am_cl (am_ad g 49, am_ce g (mu0 L xs) 49) H := by
  have h : va_at (am_D g) am_cl (am_ad g 49, .inr (5, [.ref (am_ad g 50), .ref (am_ad g 51), .ref (am_ad g 52), .int 0, .ref (am_ad g 53), .ref (am_ad g 54), .int 0, .int 0, .int 0, .int 0, .long 0, .ref (am_ad g 55), .ref (am_ad g 56), .ref (am_ad g 57), .ref (am_ad g 58), .ref (am_ad g 59), .ref (am_ad g 60), .ref (am_ad g 61)])) H := hP 49 _ rfl
  have e : am_ce g (mu0 L xs) 49 = .inr (5, [.ref (am_ad g 50), .ref (am_ad g 51), .ref (am_ad g 52), .int 0, .ref (am_ad g 53), .ref (am_ad g 54), .int 0, .int 0, .int 0, .int 0, .long 0, .ref (am_ad g 55), .ref (am_ad g 56), .ref (am_ad g 57), .ref (am_ad g 58), .ref (am_ad g 59), .ref (am_ad g 60), .ref (am_ad g 61)]) := (am_ce_obj (k := 49) (ci := 5) (by decide +kernel) (by decide)).trans rfl
  rw [e]; exact h
theorem wc_50 {g : am_G} {H : Heap} {L : Nat} {xs : Nat → Int32} (hP : va_P (am_D g) am_cl (W0 g) H) : va_at (am_D g) am_cl (am_ad g 50, am_ce g (mu0 L xs) 50) H := by
  have h : va_at (am_D g) am_cl (am_ad g 50, .inl (am_cA g 10, 76, .inl (upd (upd (upd (upd (upd (upd (upd (upd (upd (upd (upd (fun _ => 0) 2 1) 66 (-1)) 67 (-1)) 68 (-1)) 69 (-1)) 70 (-1)) 71 (-1)) 72 (-1)) 73 (-1)) 74 (-1)) 75 (-1)))) H := hP 50 _ rfl
  have e : am_ce g (mu0 L xs) 50 = .inl (am_cA g 10, 76, .inl (upd (upd (upd (upd (upd (upd (upd (upd (upd (upd (upd (fun _ => 0) 2 1) 66 (-1)) 67 (-1)) 68 (-1)) 69 (-1)) 70 (-1)) 71 (-1)) 72 (-1)) 73 (-1)) 74 (-1)) 75 (-1))) := (am_ce_arr (k := 50) (t := 10) (n := 76) (by decide +kernel) (by decide) (by decide)).trans rfl
  rw [e]; exact h
theorem wc_51 {g : am_G} {H : Heap} {L : Nat} {xs : Nat → Int32} (hP : va_P (am_D g) am_cl (W0 g) H) : va_at (am_D g) am_cl (am_ad g 51, am_ce g (mu0 L xs) 51) H := by
  have h : va_at (am_D g) am_cl (am_ad g 51, .inl (am_cA g 10, 76, .inl (fun _ => 0))) H := hP 51 _ rfl
  have e : am_ce g (mu0 L xs) 51 = .inl (am_cA g 10, 76, .inl (fun _ => 0)) := (am_ce_arr (k := 51) (t := 10) (n := 76) (by decide +kernel) (by decide) (by decide)).trans rfl
  rw [e]; exact h
theorem wc_52 {g : am_G} {H : Heap} {L : Nat} {xs : Nat → Int32} (hP : va_P (am_D g) am_cl (W0 g) H) : va_at (am_D g) am_cl (am_ad g 52, am_ce g (mu0 L xs) 52) H := by
  have h : va_at (am_D g) am_cl (am_ad g 52, .inl (am_cA g 10, 76, .inl (fun _ => 0))) H := hP 52 _ rfl
  have e : am_ce g (mu0 L xs) 52 = .inl (am_cA g 10, 76, .inl (fun _ => 0)) := (am_ce_arr (k := 52) (t := 10) (n := 76) (by decide +kernel) (by decide) (by decide)).trans rfl
  rw [e]; exact h
theorem wc_53 {g : am_G} {H : Heap} {L : Nat} {xs : Nat → Int32} (hP : va_P (am_D g) am_cl (W0 g) H) : va_at (am_D g) am_cl (am_ad g 53, am_ce g (mu0 L xs) 53) H := by
  have h : va_at (am_D g) am_cl (am_ad g 53, .inl (am_cA g 10, 7, .inl (fun _ => 0))) H := hP 53 _ rfl
  have e : am_ce g (mu0 L xs) 53 = .inl (am_cA g 10, 7, .inl (fun _ => 0)) := (am_ce_arr (k := 53) (t := 10) (n := 7) (by decide +kernel) (by decide) (by decide)).trans rfl
  rw [e]; exact h
theorem wc_54 {g : am_G} {H : Heap} {L : Nat} {xs : Nat → Int32} (hP : va_P (am_D g) am_cl (W0 g) H) : va_at (am_D g) am_cl (am_ad g 54, am_ce g (mu0 L xs) 54) H := by
  have h : va_at (am_D g) am_cl (am_ad g 54, .inl (am_cA g 10, 120, .inl (fun _ => 0))) H := hP 54 _ rfl
  have e : am_ce g (mu0 L xs) 54 = .inl (am_cA g 10, 120, .inl (fun _ => 0)) := (am_ce_arr (k := 54) (t := 10) (n := 120) (by decide +kernel) (by decide) (by decide)).trans rfl
  rw [e]; exact h
theorem wc_55 {g : am_G} {H : Heap} {L : Nat} {xs : Nat → Int32} (hP : va_P (am_D g) am_cl (W0 g) H) : va_at (am_D g) am_cl (am_ad g 55, am_ce g (mu0 L xs) 55) H := by
  have h : va_at (am_D g) am_cl (am_ad g 55, .inl (am_cA g 12, 63, .inl (ffn (fun _ => 0) cs_49))) H := hP 55 _ rfl
  have e : am_ce g (mu0 L xs) 55 = .inl (am_cA g 12, 63, .inl (ffn (fun _ => 0) cs_49)) := (am_ce_arr (k := 55) (t := 12) (n := 63) (by decide +kernel) (by decide) (by decide)).trans rfl
  rw [e]; exact h
theorem wc_56 {g : am_G} {H : Heap} {L : Nat} {xs : Nat → Int32} (hP : va_P (am_D g) am_cl (W0 g) H) : va_at (am_D g) am_cl (am_ad g 56, am_ce g (mu0 L xs) 56) H := by
  have h : va_at (am_D g) am_cl (am_ad g 56, .inl (am_cA g 12, 36, .inl (ffn (fun _ => 0) cs_429))) H := hP 56 _ rfl
  have e : am_ce g (mu0 L xs) 56 = .inl (am_cA g 12, 36, .inl (ffn (fun _ => 0) cs_429)) := (am_ce_arr (k := 56) (t := 12) (n := 36) (by decide +kernel) (by decide) (by decide)).trans rfl
  rw [e]; exact h
theorem wc_57 {g : am_G} {H : Heap} {L : Nat} {xs : Nat → Int32} (hP : va_P (am_D g) am_cl (W0 g) H) : va_at (am_D g) am_cl (am_ad g 57, am_ce g (mu0 L xs) 57) H := by
  have h : va_at (am_D g) am_cl (am_ad g 57, .inl (am_cA g 12, 18, .inl (ffn (fun _ => 0) cs_647))) H := hP 57 _ rfl
  have e : am_ce g (mu0 L xs) 57 = .inl (am_cA g 12, 18, .inl (ffn (fun _ => 0) cs_647)) := (am_ce_arr (k := 57) (t := 12) (n := 18) (by decide +kernel) (by decide) (by decide)).trans rfl
  rw [e]; exact h
theorem wc_58 {g : am_G} {H : Heap} {L : Nat} {xs : Nat → Int32} (hP : va_P (am_D g) am_cl (W0 g) H) : va_at (am_D g) am_cl (am_ad g 58, am_ce g (mu0 L xs) 58) H := by
  have h : va_at (am_D g) am_cl (am_ad g 58, .inl (am_cA g 10, 4, .inl (fun _ => 0))) H := hP 58 _ rfl
  have e : am_ce g (mu0 L xs) 58 = .inl (am_cA g 10, 4, .inl (fun _ => 0)) := (am_ce_arr (k := 58) (t := 10) (n := 4) (by decide +kernel) (by decide) (by decide)).trans rfl
  rw [e]; exact h
theorem wc_59 {g : am_G} {H : Heap} {L : Nat} {xs : Nat → Int32} (hP : va_P (am_D g) am_cl (W0 g) H) : va_at (am_D g) am_cl (am_ad g 59, am_ce g (mu0 L xs) 59) H := by
  have h : va_at (am_D g) am_cl (am_ad g 59, .inl (am_cA g 10, 4, .inl (fun _ => 0))) H := hP 59 _ rfl
  have e : am_ce g (mu0 L xs) 59 = .inl (am_cA g 10, 4, .inl (fun _ => 0)) := (am_ce_arr (k := 59) (t := 10) (n := 4) (by decide +kernel) (by decide) (by decide)).trans rfl
  rw [e]; exact h
theorem wc_60 {g : am_G} {H : Heap} {L : Nat} {xs : Nat → Int32} (hP : va_P (am_D g) am_cl (W0 g) H) : va_at (am_D g) am_cl (am_ad g 60, am_ce g (mu0 L xs) 60) H := by
  have h : va_at (am_D g) am_cl (am_ad g 60, .inl (am_cA g 10, 160, .inl (fun _ => 0))) H := hP 60 _ rfl
  have e : am_ce g (mu0 L xs) 60 = .inl (am_cA g 10, 160, .inl (fun _ => 0)) := (am_ce_arr (k := 60) (t := 10) (n := 160) (by decide +kernel) (by decide) (by decide)).trans rfl
  rw [e]; exact h
theorem wc_61 {g : am_G} {H : Heap} {L : Nat} {xs : Nat → Int32} (hP : va_P (am_D g) am_cl (W0 g) H) : va_at (am_D g) am_cl (am_ad g 61, am_ce g (mu0 L xs) 61) H := by
  have h : va_at (am_D g) am_cl (am_ad g 61, .inl (am_cA g 10, 40, .inl (fun _ => 0))) H := hP 61 _ rfl
  have e : am_ce g (mu0 L xs) 61 = .inl (am_cA g 10, 40, .inl (fun _ => 0)) := (am_ce_arr (k := 61) (t := 10) (n := 40) (by decide +kernel) (by decide) (by decide)).trans rfl
  rw [e]; exact h
theorem st_at {g : am_G} {H : Heap} {L : Nat} {xs : Nat → Int32} (hP : va_P (am_D g) am_cl (W0 g) H) (k : Nat) (hk : k < 62) : va_at (am_D g) am_cl (am_ad g k, am_ce g (mu0 L xs) k) H := by
  rcases Nat.lt_or_ge k 31 with h31 | h31
  · rcases Nat.lt_or_ge k 15 with h15 | h15
    · rcases Nat.lt_or_ge k 7 with h7 | h7
      · rcases Nat.lt_or_ge k 3 with h3 | h3
        · rcases Nat.lt_or_ge k 1 with h1 | h1
          · obtain rfl : k = 0 := by omega
            exact wc_0 hP
          · rcases Nat.lt_or_ge k 2 with h2 | h2
            · obtain rfl : k = 1 := by omega
              exact wc_1 hP
            · obtain rfl : k = 2 := by omega
              exact wc_2 hP
        · rcases Nat.lt_or_ge k 5 with h5 | h5
          · rcases Nat.lt_or_ge k 4 with h4 | h4
            · obtain rfl : k = 3 := by omega
              exact wc_3 hP
            · obtain rfl : k = 4 := by omega
              exact wc_4 hP
          · rcases Nat.lt_or_ge k 6 with h6 | h6
            · obtain rfl : k = 5 := by omega
              exact wc_5 hP
            · obtain rfl : k = 6 := by omega
              exact wc_6 hP
      · rcases Nat.lt_or_ge k 11 with h11 | h11
        · rcases Nat.lt_or_ge k 9 with h9 | h9
          · rcases Nat.lt_or_ge k 8 with h8 | h8
            · obtain rfl : k = 7 := by omega
              exact wc_7 hP
            · obtain rfl : k = 8 := by omega
              exact wc_8 hP
          · rcases Nat.lt_or_ge k 10 with h10 | h10
            · obtain rfl : k = 9 := by omega
              exact wc_9 hP
            · obtain rfl : k = 10 := by omega
              exact wc_10 hP
        · rcases Nat.lt_or_ge k 13 with h13 | h13
          · rcases Nat.lt_or_ge k 12 with h12 | h12
            · obtain rfl : k = 11 := by omega
              exact wc_11 hP
            · obtain rfl : k = 12 := by omega
              exact wc_12 hP
          · rcases Nat.lt_or_ge k 14 with h14 | h14
            · obtain rfl : k = 13 := by omega
              exact wc_13 hP
            · obtain rfl : k = 14 := by omega
              exact wc_14 hP
    · rcases Nat.lt_or_ge k 23 with h23 | h23
      · rcases Nat.lt_or_ge k 19 with h19 | h19
        · rcases Nat.lt_or_ge k 17 with h17 | h17
          · rcases Nat.lt_or_ge k 16 with h16 | h16
            · obtain rfl : k = 15 := by omega
              exact wc_15 hP
            · obtain rfl : k = 16 := by omega
              exact wc_16 hP
          · rcases Nat.lt_or_ge k 18 with h18 | h18
            · obtain rfl : k = 17 := by omega
              exact wc_17 hP
            · obtain rfl : k = 18 := by omega
              exact wc_18 hP
        · rcases Nat.lt_or_ge k 21 with h21 | h21
          · rcases Nat.lt_or_ge k 20 with h20 | h20
            · obtain rfl : k = 19 := by omega
              exact wc_19 hP
            · obtain rfl : k = 20 := by omega
              exact wc_20 hP
          · rcases Nat.lt_or_ge k 22 with h22 | h22
            · obtain rfl : k = 21 := by omega
              exact wc_21 hP
            · obtain rfl : k = 22 := by omega
              exact wc_22 hP
      · rcases Nat.lt_or_ge k 27 with h27 | h27
        · rcases Nat.lt_or_ge k 25 with h25 | h25
          · rcases Nat.lt_or_ge k 24 with h24 | h24
            · obtain rfl : k = 23 := by omega
              exact wc_23 hP
            · obtain rfl : k = 24 := by omega
              exact wc_24 hP
          · rcases Nat.lt_or_ge k 26 with h26 | h26
            · obtain rfl : k = 25 := by omega
              exact wc_25 hP
            · obtain rfl : k = 26 := by omega
              exact wc_26 hP
        · rcases Nat.lt_or_ge k 29 with h29 | h29
          · rcases Nat.lt_or_ge k 28 with h28 | h28
            · obtain rfl : k = 27 := by omega
              exact wc_27 hP
            · obtain rfl : k = 28 := by omega
              exact wc_28 hP
          · rcases Nat.lt_or_ge k 30 with h30 | h30
            · obtain rfl : k = 29 := by omega
              exact wc_29 hP
            · obtain rfl : k = 30 := by omega
              exact wc_30 hP
  · rcases Nat.lt_or_ge k 46 with h46 | h46
    · rcases Nat.lt_or_ge k 38 with h38 | h38
      · rcases Nat.lt_or_ge k 34 with h34 | h34
        · rcases Nat.lt_or_ge k 32 with h32 | h32
          · obtain rfl : k = 31 := by omega
            exact wc_31 hP
          · rcases Nat.lt_or_ge k 33 with h33 | h33
            · obtain rfl : k = 32 := by omega
              exact wc_32 hP
            · obtain rfl : k = 33 := by omega
              exact wc_33 hP
        · rcases Nat.lt_or_ge k 36 with h36 | h36
          · rcases Nat.lt_or_ge k 35 with h35 | h35
            · obtain rfl : k = 34 := by omega
              exact wc_34 hP
            · obtain rfl : k = 35 := by omega
              exact wc_35 hP
          · rcases Nat.lt_or_ge k 37 with h37 | h37
            · obtain rfl : k = 36 := by omega
              exact wc_36 hP
            · obtain rfl : k = 37 := by omega
              exact wc_37 hP
      · rcases Nat.lt_or_ge k 42 with h42 | h42
        · rcases Nat.lt_or_ge k 40 with h40 | h40
          · rcases Nat.lt_or_ge k 39 with h39 | h39
            · obtain rfl : k = 38 := by omega
              exact wc_38 hP
            · obtain rfl : k = 39 := by omega
              exact wc_39 hP
          · rcases Nat.lt_or_ge k 41 with h41 | h41
            · obtain rfl : k = 40 := by omega
              exact wc_40 hP
            · obtain rfl : k = 41 := by omega
              exact wc_41 hP
        · rcases Nat.lt_or_ge k 44 with h44 | h44
          · rcases Nat.lt_or_ge k 43 with h43 | h43
            · obtain rfl : k = 42 := by omega
              exact wc_42 hP
            · obtain rfl : k = 43 := by omega
              exact wc_43 hP
          · rcases Nat.lt_or_ge k 45 with h45 | h45
            · obtain rfl : k = 44 := by omega
              exact wc_44 hP
            · obtain rfl : k = 45 := by omega
              exact wc_45 hP
    · rcases Nat.lt_or_ge k 54 with h54 | h54
      · rcases Nat.lt_or_ge k 50 with h50 | h50
        · rcases Nat.lt_or_ge k 48 with h48 | h48
          · rcases Nat.lt_or_ge k 47 with h47 | h47
            · obtain rfl : k = 46 := by omega
              exact wc_46 hP
            · obtain rfl : k = 47 := by omega
              exact wc_47 hP
          · rcases Nat.lt_or_ge k 49 with h49 | h49
            · obtain rfl : k = 48 := by omega
              exact wc_48 hP
            · obtain rfl : k = 49 := by omega
              exact wc_49 hP
        · rcases Nat.lt_or_ge k 52 with h52 | h52
          · rcases Nat.lt_or_ge k 51 with h51 | h51
            · obtain rfl : k = 50 := by omega
              exact wc_50 hP
            · obtain rfl : k = 51 := by omega
              exact wc_51 hP
          · rcases Nat.lt_or_ge k 53 with h53 | h53
            · obtain rfl : k = 52 := by omega
              exact wc_52 hP
            · obtain rfl : k = 53 := by omega
              exact wc_53 hP
      · rcases Nat.lt_or_ge k 58 with h58 | h58
        · rcases Nat.lt_or_ge k 56 with h56 | h56
          · rcases Nat.lt_or_ge k 55 with h55 | h55
            · obtain rfl : k = 54 := by omega
              exact wc_54 hP
            · obtain rfl : k = 55 := by omega
              exact wc_55 hP
          · rcases Nat.lt_or_ge k 57 with h57 | h57
            · obtain rfl : k = 56 := by omega
              exact wc_56 hP
            · obtain rfl : k = 57 := by omega
              exact wc_57 hP
        · rcases Nat.lt_or_ge k 60 with h60 | h60
          · rcases Nat.lt_or_ge k 59 with h59 | h59
            · obtain rfl : k = 58 := by omega
              exact wc_58 hP
            · obtain rfl : k = 59 := by omega
              exact wc_59 hP
          · rcases Nat.lt_or_ge k 61 with h61 | h61
            · obtain rfl : k = 60 := by omega
              exact wc_60 hP
            · obtain rfl : k = 61 := by omega
              exact wc_61 hP
theorem st_P {g : am_G} {H : Heap} {L : Nat} {xs : Nat → Int32} (hP : va_P (am_D g) am_cl (W0 g) H) : va_P (am_D g) am_cl (am_cw g (mu0 L xs)) H := by
  intro k q hk
  have h62 : k < 62 := by
    have := (List.getElem?_eq_some_iff.mp hk).1
    simpa [am_cw] using this
  rw [am_cw_get h62] at hk
  cases hk
  exact st_at hP k h62
theorem W0_at (g : am_G) (k : Nat) (hk : k < 62) : ∃ e, (W0 g)[k]? = some (am_ad g k, e) := by
  rcases Nat.lt_or_ge k 31 with h31 | h31
  · rcases Nat.lt_or_ge k 15 with h15 | h15
    · rcases Nat.lt_or_ge k 7 with h7 | h7
      · rcases Nat.lt_or_ge k 3 with h3 | h3
        · rcases Nat.lt_or_ge k 1 with h1 | h1
          · obtain rfl : k = 0 := by omega
            exact ⟨_, rfl⟩
          · rcases Nat.lt_or_ge k 2 with h2 | h2
            · obtain rfl : k = 1 := by omega
              exact ⟨_, rfl⟩
            · obtain rfl : k = 2 := by omega
              exact ⟨_, rfl⟩
        · rcases Nat.lt_or_ge k 5 with h5 | h5
          · rcases Nat.lt_or_ge k 4 with h4 | h4
            · obtain rfl : k = 3 := by omega
              exact ⟨_, rfl⟩
            · obtain rfl : k = 4 := by omega
              exact ⟨_, rfl⟩
          · rcases Nat.lt_or_ge k 6 with h6 | h6
            · obtain rfl : k = 5 := by omega
              exact ⟨_, rfl⟩
            · obtain rfl : k = 6 := by omega
              exact ⟨_, rfl⟩
      · rcases Nat.lt_or_ge k 11 with h11 | h11
        · rcases Nat.lt_or_ge k 9 with h9 | h9
          · rcases Nat.lt_or_ge k 8 with h8 | h8
            · obtain rfl : k = 7 := by omega
              exact ⟨_, rfl⟩
            · obtain rfl : k = 8 := by omega
              exact ⟨_, rfl⟩
          · rcases Nat.lt_or_ge k 10 with h10 | h10
            · obtain rfl : k = 9 := by omega
              exact ⟨_, rfl⟩
            · obtain rfl : k = 10 := by omega
              exact ⟨_, rfl⟩
        · rcases Nat.lt_or_ge k 13 with h13 | h13
          · rcases Nat.lt_or_ge k 12 with h12 | h12
            · obtain rfl : k = 11 := by omega
              exact ⟨_, rfl⟩
            · obtain rfl : k = 12 := by omega
              exact ⟨_, rfl⟩
          · rcases Nat.lt_or_ge k 14 with h14 | h14
            · obtain rfl : k = 13 := by omega
              exact ⟨_, rfl⟩
            · obtain rfl : k = 14 := by omega
              exact ⟨_, rfl⟩
    · rcases Nat.lt_or_ge k 23 with h23 | h23
      · rcases Nat.lt_or_ge k 19 with h19 | h19
        · rcases Nat.lt_or_ge k 17 with h17 | h17
          · rcases Nat.lt_or_ge k 16 with h16 | h16
            · obtain rfl : k = 15 := by omega
              exact ⟨_, rfl⟩
            · obtain rfl : k = 16 := by omega
              exact ⟨_, rfl⟩
          · rcases Nat.lt_or_ge k 18 with h18 | h18
            · obtain rfl : k = 17 := by omega
              exact ⟨_, rfl⟩
            · obtain rfl : k = 18 := by omega
              exact ⟨_, rfl⟩
        · rcases Nat.lt_or_ge k 21 with h21 | h21
          · rcases Nat.lt_or_ge k 20 with h20 | h20
            · obtain rfl : k = 19 := by omega
              exact ⟨_, rfl⟩
            · obtain rfl : k = 20 := by omega
              exact ⟨_, rfl⟩
          · rcases Nat.lt_or_ge k 22 with h22 | h22
            · obtain rfl : k = 21 := by omega
              exact ⟨_, rfl⟩
            · obtain rfl : k = 22 := by omega
              exact ⟨_, rfl⟩
      · rcases Nat.lt_or_ge k 27 with h27 | h27
        · rcases Nat.lt_or_ge k 25 with h25 | h25
          · rcases Nat.lt_or_ge k 24 with h24 | h24
            · obtain rfl : k = 23 := by omega
              exact ⟨_, rfl⟩
            · obtain rfl : k = 24 := by omega
              exact ⟨_, rfl⟩
          · rcases Nat.lt_or_ge k 26 with h26 | h26
            · obtain rfl : k = 25 := by omega
              exact ⟨_, rfl⟩
            · obtain rfl : k = 26 := by omega
              exact ⟨_, rfl⟩
        · rcases Nat.lt_or_ge k 29 with h29 | h29
          · rcases Nat.lt_or_ge k 28 with h28 | h28
            · obtain rfl : k = 27 := by omega
              exact ⟨_, rfl⟩
            · obtain rfl : k = 28 := by omega
              exact ⟨_, rfl⟩
          · rcases Nat.lt_or_ge k 30 with h30 | h30
            · obtain rfl : k = 29 := by omega
              exact ⟨_, rfl⟩
            · obtain rfl : k = 30 := by omega
              exact ⟨_, rfl⟩
  · rcases Nat.lt_or_ge k 46 with h46 | h46
    · rcases Nat.lt_or_ge k 38 with h38 | h38
      · rcases Nat.lt_or_ge k 34 with h34 | h34
        · rcases Nat.lt_or_ge k 32 with h32 | h32
          · obtain rfl : k = 31 := by omega
            exact ⟨_, rfl⟩
          · rcases Nat.lt_or_ge k 33 with h33 | h33
            · obtain rfl : k = 32 := by omega
              exact ⟨_, rfl⟩
            · obtain rfl : k = 33 := by omega
              exact ⟨_, rfl⟩
        · rcases Nat.lt_or_ge k 36 with h36 | h36
          · rcases Nat.lt_or_ge k 35 with h35 | h35
            · obtain rfl : k = 34 := by omega
              exact ⟨_, rfl⟩
            · obtain rfl : k = 35 := by omega
              exact ⟨_, rfl⟩
          · rcases Nat.lt_or_ge k 37 with h37 | h37
            · obtain rfl : k = 36 := by omega
              exact ⟨_, rfl⟩
            · obtain rfl : k = 37 := by omega
              exact ⟨_, rfl⟩
      · rcases Nat.lt_or_ge k 42 with h42 | h42
        · rcases Nat.lt_or_ge k 40 with h40 | h40
          · rcases Nat.lt_or_ge k 39 with h39 | h39
            · obtain rfl : k = 38 := by omega
              exact ⟨_, rfl⟩
            · obtain rfl : k = 39 := by omega
              exact ⟨_, rfl⟩
          · rcases Nat.lt_or_ge k 41 with h41 | h41
            · obtain rfl : k = 40 := by omega
              exact ⟨_, rfl⟩
            · obtain rfl : k = 41 := by omega
              exact ⟨_, rfl⟩
        · rcases Nat.lt_or_ge k 44 with h44 | h44
          · rcases Nat.lt_or_ge k 43 with h43 | h43
            · obtain rfl : k = 42 := by omega
              exact ⟨_, rfl⟩
            · obtain rfl : k = 43 := by omega
              exact ⟨_, rfl⟩
          · rcases Nat.lt_or_ge k 45 with h45 | h45
            · obtain rfl : k = 44 := by omega
              exact ⟨_, rfl⟩
            · obtain rfl : k = 45 := by omega
              exact ⟨_, rfl⟩
    · rcases Nat.lt_or_ge k 54 with h54 | h54
      · rcases Nat.lt_or_ge k 50 with h50 | h50
        · rcases Nat.lt_or_ge k 48 with h48 | h48
          · rcases Nat.lt_or_ge k 47 with h47 | h47
            · obtain rfl : k = 46 := by omega
              exact ⟨_, rfl⟩
            · obtain rfl : k = 47 := by omega
              exact ⟨_, rfl⟩
          · rcases Nat.lt_or_ge k 49 with h49 | h49
            · obtain rfl : k = 48 := by omega
              exact ⟨_, rfl⟩
            · obtain rfl : k = 49 := by omega
              exact ⟨_, rfl⟩
        · rcases Nat.lt_or_ge k 52 with h52 | h52
          · rcases Nat.lt_or_ge k 51 with h51 | h51
            · obtain rfl : k = 50 := by omega
              exact ⟨_, rfl⟩
            · obtain rfl : k = 51 := by omega
              exact ⟨_, rfl⟩
          · rcases Nat.lt_or_ge k 53 with h53 | h53
            · obtain rfl : k = 52 := by omega
              exact ⟨_, rfl⟩
            · obtain rfl : k = 53 := by omega
              exact ⟨_, rfl⟩
      · rcases Nat.lt_or_ge k 58 with h58 | h58
        · rcases Nat.lt_or_ge k 56 with h56 | h56
          · rcases Nat.lt_or_ge k 55 with h55 | h55
            · obtain rfl : k = 54 := by omega
              exact ⟨_, rfl⟩
            · obtain rfl : k = 55 := by omega
              exact ⟨_, rfl⟩
          · rcases Nat.lt_or_ge k 57 with h57 | h57
            · obtain rfl : k = 56 := by omega
              exact ⟨_, rfl⟩
            · obtain rfl : k = 57 := by omega
              exact ⟨_, rfl⟩
        · rcases Nat.lt_or_ge k 60 with h60 | h60
          · rcases Nat.lt_or_ge k 59 with h59 | h59
            · obtain rfl : k = 58 := by omega
              exact ⟨_, rfl⟩
            · obtain rfl : k = 59 := by omega
              exact ⟨_, rfl⟩
          · rcases Nat.lt_or_ge k 61 with h61 | h61
            · obtain rfl : k = 60 := by omega
              exact ⟨_, rfl⟩
            · obtain rfl : k = 61 := by omega
              exact ⟨_, rfl⟩
theorem st_D {g : am_G} {A : Nat → Prop} (h : va_D A (W0 g)) : (∀ i j, i < 62 → j < 62 → am_ad g i = am_ad g j → i = j) ∧ ∀ k, k < 62 → A (am_ad g k) := by
  refine ⟨fun i j hi hj e => ?_, fun k hk => ?_⟩
  · obtain ⟨e1, h1⟩ := W0_at g i hi
    obtain ⟨e2, h2⟩ := W0_at g j hj
    exact h.1 i j _ _ h1 h2 e
  · obtain ⟨e1, h1⟩ := W0_at g k hk
    exact h.2 k _ h1
def s0 : cS := (fun i => if i = 2 then 1 else 0, fun _ => 0, fun _ _ => 0, fun _ => -1)
def wS0 : wS := (fun _ => 0, fun _ => 0, fun _ _ => 0)
theorem sp0_e : ∀ i, i < 10 → sp0 i = -1 := by decide +kernel
theorem ms0_e : ∀ i, i < 10 → ms0 (66 + i) = -1 := by decide +kernel
theorem ms0_b : ∀ i, i < 6 → ms0 (4 + i) = 0 := by decide +kernel
theorem sn0 : sn s0 = 0 := by decide +kernel
theorem lt55 : ∀ w, w < 7 → ∀ j, j < 9 → mu00 55 (9 * w + j) = nI (if j < sl (0 + w) then chN (0 + w) j else 32) := by decide +kernel
theorem lt56 : ∀ w, w < 4 → ∀ j, j < 9 → mu00 56 (9 * w + j) = nI (if j < sl (7 + w) then chN (7 + w) j else 32) := by decide +kernel
theorem lt57 : ∀ w, w < 2 → ∀ j, j < 9 → mu00 57 (9 * w + j) = nI (if j < sl (11 + w) then chN (11 + w) j else 32) := by decide +kernel
theorem Iv0 : Iv s0 := ⟨⟨0, by omega, rfl⟩, ⟨0, by omega, rfl⟩, ⟨0, by omega, rfl⟩, fun i _ => ⟨0, by omega, rfl⟩, fun c f hc _ => by rw [sn0] at hc; omega, fun i _ => Or.inl rfl⟩
theorem Rp0 (L : Nat) (xs : Nat → Int32) : Rp 1 (mu0 L xs) s0 := ⟨⟨rfl, rfl, rfl, rfl⟩, fun i _ => rfl, fun c f hc _ => by rw [sn0] at hc; omega, fun i hi => sp0_e i hi⟩
theorem RpM0 (L : Nat) (xs : Nat → Int32) : RpM 50 (mu0 L xs) s0 := ⟨⟨(by decide +kernel : ms0 0 = 0), (by decide +kernel : ms0 1 = 0), (by decide +kernel : ms0 2 = 1), (by decide +kernel : ms0 3 = 0)⟩, fun i hi => ms0_b i hi, fun c f hc _ => by rw [sn0] at hc; omega, fun i hi => ms0_e i hi⟩
theorem m0_z (L : Nat) (xs : Nat → Int32) (k : Nat) (h : k = 0 ∨ (37 ≤ k ∧ k < 50) ∨ k = 53 ∨ k = 54 ∨ (58 ≤ k ∧ k < 62)) (j : Nat) : (mu0 L xs).1 k j = 0 := by
  show (if k < 62 then mu00 k else if k = 102 then xs else (fun _ => nI L)) j = 0
  rw [if_pos (by omega)]
  unfold mu00
  rw [if_neg (by omega), if_neg (by omega), if_neg (by omega), if_neg (by omega), if_neg (by omega), if_neg (by omega)]
theorem INV0 (L : Nat) (xs : Nat → Int32) : INV L xs (mu0 L xs) := by
  have z := m0_z L xs
  refine ⟨s0, wS0, fun _ => 0, 0, Rp0 L xs, RpM0 L xs, Iv0, ?_, ?_, ?_, ?_, ?_, ?_, ?_, ?_, ?_⟩
  · exact fun i hi => ⟨z _ (by omega) _, z _ (by omega) _, fun j _ => z _ (by omega) _⟩
  · exact fun i hi => ⟨z _ (by omega) _, z _ (by omega) _, fun j _ => z _ (by omega) _⟩
  · exact fun i hi => ⟨Or.inl rfl, 0, by omega, rfl⟩
  · exact ⟨by omega, z _ (by omega) _, fun i hi => absurd hi (by omega)⟩
  · exact ⟨by omega, z _ (by omega) _, fun i hi => absurd hi (by omega)⟩
  · intro a o N hW w hw j hj
    rcases hW with ⟨rfl, rfl, rfl⟩ | ⟨rfl, rfl, rfl⟩ | ⟨rfl, rfl, rfl⟩
    · exact lt55 w hw j hj
    · exact lt56 w hw j hj
    · exact lt57 w hw j hj
  · exact fun i hi => (z 48 (by omega) i).trans (z 53 (by omega) i).symm
  · exact ⟨(z 0 (by omega) 3).trans (z 49 (by omega) 3).symm, fun q => absurd (z 0 (by omega) 3) q⟩
  · exact ⟨rfl, fun j => rfl⟩
