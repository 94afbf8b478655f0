/-! ===== both sides, act by act ===== -/
theorem os_sheet (i b n : Int32) (w : wS) (h : IS w) : okS (p_sheet i b n w) := by
  unfold p_sheet
  split
  · split
    · rename_i q
      split
      · exact (by decide : (6 : Nat) < 7)
      · rename_i q2
        split
        · rename_i q3
          have hb : b = 0 ∨ b = 8 ∨ b = 16 ∨ b = 32 := by
            unfold okB at q
            simp only [Bool.or_eq_true, decide_eq_true_eq] at q
            rcases q with ((q | q) | q) | q
            · exact Or.inl q
            · exact Or.inr (Or.inl q)
            · exact Or.inr (Or.inr (Or.inl q))
            · exact Or.inr (Or.inr (Or.inr q))
          obtain ⟨n', hn', en⟩ := wi_nI (k := 40) (by omega) (show wthn n (nI 40) from ⟨Int32.not_lt.mp q2, q3⟩)
          have hN : ∃ n', n' ≤ 40 ∧ (if b = 0 then 0 else n) = nI n' := by
            split
            · exact ⟨0, by omega, rfl⟩
            · exact ⟨n', hn', en⟩
          intro j hj
          by_cases e : j = i.toNatClampNeg
          · refine ⟨?_, ?_⟩
            · simp only [wSh, if_pos e]; exact hb
            · simp only [wSh, if_pos e]; exact hN
          · refine ⟨?_, ?_⟩
            · simp only [wSh, if_neg e]; exact (h j hj).1
            · simp only [wSh, if_neg e]; exact (h j hj).2
        · exact (by decide : (0 : Nat) < 7)
    · exact (by decide : (0 : Nat) < 7)
  · exact (by decide : (0 : Nat) < 7)
theorem os_write (i j v : Int32) (w : wS) (h : IS w) : okS (p_write i j v w) := by
  unfold p_write
  split
  · split
    · exact (by decide : (5 : Nat) < 7)
    · split
      · exact h
      · exact (by decide : (0 : Nat) < 7)
  · exact (by decide : (0 : Nat) < 7)
theorem os_copy (i f j t n : Int32) (w : wS) (h : IS w) : okS (p_copy i f j t n w) := by
  unfold p_copy
  split
  · split
    · split
      · exact (by decide : (5 : Nat) < 7)
      · split
        · split
          · split
            · exact h
            · exact (by decide : (0 : Nat) < 7)
          · exact (by decide : (0 : Nat) < 7)
        · exact (by decide : (2 : Nat) < 7)
    · exact (by decide : (0 : Nat) < 7)
  · exact (by decide : (0 : Nat) < 7)
theorem st_air (v : Int32) {L : Nat} {xs : Nat → Int32} {μ : am_M} (hI : INV L xs μ) {Q : am_Q} (h : ∀ x μ1, MD L xs (f_X5_air 49 v) x μ1 → Q (some (.int x)) μ1) : f_X4_air 0 v μ Q := ⟨rfl, stepL hI (p_air v) (oo_air v) (fun x μ1 q => h x μ1 ⟨q.1, fun Q' hQ => ⟨rfl, q.2 Q' hQ⟩⟩)⟩
theorem st_list (i c f : Int32) {L : Nat} {xs : Nat → Int32} {μ : am_M} (hI : INV L xs μ) {Q : am_Q} (h : ∀ x μ1, MD L xs (f_X5_list 49 i c f) x μ1 → Q (some (.int x)) μ1) : f_X4_list 0 i c f μ Q := ⟨rfl, stepL hI (p_list i c f) (oo_list i c f) (fun x μ1 q => h x μ1 ⟨q.1, fun Q' hQ => ⟨rfl, q.2 Q' hQ⟩⟩)⟩
theorem st_listed (i : Int32) {L : Nat} {xs : Nat → Int32} {μ : am_M} (hI : INV L xs μ) {Q : am_Q} (h : ∀ x μ1, MD L xs (f_X5_listed 49 i) x μ1 → Q (some (.int x)) μ1) : f_X4_listed 0 i μ Q := ⟨rfl, stepL hI (p_listed i) (oo_listed i) (fun x μ1 q => h x μ1 ⟨q.1, fun Q' hQ => ⟨rfl, q.2 Q' hQ⟩⟩)⟩
theorem st_carpet (k f : Int32) {L : Nat} {xs : Nat → Int32} {μ : am_M} (hI : INV L xs μ) {Q : am_Q} (h : ∀ x μ1, MD L xs (f_X5_carpet 49 k f) x μ1 → Q (some (.int x)) μ1) : f_X4_carpet 0 k f μ Q := ⟨rfl, stepL hI (p_carpet k f) (oo_carpet k f) (fun x μ1 q => h x μ1 ⟨q.1, fun Q' hQ => ⟨rfl, q.2 Q' hQ⟩⟩)⟩
theorem st_of (c w : Int32) {L : Nat} {xs : Nat → Int32} {μ : am_M} (hI : INV L xs μ) {Q : am_Q} (h : ∀ x μ1, MD L xs (f_X5_of 49 c w) x μ1 → Q (some (.int x)) μ1) : f_X4_of 0 c w μ Q := ⟨rfl, stepL hI (p_of c w) (oo_of c w) (fun x μ1 q => h x μ1 ⟨q.1, fun Q' hQ => ⟨rfl, q.2 Q' hQ⟩⟩)⟩
theorem st_change (c w v : Int32) {L : Nat} {xs : Nat → Int32} {μ : am_M} (hI : INV L xs μ) {Q : am_Q} (h : ∀ x μ1, MD L xs (f_X5_change 49 c w v) x μ1 → Q (some (.int x)) μ1) : f_X4_change 0 c w v μ Q := ⟨rfl, stepL hI (p_change c w v) (oo_change c w v) (fun x μ1 q => h x μ1 ⟨q.1, fun Q' hQ => ⟨rfl, q.2 Q' hQ⟩⟩)⟩
theorem st_under (c w f : Int32) {L : Nat} {xs : Nat → Int32} {μ : am_M} (hI : INV L xs μ) {Q : am_Q} (h : ∀ x μ1, MD L xs (f_X5_under 49 c w f) x μ1 → Q (some (.int x)) μ1) : f_X4_under 0 c w f μ Q := ⟨rfl, stepL hI (p_under c w f) (oo_under c w f) (fun x μ1 q => h x μ1 ⟨q.1, fun Q' hQ => ⟨rfl, q.2 Q' hQ⟩⟩)⟩
theorem st_beat (c f : Int32) {L : Nat} {xs : Nat → Int32} {μ : am_M} (hI : INV L xs μ) {Q : am_Q} (h : ∀ x μ1, MD L xs (f_X5_beat 49 c f) x μ1 → Q (some (.int x)) μ1) : f_X4_beat 0 c f μ Q := ⟨rfl, stepL hI (p_beat c f) (oo_beat c f) (fun x μ1 q => h x μ1 ⟨q.1, fun Q' hQ => ⟨rfl, q.2 Q' hQ⟩⟩)⟩
theorem st_who (m : Int32) {L : Nat} {xs : Nat → Int32} {μ : am_M} (hI : INV L xs μ) {Q : am_Q} (h : ∀ x μ1, MD L xs (f_X5_who 49 m) x μ1 → Q (some (.int x)) μ1) : f_X4_who 0 m μ Q := ⟨rfl, stepL hI (p_who m) (oo_who m) (fun x μ1 q => h x μ1 ⟨q.1, fun Q' hQ => ⟨rfl, q.2 Q' hQ⟩⟩)⟩
theorem st_go (n : Int32) {L : Nat} {xs : Nat → Int32} {μ : am_M} (hI : INV L xs μ) {Q : am_Q} (h : ∀ x μ1, MD L xs (f_X5_go 49 n) x μ1 → Q (some (.int x)) μ1) : f_X4_go 0 n μ Q := ⟨rfl, stepL hI (p_go n) (oo_go n) (fun x μ1 q => h x μ1 ⟨q.1, fun Q' hQ => ⟨rfl, q.2 Q' hQ⟩⟩)⟩
theorem st_now (w : Int32) {L : Nat} {xs : Nat → Int32} {μ : am_M} (hI : INV L xs μ) {Q : am_Q} (h : ∀ x μ1, MD L xs (f_X5_now 49 w) x μ1 → Q (some (.int x)) μ1) : f_X4_now 0 w μ Q := ⟨rfl, stepL hI (p_now w) (oo_now w) (fun x μ1 q => h x μ1 ⟨q.1, fun Q' hQ => ⟨rfl, q.2 Q' hQ⟩⟩)⟩
theorem st_ahead (c w n : Int32) {L : Nat} {xs : Nat → Int32} {μ : am_M} (hI : INV L xs μ) {Q : am_Q} (h : ∀ x μ1, MD L xs (f_X5_ahead 49 c w n) x μ1 → Q (some (.int x)) μ1) : f_X4_ahead 0 c w n μ Q := ⟨rfl, stepL hI (p_ahead c w n) (oo_ahead c w n) (fun x μ1 q => h x μ1 ⟨q.1, fun Q' hQ => ⟨rfl, q.2 Q' hQ⟩⟩)⟩
theorem st_haze (n : Int32) {L : Nat} {xs : Nat → Int32} {μ : am_M} (hI : INV L xs μ) {Q : am_Q} (h : ∀ x μ1, MD L xs (f_X5_haze 49 n) x μ1 → Q (some (.int x)) μ1) : f_X4_haze 0 n μ Q := ⟨rfl, stepL hI (p_haze n) (oo_haze n) (fun x μ1 q => h x μ1 ⟨q.1, fun Q' hQ => ⟨rfl, q.2 Q' hQ⟩⟩)⟩
theorem st_comes (c v : Int32) {L : Nat} {xs : Nat → Int32} {μ : am_M} (hI : INV L xs μ) {Q : am_Q} (h : ∀ x μ1, MD L xs (f_X5_comes 49 c v) x μ1 → Q (some (.int x)) μ1) : f_X4_comes 0 c v μ Q := ⟨rfl, stepL hI (p_first c 0 v 11) (oo_first c 0 v 11) (fun x μ1 q => h x μ1 ⟨q.1, fun Q' hQ => ⟨rfl, q.2 Q' hQ⟩⟩)⟩
theorem st_dusty (c v : Int32) {L : Nat} {xs : Nat → Int32} {μ : am_M} (hI : INV L xs μ) {Q : am_Q} (h : ∀ x μ1, MD L xs (f_X5_dusty 49 c v) x μ1 → Q (some (.int x)) μ1) : f_X4_dusty 0 c v μ Q := ⟨rfl, stepL hI (p_first c 1 v 999) (oo_first c 1 v 999) (fun x μ1 q => h x μ1 ⟨q.1, fun Q' hQ => ⟨rfl, q.2 Q' hQ⟩⟩)⟩
theorem st_clean (c v : Int32) {L : Nat} {xs : Nat → Int32} {μ : am_M} (hI : INV L xs μ) {Q : am_Q} (h : ∀ x μ1, MD L xs (f_X5_clean 49 c v) x μ1 → Q (some (.int x)) μ1) : f_X4_clean 0 c v μ Q := ⟨rfl, stepL hI (p_first c 2 v 999) (oo_first c 2 v 999) (fun x μ1 q => h x μ1 ⟨q.1, fun Q' hQ => ⟨rfl, q.2 Q' hQ⟩⟩)⟩
theorem st_worn (c v : Int32) {L : Nat} {xs : Nat → Int32} {μ : am_M} (hI : INV L xs μ) {Q : am_Q} (h : ∀ x μ1, MD L xs (f_X5_worn 49 c v) x μ1 → Q (some (.int x)) μ1) : f_X4_worn 0 c v μ Q := ⟨rfl, stepL hI (p_first c 3 v 9999) (oo_first c 3 v 9999) (fun x μ1 q => h x μ1 ⟨q.1, fun Q' hQ => ⟨rfl, q.2 Q' hQ⟩⟩)⟩
theorem st_forceFor (i v n : Int32) {L : Nat} {xs : Nat → Int32} {μ : am_M} (hI : INV L xs μ) {Q : am_Q} (h : ∀ x μ1, MD L xs (f_X5_forceFor 49 i v n) x μ1 → Q (some (.int x)) μ1) : f_X4_forceFor 0 i v n μ Q := ⟨rfl, stepL hI (p_forceFor i v n) (oo_forceFor i v n) (fun x μ1 q => h x μ1 ⟨q.1, fun Q' hQ => ⟨rfl, q.2 Q' hQ⟩⟩)⟩
theorem st_turnFor (i n : Int32) {L : Nat} {xs : Nat → Int32} {μ : am_M} (hI : INV L xs μ) {Q : am_Q} (h : ∀ x μ1, MD L xs (f_X5_turnFor 49 i n) x μ1 → Q (some (.int x)) μ1) : f_X4_turnFor 0 i n μ Q := ⟨rfl, stepL hI (p_turnFor i n) (oo_turnFor i n) (fun x μ1 q => h x μ1 ⟨q.1, fun Q' hQ => ⟨rfl, q.2 Q' hQ⟩⟩)⟩
theorem st_kindFor (c n : Int32) {L : Nat} {xs : Nat → Int32} {μ : am_M} (hI : INV L xs μ) {Q : am_Q} (h : ∀ x μ1, MD L xs (f_X5_kindFor 49 c n) x μ1 → Q (some (.int x)) μ1) : f_X4_kindFor 0 c n μ Q := ⟨rfl, stepL hI (p_kindFor c n) (oo_kindFor c n) (fun x μ1 q => h x μ1 ⟨q.1, fun Q' hQ => ⟨rfl, q.2 Q' hQ⟩⟩)⟩
theorem st_shut (c m n : Int32) {L : Nat} {xs : Nat → Int32} {μ : am_M} (hI : INV L xs μ) {Q : am_Q} (h : ∀ x μ1, MD L xs (f_X5_shut 49 c m n) x μ1 → Q (some (.int x)) μ1) : f_X4_shut 0 c m n μ Q := ⟨rfl, stepL hI (p_shut c m n) (oo_shut c m n) (fun x μ1 q => h x μ1 ⟨q.1, fun Q' hQ => ⟨rfl, q.2 Q' hQ⟩⟩)⟩
theorem st_cover (m : Int32) {L : Nat} {xs : Nat → Int32} {μ : am_M} (hI : INV L xs μ) {Q : am_Q} (h : ∀ x μ1, MD L xs (f_X5_cover 49 m) x μ1 → Q (some (.int x)) μ1) : f_X4_cover 0 m μ Q := ⟨rfl, stepL hI (p_cover m) (oo_cover m) (fun x μ1 q => h x μ1 ⟨q.1, fun Q' hQ => ⟨rfl, q.2 Q' hQ⟩⟩)⟩
theorem st_spring (n : Int32) {L : Nat} {xs : Nat → Int32} {μ : am_M} (hI : INV L xs μ) {Q : am_Q} (h : ∀ x μ1, MD L xs (f_X5_spring 49 n) x μ1 → Q (some (.int x)) μ1) : f_X4_spring 0 n μ Q := ⟨rfl, stepL hI (p_spring n) (oo_spring n) (fun x μ1 q => h x μ1 ⟨q.1, fun Q' hQ => ⟨rfl, q.2 Q' hQ⟩⟩)⟩
theorem st_seed (v : Int32) {L : Nat} {xs : Nat → Int32} {μ : am_M} (hI : INV L xs μ) {Q : am_Q} (h : ∀ x μ1, MD L xs (f_X5_seed 49 v) x μ1 → Q (some (.int x)) μ1) : f_X4_seed 0 v μ Q := ⟨rfl, stepL hI (p_seed v) (oo_seed v) (fun x μ1 q => h x μ1 ⟨q.1, fun Q' hQ => ⟨rfl, q.2 Q' hQ⟩⟩)⟩
theorem st_hold (i c : Int32) {L : Nat} {xs : Nat → Int32} {μ : am_M} (hI : INV L xs μ) {Q : am_Q} (h : ∀ x μ1, MD L xs (f_X5_hold 49 i c) x μ1 → Q (some (.int x)) μ1) : f_X4_hold 0 i c μ Q := ⟨rfl, stepL hI (p_hold i c) (oo_hold i c) (fun x μ1 q => h x μ1 ⟨q.1, fun Q' hQ => ⟨rfl, q.2 Q' hQ⟩⟩)⟩
theorem st_as (i a : Int32) {L : Nat} {xs : Nat → Int32} {μ : am_M} (hI : INV L xs μ) {Q : am_Q} (h : ∀ x μ1, MD L xs (f_X5_as 49 i a) x μ1 → Q (some (.int x)) μ1) : f_X4_as 0 i a μ Q := ⟨rfl, stepL hI (p_as i a) (oo_as i a) (fun x μ1 q => h x μ1 ⟨q.1, fun Q' hQ => ⟨rfl, q.2 Q' hQ⟩⟩)⟩
theorem st_fits (i c : Int32) {L : Nat} {xs : Nat → Int32} {μ : am_M} (hI : INV L xs μ) {Q : am_Q} (h : ∀ x μ1, MD L xs (f_X5_fits 49 i c) x μ1 → Q (some (.int x)) μ1) : f_X4_fits 0 i c μ Q := ⟨rfl, stepLS hI (fun w _ s => p_fits i c w s) (fun w _ s _ hs => oo_fits i c w s hs) (fun x μ1 q => h x μ1 ⟨q.1, fun Q' hQ => ⟨rfl, q.2 Q' hQ⟩⟩)⟩
theorem st_kinds (i c : Int32) {L : Nat} {xs : Nat → Int32} {μ : am_M} (hI : INV L xs μ) {Q : am_Q} (h : ∀ x μ1, MD L xs (f_X5_kinds 49 i c) x μ1 → Q (some (.int x)) μ1) : f_X4_kinds 0 i c μ Q := ⟨rfl, stepLS hI (fun w _ s => p_kinds i c w s) (fun w _ s _ hs => oo_kinds i c w s hs) (fun x μ1 q => h x μ1 ⟨q.1, fun Q' hQ => ⟨rfl, q.2 Q' hQ⟩⟩)⟩
theorem st_load (i : Int32) {L : Nat} {xs : Nat → Int32} {μ : am_M} (hI : INV L xs μ) {Q : am_Q} (h : ∀ x μ1, MD L xs (f_X5_load 49 i) x μ1 → Q (some (.int x)) μ1) : f_X4_load 0 i μ Q := ⟨rfl, stepLS hI (fun w _ s => p_load i w s) (fun w _ s _ hs => oo_load i w s hs) (fun x μ1 q => h x μ1 ⟨q.1, fun Q' hQ => ⟨rfl, q.2 Q' hQ⟩⟩)⟩
theorem st_judge (i : Int32) {L : Nat} {xs : Nat → Int32} {μ : am_M} (hI : INV L xs μ) {Q : am_Q} (h : ∀ x μ1, MD L xs (f_X5_judge 49 i) x μ1 → Q (some (.int x)) μ1) : f_X4_judge 0 i μ Q := ⟨rfl, stepLS hI (fun w _ s => p_judge i w s) (fun w _ s _ hs => oo_judge i w s hs) (fun x μ1 q => h x μ1 ⟨q.1, fun Q' hQ => ⟨rfl, q.2 Q' hQ⟩⟩)⟩
theorem st_sheet (i b n : Int32) {L : Nat} {xs : Nat → Int32} {μ : am_M} (hI : INV L xs μ) {Q : am_Q} (h : ∀ x μ1, MD L xs (f_X5_sheet 49 i b n) x μ1 → Q (some (.int x)) μ1) : f_X4_sheet 0 i b n μ Q := ⟨rfl, stepS hI (p_sheet i b n) (os_sheet i b n) (fun x μ1 q => h x μ1 ⟨q.1, fun Q' hQ => ⟨rfl, q.2 Q' hQ⟩⟩)⟩
theorem st_write (i j v : Int32) {L : Nat} {xs : Nat → Int32} {μ : am_M} (hI : INV L xs μ) {Q : am_Q} (h : ∀ x μ1, MD L xs (f_X5_write 49 i j v) x μ1 → Q (some (.int x)) μ1) : f_X4_write 0 i j v μ Q := ⟨rfl, stepS hI (p_write i j v) (os_write i j v) (fun x μ1 q => h x μ1 ⟨q.1, fun Q' hQ => ⟨rfl, q.2 Q' hQ⟩⟩)⟩
theorem st_copy (i f j t n : Int32) {L : Nat} {xs : Nat → Int32} {μ : am_M} (hI : INV L xs μ) {Q : am_Q} (h : ∀ x μ1, MD L xs (f_X5_copy 49 i f j t n) x μ1 → Q (some (.int x)) μ1) : f_X4_copy 0 i f j t n μ Q := ⟨rfl, stepS hI (p_copy i f j t n) (os_copy i f j t n) (fun x μ1 q => h x μ1 ⟨q.1, fun Q' hQ => ⟨rfl, q.2 Q' hQ⟩⟩)⟩
theorem st_count (w : Int32) {L : Nat} {xs : Nat → Int32} {μ : am_M} (hI : INV L xs μ) {Q : am_Q} (h : ∀ x μ1, MD L xs (f_X5_count 49 w) x μ1 → Q (some (.int x)) μ1) : f_X4_count 0 w μ Q := by
  obtain ⟨s, -, a, b, -, -, c⟩ := stepLS hI (fun _ t s => p_count w t s) (fun _ t s _ hs => oo_count w t s hs) (Q := Q) (fun x μ1 q => h x μ1 ⟨q.1, fun Q' hQ => by
    obtain ⟨s, -, a, b, -, -, c⟩ := q.2 Q' hQ
    exact ⟨rfl, s, a, b, c⟩⟩)
  exact ⟨rfl, s, a, b, c⟩
/-- a change of the tapes, or of what is kept -/
theorem RST_T {w : wS} {T T' : Nat → Nat} {n n' L : Nat} {xs : Nat → Int32} {μ μ' : am_M} (h : RST w T n L xs μ) (hk : ∀ k, (k = 0 ∨ 25 ≤ k) → k ≠ 50 → k ≠ 52 → k ≠ 37 → k ≠ 38 → k ≠ 49 → k ≠ 54 → μ'.1 k = μ.1 k) (h3 : μ'.1 49 3 = μ.1 49 3) (a : TX μ' T' n') (b : TXM μ' T' n') : RST w T' n' L xs μ' := by
  obtain ⟨h1, h2, h3', h4, h5, h6, h7, h8, h9⟩ := h
  refine ⟨RS_eq h1 (fun k a b => hk k (by omega) (by omega) (by omega) (by omega) (by omega) (by omega) (by omega)), RSM_eq h2 (fun k a b => hk k (by omega) (by omega) (by omega) (by omega) (by omega) (by omega) (by omega)), h3', a, b, LTR_eq h6 (fun k a b => hk k (by omega) (by omega) (by omega) (by omega) (by omega) (by omega) (by omega)), fun i hi => ?_, KP_eq h8 (by rw [hk 0 (by omega) (by omega) (by omega) (by omega) (by omega) (by omega) (by omega)]) h3 (fun k a b => hk k (by omega) (by omega) (by omega) (by omega) (by omega) (by omega) (by omega)) (hk 51 (by omega) (by omega) (by omega) (by omega) (by omega) (by omega) (by omega)), SCR_eq h9 (fun k a => hk k (by omega) (by omega) (by omega) (by omega) (by omega) (by omega) (by omega))⟩
  rw [hk 48 (by omega) (by omega) (by omega) (by omega) (by omega) (by omega) (by omega), hk 53 (by omega) (by omega) (by omega) (by omega) (by omega) (by omega) (by omega)]
  exact h7 i hi
theorem st_wipe {L : Nat} {xs : Nat → Int32} {μ : am_M} (hI : INV L xs μ) {Q : am_Q} (h : ∀ x μ1, MD L xs (f_X5_wipe 49) x μ1 → Q (some (.int x)) μ1) : f_X4_wipe 0 μ Q := by
  obtain ⟨s, w, T, n, hR, hM, hv, hr⟩ := hI
  have n8 := Iv_sn hv
  refine ⟨rfl, h _ _ ⟨SCR_eq hr.2.2.2.2.2.2.2.2 (fun k a => set_o (by omega)), fun Q' hQ => ⟨rfl, ?_⟩⟩⟩
  rw [set_ne (by omega), hr.2.2.2.2.1.2.1, ← hr.2.2.2.1.2.1]
  refine hQ _ ⟨s, w, T, 0, Rp_eq hR (fun k a b => by rw [set_o (by omega), set_o (by omega)]) n8, RpM_c hM n8 (fun j _ => by rw [set_ne (by omega), set_ne (by omega)]), hv, RST_T hr (fun k a b c d e f g => by rw [set_o (by omega), set_o (by omega)]) (by rw [set_ne (by omega), set_ne (by omega)]) ⟨by omega, by rw [set_ne (by omega), set_eq]; rfl, fun i hi => by omega⟩ ⟨by omega, by rw [set_eq]; rfl, fun i hi => by omega⟩⟩
def byt (x : Int32) (i : Nat) : Nat := x.toBitVec.toNat / 2 ^ (8 * i) % 256
theorem fby_b {x : Int32} {i : Nat} (hi : i < 4) : fby x i = sb_b (byt x i) ∧ byt x i < 256 := by
  have hs : ((((8 : Int32) * nI i).toUInt32 &&& Int32.toUInt32 31).toBitVec % 32).toNat = 8 * i := by
    have : ∀ i, i < 4 → ((((8 : Int32) * nI i).toUInt32 &&& Int32.toUInt32 31).toBitVec % 32).toNat = 8 * i := by decide
    exact this i hi
  have h1 := pk_ushr x (8 * nI i) (8 * i) hs
  refine ⟨?_, Nat.mod_lt _ (by decide)⟩
  unfold fby sb_b
  rw [pk_vb]
  congr 1
  have e : (sr x (8 * nI i)).toBitVec.toNat = x.toBitVec.toNat / 2 ^ (8 * i) := h1
  generalize sr x (8 * nI i) = y at e
  unfold byt
  rw [← e]
  apply Int8.toBitVec_inj.mp
  apply BitVec.eq_of_toNat_eq
  have a1 : y.toInt8.toBitVec.toNat = y.toBitVec.toNat % 256 := by
    rw [Int32.toBitVec_toInt8, BitVec.signExtend_eq_setWidth_of_le _ (by decide), BitVec.toNat_setWidth]
  have a2 : (nI (y.toBitVec.toNat % 256)).toInt8.toBitVec.toNat = (nI (y.toBitVec.toNat % 256)).toBitVec.toNat % 256 := by
    rw [Int32.toBitVec_toInt8, BitVec.signExtend_eq_setWidth_of_le _ (by decide), BitVec.toNat_setWidth]
  rw [a1, a2, pk_tn (by have := Nat.mod_lt y.toBitVec.toNat (show 0 < 256 by decide); omega), Nat.mod_mod]
theorem fbM_b {x : Int32} {i : Nat} (hi : i < 4) : fbM x i = nI (byt x i) := by
  unfold fbM byt
  have hs : ((((8 : Int32) * nI i) &&& 31).toBitVec.smod 32).toNat = 8 * i := by
    have : ∀ i, i < 4 → ((((8 : Int32) * nI i) &&& 31).toBitVec.smod 32).toNat = 8 * i := by decide
    exact this i hi
  have h1 := pk_shr x ((8 * nI i) &&& 31) (8 * i) hs
  rw [pk_and _ 8 (by decide)]
  congr 1
  generalize x >>> ((8 * nI i) &&& 31) = y at h1
  have e1 : y.toInt = (y.toBitVec.toNat : Int) - (if 2 * y.toBitVec.toNat < 2 ^ 32 then 0 else 2 ^ 32) := by
    show y.toBitVec.toInt = _
    rw [BitVec.toInt_eq_toNat_cond]
    split <;> simp
  have e2 : x.toInt = (x.toBitVec.toNat : Int) - (if 2 * x.toBitVec.toNat < 2 ^ 32 then 0 else 2 ^ 32) := by
    show x.toBitVec.toInt = _
    rw [BitVec.toInt_eq_toNat_cond]
    split <;> simp
  rw [e1, e2, Int.shiftRight_eq_div_pow] at h1
  have l1 := x.toBitVec.isLt
  have l2 := y.toBitVec.isLt
  generalize x.toBitVec.toNat = X at h1 l1 ⊢
  generalize y.toBitVec.toNat = Y at h1 l2 ⊢
  have hi4 : i = 0 ∨ i = 1 ∨ i = 2 ∨ i = 3 := by omega
  rcases hi4 with rfl | rfl | rfl | rfl
  · have p : ((2 ^ (8 * 0) : Nat) : Int) = 1 := by decide
    have p2 : (2 ^ (8 * 0) : Nat) = 1 := by decide
    rw [p] at h1
    rw [p2]
    split at h1 <;> split at h1 <;> omega
  · have p : ((2 ^ (8 * 1) : Nat) : Int) = 256 := by decide
    have p2 : (2 ^ (8 * 1) : Nat) = 256 := by decide
    rw [p] at h1
    rw [p2]
    split at h1 <;> split at h1 <;> omega
  · have p : ((2 ^ (8 * 2) : Nat) : Int) = 65536 := by decide
    have p2 : (2 ^ (8 * 2) : Nat) = 65536 := by decide
    rw [p] at h1
    rw [p2]
    split at h1 <;> split at h1 <;> omega
  · have p : ((2 ^ (8 * 3) : Nat) : Int) = 16777216 := by decide
    have p2 : (2 ^ (8 * 3) : Nat) = 16777216 := by decide
    rw [p] at h1
    rw [p2]
    split at h1 <;> split at h1 <;> omega
theorem st_feed (x n : Int32) {L : Nat} {xs : Nat → Int32} {μ : am_M} (hI : INV L xs μ) {Q : am_Q} (h : ∀ y μ1, MD L xs (f_X5_feed 49 x n) y μ1 → Q (some (.int y)) μ1) : f_X4_feed 0 x n μ Q := by
  have hI0 := hI
  obtain ⟨s, w, T, t, hR, hM, hv, hr⟩ := hI
  have n8 := Iv_sn hv
  have ht := hr.2.2.2.1.1
  have et := hr.2.2.2.1.2.1
  have etm := hr.2.2.2.2.1.2.1
  have no : ∀ f, f < 7 → (n < 1 ∨ ¬ n ≤ 4 ∨ (f = 1 ∧ ∀ m, 1 ≤ m → m ≤ 4 → n = nI m → 120 < t + m)) → (f = 0 ∨ f = 1) → (f = 0 → ∀ m, 1 ≤ m → m ≤ 4 → ¬ n = nI m) → (f = 1 → ¬ n < 1 ∧ n ≤ 4) → Q (some (.int (-1000001 - nI f))) (fnd μ f) := by
    intro f hf h1 h01 h2 h3
    refine h _ _ ⟨SCR_eq hr.2.2.2.2.2.2.2.2 (fun k a => fnd_o (by omega)), fun Q' hQ => ⟨rfl, t, ht, ?_, fun z => ?_, fun z z2 => ?_, fun m m1 m4 em => ⟨fun z => ?_, fun z => ?_⟩⟩⟩
    · rw [fnd_o (by omega)]; exact etm
    · have : f = 0 := by
        rcases h01 with q | q
        · exact q
        · exact absurd z (h3 q).1
      subst this
      exact hQ _ (INV_f hI0 0 (by omega))
    · have : f = 0 := by
        rcases h01 with q | q
        · exact q
        · exact absurd (h3 q).2 z2
      subst this
      exact hQ _ (INV_f hI0 0 (by omega))
    · have : f = 1 := by
        rcases h01 with q | q
        · exact absurd em (h2 q m m1 m4)
        · exact q
      subst this
      exact hQ _ (INV_f hI0 1 (by omega))
    · exfalso
      rcases h01 with q | q
      · exact h2 q m m1 m4 em
      · rcases h1 with y | y | y
        · exact (h3 q).1 y
        · exact y (h3 q).2
        · have := y.2 m m1 m4 em
          omega
  refine ⟨rfl, t, ht, et, fun z => ?_, fun _ => trivial, fun z z2 => ?_, fun m m1 m4 em => ⟨fun z => ?_, fun z μ1 k0 k1 k2 kF => ?_⟩⟩
  · refine no 0 (by omega) (Or.inl z) (Or.inl rfl) (fun _ m m1 m4 em => ?_) (fun q => by omega)
    rw [em] at z
    exact absurd z (Int32.not_lt.mpr (nI_le (a := 1) m1 (by omega)))
  · refine no 0 (by omega) (Or.inr (Or.inl z2)) (Or.inl rfl) (fun _ m m1 m4 em => ?_) (fun q => by omega)
    rw [em] at z2
    exact z2 (nI_le (b := 4) m4 (by omega))
  · refine no 1 (by omega) (Or.inr (Or.inr ⟨rfl, fun m' a b c => ?_⟩)) (Or.inr rfl) (fun q => by omega) (fun _ => ?_)
    · rw [em] at c
      have : m = m' := (nI_eq (by omega) (by omega)).mp c
      omega
    · rw [em]
      exact ⟨Int32.not_lt.mpr (nI_le (a := 1) m1 (by omega)), nI_le (b := 4) m4 (by omega)⟩
  · refine h _ _ ⟨SCR_eq hr.2.2.2.2.2.2.2.2 (fun k a => kF.1 k (by omega) (by omega)), fun Q' hQ => ⟨rfl, t, ht, ?_, fun z => ?_, fun z z2 => ?_, fun m' m1' m4' em' => ?_⟩⟩
    · rw [kF.1 49 (by omega) (by omega)]; exact etm
    · rw [em] at z
      exact absurd z (Int32.not_lt.mpr (nI_le (a := 1) m1 (by omega)))
    · rw [em] at z2
      exact absurd (nI_le (b := 4) m4 (by omega)) z2
    · have : m = m' := (nI_eq (by omega) (by omega)).mp (em ▸ em')
      subst this
      refine ⟨fun q => by omega, fun _ μ2 j0 j1 j2 jF => ?_⟩
      have hT := hr.2.2.2.1
      have hTM := hr.2.2.2.2.1
      refine hQ μ2 ⟨s, w, (fun i => if i < t then T i else byt x (m - 1 - (i - t))), t + m, Rp_eq hR (fun k a b => by funext j; rw [jF.1 k j (by omega) (by omega), kF.1 k (by omega) (by omega)]) n8, RpM_c hM n8 (fun j _ => by rw [jF.1 50 j (by omega) (by omega), kF.1 50 (by omega) (by omega)]), hv, RST_T hr (fun k a b c d e f g => by funext j; rw [jF.1 k j (by omega) (by omega), kF.1 k (by omega) (by omega)]) (by rw [jF.1 49 3 (by omega) (by omega), kF.1 49 (by omega) (by omega)]) ⟨z, ?_, fun i hi => ?_⟩ ⟨z, j0, fun i hi => ?_⟩⟩
      · rw [jF.1 37 0 (by omega) (by omega)]; exact k0
      · show (if i < t then T i else byt x (m - 1 - (i - t))) < 256 ∧ μ2.1 38 i = sb_b (if i < t then T i else byt x (m - 1 - (i - t)))
        rw [jF.1 38 i (by omega) (by omega)]
        by_cases e : i < t
        · rw [if_pos e, k2 i e]; exact hT.2.2 i e
        · rw [if_neg e]
          obtain ⟨d, rfl⟩ : ∃ d, i = t + d := ⟨i - t, by omega⟩
          have e2 : t + d - t = d := by omega
          rw [k1 d (by omega), e2, (fby_b (by omega)).1]
          exact ⟨(fby_b (x := x) (i := m - 1 - d) (by omega)).2, rfl⟩
      · show (if i < t then T i else byt x (m - 1 - (i - t))) < 256 ∧ μ2.1 54 i = nI (if i < t then T i else byt x (m - 1 - (i - t)))
        by_cases e : i < t
        · rw [if_pos e, j2 i e, kF.1 54 (by omega) (by omega)]; exact hTM.2.2 i e
        · rw [if_neg e]
          obtain ⟨d, rfl⟩ : ∃ d, i = t + d := ⟨i - t, by omega⟩
          have e2 : t + d - t = d := by omega
          rw [j1 d (by omega), e2, fbM_b (by omega)]
          exact ⟨(fby_b (x := x) (i := m - 1 - d) (by omega)).2, rfl⟩
theorem st_image {L : Nat} {xs : Nat → Int32} {μ : am_M} (hI : INV L xs μ) {Q : am_Q} (h : ∀ y μ1, MD L xs (f_X5_image 49) y μ1 → Q (some (.int y)) μ1) : f_X4_image 0 μ Q := by
  obtain ⟨s, w, T, n, hR, hM, hv, hr⟩ := hI
  have n8 := Iv_sn hv
  refine ⟨rfl, s, hR, Iv_w hv, fun μ1 hR1 hF1 => h 1 _ ⟨SCR_eq hr.2.2.2.2.2.2.2.2 (fun k a => (set_o (by omega)).trans (hF1.1 k (by omega))), fun Q' hQ => ⟨rfl, fun μ2 h2 => ?_⟩⟩⟩
  obtain ⟨h1, h2', h3, h4, h5, h6, h7, h8, h9⟩ := hr
  have c2 : ∀ k, k ≠ 51 → μ2.1 k = (am_set μ1 0 3 1).1 k := h2.2.1
  have key : ∀ k j, ¬ (25 ≤ k ∧ k < 37) → k ≠ 51 → ¬ (k = 0 ∧ j = 3) → ¬ (k = 49 ∧ j = 3) → (am_set μ2 49 3 1).1 k j = μ.1 k j := fun k j a b c d => by
    rw [set_ne (by omega), c2 k b, set_ne (by omega), hF1.1 k (by omega)]
  refine hQ _ ⟨s, w, T, n, Rp_eq hR (fun k a b => by funext j; exact key k j (by omega) (by omega) (by omega) (by omega)) n8, RpM_c hM n8 (fun j _ => key 50 j (by omega) (by omega) (by omega) (by omega)), hv, RS_eq h1 (fun k a b => by funext j; exact key k j (by omega) (by omega) (by omega) (by omega)), RSM_eq h2' (fun k a b => by funext j; exact key k j (by omega) (by omega) (by omega) (by omega)), h3, TX_eq h4 (key 37 0 (by omega) (by omega) (by omega) (by omega)) (fun j => key 38 j (by omega) (by omega) (by omega) (by omega)), TXM_eq h5 (key 49 6 (by omega) (by omega) (by omega) (by omega)) (fun j => key 54 j (by omega) (by omega) (by omega) (by omega)), LTR_eq h6 (fun k a b => by funext j; exact key k j (by omega) (by omega) (by omega) (by omega)), fun i hi => ?_, ⟨?_, fun _ => ⟨s, ?_, ?_, hv⟩⟩, SCR_eq h9 (fun k a => by funext j; exact key k j (by omega) (by omega) (by omega) (by omega))⟩
  · rw [key 48 i (by omega) (by omega) (by omega) (by omega), key 53 i (by omega) (by omega) (by omega) (by omega)]; exact h7 i hi
  · rw [set_eq, set_ne (by omega), c2 0 (by omega), set_eq]
  · exact Rp_eq hR1 (fun k a b => by rw [set_o (by omega), c2 k (by omega), set_o (by omega)]) n8
  · refine RpM_c hM n8 (fun j hj => ?_)
    rw [set_ne (by omega), h2.1 j hj, set_ne (by omega), hF1.1 50 (by omega)]
theorem st_undo {L : Nat} {xs : Nat → Int32} {μ : am_M} (hI : INV L xs μ) {Q : am_Q} (h : ∀ y μ1, MD L xs (f_X5_undo 49) y μ1 → Q (some (.int y)) μ1) : f_X4_undo 0 μ Q := by
  have hI0 := hI
  obtain ⟨s, w, T, n, hR, hM, hv, hr⟩ := hI
  have n8 := Iv_sn hv
  have hkp := hr.2.2.2.2.2.2.2.1
  refine ⟨rfl, fun z => h _ _ ⟨SCR_eq hr.2.2.2.2.2.2.2.2 (fun k a => fnd_o (by omega)), fun Q' hQ => ⟨rfl, fun _ => hQ _ (INV_f hI0 3 (by omega)), fun z2 => ?_⟩⟩, fun z => ?_⟩
  · exfalso
    rw [fnd_o (by omega), ← hkp.1] at z2
    exact z2 z
  · obtain ⟨s', a, b, c⟩ := hkp.2 z
    have n8' := Iv_sn c
    refine ⟨s', a, Iv_w c, fun μ1 hR1 hF1 => h _ _ ⟨SCR_eq hr.2.2.2.2.2.2.2.2 (fun k a => hF1.1 k (by omega)), fun Q' hQ => ⟨rfl, fun z2 => ?_, fun _ μ2 h2 => ?_⟩⟩⟩
    · exfalso
      rw [hF1.1 49 (by omega), ← hkp.1] at z2
      exact z z2
    · rw [hF1.1 51 (by omega), b.1.1]
      have c2 : ∀ k, k ≠ 50 → μ2.1 k = μ1.1 k := h2.2.1
      refine hQ μ2 ⟨s', w, T, n, Rp_eq hR1 (fun k a b => c2 k (by omega)) n8', RpM_c b n8' (fun j hj => by rw [h2.1 j hj, hF1.1 51 (by omega)]), c, RST_eq hr (fun k a b c => by rw [c2 k b, hF1.1 k (by omega)])⟩
theorem st_tear {L : Nat} {xs : Nat → Int32} {μ : am_M} (hI : INV L xs μ) {Q : am_Q} (h : ∀ y μ1, MD L xs (f_X5_tear 49) y μ1 → Q (some (.int y)) μ1) : f_X4_tear 0 μ Q := by
  obtain ⟨s, w, T, n, hR, hM, hv, hr⟩ := hI
  have n8 := Iv_sn hv
  obtain ⟨h1, h2', h3, h4, h5, h6, h7, h8, h9⟩ := hr
  refine ⟨rfl, h _ _ ⟨SCR_eq h9 (fun k a => set_o (by omega)), fun Q' hQ => ⟨rfl, ?_⟩⟩⟩
  rw [set_ne (by omega), ← h8.1]
  have key : ∀ k j, ¬ (k = 0 ∧ j = 3) → ¬ (k = 49 ∧ j = 3) → (am_set (am_set μ 0 3 0) 49 3 0).1 k j = μ.1 k j := fun k j c d => by
    rw [set_ne (by omega), set_ne (by omega)]
  refine hQ _ ⟨s, w, T, n, Rp_eq hR (fun k a b => by funext j; exact key k j (by omega) (by omega)) n8, RpM_c hM n8 (fun j _ => key 50 j (by omega) (by omega)), hv, RS_eq h1 (fun k a b => by funext j; exact key k j (by omega) (by omega)), RSM_eq h2' (fun k a b => by funext j; exact key k j (by omega) (by omega)), h3, TX_eq h4 (key 37 0 (by omega) (by omega)) (fun j => key 38 j (by omega) (by omega)), TXM_eq h5 (key 49 6 (by omega) (by omega)) (fun j => key 54 j (by omega) (by omega)), LTR_eq h6 (fun k a b => by funext j; exact key k j (by omega) (by omega)), fun i hi => ?_, ⟨?_, fun q => ?_⟩, SCR_eq h9 (fun k a => by funext j; exact key k j (by omega) (by omega))⟩
  · rw [key 48 i (by omega) (by omega), key 53 i (by omega) (by omega)]; exact h7 i hi
  · rw [set_eq, set_ne (by omega), set_eq]
  · exfalso
    rw [set_ne (by omega), set_eq] at q
    exact q rfl
theorem fsm_eq {g g' : Nat → Int32} : ∀ n, (∀ i, i < n → g i = g' i) → fsm g n = fsm g' n
  | 0, _ => rfl
  | n + 1, h => by unfold fsm; rw [fsm_eq n (fun i hi => h i (by omega)), h n (by omega)]
theorem status_eq {x : Int32} {g g' : Nat → Int32} (h : ∀ i, i < 7 → g i = g' i) : p_status x g = p_status x g' := by
  unfold p_status
  split
  · rw [fsm_eq 7 h]
  · split
    · rename_i q
      obtain ⟨j, hj, rfl⟩ := wn (m := 6) (by omega) q
      rw [cl7 (by omega), h j (by omega)]
    · rfl
theorem status_f {x : Int32} {g : Nat → Int32} {f : Nat} (h : p_status x g = .inr f) : f = 0 := by
  unfold p_status at h
  split at h
  · cases h
  · split at h
    · cases h
    · cases h; rfl
theorem st_status (x : Int32) {L : Nat} {xs : Nat → Int32} {μ : am_M} (hI : INV L xs μ) {Q : am_Q} (h : ∀ y μ1, MD L xs (f_X5_status 49 x) y μ1 → Q (some (.int y)) μ1) : f_X4_status 0 x μ Q := by
  have hI0 := hI
  obtain ⟨s, w, T, n, hR, hM, hv, hr⟩ := hI
  have e : p_status x (μ.1 48) = p_status x (μ.1 53) := status_eq hr.2.2.2.2.2.2.1
  refine ⟨rfl, ?_⟩
  cases q : p_status x (μ.1 48) with
  | inl y =>
    refine h y μ ⟨hr.2.2.2.2.2.2.2.2, fun Q' hQ => ⟨rfl, ?_⟩⟩
    rw [← e, q]
    exact hQ μ hI0
  | inr f =>
    have hf : f < 7 := by rw [status_f q]; omega
    refine h _ (fnd μ f) ⟨SCR_eq hr.2.2.2.2.2.2.2.2 (fun k a => fnd_o (by omega)), fun Q' hQ => ⟨rfl, ?_⟩⟩
    rw [fnd_o (by omega), ← e, q]
    exact hQ _ (INV_f hI0 f hf)
def MDL (L : Nat) (xs : Nat → Int32) (F : am_M → am_Q → Prop) (x : Int64) (μ1 : am_M) : Prop := SCR L xs μ1 ∧ ∀ Q' : am_Q, (∀ μ2, INV L xs μ2 → Q' (some (.long x)) μ2) → F μ1 Q'
theorem odds_f {c n w : Int32} {s : cS} {f : Nat} (h : p_odds c n w s = .inr f) : f = 0 := by
  unfold p_odds at h
  split at h
  · split at h
    · split at h
      · cases h
      · cases h; rfl
    · cases h; rfl
  · cases h; rfl
theorem st_odds (c n w : Int32) {L : Nat} {xs : Nat → Int32} {μ : am_M} (hI : INV L xs μ) {Q : am_Q} (h : ∀ y μ1, MDL L xs (f_X5_odds 49 c n w) y μ1 → Q (some (.long y)) μ1) : f_X4_odds 0 c n w μ Q := by
  have hI0 := hI
  obtain ⟨s, w', T, n', hR, hM, hv, hr⟩ := hI
  have n8 := Iv_sn hv
  refine ⟨rfl, s, hR, hv, ?_⟩
  cases q : p_odds c n w s with
  | inl y =>
    refine h y μ ⟨hr.2.2.2.2.2.2.2.2, fun Q' hQ => ⟨rfl, s, hM, hv, ?_⟩⟩
    rw [q]
    exact hQ μ hI0
  | inr f =>
    have hf : f < 7 := by rw [odds_f q]; omega
    refine h _ (fnd μ f) ⟨SCR_eq hr.2.2.2.2.2.2.2.2 (fun k a => fnd_o (by omega)), fun Q' hQ => ⟨rfl, s, RpM_c hM n8 (fun j _ => by rw [fnd_o (by omega)]), hv, ?_⟩⟩
    rw [q]
    exact hQ _ (INV_f hI0 f hf)
/-! text keeps the bounds -/
theorem Iv_rPart {T : Nat → Nat} {n : Nat} {s : cS} {c : Nat} {t : tK} {w j : Nat} (h : Iv s) : Iv (rPart T n s c t w j).2.1 := by
  unfold rPart
  split
  · split
    · rename_i q
      exact Iv_cp h (isNB_iff.mp q).2
    · exact h
  · exact h
theorem Iv_rItem {T : Nat → Nat} {n : Nat} {s : cS} {t : tK} (h : Iv s) : Iv (rItem T n s t).2.1 := by
  have n8 := Iv_sn h
  unfold rItem
  split
  · rename_i i hk
    have hi := kwS_lt 7 0 i hk
    unfold rCarpet
    split
    · exact h
    · rename_i h8
      have w0 : Iv (lay s (nI i) 1) := Iv_lay (f := 1) h (by omega) (by omega) (by omega)
      have w1 := Iv_rPart (T := T) (n := n) (c := sn s) (t := nxt T n t) (w := 7) (j := 1) w0
      generalize rPart T n (lay s (nI i) 1) (sn s) (nxt T n t) 7 1 = r at w1 ⊢
      have w2 : Iv (rP2 T n (sn s) r 8 2).2.1 := by
        unfold rP2
        split
        · exact Iv_rPart w1
        · exact w1
      generalize rP2 T n (sn s) r 8 2 = r at w2 ⊢
      have w3 : Iv (rP2 T n (sn s) r 9 3).2.1 := by
        unfold rP2
        split
        · exact Iv_rPart w2
        · exact w2
      generalize rP2 T n (sn s) r 9 3 = r at w3 ⊢
      unfold rP4
      split
      · unfold rShut
        split
        · exact Iv_cp (v := 1) w3 (show 1 ≤ mb 5 by decide)
        · exact w3
      · exact w3
  · split
    · unfold rBeat
      split
      · split
        · rename_i q1
          split
          · rename_i q2
            have a1 := (isNB_iff.mp q1).2
            have a2 := (isNB_iff.mp q2).2
            rw [show (10 : Int32) = nI 10 from rfl, nI_mul, nI_add]
            exact Iv_bt h (by omega)
          · exact h
        · exact h
      · exact h
    · split
      · unfold rAir
        split
        · rename_i q
          have a1 := (isNB_iff.mp q).2
          exact Iv_air h (by omega)
        · exact h
      · exact h
theorem Iv_rTxt {T : Nat → Nat} {n : Nat} : ∀ k i s t, Iv s → Iv (rTxt T n k i s t).2
  | 0, _, _, _, h => h
  | k + 1, i, s, t, h => by
    have h1 := Iv_rItem (T := T) (n := n) (t := t) h
    unfold rTxt
    split
    · split
      · exact h1
      · split
        · exact Iv_rTxt k (i + 1) _ _ h1
        · exact h1
    · exact h1
theorem Iv_text {T : Nat → Nat} {n : Nat} {s : cS} (h : Iv s) : Iv (p_text T n s).2 := by
  unfold p_text
  split
  · exact h
  · exact Iv_rTxt _ _ _ _ h
theorem st_text {L : Nat} {xs : Nat → Int32} {μ : am_M} (hI : INV L xs μ) {Q : am_Q} (h : ∀ y μ1, MD L xs (f_X5_text 49) y μ1 → Q (some (.int y)) μ1) : f_X4_text 0 μ Q := by
  obtain ⟨s, w, T, n, hR, hM, hv, hr⟩ := hI
  have n8 := Iv_sn hv
  have hv' := Iv_text (T := T) (n := n) hv
  refine ⟨rfl, T, n, s, hr.2.2.2.1, hR, Iv_w hv, fun μ1 hR1 hF1 => h _ _ ⟨SCR_eq hr.2.2.2.2.2.2.2.2 (fun k a => by funext j; exact hF1.1 k j (by omega) (by omega)), fun Q' hQ => ⟨rfl, T, n, s, ?_, ?_, ?_, Iv_w hv, fun μ2 hR2 hF2 => ?_⟩⟩⟩
  · exact TXM_eq hr.2.2.2.2.1 (hF1.1 49 6 (by omega) (by omega)) (fun j => hF1.1 54 j (by omega) (by omega))
  · exact LTR_eq hr.2.2.2.2.2.1 (fun k a b => by funext j; exact hF1.1 k j (by omega) (by omega))
  · exact RpM_c hM n8 (fun j _ => hF1.1 50 j (by omega) (by omega))
  · refine hQ μ2 ⟨_, w, T, 0, Rp_eq hR1 (fun k a b => by funext j; exact hF2.1 k j (by omega) (by omega) (by omega)) (Iv_sn hv'), hR2, hv', RST_T hr (fun k a b c d e f g => by funext j; rw [hF2.1 k j b c (by omega), hF1.1 k j a d]) (by rw [hF2.1 49 3 (by omega) (by omega) (by omega), hF1.1 49 3 (by omega) (by omega)]) ⟨by omega, ?_, fun i hi => by omega⟩ ⟨by omega, ?_, fun i hi => by omega⟩⟩
    · rw [hF2.1 37 0 (by omega) (by omega) (by omega)]; exact hF1.2.1
    · exact hF2.2
