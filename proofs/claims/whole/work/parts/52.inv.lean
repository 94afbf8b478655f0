/-! ===== both sides together: the invariant ===== -/
theorem Rp_eq {b : Nat} {μ μ' : am_M} {s : cS} (h : Rp b μ s) (hk : ∀ k, b ≤ k → k < b + 12 → μ'.1 k = μ.1 k) (hn : sn s ≤ 8) : Rp b μ' s := by
  obtain ⟨⟨h1, h2, h3, h4⟩, h5, h6, h7⟩ := h
  refine ⟨⟨by rw [hk b (by omega) (by omega)]; exact h1, by rw [hk b (by omega) (by omega)]; exact h2, by rw [hk b (by omega) (by omega)]; exact h3, by rw [hk b (by omega) (by omega)]; exact h4⟩, fun i hi => ?_, fun c f hc hf => ?_, fun i hi => ?_⟩
  · rw [hk _ (by omega) (by omega)]; exact h5 i hi
  · rw [hk _ (by omega) (by omega)]; exact h6 c f hc hf
  · rw [hk _ (by omega) (by omega)]; exact h7 i hi
theorem RS_eq {μ μ' : am_M} {w : wS} (h : RS μ w) (hk : ∀ k, 40 ≤ k → k < 48 → μ'.1 k = μ.1 k) : RS μ' w := fun i hi => by
  rw [hk (40 + i) (by omega) (by omega), hk (40 + i + 4) (by omega) (by omega)]
  exact h i hi
theorem RSM_eq {μ μ' : am_M} {w : wS} (h : RSM μ w) (hk : ∀ k, 58 ≤ k → k < 61 → μ'.1 k = μ.1 k) : RSM μ' w := fun i hi => by
  rw [hk 58 (by omega) (by omega), hk 59 (by omega) (by omega), hk 60 (by omega) (by omega)]
  exact h i hi
theorem TX_eq {μ μ' : am_M} {T : Nat → Nat} {n : Nat} (h : TX μ T n) (h0 : μ'.1 37 0 = μ.1 37 0) (h1 : ∀ j, μ'.1 38 j = μ.1 38 j) : TX μ' T n := ⟨h.1, by rw [h0]; exact h.2.1, fun i hi => ⟨(h.2.2 i hi).1, by rw [h1]; exact (h.2.2 i hi).2⟩⟩
theorem TXM_eq {μ μ' : am_M} {T : Nat → Nat} {n : Nat} (h : TXM μ T n) (h0 : μ'.1 49 6 = μ.1 49 6) (h1 : ∀ j, μ'.1 54 j = μ.1 54 j) : TXM μ' T n := ⟨h.1, by rw [h0]; exact h.2.1, fun i hi => ⟨(h.2.2 i hi).1, by rw [h1]; exact (h.2.2 i hi).2⟩⟩
theorem LTR_eq {μ μ' : am_M} (h : LTR μ) (hk : ∀ k, 55 ≤ k → k < 58 → μ'.1 k = μ.1 k) : LTR μ' := fun a o N hW w hw j hj => by
  have ha : 55 ≤ a ∧ a < 58 := by rcases hW with q | q | q <;> omega
  rw [hk a ha.1 ha.2]
  exact h a o N hW w hw j hj
def KP (μ : am_M) : Prop := μ.1 0 3 = μ.1 49 3 ∧ (¬ μ.1 0 3 = 0 → ∃ s', Rp 25 μ s' ∧ RpM 51 μ s' ∧ Iv s')
theorem KP_eq {μ μ' : am_M} (h : KP μ) (h0 : μ'.1 0 3 = μ.1 0 3) (h1 : μ'.1 49 3 = μ.1 49 3) (hk : ∀ k, 25 ≤ k → k < 37 → μ'.1 k = μ.1 k) (h51 : μ'.1 51 = μ.1 51) : KP μ' := by
  refine ⟨by rw [h0, h1]; exact h.1, fun z => ?_⟩
  rw [h0] at z
  obtain ⟨s', a, b, c⟩ := h.2 z
  exact ⟨s', Rp_eq a (fun k k1 k2 => hk k k1 (by omega)) (Iv_sn c), RpM_c b (Iv_sn c) (fun j _ => by rw [h51]), c⟩
def SCR (L : Nat) (xs : Nat → Int32) (μ : am_M) : Prop := μ.1 103 0 = nI L ∧ ∀ j, μ.1 102 j = xs j
def FND (μ : am_M) : Prop := ∀ i, i < 7 → μ.1 48 i = μ.1 53 i
def RST (w : wS) (T : Nat → Nat) (n L : Nat) (xs : Nat → Int32) (μ : am_M) : Prop := RS μ w ∧ RSM μ w ∧ IS w ∧ TX μ T n ∧ TXM μ T n ∧ LTR μ ∧ FND μ ∧ KP μ ∧ SCR L xs μ
def INV (L : Nat) (xs : Nat → Int32) (μ : am_M) : Prop := ∃ s w T n, Rp 1 μ s ∧ RpM 50 μ s ∧ Iv s ∧ RST w T n L xs μ
theorem SCR_eq {L : Nat} {xs : Nat → Int32} {μ μ' : am_M} (h : SCR L xs μ) (hk : ∀ k, 62 ≤ k → μ'.1 k = μ.1 k) : SCR L xs μ' := ⟨by rw [hk 103 (by omega)]; exact h.1, fun j => by rw [hk 102 (by omega)]; exact h.2 j⟩
theorem RST_eq {w : wS} {T : Nat → Nat} {n L : Nat} {xs : Nat → Int32} {μ μ' : am_M} (h : RST w T n L xs μ) (hk : ∀ k, (k = 0 ∨ 25 ≤ k) → k ≠ 50 → k ≠ 52 → μ'.1 k = μ.1 k) : RST w T n L xs μ' := by
  obtain ⟨h1, h2, h3, h4, h5, h6, h7, h8, h9⟩ := h
  refine ⟨RS_eq h1 (fun k a b => hk k (by omega) (by omega) (by omega)), RSM_eq h2 (fun k a b => hk k (by omega) (by omega) (by omega)), h3, TX_eq h4 (by rw [hk 37 (by omega) (by omega) (by omega)]) (fun j => by rw [hk 38 (by omega) (by omega) (by omega)]), TXM_eq h5 (by rw [hk 49 (by omega) (by omega) (by omega)]) (fun j => by rw [hk 54 (by omega) (by omega) (by omega)]), LTR_eq h6 (fun k a b => hk k (by omega) (by omega) (by omega)), fun i hi => ?_, KP_eq h8 (by rw [hk 0 (by omega) (by omega) (by omega)]) (by rw [hk 49 (by omega) (by omega) (by omega)]) (fun k a b => hk k (by omega) (by omega) (by omega)) (hk 51 (by omega) (by omega) (by omega)), SCR_eq h9 (fun k a => hk k (by omega) (by omega) (by omega))⟩
  rw [hk 48 (by omega) (by omega) (by omega), hk 53 (by omega) (by omega) (by omega)]
  exact h7 i hi
/-- a finding, told by both -/
theorem RST_f {w : wS} {T : Nat → Nat} {n L : Nat} {xs : Nat → Int32} {μ μ' : am_M} (h : RST w T n L xs μ) (f : Nat) (hf : f < 7) (hk : ∀ k, (k = 0 ∨ 25 ≤ k) → k ≠ 50 → k ≠ 52 → k ≠ 48 → k ≠ 53 → μ'.1 k = μ.1 k) (h48 : ∀ i, μ'.1 48 i = if i = f then μ.1 48 f + 1 else μ.1 48 i) (h53 : ∀ i, μ'.1 53 i = if i = f then μ.1 53 f + 1 else μ.1 53 i) : RST w T n L xs μ' := by
  obtain ⟨h1, h2, h3, h4, h5, h6, h7, h8, h9⟩ := h
  refine ⟨RS_eq h1 (fun k a b => hk k (by omega) (by omega) (by omega) (by omega) (by omega)), RSM_eq h2 (fun k a b => hk k (by omega) (by omega) (by omega) (by omega) (by omega)), h3, TX_eq h4 (by rw [hk 37 (by omega) (by omega) (by omega) (by omega) (by omega)]) (fun j => by rw [hk 38 (by omega) (by omega) (by omega) (by omega) (by omega)]), TXM_eq h5 (by rw [hk 49 (by omega) (by omega) (by omega) (by omega) (by omega)]) (fun j => by rw [hk 54 (by omega) (by omega) (by omega) (by omega) (by omega)]), LTR_eq h6 (fun k a b => hk k (by omega) (by omega) (by omega) (by omega) (by omega)), fun i hi => ?_, KP_eq h8 (by rw [hk 0 (by omega) (by omega) (by omega) (by omega) (by omega)]) (by rw [hk 49 (by omega) (by omega) (by omega) (by omega) (by omega)]) (fun k a b => hk k (by omega) (by omega) (by omega) (by omega) (by omega)) (hk 51 (by omega) (by omega) (by omega) (by omega) (by omega)), SCR_eq h9 (fun k a => hk k (by omega) (by omega) (by omega) (by omega) (by omega))⟩
  rw [h48, h53, h7 f hf, h7 i hi]
theorem fnd_48 {μ : am_M} {f : Nat} (i : Nat) : (fnd μ f).1 48 i = if i = f then μ.1 48 f + 1 else μ.1 48 i := by
  unfold fnd
  by_cases e : i = f
  · subst e; rw [set_eq, if_pos rfl]
  · rw [set_ne (by omega), if_neg e]
theorem fnM_53 {μ : am_M} {f : Nat} (i : Nat) : (fnM μ f).1 53 i = if i = f then μ.1 53 f + 1 else μ.1 53 i := by
  unfold fnM
  by_cases e : i = f
  · subst e; rw [set_eq, if_pos rfl]
  · rw [set_ne (by omega), if_neg e]
theorem fnd_o {μ : am_M} {f k : Nat} (h : k ≠ 48) : (fnd μ f).1 k = μ.1 k := set_o h
theorem fnM_o {μ : am_M} {f k : Nat} (h : k ≠ 53) : (fnM μ f).1 k = μ.1 k := set_o h
def okO (r : Out) : Prop := match r with
  | .inl (_, s') => Iv s'
  | .inr f => f < 7
/-- what both answer -/
def MD (L : Nat) (xs : Nat → Int32) (F : am_M → am_Q → Prop) (x : Int32) (μ1 : am_M) : Prop := SCR L xs μ1 ∧ ∀ Q' : am_Q, (∀ μ2, INV L xs μ2 → Q' (some (.int x)) μ2) → F μ1 Q'
theorem stepLS {L : Nat} {xs : Nat → Int32} {μ : am_M} (hI : INV L xs μ) (p : wS → Int32 → cS → Out) (hp : ∀ w t s, IS w → Iv s → okO (p w t s)) {Q : am_Q} (h : ∀ x μ1, MD L xs (fun μ1 Q' => ∃ s w, RpM 50 μ1 s ∧ Iv s ∧ RSM μ1 w ∧ IS w ∧ oM s (p w (μ1.1 49 6) s) μ1 Q') x μ1 → Q (some (.int x)) μ1) : ∃ s w, Rp 1 μ s ∧ Iv s ∧ RS μ w ∧ IS w ∧ oX s (p w (μ.1 37 0) s) μ Q := by
  obtain ⟨s, w, T, n, hR, hM, hv, hr⟩ := hI
  have n8 := Iv_sn hv
  have e37 : μ.1 37 0 = μ.1 49 6 := by rw [hr.2.2.2.1.2.1, hr.2.2.2.2.1.2.1]
  refine ⟨s, w, hR, hv, hr.1, hr.2.2.1, ?_⟩
  have hok := hp w (μ.1 37 0) s hr.2.2.1 hv
  cases e : p w (μ.1 37 0) s with
  | inl y =>
    obtain ⟨x, s'⟩ := y
    rw [e] at hok
    have hok : Iv s' := hok
    show ∀ μ', Rp 1 μ' s' → FrX μ μ' → Q (some (.int x)) μ'
    intro μ1 hR1 hF1
    refine h x μ1 ⟨SCR_eq hr.2.2.2.2.2.2.2.2 (fun k a => hF1.1 k (by omega)), fun Q' hQ => ⟨s, w, RpM_c hM n8 (fun j _ => by rw [hF1.1 50 (by omega)]), hv, RSM_eq hr.2.1 (fun k a b => hF1.1 k (by omega)), hr.2.2.1, ?_⟩⟩
    rw [hF1.1 49 (by omega), ← e37, e]
    show ∀ μ', RpM 50 μ' s' → FrM μ1 μ' → Q' (some (.int x)) μ'
    intro μ2 hR2 hF2
    exact hQ μ2 ⟨s', w, T, n, Rp_eq hR1 (fun k a b => hF2.1 k (by omega) (by omega)) (Iv_sn hok), hR2, hok, RST_eq hr (fun k a b c => (hF2.1 k b c).trans (hF1.1 k a))⟩
  | inr f =>
    rw [e] at hok
    have hok : f < 7 := hok
    show ∀ μ', Rp 1 μ' s → FrX μ μ' → Q (some (.int (-1000001 - nI f))) (fnd μ' f)
    intro μ1 hR1 hF1
    have hF1' : ∀ k, (k = 0 ∨ 25 ≤ k) → k ≠ 48 → (fnd μ1 f).1 k = μ.1 k := fun k a b => (fnd_o b).trans (hF1.1 k a)
    refine h _ _ ⟨SCR_eq hr.2.2.2.2.2.2.2.2 (fun k a => hF1' k (by omega) (by omega)), fun Q' hQ => ⟨s, w, RpM_c hM n8 (fun j _ => by rw [hF1' 50 (by omega) (by omega)]), hv, RSM_eq hr.2.1 (fun k a b => hF1' k (by omega) (by omega)), hr.2.2.1, ?_⟩⟩
    rw [hF1' 49 (by omega) (by omega), ← e37, e]
    show ∀ μ', RpM 50 μ' s → FrM (fnd μ1 f) μ' → Q' (some (.int (-1000001 - nI f))) (fnM μ' f)
    intro μ2 hR2 hF2
    refine hQ _ ⟨s, w, T, n, Rp_eq hR1 (fun k a b => by rw [fnM_o (by omega), hF2.1 k (by omega) (by omega), fnd_o (by omega)]) n8, RpM_c hR2 n8 (fun j _ => by rw [fnM_o (by omega)]), hv, RST_f hr f hok (fun k a b c d e2 => by rw [fnM_o e2, hF2.1 k b c, hF1' k a d]) (fun i => ?_) (fun i => ?_)⟩
    · rw [fnM_o (by omega), hF2.1 48 (by omega) (by omega), fnd_48, hF1.1 48 (by omega)]
    · rw [fnM_53, hF2.1 53 (by omega) (by omega), hF1' 53 (by omega) (by omega)]
theorem stepL {L : Nat} {xs : Nat → Int32} {μ : am_M} (hI : INV L xs μ) (p : cS → Out) (hp : ∀ s, Iv s → okO (p s)) {Q : am_Q} (h : ∀ x μ1, MD L xs (fun μ1 Q' => ∃ s, RpM 50 μ1 s ∧ Iv s ∧ oM s (p s) μ1 Q') x μ1 → Q (some (.int x)) μ1) : ∃ s, Rp 1 μ s ∧ Iv s ∧ oX s (p s) μ Q := by
  obtain ⟨s, w, a, b, -, -, c⟩ := stepLS hI (fun _ _ s => p s) (fun _ _ s _ hs => hp s hs) (Q := Q) (fun x μ1 q => h x μ1 ⟨q.1, fun Q' hQ => by
    obtain ⟨s, w, a, b, -, -, c⟩ := q.2 Q' hQ
    exact ⟨s, a, b, c⟩⟩)
  exact ⟨s, a, b, c⟩
def okS (r : OutS) : Prop := match r with
  | .inl (_, w') => IS w'
  | .inr f => f < 7
theorem RST_S {w w' : wS} {T : Nat → Nat} {n L : Nat} {xs : Nat → Int32} {μ μ' : am_M} (h : RST w T n L xs μ) (hk : ∀ k, (k < 40 ∨ 48 ≤ k) → (k < 58 ∨ 61 < k) → μ'.1 k = μ.1 k) (a : RS μ' w') (b : RSM μ' w') (c : IS w') : RST w' T n L xs μ' := by
  obtain ⟨h1, h2, h3, h4, h5, h6, h7, h8, h9⟩ := h
  refine ⟨a, b, c, TX_eq h4 (by rw [hk 37 (by omega) (by omega)]) (fun j => by rw [hk 38 (by omega) (by omega)]), TXM_eq h5 (by rw [hk 49 (by omega) (by omega)]) (fun j => by rw [hk 54 (by omega) (by omega)]), LTR_eq h6 (fun k a b => hk k (by omega) (by omega)), fun i hi => ?_, KP_eq h8 (by rw [hk 0 (by omega) (by omega)]) (by rw [hk 49 (by omega) (by omega)]) (fun k a b => hk k (by omega) (by omega)) (hk 51 (by omega) (by omega)), SCR_eq h9 (fun k a => hk k (by omega) (by omega))⟩
  rw [hk 48 (by omega) (by omega), hk 53 (by omega) (by omega)]
  exact h7 i hi
theorem INV_f {L : Nat} {xs : Nat → Int32} {μ : am_M} (hI : INV L xs μ) (f : Nat) (hf : f < 7) : INV L xs (fnM (fnd μ f) f) := by
  obtain ⟨s, w, T, n, hR, hM, hv, hr⟩ := hI
  have n8 := Iv_sn hv
  refine ⟨s, w, T, n, Rp_eq hR (fun k a b => by rw [fnM_o (by omega), fnd_o (by omega)]) n8, RpM_c hM n8 (fun j _ => by rw [fnM_o (by omega), fnd_o (by omega)]), hv, RST_f hr f hf (fun k a b c d e2 => by rw [fnM_o e2, fnd_o d]) (fun i => ?_) (fun i => ?_)⟩
  · rw [fnM_o (by omega), fnd_48]
  · rw [fnM_53, fnd_o (by omega)]
theorem stepS {L : Nat} {xs : Nat → Int32} {μ : am_M} (hI : INV L xs μ) (p : wS → OutS) (hp : ∀ w, IS w → okS (p w)) {Q : am_Q} (h : ∀ x μ1, MD L xs (fun μ1 Q' => ∃ w, RSM μ1 w ∧ IS w ∧ oSM (p w) μ1 Q') x μ1 → Q (some (.int x)) μ1) : ∃ w, RS μ w ∧ IS w ∧ oS (p w) μ Q := by
  have hI0 := hI
  obtain ⟨s, w, T, n, hR, hM, hv, hr⟩ := hI
  have n8 := Iv_sn hv
  refine ⟨w, hr.1, hr.2.2.1, ?_⟩
  have hok := hp w hr.2.2.1
  cases e : p w with
  | inl y =>
    obtain ⟨x, w'⟩ := y
    rw [e] at hok
    have hok : IS w' := hok
    show ∀ μ', RS μ' w' → FrS μ μ' → Q (some (.int x)) μ'
    intro μ1 hR1 hF1
    refine h x μ1 ⟨SCR_eq hr.2.2.2.2.2.2.2.2 (fun k a => hF1.1 k (by omega)), fun Q' hQ => ⟨w, RSM_eq hr.2.1 (fun k a b => hF1.1 k (by omega)), hr.2.2.1, ?_⟩⟩
    rw [e]
    show ∀ μ', RSM μ' w' → FrSM μ1 μ' → Q' (some (.int x)) μ'
    intro μ2 hR2 hF2
    have hk : ∀ k, (k < 40 ∨ 48 ≤ k) → (k < 58 ∨ 61 < k) → μ2.1 k = μ.1 k := fun k a b => (hF2.1 k b).trans (hF1.1 k a)
    exact hQ μ2 ⟨s, w', T, n, Rp_eq hR (fun k a b => hk k (by omega) (by omega)) n8, RpM_c hM n8 (fun j _ => by rw [hk 50 (by omega) (by omega)]), hv, RST_S hr hk (RS_eq hR1 (fun k a b => hF2.1 k (by omega))) hR2 hok⟩
  | inr f =>
    rw [e] at hok
    have hok : f < 7 := hok
    show Q (some (.int (-1000001 - nI f))) (fnd μ f)
    refine h _ _ ⟨SCR_eq hr.2.2.2.2.2.2.2.2 (fun k a => fnd_o (by omega)), fun Q' hQ => ⟨w, RSM_eq hr.2.1 (fun k a b => fnd_o (by omega)), hr.2.2.1, ?_⟩⟩
    rw [e]
    exact hQ _ (INV_f hI0 f hok)
/-! what keeps the bounds -/
theorem wn {v : Int32} {m : Nat} (hm : m < 2 ^ 31) (h : wi v (nI m) = true) : ∃ j, j ≤ m ∧ v = nI j := wi_nI hm (wi_w h)
theorem oo_air (v : Int32) (s : cS) (h : Iv s) : okO (p_air v s) := by
  unfold p_air
  split
  · rename_i q
    obtain ⟨j, hj, rfl⟩ := wn (m := 99999) (by omega) q
    exact (Iv_air h hj : Iv _)
  · exact (by decide : (0 : Nat) < 7)
theorem oo_list (i c f : Int32) (s : cS) (h : Iv s) : okO (p_list i c f s) := by
  unfold p_list
  split
  · split
    · rename_i q
      split
      · rename_i q2
        obtain ⟨j, hj, rfl⟩ := wn (m := 7) (by omega) q
        obtain ⟨j2, hj2, rfl⟩ := wn (m := 9) (by omega) q2
        rw [show (10 : Int32) = nI 10 from rfl, nI_mul, nI_add]
        exact (Iv_bt (e := 10 * j + j2) h (by omega) : Iv _)
      · exact (by decide : (0 : Nat) < 7)
    · exact (by decide : (0 : Nat) < 7)
  · exact (by decide : (0 : Nat) < 7)
theorem oo_listed (i : Int32) (s : cS) (h : Iv s) : okO (p_listed i s) := by
  unfold p_listed
  (repeat' split) <;> first | exact h | exact (by decide : (0 : Nat) < 7) | exact (by decide : (1 : Nat) < 7) | exact (by decide : (2 : Nat) < 7) | exact (by decide : (3 : Nat) < 7) | exact (by decide : (4 : Nat) < 7) | exact (by decide : (5 : Nat) < 7) | exact (by decide : (6 : Nat) < 7)
theorem oo_carpet (k f : Int32) (s : cS) (h : Iv s) : okO (p_carpet k f s) := by
  have n8 := Iv_sn h
  unfold p_carpet
  split
  · rename_i q
    split
    · rename_i q2
      split
      · exact (by decide : (1 : Nat) < 7)
      · obtain ⟨j, hj, rfl⟩ := wn (m := 6) (by omega) q
        obtain ⟨j2, hj2, rfl⟩ := wn (m := 4095) (by omega) q2
        exact (Iv_lay h (by omega) hj hj2 : Iv _)
    · exact (by decide : (0 : Nat) < 7)
  · exact (by decide : (0 : Nat) < 7)
theorem oo_of (c w : Int32) (s : cS) (h : Iv s) : okO (p_of c w s) := by
  unfold p_of
  (repeat' split) <;> first | exact h | exact (by decide : (0 : Nat) < 7) | exact (by decide : (1 : Nat) < 7) | exact (by decide : (2 : Nat) < 7) | exact (by decide : (3 : Nat) < 7) | exact (by decide : (4 : Nat) < 7) | exact (by decide : (5 : Nat) < 7) | exact (by decide : (6 : Nat) < 7)
theorem oo_change (c w v : Int32) (s : cS) (h : Iv s) : okO (p_change c w v s) := by
  unfold p_change
  split
  · split
    · rename_i q
      split
      · rename_i q2
        obtain ⟨j, hj, rfl⟩ := wn (m := 6) (by omega) q
        have e : (nI j).toNatClampNeg = j := cl7 (by omega)
        rw [e] at q2 ⊢
        have hm := mb_le (j := j) (by omega)
        obtain ⟨j2, hj2, rfl⟩ := wn (m := mb j) (by omega) q2
        exact (Iv_cp h hj2 : Iv _)
      · exact (by decide : (0 : Nat) < 7)
    · exact (by decide : (0 : Nat) < 7)
  · exact (by decide : (0 : Nat) < 7)
theorem oo_under (c w f : Int32) (s : cS) (h : Iv s) : okO (p_under c w f s) := by
  unfold p_under
  (repeat' split) <;> first | exact h | exact (by decide : (0 : Nat) < 7) | exact (by decide : (1 : Nat) < 7) | exact (by decide : (2 : Nat) < 7) | exact (by decide : (3 : Nat) < 7) | exact (by decide : (4 : Nat) < 7) | exact (by decide : (5 : Nat) < 7) | exact (by decide : (6 : Nat) < 7)
theorem oo_beat (c f : Int32) (s : cS) (h : Iv s) : okO (p_beat c f s) := by
  unfold p_beat
  split
  · rename_i q
    obtain ⟨i, hi, hi8, rfl⟩ := th_i2 (Iv_w h) q
    split
    · rename_i q2
      obtain ⟨j, hj, rfl⟩ := wn (m := 9) (by omega) q2
      rw [cl_nIs hi8]
      split
      · exact (Iv_btS h hi hj : Iv _)
      · exact (by decide : (4 : Nat) < 7)
    · exact (by decide : (0 : Nat) < 7)
  · exact (by decide : (0 : Nat) < 7)
theorem oo_who (m : Int32) (s : cS) (h : Iv s) : okO (p_who m s) := by
  unfold p_who
  (repeat' split) <;> first | exact h | exact (by decide : (0 : Nat) < 7) | exact (by decide : (1 : Nat) < 7) | exact (by decide : (2 : Nat) < 7) | exact (by decide : (3 : Nat) < 7) | exact (by decide : (4 : Nat) < 7) | exact (by decide : (5 : Nat) < 7) | exact (by decide : (6 : Nat) < 7)
theorem oo_go (n : Int32) (s : cS) (h : Iv s) : okO (p_go n s) := by
  have k := Iv_dys h n.toNatClampNeg
  unfold p_go
  split
  · exact (by decide : (0 : Nat) < 7)
  · split
    · split
      · exact (k : Iv _)
      · exact (by decide : (4 : Nat) < 7)
    · exact (by decide : (0 : Nat) < 7)
theorem oo_now (w : Int32) (s : cS) (h : Iv s) : okO (p_now w s) := by
  unfold p_now
  (repeat' split) <;> first | exact h | exact (by decide : (0 : Nat) < 7) | exact (by decide : (1 : Nat) < 7) | exact (by decide : (2 : Nat) < 7) | exact (by decide : (3 : Nat) < 7) | exact (by decide : (4 : Nat) < 7) | exact (by decide : (5 : Nat) < 7) | exact (by decide : (6 : Nat) < 7)
theorem oo_ahead (c w n : Int32) (s : cS) (h : Iv s) : okO (p_ahead c w n s) := by
  unfold p_ahead
  (repeat' split) <;> first | exact h | exact (by decide : (0 : Nat) < 7) | exact (by decide : (1 : Nat) < 7) | exact (by decide : (2 : Nat) < 7) | exact (by decide : (3 : Nat) < 7) | exact (by decide : (4 : Nat) < 7) | exact (by decide : (5 : Nat) < 7) | exact (by decide : (6 : Nat) < 7)
theorem oo_haze (n : Int32) (s : cS) (h : Iv s) : okO (p_haze n s) := by
  unfold p_haze
  (repeat' split) <;> first | exact h | exact (by decide : (0 : Nat) < 7) | exact (by decide : (1 : Nat) < 7) | exact (by decide : (2 : Nat) < 7) | exact (by decide : (3 : Nat) < 7) | exact (by decide : (4 : Nat) < 7) | exact (by decide : (5 : Nat) < 7) | exact (by decide : (6 : Nat) < 7)
theorem oo_fdS (s : cS) (c : Nat) (q v : Int32) (h : Iv s) : ∀ k d, okO (fdS s c q v k d)
  | 0, _ => (by decide : (3 : Nat) < 7)
  | k + 1, d => by
    unfold fdS
    split
    · exact h
    · exact oo_fdS s c q v h k (d + 1)
theorem oo_first (c q v m : Int32) (s : cS) (h : Iv s) : okO (p_first c q v m s) := by
  unfold p_first
  split
  · split
    · exact oo_fdS s _ _ _ h _ _
    · exact (by decide : (0 : Nat) < 7)
  · exact (by decide : (0 : Nat) < 7)
theorem oo_ffS (s : cS) (i : Nat) (v : Int32) (n : Nat) (h : Iv s) : ∀ k d, okO (ffS s i v n k d)
  | 0, _ => (by decide : (3 : Nat) < 7)
  | k + 1, d => by
    unfold ffS
    split
    · exact h
    · exact oo_ffS s i v n h k (d + 1)
theorem oo_forceFor (i v n : Int32) (s : cS) (h : Iv s) : okO (p_forceFor i v n s) := by
  unfold p_forceFor
  split
  · split
    · split
      · exact oo_ffS s _ _ _ h _ _
      · exact (by decide : (0 : Nat) < 7)
    · exact (by decide : (0 : Nat) < 7)
  · exact (by decide : (0 : Nat) < 7)
theorem oo_turnFor (i n : Int32) (s : cS) (h : Iv s) : okO (p_turnFor i n s) := by
  unfold p_turnFor
  (repeat' split) <;> first | exact h | exact (by decide : (0 : Nat) < 7) | exact (by decide : (1 : Nat) < 7) | exact (by decide : (2 : Nat) < 7) | exact (by decide : (3 : Nat) < 7) | exact (by decide : (4 : Nat) < 7) | exact (by decide : (5 : Nat) < 7) | exact (by decide : (6 : Nat) < 7)
theorem oo_kindFor (c n : Int32) (s : cS) (h : Iv s) : okO (p_kindFor c n s) := by
  unfold p_kindFor
  (repeat' split) <;> first | exact h | exact (by decide : (0 : Nat) < 7) | exact (by decide : (1 : Nat) < 7) | exact (by decide : (2 : Nat) < 7) | exact (by decide : (3 : Nat) < 7) | exact (by decide : (4 : Nat) < 7) | exact (by decide : (5 : Nat) < 7) | exact (by decide : (6 : Nat) < 7)
theorem oo_shut (c m n : Int32) (s : cS) (h : Iv s) : okO (p_shut c m n s) := by
  unfold p_shut
  (repeat' split) <;> first | exact h | exact (by decide : (0 : Nat) < 7) | exact (by decide : (1 : Nat) < 7) | exact (by decide : (2 : Nat) < 7) | exact (by decide : (3 : Nat) < 7) | exact (by decide : (4 : Nat) < 7) | exact (by decide : (5 : Nat) < 7) | exact (by decide : (6 : Nat) < 7)
theorem oo_cover (m : Int32) (s : cS) (h : Iv s) : okO (p_cover m s) := by
  unfold p_cover
  (repeat' split) <;> first | exact h | exact (by decide : (0 : Nat) < 7) | exact (by decide : (1 : Nat) < 7) | exact (by decide : (2 : Nat) < 7) | exact (by decide : (3 : Nat) < 7) | exact (by decide : (4 : Nat) < 7) | exact (by decide : (5 : Nat) < 7) | exact (by decide : (6 : Nat) < 7)
theorem oo_spring (n : Int32) (s : cS) (h : Iv s) : okO (p_spring n s) := by
  have k := Iv_spN h n.toNatClampNeg
  unfold p_spring
  split
  · exact (by decide : (0 : Nat) < 7)
  · split
    · split
      · exact (k : Iv _)
      · exact (by decide : (4 : Nat) < 7)
    · exact (by decide : (0 : Nat) < 7)
theorem oo_seed (v : Int32) (s : cS) (h : Iv s) : okO (p_seed v s) := (Iv_z h : Iv _)
theorem oo_hold (i c : Int32) (s : cS) (h : Iv s) : okO (p_hold i c s) := by
  unfold p_hold
  split
  · split
    · rename_i q
      exact (Iv_sp h (Or.inl q) : Iv _)
    · split
      · rename_i q
        obtain ⟨j, hj, hj8, rfl⟩ := th_i2 (Iv_w h) q
        exact (Iv_sp h (Or.inr ⟨j, hj, rfl⟩) : Iv _)
      · exact (by decide : (0 : Nat) < 7)
  · exact (by decide : (0 : Nat) < 7)
theorem oo_as (i a : Int32) (s : cS) (h : Iv s) : okO (p_as i a s) := by
  unfold p_as
  (repeat' split) <;> first | exact h | exact (by decide : (0 : Nat) < 7) | exact (by decide : (1 : Nat) < 7) | exact (by decide : (2 : Nat) < 7) | exact (by decide : (3 : Nat) < 7) | exact (by decide : (4 : Nat) < 7) | exact (by decide : (5 : Nat) < 7) | exact (by decide : (6 : Nat) < 7)
theorem oo_fits (i c : Int32) (w : wS) (s : cS) (h : Iv s) : okO (p_fits i c w s) := by
  unfold p_fits p_told
  (repeat' split) <;> first | exact h | exact (by decide : (0 : Nat) < 7) | exact (by decide : (1 : Nat) < 7) | exact (by decide : (2 : Nat) < 7) | exact (by decide : (3 : Nat) < 7) | exact (by decide : (4 : Nat) < 7) | exact (by decide : (5 : Nat) < 7) | exact (by decide : (6 : Nat) < 7)
theorem oo_kinds (i c : Int32) (w : wS) (s : cS) (h : Iv s) : okO (p_kinds i c w s) := by
  unfold p_kinds p_told
  (repeat' split) <;> first | exact h | exact (by decide : (0 : Nat) < 7) | exact (by decide : (1 : Nat) < 7) | exact (by decide : (2 : Nat) < 7) | exact (by decide : (3 : Nat) < 7) | exact (by decide : (4 : Nat) < 7) | exact (by decide : (5 : Nat) < 7) | exact (by decide : (6 : Nat) < 7)
theorem oo_judge (i : Int32) (w : wS) (s : cS) (h : Iv s) : okO (p_judge i w s) := by
  unfold p_judge
  (repeat' split) <;> first | exact h | exact (by decide : (0 : Nat) < 7) | exact (by decide : (1 : Nat) < 7) | exact (by decide : (2 : Nat) < 7) | exact (by decide : (3 : Nat) < 7) | exact (by decide : (4 : Nat) < 7) | exact (by decide : (5 : Nat) < 7) | exact (by decide : (6 : Nat) < 7)
theorem oo_ldS (t : Nat → Int32) : ∀ k i s, Iv s → Iv (ldS t k i s).2
  | 0, _, _, h => h
  | k + 1, i, s, h => by
    unfold ldS
    split
    · rename_i q
      obtain ⟨j, hj, e⟩ := wn (m := 4095) (by omega) q
      rw [e]
      exact oo_ldS t k (i + 1) _ (Iv_cp h (show j ≤ mb 1 from hj))
    · exact h
theorem oo_load (i : Int32) (w : wS) (s : cS) (h : Iv s) : okO (p_load i w s) := by
  unfold p_load
  split
  · split
    · exact (by decide : (5 : Nat) < 7)
    · exact oo_ldS _ _ _ _ h
  · exact (by decide : (0 : Nat) < 7)
theorem oo_count (w t : Int32) (s : cS) (h : Iv s) : okO (p_count w t s) := by
  unfold p_count
  (repeat' split) <;> first | exact h | exact (by decide : (0 : Nat) < 7) | exact (by decide : (1 : Nat) < 7) | exact (by decide : (2 : Nat) < 7) | exact (by decide : (3 : Nat) < 7) | exact (by decide : (4 : Nat) < 7) | exact (by decide : (5 : Nat) < 7) | exact (by decide : (6 : Nat) < 7)
