/-! ===== the bounds are kept ===== -/
theorem nI_mul (a b : Nat) : nI a * nI b = nI (a * b) := pk_mul a b
theorem Iv_sn {s : cS} (h : Iv s) : sn s ≤ 8 := (Iv_n h).1
theorem Iv_cp {s : cS} {c f v : Nat} (h : Iv s) (hv : v ≤ mb f) : Iv (wcp s c f (nI v)) := by
  obtain ⟨h1, h2, h3, h4, h5, h6⟩ := h
  refine ⟨h1, h2, h3, h4, fun a b ha hb => ?_, h6⟩
  by_cases e : a = c ∧ b = f
  · obtain ⟨rfl, rfl⟩ := e
    exact ⟨v, hv, by simp [wcp]⟩
  · obtain ⟨w, hw, ew⟩ := h5 a b ha hb
    exact ⟨w, hw, by simp only [wcp, if_neg e]; exact ew⟩
theorem Iv_air {s : cS} {a : Nat} (h : Iv s) (ha : a ≤ 99999) : Iv (wsc s 3 (nI a)) := by
  obtain ⟨h1, h2, h3, h4, h5, h6⟩ := h
  exact ⟨h1, h2, ⟨a, ha, rfl⟩, h4, h5, h6⟩
theorem Iv_day {s : cS} {a : Nat} (h : Iv s) (ha : a ≤ 99999) : Iv (wsc s 0 (nI a)) := by
  obtain ⟨h1, h2, h3, h4, h5, h6⟩ := h
  exact ⟨h1, ⟨a, ha, rfl⟩, h3, h4, h5, h6⟩
theorem Iv_z {s : cS} {x : Int32} (h : Iv s) : Iv (wsc s 2 x) := h
theorem Iv_bt {s : cS} {i e : Nat} (h : Iv s) (he : e < 80) : Iv (wbt s i (nI e)) := by
  obtain ⟨h1, h2, h3, h4, h5, h6⟩ := h
  refine ⟨h1, h2, h3, fun j hj => ?_, h5, h6⟩
  by_cases q : j = i
  · subst q; exact ⟨e, he, by simp [wbt]⟩
  · obtain ⟨w, hw, ew⟩ := h4 j hj
    exact ⟨w, hw, by simp only [wbt, if_neg q]; exact ew⟩
theorem Iv_sp {s : cS} {i : Nat} {x : Int32} (h : Iv s) (hx : x = -1 ∨ ∃ c, c < sn s ∧ x = nI c) : Iv (wsp s i x) := by
  obtain ⟨h1, h2, h3, h4, h5, h6⟩ := h
  refine ⟨h1, h2, h3, h4, h5, fun j hj => ?_⟩
  by_cases q : j = i
  · subst q
    have : (wsp s j x).2.2.2 j = x := by simp [wsp]
    rw [this]; exact hx
  · have : (wsp s i x).2.2.2 j = s.2.2.2 j := by simp only [wsp, if_neg q]
    rw [this]; exact h6 j hj
theorem Iv_lay {s : cS} {k f : Nat} (h : Iv s) (h8 : sn s < 8) (hk : k ≤ 6) (hf : f ≤ 4095) : Iv (lay s (nI k) (nI f)) := by
  have hsn : sn (lay s (nI k) (nI f)) = sn s + 1 := sn_lay (Iv_w h)
  have hn := (Iv_n h).2
  obtain ⟨h1, h2, h3, h4, h5, h6⟩ := h
  refine ⟨⟨sn s + 1, by omega, ?_⟩, h2, h3, h4, fun c j hc hj => ?_, fun i hi => ?_⟩
  · show s.1 1 + 1 = _
    rw [hn, nI_1]
  · rw [hsn] at hc
    show ∃ v, v ≤ mb j ∧ (if c = sn s then (if j = 0 then nI k else if j = 1 then nI f else 0) else s.2.2.1 c j) = nI v
    by_cases e : c = sn s
    · rw [if_pos e]
      by_cases e0 : j = 0
      · subst e0; exact ⟨k, hk, rfl⟩
      · rw [if_neg e0]
        by_cases e1 : j = 1
        · subst e1; exact ⟨f, hf, rfl⟩
        · rw [if_neg e1]; exact ⟨0, Nat.zero_le _, rfl⟩
    · rw [if_neg e]; exact h5 c j (by omega) hj
  · rw [hsn]
    rcases h6 i hi with q | ⟨c, hc, e⟩
    · exact Or.inl q
    · exact Or.inr ⟨c, by omega, e⟩
theorem Iv_f {s : cS} (h : Iv s) {c f : Nat} (hc : c < sn s) (hf : f < 7) : ∃ v, v ≤ mb f ∧ s.2.2.1 c f = nI v := h.2.2.2.2.1 c f hc hf
theorem mn_c {m a b : Nat} (h : m < 2 ^ 31) (h2 : a + b < 2 ^ 31) : mn (nI m) (nI a + nI b) = nI (min m (a + b)) := by
  rw [nI_add, mn_nI h h2]
/-- what is trodden in -/
theorem tread_b {kd feet d : Nat} (h1 : kd ≤ 6) (h2 : feet ≤ 4095) : ∃ t, t ≤ 100 ∧ tread (nI kd) (nI feet) (nI d) = nI t := by
  have hp := pop12_le (t := feet)
  have key : ∀ kd, kd ≤ 6 → ∀ p, p ≤ 12 → ∀ b : Bool, wi (if nI kd = 1 then mx 0 (2 * nI p - 1) else if nI kd = 2 then 2 * nI p / 2 else if nI kd = 3 then 3 * mx 0 (2 * nI p - 1) else if nI kd = 4 then (if b = true then 3 * mx 0 (2 * nI p - 1) else 0) else if nI kd = 5 then 2 * nI p + 5 else if nI kd = 6 then 1 else 2 * nI p) 100 = true := by decide +kernel
  have := key kd h1 (pop12 feet) hp (decide (ir (nI d) 7 = 6))
  unfold tread
  rw [bc_pop12 (by omega)]
  simp only [decide_eq_true_eq] at this
  exact wi_nI (k := 100) (by omega) (by
    rcases Classical.em (wthn (if nI kd = 1 then mx 0 (2 * nI (pop12 feet) - 1) else if nI kd = 2 then 2 * nI (pop12 feet) / 2 else if nI kd = 3 then 3 * mx 0 (2 * nI (pop12 feet) - 1) else if nI kd = 4 then (if ir (nI d) 7 = 6 then 3 * mx 0 (2 * nI (pop12 feet) - 1) else 0) else if nI kd = 5 then 2 * nI (pop12 feet) + 5 else if nI kd = 6 then 1 else 2 * nI (pop12 feet)) (nI 100)) with q | q
    · exact q
    · exact absurd this (by rw [show (100 : Int32) = nI 100 from rfl, wi_f q]; decide))
theorem wi_w {v m : Int32} (h : wi v m = true) : wthn v m := by
  rcases Classical.em (wthn v m) with q | q
  · exact q
  · rw [wi_f q] at h; cases h
theorem gives_b {kd d f : Nat} (h1 : kd ≤ 6) (hf : f ≤ 9) : ∃ g, g ≤ max 100 d ∧ gives (nI kd) (nI d) (nI f) = nI g := by
  have key : ∀ kd, kd ≤ 6 → ¬ kd = 5 → ∀ f, f ≤ 9 → wi (gives (nI kd) 0 (nI f)) 100 = true := by decide +kernel
  by_cases e : kd = 5
  · subst e
    by_cases e0 : f = 0
    · subst e0; exact ⟨0, by omega, rfl⟩
    · refine ⟨d, by omega, ?_⟩
      have : ¬ nI f ≤ 0 := fun z => e0 (by have := (nI_leI (a := f) (b := 0) (by omega) (by omega)).mp z; omega)
      unfold gives
      rw [if_neg (by decide), if_neg (by decide), if_neg (by decide), if_pos (by decide), if_neg this]
  · have q := key kd h1 e f hf
    obtain ⟨g, hg, e2⟩ := wi_nI (k := 100) (by omega) (wi_w q)
    refine ⟨g, by omega, ?_⟩
    rw [← e2]
    have : ¬ nI kd = 5 := fun z => e ((nI_eq (a := kd) (b := 5) (by omega) (by omega)).mp z)
    unfold gives
    simp only [if_neg this]
theorem givA_b {kd d f : Nat} (h1 : kd ≤ 6) (hd : d ≤ 999) (hf : f ≤ 9) : ∃ g, g ≤ d ∧ givA (nI kd) (nI d) (nI f) = nI g := by
  obtain ⟨g, hg, e⟩ := gives_b (d := d) h1 hf
  refine ⟨min g d, by omega, ?_⟩
  unfold givA
  rw [e, mn_nI (by omega) (by omega)]
theorem nI_div {a b : Nat} (ha : a < 2 ^ 31) (hb : b < 2 ^ 31) (h0 : 0 < b) : nI a / nI b = nI (a / b) := pk_div ha h0 hb
theorem catches_b {kd v : Nat} (h1 : kd ≤ 6) (hv : v ≤ 999) : ∃ q, q ≤ v ∧ catches (nI kd) (nI v) = nI q := by
  unfold catches
  split
  · exact ⟨v / 2, by omega, nI_div (b := 2) (by omega) (by omega) (by omega)⟩
  · split
    · have : ∀ v, v ≤ 999 → mx 0 (nI v - 2) = nI (v - 2) := by decide +kernel
      exact ⟨v - 2, by omega, this v hv⟩
    · split
      · exact ⟨0, by omega, rfl⟩
      · exact ⟨v, by omega, rfl⟩
theorem suffers_b {kd f : Nat} (h1 : kd ≤ 6) (hf : f ≤ 9) : ∃ q, q ≤ 100 ∧ suffers (nI kd) (nI f) = nI q := by
  have key : ∀ kd, kd ≤ 6 → ∀ f, f ≤ 9 → wi (suffers (nI kd) (nI f)) 100 = true := by decide +kernel
  exact wi_nI (k := 100) (by omega) (wi_w (key kd h1 f hf))
theorem or_b {a b : Nat} (h1 : a ≤ 4095) (h2 : b ≤ 4095) : a ||| b ≤ 4095 := by
  have := Nat.or_lt_two_pow (x := a) (y := b) (n := 12) (by omega) (by omega)
  omega
theorem and_b {a b : Nat} (h1 : a ≤ 4095) : a &&& b ≤ 4095 := Nat.le_trans Nat.and_le_left h1
set_option maxRecDepth 100000 in
theorem hob_b {a : Nat} (h : a ≤ 4095) : ∃ m, m ≤ 4095 ∧ hob (nI a) = nI m ∧ ∃ r, r ≤ 4095 ∧ (nI a &&& (hob (nI a) ^^^ (-1))) = nI r := by
  have key : ∀ a, a ≤ 4095 → wi (hob (nI a)) 4095 = true ∧ wi (nI a &&& (hob (nI a) ^^^ (-1))) 4095 = true := by decide +kernel
  obtain ⟨m, hm, e⟩ := wi_nI (k := 4095) (by omega) (wi_w (key a h).1)
  obtain ⟨r, hr, e2⟩ := wi_nI (k := 4095) (by omega) (wi_w (key a h).2)
  exact ⟨m, hm, e, r, hr, e2⟩
theorem Iv_tr1 {s : cS} {c : Nat} (h : Iv s) (hc : c < sn s) : Iv (tr1 s c) := by
  obtain ⟨k, hk, ek⟩ := Iv_f h hc (f := 0) (by omega)
  obtain ⟨f, hf, ef⟩ := Iv_f h hc (f := 1) (by omega)
  obtain ⟨d, hd, ed⟩ := Iv_f h hc (f := 2) (by omega)
  obtain ⟨a, ha, ea⟩ := Iv_f h hc (f := 3) (by omega)
  obtain ⟨y, hy, ey⟩ := h.2.1
  obtain ⟨t, ht, et⟩ := tread_b (kd := k) (feet := f) (d := y) hk hf
  have hd' : d ≤ 999 := hd
  unfold tr1
  rw [ek, ef, ed, ea, ey, et, show (999 : Int32) = nI 999 from rfl, mn_c (by omega) (by omega), nI_or]
  exact Iv_cp (Iv_cp h (Nat.min_le_left _ _)) (or_b ha hf)
theorem Iv_trd {s : cS} (h : Iv s) : ∀ n, n ≤ sn s → Iv (trd s n)
  | 0, _ => h
  | n + 1, hn => Iv_tr1 (Iv_trd h n (by omega)) (by rw [sn_trd]; omega)
theorem opB_i {s : cS} {c : Int32} (hW : Iw s) (h : opB s c = true) : ∃ i, i < sn s ∧ i < 8 ∧ c = nI i ∧ s.2.2.1 i 5 = 0 := by
  obtain ⟨i, hi, e, h5⟩ := (opd_iff hW).mp (opB_iff.mp h)
  exact ⟨i, hi, by have := hW.1.1; omega, e, h5⟩
theorem Iv_ovr {s : cS} {c : Int32} {v : Nat} (h : Iv s) (hv : v ≤ 999) : Iv (ovr s c (nI v)).1 ∧ ∃ q, q ≤ v ∧ (ovr s c (nI v)).2 = nI q := by
  unfold ovr
  split
  · rename_i q
    obtain ⟨i, hi, hi8, rfl, h5⟩ := opB_i (Iv_w h) q
    rw [cl_nIs hi8]
    obtain ⟨k, hk, ek⟩ := Iv_f h hi (f := 0) (by omega)
    obtain ⟨d, hd, ed⟩ := Iv_f h hi (f := 2) (by omega)
    obtain ⟨t, ht, et⟩ := catches_b (kd := k) (v := v) hk hv
    have hd' : d ≤ 999 := hd
    rw [ek, ed, et, show (999 : Int32) = nI 999 from rfl, mn_c (by omega) (by omega)]
    exact ⟨Iv_cp h (Nat.min_le_left _ _), t, ht, rfl⟩
  · exact ⟨h, 0, Nat.zero_le _, rfl⟩
theorem Iv_orh {s : cS} {c : Int32} {m : Nat} (h : Iv s) (hm : m ≤ 4095) : Iv (orh s c (nI m)) := by
  unfold orh
  split
  · rename_i q
    obtain ⟨i, hi, hi8, rfl, h5⟩ := opB_i (Iv_w h) q
    rw [cl_nIs hi8]
    obtain ⟨a, ha, ea⟩ := Iv_f h hi (f := 3) (by omega)
    rw [ea, nI_or]
    exact Iv_cp h (or_b ha hm)
  · exact h
theorem Iv_mgo {s : cS} {c : Nat} (h : Iv s) (hc : c < sn s) : Iv (mgo s c) := by
  obtain ⟨a, ha, ea⟩ := Iv_f h hc (f := 3) (by omega)
  obtain ⟨m, hm, em, r, hr, er⟩ := hob_b (a := a) ha
  unfold mgo
  rw [ea]
  show Iv (orh (orh (wcp s c 3 (nI a &&& (hob (nI a) ^^^ (-1)))) (nI c - 1) (hob (nI a))) (nI c + 1) (hob (nI a)))
  rw [er, em]
  exact Iv_orh (Iv_orh (Iv_cp h hr) hm) hm
/-- what a beating gives, and how the lane stands while it goes -/
theorem bt_b {s : cS} {c f : Nat} (h : Iv s) (hc : c < sn s) (hf : f ≤ 9) : ∃ o, o ≤ 999 ∧ btO s c (nI f) = nI o ∧ Iv (wcp s c 2 (s.2.2.1 c 2 - nI o)) ∧ Iv (bt1 s c (nI f)).1 ∧ Iv (bt2 s c (nI f)).1 ∧ Iv (btA (bt2 s c (nI f)).1 (btO s c (nI f)) ((bt1 s c (nI f)).2 + (bt2 s c (nI f)).2)) := by
  obtain ⟨k, hk, ek⟩ := Iv_f h hc (f := 0) (by omega)
  obtain ⟨d, hd, ed⟩ := Iv_f h hc (f := 2) (by omega)
  have hd' : d ≤ 999 := hd
  obtain ⟨o, ho, eo⟩ := givA_b (kd := k) (d := d) (f := f) hk hd' hf
  have e : btO s c (nI f) = nI o := by unfold btO; rw [ek, ed, eo]
  have e2 : nI o / 2 = nI (o / 2) := nI_div (b := 2) (by omega) (by omega) (by omega)
  have I0 : Iv (wcp s c 2 (s.2.2.1 c 2 - nI o)) := by
    rw [ed, pk_sub ho]
    exact Iv_cp h (Nat.le_trans (Nat.sub_le _ _) hd)
  have I1 : Iv (bt1 s c (nI f)).1 ∧ ∃ q, q ≤ o / 2 ∧ (bt1 s c (nI f)).2 = nI q := by
    unfold bt1
    rw [e, e2]
    exact Iv_ovr I0 (by omega)
  have I2 : Iv (bt2 s c (nI f)).1 ∧ ∃ q, q ≤ o / 2 ∧ (bt2 s c (nI f)).2 = nI q := by
    unfold bt2
    rw [e, e2]
    exact Iv_ovr I1.1 (by omega)
  refine ⟨o, by omega, e, I0, I1.1, I2.1, ?_⟩
  obtain ⟨I1, q1, h1, e1⟩ := I1
  obtain ⟨I2, q2, h2, e3⟩ := I2
  obtain ⟨y, hy, ey⟩ := I2.2.2.1
  unfold btA
  rw [e, e1, e3, ey, nI_add, nI_add, pk_sub (by omega), show (99999 : Int32) = nI 99999 from rfl, mn_nI (by omega) (by omega)]
  exact Iv_air I2 (Nat.min_le_left _ _)
theorem Iv_btM {s : cS} {c : Nat} {o : Int32} (h : Iv s) (hc : c < sn s) : Iv (btM s c o) := by
  unfold btM
  split
  · exact Iv_mgo h hc
  · exact h
theorem Iv_btE {s : cS} {c f : Nat} (h : Iv s) (hc : c < sn s) (hf : f ≤ 9) : Iv (btE s c (nI f)) := by
  obtain ⟨k, hk, ek⟩ := Iv_f h hc (f := 0) (by omega)
  obtain ⟨w, hw, ew⟩ := Iv_f h hc (f := 4) (by omega)
  obtain ⟨t, ht, et⟩ := Iv_f h hc (f := 6) (by omega)
  have hw' : w ≤ 9999 := hw
  have ht' : t ≤ 9999 := ht
  obtain ⟨q, hq, eq⟩ := suffers_b (kd := k) (f := f) hk hf
  unfold btE
  rw [ek, ew, et, eq, show (9999 : Int32) = nI 9999 from rfl, mn_c (by omega) (by omega), show (1 : Int32) = nI 1 from rfl, mn_c (by omega) (by omega)]
  exact Iv_cp (Iv_cp h (Nat.min_le_left _ _)) (Nat.min_le_left _ _)
theorem sn_btA {s : cS} {o k : Int32} : sn (btA s o k) = sn s := rfl
theorem Iv_btS {s : cS} {c f : Nat} (h : Iv s) (hc : c < sn s) (hf : f ≤ 9) : Iv (btS s c (nI f)) := by
  obtain ⟨o, ho, e, I0, I1, I2, I3⟩ := bt_b h hc hf
  unfold btS
  have hs : sn (btA (bt2 s c (nI f)).1 (btO s c (nI f)) ((bt1 s c (nI f)).2 + (bt2 s c (nI f)).2)) = sn s := by rw [sn_btA, sn_bt2]
  exact Iv_btE (Iv_btM I3 (by rw [hs]; exact hc)) (by rw [sn_btM, hs]; exact hc) hf
theorem Iv_dayB {s : cS} (h : Iv s) : Iv (dayB s) := by
  obtain ⟨p1, p2, p3⟩ := plc_lt (Iv_w h)
  obtain ⟨e, he, ee⟩ := h.2.2.2.1 (plc s) p1
  unfold dayB
  split
  · rename_i q
    obtain ⟨i, hi, hi8, e1, h5⟩ := opB_i (Iv_w h) q
    rw [e1, cl_nIs hi8, ee, show (10 : Int32) = nI 10 from rfl, ir_nI (by omega) (by omega) (by omega)]
    exact Iv_btS h hi (by omega)
  · exact h
theorem Iv_dayE {s : cS} (h : Iv s) : Iv (dayE s) := by
  obtain ⟨d, hd, e⟩ := h.2.1
  unfold dayE
  rw [e, nI_1, show (99999 : Int32) = nI 99999 from rfl, mn_nI (by omega) (by omega)]
  exact Iv_day h (Nat.min_le_left _ _)
theorem Iv_dayS {s : cS} (h : Iv s) : Iv (dayS s) := Iv_dayE (Iv_dayB (Iv_trd h _ (Nat.le_refl _)))
theorem Iv_dys {s : cS} (h : Iv s) : ∀ n, Iv (dys s n)
  | 0 => h
  | n + 1 => Iv_dayS (Iv_dys h n)
