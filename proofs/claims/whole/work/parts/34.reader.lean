/-! ===== the reader of texts ===== -/
def isWB (T : Nat → Nat) (t : tK) (i : Nat) : Bool := decide (t.1 = 1) && decide (t.2.2.1 - t.2.1 = sl i) && (List.range (sl i)).all (fun j => decide (T (t.2.1 + j) = chN i j))
theorem isWB_iff {T : Nat → Nat} {t : tK} {i : Nat} : isWB T t i = true ↔ isW T t i := by
  unfold isWB isW
  simp only [Bool.and_eq_true, decide_eq_true_iff, List.all_eq_true, List.mem_range]
  exact ⟨fun h => ⟨h.1.1, h.1.2, h.2⟩, fun h => ⟨⟨h.1, h.2.1⟩, h.2.2⟩⟩
def isNB (t : tK) (m : Nat) : Bool := decide (t.1 = 2) && decide (t.2.2.2 ≤ m)
theorem isNB_iff {t : tK} {m : Nat} : isNB t m = true ↔ isN t m := by
  unfold isNB isN
  simp only [Bool.and_eq_true, decide_eq_true_iff]
def nxt (T : Nat → Nat) (n : Nat) (t : tK) : tK := tok T n t.2.2.1
theorem nxt_O {T : Nat → Nat} {n : Nat} {t : tK} (h : tkO n t) : tkO n (nxt T n t) := tok_O h.2.2.1
abbrev rR : Type := Bool × cS × tK
def rPart (T : Nat → Nat) (n : Nat) (s : cS) (c : Nat) (t : tK) (w j : Nat) : rR := if isWB T t w = true then (if isNB (nxt T n t) (mb j) = true then (true, wcp s c j (nI (nxt T n t).2.2.2), nxt T n (nxt T n t)) else (false, s, nxt T n t)) else (true, s, t)
def rShut (T : Nat → Nat) (n : Nat) (c : Nat) (r : rR) : rR := if isWB T r.2.2 10 = true then (true, wcp r.2.1 c 5 1, nxt T n r.2.2) else (true, r.2.1, r.2.2)
def rP2 (T : Nat → Nat) (n : Nat) (c : Nat) (r : rR) (w j : Nat) : rR := if r.1 = true then rPart T n r.2.1 c r.2.2 w j else r
def rP4 (T : Nat → Nat) (n : Nat) (c : Nat) (r : rR) : rR := if r.1 = true then rShut T n c r else r
def rCarpet (T : Nat → Nat) (n : Nat) (s : cS) (t : tK) (kd : Int32) : rR := if sn s = 8 then (false, s, t) else rP4 T n (sn s) (rP2 T n (sn s) (rP2 T n (sn s) (rPart T n (lay s kd 1) (sn s) (nxt T n t) 7 1) 8 2) 9 3)
def rBeat (T : Nat → Nat) (n : Nat) (s : cS) (t : tK) : rR :=
  if isNB (nxt T n t) 5 = true then
    (if isNB (nxt T n (nxt T n t)) 7 = true then
      (if isNB (nxt T n (nxt T n (nxt T n t))) 9 = true then (true, wbt s (nxt T n t).2.2.2 (10 * nI (nxt T n (nxt T n t)).2.2.2 + nI (nxt T n (nxt T n (nxt T n t))).2.2.2), nxt T n (nxt T n (nxt T n (nxt T n t))))
      else (false, s, nxt T n (nxt T n (nxt T n t))))
    else (false, s, nxt T n (nxt T n t)))
  else (false, s, nxt T n t)
def rAir (T : Nat → Nat) (n : Nat) (s : cS) (t : tK) : rR := if isNB (nxt T n t) 9999 = true then (true, wsc s 3 (nI (nxt T n t).2.2.2), nxt T n (nxt T n t)) else (false, s, nxt T n t)
def kwS (T : Nat → Nat) (t : tK) : Nat → Nat → Option Nat
  | 0, _ => none
  | k + 1, i => if isWB T t i = true then some i else kwS T t k (i + 1)
def rItem (T : Nat → Nat) (n : Nat) (s : cS) (t : tK) : rR := match kwS T t 7 0 with
  | some i => rCarpet T n s t (nI i)
  | none => if isWB T t 11 = true then rBeat T n s t else if isWB T t 12 = true then rAir T n s t else (false, s, t)
def rTxt (T : Nat → Nat) (n : Nat) : Nat → Nat → cS → tK → Int32 × cS
  | 0, _, s, t => (-1 - nI t.2.1, s)
  | k + 1, i, s, t => if (rItem T n s t).1 = true then (if (rItem T n s t).2.2.1 = 0 then (nI i, (rItem T n s t).2.1) else if (rItem T n s t).2.2.1 = 3 then rTxt T n k (i + 1) (rItem T n s t).2.1 (nxt T n (rItem T n s t).2.2) else (-1 - nI (rItem T n s t).2.2.2.1, (rItem T n s t).2.1)) else (-1 - nI (rItem T n s t).2.2.2.1, (rItem T n s t).2.1)
def FrL (b : Nat) (μ μ' : am_M) : Prop := (∀ k j, ¬ (b ≤ k ∧ k < b + 12) → ¬ (k = 37 ∧ 2 ≤ j) → μ'.1 k j = μ.1 k j) ∧ μ'.2 = μ.2
theorem FrL_rf (b : Nat) (μ : am_M) : FrL b μ μ := ⟨fun _ _ _ _ => rfl, rfl⟩
theorem FrL_tr {b : Nat} {x y z : am_M} (h1 : FrL b x y) (h2 : FrL b y z) : FrL b x z := ⟨fun k j a c => (h2.1 k j a c).trans (h1.1 k j a c), h2.2.trans h1.2⟩
theorem FrL_P {b : Nat} {x y : am_M} (h : FrP x y) : FrL b x y := ⟨fun k j _ c => h.1 k j c, h.2⟩
theorem FrL_F {b : Nat} {x y : am_M} (h : Fr b x y) : FrL b x y := ⟨fun k j a _ => by rw [h.1 k (by omega)], h.2⟩
theorem TX_L {b : Nat} (hb : LB b) {μ μ' : am_M} {T : Nat → Nat} {n : Nat} (h : TX μ T n) (hF : FrL b μ μ') : TX μ' T n := by
  have k1 : ¬ (b ≤ 37 ∧ 37 < b + 12) := by unfold LB at hb; omega
  have k2 : ¬ (b ≤ 38 ∧ 38 < b + 12) := by unfold LB at hb; omega
  exact ⟨h.1, by rw [hF.1 37 0 k1 (by omega)]; exact h.2.1, fun i hi => ⟨(h.2.2 i hi).1, by rw [hF.1 38 i k2 (by omega)]; exact (h.2.2 i hi).2⟩⟩
theorem TX_F {b : Nat} (hb : LB b) {μ μ' : am_M} {T : Nat → Nat} {n : Nat} (h : TX μ T n) (hF : Fr b μ μ') : TX μ' T n := TX_L hb h (FrL_F hF)
theorem TK_F {b : Nat} (hb : LB b) {μ μ' : am_M} {t : tK} (h : TK μ t) (hF : Fr b μ μ') : TK μ' t := by
  have k1 : μ'.1 37 = μ.1 37 := hF.1 37 (by unfold LB at hb; omega)
  unfold TK
  rw [k1]
  exact h
theorem Rp_P {b : Nat} (hb : LB b) {μ μ' : am_M} {s : cS} (h : Rp b μ s) (hF : FrP μ μ') (hn : sn s ≤ 8) : Rp b μ' s := by
  have k1 : ∀ k j, b ≤ k → k < b + 12 → μ'.1 k j = μ.1 k j := fun k j a c => hF.1 k j (by unfold LB at hb; omega)
  obtain ⟨⟨h1, h2, h3, h4⟩, h5, h6, h7⟩ := h
  exact ⟨⟨by rw [k1 _ _ (by omega) (by omega)]; exact h1, by rw [k1 _ _ (by omega) (by omega)]; exact h2, by rw [k1 _ _ (by omega) (by omega)]; exact h3, by rw [k1 _ _ (by omega) (by omega)]; exact h4⟩, fun i hi => by rw [k1 _ _ (by omega) (by omega)]; exact h5 i hi, fun c f hc hf => by rw [k1 _ _ (by omega) (by omega)]; exact h6 c f hc hf, fun i hi => by rw [k1 _ _ (by omega) (by omega)]; exact h7 i hi⟩
theorem sn_rPart {T : Nat → Nat} {n : Nat} {s : cS} {c : Nat} {t : tK} {w j : Nat} : sn (rPart T n s c t w j).2.1 = sn s := by
  unfold rPart
  split
  · split <;> rfl
  · rfl
theorem Iw_rPart {T : Nat → Nat} {n : Nat} {s : cS} {c : Nat} {t : tK} {w j : Nat} (h : Iw s) : Iw (rPart T n s c t w j).2.1 := by
  unfold rPart
  split
  · split <;> exact h
  · exact h
theorem O_rPart {T : Nat → Nat} {n : Nat} {s : cS} {c : Nat} {t : tK} {w j : Nat} (h : tkO n t) : tkO n (rPart T n s c t w j).2.2 := by
  unfold rPart
  split
  · split
    · exact nxt_O (nxt_O h)
    · exact nxt_O h
  · exact h
/-- a reader's end -/
def rE (b : Nat) (r : rR) (μ : am_M) (Q : am_Q) : Prop := ∀ μ', TK μ' r.2.2 → Rp b μ' r.2.1 → FrL b μ μ' → (r.1 = true → Q (some (.int 1)) μ') ∧ (r.1 = false → Q (some (.int 0)) μ')
def f_X3_readPart (k a w : Nat) (j : Int32) (μ : am_M) (Q : am_Q) : Prop := k = 37 ∧ ∃ b T n t s c i j', LB b ∧ TX μ T n ∧ TK μ t ∧ tkO n t ∧ Rp b μ s ∧ Iw s ∧ c < sn s ∧ a = b + 3 + c ∧ i < 13 ∧ w = 110 + i ∧ j' < 7 ∧ j = nI j' ∧ rE b (rPart T n s c t i j') μ Q
def sp_X3_readPart : am_Sp := q_RRRI f_X3_readPart
def bk_X3_readPart_0 : List Instr := [.aload_n 0, .aload_n 2, .invokevirtual 45, .ifCond .ne 5, .iconst 1, .ireturn]
def bk_X3_readPart_10 : List Instr := [.aload_n 0, .invokevirtual 22, .aload_n 0, .getstatic 87, .iload_n 3, .iaload, .invokevirtual 91, .ifCond .ne 5, .iconst 0, .ireturn]
def bk_X3_readPart_28 : List Instr := [.aload_n 1, .iload_n 3, .aload_n 0, .getfield 94, .invokevirtual 97, .aload_n 0, .invokevirtual 22, .iconst 1, .ireturn]
def cd_X3_readPart : am_cd := [(0, bk_X3_readPart_0), (10, bk_X3_readPart_10), (28, bk_X3_readPart_28)]
def E_X3_readPart : am_E := (4, .boolean, [(94, 3, 5)], [], [(87, .ref 100)], [(45, 3, 1, sp_X3_isWord), (22, 3, 0, sp_X3_advance), (91, 3, 1, sp_X3_isNumber), (97, 0, 2, sp_X0_tell)], [], [])
theorem n_X3_readPart : am_nL E_X3_readPart = 4 := Eq.trans rfl rfl
theorem r_X3_readPart : am_rt E_X3_readPart = .boolean := Eq.trans rfl rfl
theorem g_X3_readPart_0 {At : am_J} {Q : am_Q} {n : Nat} {L S : List Value} {μ : am_M} : am_go E_X3_readPart cd_X3_readPart [] At Q (n + 1) 0 L S μ = am_blk E_X3_readPart (am_go E_X3_readPart cd_X3_readPart [] At Q n) Q bk_X3_readPart_0 0 L S μ := Eq.trans rfl rfl
theorem b_X3_readPart_0 {gt : am_J} {Q : am_Q} {L S : List Value} {μ : am_M} : am_blk E_X3_readPart gt Q (am_lk [] cd_X3_readPart 0) 0 L S μ = am_blk E_X3_readPart gt Q bk_X3_readPart_0 0 L S μ := Eq.trans rfl rfl
theorem g_X3_readPart_10 {At : am_J} {Q : am_Q} {n : Nat} {L S : List Value} {μ : am_M} : am_go E_X3_readPart cd_X3_readPart [] At Q (n + 1) 10 L S μ = am_blk E_X3_readPart (am_go E_X3_readPart cd_X3_readPart [] At Q n) Q bk_X3_readPart_10 10 L S μ := Eq.trans rfl rfl
theorem g_X3_readPart_28 {At : am_J} {Q : am_Q} {n : Nat} {L S : List Value} {μ : am_M} : am_go E_X3_readPart cd_X3_readPart [] At Q (n + 1) 28 L S μ = am_blk E_X3_readPart (am_go E_X3_readPart cd_X3_readPart [] At Q n) Q bk_X3_readPart_28 28 L S μ := Eq.trans rfl rfl
theorem t_X3_readPart_5_10 : am_tg 5 5 = 10 := Eq.trans rfl rfl
theorem t_X3_readPart_23_28 : am_tg 23 5 = 28 := Eq.trans rfl rfl
theorem x_X3_readPart_g94 {pc : Nat} {L S : List Value} {μ : am_M} {nx : am_K} {jp : am_J} {Q : am_Q} {k : Nat} : am_st E_X3_readPart pc (.getfield 94) L (.ref k :: S) μ nx jp Q = (am_sh k = (3, 0) ∧ nx L (.int (μ.1 k 5) :: S) μ) := Eq.trans rfl rfl
theorem x_X3_readPart_s87 {pc : Nat} {L S : List Value} {μ : am_M} {nx : am_K} {jp : am_J} {Q : am_Q} : am_st E_X3_readPart pc (.getstatic 87) L S μ nx jp Q = nx L (.ref 100 :: S) μ := Eq.trans rfl rfl
theorem x_X3_readPart_v45 {pc : Nat} {L S : List Value} {μ : am_M} {nx : am_K} {jp : am_J} {Q : am_Q} {k : Nat} {a0 : Nat} : am_st E_X3_readPart pc (.invokevirtual 45) L (.ref a0 :: .ref k :: S) μ nx jp Q = (am_sh k = (3, 0) ∧ am_csum S ≤ 8 ∧ f_X3_isWord k a0 μ (fun r μ' => nx L (r.toList ++ S) μ')) := Eq.trans rfl rfl
theorem x_X3_readPart_v22 {pc : Nat} {L S : List Value} {μ : am_M} {nx : am_K} {jp : am_J} {Q : am_Q} {k : Nat}  : am_st E_X3_readPart pc (.invokevirtual 22) L (.ref k :: S) μ nx jp Q = (am_sh k = (3, 0) ∧ am_csum S ≤ 8 ∧ f_X3_advance k  μ (fun r μ' => nx L (r.toList ++ S) μ')) := Eq.trans rfl rfl
theorem x_X3_readPart_v91 {pc : Nat} {L S : List Value} {μ : am_M} {nx : am_K} {jp : am_J} {Q : am_Q} {k : Nat} {a0 : Int32} : am_st E_X3_readPart pc (.invokevirtual 91) L (.int a0 :: .ref k :: S) μ nx jp Q = (am_sh k = (3, 0) ∧ am_csum S ≤ 8 ∧ f_X3_isNumber k a0 μ (fun r μ' => nx L (r.toList ++ S) μ')) := Eq.trans rfl rfl
theorem x_X3_readPart_v97 {pc : Nat} {L S : List Value} {μ : am_M} {nx : am_K} {jp : am_J} {Q : am_Q} {k : Nat} {a0 : Int32} {a1 : Int32} : am_st E_X3_readPart pc (.invokevirtual 97) L (.int a1 :: .int a0 :: .ref k :: S) μ nx jp Q = (am_sh k = (0, 0) ∧ am_csum S ≤ 8 ∧ f_X0_tell k a0 a1 μ (fun r μ' => nx L (r.toList ++ S) μ')) := Eq.trans rfl rfl
def rm_X3_readPart : Room := { frames := 5, cells := 0, slots := 0, locals := 107 }
theorem eo_X3_readPart : am_EO "CarpetLane$Tape" rm_X3_readPart E_X3_readPart := ⟨(List.forall_mem_cons.mpr ⟨Or.inl ⟨_, rfl, by decide, am_in 172 (by decide +kernel) (by decide +kernel), by decide⟩, (fun _ h => absurd h List.not_mem_nil)⟩), (fun _ h => absurd h List.not_mem_nil), (List.forall_mem_cons.mpr ⟨⟨(RX4, "MOST_OF", "[I", .ref 100), List.mem_of_getElem? (i := 0) rfl, rfl, Or.inr (List.mem_of_getElem? (i := 0) rfl)⟩, (fun _ h => absurd h List.not_mem_nil)⟩), (List.forall_mem_cons.mpr ⟨am_mkV ok_X3_isWord wv_X3_isWord (am_in 580 (by decide +kernel) (by decide +kernel)) ⟨rfl, rfl, by decide, by decide⟩, (List.forall_mem_cons.mpr ⟨am_mkV ok_X3_advance wv_X3_advance (am_in 559 (by decide +kernel) (by decide +kernel)) ⟨rfl, rfl, by decide, by decide⟩, (List.forall_mem_cons.mpr ⟨am_mkV ok_X3_isNumber wv_X3_isNumber (am_in 650 (by decide +kernel) (by decide +kernel)) ⟨rfl, rfl, by decide, by decide⟩, (List.forall_mem_cons.mpr ⟨am_mkV ok_X0_tell wv_X0_tell (am_in 655 (by decide +kernel) (by decide +kernel)) ⟨rfl, rfl, by decide, by decide⟩, (fun _ h => absurd h List.not_mem_nil)⟩)⟩)⟩)⟩), (fun _ h => absurd h List.not_mem_nil), (fun _ h => absurd h List.not_mem_nil)⟩
theorem wv_X3_readPart : am_WV (⟨"CarpetLane$Tape", "readPart", "(LCarpetLane$Carpet;Ljava/lang/String;I)Z"⟩ : MethodName) prog_5_method_6_code 4 (some .boolean) 3 3 := ⟨am_in 62 (by decide +kernel) (by decide +kernel), am_in 648 (by decide +kernel) (by decide +kernel), by decide +kernel, rfl, by decide, am_in 647 (by decide +kernel) (by decide +kernel), am_in 16 (by decide +kernel) (by decide +kernel)⟩
theorem bd_X3_readPart (k : Nat) (a : Nat) (w : Nat) (j : Int32) (μ : am_M) (Q : am_Q) (At : am_J) (hA : am_ok E_X3_readPart cd_X3_readPart Q At) (h : f_X3_readPart k a w j μ Q) : At 0 (am_en [.ref k, .ref a, .ref w, .int j] 4) [] μ := by
  obtain ⟨rfl, b, T, n, t, s, c, i, j', hb, hT, hK, hO, hR, hW, hc, rfl, hi, rfl, hj, rfl, h⟩ := h
  obtain ⟨b0, b4, b5, b6, b1, b2, b11, br, bc8⟩ := LBf hb
  have n8 := hW.1.1
  have hc8 : c < 8 := by omega
  have hm : mb j' ≤ 9999 := by
    have : ∀ j, j < 7 → mb j ≤ 9999 := by decide
    exact this j' hj
  unfold rPart at h
  refine hA [] 60 0 _ _ _ ?_; show am_blk _ _ _ _ _ [_, _, _, _] _ _
  simp only [s_aload_0, s_iload_0, s_lload_0, s_istore_0, s_lstore_0, s_astore_0, s_aload_1, s_iload_1, s_lload_1, s_istore_1, s_lstore_1, s_astore_1, s_aload_2, s_iload_2, s_lload_2, s_istore_2, s_lstore_2, s_astore_2, s_aload_3, s_iload_3, s_lload_3, s_istore_3, s_lstore_3, s_astore_3, s_aload, s_iload, s_lload, s_istore, s_lstore, s_astore, s_iconst, s_bipush, s_sipush, s_lconst_0, s_lconst_1, s_iinc, s_iadd, s_isub, s_imul, s_iand, s_ior, s_ixor, s_ishl, s_ishr, s_iushr, s_idiv, s_irem, s_ladd, s_lsub, s_lmul, s_ldiv, s_lrem, s_lcmp, s_i2l, s_l2i, s_i2b, s_i2s, s_i2c, s_dupI, s_dupR, s_dup2IR, s_dupx1, s_popI, s_if_eq, s_if_ne, s_if_lt, s_if_ge, s_if_gt, s_if_le, s_cmp_eq, s_cmp_ne, s_cmp_lt, s_cmp_ge, s_cmp_gt, s_cmp_le, s_goto, s_tsw, s_iaload, s_baload, s_caload, s_aaload, s_iastore, s_bastore, s_alen, s_ireturn, s_lreturn, s_return, am_lI_0, am_lI_S, am_lL_0, am_lL_S, am_lR_0, am_lR_S, am_sto_0, am_sto_1I, am_sto_1R, am_sto_1N, am_sto_1L, am_sto_S, am_stL_d, am_blk_0, am_blk_1, am_ln_aload_n, am_ln_iload_n, am_ln_lload_n, am_ln_istore_n, am_ln_lstore_n, am_ln_astore_n, am_ln_iconst, am_ln_lconst, am_ln_iadd, am_ln_isub, am_ln_imul, am_ln_idiv, am_ln_irem, am_ln_iand, am_ln_ior, am_ln_ixor, am_ln_ishl, am_ln_ishr, am_ln_iushr, am_ln_ladd, am_ln_lsub, am_ln_lmul, am_ln_ldiv, am_ln_lrem, am_ln_lcmp, am_ln_i2l, am_ln_l2i, am_ln_i2b, am_ln_i2s, am_ln_i2c, am_ln_dup, am_ln_dup2, am_ln_dup_x1, am_ln_pop, am_ln_iaload, am_ln_iastore, am_ln_baload, am_ln_bastore, am_ln_caload, am_ln_aaload, am_ln_arraylength, am_ln_ireturn, am_ln_lreturn, am_ln_return_, am_ln_aload, am_ln_iload, am_ln_lload, am_ln_istore, am_ln_lstore, am_ln_astore, am_ln_bipush, am_ln_ldc, am_ln_sipush, am_ln_ldc_w, am_ln_ldc2_w, am_ln_iinc, am_ln_ifCond, am_ln_if_icmp, am_ln_goto, am_ln_getfield, am_ln_putfield, am_ln_getstatic, am_ln_invokevirtual, am_ln_invokestatic, am_csum_0, am_csum_I, am_csum_R, am_csum_L, k_im16, k_im8, k_im4, k_im2, k_im1, k_i0, k_i1, k_i2, k_i3, k_i4, k_i5, k_i6, k_i7, k_i8, k_i9, k_i10, k_i11, k_i12, k_i13, k_i14, k_i15, k_i16, k_i17, k_i18, k_i19, k_i20, k_i21, k_i22, k_i23, k_i24, k_i25, k_i26, k_i27, k_i28, k_i29, k_i30, k_i31, k_i32, k_i33, k_i34, k_i35, k_i36, k_i37, k_i38, k_i39, k_i40, k_i41, k_b6, k_b7, k_b8, k_b9, k_b10, k_b11, k_b12, k_b13, k_b14, k_b15, k_b16, k_b17, k_b18, k_b19, k_b20, k_b21, k_b22, k_b23, k_b24, k_b25, k_b26, k_b27, k_b28, k_b29, k_b30, k_b31, k_b32, k_b33, k_b34, k_b35, k_b36, k_b37, k_b38, k_b39, k_b40, k_b41, k_b42, k_b43, k_b44, k_b45, k_b46, k_b47, k_b48, k_b49, k_b50, k_b51, k_b52, k_b53, k_b54, k_b55, k_b56, k_b57, k_b58, k_b59, k_b60, k_b61, k_b62, k_b63, k_b66, k_b76, k_b97, k_b98, k_b99, k_b100, k_b101, k_b102, k_b103, k_b104, k_b105, k_b107, k_b108, k_b109, k_b110, k_b112, k_b114, k_b115, k_b116, k_b117, k_b120, k_b121, k_b122, k_s160, k_s200, k_s255, k_s256, k_s999, k_s2048, k_s4095, k_s9999, k_s10000, k_s12345, k_narI, k_narZ0, k_narZ1, k_ffalse, k_ts0, k_ts1, k_tw0, k_tw1, k_rt, k_rn, Nat.reduceAdd, Nat.zero_add, Nat.reduceLeDiff, Nat.reduceLT, Int.reduceAdd, Int.zero_add, true_and, and_true, List.set_cons_zero, List.set_cons_succ, eq_self, k_n2, k_n3, k_n4, k_n5, k_n6, k_n7, k_n8, k_n9, k_n10, k_n12, k_nn, true_or, or_true, false_or, or_false, k_z10, not_false_eq_true, not_true_eq_false, true_imp_iff, false_imp_iff, n_X3_readPart, r_X3_readPart, g_X3_readPart_0, b_X3_readPart_0, bk_X3_readPart_0, g_X3_readPart_10, bk_X3_readPart_10, g_X3_readPart_28, bk_X3_readPart_28, t_X3_readPart_5_10, t_X3_readPart_23_28, x_X3_readPart_g94, x_X3_readPart_s87, x_X3_readPart_v45, x_X3_readPart_v22, x_X3_readPart_v91, x_X3_readPart_v97, tq37, f_X3_isWord, f_X3_advance, f_X3_isNumber, f_X0_tell, ial100, in7 hj, cl7 hj, mo_j hj, bc8 c hc8]
  refine ⟨T, n, t, i, hT, hK, hO, hi, rfl, fun z => ?_, fun z => ?_⟩
  · rw [if_pos (isWB_iff.mpr z)] at h
    refine ⟨T, n, _, hT, hO.2.2.1, hK.2.2.1, fun μ1 hK1 hF1 => ?_⟩
    have hT1 := TX_P hT hF1
    have hO1 : tkO n (nxt T n t) := nxt_O hO
    have hR1 := Rp_P hb hR hF1 n8
    refine ⟨nxt T n t, mb j', hK1, hO1.1, hO1.2.2.2, hm, rfl, fun z2 => ?_, fun z2 => ?_⟩
    · rw [if_pos (isNB_iff.mpr z2)] at h
      rw [tw_j hj, hK1.2.2.2 z2.1]
      have hF2 : Fr b μ1 (am_set μ1 (b + 3 + c) j' (nI (nxt T n t).2.2.2)) := Fr_set (Fr_rf b μ1) (by omega) (by omega)
      have hK2 := TK_F hb hK1 hF2
      refine ⟨T, n, _, TX_F hb hT1 hF2, hO1.2.2.1, hK2.2.2.1, fun μ3 hK3 hF3 => ?_⟩
      exact (h μ3 hK3 (Rp_P hb (Rp_cp hR1 hc8) hF3 n8) (FrL_tr (FrL_tr (FrL_P hF1) (FrL_F hF2)) (FrL_P hF3))).1 rfl
    · rw [if_neg (fun y => z2 (isNB_iff.mp y))] at h
      exact (h μ1 hK1 hR1 (FrL_P hF1)).2 rfl
  · rw [if_neg (fun y => z (isWB_iff.mp y))] at h
    exact (h μ hK hR (FrL_rf b μ)).1 rfl
theorem ok_X3_readPart : am_OK (⟨"CarpetLane$Tape", "readPart", "(LCarpetLane$Carpet;Ljava/lang/String;I)Z"⟩ : MethodName) prog_5_method_6_code 4 (some .boolean) rm_X3_readPart sp_X3_readPart := am_mok (cd := cd_X3_readPart) E_X3_readPart (by decide +kernel) rfl eo_X3_readPart (by decide +kernel) (by decide +kernel) (q_RRRI_h (by decide)) (q_RRRI_b bd_X3_readPart)
theorem Iw_lay1 {s : cS} {k f : Int32} (h : Iw s) (h8 : ¬ sn s = 8) : Iw (lay s k f) := Iw_lay h (by have := h.1.1; omega)
def f_X3_readCarpet (k b : Nat) (kd : Int32) (μ : am_M) (Q : am_Q) : Prop := k = 37 ∧ ∃ T n t s, LB b ∧ TX μ T n ∧ TK μ t ∧ tkO n t ∧ Rp b μ s ∧ Iw s ∧ rE b (rCarpet T n s t kd) μ Q
def sp_X3_readCarpet : am_Sp := q_RRI f_X3_readCarpet
def bk_X3_readCarpet_0 : List Instr := [.aload_n 1, .iload_n 2, .iconst 1, .invokevirtual 57, .istore_n 3, .aload_n 1, .iload_n 3, .invokevirtual 63, .ifCond .ne 5, .iconst 0, .ireturn]
def bk_X3_readCarpet_17 : List Instr := [.aload_n 0, .invokevirtual 22, .aload_n 1, .getfield 67, .iload_n 3, .aaload, .astore 4, .aload_n 0, .aload 4, .ldc 71, .iconst 1, .invokevirtual 73, .ifCond .eq 27, .aload_n 0, .aload 4, .ldc 77, .iconst 2, .invokevirtual 73, .ifCond .eq 15, .aload_n 0, .aload 4, .ldc 79, .iconst 3, .invokevirtual 73, .ifCond .ne 5]
def bk_X3_readCarpet_65 : List Instr := [.iconst 0, .ireturn]
def bk_X3_readCarpet_67 : List Instr := [.aload_n 0, .ldc 81, .invokevirtual 45, .ifCond .eq 13, .aload 4, .iconst 1, .putfield 83, .aload_n 0, .invokevirtual 22]
def bk_X3_readCarpet_86 : List Instr := [.iconst 1, .ireturn]
def cd_X3_readCarpet : am_cd := [(0, bk_X3_readCarpet_0), (17, bk_X3_readCarpet_17), (65, bk_X3_readCarpet_65), (67, bk_X3_readCarpet_67), (86, bk_X3_readCarpet_86)]
def E_X3_readCarpet : am_E := (5, .boolean, [(67, 1, 5), (83, 0, 5)], [(71, .ref 117), (77, .ref 118), (79, .ref 119), (81, .ref 120)], [], [(57, 1, 2, sp_X1_lay), (63, 1, 1, sp_X1_isThere), (22, 3, 0, sp_X3_advance), (73, 3, 3, sp_X3_readPart), (45, 3, 1, sp_X3_isWord)], [], [])
theorem n_X3_readCarpet : am_nL E_X3_readCarpet = 5 := Eq.trans rfl rfl
theorem r_X3_readCarpet : am_rt E_X3_readCarpet = .boolean := Eq.trans rfl rfl
theorem g_X3_readCarpet_0 {At : am_J} {Q : am_Q} {n : Nat} {L S : List Value} {μ : am_M} : am_go E_X3_readCarpet cd_X3_readCarpet [] At Q (n + 1) 0 L S μ = am_blk E_X3_readCarpet (am_go E_X3_readCarpet cd_X3_readCarpet [] At Q n) Q bk_X3_readCarpet_0 0 L S μ := Eq.trans rfl rfl
theorem b_X3_readCarpet_0 {gt : am_J} {Q : am_Q} {L S : List Value} {μ : am_M} : am_blk E_X3_readCarpet gt Q (am_lk [] cd_X3_readCarpet 0) 0 L S μ = am_blk E_X3_readCarpet gt Q bk_X3_readCarpet_0 0 L S μ := Eq.trans rfl rfl
theorem g_X3_readCarpet_17 {At : am_J} {Q : am_Q} {n : Nat} {L S : List Value} {μ : am_M} : am_go E_X3_readCarpet cd_X3_readCarpet [] At Q (n + 1) 17 L S μ = am_blk E_X3_readCarpet (am_go E_X3_readCarpet cd_X3_readCarpet [] At Q n) Q bk_X3_readCarpet_17 17 L S μ := Eq.trans rfl rfl
theorem g_X3_readCarpet_65 {At : am_J} {Q : am_Q} {n : Nat} {L S : List Value} {μ : am_M} : am_go E_X3_readCarpet cd_X3_readCarpet [] At Q (n + 1) 65 L S μ = am_blk E_X3_readCarpet (am_go E_X3_readCarpet cd_X3_readCarpet [] At Q n) Q bk_X3_readCarpet_65 65 L S μ := Eq.trans rfl rfl
theorem g_X3_readCarpet_67 {At : am_J} {Q : am_Q} {n : Nat} {L S : List Value} {μ : am_M} : am_go E_X3_readCarpet cd_X3_readCarpet [] At Q (n + 1) 67 L S μ = am_blk E_X3_readCarpet (am_go E_X3_readCarpet cd_X3_readCarpet [] At Q n) Q bk_X3_readCarpet_67 67 L S μ := Eq.trans rfl rfl
theorem g_X3_readCarpet_86 {At : am_J} {Q : am_Q} {n : Nat} {L S : List Value} {μ : am_M} : am_go E_X3_readCarpet cd_X3_readCarpet [] At Q (n + 1) 86 L S μ = am_blk E_X3_readCarpet (am_go E_X3_readCarpet cd_X3_readCarpet [] At Q n) Q bk_X3_readCarpet_86 86 L S μ := Eq.trans rfl rfl
theorem t_X3_readCarpet_12_17 : am_tg 12 5 = 17 := Eq.trans rfl rfl
theorem t_X3_readCarpet_38_65 : am_tg 38 27 = 65 := Eq.trans rfl rfl
theorem t_X3_readCarpet_50_65 : am_tg 50 15 = 65 := Eq.trans rfl rfl
theorem t_X3_readCarpet_62_67 : am_tg 62 5 = 67 := Eq.trans rfl rfl
theorem t_X3_readCarpet_73_86 : am_tg 73 13 = 86 := Eq.trans rfl rfl
theorem x_X3_readCarpet_g67 {pc : Nat} {L S : List Value} {μ : am_M} {nx : am_K} {jp : am_J} {Q : am_Q} {k : Nat} : am_st E_X3_readCarpet pc (.getfield 67) L (.ref k :: S) μ nx jp Q = (am_sh k = (1, 0) ∧ nx L (.ref (am_rf k 5) :: S) μ) := Eq.trans rfl rfl
theorem x_X3_readCarpet_g83 {pc : Nat} {L S : List Value} {μ : am_M} {nx : am_K} {jp : am_J} {Q : am_Q} {k : Nat} : am_st E_X3_readCarpet pc (.getfield 83) L (.ref k :: S) μ nx jp Q = (am_sh k = (0, 0) ∧ nx L (.int (μ.1 k 5) :: S) μ) := Eq.trans rfl rfl
theorem x_X3_readCarpet_p83 {pc : Nat} {L S : List Value} {μ : am_M} {nx : am_K} {jp : am_J} {Q : am_Q} {k : Nat} {x : Int32} : am_st E_X3_readCarpet pc (.putfield 83) L (.int x :: .ref k :: S) μ nx jp Q = (am_sh k = (0, 0) ∧ 0 < 6 ∧ (0 : Nat) = 0 ∧ (false = true → x = 0 ∨ x = 1) ∧ nx L S (am_set μ k 5 x)) := Eq.trans rfl rfl
theorem x_X3_readCarpet_c71 {pc : Nat} {L S : List Value} {μ : am_M} {nx : am_K} {jp : am_J} {Q : am_Q} : am_st E_X3_readCarpet pc (.ldc 71) L S μ nx jp Q = nx L (.ref 117 :: S) μ := Eq.trans rfl rfl
theorem x_X3_readCarpet_c77 {pc : Nat} {L S : List Value} {μ : am_M} {nx : am_K} {jp : am_J} {Q : am_Q} : am_st E_X3_readCarpet pc (.ldc 77) L S μ nx jp Q = nx L (.ref 118 :: S) μ := Eq.trans rfl rfl
theorem x_X3_readCarpet_c79 {pc : Nat} {L S : List Value} {μ : am_M} {nx : am_K} {jp : am_J} {Q : am_Q} : am_st E_X3_readCarpet pc (.ldc 79) L S μ nx jp Q = nx L (.ref 119 :: S) μ := Eq.trans rfl rfl
theorem x_X3_readCarpet_c81 {pc : Nat} {L S : List Value} {μ : am_M} {nx : am_K} {jp : am_J} {Q : am_Q} : am_st E_X3_readCarpet pc (.ldc 81) L S μ nx jp Q = nx L (.ref 120 :: S) μ := Eq.trans rfl rfl
theorem x_X3_readCarpet_v57 {pc : Nat} {L S : List Value} {μ : am_M} {nx : am_K} {jp : am_J} {Q : am_Q} {k : Nat} {a0 : Int32} {a1 : Int32} : am_st E_X3_readCarpet pc (.invokevirtual 57) L (.int a1 :: .int a0 :: .ref k :: S) μ nx jp Q = (am_sh k = (1, 0) ∧ am_csum S ≤ 8 ∧ f_X1_lay k a0 a1 μ (fun r μ' => nx L (r.toList ++ S) μ')) := Eq.trans rfl rfl
theorem x_X3_readCarpet_v63 {pc : Nat} {L S : List Value} {μ : am_M} {nx : am_K} {jp : am_J} {Q : am_Q} {k : Nat} {a0 : Int32} : am_st E_X3_readCarpet pc (.invokevirtual 63) L (.int a0 :: .ref k :: S) μ nx jp Q = (am_sh k = (1, 0) ∧ am_csum S ≤ 8 ∧ f_X1_isThere k a0 μ (fun r μ' => nx L (r.toList ++ S) μ')) := Eq.trans rfl rfl
theorem x_X3_readCarpet_v22 {pc : Nat} {L S : List Value} {μ : am_M} {nx : am_K} {jp : am_J} {Q : am_Q} {k : Nat}  : am_st E_X3_readCarpet pc (.invokevirtual 22) L (.ref k :: S) μ nx jp Q = (am_sh k = (3, 0) ∧ am_csum S ≤ 8 ∧ f_X3_advance k  μ (fun r μ' => nx L (r.toList ++ S) μ')) := Eq.trans rfl rfl
theorem x_X3_readCarpet_v73 {pc : Nat} {L S : List Value} {μ : am_M} {nx : am_K} {jp : am_J} {Q : am_Q} {k : Nat} {a0 : Nat} {a1 : Nat} {a2 : Int32} : am_st E_X3_readCarpet pc (.invokevirtual 73) L (.int a2 :: .ref a1 :: .ref a0 :: .ref k :: S) μ nx jp Q = (am_sh k = (3, 0) ∧ am_csum S ≤ 8 ∧ f_X3_readPart k a0 a1 a2 μ (fun r μ' => nx L (r.toList ++ S) μ')) := Eq.trans rfl rfl
theorem x_X3_readCarpet_v45 {pc : Nat} {L S : List Value} {μ : am_M} {nx : am_K} {jp : am_J} {Q : am_Q} {k : Nat} {a0 : Nat} : am_st E_X3_readCarpet pc (.invokevirtual 45) L (.ref a0 :: .ref k :: S) μ nx jp Q = (am_sh k = (3, 0) ∧ am_csum S ≤ 8 ∧ f_X3_isWord k a0 μ (fun r μ' => nx L (r.toList ++ S) μ')) := Eq.trans rfl rfl
def rm_X3_readCarpet : Room := { frames := 6, cells := 0, slots := 0, locals := 130 }
theorem eo_X3_readCarpet : am_EO "CarpetLane$Tape" rm_X3_readCarpet E_X3_readCarpet := ⟨(List.forall_mem_cons.mpr ⟨Or.inl ⟨_, rfl, by decide, am_in 141 (by decide +kernel) (by decide +kernel), by decide⟩, (List.forall_mem_cons.mpr ⟨Or.inl ⟨_, rfl, by decide, am_in 109 (by decide +kernel) (by decide +kernel), by decide⟩, (fun _ h => absurd h List.not_mem_nil)⟩)⟩), (List.forall_mem_cons.mpr ⟨⟨rfl, (71, 7, "feet"), List.mem_of_getElem? (i := 7) rfl, rfl, rfl⟩, (List.forall_mem_cons.mpr ⟨⟨rfl, (77, 8, "dust"), List.mem_of_getElem? (i := 8) rfl, rfl, rfl⟩, (List.forall_mem_cons.mpr ⟨⟨rfl, (79, 9, "has"), List.mem_of_getElem? (i := 9) rfl, rfl, rfl⟩, (List.forall_mem_cons.mpr ⟨⟨rfl, (81, 10, "shut"), List.mem_of_getElem? (i := 10) rfl, rfl, rfl⟩, (fun _ h => absurd h List.not_mem_nil)⟩)⟩)⟩)⟩), (fun _ h => absurd h List.not_mem_nil), (List.forall_mem_cons.mpr ⟨am_mkV ok_X1_lay wv_X1_lay (am_in 642 (by decide +kernel) (by decide +kernel)) ⟨rfl, rfl, by decide, by decide⟩, (List.forall_mem_cons.mpr ⟨am_mkV ok_X1_isThere wv_X1_isThere (am_in 643 (by decide +kernel) (by decide +kernel)) ⟨rfl, rfl, by decide, by decide⟩, (List.forall_mem_cons.mpr ⟨am_mkV ok_X3_advance wv_X3_advance (am_in 559 (by decide +kernel) (by decide +kernel)) ⟨rfl, rfl, by decide, by decide⟩, (List.forall_mem_cons.mpr ⟨am_mkV ok_X3_readPart wv_X3_readPart (am_in 645 (by decide +kernel) (by decide +kernel)) ⟨rfl, rfl, by decide, by decide⟩, (List.forall_mem_cons.mpr ⟨am_mkV ok_X3_isWord wv_X3_isWord (am_in 580 (by decide +kernel) (by decide +kernel)) ⟨rfl, rfl, by decide, by decide⟩, (fun _ h => absurd h List.not_mem_nil)⟩)⟩)⟩)⟩)⟩), (fun _ h => absurd h List.not_mem_nil), (fun _ h => absurd h List.not_mem_nil)⟩
theorem wv_X3_readCarpet : am_WV (⟨"CarpetLane$Tape", "readCarpet", "(LCarpetLane$Lane;I)Z"⟩ : MethodName) prog_5_method_5_code 5 (some .boolean) 2 3 := ⟨am_in 62 (by decide +kernel) (by decide +kernel), am_in 641 (by decide +kernel) (by decide +kernel), by decide +kernel, rfl, by decide, am_in 640 (by decide +kernel) (by decide +kernel), am_in 15 (by decide +kernel) (by decide +kernel)⟩
set_option maxRecDepth 20000 in
set_option maxHeartbeats 1000000 in
theorem bd_X3_readCarpet (k : Nat) (b : Nat) (kd : Int32) (μ : am_M) (Q : am_Q) (At : am_J) (hA : am_ok E_X3_readCarpet cd_X3_readCarpet Q At) (h : f_X3_readCarpet k b kd μ Q) : At 0 (am_en [.ref k, .ref b, .int kd] 5) [] μ := by
  obtain ⟨rfl, T, n, t, s, hb, hT, hK, hO, hR, hW, h⟩ := h
  obtain ⟨b0, b4, b5, b6, b1, b2, b11, br, bc8⟩ := LBf hb
  have n8 := hW.1.1
  unfold rCarpet at h
  refine hA [] 60 0 _ _ _ ?_; show am_blk _ _ _ _ _ [_, _, _, .null, .null] _ _
  simp only [s_aload_0, s_iload_0, s_lload_0, s_istore_0, s_lstore_0, s_astore_0, s_aload_1, s_iload_1, s_lload_1, s_istore_1, s_lstore_1, s_astore_1, s_aload_2, s_iload_2, s_lload_2, s_istore_2, s_lstore_2, s_astore_2, s_aload_3, s_iload_3, s_lload_3, s_istore_3, s_lstore_3, s_astore_3, s_aload, s_iload, s_lload, s_istore, s_lstore, s_astore, s_iconst, s_bipush, s_sipush, s_lconst_0, s_lconst_1, s_iinc, s_iadd, s_isub, s_imul, s_iand, s_ior, s_ixor, s_ishl, s_ishr, s_iushr, s_idiv, s_irem, s_ladd, s_lsub, s_lmul, s_ldiv, s_lrem, s_lcmp, s_i2l, s_l2i, s_i2b, s_i2s, s_i2c, s_dupI, s_dupR, s_dup2IR, s_dupx1, s_popI, s_if_eq, s_if_ne, s_if_lt, s_if_ge, s_if_gt, s_if_le, s_cmp_eq, s_cmp_ne, s_cmp_lt, s_cmp_ge, s_cmp_gt, s_cmp_le, s_goto, s_tsw, s_iaload, s_baload, s_caload, s_aaload, s_iastore, s_bastore, s_alen, s_ireturn, s_lreturn, s_return, am_lI_0, am_lI_S, am_lL_0, am_lL_S, am_lR_0, am_lR_S, am_sto_0, am_sto_1I, am_sto_1R, am_sto_1N, am_sto_1L, am_sto_S, am_stL_d, am_blk_0, am_blk_1, am_ln_aload_n, am_ln_iload_n, am_ln_lload_n, am_ln_istore_n, am_ln_lstore_n, am_ln_astore_n, am_ln_iconst, am_ln_lconst, am_ln_iadd, am_ln_isub, am_ln_imul, am_ln_idiv, am_ln_irem, am_ln_iand, am_ln_ior, am_ln_ixor, am_ln_ishl, am_ln_ishr, am_ln_iushr, am_ln_ladd, am_ln_lsub, am_ln_lmul, am_ln_ldiv, am_ln_lrem, am_ln_lcmp, am_ln_i2l, am_ln_l2i, am_ln_i2b, am_ln_i2s, am_ln_i2c, am_ln_dup, am_ln_dup2, am_ln_dup_x1, am_ln_pop, am_ln_iaload, am_ln_iastore, am_ln_baload, am_ln_bastore, am_ln_caload, am_ln_aaload, am_ln_arraylength, am_ln_ireturn, am_ln_lreturn, am_ln_return_, am_ln_aload, am_ln_iload, am_ln_lload, am_ln_istore, am_ln_lstore, am_ln_astore, am_ln_bipush, am_ln_ldc, am_ln_sipush, am_ln_ldc_w, am_ln_ldc2_w, am_ln_iinc, am_ln_ifCond, am_ln_if_icmp, am_ln_goto, am_ln_getfield, am_ln_putfield, am_ln_getstatic, am_ln_invokevirtual, am_ln_invokestatic, am_csum_0, am_csum_I, am_csum_R, am_csum_L, k_im16, k_im8, k_im4, k_im2, k_im1, k_i0, k_i1, k_i2, k_i3, k_i4, k_i5, k_i6, k_i7, k_i8, k_i9, k_i10, k_i11, k_i12, k_i13, k_i14, k_i15, k_i16, k_i17, k_i18, k_i19, k_i20, k_i21, k_i22, k_i23, k_i24, k_i25, k_i26, k_i27, k_i28, k_i29, k_i30, k_i31, k_i32, k_i33, k_i34, k_i35, k_i36, k_i37, k_i38, k_i39, k_i40, k_i41, k_b6, k_b7, k_b8, k_b9, k_b10, k_b11, k_b12, k_b13, k_b14, k_b15, k_b16, k_b17, k_b18, k_b19, k_b20, k_b21, k_b22, k_b23, k_b24, k_b25, k_b26, k_b27, k_b28, k_b29, k_b30, k_b31, k_b32, k_b33, k_b34, k_b35, k_b36, k_b37, k_b38, k_b39, k_b40, k_b41, k_b42, k_b43, k_b44, k_b45, k_b46, k_b47, k_b48, k_b49, k_b50, k_b51, k_b52, k_b53, k_b54, k_b55, k_b56, k_b57, k_b58, k_b59, k_b60, k_b61, k_b62, k_b63, k_b66, k_b76, k_b97, k_b98, k_b99, k_b100, k_b101, k_b102, k_b103, k_b104, k_b105, k_b107, k_b108, k_b109, k_b110, k_b112, k_b114, k_b115, k_b116, k_b117, k_b120, k_b121, k_b122, k_s160, k_s200, k_s255, k_s256, k_s999, k_s2048, k_s4095, k_s9999, k_s10000, k_s12345, k_narI, k_narZ0, k_narZ1, k_ffalse, k_ts0, k_ts1, k_tw0, k_tw1, k_rt, k_rn, Nat.reduceAdd, Nat.zero_add, Nat.reduceLeDiff, Nat.reduceLT, Int.reduceAdd, Int.zero_add, true_and, and_true, List.set_cons_zero, List.set_cons_succ, eq_self, k_n2, k_n3, k_n4, k_n5, k_n6, k_n7, k_n8, k_n9, k_n10, k_n12, k_nn, true_or, or_true, false_or, or_false, k_z10, not_false_eq_true, not_true_eq_false, true_imp_iff, false_imp_iff, n_X3_readCarpet, r_X3_readCarpet, g_X3_readCarpet_0, b_X3_readCarpet_0, bk_X3_readCarpet_0, g_X3_readCarpet_17, bk_X3_readCarpet_17, g_X3_readCarpet_65, bk_X3_readCarpet_65, g_X3_readCarpet_67, bk_X3_readCarpet_67, g_X3_readCarpet_86, bk_X3_readCarpet_86, t_X3_readCarpet_12_17, t_X3_readCarpet_38_65, t_X3_readCarpet_50_65, t_X3_readCarpet_62_67, t_X3_readCarpet_73_86, x_X3_readCarpet_g67, x_X3_readCarpet_g83, x_X3_readCarpet_p83, x_X3_readCarpet_c71, x_X3_readCarpet_c77, x_X3_readCarpet_c79, x_X3_readCarpet_c81, x_X3_readCarpet_v57, x_X3_readCarpet_v63, x_X3_readCarpet_v22, x_X3_readCarpet_v73, x_X3_readCarpet_v45, rE, tq37, b0, b5, b2, br, f_X1_lay, f_X1_isThere, f_X3_advance, f_X3_readPart, f_X3_isWord, k_z10]
  refine ⟨hb, s, hR, hW, fun z => ?_, fun z μ1 hR1 hF1 => ?_⟩
  · rw [if_pos z] at h
    refine ⟨hb, fun y => absurd y.1 (by decide), fun _ => (h μ hK hR (FrL_rf b μ)).2 rfl⟩
  · have h8 : ¬ sn s = 8 := by omega
    rw [if_neg h8] at h
    have hW1 := Iw_lay1 (k := kd) (f := 1) hW h8
    have hs1 : sn (lay s kd 1) = sn s + 1 := sn_lay hW
    have hsz : μ1.1 b 3 = nI (sn s + 1) := by rw [hR1.1.2.1, hW1.1.2, hs1]
    rw [hsz, cl_nIs z]
    refine ⟨hb, fun _ => ?_, fun y => absurd ⟨nI_pos' (by omega), nI_lt (by omega) (by omega)⟩ y⟩
    have hT1 := TX_F hb hT hF1
    have hK1 := TK_F hb hK hF1
    refine ⟨T, n, _, hT1, hO.2.2.1, hK1.2.2.1, fun μ2 hK2 hF2 => ⟨in8 z, ?_⟩⟩
    have hT2 := TX_P hT1 hF2
    have hO2 : tkO n (nxt T n t) := nxt_O hO
    have hR2 := Rp_P hb hR1 hF2 (by rw [hs1]; omega)
    have hL2 : FrL b μ μ2 := FrL_tr (FrL_F hF1) (FrL_P hF2)
    refine ⟨b, T, n, nxt T n t, _, sn s, 7, 1, hb, hT2, hK2, hO2, hR2, hW1, by omega, rfl, by omega, rfl, by omega, rfl, fun μ3 hK3 hR3 hL3 => ?_⟩
    have hO3 := O_rPart (T := T) (s := lay s kd 1) (c := sn s) (w := 7) (j := 1) hO2
    have hW3 := Iw_rPart (T := T) (n := n) (c := sn s) (t := nxt T n t) (w := 7) (j := 1) hW1
    have hs3 : sn (rPart T n (lay s kd 1) (sn s) (nxt T n t) 7 1).2.1 = sn s + 1 := by rw [sn_rPart, hs1]
    generalize rPart T n (lay s kd 1) (sn s) (nxt T n t) 7 1 = r3 at hK3 hR3 hO3 hW3 hs3 h ⊢
    have hT3 := TX_L hb hT2 hL3
    have hL3' := FrL_tr hL2 hL3
    refine ⟨fun y => ?_, fun y => ?_⟩
    · have e4 : rP2 T n (sn s) r3 8 2 = rPart T n r3.2.1 (sn s) r3.2.2 8 2 := by unfold rP2; rw [if_pos y]
      rw [e4] at h
      refine ⟨b, T, n, r3.2.2, _, sn s, 8, 2, hb, hT3, hK3, hO3, hR3, hW3, by omega, rfl, by omega, rfl, by omega, rfl, fun μ4 hK4 hR4 hL4 => ?_⟩
      have hO4 := O_rPart (T := T) (s := r3.2.1) (c := sn s) (w := 8) (j := 2) hO3
      have hW4 := Iw_rPart (T := T) (n := n) (c := sn s) (t := r3.2.2) (w := 8) (j := 2) hW3
      have hs4 : sn (rPart T n r3.2.1 (sn s) r3.2.2 8 2).2.1 = sn s + 1 := by rw [sn_rPart, hs3]
      generalize rPart T n r3.2.1 (sn s) r3.2.2 8 2 = r4 at hK4 hR4 hO4 hW4 hs4 h ⊢
      have hT4 := TX_L hb hT3 hL4
      have hL4' := FrL_tr hL3' hL4
      refine ⟨fun y => ?_, fun y => ?_⟩
      · have e5 : rP2 T n (sn s) r4 9 3 = rPart T n r4.2.1 (sn s) r4.2.2 9 3 := by unfold rP2; rw [if_pos y]
        rw [e5] at h
        refine ⟨b, T, n, r4.2.2, _, sn s, 9, 3, hb, hT4, hK4, hO4, hR4, hW4, by omega, rfl, by omega, rfl, by omega, rfl, fun μ5 hK5 hR5 hL5 => ?_⟩
        have hO5 := O_rPart (T := T) (s := r4.2.1) (c := sn s) (w := 9) (j := 3) hO4
        have hW5 := Iw_rPart (T := T) (n := n) (c := sn s) (t := r4.2.2) (w := 9) (j := 3) hW4
        have hs5 : sn (rPart T n r4.2.1 (sn s) r4.2.2 9 3).2.1 = sn s + 1 := by rw [sn_rPart, hs4]
        generalize rPart T n r4.2.1 (sn s) r4.2.2 9 3 = r5 at hK5 hR5 hO5 hW5 hs5 h ⊢
        have hT5 := TX_L hb hT4 hL5
        have hL5' := FrL_tr hL4' hL5
        refine ⟨fun y => ?_, fun y => ?_⟩
        · have e6 : rP4 T n (sn s) r5 = rShut T n (sn s) r5 := by unfold rP4; rw [if_pos y]
          rw [e6] at h
          unfold rShut at h
          refine ⟨T, n, r5.2.2, 10, hT5, hK5, hO5, by omega, rfl, fun w => ⟨bc8 _ z, ?_⟩, fun w => ?_⟩
          · rw [if_pos (isWB_iff.mpr w)] at h
            have hF6 : Fr b μ5 (am_set μ5 (b + 3 + sn s) 5 1) := Fr_set (Fr_rf b μ5) (by omega) (by omega)
            refine ⟨T, n, _, TX_F hb hT5 hF6, hO5.2.2.1, (TK_F hb hK5 hF6).2.2.1, fun μ7 hK7 hF7 => ?_⟩
            exact (h μ7 hK7 (Rp_P hb (Rp_cp hR5 z) hF7 hW5.1.1) (FrL_tr (FrL_tr hL5' (FrL_F hF6)) (FrL_P hF7))).1 rfl
          · rw [if_neg (fun q => w (isWB_iff.mp q))] at h
            exact (h μ5 hK5 hR5 hL5').1 rfl
        · have e6 : rP4 T n (sn s) r5 = r5 := by unfold rP4; rw [y, if_neg (by decide)]
          rw [e6] at h
          exact (h μ5 hK5 hR5 hL5').2 y
      · have e5 : rP2 T n (sn s) r4 9 3 = r4 := by unfold rP2; rw [y, if_neg (by decide)]
        have e6 : rP4 T n (sn s) r4 = r4 := by unfold rP4; rw [y, if_neg (by decide)]
        rw [e5, e6] at h
        exact (h μ4 hK4 hR4 hL4').2 y
    · have e4 : rP2 T n (sn s) r3 8 2 = r3 := by unfold rP2; rw [y, if_neg (by decide)]
      have e5 : rP2 T n (sn s) r3 9 3 = r3 := by unfold rP2; rw [y, if_neg (by decide)]
      have e6 : rP4 T n (sn s) r3 = r3 := by unfold rP4; rw [y, if_neg (by decide)]
      rw [e4, e5, e6] at h
      exact (h μ3 hK3 hR3 hL3').2 y
theorem ok_X3_readCarpet : am_OK (⟨"CarpetLane$Tape", "readCarpet", "(LCarpetLane$Lane;I)Z"⟩ : MethodName) prog_5_method_5_code 5 (some .boolean) rm_X3_readCarpet sp_X3_readCarpet := am_mok (cd := cd_X3_readCarpet) E_X3_readCarpet (by decide +kernel) rfl eo_X3_readCarpet (by decide +kernel) (by decide +kernel) (q_RRI_h (by decide)) (q_RRI_b bd_X3_readCarpet)
