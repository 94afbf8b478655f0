def f_X3_readBeating (k b : Nat) (μ : am_M) (Q : am_Q) : Prop := k = 37 ∧ ∃ T n t s, LB b ∧ TX μ T n ∧ TK μ t ∧ tkO n t ∧ Rp b μ s ∧ Iw s ∧ rE b (rBeat T n s t) μ Q
def sp_X3_readBeating : am_Sp := q_RR f_X3_readBeating
def bk_X3_readBeating_0 : List Instr := [.aload_n 0, .invokevirtual 22, .aload_n 0, .iconst 5, .invokevirtual 91, .ifCond .ne 5, .iconst 0, .ireturn]
def bk_X3_readBeating_14 : List Instr := [.aload_n 0, .getfield 94, .istore_n 2, .aload_n 0, .invokevirtual 22, .aload_n 0, .bipush 7, .invokevirtual 91, .ifCond .ne 5, .iconst 0, .ireturn]
def bk_X3_readBeating_34 : List Instr := [.aload_n 0, .getfield 94, .istore_n 3, .aload_n 0, .invokevirtual 22, .aload_n 0, .bipush 9, .invokevirtual 91, .ifCond .ne 5, .iconst 0, .ireturn]
def bk_X3_readBeating_54 : List Instr := [.aload_n 1, .getfield 101, .iload_n 2, .iload_n 3, .aload_n 0, .getfield 94, .invokestatic 104, .iastore, .aload_n 0, .invokevirtual 22, .iconst 1, .ireturn]
def cd_X3_readBeating : am_cd := [(0, bk_X3_readBeating_0), (14, bk_X3_readBeating_14), (34, bk_X3_readBeating_34), (54, bk_X3_readBeating_54)]
def E_X3_readBeating : am_E := (4, .boolean, [(94, 3, 5), (101, 1, 4)], [], [], [(22, 3, 0, sp_X3_advance), (91, 3, 1, sp_X3_isNumber)], [(104, 2, sp_X4_beating)], [])
theorem n_X3_readBeating : am_nL E_X3_readBeating = 4 := Eq.trans rfl rfl
theorem r_X3_readBeating : am_rt E_X3_readBeating = .boolean := Eq.trans rfl rfl
theorem g_X3_readBeating_0 {At : am_J} {Q : am_Q} {n : Nat} {L S : List Value} {μ : am_M} : am_go E_X3_readBeating cd_X3_readBeating [] At Q (n + 1) 0 L S μ = am_blk E_X3_readBeating (am_go E_X3_readBeating cd_X3_readBeating [] At Q n) Q bk_X3_readBeating_0 0 L S μ := Eq.trans rfl rfl
theorem b_X3_readBeating_0 {gt : am_J} {Q : am_Q} {L S : List Value} {μ : am_M} : am_blk E_X3_readBeating gt Q (am_lk [] cd_X3_readBeating 0) 0 L S μ = am_blk E_X3_readBeating gt Q bk_X3_readBeating_0 0 L S μ := Eq.trans rfl rfl
theorem g_X3_readBeating_14 {At : am_J} {Q : am_Q} {n : Nat} {L S : List Value} {μ : am_M} : am_go E_X3_readBeating cd_X3_readBeating [] At Q (n + 1) 14 L S μ = am_blk E_X3_readBeating (am_go E_X3_readBeating cd_X3_readBeating [] At Q n) Q bk_X3_readBeating_14 14 L S μ := Eq.trans rfl rfl
theorem g_X3_readBeating_34 {At : am_J} {Q : am_Q} {n : Nat} {L S : List Value} {μ : am_M} : am_go E_X3_readBeating cd_X3_readBeating [] At Q (n + 1) 34 L S μ = am_blk E_X3_readBeating (am_go E_X3_readBeating cd_X3_readBeating [] At Q n) Q bk_X3_readBeating_34 34 L S μ := Eq.trans rfl rfl
theorem g_X3_readBeating_54 {At : am_J} {Q : am_Q} {n : Nat} {L S : List Value} {μ : am_M} : am_go E_X3_readBeating cd_X3_readBeating [] At Q (n + 1) 54 L S μ = am_blk E_X3_readBeating (am_go E_X3_readBeating cd_X3_readBeating [] At Q n) Q bk_X3_readBeating_54 54 L S μ := Eq.trans rfl rfl
theorem t_X3_readBeating_9_14 : am_tg 9 5 = 14 := Eq.trans rfl rfl
theorem t_X3_readBeating_29_34 : am_tg 29 5 = 34 := Eq.trans rfl rfl
theorem t_X3_readBeating_49_54 : am_tg 49 5 = 54 := Eq.trans rfl rfl
theorem x_X3_readBeating_g94 {pc : Nat} {L S : List Value} {μ : am_M} {nx : am_K} {jp : am_J} {Q : am_Q} {k : Nat} : am_st E_X3_readBeating pc (.getfield 94) L (.ref k :: S) μ nx jp Q = (am_sh k = (3, 0) ∧ nx L (.int (μ.1 k 5) :: S) μ) := Eq.trans rfl rfl
theorem x_X3_readBeating_g101 {pc : Nat} {L S : List Value} {μ : am_M} {nx : am_K} {jp : am_J} {Q : am_Q} {k : Nat} : am_st E_X3_readBeating pc (.getfield 101) L (.ref k :: S) μ nx jp Q = (am_sh k = (1, 0) ∧ nx L (.ref (am_rf k 4) :: S) μ) := Eq.trans rfl rfl
theorem x_X3_readBeating_v22 {pc : Nat} {L S : List Value} {μ : am_M} {nx : am_K} {jp : am_J} {Q : am_Q} {k : Nat}  : am_st E_X3_readBeating pc (.invokevirtual 22) L (.ref k :: S) μ nx jp Q = (am_sh k = (3, 0) ∧ am_csum S ≤ 8 ∧ f_X3_advance k  μ (fun r μ' => nx L (r.toList ++ S) μ')) := Eq.trans rfl rfl
theorem x_X3_readBeating_v91 {pc : Nat} {L S : List Value} {μ : am_M} {nx : am_K} {jp : am_J} {Q : am_Q} {k : Nat} {a0 : Int32} : am_st E_X3_readBeating pc (.invokevirtual 91) L (.int a0 :: .ref k :: S) μ nx jp Q = (am_sh k = (3, 0) ∧ am_csum S ≤ 8 ∧ f_X3_isNumber k a0 μ (fun r μ' => nx L (r.toList ++ S) μ')) := Eq.trans rfl rfl
theorem x_X3_readBeating_v104 {pc : Nat} {L S : List Value} {μ : am_M} {nx : am_K} {jp : am_J} {Q : am_Q} {a0 : Int32} {a1 : Int32} : am_st E_X3_readBeating pc (.invokestatic 104) L (.int a1 :: .int a0 :: S) μ nx jp Q = (am_csum S ≤ 8 ∧ f_X4_beating a0 a1 μ (fun r μ' => nx L (r.toList ++ S) μ')) := Eq.trans rfl rfl
def rm_X3_readBeating : Room := { frames := 2, cells := 0, slots := 0, locals := 42 }
theorem eo_X3_readBeating : am_EO "CarpetLane$Tape" rm_X3_readBeating E_X3_readBeating := ⟨(List.forall_mem_cons.mpr ⟨Or.inl ⟨_, rfl, by decide, am_in 172 (by decide +kernel) (by decide +kernel), by decide⟩, (List.forall_mem_cons.mpr ⟨Or.inl ⟨_, rfl, by decide, am_in 139 (by decide +kernel) (by decide +kernel), by decide⟩, (fun _ h => absurd h List.not_mem_nil)⟩)⟩), (fun _ h => absurd h List.not_mem_nil), (fun _ h => absurd h List.not_mem_nil), (List.forall_mem_cons.mpr ⟨am_mkV ok_X3_advance wv_X3_advance (am_in 559 (by decide +kernel) (by decide +kernel)) ⟨rfl, rfl, by decide, by decide⟩, (List.forall_mem_cons.mpr ⟨am_mkV ok_X3_isNumber wv_X3_isNumber (am_in 650 (by decide +kernel) (by decide +kernel)) ⟨rfl, rfl, by decide, by decide⟩, (fun _ h => absurd h List.not_mem_nil)⟩)⟩), (List.forall_mem_cons.mpr ⟨am_mkS ok_X4_beating wv_X4_beating (Or.inr (List.mem_of_getElem? (i := 2) rfl)) ⟨rfl, rfl, by decide, by decide⟩, (fun _ h => absurd h List.not_mem_nil)⟩), (fun _ h => absurd h List.not_mem_nil)⟩
theorem wv_X3_readBeating : am_WV (⟨"CarpetLane$Tape", "readBeating", "(LCarpetLane$Lane;)Z"⟩ : MethodName) prog_5_method_7_code 4 (some .boolean) 1 3 := ⟨am_in 62 (by decide +kernel) (by decide +kernel), am_in 663 (by decide +kernel) (by decide +kernel), by decide +kernel, rfl, by decide, am_in 662 (by decide +kernel) (by decide +kernel), am_in 18 (by decide +kernel) (by decide +kernel)⟩
set_option maxRecDepth 20000 in
set_option maxHeartbeats 1000000 in
theorem bd_X3_readBeating (k : Nat) (b : Nat) (μ : am_M) (Q : am_Q) (At : am_J) (hA : am_ok E_X3_readBeating cd_X3_readBeating Q At) (h : f_X3_readBeating k b μ Q) : At 0 (am_en [.ref k, .ref b] 4) [] μ := by
  obtain ⟨rfl, T, n, t, s, hb, hT, hK, hO, hR, hW, h⟩ := h
  obtain ⟨b0, b4, b5, b6, b1, b2, b11, br, bc8⟩ := LBf hb
  have n8 := hW.1.1
  unfold rBeat at h
  refine hA [] 60 0 _ _ _ ?_; show am_blk _ _ _ _ _ [_, _, .null, .null] _ _
  simp only [s_aload_0, s_iload_0, s_lload_0, s_istore_0, s_lstore_0, s_astore_0, s_aload_1, s_iload_1, s_lload_1, s_istore_1, s_lstore_1, s_astore_1, s_aload_2, s_iload_2, s_lload_2, s_istore_2, s_lstore_2, s_astore_2, s_aload_3, s_iload_3, s_lload_3, s_istore_3, s_lstore_3, s_astore_3, s_aload, s_iload, s_lload, s_istore, s_lstore, s_astore, s_iconst, s_bipush, s_sipush, s_lconst_0, s_lconst_1, s_iinc, s_iadd, s_isub, s_imul, s_iand, s_ior, s_ixor, s_ishl, s_ishr, s_iushr, s_idiv, s_irem, s_ladd, s_lsub, s_lmul, s_ldiv, s_lrem, s_lcmp, s_i2l, s_l2i, s_i2b, s_i2s, s_i2c, s_dupI, s_dupR, s_dup2IR, s_dupx1, s_popI, s_if_eq, s_if_ne, s_if_lt, s_if_ge, s_if_gt, s_if_le, s_cmp_eq, s_cmp_ne, s_cmp_lt, s_cmp_ge, s_cmp_gt, s_cmp_le, s_goto, s_tsw, s_iaload, s_baload, s_caload, s_aaload, s_iastore, s_bastore, s_alen, s_ireturn, s_lreturn, s_return, am_lI_0, am_lI_S, am_lL_0, am_lL_S, am_lR_0, am_lR_S, am_sto_0, am_sto_1I, am_sto_1R, am_sto_1N, am_sto_1L, am_sto_S, am_stL_d, am_blk_0, am_blk_1, am_ln_aload_n, am_ln_iload_n, am_ln_lload_n, am_ln_istore_n, am_ln_lstore_n, am_ln_astore_n, am_ln_iconst, am_ln_lconst, am_ln_iadd, am_ln_isub, am_ln_imul, am_ln_idiv, am_ln_irem, am_ln_iand, am_ln_ior, am_ln_ixor, am_ln_ishl, am_ln_ishr, am_ln_iushr, am_ln_ladd, am_ln_lsub, am_ln_lmul, am_ln_ldiv, am_ln_lrem, am_ln_lcmp, am_ln_i2l, am_ln_l2i, am_ln_i2b, am_ln_i2s, am_ln_i2c, am_ln_dup, am_ln_dup2, am_ln_dup_x1, am_ln_pop, am_ln_iaload, am_ln_iastore, am_ln_baload, am_ln_bastore, am_ln_caload, am_ln_aaload, am_ln_arraylength, am_ln_ireturn, am_ln_lreturn, am_ln_return_, am_ln_aload, am_ln_iload, am_ln_lload, am_ln_istore, am_ln_lstore, am_ln_astore, am_ln_bipush, am_ln_ldc, am_ln_sipush, am_ln_ldc_w, am_ln_ldc2_w, am_ln_iinc, am_ln_ifCond, am_ln_if_icmp, am_ln_goto, am_ln_getfield, am_ln_putfield, am_ln_getstatic, am_ln_invokevirtual, am_ln_invokestatic, am_csum_0, am_csum_I, am_csum_R, am_csum_L, k_im16, k_im8, k_im4, k_im2, k_im1, k_i0, k_i1, k_i2, k_i3, k_i4, k_i5, k_i6, k_i7, k_i8, k_i9, k_i10, k_i11, k_i12, k_i13, k_i14, k_i15, k_i16, k_i17, k_i18, k_i19, k_i20, k_i21, k_i22, k_i23, k_i24, k_i25, k_i26, k_i27, k_i28, k_i29, k_i30, k_i31, k_i32, k_i33, k_i34, k_i35, k_i36, k_i37, k_i38, k_i39, k_i40, k_i41, k_b6, k_b7, k_b8, k_b9, k_b10, k_b11, k_b12, k_b13, k_b14, k_b15, k_b16, k_b17, k_b18, k_b19, k_b20, k_b21, k_b22, k_b23, k_b24, k_b25, k_b26, k_b27, k_b28, k_b29, k_b30, k_b31, k_b32, k_b33, k_b34, k_b35, k_b36, k_b37, k_b38, k_b39, k_b40, k_b41, k_b42, k_b43, k_b44, k_b45, k_b46, k_b47, k_b48, k_b49, k_b50, k_b51, k_b52, k_b53, k_b54, k_b55, k_b56, k_b57, k_b58, k_b59, k_b60, k_b61, k_b62, k_b63, k_b66, k_b76, k_b97, k_b98, k_b99, k_b100, k_b101, k_b102, k_b103, k_b104, k_b105, k_b107, k_b108, k_b109, k_b110, k_b112, k_b114, k_b115, k_b116, k_b117, k_b120, k_b121, k_b122, k_s160, k_s200, k_s255, k_s256, k_s999, k_s2048, k_s4095, k_s9999, k_s10000, k_s12345, k_narI, k_narZ0, k_narZ1, k_ffalse, k_ts0, k_ts1, k_tw0, k_tw1, k_rt, k_rn, Nat.reduceAdd, Nat.zero_add, Nat.reduceLeDiff, Nat.reduceLT, Int.reduceAdd, Int.zero_add, true_and, and_true, List.set_cons_zero, List.set_cons_succ, eq_self, k_n2, k_n3, k_n4, k_n5, k_n6, k_n7, k_n8, k_n9, k_n10, k_n12, k_nn, true_or, or_true, false_or, or_false, k_z10, not_false_eq_true, not_true_eq_false, true_imp_iff, false_imp_iff, n_X3_readBeating, r_X3_readBeating, g_X3_readBeating_0, b_X3_readBeating_0, bk_X3_readBeating_0, g_X3_readBeating_14, bk_X3_readBeating_14, g_X3_readBeating_34, bk_X3_readBeating_34, g_X3_readBeating_54, bk_X3_readBeating_54, t_X3_readBeating_9_14, t_X3_readBeating_29_34, t_X3_readBeating_49_54, x_X3_readBeating_g94, x_X3_readBeating_g101, x_X3_readBeating_v22, x_X3_readBeating_v91, x_X3_readBeating_v104, tq37, b0, b4, b1, f_X3_advance, f_X3_isNumber, f_X4_beating]
  refine ⟨T, n, _, hT, hO.2.2.1, hK.2.2.1, fun μ1 hK1 hF1 => ?_⟩
  have hT1 := TX_P hT hF1
  have hO1 : tkO n (nxt T n t) := nxt_O hO
  have hK1 : TK μ1 (nxt T n t) := hK1
  generalize nxt T n t = t1 at hK1 hO1 h ⊢
  have hR1 := Rp_P hb hR hF1 n8
  refine ⟨t1, 5, hK1, hO1.1, hO1.2.2.2, by omega, rfl, fun z => ?_, fun z => ?_⟩
  · rw [if_pos (isNB_iff.mpr z)] at h
    rw [hK1.2.2.2 z.1]
    have hz := z.2
    refine ⟨T, n, _, hT1, hO1.2.2.1, hK1.2.2.1, fun μ2 hK2 hF2 => ?_⟩
    have hT2 := TX_P hT1 hF2
    have hO2 : tkO n (nxt T n t1) := nxt_O hO1
    have hK2 : TK μ2 (nxt T n t1) := hK2
    generalize nxt T n t1 = t2 at hK2 hO2 h ⊢
    have hR2 := Rp_P hb hR1 hF2 n8
    have hP2 := FrP_tr hF1 hF2
    refine ⟨t2, 7, hK2, hO2.1, hO2.2.2.2, by omega, rfl, fun z2 => ?_, fun z2 => ?_⟩
    · rw [if_pos (isNB_iff.mpr z2)] at h
      rw [hK2.2.2.2 z2.1]
      refine ⟨T, n, _, hT2, hO2.2.2.1, hK2.2.2.1, fun μ3 hK3 hF3 => ?_⟩
      have hT3 := TX_P hT2 hF3
      have hO3 : tkO n (nxt T n t2) := nxt_O hO2
      have hK3 : TK μ3 (nxt T n t2) := hK3
      generalize nxt T n t2 = t3 at hK3 hO3 h ⊢
      have hR3 := Rp_P hb hR2 hF3 n8
      have hP3 := FrP_tr hP2 hF3
      refine ⟨t3, 9, hK3, hO3.1, hO3.2.2.2, by omega, rfl, fun z3 => ?_, fun z3 => ?_⟩
      · rw [if_pos (isNB_iff.mpr z3)] at h
        rw [hK3.2.2.2 z3.1, cl6 (by omega)]
        have hF4 : Fr b μ3 (am_set μ3 (b + 1) t1.2.2.2 (10 * nI t2.2.2.2 + nI t3.2.2.2)) := Fr_set (Fr_rf b μ3) (by omega) (by omega)
        refine ⟨in6 (by omega), T, n, _, TX_F hb hT3 hF4, hO3.2.2.1, (TK_F hb hK3 hF4).2.2.1, fun μ5 hK5 hF5 => ?_⟩
        exact (h μ5 hK5 (Rp_P hb (Rp_bt (j := t1.2.2.2) hR3) hF5 n8) (FrL_tr (FrL_tr (FrL_P hP3) (FrL_F hF4)) (FrL_P hF5))).1 rfl
      · rw [if_neg (fun y => z3 (isNB_iff.mp y))] at h
        exact (h μ3 hK3 hR3 (FrL_P hP3)).2 rfl
    · rw [if_neg (fun y => z2 (isNB_iff.mp y))] at h
      exact (h μ2 hK2 hR2 (FrL_P hP2)).2 rfl
  · rw [if_neg (fun y => z (isNB_iff.mp y))] at h
    exact (h μ1 hK1 hR1 (FrL_P hF1)).2 rfl
theorem ok_X3_readBeating : am_OK (⟨"CarpetLane$Tape", "readBeating", "(LCarpetLane$Lane;)Z"⟩ : MethodName) prog_5_method_7_code 4 (some .boolean) rm_X3_readBeating sp_X3_readBeating := am_mok (cd := cd_X3_readBeating) E_X3_readBeating (by decide +kernel) rfl eo_X3_readBeating (by decide +kernel) (by decide +kernel) (q_RR_h (by decide)) (q_RR_b bd_X3_readBeating)
def f_X3_readAir (k b : Nat) (μ : am_M) (Q : am_Q) : Prop := k = 37 ∧ ∃ T n t s, LB b ∧ TX μ T n ∧ TK μ t ∧ tkO n t ∧ Rp b μ s ∧ Iw s ∧ rE b (rAir T n s t) μ Q
def sp_X3_readAir : am_Sp := q_RR f_X3_readAir
def bk_X3_readAir_0 : List Instr := [.aload_n 0, .invokevirtual 22, .aload_n 0, .sipush 9999, .invokevirtual 91, .ifCond .ne 5, .iconst 0, .ireturn]
def bk_X3_readAir_16 : List Instr := [.aload_n 1, .aload_n 0, .getfield 94, .putfield 107, .aload_n 0, .invokevirtual 22, .iconst 1, .ireturn]
def cd_X3_readAir : am_cd := [(0, bk_X3_readAir_0), (16, bk_X3_readAir_16)]
def E_X3_readAir : am_E := (2, .boolean, [(94, 3, 5), (107, 1, 1)], [], [], [(22, 3, 0, sp_X3_advance), (91, 3, 1, sp_X3_isNumber)], [], [])
theorem n_X3_readAir : am_nL E_X3_readAir = 2 := Eq.trans rfl rfl
theorem r_X3_readAir : am_rt E_X3_readAir = .boolean := Eq.trans rfl rfl
theorem g_X3_readAir_0 {At : am_J} {Q : am_Q} {n : Nat} {L S : List Value} {μ : am_M} : am_go E_X3_readAir cd_X3_readAir [] At Q (n + 1) 0 L S μ = am_blk E_X3_readAir (am_go E_X3_readAir cd_X3_readAir [] At Q n) Q bk_X3_readAir_0 0 L S μ := Eq.trans rfl rfl
theorem b_X3_readAir_0 {gt : am_J} {Q : am_Q} {L S : List Value} {μ : am_M} : am_blk E_X3_readAir gt Q (am_lk [] cd_X3_readAir 0) 0 L S μ = am_blk E_X3_readAir gt Q bk_X3_readAir_0 0 L S μ := Eq.trans rfl rfl
theorem g_X3_readAir_16 {At : am_J} {Q : am_Q} {n : Nat} {L S : List Value} {μ : am_M} : am_go E_X3_readAir cd_X3_readAir [] At Q (n + 1) 16 L S μ = am_blk E_X3_readAir (am_go E_X3_readAir cd_X3_readAir [] At Q n) Q bk_X3_readAir_16 16 L S μ := Eq.trans rfl rfl
theorem t_X3_readAir_11_16 : am_tg 11 5 = 16 := Eq.trans rfl rfl
theorem x_X3_readAir_g94 {pc : Nat} {L S : List Value} {μ : am_M} {nx : am_K} {jp : am_J} {Q : am_Q} {k : Nat} : am_st E_X3_readAir pc (.getfield 94) L (.ref k :: S) μ nx jp Q = (am_sh k = (3, 0) ∧ nx L (.int (μ.1 k 5) :: S) μ) := Eq.trans rfl rfl
theorem x_X3_readAir_g107 {pc : Nat} {L S : List Value} {μ : am_M} {nx : am_K} {jp : am_J} {Q : am_Q} {k : Nat} : am_st E_X3_readAir pc (.getfield 107) L (.ref k :: S) μ nx jp Q = (am_sh k = (1, 0) ∧ nx L (.int (μ.1 k 1) :: S) μ) := Eq.trans rfl rfl
theorem x_X3_readAir_p107 {pc : Nat} {L S : List Value} {μ : am_M} {nx : am_K} {jp : am_J} {Q : am_Q} {k : Nat} {x : Int32} : am_st E_X3_readAir pc (.putfield 107) L (.int x :: .ref k :: S) μ nx jp Q = (am_sh k = (1, 0) ∧ 1 < 6 ∧ (0 : Nat) = 0 ∧ (false = true → x = 0 ∨ x = 1) ∧ nx L S (am_set μ k 1 x)) := Eq.trans rfl rfl
theorem x_X3_readAir_v22 {pc : Nat} {L S : List Value} {μ : am_M} {nx : am_K} {jp : am_J} {Q : am_Q} {k : Nat}  : am_st E_X3_readAir pc (.invokevirtual 22) L (.ref k :: S) μ nx jp Q = (am_sh k = (3, 0) ∧ am_csum S ≤ 8 ∧ f_X3_advance k  μ (fun r μ' => nx L (r.toList ++ S) μ')) := Eq.trans rfl rfl
theorem x_X3_readAir_v91 {pc : Nat} {L S : List Value} {μ : am_M} {nx : am_K} {jp : am_J} {Q : am_Q} {k : Nat} {a0 : Int32} : am_st E_X3_readAir pc (.invokevirtual 91) L (.int a0 :: .ref k :: S) μ nx jp Q = (am_sh k = (3, 0) ∧ am_csum S ≤ 8 ∧ f_X3_isNumber k a0 μ (fun r μ' => nx L (r.toList ++ S) μ')) := Eq.trans rfl rfl
def rm_X3_readAir : Room := { frames := 2, cells := 0, slots := 0, locals := 42 }
theorem eo_X3_readAir : am_EO "CarpetLane$Tape" rm_X3_readAir E_X3_readAir := ⟨(List.forall_mem_cons.mpr ⟨Or.inl ⟨_, rfl, by decide, am_in 172 (by decide +kernel) (by decide +kernel), by decide⟩, (List.forall_mem_cons.mpr ⟨Or.inl ⟨_, rfl, by decide, am_in 132 (by decide +kernel) (by decide +kernel), by decide⟩, (fun _ h => absurd h List.not_mem_nil)⟩)⟩), (fun _ h => absurd h List.not_mem_nil), (fun _ h => absurd h List.not_mem_nil), (List.forall_mem_cons.mpr ⟨am_mkV ok_X3_advance wv_X3_advance (am_in 559 (by decide +kernel) (by decide +kernel)) ⟨rfl, rfl, by decide, by decide⟩, (List.forall_mem_cons.mpr ⟨am_mkV ok_X3_isNumber wv_X3_isNumber (am_in 650 (by decide +kernel) (by decide +kernel)) ⟨rfl, rfl, by decide, by decide⟩, (fun _ h => absurd h List.not_mem_nil)⟩)⟩), (fun _ h => absurd h List.not_mem_nil), (fun _ h => absurd h List.not_mem_nil)⟩
theorem wv_X3_readAir : am_WV (⟨"CarpetLane$Tape", "readAir", "(LCarpetLane$Lane;)Z"⟩ : MethodName) prog_5_method_8_code 2 (some .boolean) 1 3 := ⟨am_in 62 (by decide +kernel) (by decide +kernel), am_in 669 (by decide +kernel) (by decide +kernel), by decide +kernel, rfl, by decide, am_in 668 (by decide +kernel) (by decide +kernel), am_in 19 (by decide +kernel) (by decide +kernel)⟩
theorem bd_X3_readAir (k : Nat) (b : Nat) (μ : am_M) (Q : am_Q) (At : am_J) (hA : am_ok E_X3_readAir cd_X3_readAir Q At) (h : f_X3_readAir k b μ Q) : At 0 (am_en [.ref k, .ref b] 2) [] μ := by
  obtain ⟨rfl, T, n, t, s, hb, hT, hK, hO, hR, hW, h⟩ := h
  obtain ⟨b0, b4, b5, b6, b1, b2, b11, br, bc8⟩ := LBf hb
  have n8 := hW.1.1
  unfold rAir at h
  refine hA [] 60 0 _ _ _ ?_; show am_blk _ _ _ _ _ [_, _] _ _
  simp only [s_aload_0, s_iload_0, s_lload_0, s_istore_0, s_lstore_0, s_astore_0, s_aload_1, s_iload_1, s_lload_1, s_istore_1, s_lstore_1, s_astore_1, s_aload_2, s_iload_2, s_lload_2, s_istore_2, s_lstore_2, s_astore_2, s_aload_3, s_iload_3, s_lload_3, s_istore_3, s_lstore_3, s_astore_3, s_aload, s_iload, s_lload, s_istore, s_lstore, s_astore, s_iconst, s_bipush, s_sipush, s_lconst_0, s_lconst_1, s_iinc, s_iadd, s_isub, s_imul, s_iand, s_ior, s_ixor, s_ishl, s_ishr, s_iushr, s_idiv, s_irem, s_ladd, s_lsub, s_lmul, s_ldiv, s_lrem, s_lcmp, s_i2l, s_l2i, s_i2b, s_i2s, s_i2c, s_dupI, s_dupR, s_dup2IR, s_dupx1, s_popI, s_if_eq, s_if_ne, s_if_lt, s_if_ge, s_if_gt, s_if_le, s_cmp_eq, s_cmp_ne, s_cmp_lt, s_cmp_ge, s_cmp_gt, s_cmp_le, s_goto, s_tsw, s_iaload, s_baload, s_caload, s_aaload, s_iastore, s_bastore, s_alen, s_ireturn, s_lreturn, s_return, am_lI_0, am_lI_S, am_lL_0, am_lL_S, am_lR_0, am_lR_S, am_sto_0, am_sto_1I, am_sto_1R, am_sto_1N, am_sto_1L, am_sto_S, am_stL_d, am_blk_0, am_blk_1, am_ln_aload_n, am_ln_iload_n, am_ln_lload_n, am_ln_istore_n, am_ln_lstore_n, am_ln_astore_n, am_ln_iconst, am_ln_lconst, am_ln_iadd, am_ln_isub, am_ln_imul, am_ln_idiv, am_ln_irem, am_ln_iand, am_ln_ior, am_ln_ixor, am_ln_ishl, am_ln_ishr, am_ln_iushr, am_ln_ladd, am_ln_lsub, am_ln_lmul, am_ln_ldiv, am_ln_lrem, am_ln_lcmp, am_ln_i2l, am_ln_l2i, am_ln_i2b, am_ln_i2s, am_ln_i2c, am_ln_dup, am_ln_dup2, am_ln_dup_x1, am_ln_pop, am_ln_iaload, am_ln_iastore, am_ln_baload, am_ln_bastore, am_ln_caload, am_ln_aaload, am_ln_arraylength, am_ln_ireturn, am_ln_lreturn, am_ln_return_, am_ln_aload, am_ln_iload, am_ln_lload, am_ln_istore, am_ln_lstore, am_ln_astore, am_ln_bipush, am_ln_ldc, am_ln_sipush, am_ln_ldc_w, am_ln_ldc2_w, am_ln_iinc, am_ln_ifCond, am_ln_if_icmp, am_ln_goto, am_ln_getfield, am_ln_putfield, am_ln_getstatic, am_ln_invokevirtual, am_ln_invokestatic, am_csum_0, am_csum_I, am_csum_R, am_csum_L, k_im16, k_im8, k_im4, k_im2, k_im1, k_i0, k_i1, k_i2, k_i3, k_i4, k_i5, k_i6, k_i7, k_i8, k_i9, k_i10, k_i11, k_i12, k_i13, k_i14, k_i15, k_i16, k_i17, k_i18, k_i19, k_i20, k_i21, k_i22, k_i23, k_i24, k_i25, k_i26, k_i27, k_i28, k_i29, k_i30, k_i31, k_i32, k_i33, k_i34, k_i35, k_i36, k_i37, k_i38, k_i39, k_i40, k_i41, k_b6, k_b7, k_b8, k_b9, k_b10, k_b11, k_b12, k_b13, k_b14, k_b15, k_b16, k_b17, k_b18, k_b19, k_b20, k_b21, k_b22, k_b23, k_b24, k_b25, k_b26, k_b27, k_b28, k_b29, k_b30, k_b31, k_b32, k_b33, k_b34, k_b35, k_b36, k_b37, k_b38, k_b39, k_b40, k_b41, k_b42, k_b43, k_b44, k_b45, k_b46, k_b47, k_b48, k_b49, k_b50, k_b51, k_b52, k_b53, k_b54, k_b55, k_b56, k_b57, k_b58, k_b59, k_b60, k_b61, k_b62, k_b63, k_b66, k_b76, k_b97, k_b98, k_b99, k_b100, k_b101, k_b102, k_b103, k_b104, k_b105, k_b107, k_b108, k_b109, k_b110, k_b112, k_b114, k_b115, k_b116, k_b117, k_b120, k_b121, k_b122, k_s160, k_s200, k_s255, k_s256, k_s999, k_s2048, k_s4095, k_s9999, k_s10000, k_s12345, k_narI, k_narZ0, k_narZ1, k_ffalse, k_ts0, k_ts1, k_tw0, k_tw1, k_rt, k_rn, Nat.reduceAdd, Nat.zero_add, Nat.reduceLeDiff, Nat.reduceLT, Int.reduceAdd, Int.zero_add, true_and, and_true, List.set_cons_zero, List.set_cons_succ, eq_self, k_n2, k_n3, k_n4, k_n5, k_n6, k_n7, k_n8, k_n9, k_n10, k_n12, k_nn, true_or, or_true, false_or, or_false, k_z10, not_false_eq_true, not_true_eq_false, true_imp_iff, false_imp_iff, n_X3_readAir, r_X3_readAir, g_X3_readAir_0, b_X3_readAir_0, bk_X3_readAir_0, g_X3_readAir_16, bk_X3_readAir_16, t_X3_readAir_11_16, x_X3_readAir_g94, x_X3_readAir_g107, x_X3_readAir_p107, x_X3_readAir_v22, x_X3_readAir_v91, tq37, b0, b4, b1, f_X3_advance, f_X3_isNumber]
  refine ⟨T, n, _, hT, hO.2.2.1, hK.2.2.1, fun μ1 hK1 hF1 => ?_⟩
  have hT1 := TX_P hT hF1
  have hO1 : tkO n (nxt T n t) := nxt_O hO
  have hK1 : TK μ1 (nxt T n t) := hK1
  generalize nxt T n t = t1 at hK1 hO1 h ⊢
  have hR1 := Rp_P hb hR hF1 n8
  refine ⟨t1, 9999, hK1, hO1.1, hO1.2.2.2, by omega, rfl, fun z => ?_, fun z => ?_⟩
  · rw [if_pos (isNB_iff.mpr z)] at h
    rw [hK1.2.2.2 z.1]
    have hF4 : Fr b μ1 (am_set μ1 b 1 (nI t1.2.2.2)) := Fr_set (Fr_rf b μ1) (by omega) (by omega)
    refine ⟨T, n, _, TX_F hb hT1 hF4, hO1.2.2.1, (TK_F hb hK1 hF4).2.2.1, fun μ5 hK5 hF5 => ?_⟩
    exact (h μ5 hK5 (Rp_P hb (Rp_air hR1) hF5 n8) (FrL_tr (FrL_tr (FrL_P hF1) (FrL_F hF4)) (FrL_P hF5))).1 rfl
  · rw [if_neg (fun y => z (isNB_iff.mp y))] at h
    exact (h μ1 hK1 hR1 (FrL_P hF1)).2 rfl
theorem ok_X3_readAir : am_OK (⟨"CarpetLane$Tape", "readAir", "(LCarpetLane$Lane;)Z"⟩ : MethodName) prog_5_method_8_code 2 (some .boolean) rm_X3_readAir sp_X3_readAir := am_mok (cd := cd_X3_readAir) E_X3_readAir (by decide +kernel) rfl eo_X3_readAir (by decide +kernel) (by decide +kernel) (q_RR_h (by decide)) (q_RR_b bd_X3_readAir)
def kwI (o : Option Nat) : Int32 := match o with
  | some i => nI i
  | none => -1
def f_X3_kindOfWord (k : Nat) (μ : am_M) (Q : am_Q) : Prop := k = 37 ∧ ∃ T n t, TX μ T n ∧ TK μ t ∧ tkO n t ∧ Q (some (.int (kwI (kwS T t 7 0)))) μ
def sp_X3_kindOfWord : am_Sp := q_R f_X3_kindOfWord
def bk_X3_kindOfWord_0 : List Instr := [.aload_n 0, .ldc 109, .invokevirtual 45, .ifCond .eq 5, .iconst 0, .ireturn]
def bk_X3_kindOfWord_11 : List Instr := [.aload_n 0, .ldc 111, .invokevirtual 45, .ifCond .eq 5, .iconst 1, .ireturn]
def bk_X3_kindOfWord_22 : List Instr := [.aload_n 0, .ldc 113, .invokevirtual 45, .ifCond .eq 5, .iconst 2, .ireturn]
def bk_X3_kindOfWord_33 : List Instr := [.aload_n 0, .ldc 115, .invokevirtual 45, .ifCond .eq 5, .iconst 3, .ireturn]
def bk_X3_kindOfWord_44 : List Instr := [.aload_n 0, .ldc 117, .invokevirtual 45, .ifCond .eq 5, .iconst 4, .ireturn]
def bk_X3_kindOfWord_55 : List Instr := [.aload_n 0, .ldc 119, .invokevirtual 45, .ifCond .eq 5, .iconst 5, .ireturn]
def bk_X3_kindOfWord_66 : List Instr := [.aload_n 0, .ldc 121, .invokevirtual 45, .ifCond .eq 8, .bipush 6, .goto 4]
def bk_X3_kindOfWord_80 : List Instr := [.iconst (-1)]
def bk_X3_kindOfWord_81 : List Instr := [.ireturn]
def cd_X3_kindOfWord : am_cd := [(0, bk_X3_kindOfWord_0), (11, bk_X3_kindOfWord_11), (22, bk_X3_kindOfWord_22), (33, bk_X3_kindOfWord_33), (44, bk_X3_kindOfWord_44), (55, bk_X3_kindOfWord_55), (66, bk_X3_kindOfWord_66), (80, bk_X3_kindOfWord_80), (81, bk_X3_kindOfWord_81)]
def E_X3_kindOfWord : am_E := (1, .int, [], [(109, .ref 110), (111, .ref 111), (113, .ref 112), (115, .ref 113), (117, .ref 114), (119, .ref 115), (121, .ref 116)], [], [(45, 3, 1, sp_X3_isWord)], [], [])
theorem n_X3_kindOfWord : am_nL E_X3_kindOfWord = 1 := Eq.trans rfl rfl
theorem r_X3_kindOfWord : am_rt E_X3_kindOfWord = .int := Eq.trans rfl rfl
theorem g_X3_kindOfWord_0 {At : am_J} {Q : am_Q} {n : Nat} {L S : List Value} {μ : am_M} : am_go E_X3_kindOfWord cd_X3_kindOfWord [] At Q (n + 1) 0 L S μ = am_blk E_X3_kindOfWord (am_go E_X3_kindOfWord cd_X3_kindOfWord [] At Q n) Q bk_X3_kindOfWord_0 0 L S μ := Eq.trans rfl rfl
theorem b_X3_kindOfWord_0 {gt : am_J} {Q : am_Q} {L S : List Value} {μ : am_M} : am_blk E_X3_kindOfWord gt Q (am_lk [] cd_X3_kindOfWord 0) 0 L S μ = am_blk E_X3_kindOfWord gt Q bk_X3_kindOfWord_0 0 L S μ := Eq.trans rfl rfl
theorem g_X3_kindOfWord_11 {At : am_J} {Q : am_Q} {n : Nat} {L S : List Value} {μ : am_M} : am_go E_X3_kindOfWord cd_X3_kindOfWord [] At Q (n + 1) 11 L S μ = am_blk E_X3_kindOfWord (am_go E_X3_kindOfWord cd_X3_kindOfWord [] At Q n) Q bk_X3_kindOfWord_11 11 L S μ := Eq.trans rfl rfl
theorem g_X3_kindOfWord_22 {At : am_J} {Q : am_Q} {n : Nat} {L S : List Value} {μ : am_M} : am_go E_X3_kindOfWord cd_X3_kindOfWord [] At Q (n + 1) 22 L S μ = am_blk E_X3_kindOfWord (am_go E_X3_kindOfWord cd_X3_kindOfWord [] At Q n) Q bk_X3_kindOfWord_22 22 L S μ := Eq.trans rfl rfl
theorem g_X3_kindOfWord_33 {At : am_J} {Q : am_Q} {n : Nat} {L S : List Value} {μ : am_M} : am_go E_X3_kindOfWord cd_X3_kindOfWord [] At Q (n + 1) 33 L S μ = am_blk E_X3_kindOfWord (am_go E_X3_kindOfWord cd_X3_kindOfWord [] At Q n) Q bk_X3_kindOfWord_33 33 L S μ := Eq.trans rfl rfl
theorem g_X3_kindOfWord_44 {At : am_J} {Q : am_Q} {n : Nat} {L S : List Value} {μ : am_M} : am_go E_X3_kindOfWord cd_X3_kindOfWord [] At Q (n + 1) 44 L S μ = am_blk E_X3_kindOfWord (am_go E_X3_kindOfWord cd_X3_kindOfWord [] At Q n) Q bk_X3_kindOfWord_44 44 L S μ := Eq.trans rfl rfl
theorem g_X3_kindOfWord_55 {At : am_J} {Q : am_Q} {n : Nat} {L S : List Value} {μ : am_M} : am_go E_X3_kindOfWord cd_X3_kindOfWord [] At Q (n + 1) 55 L S μ = am_blk E_X3_kindOfWord (am_go E_X3_kindOfWord cd_X3_kindOfWord [] At Q n) Q bk_X3_kindOfWord_55 55 L S μ := Eq.trans rfl rfl
theorem g_X3_kindOfWord_66 {At : am_J} {Q : am_Q} {n : Nat} {L S : List Value} {μ : am_M} : am_go E_X3_kindOfWord cd_X3_kindOfWord [] At Q (n + 1) 66 L S μ = am_blk E_X3_kindOfWord (am_go E_X3_kindOfWord cd_X3_kindOfWord [] At Q n) Q bk_X3_kindOfWord_66 66 L S μ := Eq.trans rfl rfl
theorem g_X3_kindOfWord_80 {At : am_J} {Q : am_Q} {n : Nat} {L S : List Value} {μ : am_M} : am_go E_X3_kindOfWord cd_X3_kindOfWord [] At Q (n + 1) 80 L S μ = am_blk E_X3_kindOfWord (am_go E_X3_kindOfWord cd_X3_kindOfWord [] At Q n) Q bk_X3_kindOfWord_80 80 L S μ := Eq.trans rfl rfl
theorem g_X3_kindOfWord_81 {At : am_J} {Q : am_Q} {n : Nat} {L S : List Value} {μ : am_M} : am_go E_X3_kindOfWord cd_X3_kindOfWord [] At Q (n + 1) 81 L S μ = am_blk E_X3_kindOfWord (am_go E_X3_kindOfWord cd_X3_kindOfWord [] At Q n) Q bk_X3_kindOfWord_81 81 L S μ := Eq.trans rfl rfl
theorem t_X3_kindOfWord_6_11 : am_tg 6 5 = 11 := Eq.trans rfl rfl
theorem t_X3_kindOfWord_17_22 : am_tg 17 5 = 22 := Eq.trans rfl rfl
theorem t_X3_kindOfWord_28_33 : am_tg 28 5 = 33 := Eq.trans rfl rfl
theorem t_X3_kindOfWord_39_44 : am_tg 39 5 = 44 := Eq.trans rfl rfl
theorem t_X3_kindOfWord_50_55 : am_tg 50 5 = 55 := Eq.trans rfl rfl
theorem t_X3_kindOfWord_61_66 : am_tg 61 5 = 66 := Eq.trans rfl rfl
theorem t_X3_kindOfWord_72_80 : am_tg 72 8 = 80 := Eq.trans rfl rfl
theorem t_X3_kindOfWord_77_81 : am_tg 77 4 = 81 := Eq.trans rfl rfl
theorem x_X3_kindOfWord_c109 {pc : Nat} {L S : List Value} {μ : am_M} {nx : am_K} {jp : am_J} {Q : am_Q} : am_st E_X3_kindOfWord pc (.ldc 109) L S μ nx jp Q = nx L (.ref 110 :: S) μ := Eq.trans rfl rfl
theorem x_X3_kindOfWord_c111 {pc : Nat} {L S : List Value} {μ : am_M} {nx : am_K} {jp : am_J} {Q : am_Q} : am_st E_X3_kindOfWord pc (.ldc 111) L S μ nx jp Q = nx L (.ref 111 :: S) μ := Eq.trans rfl rfl
theorem x_X3_kindOfWord_c113 {pc : Nat} {L S : List Value} {μ : am_M} {nx : am_K} {jp : am_J} {Q : am_Q} : am_st E_X3_kindOfWord pc (.ldc 113) L S μ nx jp Q = nx L (.ref 112 :: S) μ := Eq.trans rfl rfl
theorem x_X3_kindOfWord_c115 {pc : Nat} {L S : List Value} {μ : am_M} {nx : am_K} {jp : am_J} {Q : am_Q} : am_st E_X3_kindOfWord pc (.ldc 115) L S μ nx jp Q = nx L (.ref 113 :: S) μ := Eq.trans rfl rfl
theorem x_X3_kindOfWord_c117 {pc : Nat} {L S : List Value} {μ : am_M} {nx : am_K} {jp : am_J} {Q : am_Q} : am_st E_X3_kindOfWord pc (.ldc 117) L S μ nx jp Q = nx L (.ref 114 :: S) μ := Eq.trans rfl rfl
theorem x_X3_kindOfWord_c119 {pc : Nat} {L S : List Value} {μ : am_M} {nx : am_K} {jp : am_J} {Q : am_Q} : am_st E_X3_kindOfWord pc (.ldc 119) L S μ nx jp Q = nx L (.ref 115 :: S) μ := Eq.trans rfl rfl
theorem x_X3_kindOfWord_c121 {pc : Nat} {L S : List Value} {μ : am_M} {nx : am_K} {jp : am_J} {Q : am_Q} : am_st E_X3_kindOfWord pc (.ldc 121) L S μ nx jp Q = nx L (.ref 116 :: S) μ := Eq.trans rfl rfl
theorem x_X3_kindOfWord_v45 {pc : Nat} {L S : List Value} {μ : am_M} {nx : am_K} {jp : am_J} {Q : am_Q} {k : Nat} {a0 : Nat} : am_st E_X3_kindOfWord pc (.invokevirtual 45) L (.ref a0 :: .ref k :: S) μ nx jp Q = (am_sh k = (3, 0) ∧ am_csum S ≤ 8 ∧ f_X3_isWord k a0 μ (fun r μ' => nx L (r.toList ++ S) μ')) := Eq.trans rfl rfl
def rm_X3_kindOfWord : Room := { frames := 5, cells := 0, slots := 0, locals := 107 }
theorem eo_X3_kindOfWord : am_EO "CarpetLane$Tape" rm_X3_kindOfWord E_X3_kindOfWord := ⟨(fun _ h => absurd h List.not_mem_nil), (List.forall_mem_cons.mpr ⟨⟨rfl, (109, 0, "carpet"), List.mem_of_getElem? (i := 0) rfl, rfl, rfl⟩, (List.forall_mem_cons.mpr ⟨⟨rfl, (111, 1, "rug"), List.mem_of_getElem? (i := 1) rfl, rfl, rfl⟩, (List.forall_mem_cons.mpr ⟨⟨rfl, (113, 2, "turkey"), List.mem_of_getElem? (i := 2) rfl, rfl, rfl⟩, (List.forall_mem_cons.mpr ⟨⟨rfl, (115, 3, "stair"), List.mem_of_getElem? (i := 3) rfl, rfl, rfl⟩, (List.forall_mem_cons.mpr ⟨⟨rfl, (117, 4, "aisle"), List.mem_of_getElem? (i := 4) rfl, rfl, rfl⟩, (List.forall_mem_cons.mpr ⟨⟨rfl, (119, 5, "mat"), List.mem_of_getElem? (i := 5) rfl, rfl, rfl⟩, (List.forall_mem_cons.mpr ⟨⟨rfl, (121, 6, "pring"), List.mem_of_getElem? (i := 6) rfl, rfl, rfl⟩, (fun _ h => absurd h List.not_mem_nil)⟩)⟩)⟩)⟩)⟩)⟩)⟩), (fun _ h => absurd h List.not_mem_nil), (List.forall_mem_cons.mpr ⟨am_mkV ok_X3_isWord wv_X3_isWord (am_in 580 (by decide +kernel) (by decide +kernel)) ⟨rfl, rfl, by decide, by decide⟩, (fun _ h => absurd h List.not_mem_nil)⟩), (fun _ h => absurd h List.not_mem_nil), (fun _ h => absurd h List.not_mem_nil)⟩
theorem wv_X3_kindOfWord : am_WV (⟨"CarpetLane$Tape", "kindOfWord", "()I"⟩ : MethodName) prog_5_method_9_code 1 (some .int) 0 3 := ⟨am_in 62 (by decide +kernel) (by decide +kernel), am_in 578 (by decide +kernel) (by decide +kernel), by decide +kernel, rfl, by decide, am_in 577 (by decide +kernel) (by decide +kernel), am_in 13 (by decide +kernel) (by decide +kernel)⟩
set_option maxRecDepth 20000 in
set_option maxHeartbeats 1000000 in
theorem bd_X3_kindOfWord (k : Nat) (μ : am_M) (Q : am_Q) (At : am_J) (hA : am_ok E_X3_kindOfWord cd_X3_kindOfWord Q At) (h : f_X3_kindOfWord k μ Q) : At 0 (am_en [.ref k] 1) [] μ := by
  obtain ⟨rfl, T, n, t, hT, hK, hO, h⟩ := h
  unfold kwS kwS kwS kwS kwS kwS kwS kwS at h
  refine hA [] 60 0 _ _ _ ?_; show am_blk _ _ _ _ _ [_] _ _
  simp only [s_aload_0, s_iload_0, s_lload_0, s_istore_0, s_lstore_0, s_astore_0, s_aload_1, s_iload_1, s_lload_1, s_istore_1, s_lstore_1, s_astore_1, s_aload_2, s_iload_2, s_lload_2, s_istore_2, s_lstore_2, s_astore_2, s_aload_3, s_iload_3, s_lload_3, s_istore_3, s_lstore_3, s_astore_3, s_aload, s_iload, s_lload, s_istore, s_lstore, s_astore, s_iconst, s_bipush, s_sipush, s_lconst_0, s_lconst_1, s_iinc, s_iadd, s_isub, s_imul, s_iand, s_ior, s_ixor, s_ishl, s_ishr, s_iushr, s_idiv, s_irem, s_ladd, s_lsub, s_lmul, s_ldiv, s_lrem, s_lcmp, s_i2l, s_l2i, s_i2b, s_i2s, s_i2c, s_dupI, s_dupR, s_dup2IR, s_dupx1, s_popI, s_if_eq, s_if_ne, s_if_lt, s_if_ge, s_if_gt, s_if_le, s_cmp_eq, s_cmp_ne, s_cmp_lt, s_cmp_ge, s_cmp_gt, s_cmp_le, s_goto, s_tsw, s_iaload, s_baload, s_caload, s_aaload, s_iastore, s_bastore, s_alen, s_ireturn, s_lreturn, s_return, am_lI_0, am_lI_S, am_lL_0, am_lL_S, am_lR_0, am_lR_S, am_sto_0, am_sto_1I, am_sto_1R, am_sto_1N, am_sto_1L, am_sto_S, am_stL_d, am_blk_0, am_blk_1, am_ln_aload_n, am_ln_iload_n, am_ln_lload_n, am_ln_istore_n, am_ln_lstore_n, am_ln_astore_n, am_ln_iconst, am_ln_lconst, am_ln_iadd, am_ln_isub, am_ln_imul, am_ln_idiv, am_ln_irem, am_ln_iand, am_ln_ior, am_ln_ixor, am_ln_ishl, am_ln_ishr, am_ln_iushr, am_ln_ladd, am_ln_lsub, am_ln_lmul, am_ln_ldiv, am_ln_lrem, am_ln_lcmp, am_ln_i2l, am_ln_l2i, am_ln_i2b, am_ln_i2s, am_ln_i2c, am_ln_dup, am_ln_dup2, am_ln_dup_x1, am_ln_pop, am_ln_iaload, am_ln_iastore, am_ln_baload, am_ln_bastore, am_ln_caload, am_ln_aaload, am_ln_arraylength, am_ln_ireturn, am_ln_lreturn, am_ln_return_, am_ln_aload, am_ln_iload, am_ln_lload, am_ln_istore, am_ln_lstore, am_ln_astore, am_ln_bipush, am_ln_ldc, am_ln_sipush, am_ln_ldc_w, am_ln_ldc2_w, am_ln_iinc, am_ln_ifCond, am_ln_if_icmp, am_ln_goto, am_ln_getfield, am_ln_putfield, am_ln_getstatic, am_ln_invokevirtual, am_ln_invokestatic, am_csum_0, am_csum_I, am_csum_R, am_csum_L, k_im16, k_im8, k_im4, k_im2, k_im1, k_i0, k_i1, k_i2, k_i3, k_i4, k_i5, k_i6, k_i7, k_i8, k_i9, k_i10, k_i11, k_i12, k_i13, k_i14, k_i15, k_i16, k_i17, k_i18, k_i19, k_i20, k_i21, k_i22, k_i23, k_i24, k_i25, k_i26, k_i27, k_i28, k_i29, k_i30, k_i31, k_i32, k_i33, k_i34, k_i35, k_i36, k_i37, k_i38, k_i39, k_i40, k_i41, k_b6, k_b7, k_b8, k_b9, k_b10, k_b11, k_b12, k_b13, k_b14, k_b15, k_b16, k_b17, k_b18, k_b19, k_b20, k_b21, k_b22, k_b23, k_b24, k_b25, k_b26, k_b27, k_b28, k_b29, k_b30, k_b31, k_b32, k_b33, k_b34, k_b35, k_b36, k_b37, k_b38, k_b39, k_b40, k_b41, k_b42, k_b43, k_b44, k_b45, k_b46, k_b47, k_b48, k_b49, k_b50, k_b51, k_b52, k_b53, k_b54, k_b55, k_b56, k_b57, k_b58, k_b59, k_b60, k_b61, k_b62, k_b63, k_b66, k_b76, k_b97, k_b98, k_b99, k_b100, k_b101, k_b102, k_b103, k_b104, k_b105, k_b107, k_b108, k_b109, k_b110, k_b112, k_b114, k_b115, k_b116, k_b117, k_b120, k_b121, k_b122, k_s160, k_s200, k_s255, k_s256, k_s999, k_s2048, k_s4095, k_s9999, k_s10000, k_s12345, k_narI, k_narZ0, k_narZ1, k_ffalse, k_ts0, k_ts1, k_tw0, k_tw1, k_rt, k_rn, Nat.reduceAdd, Nat.zero_add, Nat.reduceLeDiff, Nat.reduceLT, Int.reduceAdd, Int.zero_add, true_and, and_true, List.set_cons_zero, List.set_cons_succ, eq_self, k_n2, k_n3, k_n4, k_n5, k_n6, k_n7, k_n8, k_n9, k_n10, k_n12, k_nn, true_or, or_true, false_or, or_false, k_z10, not_false_eq_true, not_true_eq_false, true_imp_iff, false_imp_iff, n_X3_kindOfWord, r_X3_kindOfWord, g_X3_kindOfWord_0, b_X3_kindOfWord_0, bk_X3_kindOfWord_0, g_X3_kindOfWord_11, bk_X3_kindOfWord_11, g_X3_kindOfWord_22, bk_X3_kindOfWord_22, g_X3_kindOfWord_33, bk_X3_kindOfWord_33, g_X3_kindOfWord_44, bk_X3_kindOfWord_44, g_X3_kindOfWord_55, bk_X3_kindOfWord_55, g_X3_kindOfWord_66, bk_X3_kindOfWord_66, g_X3_kindOfWord_80, bk_X3_kindOfWord_80, g_X3_kindOfWord_81, bk_X3_kindOfWord_81, t_X3_kindOfWord_6_11, t_X3_kindOfWord_17_22, t_X3_kindOfWord_28_33, t_X3_kindOfWord_39_44, t_X3_kindOfWord_50_55, t_X3_kindOfWord_61_66, t_X3_kindOfWord_72_80, t_X3_kindOfWord_77_81, x_X3_kindOfWord_c109, x_X3_kindOfWord_c111, x_X3_kindOfWord_c113, x_X3_kindOfWord_c115, x_X3_kindOfWord_c117, x_X3_kindOfWord_c119, x_X3_kindOfWord_c121, x_X3_kindOfWord_v45, tq37, f_X3_isWord]
  refine ⟨T, n, t, 0, hT, hK, hO, by omega, rfl, fun z => ?_, fun z => ?_⟩
  · rw [if_pos (isWB_iff.mpr z)] at h; exact h
  rw [if_neg (fun y => z (isWB_iff.mp y))] at h
  refine ⟨T, n, t, 1, hT, hK, hO, by omega, rfl, fun z => ?_, fun z => ?_⟩
  · rw [if_pos (isWB_iff.mpr z)] at h; exact h
  rw [if_neg (fun y => z (isWB_iff.mp y))] at h
  refine ⟨T, n, t, 2, hT, hK, hO, by omega, rfl, fun z => ?_, fun z => ?_⟩
  · rw [if_pos (isWB_iff.mpr z)] at h; exact h
  rw [if_neg (fun y => z (isWB_iff.mp y))] at h
  refine ⟨T, n, t, 3, hT, hK, hO, by omega, rfl, fun z => ?_, fun z => ?_⟩
  · rw [if_pos (isWB_iff.mpr z)] at h; exact h
  rw [if_neg (fun y => z (isWB_iff.mp y))] at h
  refine ⟨T, n, t, 4, hT, hK, hO, by omega, rfl, fun z => ?_, fun z => ?_⟩
  · rw [if_pos (isWB_iff.mpr z)] at h; exact h
  rw [if_neg (fun y => z (isWB_iff.mp y))] at h
  refine ⟨T, n, t, 5, hT, hK, hO, by omega, rfl, fun z => ?_, fun z => ?_⟩
  · rw [if_pos (isWB_iff.mpr z)] at h; exact h
  rw [if_neg (fun y => z (isWB_iff.mp y))] at h
  refine ⟨T, n, t, 6, hT, hK, hO, by omega, rfl, fun z => ?_, fun z => ?_⟩
  · rw [if_pos (isWB_iff.mpr z)] at h; exact h
  rw [if_neg (fun y => z (isWB_iff.mp y))] at h
  exact h
theorem ok_X3_kindOfWord : am_OK (⟨"CarpetLane$Tape", "kindOfWord", "()I"⟩ : MethodName) prog_5_method_9_code 1 (some .int) rm_X3_kindOfWord sp_X3_kindOfWord := am_mok (cd := cd_X3_kindOfWord) E_X3_kindOfWord (by decide +kernel) rfl eo_X3_kindOfWord (by decide +kernel) (by decide +kernel) (q_R_h (by decide)) (q_R_b bd_X3_kindOfWord)
theorem kwS_lt {T : Nat → Nat} {t : tK} : ∀ k i j, kwS T t k i = some j → j < i + k
  | 0, i, j, h => by unfold kwS at h; cases h
  | k + 1, i, j, h => by
    unfold kwS at h
    split at h
    · cases h; omega
    · have := kwS_lt k (i + 1) j h
      omega
theorem rE_mono {b : Nat} {r : rR} {μ μ1 : am_M} {Q Q' : am_Q} (h : rE b r μ Q) (hL : FrL b μ μ1) (hq : ∀ (x : Int32) (μ' : am_M), Q (some (.int x)) μ' → (x = 0 ∨ x = 1) → Q' (some (.int x)) μ') : rE b r μ1 Q' := fun μ' a1 a2 a3 => ⟨fun y => hq _ _ ((h μ' a1 a2 (FrL_tr hL a3)).1 y) (Or.inr rfl), fun y => hq _ _ ((h μ' a1 a2 (FrL_tr hL a3)).2 y) (Or.inl rfl)⟩
def f_X3_readItem (k b : Nat) (μ : am_M) (Q : am_Q) : Prop := k = 37 ∧ ∃ T n t s, LB b ∧ TX μ T n ∧ TK μ t ∧ tkO n t ∧ Rp b μ s ∧ Iw s ∧ rE b (rItem T n s t) μ Q
def sp_X3_readItem : am_Sp := q_RR f_X3_readItem
def bk_X3_readItem_0 : List Instr := [.aload_n 0, .invokevirtual 35, .istore_n 2, .iload_n 2, .ifCond .lt 10, .aload_n 0, .aload_n 1, .iload_n 2, .invokevirtual 39, .ireturn]
def bk_X3_readItem_16 : List Instr := [.aload_n 0, .ldc 43, .invokevirtual 45, .ifCond .eq 9, .aload_n 0, .aload_n 1, .invokevirtual 49, .ireturn]
def bk_X3_readItem_31 : List Instr := [.aload_n 0, .ldc 52, .invokevirtual 45, .ifCond .eq 9, .aload_n 0, .aload_n 1, .invokevirtual 54, .ireturn]
def bk_X3_readItem_46 : List Instr := [.iconst 0, .ireturn]
def cd_X3_readItem : am_cd := [(0, bk_X3_readItem_0), (16, bk_X3_readItem_16), (31, bk_X3_readItem_31), (46, bk_X3_readItem_46)]
def E_X3_readItem : am_E := (3, .boolean, [], [(43, .ref 121), (52, .ref 122)], [], [(35, 3, 0, sp_X3_kindOfWord), (39, 3, 2, sp_X3_readCarpet), (45, 3, 1, sp_X3_isWord), (49, 3, 1, sp_X3_readBeating), (54, 3, 1, sp_X3_readAir)], [], [])
theorem n_X3_readItem : am_nL E_X3_readItem = 3 := Eq.trans rfl rfl
theorem r_X3_readItem : am_rt E_X3_readItem = .boolean := Eq.trans rfl rfl
theorem g_X3_readItem_0 {At : am_J} {Q : am_Q} {n : Nat} {L S : List Value} {μ : am_M} : am_go E_X3_readItem cd_X3_readItem [] At Q (n + 1) 0 L S μ = am_blk E_X3_readItem (am_go E_X3_readItem cd_X3_readItem [] At Q n) Q bk_X3_readItem_0 0 L S μ := Eq.trans rfl rfl
theorem b_X3_readItem_0 {gt : am_J} {Q : am_Q} {L S : List Value} {μ : am_M} : am_blk E_X3_readItem gt Q (am_lk [] cd_X3_readItem 0) 0 L S μ = am_blk E_X3_readItem gt Q bk_X3_readItem_0 0 L S μ := Eq.trans rfl rfl
theorem g_X3_readItem_16 {At : am_J} {Q : am_Q} {n : Nat} {L S : List Value} {μ : am_M} : am_go E_X3_readItem cd_X3_readItem [] At Q (n + 1) 16 L S μ = am_blk E_X3_readItem (am_go E_X3_readItem cd_X3_readItem [] At Q n) Q bk_X3_readItem_16 16 L S μ := Eq.trans rfl rfl
theorem g_X3_readItem_31 {At : am_J} {Q : am_Q} {n : Nat} {L S : List Value} {μ : am_M} : am_go E_X3_readItem cd_X3_readItem [] At Q (n + 1) 31 L S μ = am_blk E_X3_readItem (am_go E_X3_readItem cd_X3_readItem [] At Q n) Q bk_X3_readItem_31 31 L S μ := Eq.trans rfl rfl
theorem g_X3_readItem_46 {At : am_J} {Q : am_Q} {n : Nat} {L S : List Value} {μ : am_M} : am_go E_X3_readItem cd_X3_readItem [] At Q (n + 1) 46 L S μ = am_blk E_X3_readItem (am_go E_X3_readItem cd_X3_readItem [] At Q n) Q bk_X3_readItem_46 46 L S μ := Eq.trans rfl rfl
theorem t_X3_readItem_6_16 : am_tg 6 10 = 16 := Eq.trans rfl rfl
theorem t_X3_readItem_22_31 : am_tg 22 9 = 31 := Eq.trans rfl rfl
theorem t_X3_readItem_37_46 : am_tg 37 9 = 46 := Eq.trans rfl rfl
theorem x_X3_readItem_c43 {pc : Nat} {L S : List Value} {μ : am_M} {nx : am_K} {jp : am_J} {Q : am_Q} : am_st E_X3_readItem pc (.ldc 43) L S μ nx jp Q = nx L (.ref 121 :: S) μ := Eq.trans rfl rfl
theorem x_X3_readItem_c52 {pc : Nat} {L S : List Value} {μ : am_M} {nx : am_K} {jp : am_J} {Q : am_Q} : am_st E_X3_readItem pc (.ldc 52) L S μ nx jp Q = nx L (.ref 122 :: S) μ := Eq.trans rfl rfl
theorem x_X3_readItem_v35 {pc : Nat} {L S : List Value} {μ : am_M} {nx : am_K} {jp : am_J} {Q : am_Q} {k : Nat}  : am_st E_X3_readItem pc (.invokevirtual 35) L (.ref k :: S) μ nx jp Q = (am_sh k = (3, 0) ∧ am_csum S ≤ 8 ∧ f_X3_kindOfWord k  μ (fun r μ' => nx L (r.toList ++ S) μ')) := Eq.trans rfl rfl
theorem x_X3_readItem_v39 {pc : Nat} {L S : List Value} {μ : am_M} {nx : am_K} {jp : am_J} {Q : am_Q} {k : Nat} {a0 : Nat} {a1 : Int32} : am_st E_X3_readItem pc (.invokevirtual 39) L (.int a1 :: .ref a0 :: .ref k :: S) μ nx jp Q = (am_sh k = (3, 0) ∧ am_csum S ≤ 8 ∧ f_X3_readCarpet k a0 a1 μ (fun r μ' => nx L (r.toList ++ S) μ')) := Eq.trans rfl rfl
theorem x_X3_readItem_v45 {pc : Nat} {L S : List Value} {μ : am_M} {nx : am_K} {jp : am_J} {Q : am_Q} {k : Nat} {a0 : Nat} : am_st E_X3_readItem pc (.invokevirtual 45) L (.ref a0 :: .ref k :: S) μ nx jp Q = (am_sh k = (3, 0) ∧ am_csum S ≤ 8 ∧ f_X3_isWord k a0 μ (fun r μ' => nx L (r.toList ++ S) μ')) := Eq.trans rfl rfl
theorem x_X3_readItem_v49 {pc : Nat} {L S : List Value} {μ : am_M} {nx : am_K} {jp : am_J} {Q : am_Q} {k : Nat} {a0 : Nat} : am_st E_X3_readItem pc (.invokevirtual 49) L (.ref a0 :: .ref k :: S) μ nx jp Q = (am_sh k = (3, 0) ∧ am_csum S ≤ 8 ∧ f_X3_readBeating k a0 μ (fun r μ' => nx L (r.toList ++ S) μ')) := Eq.trans rfl rfl
theorem x_X3_readItem_v54 {pc : Nat} {L S : List Value} {μ : am_M} {nx : am_K} {jp : am_J} {Q : am_Q} {k : Nat} {a0 : Nat} : am_st E_X3_readItem pc (.invokevirtual 54) L (.ref a0 :: .ref k :: S) μ nx jp Q = (am_sh k = (3, 0) ∧ am_csum S ≤ 8 ∧ f_X3_readAir k a0 μ (fun r μ' => nx L (r.toList ++ S) μ')) := Eq.trans rfl rfl
def rm_X3_readItem : Room := { frames := 7, cells := 0, slots := 0, locals := 154 }
theorem eo_X3_readItem : am_EO "CarpetLane$Tape" rm_X3_readItem E_X3_readItem := ⟨(fun _ h => absurd h List.not_mem_nil), (List.forall_mem_cons.mpr ⟨⟨rfl, (43, 11, "beat"), List.mem_of_getElem? (i := 11) rfl, rfl, rfl⟩, (List.forall_mem_cons.mpr ⟨⟨rfl, (52, 12, "air"), List.mem_of_getElem? (i := 12) rfl, rfl, rfl⟩, (fun _ h => absurd h List.not_mem_nil)⟩)⟩), (fun _ h => absurd h List.not_mem_nil), (List.forall_mem_cons.mpr ⟨am_mkV ok_X3_kindOfWord wv_X3_kindOfWord (am_in 575 (by decide +kernel) (by decide +kernel)) ⟨rfl, rfl, by decide, by decide⟩, (List.forall_mem_cons.mpr ⟨am_mkV ok_X3_readCarpet wv_X3_readCarpet (am_in 638 (by decide +kernel) (by decide +kernel)) ⟨rfl, rfl, by decide, by decide⟩, (List.forall_mem_cons.mpr ⟨am_mkV ok_X3_isWord wv_X3_isWord (am_in 580 (by decide +kernel) (by decide +kernel)) ⟨rfl, rfl, by decide, by decide⟩, (List.forall_mem_cons.mpr ⟨am_mkV ok_X3_readBeating wv_X3_readBeating (am_in 660 (by decide +kernel) (by decide +kernel)) ⟨rfl, rfl, by decide, by decide⟩, (List.forall_mem_cons.mpr ⟨am_mkV ok_X3_readAir wv_X3_readAir (am_in 666 (by decide +kernel) (by decide +kernel)) ⟨rfl, rfl, by decide, by decide⟩, (fun _ h => absurd h List.not_mem_nil)⟩)⟩)⟩)⟩)⟩), (fun _ h => absurd h List.not_mem_nil), (fun _ h => absurd h List.not_mem_nil)⟩
theorem wv_X3_readItem : am_WV (⟨"CarpetLane$Tape", "readItem", "(LCarpetLane$Lane;)Z"⟩ : MethodName) prog_5_method_4_code 3 (some .boolean) 1 3 := ⟨am_in 62 (by decide +kernel) (by decide +kernel), am_in 574 (by decide +kernel) (by decide +kernel), by decide +kernel, rfl, by decide, am_in 573 (by decide +kernel) (by decide +kernel), am_in 12 (by decide +kernel) (by decide +kernel)⟩
theorem bd_X3_readItem (k : Nat) (b : Nat) (μ : am_M) (Q : am_Q) (At : am_J) (hA : am_ok E_X3_readItem cd_X3_readItem Q At) (h : f_X3_readItem k b μ Q) : At 0 (am_en [.ref k, .ref b] 3) [] μ := by
  obtain ⟨rfl, T, n, t, s, hb, hT, hK, hO, hR, hW, h⟩ := h
  obtain ⟨b0, b4, b5, b6, b1, b2, b11, br, bc8⟩ := LBf hb
  unfold rItem at h
  have fin : ∀ (x : Int32) (μ' : am_M), Q (some (.int x)) μ' → (x = 0 ∨ x = 1) → (narrow .boolean (.int x) = .int x ∧ Q (some (.int x)) μ') := by
    intro x μ' hq hx
    rcases hx with rfl | rfl
    · exact ⟨k_narZ0, hq⟩
    · exact ⟨k_narZ1, hq⟩
  refine hA [] 60 0 _ _ _ ?_; show am_blk _ _ _ _ _ [_, _, .null] _ _
  simp only [s_aload_0, s_iload_0, s_lload_0, s_istore_0, s_lstore_0, s_astore_0, s_aload_1, s_iload_1, s_lload_1, s_istore_1, s_lstore_1, s_astore_1, s_aload_2, s_iload_2, s_lload_2, s_istore_2, s_lstore_2, s_astore_2, s_aload_3, s_iload_3, s_lload_3, s_istore_3, s_lstore_3, s_astore_3, s_aload, s_iload, s_lload, s_istore, s_lstore, s_astore, s_iconst, s_bipush, s_sipush, s_lconst_0, s_lconst_1, s_iinc, s_iadd, s_isub, s_imul, s_iand, s_ior, s_ixor, s_ishl, s_ishr, s_iushr, s_idiv, s_irem, s_ladd, s_lsub, s_lmul, s_ldiv, s_lrem, s_lcmp, s_i2l, s_l2i, s_i2b, s_i2s, s_i2c, s_dupI, s_dupR, s_dup2IR, s_dupx1, s_popI, s_if_eq, s_if_ne, s_if_lt, s_if_ge, s_if_gt, s_if_le, s_cmp_eq, s_cmp_ne, s_cmp_lt, s_cmp_ge, s_cmp_gt, s_cmp_le, s_goto, s_tsw, s_iaload, s_baload, s_caload, s_aaload, s_iastore, s_bastore, s_alen, s_ireturn, s_lreturn, s_return, am_lI_0, am_lI_S, am_lL_0, am_lL_S, am_lR_0, am_lR_S, am_sto_0, am_sto_1I, am_sto_1R, am_sto_1N, am_sto_1L, am_sto_S, am_stL_d, am_blk_0, am_blk_1, am_ln_aload_n, am_ln_iload_n, am_ln_lload_n, am_ln_istore_n, am_ln_lstore_n, am_ln_astore_n, am_ln_iconst, am_ln_lconst, am_ln_iadd, am_ln_isub, am_ln_imul, am_ln_idiv, am_ln_irem, am_ln_iand, am_ln_ior, am_ln_ixor, am_ln_ishl, am_ln_ishr, am_ln_iushr, am_ln_ladd, am_ln_lsub, am_ln_lmul, am_ln_ldiv, am_ln_lrem, am_ln_lcmp, am_ln_i2l, am_ln_l2i, am_ln_i2b, am_ln_i2s, am_ln_i2c, am_ln_dup, am_ln_dup2, am_ln_dup_x1, am_ln_pop, am_ln_iaload, am_ln_iastore, am_ln_baload, am_ln_bastore, am_ln_caload, am_ln_aaload, am_ln_arraylength, am_ln_ireturn, am_ln_lreturn, am_ln_return_, am_ln_aload, am_ln_iload, am_ln_lload, am_ln_istore, am_ln_lstore, am_ln_astore, am_ln_bipush, am_ln_ldc, am_ln_sipush, am_ln_ldc_w, am_ln_ldc2_w, am_ln_iinc, am_ln_ifCond, am_ln_if_icmp, am_ln_goto, am_ln_getfield, am_ln_putfield, am_ln_getstatic, am_ln_invokevirtual, am_ln_invokestatic, am_csum_0, am_csum_I, am_csum_R, am_csum_L, k_im16, k_im8, k_im4, k_im2, k_im1, k_i0, k_i1, k_i2, k_i3, k_i4, k_i5, k_i6, k_i7, k_i8, k_i9, k_i10, k_i11, k_i12, k_i13, k_i14, k_i15, k_i16, k_i17, k_i18, k_i19, k_i20, k_i21, k_i22, k_i23, k_i24, k_i25, k_i26, k_i27, k_i28, k_i29, k_i30, k_i31, k_i32, k_i33, k_i34, k_i35, k_i36, k_i37, k_i38, k_i39, k_i40, k_i41, k_b6, k_b7, k_b8, k_b9, k_b10, k_b11, k_b12, k_b13, k_b14, k_b15, k_b16, k_b17, k_b18, k_b19, k_b20, k_b21, k_b22, k_b23, k_b24, k_b25, k_b26, k_b27, k_b28, k_b29, k_b30, k_b31, k_b32, k_b33, k_b34, k_b35, k_b36, k_b37, k_b38, k_b39, k_b40, k_b41, k_b42, k_b43, k_b44, k_b45, k_b46, k_b47, k_b48, k_b49, k_b50, k_b51, k_b52, k_b53, k_b54, k_b55, k_b56, k_b57, k_b58, k_b59, k_b60, k_b61, k_b62, k_b63, k_b66, k_b76, k_b97, k_b98, k_b99, k_b100, k_b101, k_b102, k_b103, k_b104, k_b105, k_b107, k_b108, k_b109, k_b110, k_b112, k_b114, k_b115, k_b116, k_b117, k_b120, k_b121, k_b122, k_s160, k_s200, k_s255, k_s256, k_s999, k_s2048, k_s4095, k_s9999, k_s10000, k_s12345, k_narI, k_narZ0, k_narZ1, k_ffalse, k_ts0, k_ts1, k_tw0, k_tw1, k_rt, k_rn, Nat.reduceAdd, Nat.zero_add, Nat.reduceLeDiff, Nat.reduceLT, Int.reduceAdd, Int.zero_add, true_and, and_true, List.set_cons_zero, List.set_cons_succ, eq_self, k_n2, k_n3, k_n4, k_n5, k_n6, k_n7, k_n8, k_n9, k_n10, k_n12, k_nn, true_or, or_true, false_or, or_false, k_z10, not_false_eq_true, not_true_eq_false, true_imp_iff, false_imp_iff, n_X3_readItem, r_X3_readItem, g_X3_readItem_0, b_X3_readItem_0, bk_X3_readItem_0, g_X3_readItem_16, bk_X3_readItem_16, g_X3_readItem_31, bk_X3_readItem_31, g_X3_readItem_46, bk_X3_readItem_46, t_X3_readItem_6_16, t_X3_readItem_22_31, t_X3_readItem_37_46, x_X3_readItem_c43, x_X3_readItem_c52, x_X3_readItem_v35, x_X3_readItem_v39, x_X3_readItem_v45, x_X3_readItem_v49, x_X3_readItem_v54, tq37, b0, f_X3_kindOfWord, f_X3_isWord]
  refine ⟨T, n, t, hT, hK, hO, fun z => ?_, fun z => ?_⟩
  · cases e : kwS T t 7 0 with
    | some i =>
      rw [e] at z
      have := kwS_lt 7 0 i e
      exact absurd z (nI_pos (by omega))
    | none =>
      rw [e] at h
      simp only at h
      refine ⟨T, n, t, 11, hT, hK, hO, by omega, rfl, fun y => ?_, fun y => ?_⟩
      · rw [if_pos (isWB_iff.mpr y)] at h
        refine ⟨rfl, T, n, t, s, hb, hT, hK, hO, hR, hW, rE_mono h (FrL_rf b μ) (fun x μ' hq hx => ?_)⟩
        simp only [s_aload_0, s_iload_0, s_lload_0, s_istore_0, s_lstore_0, s_astore_0, s_aload_1, s_iload_1, s_lload_1, s_istore_1, s_lstore_1, s_astore_1, s_aload_2, s_iload_2, s_lload_2, s_istore_2, s_lstore_2, s_astore_2, s_aload_3, s_iload_3, s_lload_3, s_istore_3, s_lstore_3, s_astore_3, s_aload, s_iload, s_lload, s_istore, s_lstore, s_astore, s_iconst, s_bipush, s_sipush, s_lconst_0, s_lconst_1, s_iinc, s_iadd, s_isub, s_imul, s_iand, s_ior, s_ixor, s_ishl, s_ishr, s_iushr, s_idiv, s_irem, s_ladd, s_lsub, s_lmul, s_ldiv, s_lrem, s_lcmp, s_i2l, s_l2i, s_i2b, s_i2s, s_i2c, s_dupI, s_dupR, s_dup2IR, s_dupx1, s_popI, s_if_eq, s_if_ne, s_if_lt, s_if_ge, s_if_gt, s_if_le, s_cmp_eq, s_cmp_ne, s_cmp_lt, s_cmp_ge, s_cmp_gt, s_cmp_le, s_goto, s_tsw, s_iaload, s_baload, s_caload, s_aaload, s_iastore, s_bastore, s_alen, s_ireturn, s_lreturn, s_return, am_lI_0, am_lI_S, am_lL_0, am_lL_S, am_lR_0, am_lR_S, am_sto_0, am_sto_1I, am_sto_1R, am_sto_1N, am_sto_1L, am_sto_S, am_stL_d, am_blk_0, am_blk_1, am_ln_aload_n, am_ln_iload_n, am_ln_lload_n, am_ln_istore_n, am_ln_lstore_n, am_ln_astore_n, am_ln_iconst, am_ln_lconst, am_ln_iadd, am_ln_isub, am_ln_imul, am_ln_idiv, am_ln_irem, am_ln_iand, am_ln_ior, am_ln_ixor, am_ln_ishl, am_ln_ishr, am_ln_iushr, am_ln_ladd, am_ln_lsub, am_ln_lmul, am_ln_ldiv, am_ln_lrem, am_ln_lcmp, am_ln_i2l, am_ln_l2i, am_ln_i2b, am_ln_i2s, am_ln_i2c, am_ln_dup, am_ln_dup2, am_ln_dup_x1, am_ln_pop, am_ln_iaload, am_ln_iastore, am_ln_baload, am_ln_bastore, am_ln_caload, am_ln_aaload, am_ln_arraylength, am_ln_ireturn, am_ln_lreturn, am_ln_return_, am_ln_aload, am_ln_iload, am_ln_lload, am_ln_istore, am_ln_lstore, am_ln_astore, am_ln_bipush, am_ln_ldc, am_ln_sipush, am_ln_ldc_w, am_ln_ldc2_w, am_ln_iinc, am_ln_ifCond, am_ln_if_icmp, am_ln_goto, am_ln_getfield, am_ln_putfield, am_ln_getstatic, am_ln_invokevirtual, am_ln_invokestatic, am_csum_0, am_csum_I, am_csum_R, am_csum_L, k_im16, k_im8, k_im4, k_im2, k_im1, k_i0, k_i1, k_i2, k_i3, k_i4, k_i5, k_i6, k_i7, k_i8, k_i9, k_i10, k_i11, k_i12, k_i13, k_i14, k_i15, k_i16, k_i17, k_i18, k_i19, k_i20, k_i21, k_i22, k_i23, k_i24, k_i25, k_i26, k_i27, k_i28, k_i29, k_i30, k_i31, k_i32, k_i33, k_i34, k_i35, k_i36, k_i37, k_i38, k_i39, k_i40, k_i41, k_b6, k_b7, k_b8, k_b9, k_b10, k_b11, k_b12, k_b13, k_b14, k_b15, k_b16, k_b17, k_b18, k_b19, k_b20, k_b21, k_b22, k_b23, k_b24, k_b25, k_b26, k_b27, k_b28, k_b29, k_b30, k_b31, k_b32, k_b33, k_b34, k_b35, k_b36, k_b37, k_b38, k_b39, k_b40, k_b41, k_b42, k_b43, k_b44, k_b45, k_b46, k_b47, k_b48, k_b49, k_b50, k_b51, k_b52, k_b53, k_b54, k_b55, k_b56, k_b57, k_b58, k_b59, k_b60, k_b61, k_b62, k_b63, k_b66, k_b76, k_b97, k_b98, k_b99, k_b100, k_b101, k_b102, k_b103, k_b104, k_b105, k_b107, k_b108, k_b109, k_b110, k_b112, k_b114, k_b115, k_b116, k_b117, k_b120, k_b121, k_b122, k_s160, k_s200, k_s255, k_s256, k_s999, k_s2048, k_s4095, k_s9999, k_s10000, k_s12345, k_narI, k_narZ0, k_narZ1, k_ffalse, k_ts0, k_ts1, k_tw0, k_tw1, k_rt, k_rn, Nat.reduceAdd, Nat.zero_add, Nat.reduceLeDiff, Nat.reduceLT, Int.reduceAdd, Int.zero_add, true_and, and_true, List.set_cons_zero, List.set_cons_succ, eq_self, k_n2, k_n3, k_n4, k_n5, k_n6, k_n7, k_n8, k_n9, k_n10, k_n12, k_nn, true_or, or_true, false_or, or_false, k_z10, not_false_eq_true, not_true_eq_false, true_imp_iff, false_imp_iff, n_X3_readItem, r_X3_readItem, g_X3_readItem_0, b_X3_readItem_0, bk_X3_readItem_0, g_X3_readItem_16, bk_X3_readItem_16, g_X3_readItem_31, bk_X3_readItem_31, g_X3_readItem_46, bk_X3_readItem_46, t_X3_readItem_6_16, t_X3_readItem_22_31, t_X3_readItem_37_46, x_X3_readItem_c43, x_X3_readItem_c52, x_X3_readItem_v35, x_X3_readItem_v39, x_X3_readItem_v45, x_X3_readItem_v49, x_X3_readItem_v54]
        exact fin x μ' hq hx
      · rw [if_neg (fun q => y (isWB_iff.mp q))] at h
        refine ⟨T, n, t, 12, hT, hK, hO, by omega, rfl, fun y => ?_, fun y => ?_⟩
        · rw [if_pos (isWB_iff.mpr y)] at h
          refine ⟨rfl, T, n, t, s, hb, hT, hK, hO, hR, hW, rE_mono h (FrL_rf b μ) (fun x μ' hq hx => ?_)⟩
          simp only [s_aload_0, s_iload_0, s_lload_0, s_istore_0, s_lstore_0, s_astore_0, s_aload_1, s_iload_1, s_lload_1, s_istore_1, s_lstore_1, s_astore_1, s_aload_2, s_iload_2, s_lload_2, s_istore_2, s_lstore_2, s_astore_2, s_aload_3, s_iload_3, s_lload_3, s_istore_3, s_lstore_3, s_astore_3, s_aload, s_iload, s_lload, s_istore, s_lstore, s_astore, s_iconst, s_bipush, s_sipush, s_lconst_0, s_lconst_1, s_iinc, s_iadd, s_isub, s_imul, s_iand, s_ior, s_ixor, s_ishl, s_ishr, s_iushr, s_idiv, s_irem, s_ladd, s_lsub, s_lmul, s_ldiv, s_lrem, s_lcmp, s_i2l, s_l2i, s_i2b, s_i2s, s_i2c, s_dupI, s_dupR, s_dup2IR, s_dupx1, s_popI, s_if_eq, s_if_ne, s_if_lt, s_if_ge, s_if_gt, s_if_le, s_cmp_eq, s_cmp_ne, s_cmp_lt, s_cmp_ge, s_cmp_gt, s_cmp_le, s_goto, s_tsw, s_iaload, s_baload, s_caload, s_aaload, s_iastore, s_bastore, s_alen, s_ireturn, s_lreturn, s_return, am_lI_0, am_lI_S, am_lL_0, am_lL_S, am_lR_0, am_lR_S, am_sto_0, am_sto_1I, am_sto_1R, am_sto_1N, am_sto_1L, am_sto_S, am_stL_d, am_blk_0, am_blk_1, am_ln_aload_n, am_ln_iload_n, am_ln_lload_n, am_ln_istore_n, am_ln_lstore_n, am_ln_astore_n, am_ln_iconst, am_ln_lconst, am_ln_iadd, am_ln_isub, am_ln_imul, am_ln_idiv, am_ln_irem, am_ln_iand, am_ln_ior, am_ln_ixor, am_ln_ishl, am_ln_ishr, am_ln_iushr, am_ln_ladd, am_ln_lsub, am_ln_lmul, am_ln_ldiv, am_ln_lrem, am_ln_lcmp, am_ln_i2l, am_ln_l2i, am_ln_i2b, am_ln_i2s, am_ln_i2c, am_ln_dup, am_ln_dup2, am_ln_dup_x1, am_ln_pop, am_ln_iaload, am_ln_iastore, am_ln_baload, am_ln_bastore, am_ln_caload, am_ln_aaload, am_ln_arraylength, am_ln_ireturn, am_ln_lreturn, am_ln_return_, am_ln_aload, am_ln_iload, am_ln_lload, am_ln_istore, am_ln_lstore, am_ln_astore, am_ln_bipush, am_ln_ldc, am_ln_sipush, am_ln_ldc_w, am_ln_ldc2_w, am_ln_iinc, am_ln_ifCond, am_ln_if_icmp, am_ln_goto, am_ln_getfield, am_ln_putfield, am_ln_getstatic, am_ln_invokevirtual, am_ln_invokestatic, am_csum_0, am_csum_I, am_csum_R, am_csum_L, k_im16, k_im8, k_im4, k_im2, k_im1, k_i0, k_i1, k_i2, k_i3, k_i4, k_i5, k_i6, k_i7, k_i8, k_i9, k_i10, k_i11, k_i12, k_i13, k_i14, k_i15, k_i16, k_i17, k_i18, k_i19, k_i20, k_i21, k_i22, k_i23, k_i24, k_i25, k_i26, k_i27, k_i28, k_i29, k_i30, k_i31, k_i32, k_i33, k_i34, k_i35, k_i36, k_i37, k_i38, k_i39, k_i40, k_i41, k_b6, k_b7, k_b8, k_b9, k_b10, k_b11, k_b12, k_b13, k_b14, k_b15, k_b16, k_b17, k_b18, k_b19, k_b20, k_b21, k_b22, k_b23, k_b24, k_b25, k_b26, k_b27, k_b28, k_b29, k_b30, k_b31, k_b32, k_b33, k_b34, k_b35, k_b36, k_b37, k_b38, k_b39, k_b40, k_b41, k_b42, k_b43, k_b44, k_b45, k_b46, k_b47, k_b48, k_b49, k_b50, k_b51, k_b52, k_b53, k_b54, k_b55, k_b56, k_b57, k_b58, k_b59, k_b60, k_b61, k_b62, k_b63, k_b66, k_b76, k_b97, k_b98, k_b99, k_b100, k_b101, k_b102, k_b103, k_b104, k_b105, k_b107, k_b108, k_b109, k_b110, k_b112, k_b114, k_b115, k_b116, k_b117, k_b120, k_b121, k_b122, k_s160, k_s200, k_s255, k_s256, k_s999, k_s2048, k_s4095, k_s9999, k_s10000, k_s12345, k_narI, k_narZ0, k_narZ1, k_ffalse, k_ts0, k_ts1, k_tw0, k_tw1, k_rt, k_rn, Nat.reduceAdd, Nat.zero_add, Nat.reduceLeDiff, Nat.reduceLT, Int.reduceAdd, Int.zero_add, true_and, and_true, List.set_cons_zero, List.set_cons_succ, eq_self, k_n2, k_n3, k_n4, k_n5, k_n6, k_n7, k_n8, k_n9, k_n10, k_n12, k_nn, true_or, or_true, false_or, or_false, k_z10, not_false_eq_true, not_true_eq_false, true_imp_iff, false_imp_iff, n_X3_readItem, r_X3_readItem, g_X3_readItem_0, b_X3_readItem_0, bk_X3_readItem_0, g_X3_readItem_16, bk_X3_readItem_16, g_X3_readItem_31, bk_X3_readItem_31, g_X3_readItem_46, bk_X3_readItem_46, t_X3_readItem_6_16, t_X3_readItem_22_31, t_X3_readItem_37_46, x_X3_readItem_c43, x_X3_readItem_c52, x_X3_readItem_v35, x_X3_readItem_v39, x_X3_readItem_v45, x_X3_readItem_v49, x_X3_readItem_v54]
          exact fin x μ' hq hx
        · rw [if_neg (fun q => y (isWB_iff.mp q))] at h
          exact (h μ hK hR (FrL_rf b μ)).2 rfl
  · cases e : kwS T t 7 0 with
    | none =>
      rw [e] at z
      exact absurd (by decide) z
    | some i =>
      rw [e] at h
      simp only at h
      refine ⟨rfl, T, n, t, s, hb, hT, hK, hO, hR, hW, rE_mono h (FrL_rf b μ) (fun x μ' hq hx => ?_)⟩
      simp only [s_aload_0, s_iload_0, s_lload_0, s_istore_0, s_lstore_0, s_astore_0, s_aload_1, s_iload_1, s_lload_1, s_istore_1, s_lstore_1, s_astore_1, s_aload_2, s_iload_2, s_lload_2, s_istore_2, s_lstore_2, s_astore_2, s_aload_3, s_iload_3, s_lload_3, s_istore_3, s_lstore_3, s_astore_3, s_aload, s_iload, s_lload, s_istore, s_lstore, s_astore, s_iconst, s_bipush, s_sipush, s_lconst_0, s_lconst_1, s_iinc, s_iadd, s_isub, s_imul, s_iand, s_ior, s_ixor, s_ishl, s_ishr, s_iushr, s_idiv, s_irem, s_ladd, s_lsub, s_lmul, s_ldiv, s_lrem, s_lcmp, s_i2l, s_l2i, s_i2b, s_i2s, s_i2c, s_dupI, s_dupR, s_dup2IR, s_dupx1, s_popI, s_if_eq, s_if_ne, s_if_lt, s_if_ge, s_if_gt, s_if_le, s_cmp_eq, s_cmp_ne, s_cmp_lt, s_cmp_ge, s_cmp_gt, s_cmp_le, s_goto, s_tsw, s_iaload, s_baload, s_caload, s_aaload, s_iastore, s_bastore, s_alen, s_ireturn, s_lreturn, s_return, am_lI_0, am_lI_S, am_lL_0, am_lL_S, am_lR_0, am_lR_S, am_sto_0, am_sto_1I, am_sto_1R, am_sto_1N, am_sto_1L, am_sto_S, am_stL_d, am_blk_0, am_blk_1, am_ln_aload_n, am_ln_iload_n, am_ln_lload_n, am_ln_istore_n, am_ln_lstore_n, am_ln_astore_n, am_ln_iconst, am_ln_lconst, am_ln_iadd, am_ln_isub, am_ln_imul, am_ln_idiv, am_ln_irem, am_ln_iand, am_ln_ior, am_ln_ixor, am_ln_ishl, am_ln_ishr, am_ln_iushr, am_ln_ladd, am_ln_lsub, am_ln_lmul, am_ln_ldiv, am_ln_lrem, am_ln_lcmp, am_ln_i2l, am_ln_l2i, am_ln_i2b, am_ln_i2s, am_ln_i2c, am_ln_dup, am_ln_dup2, am_ln_dup_x1, am_ln_pop, am_ln_iaload, am_ln_iastore, am_ln_baload, am_ln_bastore, am_ln_caload, am_ln_aaload, am_ln_arraylength, am_ln_ireturn, am_ln_lreturn, am_ln_return_, am_ln_aload, am_ln_iload, am_ln_lload, am_ln_istore, am_ln_lstore, am_ln_astore, am_ln_bipush, am_ln_ldc, am_ln_sipush, am_ln_ldc_w, am_ln_ldc2_w, am_ln_iinc, am_ln_ifCond, am_ln_if_icmp, am_ln_goto, am_ln_getfield, am_ln_putfield, am_ln_getstatic, am_ln_invokevirtual, am_ln_invokestatic, am_csum_0, am_csum_I, am_csum_R, am_csum_L, k_im16, k_im8, k_im4, k_im2, k_im1, k_i0, k_i1, k_i2, k_i3, k_i4, k_i5, k_i6, k_i7, k_i8, k_i9, k_i10, k_i11, k_i12, k_i13, k_i14, k_i15, k_i16, k_i17, k_i18, k_i19, k_i20, k_i21, k_i22, k_i23, k_i24, k_i25, k_i26, k_i27, k_i28, k_i29, k_i30, k_i31, k_i32, k_i33, k_i34, k_i35, k_i36, k_i37, k_i38, k_i39, k_i40, k_i41, k_b6, k_b7, k_b8, k_b9, k_b10, k_b11, k_b12, k_b13, k_b14, k_b15, k_b16, k_b17, k_b18, k_b19, k_b20, k_b21, k_b22, k_b23, k_b24, k_b25, k_b26, k_b27, k_b28, k_b29, k_b30, k_b31, k_b32, k_b33, k_b34, k_b35, k_b36, k_b37, k_b38, k_b39, k_b40, k_b41, k_b42, k_b43, k_b44, k_b45, k_b46, k_b47, k_b48, k_b49, k_b50, k_b51, k_b52, k_b53, k_b54, k_b55, k_b56, k_b57, k_b58, k_b59, k_b60, k_b61, k_b62, k_b63, k_b66, k_b76, k_b97, k_b98, k_b99, k_b100, k_b101, k_b102, k_b103, k_b104, k_b105, k_b107, k_b108, k_b109, k_b110, k_b112, k_b114, k_b115, k_b116, k_b117, k_b120, k_b121, k_b122, k_s160, k_s200, k_s255, k_s256, k_s999, k_s2048, k_s4095, k_s9999, k_s10000, k_s12345, k_narI, k_narZ0, k_narZ1, k_ffalse, k_ts0, k_ts1, k_tw0, k_tw1, k_rt, k_rn, Nat.reduceAdd, Nat.zero_add, Nat.reduceLeDiff, Nat.reduceLT, Int.reduceAdd, Int.zero_add, true_and, and_true, List.set_cons_zero, List.set_cons_succ, eq_self, k_n2, k_n3, k_n4, k_n5, k_n6, k_n7, k_n8, k_n9, k_n10, k_n12, k_nn, true_or, or_true, false_or, or_false, k_z10, not_false_eq_true, not_true_eq_false, true_imp_iff, false_imp_iff, n_X3_readItem, r_X3_readItem, g_X3_readItem_0, b_X3_readItem_0, bk_X3_readItem_0, g_X3_readItem_16, bk_X3_readItem_16, g_X3_readItem_31, bk_X3_readItem_31, g_X3_readItem_46, bk_X3_readItem_46, t_X3_readItem_6_16, t_X3_readItem_22_31, t_X3_readItem_37_46, x_X3_readItem_c43, x_X3_readItem_c52, x_X3_readItem_v35, x_X3_readItem_v39, x_X3_readItem_v45, x_X3_readItem_v49, x_X3_readItem_v54]
      exact fin x μ' hq hx
theorem ok_X3_readItem : am_OK (⟨"CarpetLane$Tape", "readItem", "(LCarpetLane$Lane;)Z"⟩ : MethodName) prog_5_method_4_code 3 (some .boolean) rm_X3_readItem sp_X3_readItem := am_mok (cd := cd_X3_readItem) E_X3_readItem (by decide +kernel) rfl eo_X3_readItem (by decide +kernel) (by decide +kernel) (q_RR_h (by decide)) (q_RR_b bd_X3_readItem)
theorem Iw_rItem {T : Nat → Nat} {n : Nat} {s : cS} {t : tK} (h : Iw s) : Iw (rItem T n s t).2.1 := by
  unfold rItem
  split
  · unfold rCarpet
    split
    · exact h
    · rename_i i _ h8
      have w1 := Iw_rPart (T := T) (n := n) (c := sn s) (t := nxt T n t) (w := 7) (j := 1) (Iw_lay1 (k := nI i) (f := 1) h h8)
      generalize rPart T n (lay s (nI i) 1) (sn s) (nxt T n t) 7 1 = r at w1 ⊢
      have w2 : Iw (rP2 T n (sn s) r 8 2).2.1 := by
        unfold rP2
        split
        · exact Iw_rPart w1
        · exact w1
      generalize rP2 T n (sn s) r 8 2 = r at w2 ⊢
      have w3 : Iw (rP2 T n (sn s) r 9 3).2.1 := by
        unfold rP2
        split
        · exact Iw_rPart w2
        · exact w2
      generalize rP2 T n (sn s) r 9 3 = r at w3 ⊢
      unfold rP4
      split
      · unfold rShut
        split <;> exact w3
      · exact w3
  · split
    · unfold rBeat
      split
      · split
        · split <;> exact h
        · exact h
      · exact h
    · split
      · unfold rAir
        split <;> exact h
      · exact h
theorem O_rItem {T : Nat → Nat} {n : Nat} {s : cS} {t : tK} (h : tkO n t) : tkO n (rItem T n s t).2.2 := by
  unfold rItem
  split
  · unfold rCarpet
    split
    · exact h
    · rename_i i _ h8
      have w1 := O_rPart (T := T) (s := lay s (nI i) 1) (c := sn s) (w := 7) (j := 1) (nxt_O (T := T) h)
      generalize rPart T n (lay s (nI i) 1) (sn s) (nxt T n t) 7 1 = r at w1 ⊢
      have w2 : tkO n (rP2 T n (sn s) r 8 2).2.2 := by
        unfold rP2
        split
        · exact O_rPart w1
        · exact w1
      generalize rP2 T n (sn s) r 8 2 = r at w2 ⊢
      have w3 : tkO n (rP2 T n (sn s) r 9 3).2.2 := by
        unfold rP2
        split
        · exact O_rPart w2
        · exact w2
      generalize rP2 T n (sn s) r 9 3 = r at w3 ⊢
      unfold rP4
      split
      · unfold rShut
        split
        · exact nxt_O w3
        · exact w3
      · exact w3
  · split
    · unfold rBeat
      split
      · split
        · split
          · exact nxt_O (nxt_O (nxt_O (nxt_O h)))
          · exact nxt_O (nxt_O (nxt_O h))
        · exact nxt_O (nxt_O h)
      · exact nxt_O h
    · split
      · unfold rAir
        split
        · exact nxt_O (nxt_O h)
        · exact nxt_O h
      · exact h
def f_X3_readText (k b : Nat) (μ : am_M) (Q : am_Q) : Prop := k = 37 ∧ ∃ T n s, LB b ∧ TX μ T n ∧ Rp b μ s ∧ Iw s ∧ ∀ μ', Rp b μ' (rTxt T n 120 1 s (tok T n 0)).2 → Iw (rTxt T n 120 1 s (tok T n 0)).2 → FrL b μ μ' → Q (some (.int (rTxt T n 120 1 s (tok T n 0)).1)) μ'
def sp_X3_readText : am_Sp := q_RR f_X3_readText
def bk_X3_readText_0 : List Instr := [.aload_n 0, .iconst 0, .putfield 19, .aload_n 0, .invokevirtual 22, .iconst 1, .istore_n 2]
def bk_X3_readText_11 : List Instr := [.iload_n 2, .bipush 120, .if_icmp .gt 52, .aload_n 0, .aload_n 1, .invokevirtual 25, .ifCond .ne 10, .iconst (-1), .aload_n 0, .getfield 29, .isub, .ireturn]
def bk_X3_readText_32 : List Instr := [.aload_n 0, .getfield 32, .ifCond .ne 5, .iload_n 2, .ireturn]
def bk_X3_readText_41 : List Instr := [.aload_n 0, .getfield 32, .iconst 3, .if_icmp .eq 10, .iconst (-1), .aload_n 0, .getfield 29, .isub, .ireturn]
def bk_X3_readText_56 : List Instr := [.aload_n 0, .invokevirtual 22, .iinc 2 1, .goto (-52)]
def bk_X3_readText_66 : List Instr := [.iconst (-1), .aload_n 0, .getfield 29, .isub, .ireturn]
def cd_X3_readText : am_cd := [(0, bk_X3_readText_0), (11, bk_X3_readText_11), (32, bk_X3_readText_32), (41, bk_X3_readText_41), (56, bk_X3_readText_56), (66, bk_X3_readText_66)]
def E_X3_readText : am_E := (3, .int, [(19, 3, 2), (29, 3, 4), (32, 3, 3)], [], [], [(22, 3, 0, sp_X3_advance), (25, 3, 1, sp_X3_readItem)], [], [])
theorem n_X3_readText : am_nL E_X3_readText = 3 := Eq.trans rfl rfl
theorem r_X3_readText : am_rt E_X3_readText = .int := Eq.trans rfl rfl
theorem g_X3_readText_0 {At : am_J} {Q : am_Q} {n : Nat} {L S : List Value} {μ : am_M} : am_go E_X3_readText cd_X3_readText [11] At Q (n + 1) 0 L S μ = am_blk E_X3_readText (am_go E_X3_readText cd_X3_readText [11] At Q n) Q bk_X3_readText_0 0 L S μ := Eq.trans rfl rfl
theorem b_X3_readText_0 {gt : am_J} {Q : am_Q} {L S : List Value} {μ : am_M} : am_blk E_X3_readText gt Q (am_lk [] cd_X3_readText 0) 0 L S μ = am_blk E_X3_readText gt Q bk_X3_readText_0 0 L S μ := Eq.trans rfl rfl
theorem g_X3_readText_11 {At : am_J} {Q : am_Q} {n : Nat} {L S : List Value} {μ : am_M} : am_go E_X3_readText cd_X3_readText [11] At Q (n + 1) 11 L S μ = At 11 L S μ := Eq.trans rfl rfl
theorem b_X3_readText_11 {gt : am_J} {Q : am_Q} {L S : List Value} {μ : am_M} : am_blk E_X3_readText gt Q (am_lk [] cd_X3_readText 11) 11 L S μ = am_blk E_X3_readText gt Q bk_X3_readText_11 11 L S μ := Eq.trans rfl rfl
theorem g_X3_readText_32 {At : am_J} {Q : am_Q} {n : Nat} {L S : List Value} {μ : am_M} : am_go E_X3_readText cd_X3_readText [11] At Q (n + 1) 32 L S μ = am_blk E_X3_readText (am_go E_X3_readText cd_X3_readText [11] At Q n) Q bk_X3_readText_32 32 L S μ := Eq.trans rfl rfl
theorem g_X3_readText_41 {At : am_J} {Q : am_Q} {n : Nat} {L S : List Value} {μ : am_M} : am_go E_X3_readText cd_X3_readText [11] At Q (n + 1) 41 L S μ = am_blk E_X3_readText (am_go E_X3_readText cd_X3_readText [11] At Q n) Q bk_X3_readText_41 41 L S μ := Eq.trans rfl rfl
theorem g_X3_readText_56 {At : am_J} {Q : am_Q} {n : Nat} {L S : List Value} {μ : am_M} : am_go E_X3_readText cd_X3_readText [11] At Q (n + 1) 56 L S μ = am_blk E_X3_readText (am_go E_X3_readText cd_X3_readText [11] At Q n) Q bk_X3_readText_56 56 L S μ := Eq.trans rfl rfl
theorem g_X3_readText_66 {At : am_J} {Q : am_Q} {n : Nat} {L S : List Value} {μ : am_M} : am_go E_X3_readText cd_X3_readText [11] At Q (n + 1) 66 L S μ = am_blk E_X3_readText (am_go E_X3_readText cd_X3_readText [11] At Q n) Q bk_X3_readText_66 66 L S μ := Eq.trans rfl rfl
theorem t_X3_readText_14_66 : am_tg 14 52 = 66 := Eq.trans rfl rfl
theorem t_X3_readText_22_32 : am_tg 22 10 = 32 := Eq.trans rfl rfl
theorem t_X3_readText_36_41 : am_tg 36 5 = 41 := Eq.trans rfl rfl
theorem t_X3_readText_46_56 : am_tg 46 10 = 56 := Eq.trans rfl rfl
theorem t_X3_readText_63_11 : am_tg 63 (-52) = 11 := Eq.trans rfl rfl
theorem x_X3_readText_g19 {pc : Nat} {L S : List Value} {μ : am_M} {nx : am_K} {jp : am_J} {Q : am_Q} {k : Nat} : am_st E_X3_readText pc (.getfield 19) L (.ref k :: S) μ nx jp Q = (am_sh k = (3, 0) ∧ nx L (.int (μ.1 k 2) :: S) μ) := Eq.trans rfl rfl
theorem x_X3_readText_p19 {pc : Nat} {L S : List Value} {μ : am_M} {nx : am_K} {jp : am_J} {Q : am_Q} {k : Nat} {x : Int32} : am_st E_X3_readText pc (.putfield 19) L (.int x :: .ref k :: S) μ nx jp Q = (am_sh k = (3, 0) ∧ 3 < 6 ∧ (0 : Nat) = 0 ∧ (false = true → x = 0 ∨ x = 1) ∧ nx L S (am_set μ k 2 x)) := Eq.trans rfl rfl
theorem x_X3_readText_g29 {pc : Nat} {L S : List Value} {μ : am_M} {nx : am_K} {jp : am_J} {Q : am_Q} {k : Nat} : am_st E_X3_readText pc (.getfield 29) L (.ref k :: S) μ nx jp Q = (am_sh k = (3, 0) ∧ nx L (.int (μ.1 k 4) :: S) μ) := Eq.trans rfl rfl
theorem x_X3_readText_g32 {pc : Nat} {L S : List Value} {μ : am_M} {nx : am_K} {jp : am_J} {Q : am_Q} {k : Nat} : am_st E_X3_readText pc (.getfield 32) L (.ref k :: S) μ nx jp Q = (am_sh k = (3, 0) ∧ nx L (.int (μ.1 k 3) :: S) μ) := Eq.trans rfl rfl
theorem x_X3_readText_v22 {pc : Nat} {L S : List Value} {μ : am_M} {nx : am_K} {jp : am_J} {Q : am_Q} {k : Nat}  : am_st E_X3_readText pc (.invokevirtual 22) L (.ref k :: S) μ nx jp Q = (am_sh k = (3, 0) ∧ am_csum S ≤ 8 ∧ f_X3_advance k  μ (fun r μ' => nx L (r.toList ++ S) μ')) := Eq.trans rfl rfl
theorem x_X3_readText_v25 {pc : Nat} {L S : List Value} {μ : am_M} {nx : am_K} {jp : am_J} {Q : am_Q} {k : Nat} {a0 : Nat} : am_st E_X3_readText pc (.invokevirtual 25) L (.ref a0 :: .ref k :: S) μ nx jp Q = (am_sh k = (3, 0) ∧ am_csum S ≤ 8 ∧ f_X3_readItem k a0 μ (fun r μ' => nx L (r.toList ++ S) μ')) := Eq.trans rfl rfl
def rm_X3_readText : Room := { frames := 8, cells := 0, slots := 0, locals := 176 }
theorem eo_X3_readText : am_EO "CarpetLane$Tape" rm_X3_readText E_X3_readText := ⟨(List.forall_mem_cons.mpr ⟨Or.inl ⟨_, rfl, by decide, am_in 169 (by decide +kernel) (by decide +kernel), by decide⟩, (List.forall_mem_cons.mpr ⟨Or.inl ⟨_, rfl, by decide, am_in 171 (by decide +kernel) (by decide +kernel), by decide⟩, (List.forall_mem_cons.mpr ⟨Or.inl ⟨_, rfl, by decide, am_in 170 (by decide +kernel) (by decide +kernel), by decide⟩, (fun _ h => absurd h List.not_mem_nil)⟩)⟩)⟩), (fun _ h => absurd h List.not_mem_nil), (fun _ h => absurd h List.not_mem_nil), (List.forall_mem_cons.mpr ⟨am_mkV ok_X3_advance wv_X3_advance (am_in 559 (by decide +kernel) (by decide +kernel)) ⟨rfl, rfl, by decide, by decide⟩, (List.forall_mem_cons.mpr ⟨am_mkV ok_X3_readItem wv_X3_readItem (am_in 571 (by decide +kernel) (by decide +kernel)) ⟨rfl, rfl, by decide, by decide⟩, (fun _ h => absurd h List.not_mem_nil)⟩)⟩), (fun _ h => absurd h List.not_mem_nil), (fun _ h => absurd h List.not_mem_nil)⟩
theorem wv_X3_readText : am_WV (⟨"CarpetLane$Tape", "readText", "(LCarpetLane$Lane;)I"⟩ : MethodName) prog_5_method_3_code 3 (some .int) 1 3 := ⟨am_in 62 (by decide +kernel) (by decide +kernel), am_in 558 (by decide +kernel) (by decide +kernel), by decide +kernel, rfl, by decide, am_in 556 (by decide +kernel) (by decide +kernel), am_in 557 (by decide +kernel) (by decide +kernel)⟩
theorem bd_X3_readText (k : Nat) (b : Nat) (μ : am_M) (Q : am_Q) (At : am_J) (hA : am_ok E_X3_readText cd_X3_readText Q At) (h : f_X3_readText k b μ Q) : At 0 (am_en [.ref k, .ref b] 3) [] μ := by
  obtain ⟨rfl, T, n, s, hb, hT, hR, hW, h⟩ := h
  obtain ⟨b0, b4, b5, b6, b1, b2, b11, br, bc8⟩ := LBf hb
  obtain ⟨G, hG⟩ : ∃ G, G = rTxt T n 120 1 s (tok T n 0) := ⟨_, rfl⟩
  rw [← hG] at h
  have A11 : ∀ (u i : Nat) (μ1 : am_M) (s1 : cS) (t : tK), i + u = 121 → G = rTxt T n u i s1 t → TK μ1 t → tkO n t → Rp b μ1 s1 → Iw s1 → FrL b μ μ1 → At 11 [.ref 37, .ref b, .int (nI i)] [] μ1 := by
    intro u
    induction u with
    | zero =>
      intro i μ1 s1 t hi hg hK hO hR1 hW1 hL
      have : i = 121 := by omega
      subst this
      unfold rTxt at hg
      refine hA [11] 60 11 _ _ _ ?_
      simp only [s_aload_0, s_iload_0, s_lload_0, s_istore_0, s_lstore_0, s_astore_0, s_aload_1, s_iload_1, s_lload_1, s_istore_1, s_lstore_1, s_astore_1, s_aload_2, s_iload_2, s_lload_2, s_istore_2, s_lstore_2, s_astore_2, s_aload_3, s_iload_3, s_lload_3, s_istore_3, s_lstore_3, s_astore_3, s_aload, s_iload, s_lload, s_istore, s_lstore, s_astore, s_iconst, s_bipush, s_sipush, s_lconst_0, s_lconst_1, s_iinc, s_iadd, s_isub, s_imul, s_iand, s_ior, s_ixor, s_ishl, s_ishr, s_iushr, s_idiv, s_irem, s_ladd, s_lsub, s_lmul, s_ldiv, s_lrem, s_lcmp, s_i2l, s_l2i, s_i2b, s_i2s, s_i2c, s_dupI, s_dupR, s_dup2IR, s_dupx1, s_popI, s_if_eq, s_if_ne, s_if_lt, s_if_ge, s_if_gt, s_if_le, s_cmp_eq, s_cmp_ne, s_cmp_lt, s_cmp_ge, s_cmp_gt, s_cmp_le, s_goto, s_tsw, s_iaload, s_baload, s_caload, s_aaload, s_iastore, s_bastore, s_alen, s_ireturn, s_lreturn, s_return, am_lI_0, am_lI_S, am_lL_0, am_lL_S, am_lR_0, am_lR_S, am_sto_0, am_sto_1I, am_sto_1R, am_sto_1N, am_sto_1L, am_sto_S, am_stL_d, am_blk_0, am_blk_1, am_ln_aload_n, am_ln_iload_n, am_ln_lload_n, am_ln_istore_n, am_ln_lstore_n, am_ln_astore_n, am_ln_iconst, am_ln_lconst, am_ln_iadd, am_ln_isub, am_ln_imul, am_ln_idiv, am_ln_irem, am_ln_iand, am_ln_ior, am_ln_ixor, am_ln_ishl, am_ln_ishr, am_ln_iushr, am_ln_ladd, am_ln_lsub, am_ln_lmul, am_ln_ldiv, am_ln_lrem, am_ln_lcmp, am_ln_i2l, am_ln_l2i, am_ln_i2b, am_ln_i2s, am_ln_i2c, am_ln_dup, am_ln_dup2, am_ln_dup_x1, am_ln_pop, am_ln_iaload, am_ln_iastore, am_ln_baload, am_ln_bastore, am_ln_caload, am_ln_aaload, am_ln_arraylength, am_ln_ireturn, am_ln_lreturn, am_ln_return_, am_ln_aload, am_ln_iload, am_ln_lload, am_ln_istore, am_ln_lstore, am_ln_astore, am_ln_bipush, am_ln_ldc, am_ln_sipush, am_ln_ldc_w, am_ln_ldc2_w, am_ln_iinc, am_ln_ifCond, am_ln_if_icmp, am_ln_goto, am_ln_getfield, am_ln_putfield, am_ln_getstatic, am_ln_invokevirtual, am_ln_invokestatic, am_csum_0, am_csum_I, am_csum_R, am_csum_L, k_im16, k_im8, k_im4, k_im2, k_im1, k_i0, k_i1, k_i2, k_i3, k_i4, k_i5, k_i6, k_i7, k_i8, k_i9, k_i10, k_i11, k_i12, k_i13, k_i14, k_i15, k_i16, k_i17, k_i18, k_i19, k_i20, k_i21, k_i22, k_i23, k_i24, k_i25, k_i26, k_i27, k_i28, k_i29, k_i30, k_i31, k_i32, k_i33, k_i34, k_i35, k_i36, k_i37, k_i38, k_i39, k_i40, k_i41, k_b6, k_b7, k_b8, k_b9, k_b10, k_b11, k_b12, k_b13, k_b14, k_b15, k_b16, k_b17, k_b18, k_b19, k_b20, k_b21, k_b22, k_b23, k_b24, k_b25, k_b26, k_b27, k_b28, k_b29, k_b30, k_b31, k_b32, k_b33, k_b34, k_b35, k_b36, k_b37, k_b38, k_b39, k_b40, k_b41, k_b42, k_b43, k_b44, k_b45, k_b46, k_b47, k_b48, k_b49, k_b50, k_b51, k_b52, k_b53, k_b54, k_b55, k_b56, k_b57, k_b58, k_b59, k_b60, k_b61, k_b62, k_b63, k_b66, k_b76, k_b97, k_b98, k_b99, k_b100, k_b101, k_b102, k_b103, k_b104, k_b105, k_b107, k_b108, k_b109, k_b110, k_b112, k_b114, k_b115, k_b116, k_b117, k_b120, k_b121, k_b122, k_s160, k_s200, k_s255, k_s256, k_s999, k_s2048, k_s4095, k_s9999, k_s10000, k_s12345, k_narI, k_narZ0, k_narZ1, k_ffalse, k_ts0, k_ts1, k_tw0, k_tw1, k_rt, k_rn, Nat.reduceAdd, Nat.zero_add, Nat.reduceLeDiff, Nat.reduceLT, Int.reduceAdd, Int.zero_add, true_and, and_true, List.set_cons_zero, List.set_cons_succ, eq_self, k_n2, k_n3, k_n4, k_n5, k_n6, k_n7, k_n8, k_n9, k_n10, k_n12, k_nn, true_or, or_true, false_or, or_false, k_z10, not_false_eq_true, not_true_eq_false, true_imp_iff, false_imp_iff, n_X3_readText, r_X3_readText, g_X3_readText_0, b_X3_readText_0, bk_X3_readText_0, g_X3_readText_11, b_X3_readText_11, bk_X3_readText_11, g_X3_readText_32, bk_X3_readText_32, g_X3_readText_41, bk_X3_readText_41, g_X3_readText_56, bk_X3_readText_56, g_X3_readText_66, bk_X3_readText_66, t_X3_readText_14_66, t_X3_readText_22_32, t_X3_readText_36_41, t_X3_readText_46_56, t_X3_readText_63_11, x_X3_readText_g19, x_X3_readText_p19, x_X3_readText_g29, x_X3_readText_g32, x_X3_readText_v22, x_X3_readText_v25, tq37, hK.2.1]
      refine ⟨fun _ => ?_, fun z => absurd (by decide) z⟩
      have := h μ1 (by rw [hg]; exact hR1) (by rw [hg]; exact hW1) hL
      rw [hg] at this
      exact this
    | succ u ih =>
      intro i μ1 s1 t hi hg hK hO hR1 hW1 hL
      unfold rTxt at hg
      have hW2 := Iw_rItem (T := T) (n := n) (t := t) hW1
      have hO2 := O_rItem (T := T) (s := s1) hO
      have hT1 := TX_L hb hT hL
      refine hA [11] 60 11 _ _ _ ?_
      simp only [s_aload_0, s_iload_0, s_lload_0, s_istore_0, s_lstore_0, s_astore_0, s_aload_1, s_iload_1, s_lload_1, s_istore_1, s_lstore_1, s_astore_1, s_aload_2, s_iload_2, s_lload_2, s_istore_2, s_lstore_2, s_astore_2, s_aload_3, s_iload_3, s_lload_3, s_istore_3, s_lstore_3, s_astore_3, s_aload, s_iload, s_lload, s_istore, s_lstore, s_astore, s_iconst, s_bipush, s_sipush, s_lconst_0, s_lconst_1, s_iinc, s_iadd, s_isub, s_imul, s_iand, s_ior, s_ixor, s_ishl, s_ishr, s_iushr, s_idiv, s_irem, s_ladd, s_lsub, s_lmul, s_ldiv, s_lrem, s_lcmp, s_i2l, s_l2i, s_i2b, s_i2s, s_i2c, s_dupI, s_dupR, s_dup2IR, s_dupx1, s_popI, s_if_eq, s_if_ne, s_if_lt, s_if_ge, s_if_gt, s_if_le, s_cmp_eq, s_cmp_ne, s_cmp_lt, s_cmp_ge, s_cmp_gt, s_cmp_le, s_goto, s_tsw, s_iaload, s_baload, s_caload, s_aaload, s_iastore, s_bastore, s_alen, s_ireturn, s_lreturn, s_return, am_lI_0, am_lI_S, am_lL_0, am_lL_S, am_lR_0, am_lR_S, am_sto_0, am_sto_1I, am_sto_1R, am_sto_1N, am_sto_1L, am_sto_S, am_stL_d, am_blk_0, am_blk_1, am_ln_aload_n, am_ln_iload_n, am_ln_lload_n, am_ln_istore_n, am_ln_lstore_n, am_ln_astore_n, am_ln_iconst, am_ln_lconst, am_ln_iadd, am_ln_isub, am_ln_imul, am_ln_idiv, am_ln_irem, am_ln_iand, am_ln_ior, am_ln_ixor, am_ln_ishl, am_ln_ishr, am_ln_iushr, am_ln_ladd, am_ln_lsub, am_ln_lmul, am_ln_ldiv, am_ln_lrem, am_ln_lcmp, am_ln_i2l, am_ln_l2i, am_ln_i2b, am_ln_i2s, am_ln_i2c, am_ln_dup, am_ln_dup2, am_ln_dup_x1, am_ln_pop, am_ln_iaload, am_ln_iastore, am_ln_baload, am_ln_bastore, am_ln_caload, am_ln_aaload, am_ln_arraylength, am_ln_ireturn, am_ln_lreturn, am_ln_return_, am_ln_aload, am_ln_iload, am_ln_lload, am_ln_istore, am_ln_lstore, am_ln_astore, am_ln_bipush, am_ln_ldc, am_ln_sipush, am_ln_ldc_w, am_ln_ldc2_w, am_ln_iinc, am_ln_ifCond, am_ln_if_icmp, am_ln_goto, am_ln_getfield, am_ln_putfield, am_ln_getstatic, am_ln_invokevirtual, am_ln_invokestatic, am_csum_0, am_csum_I, am_csum_R, am_csum_L, k_im16, k_im8, k_im4, k_im2, k_im1, k_i0, k_i1, k_i2, k_i3, k_i4, k_i5, k_i6, k_i7, k_i8, k_i9, k_i10, k_i11, k_i12, k_i13, k_i14, k_i15, k_i16, k_i17, k_i18, k_i19, k_i20, k_i21, k_i22, k_i23, k_i24, k_i25, k_i26, k_i27, k_i28, k_i29, k_i30, k_i31, k_i32, k_i33, k_i34, k_i35, k_i36, k_i37, k_i38, k_i39, k_i40, k_i41, k_b6, k_b7, k_b8, k_b9, k_b10, k_b11, k_b12, k_b13, k_b14, k_b15, k_b16, k_b17, k_b18, k_b19, k_b20, k_b21, k_b22, k_b23, k_b24, k_b25, k_b26, k_b27, k_b28, k_b29, k_b30, k_b31, k_b32, k_b33, k_b34, k_b35, k_b36, k_b37, k_b38, k_b39, k_b40, k_b41, k_b42, k_b43, k_b44, k_b45, k_b46, k_b47, k_b48, k_b49, k_b50, k_b51, k_b52, k_b53, k_b54, k_b55, k_b56, k_b57, k_b58, k_b59, k_b60, k_b61, k_b62, k_b63, k_b66, k_b76, k_b97, k_b98, k_b99, k_b100, k_b101, k_b102, k_b103, k_b104, k_b105, k_b107, k_b108, k_b109, k_b110, k_b112, k_b114, k_b115, k_b116, k_b117, k_b120, k_b121, k_b122, k_s160, k_s200, k_s255, k_s256, k_s999, k_s2048, k_s4095, k_s9999, k_s10000, k_s12345, k_narI, k_narZ0, k_narZ1, k_ffalse, k_ts0, k_ts1, k_tw0, k_tw1, k_rt, k_rn, Nat.reduceAdd, Nat.zero_add, Nat.reduceLeDiff, Nat.reduceLT, Int.reduceAdd, Int.zero_add, true_and, and_true, List.set_cons_zero, List.set_cons_succ, eq_self, k_n2, k_n3, k_n4, k_n5, k_n6, k_n7, k_n8, k_n9, k_n10, k_n12, k_nn, true_or, or_true, false_or, or_false, k_z10, not_false_eq_true, not_true_eq_false, true_imp_iff, false_imp_iff, n_X3_readText, r_X3_readText, g_X3_readText_0, b_X3_readText_0, bk_X3_readText_0, g_X3_readText_11, b_X3_readText_11, bk_X3_readText_11, g_X3_readText_32, bk_X3_readText_32, g_X3_readText_41, bk_X3_readText_41, g_X3_readText_56, bk_X3_readText_56, g_X3_readText_66, bk_X3_readText_66, t_X3_readText_14_66, t_X3_readText_22_32, t_X3_readText_36_41, t_X3_readText_46_56, t_X3_readText_63_11, x_X3_readText_g19, x_X3_readText_p19, x_X3_readText_g29, x_X3_readText_g32, x_X3_readText_v22, x_X3_readText_v25, tq37, f_X3_readItem, rE, f_X3_advance, nI_1]
      refine ⟨fun z => absurd z (Int32.not_lt.mpr (nI_le (b := 120) (by omega) (by omega))), fun _ => ⟨T, n, t, s1, hb, hT1, hK, hO, hR1, hW1, fun μ2 hK2 hR2 hL2 => ?_⟩⟩
      generalize rItem T n s1 t = r at hg hW2 hO2 hK2 hR2 ⊢
      have hL2' := FrL_tr hL hL2
      have hT2 := TX_L hb hT hL2'
      refine ⟨fun y => ?_, fun y => ?_⟩
      · rw [if_pos y] at hg
        rw [hK2.1]
        refine ⟨fun z => ⟨fun z2 => ?_, fun z2 => ?_⟩, fun z => ?_⟩
        · have e0 : ¬ r.2.2.1 = 0 := fun q => z (by rw [q]; rfl)
          have e3 : r.2.2.1 = 3 := (nI_eq (b := 3) (by have := hO2.1; omega) (by omega)).mp z2
          rw [if_neg e0, if_pos e3] at hg
          refine ⟨T, n, _, hT2, hO2.2.2.1, hK2.2.2.1, fun μ3 hK3 hF3 => ?_⟩
          exact ih (i + 1) μ3 r.2.1 (nxt T n r.2.2) (by omega) hg hK3 (nxt_O hO2) (Rp_P hb hR2 hF3 hW2.1.1) hW2 (FrL_tr hL2' (FrL_P hF3))
        · have e0 : ¬ r.2.2.1 = 0 := fun q => z (by rw [q]; rfl)
          have e3 : ¬ r.2.2.1 = 3 := fun q => z2 (by rw [q]; rfl)
          rw [if_neg e0, if_neg e3] at hg
          rw [hK2.2.1]
          have := h μ2 (by rw [hg]; exact hR2) (by rw [hg]; exact hW2) hL2'
          rw [hg] at this
          exact this
        · have e0 : r.2.2.1 = 0 := (nI_eq (b := 0) (by have := hO2.1; omega) (by omega)).mp z
          rw [if_pos e0] at hg
          have := h μ2 (by rw [hg]; exact hR2) (by rw [hg]; exact hW2) hL2'
          rw [hg] at this
          exact this
      · rw [y, if_neg (by decide)] at hg
        rw [hK2.2.1]
        have := h μ2 (by rw [hg]; exact hR2) (by rw [hg]; exact hW2) hL2'
        rw [hg] at this
        exact this
  have hP0 : FrP μ (am_set μ 37 2 0) := FrP_set (FrP_rf μ) (by omega)
  refine hA [11] 60 0 _ _ _ ?_; show am_blk _ _ _ _ _ [_, _, .null] _ _
  simp only [s_aload_0, s_iload_0, s_lload_0, s_istore_0, s_lstore_0, s_astore_0, s_aload_1, s_iload_1, s_lload_1, s_istore_1, s_lstore_1, s_astore_1, s_aload_2, s_iload_2, s_lload_2, s_istore_2, s_lstore_2, s_astore_2, s_aload_3, s_iload_3, s_lload_3, s_istore_3, s_lstore_3, s_astore_3, s_aload, s_iload, s_lload, s_istore, s_lstore, s_astore, s_iconst, s_bipush, s_sipush, s_lconst_0, s_lconst_1, s_iinc, s_iadd, s_isub, s_imul, s_iand, s_ior, s_ixor, s_ishl, s_ishr, s_iushr, s_idiv, s_irem, s_ladd, s_lsub, s_lmul, s_ldiv, s_lrem, s_lcmp, s_i2l, s_l2i, s_i2b, s_i2s, s_i2c, s_dupI, s_dupR, s_dup2IR, s_dupx1, s_popI, s_if_eq, s_if_ne, s_if_lt, s_if_ge, s_if_gt, s_if_le, s_cmp_eq, s_cmp_ne, s_cmp_lt, s_cmp_ge, s_cmp_gt, s_cmp_le, s_goto, s_tsw, s_iaload, s_baload, s_caload, s_aaload, s_iastore, s_bastore, s_alen, s_ireturn, s_lreturn, s_return, am_lI_0, am_lI_S, am_lL_0, am_lL_S, am_lR_0, am_lR_S, am_sto_0, am_sto_1I, am_sto_1R, am_sto_1N, am_sto_1L, am_sto_S, am_stL_d, am_blk_0, am_blk_1, am_ln_aload_n, am_ln_iload_n, am_ln_lload_n, am_ln_istore_n, am_ln_lstore_n, am_ln_astore_n, am_ln_iconst, am_ln_lconst, am_ln_iadd, am_ln_isub, am_ln_imul, am_ln_idiv, am_ln_irem, am_ln_iand, am_ln_ior, am_ln_ixor, am_ln_ishl, am_ln_ishr, am_ln_iushr, am_ln_ladd, am_ln_lsub, am_ln_lmul, am_ln_ldiv, am_ln_lrem, am_ln_lcmp, am_ln_i2l, am_ln_l2i, am_ln_i2b, am_ln_i2s, am_ln_i2c, am_ln_dup, am_ln_dup2, am_ln_dup_x1, am_ln_pop, am_ln_iaload, am_ln_iastore, am_ln_baload, am_ln_bastore, am_ln_caload, am_ln_aaload, am_ln_arraylength, am_ln_ireturn, am_ln_lreturn, am_ln_return_, am_ln_aload, am_ln_iload, am_ln_lload, am_ln_istore, am_ln_lstore, am_ln_astore, am_ln_bipush, am_ln_ldc, am_ln_sipush, am_ln_ldc_w, am_ln_ldc2_w, am_ln_iinc, am_ln_ifCond, am_ln_if_icmp, am_ln_goto, am_ln_getfield, am_ln_putfield, am_ln_getstatic, am_ln_invokevirtual, am_ln_invokestatic, am_csum_0, am_csum_I, am_csum_R, am_csum_L, k_im16, k_im8, k_im4, k_im2, k_im1, k_i0, k_i1, k_i2, k_i3, k_i4, k_i5, k_i6, k_i7, k_i8, k_i9, k_i10, k_i11, k_i12, k_i13, k_i14, k_i15, k_i16, k_i17, k_i18, k_i19, k_i20, k_i21, k_i22, k_i23, k_i24, k_i25, k_i26, k_i27, k_i28, k_i29, k_i30, k_i31, k_i32, k_i33, k_i34, k_i35, k_i36, k_i37, k_i38, k_i39, k_i40, k_i41, k_b6, k_b7, k_b8, k_b9, k_b10, k_b11, k_b12, k_b13, k_b14, k_b15, k_b16, k_b17, k_b18, k_b19, k_b20, k_b21, k_b22, k_b23, k_b24, k_b25, k_b26, k_b27, k_b28, k_b29, k_b30, k_b31, k_b32, k_b33, k_b34, k_b35, k_b36, k_b37, k_b38, k_b39, k_b40, k_b41, k_b42, k_b43, k_b44, k_b45, k_b46, k_b47, k_b48, k_b49, k_b50, k_b51, k_b52, k_b53, k_b54, k_b55, k_b56, k_b57, k_b58, k_b59, k_b60, k_b61, k_b62, k_b63, k_b66, k_b76, k_b97, k_b98, k_b99, k_b100, k_b101, k_b102, k_b103, k_b104, k_b105, k_b107, k_b108, k_b109, k_b110, k_b112, k_b114, k_b115, k_b116, k_b117, k_b120, k_b121, k_b122, k_s160, k_s200, k_s255, k_s256, k_s999, k_s2048, k_s4095, k_s9999, k_s10000, k_s12345, k_narI, k_narZ0, k_narZ1, k_ffalse, k_ts0, k_ts1, k_tw0, k_tw1, k_rt, k_rn, Nat.reduceAdd, Nat.zero_add, Nat.reduceLeDiff, Nat.reduceLT, Int.reduceAdd, Int.zero_add, true_and, and_true, List.set_cons_zero, List.set_cons_succ, eq_self, k_n2, k_n3, k_n4, k_n5, k_n6, k_n7, k_n8, k_n9, k_n10, k_n12, k_nn, true_or, or_true, false_or, or_false, k_z10, not_false_eq_true, not_true_eq_false, true_imp_iff, false_imp_iff, n_X3_readText, r_X3_readText, g_X3_readText_0, b_X3_readText_0, bk_X3_readText_0, g_X3_readText_11, b_X3_readText_11, bk_X3_readText_11, g_X3_readText_32, bk_X3_readText_32, g_X3_readText_41, bk_X3_readText_41, g_X3_readText_56, bk_X3_readText_56, g_X3_readText_66, bk_X3_readText_66, t_X3_readText_14_66, t_X3_readText_22_32, t_X3_readText_36_41, t_X3_readText_46_56, t_X3_readText_63_11, x_X3_readText_g19, x_X3_readText_p19, x_X3_readText_g29, x_X3_readText_g32, x_X3_readText_v22, x_X3_readText_v25, tq37, f_X3_advance]
  refine ⟨T, n, 0, TX_P hT hP0, Nat.zero_le _, set_eq, fun μ1 hK1 hF1 => ?_⟩
  exact A11 120 1 μ1 s (tok T n 0) (by omega) hG hK1 (tok_O (Nat.zero_le _)) (Rp_P hb hR (FrP_tr hP0 hF1) hW.1.1) hW (FrL_P (FrP_tr hP0 hF1))
theorem ok_X3_readText : am_OK (⟨"CarpetLane$Tape", "readText", "(LCarpetLane$Lane;)I"⟩ : MethodName) prog_5_method_3_code 3 (some .int) rm_X3_readText sp_X3_readText := am_mok (cd := cd_X3_readText) E_X3_readText (by decide +kernel) rfl eo_X3_readText (by decide +kernel) (by decide +kernel) (q_RR_h (by decide)) (q_RR_b bd_X3_readText)
/-- text(): the answer, and the lane then -/
def p_text (T : Nat → Nat) (n : Nat) (s : cS) : Int32 × cS := if (rTxt T n 120 1 s (tok T n 0)).1 < 0 then ((rTxt T n 120 1 s (tok T n 0)).1, s) else rTxt T n 120 1 s (tok T n 0)
def FrY (μ μ' : am_M) : Prop := (∀ k j, (k = 0 ∨ 25 ≤ k) → ¬ (k = 37) → μ'.1 k j = μ.1 k j) ∧ μ'.1 37 0 = 0 ∧ μ'.2 = μ.2
def f_X4_text (k : Nat) (μ : am_M) (Q : am_Q) : Prop := k = 0 ∧ ∃ T n s, TX μ T n ∧ Rp 1 μ s ∧ Iw s ∧ ∀ μ', Rp 1 μ' (p_text T n s).2 → FrY μ μ' → Q (some (.int (p_text T n s).1)) μ'
def sp_X4_text : am_Sp := q_R f_X4_text
def bk_X4_text_0 : List Instr := [.aload_n 0, .getfield 16, .aload_n 0, .getfield 12, .invokevirtual 138, .aload_n 0, .getfield 29, .aload_n 0, .getfield 16, .invokevirtual 196, .istore_n 1, .aload_n 0, .getfield 29, .iconst 0, .putfield 191, .iload_n 1, .ifCond .lt 14, .aload_n 0, .getfield 12, .aload_n 0, .getfield 16, .invokevirtual 138]
def bk_X4_text_46 : List Instr := [.iload_n 1, .ireturn]
def cd_X4_text : am_cd := [(0, bk_X4_text_0), (46, bk_X4_text_46)]
def E_X4_text : am_E := (2, .int, [(16, 4, 1), (12, 4, 0), (29, 4, 4), (191, 3, 0)], [], [], [(138, 1, 1, sp_X1_become), (196, 3, 1, sp_X3_readText)], [], [])
theorem n_X4_text : am_nL E_X4_text = 2 := Eq.trans rfl rfl
theorem r_X4_text : am_rt E_X4_text = .int := Eq.trans rfl rfl
theorem g_X4_text_0 {At : am_J} {Q : am_Q} {n : Nat} {L S : List Value} {μ : am_M} : am_go E_X4_text cd_X4_text [] At Q (n + 1) 0 L S μ = am_blk E_X4_text (am_go E_X4_text cd_X4_text [] At Q n) Q bk_X4_text_0 0 L S μ := Eq.trans rfl rfl
theorem b_X4_text_0 {gt : am_J} {Q : am_Q} {L S : List Value} {μ : am_M} : am_blk E_X4_text gt Q (am_lk [] cd_X4_text 0) 0 L S μ = am_blk E_X4_text gt Q bk_X4_text_0 0 L S μ := Eq.trans rfl rfl
theorem g_X4_text_46 {At : am_J} {Q : am_Q} {n : Nat} {L S : List Value} {μ : am_M} : am_go E_X4_text cd_X4_text [] At Q (n + 1) 46 L S μ = am_blk E_X4_text (am_go E_X4_text cd_X4_text [] At Q n) Q bk_X4_text_46 46 L S μ := Eq.trans rfl rfl
theorem t_X4_text_32_46 : am_tg 32 14 = 46 := Eq.trans rfl rfl
theorem x_X4_text_g16 {pc : Nat} {L S : List Value} {μ : am_M} {nx : am_K} {jp : am_J} {Q : am_Q} {k : Nat} : am_st E_X4_text pc (.getfield 16) L (.ref k :: S) μ nx jp Q = (am_sh k = (4, 0) ∧ nx L (.ref (am_rf k 1) :: S) μ) := Eq.trans rfl rfl
theorem x_X4_text_g12 {pc : Nat} {L S : List Value} {μ : am_M} {nx : am_K} {jp : am_J} {Q : am_Q} {k : Nat} : am_st E_X4_text pc (.getfield 12) L (.ref k :: S) μ nx jp Q = (am_sh k = (4, 0) ∧ nx L (.ref (am_rf k 0) :: S) μ) := Eq.trans rfl rfl
theorem x_X4_text_g29 {pc : Nat} {L S : List Value} {μ : am_M} {nx : am_K} {jp : am_J} {Q : am_Q} {k : Nat} : am_st E_X4_text pc (.getfield 29) L (.ref k :: S) μ nx jp Q = (am_sh k = (4, 0) ∧ nx L (.ref (am_rf k 4) :: S) μ) := Eq.trans rfl rfl
theorem x_X4_text_g191 {pc : Nat} {L S : List Value} {μ : am_M} {nx : am_K} {jp : am_J} {Q : am_Q} {k : Nat} : am_st E_X4_text pc (.getfield 191) L (.ref k :: S) μ nx jp Q = (am_sh k = (3, 0) ∧ nx L (.int (μ.1 k 0) :: S) μ) := Eq.trans rfl rfl
theorem x_X4_text_p191 {pc : Nat} {L S : List Value} {μ : am_M} {nx : am_K} {jp : am_J} {Q : am_Q} {k : Nat} {x : Int32} : am_st E_X4_text pc (.putfield 191) L (.int x :: .ref k :: S) μ nx jp Q = (am_sh k = (3, 0) ∧ 3 < 6 ∧ (0 : Nat) = 0 ∧ (false = true → x = 0 ∨ x = 1) ∧ nx L S (am_set μ k 0 x)) := Eq.trans rfl rfl
theorem x_X4_text_v138 {pc : Nat} {L S : List Value} {μ : am_M} {nx : am_K} {jp : am_J} {Q : am_Q} {k : Nat} {a0 : Nat} : am_st E_X4_text pc (.invokevirtual 138) L (.ref a0 :: .ref k :: S) μ nx jp Q = (am_sh k = (1, 0) ∧ am_csum S ≤ 8 ∧ f_X1_become k a0 μ (fun r μ' => nx L (r.toList ++ S) μ')) := Eq.trans rfl rfl
theorem x_X4_text_v196 {pc : Nat} {L S : List Value} {μ : am_M} {nx : am_K} {jp : am_J} {Q : am_Q} {k : Nat} {a0 : Nat} : am_st E_X4_text pc (.invokevirtual 196) L (.ref a0 :: .ref k :: S) μ nx jp Q = (am_sh k = (3, 0) ∧ am_csum S ≤ 8 ∧ f_X3_readText k a0 μ (fun r μ' => nx L (r.toList ++ S) μ')) := Eq.trans rfl rfl
def rm_X4_text : Room := { frames := 9, cells := 0, slots := 0, locals := 198 }
theorem eo_X4_text : am_EO "CarpetLane" rm_X4_text E_X4_text := ⟨(List.forall_mem_cons.mpr ⟨Or.inl ⟨_, rfl, by decide, am_in 208 (by decide +kernel) (by decide +kernel), by decide⟩, (List.forall_mem_cons.mpr ⟨Or.inl ⟨_, rfl, by decide, am_in 207 (by decide +kernel) (by decide +kernel), by decide⟩, (List.forall_mem_cons.mpr ⟨Or.inl ⟨_, rfl, by decide, am_in 211 (by decide +kernel) (by decide +kernel), by decide⟩, (List.forall_mem_cons.mpr ⟨Or.inl ⟨_, rfl, by decide, am_in 167 (by decide +kernel) (by decide +kernel), by decide⟩, (fun _ h => absurd h List.not_mem_nil)⟩)⟩)⟩)⟩), (fun _ h => absurd h List.not_mem_nil), (fun _ h => absurd h List.not_mem_nil), (List.forall_mem_cons.mpr ⟨am_mkV ok_X1_become wv_X1_become (am_in 418 (by decide +kernel) (by decide +kernel)) ⟨rfl, rfl, by decide, by decide⟩, (List.forall_mem_cons.mpr ⟨am_mkV ok_X3_readText wv_X3_readText (am_in 555 (by decide +kernel) (by decide +kernel)) ⟨rfl, rfl, by decide, by decide⟩, (fun _ h => absurd h List.not_mem_nil)⟩)⟩), (fun _ h => absurd h List.not_mem_nil), (fun _ h => absurd h List.not_mem_nil)⟩
theorem wv_X4_text : am_WV (⟨"CarpetLane", "text", "()I"⟩ : MethodName) prog_1_method_31_code 2 (some .int) 0 4 := ⟨am_in 59 (by decide +kernel) (by decide +kernel), am_in 554 (by decide +kernel) (by decide +kernel), by decide +kernel, rfl, by decide, am_in 552 (by decide +kernel) (by decide +kernel), am_in 553 (by decide +kernel) (by decide +kernel)⟩
theorem bd_X4_text (k : Nat) (μ : am_M) (Q : am_Q) (At : am_J) (hA : am_ok E_X4_text cd_X4_text Q At) (h : f_X4_text k μ Q) : At 0 (am_en [.ref k] 2) [] μ := by
  obtain ⟨rfl, T, n, s, hT, hR, hW, h⟩ := h
  have n8 := hW.1.1
  unfold p_text at h
  refine hA [] 60 0 _ _ _ ?_; show am_blk _ _ _ _ _ [_, .null] _ _
  simp only [s_aload_0, s_iload_0, s_lload_0, s_istore_0, s_lstore_0, s_astore_0, s_aload_1, s_iload_1, s_lload_1, s_istore_1, s_lstore_1, s_astore_1, s_aload_2, s_iload_2, s_lload_2, s_istore_2, s_lstore_2, s_astore_2, s_aload_3, s_iload_3, s_lload_3, s_istore_3, s_lstore_3, s_astore_3, s_aload, s_iload, s_lload, s_istore, s_lstore, s_astore, s_iconst, s_bipush, s_sipush, s_lconst_0, s_lconst_1, s_iinc, s_iadd, s_isub, s_imul, s_iand, s_ior, s_ixor, s_ishl, s_ishr, s_iushr, s_idiv, s_irem, s_ladd, s_lsub, s_lmul, s_ldiv, s_lrem, s_lcmp, s_i2l, s_l2i, s_i2b, s_i2s, s_i2c, s_dupI, s_dupR, s_dup2IR, s_dupx1, s_popI, s_if_eq, s_if_ne, s_if_lt, s_if_ge, s_if_gt, s_if_le, s_cmp_eq, s_cmp_ne, s_cmp_lt, s_cmp_ge, s_cmp_gt, s_cmp_le, s_goto, s_tsw, s_iaload, s_baload, s_caload, s_aaload, s_iastore, s_bastore, s_alen, s_ireturn, s_lreturn, s_return, am_lI_0, am_lI_S, am_lL_0, am_lL_S, am_lR_0, am_lR_S, am_sto_0, am_sto_1I, am_sto_1R, am_sto_1N, am_sto_1L, am_sto_S, am_stL_d, am_blk_0, am_blk_1, am_ln_aload_n, am_ln_iload_n, am_ln_lload_n, am_ln_istore_n, am_ln_lstore_n, am_ln_astore_n, am_ln_iconst, am_ln_lconst, am_ln_iadd, am_ln_isub, am_ln_imul, am_ln_idiv, am_ln_irem, am_ln_iand, am_ln_ior, am_ln_ixor, am_ln_ishl, am_ln_ishr, am_ln_iushr, am_ln_ladd, am_ln_lsub, am_ln_lmul, am_ln_ldiv, am_ln_lrem, am_ln_lcmp, am_ln_i2l, am_ln_l2i, am_ln_i2b, am_ln_i2s, am_ln_i2c, am_ln_dup, am_ln_dup2, am_ln_dup_x1, am_ln_pop, am_ln_iaload, am_ln_iastore, am_ln_baload, am_ln_bastore, am_ln_caload, am_ln_aaload, am_ln_arraylength, am_ln_ireturn, am_ln_lreturn, am_ln_return_, am_ln_aload, am_ln_iload, am_ln_lload, am_ln_istore, am_ln_lstore, am_ln_astore, am_ln_bipush, am_ln_ldc, am_ln_sipush, am_ln_ldc_w, am_ln_ldc2_w, am_ln_iinc, am_ln_ifCond, am_ln_if_icmp, am_ln_goto, am_ln_getfield, am_ln_putfield, am_ln_getstatic, am_ln_invokevirtual, am_ln_invokestatic, am_csum_0, am_csum_I, am_csum_R, am_csum_L, k_im16, k_im8, k_im4, k_im2, k_im1, k_i0, k_i1, k_i2, k_i3, k_i4, k_i5, k_i6, k_i7, k_i8, k_i9, k_i10, k_i11, k_i12, k_i13, k_i14, k_i15, k_i16, k_i17, k_i18, k_i19, k_i20, k_i21, k_i22, k_i23, k_i24, k_i25, k_i26, k_i27, k_i28, k_i29, k_i30, k_i31, k_i32, k_i33, k_i34, k_i35, k_i36, k_i37, k_i38, k_i39, k_i40, k_i41, k_b6, k_b7, k_b8, k_b9, k_b10, k_b11, k_b12, k_b13, k_b14, k_b15, k_b16, k_b17, k_b18, k_b19, k_b20, k_b21, k_b22, k_b23, k_b24, k_b25, k_b26, k_b27, k_b28, k_b29, k_b30, k_b31, k_b32, k_b33, k_b34, k_b35, k_b36, k_b37, k_b38, k_b39, k_b40, k_b41, k_b42, k_b43, k_b44, k_b45, k_b46, k_b47, k_b48, k_b49, k_b50, k_b51, k_b52, k_b53, k_b54, k_b55, k_b56, k_b57, k_b58, k_b59, k_b60, k_b61, k_b62, k_b63, k_b66, k_b76, k_b97, k_b98, k_b99, k_b100, k_b101, k_b102, k_b103, k_b104, k_b105, k_b107, k_b108, k_b109, k_b110, k_b112, k_b114, k_b115, k_b116, k_b117, k_b120, k_b121, k_b122, k_s160, k_s200, k_s255, k_s256, k_s999, k_s2048, k_s4095, k_s9999, k_s10000, k_s12345, k_narI, k_narZ0, k_narZ1, k_ffalse, k_ts0, k_ts1, k_tw0, k_tw1, k_rt, k_rn, Nat.reduceAdd, Nat.zero_add, Nat.reduceLeDiff, Nat.reduceLT, Int.reduceAdd, Int.zero_add, true_and, and_true, List.set_cons_zero, List.set_cons_succ, eq_self, k_n2, k_n3, k_n4, k_n5, k_n6, k_n7, k_n8, k_n9, k_n10, k_n12, k_nn, true_or, or_true, false_or, or_false, k_z10, not_false_eq_true, not_true_eq_false, true_imp_iff, false_imp_iff, n_X4_text, r_X4_text, g_X4_text_0, b_X4_text_0, bk_X4_text_0, g_X4_text_46, bk_X4_text_46, t_X4_text_32_46, x_X4_text_g16, x_X4_text_g12, x_X4_text_g29, x_X4_text_g191, x_X4_text_p191, x_X4_text_v138, x_X4_text_v196, q00, q01, q02, q04, s1, s13, tq37, f_X1_become, f_X3_readText]
  refine ⟨LB13, LB1, by decide, s, hR, hW, fun μ1 hR1 hF1 => ?_⟩
  refine ⟨T, n, s, LB13, TX_F LB13 hT hF1, hR1, hW, fun μ2 hR2 hW2 hL2 => ?_⟩
  have hR1' : Rp 1 μ2 s := by
    have a1 := Rp1_13 hR hF1 n8
    obtain ⟨⟨h1, h2, h3, h4⟩, h5, h6, h7⟩ := a1
    have k1 : ∀ k j, k < 13 → μ2.1 k j = μ1.1 k j := fun k j hk => hL2.1 k j (by omega) (by omega)
    exact ⟨⟨by rw [k1 _ _ (by omega)]; exact h1, by rw [k1 _ _ (by omega)]; exact h2, by rw [k1 _ _ (by omega)]; exact h3, by rw [k1 _ _ (by omega)]; exact h4⟩, fun i hi => by rw [k1 _ _ (by omega)]; exact h5 i hi, fun c f hc hf => by rw [k1 _ _ (by omega)]; exact h6 c f hc hf, fun i hi => by rw [k1 _ _ (by omega)]; exact h7 i hi⟩
  have hset : ∀ b s', (b = 1 ∨ b = 13) → Rp b μ2 s' → sn s' ≤ 8 → Rp b (am_set μ2 37 0 0) s' := by
    intro b s' hb hr hn
    obtain ⟨⟨h1, h2, h3, h4⟩, h5, h6, h7⟩ := hr
    exact ⟨⟨by rw [set_ne (by omega)]; exact h1, by rw [set_ne (by omega)]; exact h2, by rw [set_ne (by omega)]; exact h3, by rw [set_ne (by omega)]; exact h4⟩, fun i hi => by rw [set_ne (by omega)]; exact h5 i hi, fun c f hc hf => by rw [set_ne (by omega)]; exact h6 c f hc hf, fun i hi => by rw [set_ne (by omega)]; exact h7 i hi⟩
  have hY : FrY μ (am_set μ2 37 0 0) := by
    refine ⟨fun k j hk h37 => ?_, set_eq, hL2.2.trans hF1.2⟩
    rw [set_ne (by omega), hL2.1 k j (by omega) (by omega), hF1.1 k (by omega)]
  refine ⟨fun z => ?_, fun z => ⟨LB1, LB13, by decide, _, hset 13 _ (Or.inr rfl) hR2 hW2.1.1, hW2, fun μ4 hR4 hF4 => ?_⟩⟩
  · rw [if_pos z] at h
    exact h _ (hset 1 _ (Or.inl rfl) hR1' n8) hY
  · rw [if_neg z] at h
    refine h μ4 hR4 ⟨fun k j hk h37 => ?_, ?_, hF4.2.trans hY.2.2⟩
    · rw [hF4.1 k (by omega)]; exact hY.1 k j hk h37
    · rw [hF4.1 37 (by omega)]; exact hY.2.1
theorem ok_X4_text : am_OK (⟨"CarpetLane", "text", "()I"⟩ : MethodName) prog_1_method_31_code 2 (some .int) rm_X4_text sp_X4_text := am_mok (cd := cd_X4_text) E_X4_text (by decide +kernel) rfl eo_X4_text (by decide +kernel) (by decide +kernel) (q_R_h (by decide)) (q_R_b bd_X4_text)
