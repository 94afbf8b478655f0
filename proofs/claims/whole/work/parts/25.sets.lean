theorem nI_bv (n : Nat) : (nI n).toBitVec = BitVec.ofNat 32 n := rfl
theorem nI_and (a b : Nat) : nI a &&& nI b = nI (a &&& b) := by
  apply Int32.toBitVec_inj.mp
  rw [Int32.toBitVec_and, nI_bv, nI_bv, nI_bv]
  apply BitVec.eq_of_toNat_eq
  simp [Nat.and_mod_two_pow]
theorem nI_or (a b : Nat) : nI a ||| nI b = nI (a ||| b) := by
  apply Int32.toBitVec_inj.mp
  rw [Int32.toBitVec_or, nI_bv, nI_bv, nI_bv]
  apply BitVec.eq_of_toNat_eq
  simp [Nat.or_mod_two_pow]
theorem sh1 {n : Nat} (h : n ≤ 8) : (1 : Int32) <<< (nI n &&& 31) = nI (2 ^ n) := by
  have : ∀ n, n ≤ 8 → (1 : Int32) <<< (nI n &&& 31) = nI (2 ^ n) := by decide +kernel
  exact this n h
theorem p2_le {n : Nat} (h : n ≤ 8) : 2 ^ n ≤ 256 := by
  have : ∀ n, n ≤ 8 → 2 ^ n ≤ 256 := by decide
  exact this n h
def cvT (s : cS) (m b : Int32) (k : Nat) : Bool := (decide (b < 0) || decide (bc (nI k) < bc b)) && decide (mko s (nI k) (sn s) &&& m = m)
def cvS (s : cS) (m : Int32) : Nat → Int32
  | 0 => -1
  | k + 1 => if cvT s m (cvS s m k) k = true then nI k else cvS s m k
def p_cover (m : Int32) (s : cS) : Out := if wi m 4095 = true then (if cvS s m (2 ^ sn s) < 0 then .inr 3 else .inl (cvS s m (2 ^ sn s), s)) else .inr 0
def f_X4_cover (k : Nat) (m : Int32) (μ : am_M) (Q : am_Q) : Prop := k = 0 ∧ ∃ s, Rp 1 μ s ∧ Iv s ∧ oX s (p_cover m s) μ Q
def sp_X4_cover : am_Sp := q_RI f_X4_cover
def bk_X4_cover_0 : List Instr := [.iload_n 1, .sipush 4095, .invokestatic 45, .ifCond .ne 10, .aload_n 0, .ldc 49, .invokevirtual 50, .ireturn]
def bk_X4_cover_17 : List Instr := [.iconst (-1), .istore_n 2, .iconst 0, .istore_n 3]
def bk_X4_cover_21 : List Instr := [.iload_n 3, .iconst 1, .aload_n 0, .getfield 12, .getfield 115, .ishl, .if_icmp .ge 52, .iload_n 2, .ifCond .lt 14, .iload_n 3, .invokestatic 154, .iload_n 2, .invokestatic 154, .if_icmp .ge 7]
def bk_X4_cover_49 : List Instr := [.iconst 1, .goto 4]
def bk_X4_cover_53 : List Instr := [.iconst 0]
def bk_X4_cover_54 : List Instr := [.istore 4, .iload 4, .ifCond .eq 19, .aload_n 0, .getfield 12, .iload_n 3, .invokevirtual 128, .iload_n 1, .iand, .iload_n 1, .if_icmp .ne 5, .iload_n 3, .istore_n 2]
def bk_X4_cover_77 : List Instr := [.iinc 3 1, .goto (-59)]
def bk_X4_cover_83 : List Instr := [.iload_n 2, .ifCond .ge 12, .aload_n 0, .ldc 150, .invokevirtual 50, .goto 4]
def bk_X4_cover_96 : List Instr := [.iload_n 2]
def bk_X4_cover_97 : List Instr := [.ireturn]
def cd_X4_cover : am_cd := [(0, bk_X4_cover_0), (17, bk_X4_cover_17), (21, bk_X4_cover_21), (49, bk_X4_cover_49), (53, bk_X4_cover_53), (54, bk_X4_cover_54), (77, bk_X4_cover_77), (83, bk_X4_cover_83), (96, bk_X4_cover_96), (97, bk_X4_cover_97)]
def E_X4_cover : am_E := (5, .int, [(12, 4, 0), (115, 1, 3)], [(49, .int (-1000001)), (150, .int (-1000004))], [], [(50, 4, 1, sp_X4_found), (128, 1, 1, sp_X1_marksOn)], [(45, 2, sp_X4_isWithin), (154, 1, sp_J6_bitCount)], [])
theorem n_X4_cover : am_nL E_X4_cover = 5 := Eq.trans rfl rfl
theorem r_X4_cover : am_rt E_X4_cover = .int := Eq.trans rfl rfl
theorem g_X4_cover_0 {At : am_J} {Q : am_Q} {n : Nat} {L S : List Value} {μ : am_M} : am_go E_X4_cover cd_X4_cover [21, 54] At Q (n + 1) 0 L S μ = am_blk E_X4_cover (am_go E_X4_cover cd_X4_cover [21, 54] At Q n) Q bk_X4_cover_0 0 L S μ := Eq.trans rfl rfl
theorem b_X4_cover_0 {gt : am_J} {Q : am_Q} {L S : List Value} {μ : am_M} : am_blk E_X4_cover gt Q (am_lk [] cd_X4_cover 0) 0 L S μ = am_blk E_X4_cover gt Q bk_X4_cover_0 0 L S μ := Eq.trans rfl rfl
theorem g_X4_cover_17 {At : am_J} {Q : am_Q} {n : Nat} {L S : List Value} {μ : am_M} : am_go E_X4_cover cd_X4_cover [21, 54] At Q (n + 1) 17 L S μ = am_blk E_X4_cover (am_go E_X4_cover cd_X4_cover [21, 54] At Q n) Q bk_X4_cover_17 17 L S μ := Eq.trans rfl rfl
theorem g_X4_cover_21 {At : am_J} {Q : am_Q} {n : Nat} {L S : List Value} {μ : am_M} : am_go E_X4_cover cd_X4_cover [21, 54] At Q (n + 1) 21 L S μ = At 21 L S μ := Eq.trans rfl rfl
theorem b_X4_cover_21 {gt : am_J} {Q : am_Q} {L S : List Value} {μ : am_M} : am_blk E_X4_cover gt Q (am_lk [] cd_X4_cover 21) 21 L S μ = am_blk E_X4_cover gt Q bk_X4_cover_21 21 L S μ := Eq.trans rfl rfl
theorem g_X4_cover_49 {At : am_J} {Q : am_Q} {n : Nat} {L S : List Value} {μ : am_M} : am_go E_X4_cover cd_X4_cover [21, 54] At Q (n + 1) 49 L S μ = am_blk E_X4_cover (am_go E_X4_cover cd_X4_cover [21, 54] At Q n) Q bk_X4_cover_49 49 L S μ := Eq.trans rfl rfl
theorem g_X4_cover_53 {At : am_J} {Q : am_Q} {n : Nat} {L S : List Value} {μ : am_M} : am_go E_X4_cover cd_X4_cover [21, 54] At Q (n + 1) 53 L S μ = am_blk E_X4_cover (am_go E_X4_cover cd_X4_cover [21, 54] At Q n) Q bk_X4_cover_53 53 L S μ := Eq.trans rfl rfl
theorem g_X4_cover_54 {At : am_J} {Q : am_Q} {n : Nat} {L S : List Value} {μ : am_M} : am_go E_X4_cover cd_X4_cover [21, 54] At Q (n + 1) 54 L S μ = At 54 L S μ := Eq.trans rfl rfl
theorem b_X4_cover_54 {gt : am_J} {Q : am_Q} {L S : List Value} {μ : am_M} : am_blk E_X4_cover gt Q (am_lk [] cd_X4_cover 54) 54 L S μ = am_blk E_X4_cover gt Q bk_X4_cover_54 54 L S μ := Eq.trans rfl rfl
theorem g_X4_cover_77 {At : am_J} {Q : am_Q} {n : Nat} {L S : List Value} {μ : am_M} : am_go E_X4_cover cd_X4_cover [21, 54] At Q (n + 1) 77 L S μ = am_blk E_X4_cover (am_go E_X4_cover cd_X4_cover [21, 54] At Q n) Q bk_X4_cover_77 77 L S μ := Eq.trans rfl rfl
theorem g_X4_cover_83 {At : am_J} {Q : am_Q} {n : Nat} {L S : List Value} {μ : am_M} : am_go E_X4_cover cd_X4_cover [21, 54] At Q (n + 1) 83 L S μ = am_blk E_X4_cover (am_go E_X4_cover cd_X4_cover [21, 54] At Q n) Q bk_X4_cover_83 83 L S μ := Eq.trans rfl rfl
theorem g_X4_cover_96 {At : am_J} {Q : am_Q} {n : Nat} {L S : List Value} {μ : am_M} : am_go E_X4_cover cd_X4_cover [21, 54] At Q (n + 1) 96 L S μ = am_blk E_X4_cover (am_go E_X4_cover cd_X4_cover [21, 54] At Q n) Q bk_X4_cover_96 96 L S μ := Eq.trans rfl rfl
theorem g_X4_cover_97 {At : am_J} {Q : am_Q} {n : Nat} {L S : List Value} {μ : am_M} : am_go E_X4_cover cd_X4_cover [21, 54] At Q (n + 1) 97 L S μ = am_blk E_X4_cover (am_go E_X4_cover cd_X4_cover [21, 54] At Q n) Q bk_X4_cover_97 97 L S μ := Eq.trans rfl rfl
theorem t_X4_cover_7_17 : am_tg 7 10 = 17 := Eq.trans rfl rfl
theorem t_X4_cover_31_83 : am_tg 31 52 = 83 := Eq.trans rfl rfl
theorem t_X4_cover_35_49 : am_tg 35 14 = 49 := Eq.trans rfl rfl
theorem t_X4_cover_46_53 : am_tg 46 7 = 53 := Eq.trans rfl rfl
theorem t_X4_cover_50_54 : am_tg 50 4 = 54 := Eq.trans rfl rfl
theorem t_X4_cover_58_77 : am_tg 58 19 = 77 := Eq.trans rfl rfl
theorem t_X4_cover_72_77 : am_tg 72 5 = 77 := Eq.trans rfl rfl
theorem t_X4_cover_80_21 : am_tg 80 (-59) = 21 := Eq.trans rfl rfl
theorem t_X4_cover_84_96 : am_tg 84 12 = 96 := Eq.trans rfl rfl
theorem t_X4_cover_93_97 : am_tg 93 4 = 97 := Eq.trans rfl rfl
theorem x_X4_cover_g12 {pc : Nat} {L S : List Value} {μ : am_M} {nx : am_K} {jp : am_J} {Q : am_Q} {k : Nat} : am_st E_X4_cover pc (.getfield 12) L (.ref k :: S) μ nx jp Q = (am_sh k = (4, 0) ∧ nx L (.ref (am_rf k 0) :: S) μ) := Eq.trans rfl rfl
theorem x_X4_cover_g115 {pc : Nat} {L S : List Value} {μ : am_M} {nx : am_K} {jp : am_J} {Q : am_Q} {k : Nat} : am_st E_X4_cover pc (.getfield 115) L (.ref k :: S) μ nx jp Q = (am_sh k = (1, 0) ∧ nx L (.int (μ.1 k 3) :: S) μ) := Eq.trans rfl rfl
theorem x_X4_cover_c49 {pc : Nat} {L S : List Value} {μ : am_M} {nx : am_K} {jp : am_J} {Q : am_Q} : am_st E_X4_cover pc (.ldc 49) L S μ nx jp Q = nx L (.int (-1000001) :: S) μ := Eq.trans rfl rfl
theorem x_X4_cover_c150 {pc : Nat} {L S : List Value} {μ : am_M} {nx : am_K} {jp : am_J} {Q : am_Q} : am_st E_X4_cover pc (.ldc 150) L S μ nx jp Q = nx L (.int (-1000004) :: S) μ := Eq.trans rfl rfl
theorem x_X4_cover_v50 {pc : Nat} {L S : List Value} {μ : am_M} {nx : am_K} {jp : am_J} {Q : am_Q} {k : Nat} {a0 : Int32} : am_st E_X4_cover pc (.invokevirtual 50) L (.int a0 :: .ref k :: S) μ nx jp Q = (am_sh k = (4, 0) ∧ am_csum S ≤ 8 ∧ f_X4_found k a0 μ (fun r μ' => nx L (r.toList ++ S) μ')) := Eq.trans rfl rfl
theorem x_X4_cover_v128 {pc : Nat} {L S : List Value} {μ : am_M} {nx : am_K} {jp : am_J} {Q : am_Q} {k : Nat} {a0 : Int32} : am_st E_X4_cover pc (.invokevirtual 128) L (.int a0 :: .ref k :: S) μ nx jp Q = (am_sh k = (1, 0) ∧ am_csum S ≤ 8 ∧ f_X1_marksOn k a0 μ (fun r μ' => nx L (r.toList ++ S) μ')) := Eq.trans rfl rfl
theorem x_X4_cover_v45 {pc : Nat} {L S : List Value} {μ : am_M} {nx : am_K} {jp : am_J} {Q : am_Q} {a0 : Int32} {a1 : Int32} : am_st E_X4_cover pc (.invokestatic 45) L (.int a1 :: .int a0 :: S) μ nx jp Q = (am_csum S ≤ 8 ∧ f_X4_isWithin a0 a1 μ (fun r μ' => nx L (r.toList ++ S) μ')) := Eq.trans rfl rfl
theorem x_X4_cover_v154 {pc : Nat} {L S : List Value} {μ : am_M} {nx : am_K} {jp : am_J} {Q : am_Q} {a0 : Int32} : am_st E_X4_cover pc (.invokestatic 154) L (.int a0 :: S) μ nx jp Q = (am_csum S ≤ 8 ∧ f_J6_bitCount a0 μ (fun r μ' => nx L (r.toList ++ S) μ')) := Eq.trans rfl rfl
def rm_X4_cover : Room := { frames := 2, cells := 0, slots := 0, locals := 43 }
theorem eo_X4_cover : am_EO "CarpetLane" rm_X4_cover E_X4_cover := ⟨(List.forall_mem_cons.mpr ⟨Or.inl ⟨_, rfl, by decide, am_in 207 (by decide +kernel) (by decide +kernel), by decide⟩, (List.forall_mem_cons.mpr ⟨Or.inl ⟨_, rfl, by decide, am_in 136 (by decide +kernel) (by decide +kernel), by decide⟩, (fun _ h => absurd h List.not_mem_nil)⟩)⟩), (List.forall_mem_cons.mpr ⟨am_in 237 (by decide +kernel) (by decide +kernel), (List.forall_mem_cons.mpr ⟨am_in 447 (by decide +kernel) (by decide +kernel), (fun _ h => absurd h List.not_mem_nil)⟩)⟩), (fun _ h => absurd h List.not_mem_nil), (List.forall_mem_cons.mpr ⟨am_mkV ok_X4_found wv_X4_found (am_in 238 (by decide +kernel) (by decide +kernel)) ⟨rfl, rfl, by decide, by decide⟩, (List.forall_mem_cons.mpr ⟨am_mkV ok_X1_marksOn wv_X1_marksOn (am_in 402 (by decide +kernel) (by decide +kernel)) ⟨rfl, rfl, by decide, by decide⟩, (fun _ h => absurd h List.not_mem_nil)⟩)⟩), (List.forall_mem_cons.mpr ⟨am_mkS ok_X4_isWithin wv_X4_isWithin (Or.inl (am_in 234 (by decide +kernel) (by decide +kernel))) ⟨rfl, rfl, by decide, by decide⟩, (List.forall_mem_cons.mpr ⟨am_mkS ok_J6_bitCount wv_J6_bitCount (Or.inl (am_in 484 (by decide +kernel) (by decide +kernel))) ⟨rfl, rfl, by decide, by decide⟩, (fun _ h => absurd h List.not_mem_nil)⟩)⟩), (fun _ h => absurd h List.not_mem_nil)⟩
theorem wv_X4_cover : am_WV (⟨"CarpetLane", "cover", "(I)I"⟩ : MethodName) prog_1_method_23_code 5 (some .int) 1 4 := ⟨am_in 59 (by decide +kernel) (by decide +kernel), am_in 496 (by decide +kernel) (by decide +kernel), by decide +kernel, rfl, by decide, am_in 494 (by decide +kernel) (by decide +kernel), am_in 495 (by decide +kernel) (by decide +kernel)⟩
theorem bd_X4_cover (k : Nat) (m : Int32) (μ : am_M) (Q : am_Q) (At : am_J) (hA : am_ok E_X4_cover cd_X4_cover Q At) (h : f_X4_cover k m μ Q) : At 0 (am_en [.ref k, .int m] 5) [] μ := by
  obtain ⟨rfl, s, hR, hI, h⟩ := h; have hW := Iv_w hI; have n8 := hW.1.1; have hsz : μ.1 1 3 = s.1 1 := hR.1.2.1
  rw [hW.1.2] at hsz
  unfold p_cover at h
  have p256 := p2_le n8
  have A21 : wthn m 4095 → ∀ (u i : Nat) (z : Int32) (d : Value), i + u = 2 ^ sn s → z = cvS s m i → At 21 [.ref 0, .int m, .int z, .int (nI i), d] [] μ := by
    intro q u
    rw [if_pos (wi_t q)] at h
    induction u with
    | zero =>
      intro i z d hi hz
      have : i = 2 ^ sn s := by omega
      rw [this] at hz ⊢
      refine hA [21, 54] 60 21 _ _ _ ?_
      simp only [s_aload_0, s_iload_0, s_lload_0, s_istore_0, s_lstore_0, s_astore_0, s_aload_1, s_iload_1, s_lload_1, s_istore_1, s_lstore_1, s_astore_1, s_aload_2, s_iload_2, s_lload_2, s_istore_2, s_lstore_2, s_astore_2, s_aload_3, s_iload_3, s_lload_3, s_istore_3, s_lstore_3, s_astore_3, s_aload, s_iload, s_lload, s_istore, s_lstore, s_astore, s_iconst, s_bipush, s_sipush, s_lconst_0, s_lconst_1, s_iinc, s_iadd, s_isub, s_imul, s_iand, s_ior, s_ixor, s_ishl, s_ishr, s_iushr, s_idiv, s_irem, s_ladd, s_lsub, s_lmul, s_ldiv, s_lrem, s_lcmp, s_i2l, s_l2i, s_i2b, s_i2s, s_i2c, s_dupI, s_dupR, s_dup2IR, s_dupx1, s_popI, s_if_eq, s_if_ne, s_if_lt, s_if_ge, s_if_gt, s_if_le, s_cmp_eq, s_cmp_ne, s_cmp_lt, s_cmp_ge, s_cmp_gt, s_cmp_le, s_goto, s_tsw, s_iaload, s_baload, s_caload, s_aaload, s_iastore, s_bastore, s_alen, s_ireturn, s_lreturn, s_return, am_lI_0, am_lI_S, am_lL_0, am_lL_S, am_lR_0, am_lR_S, am_sto_0, am_sto_1I, am_sto_1R, am_sto_1N, am_sto_1L, am_sto_S, am_stL_d, am_blk_0, am_blk_1, am_ln_aload_n, am_ln_iload_n, am_ln_lload_n, am_ln_istore_n, am_ln_lstore_n, am_ln_astore_n, am_ln_iconst, am_ln_lconst, am_ln_iadd, am_ln_isub, am_ln_imul, am_ln_idiv, am_ln_irem, am_ln_iand, am_ln_ior, am_ln_ixor, am_ln_ishl, am_ln_ishr, am_ln_iushr, am_ln_ladd, am_ln_lsub, am_ln_lmul, am_ln_ldiv, am_ln_lrem, am_ln_lcmp, am_ln_i2l, am_ln_l2i, am_ln_i2b, am_ln_i2s, am_ln_i2c, am_ln_dup, am_ln_dup2, am_ln_dup_x1, am_ln_pop, am_ln_iaload, am_ln_iastore, am_ln_baload, am_ln_bastore, am_ln_caload, am_ln_aaload, am_ln_arraylength, am_ln_ireturn, am_ln_lreturn, am_ln_return_, am_ln_aload, am_ln_iload, am_ln_lload, am_ln_istore, am_ln_lstore, am_ln_astore, am_ln_bipush, am_ln_ldc, am_ln_sipush, am_ln_ldc_w, am_ln_ldc2_w, am_ln_iinc, am_ln_ifCond, am_ln_if_icmp, am_ln_goto, am_ln_getfield, am_ln_putfield, am_ln_getstatic, am_ln_invokevirtual, am_ln_invokestatic, am_csum_0, am_csum_I, am_csum_R, am_csum_L, k_im16, k_im8, k_im4, k_im2, k_im1, k_i0, k_i1, k_i2, k_i3, k_i4, k_i5, k_i6, k_i7, k_i8, k_i9, k_i10, k_i11, k_i12, k_i13, k_i14, k_i15, k_i16, k_i17, k_i18, k_i19, k_i20, k_i21, k_i22, k_i23, k_i24, k_i25, k_i26, k_i27, k_i28, k_i29, k_i30, k_i31, k_i32, k_i33, k_i34, k_i35, k_i36, k_i37, k_i38, k_i39, k_i40, k_i41, k_b6, k_b7, k_b8, k_b9, k_b10, k_b11, k_b12, k_b13, k_b14, k_b15, k_b16, k_b17, k_b18, k_b19, k_b20, k_b21, k_b22, k_b23, k_b24, k_b25, k_b26, k_b27, k_b28, k_b29, k_b30, k_b31, k_b32, k_b33, k_b34, k_b35, k_b36, k_b37, k_b38, k_b39, k_b40, k_b41, k_b42, k_b43, k_b44, k_b45, k_b46, k_b47, k_b48, k_b49, k_b50, k_b51, k_b52, k_b53, k_b54, k_b55, k_b56, k_b57, k_b58, k_b59, k_b60, k_b61, k_b62, k_b63, k_b66, k_b76, k_b97, k_b98, k_b99, k_b100, k_b101, k_b102, k_b103, k_b104, k_b105, k_b107, k_b108, k_b109, k_b110, k_b112, k_b114, k_b115, k_b116, k_b117, k_b120, k_b121, k_b122, k_s160, k_s200, k_s255, k_s256, k_s999, k_s2048, k_s4095, k_s9999, k_s10000, k_s12345, k_narI, k_narZ0, k_narZ1, k_ffalse, k_ts0, k_ts1, k_tw0, k_tw1, k_rt, k_rn, Nat.reduceAdd, Nat.zero_add, Nat.reduceLeDiff, Nat.reduceLT, Int.reduceAdd, Int.zero_add, true_and, and_true, List.set_cons_zero, List.set_cons_succ, eq_self, k_n2, k_n3, k_n4, k_n5, k_n6, k_n7, k_n8, k_n9, k_n10, k_n12, k_nn, true_or, or_true, false_or, or_false, k_z10, not_false_eq_true, not_true_eq_false, true_imp_iff, false_imp_iff, n_X4_cover, r_X4_cover, g_X4_cover_0, b_X4_cover_0, bk_X4_cover_0, g_X4_cover_17, bk_X4_cover_17, g_X4_cover_21, b_X4_cover_21, bk_X4_cover_21, g_X4_cover_49, bk_X4_cover_49, g_X4_cover_53, bk_X4_cover_53, g_X4_cover_54, b_X4_cover_54, bk_X4_cover_54, g_X4_cover_77, bk_X4_cover_77, g_X4_cover_83, bk_X4_cover_83, g_X4_cover_96, bk_X4_cover_96, g_X4_cover_97, bk_X4_cover_97, t_X4_cover_7_17, t_X4_cover_31_83, t_X4_cover_35_49, t_X4_cover_46_53, t_X4_cover_50_54, t_X4_cover_58_77, t_X4_cover_72_77, t_X4_cover_80_21, t_X4_cover_84_96, t_X4_cover_93_97, x_X4_cover_g12, x_X4_cover_g115, x_X4_cover_c49, x_X4_cover_c150, x_X4_cover_v50, x_X4_cover_v128, x_X4_cover_v45, x_X4_cover_v154, f_X4_isWithin, f_X4_found, f_X1_isThere, q00, q01, q02, s1, s2, s3, r3, r14, r15, r16, s12, s13, r134, r135, s14, s15, r15a, hsz, sh1 n8]
      refine ⟨fun _ => ⟨fun z2 => ?_, fun z2 => ?_⟩, fun z => absurd (nI_le (Nat.le_refl _) (by omega)) z⟩
      · rw [← hz, if_neg (Int32.not_lt.mpr z2)] at h
        exact h μ hR (FrX_rf μ)
      · rw [← hz, if_pos (Int32.not_le.mp z2)] at h
        exact oX_g h (by omega) hR (FrX_rf μ) (by decide)
    | succ u ih =>
      intro i z d hi hz
      have A54 : ∀ x : Int32, ((x = 1 ∧ (z < 0 ∨ bc (nI i) < bc z)) ∨ (x = 0 ∧ ¬ (z < 0 ∨ bc (nI i) < bc z))) → At 54 [.ref 0, .int m, .int z, .int (nI i), d] [.int x] μ := by
        intro x hx
        refine hA [21, 54] 60 54 _ _ _ ?_
        simp only [s_aload_0, s_iload_0, s_lload_0, s_istore_0, s_lstore_0, s_astore_0, s_aload_1, s_iload_1, s_lload_1, s_istore_1, s_lstore_1, s_astore_1, s_aload_2, s_iload_2, s_lload_2, s_istore_2, s_lstore_2, s_astore_2, s_aload_3, s_iload_3, s_lload_3, s_istore_3, s_lstore_3, s_astore_3, s_aload, s_iload, s_lload, s_istore, s_lstore, s_astore, s_iconst, s_bipush, s_sipush, s_lconst_0, s_lconst_1, s_iinc, s_iadd, s_isub, s_imul, s_iand, s_ior, s_ixor, s_ishl, s_ishr, s_iushr, s_idiv, s_irem, s_ladd, s_lsub, s_lmul, s_ldiv, s_lrem, s_lcmp, s_i2l, s_l2i, s_i2b, s_i2s, s_i2c, s_dupI, s_dupR, s_dup2IR, s_dupx1, s_popI, s_if_eq, s_if_ne, s_if_lt, s_if_ge, s_if_gt, s_if_le, s_cmp_eq, s_cmp_ne, s_cmp_lt, s_cmp_ge, s_cmp_gt, s_cmp_le, s_goto, s_tsw, s_iaload, s_baload, s_caload, s_aaload, s_iastore, s_bastore, s_alen, s_ireturn, s_lreturn, s_return, am_lI_0, am_lI_S, am_lL_0, am_lL_S, am_lR_0, am_lR_S, am_sto_0, am_sto_1I, am_sto_1R, am_sto_1N, am_sto_1L, am_sto_S, am_stL_d, am_blk_0, am_blk_1, am_ln_aload_n, am_ln_iload_n, am_ln_lload_n, am_ln_istore_n, am_ln_lstore_n, am_ln_astore_n, am_ln_iconst, am_ln_lconst, am_ln_iadd, am_ln_isub, am_ln_imul, am_ln_idiv, am_ln_irem, am_ln_iand, am_ln_ior, am_ln_ixor, am_ln_ishl, am_ln_ishr, am_ln_iushr, am_ln_ladd, am_ln_lsub, am_ln_lmul, am_ln_ldiv, am_ln_lrem, am_ln_lcmp, am_ln_i2l, am_ln_l2i, am_ln_i2b, am_ln_i2s, am_ln_i2c, am_ln_dup, am_ln_dup2, am_ln_dup_x1, am_ln_pop, am_ln_iaload, am_ln_iastore, am_ln_baload, am_ln_bastore, am_ln_caload, am_ln_aaload, am_ln_arraylength, am_ln_ireturn, am_ln_lreturn, am_ln_return_, am_ln_aload, am_ln_iload, am_ln_lload, am_ln_istore, am_ln_lstore, am_ln_astore, am_ln_bipush, am_ln_ldc, am_ln_sipush, am_ln_ldc_w, am_ln_ldc2_w, am_ln_iinc, am_ln_ifCond, am_ln_if_icmp, am_ln_goto, am_ln_getfield, am_ln_putfield, am_ln_getstatic, am_ln_invokevirtual, am_ln_invokestatic, am_csum_0, am_csum_I, am_csum_R, am_csum_L, k_im16, k_im8, k_im4, k_im2, k_im1, k_i0, k_i1, k_i2, k_i3, k_i4, k_i5, k_i6, k_i7, k_i8, k_i9, k_i10, k_i11, k_i12, k_i13, k_i14, k_i15, k_i16, k_i17, k_i18, k_i19, k_i20, k_i21, k_i22, k_i23, k_i24, k_i25, k_i26, k_i27, k_i28, k_i29, k_i30, k_i31, k_i32, k_i33, k_i34, k_i35, k_i36, k_i37, k_i38, k_i39, k_i40, k_i41, k_b6, k_b7, k_b8, k_b9, k_b10, k_b11, k_b12, k_b13, k_b14, k_b15, k_b16, k_b17, k_b18, k_b19, k_b20, k_b21, k_b22, k_b23, k_b24, k_b25, k_b26, k_b27, k_b28, k_b29, k_b30, k_b31, k_b32, k_b33, k_b34, k_b35, k_b36, k_b37, k_b38, k_b39, k_b40, k_b41, k_b42, k_b43, k_b44, k_b45, k_b46, k_b47, k_b48, k_b49, k_b50, k_b51, k_b52, k_b53, k_b54, k_b55, k_b56, k_b57, k_b58, k_b59, k_b60, k_b61, k_b62, k_b63, k_b66, k_b76, k_b97, k_b98, k_b99, k_b100, k_b101, k_b102, k_b103, k_b104, k_b105, k_b107, k_b108, k_b109, k_b110, k_b112, k_b114, k_b115, k_b116, k_b117, k_b120, k_b121, k_b122, k_s160, k_s200, k_s255, k_s256, k_s999, k_s2048, k_s4095, k_s9999, k_s10000, k_s12345, k_narI, k_narZ0, k_narZ1, k_ffalse, k_ts0, k_ts1, k_tw0, k_tw1, k_rt, k_rn, Nat.reduceAdd, Nat.zero_add, Nat.reduceLeDiff, Nat.reduceLT, Int.reduceAdd, Int.zero_add, true_and, and_true, List.set_cons_zero, List.set_cons_succ, eq_self, k_n2, k_n3, k_n4, k_n5, k_n6, k_n7, k_n8, k_n9, k_n10, k_n12, k_nn, true_or, or_true, false_or, or_false, k_z10, not_false_eq_true, not_true_eq_false, true_imp_iff, false_imp_iff, n_X4_cover, r_X4_cover, g_X4_cover_0, b_X4_cover_0, bk_X4_cover_0, g_X4_cover_17, bk_X4_cover_17, g_X4_cover_21, b_X4_cover_21, bk_X4_cover_21, g_X4_cover_49, bk_X4_cover_49, g_X4_cover_53, bk_X4_cover_53, g_X4_cover_54, b_X4_cover_54, bk_X4_cover_54, g_X4_cover_77, bk_X4_cover_77, g_X4_cover_83, bk_X4_cover_83, g_X4_cover_96, bk_X4_cover_96, g_X4_cover_97, bk_X4_cover_97, t_X4_cover_7_17, t_X4_cover_31_83, t_X4_cover_35_49, t_X4_cover_46_53, t_X4_cover_50_54, t_X4_cover_58_77, t_X4_cover_72_77, t_X4_cover_80_21, t_X4_cover_84_96, t_X4_cover_93_97, x_X4_cover_g12, x_X4_cover_g115, x_X4_cover_c49, x_X4_cover_c150, x_X4_cover_v50, x_X4_cover_v128, x_X4_cover_v45, x_X4_cover_v154, f_X4_isWithin, f_X4_found, f_X1_isThere, q00, q01, q02, s1, s2, s3, r3, r14, r15, r16, s12, s13, r134, r135, s14, s15, r15a, f_X1_marksOn, nI_1]
        refine ⟨fun z2 => ih (i + 1) z _ (by omega) ?_, fun z2 => ⟨LB1, s, hR, hW, fun z3 => ih (i + 1) z _ (by omega) ?_, fun z3 => ih (i + 1) (nI i) _ (by omega) ?_⟩⟩
        · rcases hx with ⟨rfl, hx⟩ | ⟨-, hx⟩
          · exact absurd z2 (by decide)
          · conv => rhs; unfold cvS
            have : ¬ cvT s m (cvS s m i) i = true := by
              unfold cvT
              rw [← hz]
              simp only [Bool.and_eq_true, Bool.or_eq_true, decide_eq_true_iff]
              exact fun y => hx y.1
            rw [if_neg this, hz]
        · conv => rhs; unfold cvS
          have : ¬ cvT s m (cvS s m i) i = true := by
            unfold cvT
            rw [← hz]
            simp only [Bool.and_eq_true, Bool.or_eq_true, decide_eq_true_iff]
            exact fun y => z3 y.2
          rw [if_neg this, hz]
        · rcases hx with ⟨-, hx⟩ | ⟨rfl, hx⟩
          · conv => rhs; unfold cvS
            have : cvT s m (cvS s m i) i = true := by
              unfold cvT
              rw [← hz]
              simp only [Bool.and_eq_true, Bool.or_eq_true, decide_eq_true_iff]
              exact ⟨hx, z3⟩
            rw [if_pos this]
          · exact absurd rfl z2
      refine hA [21, 54] 60 21 _ _ _ ?_
      simp only [s_aload_0, s_iload_0, s_lload_0, s_istore_0, s_lstore_0, s_astore_0, s_aload_1, s_iload_1, s_lload_1, s_istore_1, s_lstore_1, s_astore_1, s_aload_2, s_iload_2, s_lload_2, s_istore_2, s_lstore_2, s_astore_2, s_aload_3, s_iload_3, s_lload_3, s_istore_3, s_lstore_3, s_astore_3, s_aload, s_iload, s_lload, s_istore, s_lstore, s_astore, s_iconst, s_bipush, s_sipush, s_lconst_0, s_lconst_1, s_iinc, s_iadd, s_isub, s_imul, s_iand, s_ior, s_ixor, s_ishl, s_ishr, s_iushr, s_idiv, s_irem, s_ladd, s_lsub, s_lmul, s_ldiv, s_lrem, s_lcmp, s_i2l, s_l2i, s_i2b, s_i2s, s_i2c, s_dupI, s_dupR, s_dup2IR, s_dupx1, s_popI, s_if_eq, s_if_ne, s_if_lt, s_if_ge, s_if_gt, s_if_le, s_cmp_eq, s_cmp_ne, s_cmp_lt, s_cmp_ge, s_cmp_gt, s_cmp_le, s_goto, s_tsw, s_iaload, s_baload, s_caload, s_aaload, s_iastore, s_bastore, s_alen, s_ireturn, s_lreturn, s_return, am_lI_0, am_lI_S, am_lL_0, am_lL_S, am_lR_0, am_lR_S, am_sto_0, am_sto_1I, am_sto_1R, am_sto_1N, am_sto_1L, am_sto_S, am_stL_d, am_blk_0, am_blk_1, am_ln_aload_n, am_ln_iload_n, am_ln_lload_n, am_ln_istore_n, am_ln_lstore_n, am_ln_astore_n, am_ln_iconst, am_ln_lconst, am_ln_iadd, am_ln_isub, am_ln_imul, am_ln_idiv, am_ln_irem, am_ln_iand, am_ln_ior, am_ln_ixor, am_ln_ishl, am_ln_ishr, am_ln_iushr, am_ln_ladd, am_ln_lsub, am_ln_lmul, am_ln_ldiv, am_ln_lrem, am_ln_lcmp, am_ln_i2l, am_ln_l2i, am_ln_i2b, am_ln_i2s, am_ln_i2c, am_ln_dup, am_ln_dup2, am_ln_dup_x1, am_ln_pop, am_ln_iaload, am_ln_iastore, am_ln_baload, am_ln_bastore, am_ln_caload, am_ln_aaload, am_ln_arraylength, am_ln_ireturn, am_ln_lreturn, am_ln_return_, am_ln_aload, am_ln_iload, am_ln_lload, am_ln_istore, am_ln_lstore, am_ln_astore, am_ln_bipush, am_ln_ldc, am_ln_sipush, am_ln_ldc_w, am_ln_ldc2_w, am_ln_iinc, am_ln_ifCond, am_ln_if_icmp, am_ln_goto, am_ln_getfield, am_ln_putfield, am_ln_getstatic, am_ln_invokevirtual, am_ln_invokestatic, am_csum_0, am_csum_I, am_csum_R, am_csum_L, k_im16, k_im8, k_im4, k_im2, k_im1, k_i0, k_i1, k_i2, k_i3, k_i4, k_i5, k_i6, k_i7, k_i8, k_i9, k_i10, k_i11, k_i12, k_i13, k_i14, k_i15, k_i16, k_i17, k_i18, k_i19, k_i20, k_i21, k_i22, k_i23, k_i24, k_i25, k_i26, k_i27, k_i28, k_i29, k_i30, k_i31, k_i32, k_i33, k_i34, k_i35, k_i36, k_i37, k_i38, k_i39, k_i40, k_i41, k_b6, k_b7, k_b8, k_b9, k_b10, k_b11, k_b12, k_b13, k_b14, k_b15, k_b16, k_b17, k_b18, k_b19, k_b20, k_b21, k_b22, k_b23, k_b24, k_b25, k_b26, k_b27, k_b28, k_b29, k_b30, k_b31, k_b32, k_b33, k_b34, k_b35, k_b36, k_b37, k_b38, k_b39, k_b40, k_b41, k_b42, k_b43, k_b44, k_b45, k_b46, k_b47, k_b48, k_b49, k_b50, k_b51, k_b52, k_b53, k_b54, k_b55, k_b56, k_b57, k_b58, k_b59, k_b60, k_b61, k_b62, k_b63, k_b66, k_b76, k_b97, k_b98, k_b99, k_b100, k_b101, k_b102, k_b103, k_b104, k_b105, k_b107, k_b108, k_b109, k_b110, k_b112, k_b114, k_b115, k_b116, k_b117, k_b120, k_b121, k_b122, k_s160, k_s200, k_s255, k_s256, k_s999, k_s2048, k_s4095, k_s9999, k_s10000, k_s12345, k_narI, k_narZ0, k_narZ1, k_ffalse, k_ts0, k_ts1, k_tw0, k_tw1, k_rt, k_rn, Nat.reduceAdd, Nat.zero_add, Nat.reduceLeDiff, Nat.reduceLT, Int.reduceAdd, Int.zero_add, true_and, and_true, List.set_cons_zero, List.set_cons_succ, eq_self, k_n2, k_n3, k_n4, k_n5, k_n6, k_n7, k_n8, k_n9, k_n10, k_n12, k_nn, true_or, or_true, false_or, or_false, k_z10, not_false_eq_true, not_true_eq_false, true_imp_iff, false_imp_iff, n_X4_cover, r_X4_cover, g_X4_cover_0, b_X4_cover_0, bk_X4_cover_0, g_X4_cover_17, bk_X4_cover_17, g_X4_cover_21, b_X4_cover_21, bk_X4_cover_21, g_X4_cover_49, bk_X4_cover_49, g_X4_cover_53, bk_X4_cover_53, g_X4_cover_54, b_X4_cover_54, bk_X4_cover_54, g_X4_cover_77, bk_X4_cover_77, g_X4_cover_83, bk_X4_cover_83, g_X4_cover_96, bk_X4_cover_96, g_X4_cover_97, bk_X4_cover_97, t_X4_cover_7_17, t_X4_cover_31_83, t_X4_cover_35_49, t_X4_cover_46_53, t_X4_cover_50_54, t_X4_cover_58_77, t_X4_cover_72_77, t_X4_cover_80_21, t_X4_cover_84_96, t_X4_cover_93_97, x_X4_cover_g12, x_X4_cover_g115, x_X4_cover_c49, x_X4_cover_c150, x_X4_cover_v50, x_X4_cover_v128, x_X4_cover_v45, x_X4_cover_v154, f_X4_isWithin, f_X4_found, f_X1_isThere, q00, q01, q02, s1, s2, s3, r3, r14, r15, r16, s12, s13, r134, r135, s14, s15, r15a, hsz, sh1 n8, f_J6_bitCount]
      refine ⟨fun z => absurd z (nI_ge (by omega) (by omega)), fun _ => ⟨fun z2 => A54 1 (Or.inl ⟨rfl, Or.inl z2⟩), fun z2 => ⟨fun z3 => A54 0 (Or.inr ⟨rfl, fun y => y.elim z2 (Int32.not_lt.mpr z3)⟩), fun z3 => A54 1 (Or.inl ⟨rfl, Or.inr (Int32.not_le.mp z3)⟩)⟩⟩⟩
  refine hA [21, 54] 60 0 _ _ _ ?_; show am_blk _ _ _ _ _ [_, _, .null, .null, .null] _ _
  simp only [s_aload_0, s_iload_0, s_lload_0, s_istore_0, s_lstore_0, s_astore_0, s_aload_1, s_iload_1, s_lload_1, s_istore_1, s_lstore_1, s_astore_1, s_aload_2, s_iload_2, s_lload_2, s_istore_2, s_lstore_2, s_astore_2, s_aload_3, s_iload_3, s_lload_3, s_istore_3, s_lstore_3, s_astore_3, s_aload, s_iload, s_lload, s_istore, s_lstore, s_astore, s_iconst, s_bipush, s_sipush, s_lconst_0, s_lconst_1, s_iinc, s_iadd, s_isub, s_imul, s_iand, s_ior, s_ixor, s_ishl, s_ishr, s_iushr, s_idiv, s_irem, s_ladd, s_lsub, s_lmul, s_ldiv, s_lrem, s_lcmp, s_i2l, s_l2i, s_i2b, s_i2s, s_i2c, s_dupI, s_dupR, s_dup2IR, s_dupx1, s_popI, s_if_eq, s_if_ne, s_if_lt, s_if_ge, s_if_gt, s_if_le, s_cmp_eq, s_cmp_ne, s_cmp_lt, s_cmp_ge, s_cmp_gt, s_cmp_le, s_goto, s_tsw, s_iaload, s_baload, s_caload, s_aaload, s_iastore, s_bastore, s_alen, s_ireturn, s_lreturn, s_return, am_lI_0, am_lI_S, am_lL_0, am_lL_S, am_lR_0, am_lR_S, am_sto_0, am_sto_1I, am_sto_1R, am_sto_1N, am_sto_1L, am_sto_S, am_stL_d, am_blk_0, am_blk_1, am_ln_aload_n, am_ln_iload_n, am_ln_lload_n, am_ln_istore_n, am_ln_lstore_n, am_ln_astore_n, am_ln_iconst, am_ln_lconst, am_ln_iadd, am_ln_isub, am_ln_imul, am_ln_idiv, am_ln_irem, am_ln_iand, am_ln_ior, am_ln_ixor, am_ln_ishl, am_ln_ishr, am_ln_iushr, am_ln_ladd, am_ln_lsub, am_ln_lmul, am_ln_ldiv, am_ln_lrem, am_ln_lcmp, am_ln_i2l, am_ln_l2i, am_ln_i2b, am_ln_i2s, am_ln_i2c, am_ln_dup, am_ln_dup2, am_ln_dup_x1, am_ln_pop, am_ln_iaload, am_ln_iastore, am_ln_baload, am_ln_bastore, am_ln_caload, am_ln_aaload, am_ln_arraylength, am_ln_ireturn, am_ln_lreturn, am_ln_return_, am_ln_aload, am_ln_iload, am_ln_lload, am_ln_istore, am_ln_lstore, am_ln_astore, am_ln_bipush, am_ln_ldc, am_ln_sipush, am_ln_ldc_w, am_ln_ldc2_w, am_ln_iinc, am_ln_ifCond, am_ln_if_icmp, am_ln_goto, am_ln_getfield, am_ln_putfield, am_ln_getstatic, am_ln_invokevirtual, am_ln_invokestatic, am_csum_0, am_csum_I, am_csum_R, am_csum_L, k_im16, k_im8, k_im4, k_im2, k_im1, k_i0, k_i1, k_i2, k_i3, k_i4, k_i5, k_i6, k_i7, k_i8, k_i9, k_i10, k_i11, k_i12, k_i13, k_i14, k_i15, k_i16, k_i17, k_i18, k_i19, k_i20, k_i21, k_i22, k_i23, k_i24, k_i25, k_i26, k_i27, k_i28, k_i29, k_i30, k_i31, k_i32, k_i33, k_i34, k_i35, k_i36, k_i37, k_i38, k_i39, k_i40, k_i41, k_b6, k_b7, k_b8, k_b9, k_b10, k_b11, k_b12, k_b13, k_b14, k_b15, k_b16, k_b17, k_b18, k_b19, k_b20, k_b21, k_b22, k_b23, k_b24, k_b25, k_b26, k_b27, k_b28, k_b29, k_b30, k_b31, k_b32, k_b33, k_b34, k_b35, k_b36, k_b37, k_b38, k_b39, k_b40, k_b41, k_b42, k_b43, k_b44, k_b45, k_b46, k_b47, k_b48, k_b49, k_b50, k_b51, k_b52, k_b53, k_b54, k_b55, k_b56, k_b57, k_b58, k_b59, k_b60, k_b61, k_b62, k_b63, k_b66, k_b76, k_b97, k_b98, k_b99, k_b100, k_b101, k_b102, k_b103, k_b104, k_b105, k_b107, k_b108, k_b109, k_b110, k_b112, k_b114, k_b115, k_b116, k_b117, k_b120, k_b121, k_b122, k_s160, k_s200, k_s255, k_s256, k_s999, k_s2048, k_s4095, k_s9999, k_s10000, k_s12345, k_narI, k_narZ0, k_narZ1, k_ffalse, k_ts0, k_ts1, k_tw0, k_tw1, k_rt, k_rn, Nat.reduceAdd, Nat.zero_add, Nat.reduceLeDiff, Nat.reduceLT, Int.reduceAdd, Int.zero_add, true_and, and_true, List.set_cons_zero, List.set_cons_succ, eq_self, k_n2, k_n3, k_n4, k_n5, k_n6, k_n7, k_n8, k_n9, k_n10, k_n12, k_nn, true_or, or_true, false_or, or_false, k_z10, not_false_eq_true, not_true_eq_false, true_imp_iff, false_imp_iff, n_X4_cover, r_X4_cover, g_X4_cover_0, b_X4_cover_0, bk_X4_cover_0, g_X4_cover_17, bk_X4_cover_17, g_X4_cover_21, b_X4_cover_21, bk_X4_cover_21, g_X4_cover_49, bk_X4_cover_49, g_X4_cover_53, bk_X4_cover_53, g_X4_cover_54, b_X4_cover_54, bk_X4_cover_54, g_X4_cover_77, bk_X4_cover_77, g_X4_cover_83, bk_X4_cover_83, g_X4_cover_96, bk_X4_cover_96, g_X4_cover_97, bk_X4_cover_97, t_X4_cover_7_17, t_X4_cover_31_83, t_X4_cover_35_49, t_X4_cover_46_53, t_X4_cover_50_54, t_X4_cover_58_77, t_X4_cover_72_77, t_X4_cover_80_21, t_X4_cover_84_96, t_X4_cover_93_97, x_X4_cover_g12, x_X4_cover_g115, x_X4_cover_c49, x_X4_cover_c150, x_X4_cover_v50, x_X4_cover_v128, x_X4_cover_v45, x_X4_cover_v154, f_X4_isWithin, f_X4_found, f_X1_isThere, q00, q01, q02, s1, s2, s3, r3, r14, r15, r16, s12, s13, r134, r135, s14, s15, r15a]
  refine ⟨fun q => A21 q (2 ^ sn s) 0 (-1) _ (by omega) rfl, fun q => ?_⟩
  rw [wi_f q, if_neg (by decide)] at h
  exact oX_g h (by omega) hR (FrX_rf μ) (by decide)
theorem ok_X4_cover : am_OK (⟨"CarpetLane", "cover", "(I)I"⟩ : MethodName) prog_1_method_23_code 5 (some .int) rm_X4_cover sp_X4_cover := am_mok (cd := cd_X4_cover) E_X4_cover (by decide +kernel) rfl eo_X4_cover (by decide +kernel) (by decide +kernel) (q_RI_h (by decide)) (q_RI_b bd_X4_cover)
def f_X4_hasMarkIfClosed (k : Nat) (t c m n : Int32) (μ : am_M) (Q : am_Q) : Prop := k = 0 ∧ ∃ s c' n', Rp 1 μ s ∧ Iw s ∧ c' < sn s ∧ c = nI c' ∧ n' < 1000 ∧ n = nI n' ∧ ∀ μ', Fr 13 μ μ' → (mk ((dys (cla s t (sn s)) n').2.2.1 c' 3) m → Q (some (.int 1)) μ') ∧ (¬ mk ((dys (cla s t (sn s)) n').2.2.1 c' 3) m → Q (some (.int 0)) μ')
def sp_X4_hasMarkIfClosed : am_Sp := q_RIIII f_X4_hasMarkIfClosed
def bk_X4_hasMarkIfClosed_0 : List Instr := [.aload_n 0, .getfield 16, .aload_n 0, .getfield 12, .invokevirtual 138, .aload_n 0, .getfield 16, .iload_n 1, .invokevirtual 256, .aload_n 0, .getfield 16, .iload 4, .invokevirtual 121, .aload_n 0, .getfield 16, .getfield 77, .iload_n 2, .aaload, .iload_n 3, .invokevirtual 118, .ireturn]
def cd_X4_hasMarkIfClosed : am_cd := [(0, bk_X4_hasMarkIfClosed_0)]
def E_X4_hasMarkIfClosed : am_E := (5, .boolean, [(16, 4, 1), (12, 4, 0), (77, 1, 5)], [], [], [(138, 1, 1, sp_X1_become), (256, 1, 1, sp_X1_closeAll), (121, 1, 1, sp_X1_passDays), (118, 0, 1, sp_X0_hasMark)], [], [])
theorem n_X4_hasMarkIfClosed : am_nL E_X4_hasMarkIfClosed = 5 := Eq.trans rfl rfl
theorem r_X4_hasMarkIfClosed : am_rt E_X4_hasMarkIfClosed = .boolean := Eq.trans rfl rfl
theorem g_X4_hasMarkIfClosed_0 {At : am_J} {Q : am_Q} {n : Nat} {L S : List Value} {μ : am_M} : am_go E_X4_hasMarkIfClosed cd_X4_hasMarkIfClosed [] At Q (n + 1) 0 L S μ = am_blk E_X4_hasMarkIfClosed (am_go E_X4_hasMarkIfClosed cd_X4_hasMarkIfClosed [] At Q n) Q bk_X4_hasMarkIfClosed_0 0 L S μ := Eq.trans rfl rfl
theorem b_X4_hasMarkIfClosed_0 {gt : am_J} {Q : am_Q} {L S : List Value} {μ : am_M} : am_blk E_X4_hasMarkIfClosed gt Q (am_lk [] cd_X4_hasMarkIfClosed 0) 0 L S μ = am_blk E_X4_hasMarkIfClosed gt Q bk_X4_hasMarkIfClosed_0 0 L S μ := Eq.trans rfl rfl
theorem x_X4_hasMarkIfClosed_g16 {pc : Nat} {L S : List Value} {μ : am_M} {nx : am_K} {jp : am_J} {Q : am_Q} {k : Nat} : am_st E_X4_hasMarkIfClosed pc (.getfield 16) L (.ref k :: S) μ nx jp Q = (am_sh k = (4, 0) ∧ nx L (.ref (am_rf k 1) :: S) μ) := Eq.trans rfl rfl
theorem x_X4_hasMarkIfClosed_g12 {pc : Nat} {L S : List Value} {μ : am_M} {nx : am_K} {jp : am_J} {Q : am_Q} {k : Nat} : am_st E_X4_hasMarkIfClosed pc (.getfield 12) L (.ref k :: S) μ nx jp Q = (am_sh k = (4, 0) ∧ nx L (.ref (am_rf k 0) :: S) μ) := Eq.trans rfl rfl
theorem x_X4_hasMarkIfClosed_g77 {pc : Nat} {L S : List Value} {μ : am_M} {nx : am_K} {jp : am_J} {Q : am_Q} {k : Nat} : am_st E_X4_hasMarkIfClosed pc (.getfield 77) L (.ref k :: S) μ nx jp Q = (am_sh k = (1, 0) ∧ nx L (.ref (am_rf k 5) :: S) μ) := Eq.trans rfl rfl
theorem x_X4_hasMarkIfClosed_v138 {pc : Nat} {L S : List Value} {μ : am_M} {nx : am_K} {jp : am_J} {Q : am_Q} {k : Nat} {a0 : Nat} : am_st E_X4_hasMarkIfClosed pc (.invokevirtual 138) L (.ref a0 :: .ref k :: S) μ nx jp Q = (am_sh k = (1, 0) ∧ am_csum S ≤ 8 ∧ f_X1_become k a0 μ (fun r μ' => nx L (r.toList ++ S) μ')) := Eq.trans rfl rfl
theorem x_X4_hasMarkIfClosed_v256 {pc : Nat} {L S : List Value} {μ : am_M} {nx : am_K} {jp : am_J} {Q : am_Q} {k : Nat} {a0 : Int32} : am_st E_X4_hasMarkIfClosed pc (.invokevirtual 256) L (.int a0 :: .ref k :: S) μ nx jp Q = (am_sh k = (1, 0) ∧ am_csum S ≤ 8 ∧ f_X1_closeAll k a0 μ (fun r μ' => nx L (r.toList ++ S) μ')) := Eq.trans rfl rfl
theorem x_X4_hasMarkIfClosed_v121 {pc : Nat} {L S : List Value} {μ : am_M} {nx : am_K} {jp : am_J} {Q : am_Q} {k : Nat} {a0 : Int32} : am_st E_X4_hasMarkIfClosed pc (.invokevirtual 121) L (.int a0 :: .ref k :: S) μ nx jp Q = (am_sh k = (1, 0) ∧ am_csum S ≤ 8 ∧ f_X1_passDays k a0 μ (fun r μ' => nx L (r.toList ++ S) μ')) := Eq.trans rfl rfl
theorem x_X4_hasMarkIfClosed_v118 {pc : Nat} {L S : List Value} {μ : am_M} {nx : am_K} {jp : am_J} {Q : am_Q} {k : Nat} {a0 : Int32} : am_st E_X4_hasMarkIfClosed pc (.invokevirtual 118) L (.int a0 :: .ref k :: S) μ nx jp Q = (am_sh k = (0, 0) ∧ am_csum S ≤ 8 ∧ f_X0_hasMark k a0 μ (fun r μ' => nx L (r.toList ++ S) μ')) := Eq.trans rfl rfl
def rm_X4_hasMarkIfClosed : Room := { frames := 6, cells := 0, slots := 0, locals := 134 }
theorem eo_X4_hasMarkIfClosed : am_EO "CarpetLane" rm_X4_hasMarkIfClosed E_X4_hasMarkIfClosed := ⟨(List.forall_mem_cons.mpr ⟨Or.inl ⟨_, rfl, by decide, am_in 208 (by decide +kernel) (by decide +kernel), by decide⟩, (List.forall_mem_cons.mpr ⟨Or.inl ⟨_, rfl, by decide, am_in 207 (by decide +kernel) (by decide +kernel), by decide⟩, (List.forall_mem_cons.mpr ⟨Or.inl ⟨_, rfl, by decide, am_in 142 (by decide +kernel) (by decide +kernel), by decide⟩, (fun _ h => absurd h List.not_mem_nil)⟩)⟩)⟩), (fun _ h => absurd h List.not_mem_nil), (fun _ h => absurd h List.not_mem_nil), (List.forall_mem_cons.mpr ⟨am_mkV ok_X1_become wv_X1_become (am_in 418 (by decide +kernel) (by decide +kernel)) ⟨rfl, rfl, by decide, by decide⟩, (List.forall_mem_cons.mpr ⟨am_mkV ok_X1_closeAll wv_X1_closeAll (am_in 489 (by decide +kernel) (by decide +kernel)) ⟨rfl, rfl, by decide, by decide⟩, (List.forall_mem_cons.mpr ⟨am_mkV ok_X1_passDays wv_X1_passDays (am_in 376 (by decide +kernel) (by decide +kernel)) ⟨rfl, rfl, by decide, by decide⟩, (List.forall_mem_cons.mpr ⟨am_mkV ok_X0_hasMark wv_X0_hasMark (am_in 368 (by decide +kernel) (by decide +kernel)) ⟨rfl, rfl, by decide, by decide⟩, (fun _ h => absurd h List.not_mem_nil)⟩)⟩)⟩)⟩), (fun _ h => absurd h List.not_mem_nil), (fun _ h => absurd h List.not_mem_nil)⟩
theorem wv_X4_hasMarkIfClosed : am_WV (⟨"CarpetLane", "hasMarkIfClosed", "(IIII)Z"⟩ : MethodName) prog_1_method_53_code 5 (some .boolean) 4 4 := ⟨am_in 59 (by decide +kernel) (by decide +kernel), am_in 488 (by decide +kernel) (by decide +kernel), by decide +kernel, rfl, by decide, am_in 487 (by decide +kernel) (by decide +kernel), am_in 6 (by decide +kernel) (by decide +kernel)⟩
theorem bd_X4_hasMarkIfClosed (k : Nat) (t : Int32) (c : Int32) (m : Int32) (n : Int32) (μ : am_M) (Q : am_Q) (At : am_J) (hA : am_ok E_X4_hasMarkIfClosed cd_X4_hasMarkIfClosed Q At) (h : f_X4_hasMarkIfClosed k t c m n μ Q) : At 0 (am_en [.ref k, .int t, .int c, .int m, .int n] 5) [] μ := by
  obtain ⟨rfl, s, c', n', hR, hW, hc, rfl, hn, rfl, h⟩ := h
  have hc8 : c' < 8 := by have := hW.1.1; omega
  refine hA [] 60 0 _ _ _ ?_; show am_blk _ _ _ _ _ [_, _, _, _, _] _ _
  simp only [s_aload_0, s_iload_0, s_lload_0, s_istore_0, s_lstore_0, s_astore_0, s_aload_1, s_iload_1, s_lload_1, s_istore_1, s_lstore_1, s_astore_1, s_aload_2, s_iload_2, s_lload_2, s_istore_2, s_lstore_2, s_astore_2, s_aload_3, s_iload_3, s_lload_3, s_istore_3, s_lstore_3, s_astore_3, s_aload, s_iload, s_lload, s_istore, s_lstore, s_astore, s_iconst, s_bipush, s_sipush, s_lconst_0, s_lconst_1, s_iinc, s_iadd, s_isub, s_imul, s_iand, s_ior, s_ixor, s_ishl, s_ishr, s_iushr, s_idiv, s_irem, s_ladd, s_lsub, s_lmul, s_ldiv, s_lrem, s_lcmp, s_i2l, s_l2i, s_i2b, s_i2s, s_i2c, s_dupI, s_dupR, s_dup2IR, s_dupx1, s_popI, s_if_eq, s_if_ne, s_if_lt, s_if_ge, s_if_gt, s_if_le, s_cmp_eq, s_cmp_ne, s_cmp_lt, s_cmp_ge, s_cmp_gt, s_cmp_le, s_goto, s_tsw, s_iaload, s_baload, s_caload, s_aaload, s_iastore, s_bastore, s_alen, s_ireturn, s_lreturn, s_return, am_lI_0, am_lI_S, am_lL_0, am_lL_S, am_lR_0, am_lR_S, am_sto_0, am_sto_1I, am_sto_1R, am_sto_1N, am_sto_1L, am_sto_S, am_stL_d, am_blk_0, am_blk_1, am_ln_aload_n, am_ln_iload_n, am_ln_lload_n, am_ln_istore_n, am_ln_lstore_n, am_ln_astore_n, am_ln_iconst, am_ln_lconst, am_ln_iadd, am_ln_isub, am_ln_imul, am_ln_idiv, am_ln_irem, am_ln_iand, am_ln_ior, am_ln_ixor, am_ln_ishl, am_ln_ishr, am_ln_iushr, am_ln_ladd, am_ln_lsub, am_ln_lmul, am_ln_ldiv, am_ln_lrem, am_ln_lcmp, am_ln_i2l, am_ln_l2i, am_ln_i2b, am_ln_i2s, am_ln_i2c, am_ln_dup, am_ln_dup2, am_ln_dup_x1, am_ln_pop, am_ln_iaload, am_ln_iastore, am_ln_baload, am_ln_bastore, am_ln_caload, am_ln_aaload, am_ln_arraylength, am_ln_ireturn, am_ln_lreturn, am_ln_return_, am_ln_aload, am_ln_iload, am_ln_lload, am_ln_istore, am_ln_lstore, am_ln_astore, am_ln_bipush, am_ln_ldc, am_ln_sipush, am_ln_ldc_w, am_ln_ldc2_w, am_ln_iinc, am_ln_ifCond, am_ln_if_icmp, am_ln_goto, am_ln_getfield, am_ln_putfield, am_ln_getstatic, am_ln_invokevirtual, am_ln_invokestatic, am_csum_0, am_csum_I, am_csum_R, am_csum_L, k_im16, k_im8, k_im4, k_im2, k_im1, k_i0, k_i1, k_i2, k_i3, k_i4, k_i5, k_i6, k_i7, k_i8, k_i9, k_i10, k_i11, k_i12, k_i13, k_i14, k_i15, k_i16, k_i17, k_i18, k_i19, k_i20, k_i21, k_i22, k_i23, k_i24, k_i25, k_i26, k_i27, k_i28, k_i29, k_i30, k_i31, k_i32, k_i33, k_i34, k_i35, k_i36, k_i37, k_i38, k_i39, k_i40, k_i41, k_b6, k_b7, k_b8, k_b9, k_b10, k_b11, k_b12, k_b13, k_b14, k_b15, k_b16, k_b17, k_b18, k_b19, k_b20, k_b21, k_b22, k_b23, k_b24, k_b25, k_b26, k_b27, k_b28, k_b29, k_b30, k_b31, k_b32, k_b33, k_b34, k_b35, k_b36, k_b37, k_b38, k_b39, k_b40, k_b41, k_b42, k_b43, k_b44, k_b45, k_b46, k_b47, k_b48, k_b49, k_b50, k_b51, k_b52, k_b53, k_b54, k_b55, k_b56, k_b57, k_b58, k_b59, k_b60, k_b61, k_b62, k_b63, k_b66, k_b76, k_b97, k_b98, k_b99, k_b100, k_b101, k_b102, k_b103, k_b104, k_b105, k_b107, k_b108, k_b109, k_b110, k_b112, k_b114, k_b115, k_b116, k_b117, k_b120, k_b121, k_b122, k_s160, k_s200, k_s255, k_s256, k_s999, k_s2048, k_s4095, k_s9999, k_s10000, k_s12345, k_narI, k_narZ0, k_narZ1, k_ffalse, k_ts0, k_ts1, k_tw0, k_tw1, k_rt, k_rn, Nat.reduceAdd, Nat.zero_add, Nat.reduceLeDiff, Nat.reduceLT, Int.reduceAdd, Int.zero_add, true_and, and_true, List.set_cons_zero, List.set_cons_succ, eq_self, k_n2, k_n3, k_n4, k_n5, k_n6, k_n7, k_n8, k_n9, k_n10, k_n12, k_nn, true_or, or_true, false_or, or_false, k_z10, not_false_eq_true, not_true_eq_false, true_imp_iff, false_imp_iff, n_X4_hasMarkIfClosed, r_X4_hasMarkIfClosed, g_X4_hasMarkIfClosed_0, b_X4_hasMarkIfClosed_0, bk_X4_hasMarkIfClosed_0, x_X4_hasMarkIfClosed_g16, x_X4_hasMarkIfClosed_g12, x_X4_hasMarkIfClosed_g77, x_X4_hasMarkIfClosed_v138, x_X4_hasMarkIfClosed_v256, x_X4_hasMarkIfClosed_v121, x_X4_hasMarkIfClosed_v118, f_X4_isWithin, f_X4_found, f_X1_isThere, q00, q01, q02, s1, s2, s3, r3, r14, r15, r16, s12, s13, r134, r135, s14, s15, r15a, f_X1_become, f_X1_closeAll, f_X1_passDays, f_X0_hasMark, cl_nIs hc8, in8 hc8, s16 hc8]
  refine ⟨LB13, LB1, by decide, s, hR, hW, fun μ1 hR1 hF1 => ?_⟩
  refine ⟨LB13, s, hR1, hW, fun μ2 hR2 hF2 => ?_⟩
  refine ⟨LB13, _, n', hR2, Iw_cla hW _, hn, rfl, fun μ3 hR3 hF3 => ?_⟩
  have e3 : μ3.1 (16 + c') 3 = (dys (cla s t (sn s)) n').2.2.1 c' 3 := hR3.2.2.1 c' 3 (by rw [sn_dys, sn_cla]; exact hc) (by omega)
  rw [e3]
  exact h μ3 (Fr_tr (Fr_tr hF1 hF2) hF3)
theorem ok_X4_hasMarkIfClosed : am_OK (⟨"CarpetLane", "hasMarkIfClosed", "(IIII)Z"⟩ : MethodName) prog_1_method_53_code 5 (some .boolean) rm_X4_hasMarkIfClosed sp_X4_hasMarkIfClosed := am_mok (cd := cd_X4_hasMarkIfClosed) E_X4_hasMarkIfClosed (by decide +kernel) rfl eo_X4_hasMarkIfClosed (by decide +kernel) (by decide +kernel) (q_RIIII_h (by decide)) (q_RIIII_b bd_X4_hasMarkIfClosed)
/-! bits of sets below 256 -/
def pop8 (t : Nat) : Nat := (t.testBit 0).toNat + (t.testBit 1).toNat + (t.testBit 2).toNat + (t.testBit 3).toNat + (t.testBit 4).toNat + (t.testBit 5).toNat + (t.testBit 6).toNat + (t.testBit 7).toNat
theorem bc_pop {t : Nat} (h : t < 256) : bc (nI t) = nI (pop8 t) := by
  have : ∀ t, t < 256 → bc (nI t) = nI (pop8 t) := by decide +kernel
  exact this t h
theorem pop8_le {t : Nat} : pop8 t ≤ 8 := by
  have : ∀ b : Bool, b.toNat ≤ 1 := by decide
  unfold pop8
  have h0 := this (t.testBit 0)
  have h1 := this (t.testBit 1)
  have h2 := this (t.testBit 2)
  have h3 := this (t.testBit 3)
  have h4 := this (t.testBit 4)
  have h5 := this (t.testBit 5)
  have h6 := this (t.testBit 6)
  have h7 := this (t.testBit 7)
  omega
theorem tb_sh {t k : Nat} (h : t < 256) (hk : k < 8) : (nI t &&& ((1 : Int32) <<< (nI k &&& 31))) = 0 ↔ t.testBit k = false := by
  have : ∀ t, t < 256 → ∀ k, k < 8 → ((nI t &&& ((1 : Int32) <<< (nI k &&& 31))) = 0 ↔ t.testBit k = false) := by decide +kernel
  exact this t h k hk
/-- a set without what is in another -/
def lss (t c : Nat) : Nat := t ^^^ (t &&& c)
theorem lss_tb (t c k : Nat) : (lss t c).testBit k = (t.testBit k && !c.testBit k) := by
  unfold lss
  rw [Nat.testBit_xor, Nat.testBit_and]
  cases t.testBit k <;> cases c.testBit k <;> rfl
theorem lss_pop (t c : Nat) : pop8 (lss t c) ≤ pop8 t ∧ (t < 256 → pop8 (lss t c) = pop8 t → lss t c = t) := by
  have key : ∀ k, ((lss t c).testBit k).toNat ≤ (t.testBit k).toNat := by
    intro k
    rw [lss_tb]
    cases t.testBit k <;> cases c.testBit k <;> decide
  have k0 := key 0
  have k1 := key 1
  have k2 := key 2
  have k3 := key 3
  have k4 := key 4
  have k5 := key 5
  have k6 := key 6
  have k7 := key 7
  refine ⟨by unfold pop8; omega, fun ht he => ?_⟩
  unfold pop8 at he
  apply Nat.eq_of_testBit_eq
  intro i
  have inj : ∀ a b : Bool, a.toNat = b.toNat → a = b := by decide
  by_cases hi : i < 8
  · match i, hi with
    | 0, _ => exact inj _ _ (by omega)
    | 1, _ => exact inj _ _ (by omega)
    | 2, _ => exact inj _ _ (by omega)
    | 3, _ => exact inj _ _ (by omega)
    | 4, _ => exact inj _ _ (by omega)
    | 5, _ => exact inj _ _ (by omega)
    | 6, _ => exact inj _ _ (by omega)
    | 7, _ => exact inj _ _ (by omega)
  · have hf : t.testBit i = false := Nat.testBit_lt_two_pow (Nat.lt_of_lt_of_le (show t < 2 ^ 8 from ht) (Nat.pow_le_pow_right (show 2 > 0 by decide) (show 8 ≤ i by omega)))
    rw [lss_tb, hf]
    rfl
def shB (H : Nat → Bool) : Nat → Option Nat
  | 0 => none
  | k + 1 => match shB H k with
    | none => if H k = true then none else some k
    | some b => if pop8 k < pop8 b ∧ H k = false then some k else some b
theorem shB_spec (H : Nat → Bool) : ∀ N, match shB H N with
    | none => ∀ t, t < N → H t = true
    | some b => b < N ∧ H b = false ∧ ∀ t, t < N → H t = false → pop8 b < pop8 t ∨ (pop8 b = pop8 t ∧ b ≤ t)
  | 0 => by
    show ∀ t, t < 0 → H t = true
    intro t ht
    omega
  | N + 1 => by
    have ih := shB_spec H N
    unfold shB
    cases e : shB H N with
    | none =>
      rw [e] at ih
      simp only at ih ⊢
      by_cases hk : H N = true
      · rw [if_pos hk]
        simp only
        intro t ht
        rcases Nat.lt_or_ge t N with z | z
        · exact ih t z
        · rw [show t = N by omega]; exact hk
      · rw [if_neg hk]
        simp only
        refine ⟨by omega, by simpa using hk, fun t ht h0 => ?_⟩
        rcases Nat.lt_or_ge t N with z | z
        · rw [ih t z] at h0; cases h0
        · rw [show t = N by omega]; exact Or.inr ⟨rfl, Nat.le_refl _⟩
    | some b =>
      rw [e] at ih
      simp only at ih ⊢
      obtain ⟨i1, i2, i3⟩ := ih
      by_cases hk : pop8 N < pop8 b ∧ H N = false
      · rw [if_pos hk]
        simp only
        refine ⟨by omega, hk.2, fun t ht h0 => ?_⟩
        rcases Nat.lt_or_ge t N with z | z
        · rcases i3 t z h0 with y | y
          · exact Or.inl (by omega)
          · exact Or.inl (by omega)
        · rw [show t = N by omega]; exact Or.inr ⟨rfl, Nat.le_refl _⟩
      · rw [if_neg hk]
        simp only
        refine ⟨by omega, i2, fun t ht h0 => ?_⟩
        rcases Nat.lt_or_ge t N with z | z
        · exact i3 t z h0
        · have e : t = N := by omega
          subst e
          rcases Nat.lt_trichotomy (pop8 b) (pop8 t) with y | y | y
          · exact Or.inl y
          · exact Or.inr ⟨y, by omega⟩
          · exact absurd ⟨y, h0⟩ hk
theorem shB_uniq {H : Nat → Bool} {N b : Nat} (h1 : b < N) (h2 : H b = false) (h3 : ∀ t, t < N → H t = false → pop8 b < pop8 t ∨ (pop8 b = pop8 t ∧ b ≤ t)) : shB H N = some b := by
  have := shB_spec H N
  cases e : shB H N with
  | none =>
    rw [e] at this
    simp only at this
    rw [this b h1] at h2
    cases h2
  | some c =>
    rw [e] at this
    simp only at this
    obtain ⟨a1, a2, a3⟩ := this
    rcases a3 b h1 h2 with y | y
    · rcases h3 c a1 a2 with z | z
      · omega
      · omega
    · rcases h3 c a1 a2 with z | z
      · omega
      · rw [show c = b by omega]
theorem shB_no {H : Nat → Bool} {N : Nat} (h : ∀ t, t < N → H t = true) : shB H N = none := by
  have := shB_spec H N
  cases e : shB H N with
  | none => rfl
  | some c =>
    rw [e] at this
    simp only at this
    rw [h c this.1] at this
    exact absurd this.2.1 (by decide)
