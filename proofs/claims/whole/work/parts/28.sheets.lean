abbrev OutS : Type := (Int32 × wS) ⊕ Nat
def FrS (μ μ' : am_M) : Prop := (∀ k, (k < 40 ∨ 48 ≤ k) → μ'.1 k = μ.1 k) ∧ μ'.2 = μ.2
def oS (r : OutS) (μ : am_M) (Q : am_Q) : Prop := match r with
  | .inl (x, w') => ∀ μ', RS μ' w' → FrS μ μ' → Q (some (.int x)) μ'
  | .inr f => Q (some (.int (-1000001 - nI f))) (fnd μ f)
theorem oS_g {f : Nat} {μ : am_M} {Q : am_Q} (h : oS (.inr f) μ Q) (hf : f < 7) {x : Int32} (hx : x = -1000001 - nI f) : ∃ w, w < 7 ∧ x = -1000001 - nI w ∧ Q (some (.int x)) (fnd μ w) := ⟨f, hf, hx, by rw [hx]; exact h⟩
theorem FrS_set {x y : am_M} {k j : Nat} {v : Int32} (h : FrS x y) (h1 : 40 ≤ k) (h2 : k < 48) : FrS x (am_set y k j v) := by
  refine ⟨fun i hi => ?_, h.2⟩
  rw [← h.1 i hi]
  funext q
  have : ¬ i = k := by omega
  simp [am_set, this]
theorem FrS_rf (μ : am_M) : FrS μ μ := ⟨fun _ _ => rfl, rfl⟩
def wSh (w : wS) (i : Nat) (b n : Int32) : wS := ((fun j => if j = i then b else w.1 j), (fun j => if j = i then n else w.2.1 j), (fun j q => if j = i then 0 else w.2.2 j q))
def wNm (w : wS) (i j : Nat) (v : Int32) : wS := (w.1, w.2.1, (fun a q => if a = i ∧ q = j then v else w.2.2 a q))
def okB (b : Int32) : Bool := decide (b = 0) || decide (b = 8) || decide (b = 16) || decide (b = 32)
def p_sheet (i b n : Int32) (w : wS) : OutS := if wi i 3 = true then (if okB b = true then (if n < 0 then .inr 6 else if n ≤ 40 then .inl (if b = 0 then 0 else n, wSh w i.toNatClampNeg b (if b = 0 then 0 else n)) else .inr 0) else .inr 0) else .inr 0
def f_X4_sheet (k : Nat) (i b n : Int32) (μ : am_M) (Q : am_Q) : Prop := k = 0 ∧ ∃ w, RS μ w ∧ IS w ∧ oS (p_sheet i b n w) μ Q
theorem RS_shN {μ : am_M} {w : wS} {j : Nat} {b n : Int32} (h : RS μ w) (hj : j < 4) : RS (shN μ (40 + j) b n) (wSh w j b n) := by
  intro i hi
  obtain ⟨h1, h2, h3⟩ := h i hi
  unfold shN wSh
  simp only
  by_cases e : i = j
  · subst e
    refine ⟨?_, ?_, fun q hq => ?_⟩
    · rw [if_neg (by omega)]; simp
    · rw [if_neg (by omega), if_neg (by omega)]; simp
    · rw [if_pos ⟨rfl, hq⟩, if_pos rfl]
  · refine ⟨?_, ?_, fun q hq => ?_⟩
    · rw [if_neg (by omega), if_neg (by omega), if_neg (by omega), if_neg e]; exact h1
    · rw [if_neg (by omega), if_neg (by omega), if_neg (by omega), if_neg e]; exact h2
    · rw [if_neg (by omega), if_neg (by omega), if_neg (by omega), if_neg e]; exact h3 q hq
theorem FrS_shN {μ : am_M} {j : Nat} {b n : Int32} (hj : j < 4) : FrS μ (shN μ (40 + j) b n) := by
  refine ⟨fun i hi => ?_, rfl⟩
  funext q
  unfold shN
  simp only
  rw [if_neg (by omega), if_neg (by omega), if_neg (by omega)]
theorem shN_1 {μ : am_M} {k : Nat} {b n : Int32} : (shN μ k b n).1 k 1 = n := by
  unfold shN
  simp only
  rw [if_neg (by omega), if_neg (by omega)]
  simp
def sp_X4_sheet : am_Sp := q_RIII f_X4_sheet
def bk_X4_sheet_0 : List Instr := [.iload_n 1, .iconst 3, .invokestatic 45, .ifCond .eq 25, .iload_n 2, .ifCond .eq 28, .iload_n 2, .bipush 8, .if_icmp .eq 22, .iload_n 2, .bipush 16, .if_icmp .eq 16, .iload_n 2, .bipush 32, .if_icmp .eq 10]
def bk_X4_sheet_30 : List Instr := [.aload_n 0, .ldc 49, .invokevirtual 50, .ireturn]
def bk_X4_sheet_37 : List Instr := [.iload_n 3, .ifCond .ge 10, .aload_n 0, .ldc 208, .invokevirtual 50, .ireturn]
def bk_X4_sheet_48 : List Instr := [.iload_n 3, .bipush 40, .if_icmp .le 10, .aload_n 0, .ldc 49, .invokevirtual 50, .ireturn]
def bk_X4_sheet_61 : List Instr := [.aload_n 0, .getfield 35, .iload_n 1, .aaload, .iload_n 2, .iload_n 3, .invokevirtual 209, .aload_n 0, .getfield 35, .iload_n 1, .aaload, .getfield 212, .ireturn]
def cd_X4_sheet : am_cd := [(0, bk_X4_sheet_0), (30, bk_X4_sheet_30), (37, bk_X4_sheet_37), (48, bk_X4_sheet_48), (61, bk_X4_sheet_61)]
def E_X4_sheet : am_E := (4, .int, [(35, 4, 5), (212, 2, 1)], [(49, .int (-1000001)), (208, .int (-1000007))], [], [(50, 4, 1, sp_X4_found), (209, 2, 2, sp_X2_begin)], [(45, 2, sp_X4_isWithin)], [])
theorem n_X4_sheet : am_nL E_X4_sheet = 4 := Eq.trans rfl rfl
theorem r_X4_sheet : am_rt E_X4_sheet = .int := Eq.trans rfl rfl
theorem g_X4_sheet_0 {At : am_J} {Q : am_Q} {n : Nat} {L S : List Value} {μ : am_M} : am_go E_X4_sheet cd_X4_sheet [37] At Q (n + 1) 0 L S μ = am_blk E_X4_sheet (am_go E_X4_sheet cd_X4_sheet [37] At Q n) Q bk_X4_sheet_0 0 L S μ := Eq.trans rfl rfl
theorem b_X4_sheet_0 {gt : am_J} {Q : am_Q} {L S : List Value} {μ : am_M} : am_blk E_X4_sheet gt Q (am_lk [] cd_X4_sheet 0) 0 L S μ = am_blk E_X4_sheet gt Q bk_X4_sheet_0 0 L S μ := Eq.trans rfl rfl
theorem g_X4_sheet_30 {At : am_J} {Q : am_Q} {n : Nat} {L S : List Value} {μ : am_M} : am_go E_X4_sheet cd_X4_sheet [37] At Q (n + 1) 30 L S μ = am_blk E_X4_sheet (am_go E_X4_sheet cd_X4_sheet [37] At Q n) Q bk_X4_sheet_30 30 L S μ := Eq.trans rfl rfl
theorem g_X4_sheet_37 {At : am_J} {Q : am_Q} {n : Nat} {L S : List Value} {μ : am_M} : am_go E_X4_sheet cd_X4_sheet [37] At Q (n + 1) 37 L S μ = At 37 L S μ := Eq.trans rfl rfl
theorem b_X4_sheet_37 {gt : am_J} {Q : am_Q} {L S : List Value} {μ : am_M} : am_blk E_X4_sheet gt Q (am_lk [] cd_X4_sheet 37) 37 L S μ = am_blk E_X4_sheet gt Q bk_X4_sheet_37 37 L S μ := Eq.trans rfl rfl
theorem g_X4_sheet_48 {At : am_J} {Q : am_Q} {n : Nat} {L S : List Value} {μ : am_M} : am_go E_X4_sheet cd_X4_sheet [37] At Q (n + 1) 48 L S μ = am_blk E_X4_sheet (am_go E_X4_sheet cd_X4_sheet [37] At Q n) Q bk_X4_sheet_48 48 L S μ := Eq.trans rfl rfl
theorem g_X4_sheet_61 {At : am_J} {Q : am_Q} {n : Nat} {L S : List Value} {μ : am_M} : am_go E_X4_sheet cd_X4_sheet [37] At Q (n + 1) 61 L S μ = am_blk E_X4_sheet (am_go E_X4_sheet cd_X4_sheet [37] At Q n) Q bk_X4_sheet_61 61 L S μ := Eq.trans rfl rfl
theorem t_X4_sheet_5_30 : am_tg 5 25 = 30 := Eq.trans rfl rfl
theorem t_X4_sheet_9_37 : am_tg 9 28 = 37 := Eq.trans rfl rfl
theorem t_X4_sheet_15_37 : am_tg 15 22 = 37 := Eq.trans rfl rfl
theorem t_X4_sheet_21_37 : am_tg 21 16 = 37 := Eq.trans rfl rfl
theorem t_X4_sheet_27_37 : am_tg 27 10 = 37 := Eq.trans rfl rfl
theorem t_X4_sheet_38_48 : am_tg 38 10 = 48 := Eq.trans rfl rfl
theorem t_X4_sheet_51_61 : am_tg 51 10 = 61 := Eq.trans rfl rfl
theorem x_X4_sheet_g35 {pc : Nat} {L S : List Value} {μ : am_M} {nx : am_K} {jp : am_J} {Q : am_Q} {k : Nat} : am_st E_X4_sheet pc (.getfield 35) L (.ref k :: S) μ nx jp Q = (am_sh k = (4, 0) ∧ nx L (.ref (am_rf k 5) :: S) μ) := Eq.trans rfl rfl
theorem x_X4_sheet_g212 {pc : Nat} {L S : List Value} {μ : am_M} {nx : am_K} {jp : am_J} {Q : am_Q} {k : Nat} : am_st E_X4_sheet pc (.getfield 212) L (.ref k :: S) μ nx jp Q = (am_sh k = (2, 0) ∧ nx L (.int (μ.1 k 1) :: S) μ) := Eq.trans rfl rfl
theorem x_X4_sheet_c49 {pc : Nat} {L S : List Value} {μ : am_M} {nx : am_K} {jp : am_J} {Q : am_Q} : am_st E_X4_sheet pc (.ldc 49) L S μ nx jp Q = nx L (.int (-1000001) :: S) μ := Eq.trans rfl rfl
theorem x_X4_sheet_c208 {pc : Nat} {L S : List Value} {μ : am_M} {nx : am_K} {jp : am_J} {Q : am_Q} : am_st E_X4_sheet pc (.ldc 208) L S μ nx jp Q = nx L (.int (-1000007) :: S) μ := Eq.trans rfl rfl
theorem x_X4_sheet_v50 {pc : Nat} {L S : List Value} {μ : am_M} {nx : am_K} {jp : am_J} {Q : am_Q} {k : Nat} {a0 : Int32} : am_st E_X4_sheet pc (.invokevirtual 50) L (.int a0 :: .ref k :: S) μ nx jp Q = (am_sh k = (4, 0) ∧ am_csum S ≤ 8 ∧ f_X4_found k a0 μ (fun r μ' => nx L (r.toList ++ S) μ')) := Eq.trans rfl rfl
theorem x_X4_sheet_v209 {pc : Nat} {L S : List Value} {μ : am_M} {nx : am_K} {jp : am_J} {Q : am_Q} {k : Nat} {a0 : Int32} {a1 : Int32} : am_st E_X4_sheet pc (.invokevirtual 209) L (.int a1 :: .int a0 :: .ref k :: S) μ nx jp Q = (am_sh k = (2, 0) ∧ am_csum S ≤ 8 ∧ f_X2_begin k a0 a1 μ (fun r μ' => nx L (r.toList ++ S) μ')) := Eq.trans rfl rfl
theorem x_X4_sheet_v45 {pc : Nat} {L S : List Value} {μ : am_M} {nx : am_K} {jp : am_J} {Q : am_Q} {a0 : Int32} {a1 : Int32} : am_st E_X4_sheet pc (.invokestatic 45) L (.int a1 :: .int a0 :: S) μ nx jp Q = (am_csum S ≤ 8 ∧ f_X4_isWithin a0 a1 μ (fun r μ' => nx L (r.toList ++ S) μ')) := Eq.trans rfl rfl
def rm_X4_sheet : Room := { frames := 2, cells := 0, slots := 0, locals := 44 }
theorem eo_X4_sheet : am_EO "CarpetLane" rm_X4_sheet E_X4_sheet := ⟨(List.forall_mem_cons.mpr ⟨Or.inl ⟨_, rfl, by decide, am_in 212 (by decide +kernel) (by decide +kernel), by decide⟩, (List.forall_mem_cons.mpr ⟨Or.inl ⟨_, rfl, by decide, am_in 197 (by decide +kernel) (by decide +kernel), by decide⟩, (fun _ h => absurd h List.not_mem_nil)⟩)⟩), (List.forall_mem_cons.mpr ⟨am_in 237 (by decide +kernel) (by decide +kernel), (List.forall_mem_cons.mpr ⟨am_in 690 (by decide +kernel) (by decide +kernel), (fun _ h => absurd h List.not_mem_nil)⟩)⟩), (fun _ h => absurd h List.not_mem_nil), (List.forall_mem_cons.mpr ⟨am_mkV ok_X4_found wv_X4_found (am_in 238 (by decide +kernel) (by decide +kernel)) ⟨rfl, rfl, by decide, by decide⟩, (List.forall_mem_cons.mpr ⟨am_mkV ok_X2_begin wv_X2_begin (am_in 691 (by decide +kernel) (by decide +kernel)) ⟨rfl, rfl, by decide, by decide⟩, (fun _ h => absurd h List.not_mem_nil)⟩)⟩), (List.forall_mem_cons.mpr ⟨am_mkS ok_X4_isWithin wv_X4_isWithin (Or.inl (am_in 234 (by decide +kernel) (by decide +kernel))) ⟨rfl, rfl, by decide, by decide⟩, (fun _ h => absurd h List.not_mem_nil)⟩), (fun _ h => absurd h List.not_mem_nil)⟩
theorem wv_X4_sheet : am_WV (⟨"CarpetLane", "sheet", "(III)I"⟩ : MethodName) prog_1_method_34_code 4 (some .int) 3 4 := ⟨am_in 59 (by decide +kernel) (by decide +kernel), am_in 689 (by decide +kernel) (by decide +kernel), by decide +kernel, rfl, by decide, am_in 687 (by decide +kernel) (by decide +kernel), am_in 688 (by decide +kernel) (by decide +kernel)⟩
theorem bd_X4_sheet (k : Nat) (i : Int32) (b : Int32) (n : Int32) (μ : am_M) (Q : am_Q) (At : am_J) (hA : am_ok E_X4_sheet cd_X4_sheet Q At) (h : f_X4_sheet k i b n μ Q) : At 0 (am_en [.ref k, .int i, .int b, .int n] 4) [] μ := by
  obtain ⟨rfl, w, hS, hIS, h⟩ := h
  unfold p_sheet at h
  have A37 : wthn i 3 → okB b = true → At 37 [.ref 0, .int i, .int b, .int n] [] μ := by
    intro z z2
    obtain ⟨j, hj, rfl⟩ := wi_nI (k := 3) (by omega) z
    have hj4 : j < 4 := by omega
    rw [if_pos (wi_t z), if_pos z2, cl4 hj4] at h
    refine hA [37] 60 37 _ _ _ ?_
    simp only [s_aload_0, s_iload_0, s_lload_0, s_istore_0, s_lstore_0, s_astore_0, s_aload_1, s_iload_1, s_lload_1, s_istore_1, s_lstore_1, s_astore_1, s_aload_2, s_iload_2, s_lload_2, s_istore_2, s_lstore_2, s_astore_2, s_aload_3, s_iload_3, s_lload_3, s_istore_3, s_lstore_3, s_astore_3, s_aload, s_iload, s_lload, s_istore, s_lstore, s_astore, s_iconst, s_bipush, s_sipush, s_lconst_0, s_lconst_1, s_iinc, s_iadd, s_isub, s_imul, s_iand, s_ior, s_ixor, s_ishl, s_ishr, s_iushr, s_idiv, s_irem, s_ladd, s_lsub, s_lmul, s_ldiv, s_lrem, s_lcmp, s_i2l, s_l2i, s_i2b, s_i2s, s_i2c, s_dupI, s_dupR, s_dup2IR, s_dupx1, s_popI, s_if_eq, s_if_ne, s_if_lt, s_if_ge, s_if_gt, s_if_le, s_cmp_eq, s_cmp_ne, s_cmp_lt, s_cmp_ge, s_cmp_gt, s_cmp_le, s_goto, s_tsw, s_iaload, s_baload, s_caload, s_aaload, s_iastore, s_bastore, s_alen, s_ireturn, s_lreturn, s_return, am_lI_0, am_lI_S, am_lL_0, am_lL_S, am_lR_0, am_lR_S, am_sto_0, am_sto_1I, am_sto_1R, am_sto_1N, am_sto_1L, am_sto_S, am_stL_d, am_blk_0, am_blk_1, am_ln_aload_n, am_ln_iload_n, am_ln_lload_n, am_ln_istore_n, am_ln_lstore_n, am_ln_astore_n, am_ln_iconst, am_ln_lconst, am_ln_iadd, am_ln_isub, am_ln_imul, am_ln_idiv, am_ln_irem, am_ln_iand, am_ln_ior, am_ln_ixor, am_ln_ishl, am_ln_ishr, am_ln_iushr, am_ln_ladd, am_ln_lsub, am_ln_lmul, am_ln_ldiv, am_ln_lrem, am_ln_lcmp, am_ln_i2l, am_ln_l2i, am_ln_i2b, am_ln_i2s, am_ln_i2c, am_ln_dup, am_ln_dup2, am_ln_dup_x1, am_ln_pop, am_ln_iaload, am_ln_iastore, am_ln_baload, am_ln_bastore, am_ln_caload, am_ln_aaload, am_ln_arraylength, am_ln_ireturn, am_ln_lreturn, am_ln_return_, am_ln_aload, am_ln_iload, am_ln_lload, am_ln_istore, am_ln_lstore, am_ln_astore, am_ln_bipush, am_ln_ldc, am_ln_sipush, am_ln_ldc_w, am_ln_ldc2_w, am_ln_iinc, am_ln_ifCond, am_ln_if_icmp, am_ln_goto, am_ln_getfield, am_ln_putfield, am_ln_getstatic, am_ln_invokevirtual, am_ln_invokestatic, am_csum_0, am_csum_I, am_csum_R, am_csum_L, k_im16, k_im8, k_im4, k_im2, k_im1, k_i0, k_i1, k_i2, k_i3, k_i4, k_i5, k_i6, k_i7, k_i8, k_i9, k_i10, k_i11, k_i12, k_i13, k_i14, k_i15, k_i16, k_i17, k_i18, k_i19, k_i20, k_i21, k_i22, k_i23, k_i24, k_i25, k_i26, k_i27, k_i28, k_i29, k_i30, k_i31, k_i32, k_i33, k_i34, k_i35, k_i36, k_i37, k_i38, k_i39, k_i40, k_i41, k_b6, k_b7, k_b8, k_b9, k_b10, k_b11, k_b12, k_b13, k_b14, k_b15, k_b16, k_b17, k_b18, k_b19, k_b20, k_b21, k_b22, k_b23, k_b24, k_b25, k_b26, k_b27, k_b28, k_b29, k_b30, k_b31, k_b32, k_b33, k_b34, k_b35, k_b36, k_b37, k_b38, k_b39, k_b40, k_b41, k_b42, k_b43, k_b44, k_b45, k_b46, k_b47, k_b48, k_b49, k_b50, k_b51, k_b52, k_b53, k_b54, k_b55, k_b56, k_b57, k_b58, k_b59, k_b60, k_b61, k_b62, k_b63, k_b66, k_b76, k_b97, k_b98, k_b99, k_b100, k_b101, k_b102, k_b103, k_b104, k_b105, k_b107, k_b108, k_b109, k_b110, k_b112, k_b114, k_b115, k_b116, k_b117, k_b120, k_b121, k_b122, k_s160, k_s200, k_s255, k_s256, k_s999, k_s2048, k_s4095, k_s9999, k_s10000, k_s12345, k_narI, k_narZ0, k_narZ1, k_ffalse, k_ts0, k_ts1, k_tw0, k_tw1, k_rt, k_rn, Nat.reduceAdd, Nat.zero_add, Nat.reduceLeDiff, Nat.reduceLT, Int.reduceAdd, Int.zero_add, true_and, and_true, List.set_cons_zero, List.set_cons_succ, eq_self, k_n2, k_n3, k_n4, k_n5, k_n6, k_n7, k_n8, k_n9, k_n10, k_n12, k_nn, true_or, or_true, false_or, or_false, k_z10, not_false_eq_true, not_true_eq_false, true_imp_iff, false_imp_iff, n_X4_sheet, r_X4_sheet, g_X4_sheet_0, b_X4_sheet_0, bk_X4_sheet_0, g_X4_sheet_30, bk_X4_sheet_30, g_X4_sheet_37, b_X4_sheet_37, bk_X4_sheet_37, g_X4_sheet_48, bk_X4_sheet_48, g_X4_sheet_61, bk_X4_sheet_61, t_X4_sheet_5_30, t_X4_sheet_9_37, t_X4_sheet_15_37, t_X4_sheet_21_37, t_X4_sheet_27_37, t_X4_sheet_38_48, t_X4_sheet_51_61, x_X4_sheet_g35, x_X4_sheet_g212, x_X4_sheet_c49, x_X4_sheet_c208, x_X4_sheet_v50, x_X4_sheet_v209, x_X4_sheet_v45, f_X4_isWithin, f_X4_found, f_X1_isThere, q00, q01, q02, q03, q04, q05, q06, s1, s2, s3, r3, r14, r15, r16, s12, s13, r134, r135, s14, s15, r15a, s39, r39, f_X2_begin, cl4 hj4, in4 hj4, s40 hj4, shN_1]
    refine ⟨fun y => ⟨fun y2 => ⟨SBi hj4, ?_⟩, fun y2 => ?_⟩, fun y => ?_⟩
    · rw [if_neg (Int32.not_lt.mpr y), if_pos y2] at h
      have e : mn n 40 = n := by unfold mn; rw [if_neg (Int32.not_lt.mpr y2)]
      rw [e]
      exact h _ (RS_shN hS hj4) (FrS_shN hj4)
    · rw [if_neg (Int32.not_lt.mpr y), if_neg y2] at h
      exact oS_g h (by omega) (by decide)
    · rw [if_pos (Int32.not_le.mp y)] at h
      exact oS_g h (by omega) (by decide)
  refine hA [37] 60 0 _ _ _ ?_; show am_blk _ _ _ _ _ [_, _, _, _] _ _
  simp only [s_aload_0, s_iload_0, s_lload_0, s_istore_0, s_lstore_0, s_astore_0, s_aload_1, s_iload_1, s_lload_1, s_istore_1, s_lstore_1, s_astore_1, s_aload_2, s_iload_2, s_lload_2, s_istore_2, s_lstore_2, s_astore_2, s_aload_3, s_iload_3, s_lload_3, s_istore_3, s_lstore_3, s_astore_3, s_aload, s_iload, s_lload, s_istore, s_lstore, s_astore, s_iconst, s_bipush, s_sipush, s_lconst_0, s_lconst_1, s_iinc, s_iadd, s_isub, s_imul, s_iand, s_ior, s_ixor, s_ishl, s_ishr, s_iushr, s_idiv, s_irem, s_ladd, s_lsub, s_lmul, s_ldiv, s_lrem, s_lcmp, s_i2l, s_l2i, s_i2b, s_i2s, s_i2c, s_dupI, s_dupR, s_dup2IR, s_dupx1, s_popI, s_if_eq, s_if_ne, s_if_lt, s_if_ge, s_if_gt, s_if_le, s_cmp_eq, s_cmp_ne, s_cmp_lt, s_cmp_ge, s_cmp_gt, s_cmp_le, s_goto, s_tsw, s_iaload, s_baload, s_caload, s_aaload, s_iastore, s_bastore, s_alen, s_ireturn, s_lreturn, s_return, am_lI_0, am_lI_S, am_lL_0, am_lL_S, am_lR_0, am_lR_S, am_sto_0, am_sto_1I, am_sto_1R, am_sto_1N, am_sto_1L, am_sto_S, am_stL_d, am_blk_0, am_blk_1, am_ln_aload_n, am_ln_iload_n, am_ln_lload_n, am_ln_istore_n, am_ln_lstore_n, am_ln_astore_n, am_ln_iconst, am_ln_lconst, am_ln_iadd, am_ln_isub, am_ln_imul, am_ln_idiv, am_ln_irem, am_ln_iand, am_ln_ior, am_ln_ixor, am_ln_ishl, am_ln_ishr, am_ln_iushr, am_ln_ladd, am_ln_lsub, am_ln_lmul, am_ln_ldiv, am_ln_lrem, am_ln_lcmp, am_ln_i2l, am_ln_l2i, am_ln_i2b, am_ln_i2s, am_ln_i2c, am_ln_dup, am_ln_dup2, am_ln_dup_x1, am_ln_pop, am_ln_iaload, am_ln_iastore, am_ln_baload, am_ln_bastore, am_ln_caload, am_ln_aaload, am_ln_arraylength, am_ln_ireturn, am_ln_lreturn, am_ln_return_, am_ln_aload, am_ln_iload, am_ln_lload, am_ln_istore, am_ln_lstore, am_ln_astore, am_ln_bipush, am_ln_ldc, am_ln_sipush, am_ln_ldc_w, am_ln_ldc2_w, am_ln_iinc, am_ln_ifCond, am_ln_if_icmp, am_ln_goto, am_ln_getfield, am_ln_putfield, am_ln_getstatic, am_ln_invokevirtual, am_ln_invokestatic, am_csum_0, am_csum_I, am_csum_R, am_csum_L, k_im16, k_im8, k_im4, k_im2, k_im1, k_i0, k_i1, k_i2, k_i3, k_i4, k_i5, k_i6, k_i7, k_i8, k_i9, k_i10, k_i11, k_i12, k_i13, k_i14, k_i15, k_i16, k_i17, k_i18, k_i19, k_i20, k_i21, k_i22, k_i23, k_i24, k_i25, k_i26, k_i27, k_i28, k_i29, k_i30, k_i31, k_i32, k_i33, k_i34, k_i35, k_i36, k_i37, k_i38, k_i39, k_i40, k_i41, k_b6, k_b7, k_b8, k_b9, k_b10, k_b11, k_b12, k_b13, k_b14, k_b15, k_b16, k_b17, k_b18, k_b19, k_b20, k_b21, k_b22, k_b23, k_b24, k_b25, k_b26, k_b27, k_b28, k_b29, k_b30, k_b31, k_b32, k_b33, k_b34, k_b35, k_b36, k_b37, k_b38, k_b39, k_b40, k_b41, k_b42, k_b43, k_b44, k_b45, k_b46, k_b47, k_b48, k_b49, k_b50, k_b51, k_b52, k_b53, k_b54, k_b55, k_b56, k_b57, k_b58, k_b59, k_b60, k_b61, k_b62, k_b63, k_b66, k_b76, k_b97, k_b98, k_b99, k_b100, k_b101, k_b102, k_b103, k_b104, k_b105, k_b107, k_b108, k_b109, k_b110, k_b112, k_b114, k_b115, k_b116, k_b117, k_b120, k_b121, k_b122, k_s160, k_s200, k_s255, k_s256, k_s999, k_s2048, k_s4095, k_s9999, k_s10000, k_s12345, k_narI, k_narZ0, k_narZ1, k_ffalse, k_ts0, k_ts1, k_tw0, k_tw1, k_rt, k_rn, Nat.reduceAdd, Nat.zero_add, Nat.reduceLeDiff, Nat.reduceLT, Int.reduceAdd, Int.zero_add, true_and, and_true, List.set_cons_zero, List.set_cons_succ, eq_self, k_n2, k_n3, k_n4, k_n5, k_n6, k_n7, k_n8, k_n9, k_n10, k_n12, k_nn, true_or, or_true, false_or, or_false, k_z10, not_false_eq_true, not_true_eq_false, true_imp_iff, false_imp_iff, n_X4_sheet, r_X4_sheet, g_X4_sheet_0, b_X4_sheet_0, bk_X4_sheet_0, g_X4_sheet_30, bk_X4_sheet_30, g_X4_sheet_37, b_X4_sheet_37, bk_X4_sheet_37, g_X4_sheet_48, bk_X4_sheet_48, g_X4_sheet_61, bk_X4_sheet_61, t_X4_sheet_5_30, t_X4_sheet_9_37, t_X4_sheet_15_37, t_X4_sheet_21_37, t_X4_sheet_27_37, t_X4_sheet_38_48, t_X4_sheet_51_61, x_X4_sheet_g35, x_X4_sheet_g212, x_X4_sheet_c49, x_X4_sheet_c208, x_X4_sheet_v50, x_X4_sheet_v209, x_X4_sheet_v45, f_X4_isWithin, f_X4_found, f_X1_isThere, q00, q01, q02, q03, q04, q05, q06, s1, s2, s3, r3, r14, r15, r16, s12, s13, r134, r135, s14, s15, r15a, s39, r39]
  refine ⟨fun z => ⟨fun y => A37 z (by unfold okB; simp [y]), fun y0 => ⟨fun y => A37 z (by unfold okB; simp [y]), fun y1 => ⟨fun y => A37 z (by unfold okB; simp [y]), fun y2 => ⟨fun y => A37 z (by unfold okB; simp [y]), fun y3 => ?_⟩⟩⟩⟩, fun z => ?_⟩
  · rw [if_pos (wi_t z), if_neg (by unfold okB; simp [y0, y1, y2, y3])] at h
    exact oS_g h (by omega) (by decide)
  · rw [wi_f z, if_neg (by decide)] at h
    exact oS_g h (by omega) (by decide)
theorem ok_X4_sheet : am_OK (⟨"CarpetLane", "sheet", "(III)I"⟩ : MethodName) prog_1_method_34_code 4 (some .int) rm_X4_sheet sp_X4_sheet := am_mok (cd := cd_X4_sheet) E_X4_sheet (by decide +kernel) rfl eo_X4_sheet (by decide +kernel) (by decide +kernel) (q_RIII_h (by decide)) (q_RIII_b bd_X4_sheet)
def p_write (i j v : Int32) (w : wS) : OutS := if wi i 3 = true then (if w.1 i.toNatClampNeg = 0 then .inr 5 else if wi j (w.2.1 i.toNatClampNeg - 1) = true then .inl (1, wNm w i.toNatClampNeg j.toNatClampNeg (nar (w.1 i.toNatClampNeg) v)) else .inr 0) else .inr 0
def f_X4_write (k : Nat) (i j v : Int32) (μ : am_M) (Q : am_Q) : Prop := k = 0 ∧ ∃ w, RS μ w ∧ IS w ∧ oS (p_write i j v w) μ Q
theorem RS_nm {μ : am_M} {w : wS} {i j : Nat} {v : Int32} (h : RS μ w) (hi : i < 4) : RS (am_set μ (40 + i + 4) j v) (wNm w i j v) := by
  intro a ha
  obtain ⟨h1, h2, h3⟩ := h a ha
  refine ⟨by rw [set_ne (by omega)]; exact h1, by rw [set_ne (by omega)]; exact h2, fun q hq => ?_⟩
  by_cases e : a = i ∧ q = j
  · obtain ⟨rfl, rfl⟩ := e
    rw [set_eq]; simp [wNm]
  · rw [set_ne (by omega), h3 q hq]
    simp only [wNm, if_neg e]
theorem wm1 {j : Int32} {n : Nat} (hn : n ≤ 40) (h : wthn j (nI n - 1)) : ∃ q, q < n ∧ j = nI q := by
  rcases Nat.eq_zero_or_pos n with e | e
  · subst e
    have := Int32.le_trans h.1 h.2
    exact absurd this (by decide)
  · obtain ⟨m, rfl⟩ : ∃ m, n = m + 1 := ⟨n - 1, by omega⟩
    rw [nI_pred] at h
    obtain ⟨q, hq, rfl⟩ := wi_nI (by omega) h
    exact ⟨q, by omega, rfl⟩
def sp_X4_write : am_Sp := q_RIII f_X4_write
def bk_X4_write_0 : List Instr := [.aload_n 0, .iload_n 1, .invokevirtual 163, .istore 4, .iload 4, .ifCond .eq 10, .aload_n 0, .iload 4, .invokevirtual 50, .ireturn]
def bk_X4_write_19 : List Instr := [.iload_n 2, .aload_n 0, .getfield 35, .iload_n 1, .aaload, .getfield 212, .iconst 1, .isub, .invokestatic 45, .ifCond .ne 10, .aload_n 0, .ldc 49, .invokevirtual 50, .ireturn]
def bk_X4_write_44 : List Instr := [.aload_n 0, .getfield 35, .iload_n 1, .aaload, .iload_n 2, .iload_n 3, .invokevirtual 213, .iconst 1, .ireturn]
def cd_X4_write : am_cd := [(0, bk_X4_write_0), (19, bk_X4_write_19), (44, bk_X4_write_44)]
def E_X4_write : am_E := (5, .int, [(35, 4, 5), (212, 2, 1)], [(49, .int (-1000001))], [], [(163, 4, 1, sp_X4_findingOfSheet), (50, 4, 1, sp_X4_found), (213, 2, 2, sp_X2_put)], [(45, 2, sp_X4_isWithin)], [])
theorem n_X4_write : am_nL E_X4_write = 5 := Eq.trans rfl rfl
theorem r_X4_write : am_rt E_X4_write = .int := Eq.trans rfl rfl
theorem g_X4_write_0 {At : am_J} {Q : am_Q} {n : Nat} {L S : List Value} {μ : am_M} : am_go E_X4_write cd_X4_write [] At Q (n + 1) 0 L S μ = am_blk E_X4_write (am_go E_X4_write cd_X4_write [] At Q n) Q bk_X4_write_0 0 L S μ := Eq.trans rfl rfl
theorem b_X4_write_0 {gt : am_J} {Q : am_Q} {L S : List Value} {μ : am_M} : am_blk E_X4_write gt Q (am_lk [] cd_X4_write 0) 0 L S μ = am_blk E_X4_write gt Q bk_X4_write_0 0 L S μ := Eq.trans rfl rfl
theorem g_X4_write_19 {At : am_J} {Q : am_Q} {n : Nat} {L S : List Value} {μ : am_M} : am_go E_X4_write cd_X4_write [] At Q (n + 1) 19 L S μ = am_blk E_X4_write (am_go E_X4_write cd_X4_write [] At Q n) Q bk_X4_write_19 19 L S μ := Eq.trans rfl rfl
theorem g_X4_write_44 {At : am_J} {Q : am_Q} {n : Nat} {L S : List Value} {μ : am_M} : am_go E_X4_write cd_X4_write [] At Q (n + 1) 44 L S μ = am_blk E_X4_write (am_go E_X4_write cd_X4_write [] At Q n) Q bk_X4_write_44 44 L S μ := Eq.trans rfl rfl
theorem t_X4_write_9_19 : am_tg 9 10 = 19 := Eq.trans rfl rfl
theorem t_X4_write_34_44 : am_tg 34 10 = 44 := Eq.trans rfl rfl
theorem x_X4_write_g35 {pc : Nat} {L S : List Value} {μ : am_M} {nx : am_K} {jp : am_J} {Q : am_Q} {k : Nat} : am_st E_X4_write pc (.getfield 35) L (.ref k :: S) μ nx jp Q = (am_sh k = (4, 0) ∧ nx L (.ref (am_rf k 5) :: S) μ) := Eq.trans rfl rfl
theorem x_X4_write_g212 {pc : Nat} {L S : List Value} {μ : am_M} {nx : am_K} {jp : am_J} {Q : am_Q} {k : Nat} : am_st E_X4_write pc (.getfield 212) L (.ref k :: S) μ nx jp Q = (am_sh k = (2, 0) ∧ nx L (.int (μ.1 k 1) :: S) μ) := Eq.trans rfl rfl
theorem x_X4_write_c49 {pc : Nat} {L S : List Value} {μ : am_M} {nx : am_K} {jp : am_J} {Q : am_Q} : am_st E_X4_write pc (.ldc 49) L S μ nx jp Q = nx L (.int (-1000001) :: S) μ := Eq.trans rfl rfl
theorem x_X4_write_v163 {pc : Nat} {L S : List Value} {μ : am_M} {nx : am_K} {jp : am_J} {Q : am_Q} {k : Nat} {a0 : Int32} : am_st E_X4_write pc (.invokevirtual 163) L (.int a0 :: .ref k :: S) μ nx jp Q = (am_sh k = (4, 0) ∧ am_csum S ≤ 8 ∧ f_X4_findingOfSheet k a0 μ (fun r μ' => nx L (r.toList ++ S) μ')) := Eq.trans rfl rfl
theorem x_X4_write_v50 {pc : Nat} {L S : List Value} {μ : am_M} {nx : am_K} {jp : am_J} {Q : am_Q} {k : Nat} {a0 : Int32} : am_st E_X4_write pc (.invokevirtual 50) L (.int a0 :: .ref k :: S) μ nx jp Q = (am_sh k = (4, 0) ∧ am_csum S ≤ 8 ∧ f_X4_found k a0 μ (fun r μ' => nx L (r.toList ++ S) μ')) := Eq.trans rfl rfl
theorem x_X4_write_v213 {pc : Nat} {L S : List Value} {μ : am_M} {nx : am_K} {jp : am_J} {Q : am_Q} {k : Nat} {a0 : Int32} {a1 : Int32} : am_st E_X4_write pc (.invokevirtual 213) L (.int a1 :: .int a0 :: .ref k :: S) μ nx jp Q = (am_sh k = (2, 0) ∧ am_csum S ≤ 8 ∧ f_X2_put k a0 a1 μ (fun r μ' => nx L (r.toList ++ S) μ')) := Eq.trans rfl rfl
theorem x_X4_write_v45 {pc : Nat} {L S : List Value} {μ : am_M} {nx : am_K} {jp : am_J} {Q : am_Q} {a0 : Int32} {a1 : Int32} : am_st E_X4_write pc (.invokestatic 45) L (.int a1 :: .int a0 :: S) μ nx jp Q = (am_csum S ≤ 8 ∧ f_X4_isWithin a0 a1 μ (fun r μ' => nx L (r.toList ++ S) μ')) := Eq.trans rfl rfl
def rm_X4_write : Room := { frames := 2, cells := 0, slots := 0, locals := 43 }
theorem eo_X4_write : am_EO "CarpetLane" rm_X4_write E_X4_write := ⟨(List.forall_mem_cons.mpr ⟨Or.inl ⟨_, rfl, by decide, am_in 212 (by decide +kernel) (by decide +kernel), by decide⟩, (List.forall_mem_cons.mpr ⟨Or.inl ⟨_, rfl, by decide, am_in 197 (by decide +kernel) (by decide +kernel), by decide⟩, (fun _ h => absurd h List.not_mem_nil)⟩)⟩), (List.forall_mem_cons.mpr ⟨am_in 237 (by decide +kernel) (by decide +kernel), (fun _ h => absurd h List.not_mem_nil)⟩), (fun _ h => absurd h List.not_mem_nil), (List.forall_mem_cons.mpr ⟨am_mkV ok_X4_findingOfSheet wv_X4_findingOfSheet (am_in 501 (by decide +kernel) (by decide +kernel)) ⟨rfl, rfl, by decide, by decide⟩, (List.forall_mem_cons.mpr ⟨am_mkV ok_X4_found wv_X4_found (am_in 238 (by decide +kernel) (by decide +kernel)) ⟨rfl, rfl, by decide, by decide⟩, (List.forall_mem_cons.mpr ⟨am_mkV ok_X2_put wv_X2_put (am_in 700 (by decide +kernel) (by decide +kernel)) ⟨rfl, rfl, by decide, by decide⟩, (fun _ h => absurd h List.not_mem_nil)⟩)⟩)⟩), (List.forall_mem_cons.mpr ⟨am_mkS ok_X4_isWithin wv_X4_isWithin (Or.inl (am_in 234 (by decide +kernel) (by decide +kernel))) ⟨rfl, rfl, by decide, by decide⟩, (fun _ h => absurd h List.not_mem_nil)⟩), (fun _ h => absurd h List.not_mem_nil)⟩
theorem wv_X4_write : am_WV (⟨"CarpetLane", "write", "(III)I"⟩ : MethodName) prog_1_method_35_code 5 (some .int) 3 4 := ⟨am_in 59 (by decide +kernel) (by decide +kernel), am_in 699 (by decide +kernel) (by decide +kernel), by decide +kernel, rfl, by decide, am_in 697 (by decide +kernel) (by decide +kernel), am_in 698 (by decide +kernel) (by decide +kernel)⟩
theorem bd_X4_write (k : Nat) (i : Int32) (j : Int32) (v : Int32) (μ : am_M) (Q : am_Q) (At : am_J) (hA : am_ok E_X4_write cd_X4_write Q At) (h : f_X4_write k i j v μ Q) : At 0 (am_en [.ref k, .int i, .int j, .int v] 5) [] μ := by
  obtain ⟨rfl, w, hS, hIS, h⟩ := h
  unfold p_write at h
  refine hA [] 60 0 _ _ _ ?_; show am_blk _ _ _ _ _ [_, _, _, _, .null] _ _
  simp only [s_aload_0, s_iload_0, s_lload_0, s_istore_0, s_lstore_0, s_astore_0, s_aload_1, s_iload_1, s_lload_1, s_istore_1, s_lstore_1, s_astore_1, s_aload_2, s_iload_2, s_lload_2, s_istore_2, s_lstore_2, s_astore_2, s_aload_3, s_iload_3, s_lload_3, s_istore_3, s_lstore_3, s_astore_3, s_aload, s_iload, s_lload, s_istore, s_lstore, s_astore, s_iconst, s_bipush, s_sipush, s_lconst_0, s_lconst_1, s_iinc, s_iadd, s_isub, s_imul, s_iand, s_ior, s_ixor, s_ishl, s_ishr, s_iushr, s_idiv, s_irem, s_ladd, s_lsub, s_lmul, s_ldiv, s_lrem, s_lcmp, s_i2l, s_l2i, s_i2b, s_i2s, s_i2c, s_dupI, s_dupR, s_dup2IR, s_dupx1, s_popI, s_if_eq, s_if_ne, s_if_lt, s_if_ge, s_if_gt, s_if_le, s_cmp_eq, s_cmp_ne, s_cmp_lt, s_cmp_ge, s_cmp_gt, s_cmp_le, s_goto, s_tsw, s_iaload, s_baload, s_caload, s_aaload, s_iastore, s_bastore, s_alen, s_ireturn, s_lreturn, s_return, am_lI_0, am_lI_S, am_lL_0, am_lL_S, am_lR_0, am_lR_S, am_sto_0, am_sto_1I, am_sto_1R, am_sto_1N, am_sto_1L, am_sto_S, am_stL_d, am_blk_0, am_blk_1, am_ln_aload_n, am_ln_iload_n, am_ln_lload_n, am_ln_istore_n, am_ln_lstore_n, am_ln_astore_n, am_ln_iconst, am_ln_lconst, am_ln_iadd, am_ln_isub, am_ln_imul, am_ln_idiv, am_ln_irem, am_ln_iand, am_ln_ior, am_ln_ixor, am_ln_ishl, am_ln_ishr, am_ln_iushr, am_ln_ladd, am_ln_lsub, am_ln_lmul, am_ln_ldiv, am_ln_lrem, am_ln_lcmp, am_ln_i2l, am_ln_l2i, am_ln_i2b, am_ln_i2s, am_ln_i2c, am_ln_dup, am_ln_dup2, am_ln_dup_x1, am_ln_pop, am_ln_iaload, am_ln_iastore, am_ln_baload, am_ln_bastore, am_ln_caload, am_ln_aaload, am_ln_arraylength, am_ln_ireturn, am_ln_lreturn, am_ln_return_, am_ln_aload, am_ln_iload, am_ln_lload, am_ln_istore, am_ln_lstore, am_ln_astore, am_ln_bipush, am_ln_ldc, am_ln_sipush, am_ln_ldc_w, am_ln_ldc2_w, am_ln_iinc, am_ln_ifCond, am_ln_if_icmp, am_ln_goto, am_ln_getfield, am_ln_putfield, am_ln_getstatic, am_ln_invokevirtual, am_ln_invokestatic, am_csum_0, am_csum_I, am_csum_R, am_csum_L, k_im16, k_im8, k_im4, k_im2, k_im1, k_i0, k_i1, k_i2, k_i3, k_i4, k_i5, k_i6, k_i7, k_i8, k_i9, k_i10, k_i11, k_i12, k_i13, k_i14, k_i15, k_i16, k_i17, k_i18, k_i19, k_i20, k_i21, k_i22, k_i23, k_i24, k_i25, k_i26, k_i27, k_i28, k_i29, k_i30, k_i31, k_i32, k_i33, k_i34, k_i35, k_i36, k_i37, k_i38, k_i39, k_i40, k_i41, k_b6, k_b7, k_b8, k_b9, k_b10, k_b11, k_b12, k_b13, k_b14, k_b15, k_b16, k_b17, k_b18, k_b19, k_b20, k_b21, k_b22, k_b23, k_b24, k_b25, k_b26, k_b27, k_b28, k_b29, k_b30, k_b31, k_b32, k_b33, k_b34, k_b35, k_b36, k_b37, k_b38, k_b39, k_b40, k_b41, k_b42, k_b43, k_b44, k_b45, k_b46, k_b47, k_b48, k_b49, k_b50, k_b51, k_b52, k_b53, k_b54, k_b55, k_b56, k_b57, k_b58, k_b59, k_b60, k_b61, k_b62, k_b63, k_b66, k_b76, k_b97, k_b98, k_b99, k_b100, k_b101, k_b102, k_b103, k_b104, k_b105, k_b107, k_b108, k_b109, k_b110, k_b112, k_b114, k_b115, k_b116, k_b117, k_b120, k_b121, k_b122, k_s160, k_s200, k_s255, k_s256, k_s999, k_s2048, k_s4095, k_s9999, k_s10000, k_s12345, k_narI, k_narZ0, k_narZ1, k_ffalse, k_ts0, k_ts1, k_tw0, k_tw1, k_rt, k_rn, Nat.reduceAdd, Nat.zero_add, Nat.reduceLeDiff, Nat.reduceLT, Int.reduceAdd, Int.zero_add, true_and, and_true, List.set_cons_zero, List.set_cons_succ, eq_self, k_n2, k_n3, k_n4, k_n5, k_n6, k_n7, k_n8, k_n9, k_n10, k_n12, k_nn, true_or, or_true, false_or, or_false, k_z10, not_false_eq_true, not_true_eq_false, true_imp_iff, false_imp_iff, n_X4_write, r_X4_write, g_X4_write_0, b_X4_write_0, bk_X4_write_0, g_X4_write_19, bk_X4_write_19, g_X4_write_44, bk_X4_write_44, t_X4_write_9_19, t_X4_write_34_44, x_X4_write_g35, x_X4_write_g212, x_X4_write_c49, x_X4_write_v163, x_X4_write_v50, x_X4_write_v213, x_X4_write_v45, f_X4_isWithin, f_X4_found, f_X1_isThere, q00, q01, q02, q03, q04, q05, q06, s1, s2, s3, r3, r14, r15, r16, s12, s13, r134, r135, s14, s15, r15a, s39, r39, f_X4_findingOfSheet, f_X2_put]
  refine ⟨w, hS, fun z => ?_, fun a ha ei => ⟨fun z => ?_, fun z => ?_⟩⟩
  · rw [wi_f z, if_neg (by decide)] at h
    exact ⟨fun y => absurd y (by decide), fun _ => oS_g h (by omega) (by decide)⟩
  · have hw : wthn i 3 := by rw [ei]; exact ⟨nI_pos' (by omega), nI_le (b := 3) (by omega) (by omega)⟩
    rw [if_pos (wi_t hw), ei, cl4 ha, if_pos z] at h
    exact ⟨fun y => absurd y (by decide), fun _ => oS_g h (by omega) (by decide)⟩
  · have hw : wthn i 3 := by rw [ei]; exact ⟨nI_pos' (by omega), nI_le (b := 3) (by omega) (by omega)⟩
    obtain ⟨-, n, hn40, hn⟩ := hIS a ha
    rw [if_pos (wi_t hw), ei, cl4 ha, if_neg z, hn] at h
    rw [ei, cl4 ha, (hS a ha).2.1, (hS a ha).1, hn]
    refine ⟨in4 ha, s40 ha, fun y => ⟨in4 ha, s40 ha, SBi ha, ?_⟩, fun y => ?_⟩
    · rw [if_pos (wi_t y)] at h
      obtain ⟨q, hq, rfl⟩ := wm1 hn40 y
      rw [cl40 (by omega)] at h
      exact ⟨q, n, hq, hn40, rfl, rfl, h _ (RS_nm hS ha) (FrS_set (FrS_rf μ) (by omega) (by omega))⟩
    · rw [wi_f y, if_neg (by decide)] at h
      exact oS_g h (by omega) (by decide)
theorem ok_X4_write : am_OK (⟨"CarpetLane", "write", "(III)I"⟩ : MethodName) prog_1_method_35_code 5 (some .int) rm_X4_write sp_X4_write := am_mok (cd := cd_X4_write) E_X4_write (by decide +kernel) rfl eo_X4_write (by decide +kernel) (by decide +kernel) (q_RIII_h (by decide)) (q_RIII_b bd_X4_write)
/-- n numbers of sheet a from f on come to sheet c from t on -/
def wCp (w : wS) (a c f t n : Nat) : wS := (w.1, w.2.1, (fun x q => if x = c then va_cpy (w.2.2 a) (w.2.2 c) f t n q else w.2.2 x q))
def rw3 (f n z : Int32) : Bool := decide (0 ≤ f) && decide (0 ≤ n) && decide (f ≤ z - n)
def p_copy (i f j t n : Int32) (w : wS) : OutS := if wi i 3 = true then (if wi j 3 = true then (if w.1 i.toNatClampNeg = 0 ∨ w.1 j.toNatClampNeg = 0 then .inr 5 else if w.1 i.toNatClampNeg = w.1 j.toNatClampNeg then (if rw3 f n (w.2.1 i.toNatClampNeg) = true then (if rw3 t n (w.2.1 j.toNatClampNeg) = true then .inl (n, wCp w i.toNatClampNeg j.toNatClampNeg f.toNatClampNeg t.toNatClampNeg n.toNatClampNeg) else .inr 0) else .inr 0) else .inr 2) else .inr 0) else .inr 0
def f_X4_copy (k : Nat) (i f j t n : Int32) (μ : am_M) (Q : am_Q) : Prop := k = 0 ∧ ∃ w, RS μ w ∧ IS w ∧ oS (p_copy i f j t n w) μ Q
theorem rw3_t {f n z : Int32} (h : 0 ≤ f ∧ 0 ≤ n ∧ f ≤ z - n) : rw3 f n z = true := by unfold rw3; simp [h.1, h.2.1, h.2.2]
theorem rw3_f {f n z : Int32} (h : ¬ (0 ≤ f ∧ 0 ≤ n ∧ f ≤ z - n)) : ¬ rw3 f n z = true := by
  unfold rw3
  simp only [Bool.and_eq_true, decide_eq_true_iff]
  exact fun y => h ⟨y.1.1, y.1.2, y.2⟩
theorem row_in {f n : Int32} {z : Nat} (hz : z ≤ 40) (h : 0 ≤ f ∧ 0 ≤ n ∧ f ≤ nI z - n) : f.toNatClampNeg + n.toNatClampNeg ≤ z := by
  obtain ⟨a, ha, rfl⟩ := nI_of (Int32.not_lt.mpr h.1)
  obtain ⟨b, hb, rfl⟩ := nI_of (Int32.not_lt.mpr h.2.1)
  rw [nI_clamp ha, nI_clamp hb]
  have h3 := Int32.le_iff_toInt_le.mp h.2.2
  rw [nI_toInt ha, Int32.toInt_sub, nI_toInt hb, nI_toInt (by omega)] at h3
  have : (((z : Int) - (b : Int)).bmod (2 ^ 32)) = (z : Int) - b := by
    apply Int.bmod_eq_of_le <;> omega
  rw [this] at h3
  omega
theorem RS_cp {μ : am_M} {w : wS} {a c f t n : Nat} (h : RS μ w) (ha : a < 4) (hc : c < 4) (hf : f + n ≤ 40) : RS (am_cpm μ (40 + a + 4) (40 + c + 4) f t n) (wCp w a c f t n) := by
  intro x hx
  obtain ⟨h1, h2, h3⟩ := h x hx
  refine ⟨by rw [cpm_ne (by omega)]; exact h1, by rw [cpm_ne (by omega)]; exact h2, fun q hq => ?_⟩
  by_cases e : x = c
  · subst e
    simp only [am_cpm, wCp, if_true, va_cpy]
    by_cases e2 : t ≤ q ∧ q < t + n
    · rw [if_pos e2, if_pos e2]
      exact (h a ha).2.2 _ (by omega)
    · rw [if_neg e2, if_neg e2]
      exact h3 q hq
  · rw [cpm_ne (by omega), h3 q hq]
    simp only [wCp, if_neg e]
def sp_X4_copy : am_Sp := q_RIIIII f_X4_copy
def bk_X4_copy_0 : List Instr := [.aload_n 0, .iload_n 1, .iload_n 3, .invokevirtual 215, .istore 6, .iload 6, .ifCond .eq 10, .aload_n 0, .iload 6, .invokevirtual 50, .ireturn]
def bk_X4_copy_20 : List Instr := [.aload_n 0, .getfield 35, .iload_n 1, .aaload, .getfield 218, .aload_n 0, .getfield 35, .iload_n 3, .aaload, .getfield 218, .if_icmp .eq 10, .aload_n 0, .ldc 207, .invokevirtual 50, .ireturn]
def bk_X4_copy_48 : List Instr := [.aload_n 0, .getfield 35, .iload_n 1, .aaload, .iload_n 2, .iload 5, .invokevirtual 221, .ifCond .eq 19, .aload_n 0, .getfield 35, .iload_n 3, .aaload, .iload 4, .iload 5, .invokevirtual 221, .ifCond .ne 10]
def bk_X4_copy_79 : List Instr := [.aload_n 0, .ldc 49, .invokevirtual 50, .ireturn]
def bk_X4_copy_86 : List Instr := [.aload_n 0, .getfield 35, .iload_n 1, .aaload, .getfield 224, .iload_n 2, .aload_n 0, .getfield 35, .iload_n 3, .aaload, .getfield 224, .iload 4, .iload 5, .invokestatic 227, .iload 5, .ireturn]
def cd_X4_copy : am_cd := [(0, bk_X4_copy_0), (20, bk_X4_copy_20), (48, bk_X4_copy_48), (79, bk_X4_copy_79), (86, bk_X4_copy_86)]
def E_X4_copy : am_E := (7, .int, [(35, 4, 5), (218, 2, 0), (224, 2, 2)], [(207, .int (-1000003)), (49, .int (-1000001))], [], [(215, 4, 2, sp_X4_findingOfSheets), (50, 4, 1, sp_X4_found), (221, 2, 2, sp_X2_hasRow)], [], [227])
theorem n_X4_copy : am_nL E_X4_copy = 7 := Eq.trans rfl rfl
theorem r_X4_copy : am_rt E_X4_copy = .int := Eq.trans rfl rfl
theorem g_X4_copy_0 {At : am_J} {Q : am_Q} {n : Nat} {L S : List Value} {μ : am_M} : am_go E_X4_copy cd_X4_copy [] At Q (n + 1) 0 L S μ = am_blk E_X4_copy (am_go E_X4_copy cd_X4_copy [] At Q n) Q bk_X4_copy_0 0 L S μ := Eq.trans rfl rfl
theorem b_X4_copy_0 {gt : am_J} {Q : am_Q} {L S : List Value} {μ : am_M} : am_blk E_X4_copy gt Q (am_lk [] cd_X4_copy 0) 0 L S μ = am_blk E_X4_copy gt Q bk_X4_copy_0 0 L S μ := Eq.trans rfl rfl
theorem g_X4_copy_20 {At : am_J} {Q : am_Q} {n : Nat} {L S : List Value} {μ : am_M} : am_go E_X4_copy cd_X4_copy [] At Q (n + 1) 20 L S μ = am_blk E_X4_copy (am_go E_X4_copy cd_X4_copy [] At Q n) Q bk_X4_copy_20 20 L S μ := Eq.trans rfl rfl
theorem g_X4_copy_48 {At : am_J} {Q : am_Q} {n : Nat} {L S : List Value} {μ : am_M} : am_go E_X4_copy cd_X4_copy [] At Q (n + 1) 48 L S μ = am_blk E_X4_copy (am_go E_X4_copy cd_X4_copy [] At Q n) Q bk_X4_copy_48 48 L S μ := Eq.trans rfl rfl
theorem g_X4_copy_79 {At : am_J} {Q : am_Q} {n : Nat} {L S : List Value} {μ : am_M} : am_go E_X4_copy cd_X4_copy [] At Q (n + 1) 79 L S μ = am_blk E_X4_copy (am_go E_X4_copy cd_X4_copy [] At Q n) Q bk_X4_copy_79 79 L S μ := Eq.trans rfl rfl
theorem g_X4_copy_86 {At : am_J} {Q : am_Q} {n : Nat} {L S : List Value} {μ : am_M} : am_go E_X4_copy cd_X4_copy [] At Q (n + 1) 86 L S μ = am_blk E_X4_copy (am_go E_X4_copy cd_X4_copy [] At Q n) Q bk_X4_copy_86 86 L S μ := Eq.trans rfl rfl
theorem t_X4_copy_10_20 : am_tg 10 10 = 20 := Eq.trans rfl rfl
theorem t_X4_copy_38_48 : am_tg 38 10 = 48 := Eq.trans rfl rfl
theorem t_X4_copy_60_79 : am_tg 60 19 = 79 := Eq.trans rfl rfl
theorem t_X4_copy_76_86 : am_tg 76 10 = 86 := Eq.trans rfl rfl
theorem x_X4_copy_g35 {pc : Nat} {L S : List Value} {μ : am_M} {nx : am_K} {jp : am_J} {Q : am_Q} {k : Nat} : am_st E_X4_copy pc (.getfield 35) L (.ref k :: S) μ nx jp Q = (am_sh k = (4, 0) ∧ nx L (.ref (am_rf k 5) :: S) μ) := Eq.trans rfl rfl
theorem x_X4_copy_g218 {pc : Nat} {L S : List Value} {μ : am_M} {nx : am_K} {jp : am_J} {Q : am_Q} {k : Nat} : am_st E_X4_copy pc (.getfield 218) L (.ref k :: S) μ nx jp Q = (am_sh k = (2, 0) ∧ nx L (.int (μ.1 k 0) :: S) μ) := Eq.trans rfl rfl
theorem x_X4_copy_g224 {pc : Nat} {L S : List Value} {μ : am_M} {nx : am_K} {jp : am_J} {Q : am_Q} {k : Nat} : am_st E_X4_copy pc (.getfield 224) L (.ref k :: S) μ nx jp Q = (am_sh k = (2, 0) ∧ nx L (.ref (am_rf k 2) :: S) μ) := Eq.trans rfl rfl
theorem x_X4_copy_c207 {pc : Nat} {L S : List Value} {μ : am_M} {nx : am_K} {jp : am_J} {Q : am_Q} : am_st E_X4_copy pc (.ldc 207) L S μ nx jp Q = nx L (.int (-1000003) :: S) μ := Eq.trans rfl rfl
theorem x_X4_copy_c49 {pc : Nat} {L S : List Value} {μ : am_M} {nx : am_K} {jp : am_J} {Q : am_Q} : am_st E_X4_copy pc (.ldc 49) L S μ nx jp Q = nx L (.int (-1000001) :: S) μ := Eq.trans rfl rfl
theorem x_X4_copy_v215 {pc : Nat} {L S : List Value} {μ : am_M} {nx : am_K} {jp : am_J} {Q : am_Q} {k : Nat} {a0 : Int32} {a1 : Int32} : am_st E_X4_copy pc (.invokevirtual 215) L (.int a1 :: .int a0 :: .ref k :: S) μ nx jp Q = (am_sh k = (4, 0) ∧ am_csum S ≤ 8 ∧ f_X4_findingOfSheets k a0 a1 μ (fun r μ' => nx L (r.toList ++ S) μ')) := Eq.trans rfl rfl
theorem x_X4_copy_v50 {pc : Nat} {L S : List Value} {μ : am_M} {nx : am_K} {jp : am_J} {Q : am_Q} {k : Nat} {a0 : Int32} : am_st E_X4_copy pc (.invokevirtual 50) L (.int a0 :: .ref k :: S) μ nx jp Q = (am_sh k = (4, 0) ∧ am_csum S ≤ 8 ∧ f_X4_found k a0 μ (fun r μ' => nx L (r.toList ++ S) μ')) := Eq.trans rfl rfl
theorem x_X4_copy_v221 {pc : Nat} {L S : List Value} {μ : am_M} {nx : am_K} {jp : am_J} {Q : am_Q} {k : Nat} {a0 : Int32} {a1 : Int32} : am_st E_X4_copy pc (.invokevirtual 221) L (.int a1 :: .int a0 :: .ref k :: S) μ nx jp Q = (am_sh k = (2, 0) ∧ am_csum S ≤ 8 ∧ f_X2_hasRow k a0 a1 μ (fun r μ' => nx L (r.toList ++ S) μ')) := Eq.trans rfl rfl
theorem x_X4_copy_a227 {pc : Nat} {L S : List Value} {μ : am_M} {nx : am_K} {jp : am_J} {Q : am_Q} {a b : Nat} {n dp sp : Int32} : am_st E_X4_copy pc (.invokestatic 227) L (.int n :: .int dp :: .ref b :: .int sp :: .ref a :: S) μ nx jp Q = ((am_sh a).1 = 10 ∧ (am_sh b).1 = 10 ∧ ¬ sp < 0 ∧ ¬ dp < 0 ∧ ¬ n < 0 ∧ sp.toNatClampNeg + n.toNatClampNeg ≤ (am_sh a).2 ∧ dp.toNatClampNeg + n.toNatClampNeg ≤ (am_sh b).2 ∧ am_csum S = 0 ∧ nx L S (am_cpm μ a b sp.toNatClampNeg dp.toNatClampNeg n.toNatClampNeg)) := Eq.trans rfl rfl
def rm_X4_copy : Room := { frames := 2, cells := 0, slots := 0, locals := 43 }
theorem eo_X4_copy : am_EO "CarpetLane" rm_X4_copy E_X4_copy := ⟨(List.forall_mem_cons.mpr ⟨Or.inl ⟨_, rfl, by decide, am_in 212 (by decide +kernel) (by decide +kernel), by decide⟩, (List.forall_mem_cons.mpr ⟨Or.inl ⟨_, rfl, by decide, am_in 195 (by decide +kernel) (by decide +kernel), by decide⟩, (List.forall_mem_cons.mpr ⟨Or.inl ⟨_, rfl, by decide, am_in 199 (by decide +kernel) (by decide +kernel), by decide⟩, (fun _ h => absurd h List.not_mem_nil)⟩)⟩)⟩), (List.forall_mem_cons.mpr ⟨am_in 685 (by decide +kernel) (by decide +kernel), (List.forall_mem_cons.mpr ⟨am_in 237 (by decide +kernel) (by decide +kernel), (fun _ h => absurd h List.not_mem_nil)⟩)⟩), (fun _ h => absurd h List.not_mem_nil), (List.forall_mem_cons.mpr ⟨am_mkV ok_X4_findingOfSheets wv_X4_findingOfSheets (am_in 709 (by decide +kernel) (by decide +kernel)) ⟨rfl, rfl, by decide, by decide⟩, (List.forall_mem_cons.mpr ⟨am_mkV ok_X4_found wv_X4_found (am_in 238 (by decide +kernel) (by decide +kernel)) ⟨rfl, rfl, by decide, by decide⟩, (List.forall_mem_cons.mpr ⟨am_mkV ok_X2_hasRow wv_X2_hasRow (am_in 713 (by decide +kernel) (by decide +kernel)) ⟨rfl, rfl, by decide, by decide⟩, (fun _ h => absurd h List.not_mem_nil)⟩)⟩)⟩), (fun _ h => absurd h List.not_mem_nil), (List.forall_mem_cons.mpr ⟨⟨am_in 717 (by decide +kernel) (by decide +kernel), by decide, by decide⟩, (fun _ h => absurd h List.not_mem_nil)⟩)⟩
theorem wv_X4_copy : am_WV (⟨"CarpetLane", "copy", "(IIIII)I"⟩ : MethodName) prog_1_method_36_code 7 (some .int) 5 4 := ⟨am_in 59 (by decide +kernel) (by decide +kernel), am_in 708 (by decide +kernel) (by decide +kernel), by decide +kernel, rfl, by decide, am_in 706 (by decide +kernel) (by decide +kernel), am_in 707 (by decide +kernel) (by decide +kernel)⟩
theorem bd_X4_copy (k : Nat) (i : Int32) (f : Int32) (j : Int32) (t : Int32) (n : Int32) (μ : am_M) (Q : am_Q) (At : am_J) (hA : am_ok E_X4_copy cd_X4_copy Q At) (h : f_X4_copy k i f j t n μ Q) : At 0 (am_en [.ref k, .int i, .int f, .int j, .int t, .int n] 7) [] μ := by
  obtain ⟨rfl, w, hS, hIS, h⟩ := h
  unfold p_copy at h
  refine hA [] 60 0 _ _ _ ?_; show am_blk _ _ _ _ _ [_, _, _, _, _, _, .null] _ _
  simp only [s_aload_0, s_iload_0, s_lload_0, s_istore_0, s_lstore_0, s_astore_0, s_aload_1, s_iload_1, s_lload_1, s_istore_1, s_lstore_1, s_astore_1, s_aload_2, s_iload_2, s_lload_2, s_istore_2, s_lstore_2, s_astore_2, s_aload_3, s_iload_3, s_lload_3, s_istore_3, s_lstore_3, s_astore_3, s_aload, s_iload, s_lload, s_istore, s_lstore, s_astore, s_iconst, s_bipush, s_sipush, s_lconst_0, s_lconst_1, s_iinc, s_iadd, s_isub, s_imul, s_iand, s_ior, s_ixor, s_ishl, s_ishr, s_iushr, s_idiv, s_irem, s_ladd, s_lsub, s_lmul, s_ldiv, s_lrem, s_lcmp, s_i2l, s_l2i, s_i2b, s_i2s, s_i2c, s_dupI, s_dupR, s_dup2IR, s_dupx1, s_popI, s_if_eq, s_if_ne, s_if_lt, s_if_ge, s_if_gt, s_if_le, s_cmp_eq, s_cmp_ne, s_cmp_lt, s_cmp_ge, s_cmp_gt, s_cmp_le, s_goto, s_tsw, s_iaload, s_baload, s_caload, s_aaload, s_iastore, s_bastore, s_alen, s_ireturn, s_lreturn, s_return, am_lI_0, am_lI_S, am_lL_0, am_lL_S, am_lR_0, am_lR_S, am_sto_0, am_sto_1I, am_sto_1R, am_sto_1N, am_sto_1L, am_sto_S, am_stL_d, am_blk_0, am_blk_1, am_ln_aload_n, am_ln_iload_n, am_ln_lload_n, am_ln_istore_n, am_ln_lstore_n, am_ln_astore_n, am_ln_iconst, am_ln_lconst, am_ln_iadd, am_ln_isub, am_ln_imul, am_ln_idiv, am_ln_irem, am_ln_iand, am_ln_ior, am_ln_ixor, am_ln_ishl, am_ln_ishr, am_ln_iushr, am_ln_ladd, am_ln_lsub, am_ln_lmul, am_ln_ldiv, am_ln_lrem, am_ln_lcmp, am_ln_i2l, am_ln_l2i, am_ln_i2b, am_ln_i2s, am_ln_i2c, am_ln_dup, am_ln_dup2, am_ln_dup_x1, am_ln_pop, am_ln_iaload, am_ln_iastore, am_ln_baload, am_ln_bastore, am_ln_caload, am_ln_aaload, am_ln_arraylength, am_ln_ireturn, am_ln_lreturn, am_ln_return_, am_ln_aload, am_ln_iload, am_ln_lload, am_ln_istore, am_ln_lstore, am_ln_astore, am_ln_bipush, am_ln_ldc, am_ln_sipush, am_ln_ldc_w, am_ln_ldc2_w, am_ln_iinc, am_ln_ifCond, am_ln_if_icmp, am_ln_goto, am_ln_getfield, am_ln_putfield, am_ln_getstatic, am_ln_invokevirtual, am_ln_invokestatic, am_csum_0, am_csum_I, am_csum_R, am_csum_L, k_im16, k_im8, k_im4, k_im2, k_im1, k_i0, k_i1, k_i2, k_i3, k_i4, k_i5, k_i6, k_i7, k_i8, k_i9, k_i10, k_i11, k_i12, k_i13, k_i14, k_i15, k_i16, k_i17, k_i18, k_i19, k_i20, k_i21, k_i22, k_i23, k_i24, k_i25, k_i26, k_i27, k_i28, k_i29, k_i30, k_i31, k_i32, k_i33, k_i34, k_i35, k_i36, k_i37, k_i38, k_i39, k_i40, k_i41, k_b6, k_b7, k_b8, k_b9, k_b10, k_b11, k_b12, k_b13, k_b14, k_b15, k_b16, k_b17, k_b18, k_b19, k_b20, k_b21, k_b22, k_b23, k_b24, k_b25, k_b26, k_b27, k_b28, k_b29, k_b30, k_b31, k_b32, k_b33, k_b34, k_b35, k_b36, k_b37, k_b38, k_b39, k_b40, k_b41, k_b42, k_b43, k_b44, k_b45, k_b46, k_b47, k_b48, k_b49, k_b50, k_b51, k_b52, k_b53, k_b54, k_b55, k_b56, k_b57, k_b58, k_b59, k_b60, k_b61, k_b62, k_b63, k_b66, k_b76, k_b97, k_b98, k_b99, k_b100, k_b101, k_b102, k_b103, k_b104, k_b105, k_b107, k_b108, k_b109, k_b110, k_b112, k_b114, k_b115, k_b116, k_b117, k_b120, k_b121, k_b122, k_s160, k_s200, k_s255, k_s256, k_s999, k_s2048, k_s4095, k_s9999, k_s10000, k_s12345, k_narI, k_narZ0, k_narZ1, k_ffalse, k_ts0, k_ts1, k_tw0, k_tw1, k_rt, k_rn, Nat.reduceAdd, Nat.zero_add, Nat.reduceLeDiff, Nat.reduceLT, Int.reduceAdd, Int.zero_add, true_and, and_true, List.set_cons_zero, List.set_cons_succ, eq_self, k_n2, k_n3, k_n4, k_n5, k_n6, k_n7, k_n8, k_n9, k_n10, k_n12, k_nn, true_or, or_true, false_or, or_false, k_z10, not_false_eq_true, not_true_eq_false, true_imp_iff, false_imp_iff, n_X4_copy, r_X4_copy, g_X4_copy_0, b_X4_copy_0, bk_X4_copy_0, g_X4_copy_20, bk_X4_copy_20, g_X4_copy_48, bk_X4_copy_48, g_X4_copy_79, bk_X4_copy_79, g_X4_copy_86, bk_X4_copy_86, t_X4_copy_10_20, t_X4_copy_38_48, t_X4_copy_60_79, t_X4_copy_76_86, x_X4_copy_g35, x_X4_copy_g218, x_X4_copy_g224, x_X4_copy_c207, x_X4_copy_c49, x_X4_copy_v215, x_X4_copy_v50, x_X4_copy_v221, x_X4_copy_a227, f_X4_isWithin, f_X4_found, f_X1_isThere, q00, q01, q02, q03, q04, q05, q06, s1, s2, s3, r3, r14, r15, r16, s12, s13, r134, r135, s14, s15, r15a, s39, r39, f_X4_findingOfSheets, f_X2_hasRow]
  refine ⟨w, hS, fun z => ?_, fun a c ha hc ei ej => ⟨fun z => ?_, fun z => ?_⟩⟩
  · refine ⟨fun y => absurd y (by decide), fun _ => ?_⟩
    by_cases z1 : wthn i 3
    · have z2 : ¬ wthn j 3 := fun y => z ⟨z1, y⟩
      rw [if_pos (wi_t z1), wi_f z2, if_neg (by decide)] at h
      exact oS_g h (by omega) (by decide)
    · rw [wi_f z1, if_neg (by decide)] at h
      exact oS_g h (by omega) (by decide)
  · have hw : wthn i 3 := by rw [ei]; exact ⟨nI_pos' (by omega), nI_le (b := 3) (by omega) (by omega)⟩
    have hw2 : wthn j 3 := by rw [ej]; exact ⟨nI_pos' (by omega), nI_le (b := 3) (by omega) (by omega)⟩
    rw [if_pos (wi_t hw), if_pos (wi_t hw2), ei, ej, cl4 ha, cl4 hc, if_pos z] at h
    exact ⟨fun y => absurd y (by decide), fun _ => oS_g h (by omega) (by decide)⟩
  · have hw : wthn i 3 := by rw [ei]; exact ⟨nI_pos' (by omega), nI_le (b := 3) (by omega) (by omega)⟩
    have hw2 : wthn j 3 := by rw [ej]; exact ⟨nI_pos' (by omega), nI_le (b := 3) (by omega) (by omega)⟩
    obtain ⟨-, n1, hn1, en1⟩ := hIS a ha
    obtain ⟨-, n2, hn2, en2⟩ := hIS c hc
    rw [if_pos (wi_t hw), if_pos (wi_t hw2), ei, ej, cl4 ha, cl4 hc, if_neg z] at h
    rw [ei, ej, cl4 ha, cl4 hc, (hS a ha).2.1, (hS a ha).1, (hS c hc).2.1, (hS c hc).1, r40 ha, r40 hc]
    refine ⟨in4 ha, s40 ha, in4 hc, s40 hc, fun y => ⟨in4 ha, s40 ha, SBi ha, fun y2 => ⟨in4 hc, s40 hc, SBi hc, fun y3 => ⟨in4 ha, s40 ha, in4 hc, s40 hc, ?_⟩, fun y3 => ?_⟩, fun y2 => ?_⟩, fun y => ?_⟩
    · rw [if_pos y, if_pos (rw3_t y2), if_pos (rw3_t y3)] at h
      rw [en1] at y2
      rw [en2] at y3
      have q1 := row_in hn1 y2
      have q2 := row_in hn2 y3
      rw [s44 ha, s44 hc]
      exact ⟨rfl, rfl, Int32.not_lt.mpr y2.1, Int32.not_lt.mpr y3.1, Int32.not_lt.mpr y2.2.1, by show _ ≤ 40; omega, by show _ ≤ 40; omega, h _ (RS_cp hS ha hc (by omega)) ⟨fun x hx => by funext q; exact cpm_ne (by omega), rfl⟩⟩
    · rw [if_pos y, if_pos (rw3_t y2), if_neg (rw3_f y3)] at h
      exact oS_g h (by omega) (by decide)
    · rw [if_pos y, if_neg (rw3_f y2)] at h
      exact oS_g h (by omega) (by decide)
    · rw [if_neg y] at h
      exact oS_g h (by omega) (by decide)
theorem ok_X4_copy : am_OK (⟨"CarpetLane", "copy", "(IIIII)I"⟩ : MethodName) prog_1_method_36_code 7 (some .int) rm_X4_copy sp_X4_copy := am_mok (cd := cd_X4_copy) E_X4_copy (by decide +kernel) rfl eo_X4_copy (by decide +kernel) (by decide +kernel) (q_RIIIII_h (by decide)) (q_RIIIII_b bd_X4_copy)
