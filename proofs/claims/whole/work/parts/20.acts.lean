/-! ===== what a public act answers: (answer, lane then), or the number of a finding ===== -/
abbrev Out : Type := (Int32 × cS) ⊕ Nat
def wi (v m : Int32) : Bool := decide (0 ≤ v) && decide (v ≤ m)
theorem wi_t {v m : Int32} (h : wthn v m) : wi v m = true := by unfold wi; simp [h.1, h.2]
theorem wi_f {v m : Int32} (h : ¬ wthn v m) : wi v m = false := by
  cases e : wi v m with
  | false => rfl
  | true =>
    unfold wi at e
    simp at e
    exact absurd e h
theorem wi_nI {v : Int32} {k : Nat} (hk : k < 2 ^ 31) (h : wthn v (nI k)) : ∃ j, j ≤ k ∧ v = nI j := by
  obtain ⟨j, hj, rfl⟩ := nI_of (Int32.not_lt.mpr h.1)
  exact ⟨j, (nI_leI hj hk).mp h.2, rfl⟩
def th (s : cS) (c : Int32) : Bool := decide (0 ≤ c) && decide (c < s.1 1)
theorem th_t {s : cS} {c : Int32} (h : 0 ≤ c ∧ c < s.1 1) : th s c = true := by unfold th; simp [h.1, h.2]
theorem th_f {s : cS} {c : Int32} (h : ¬ (0 ≤ c ∧ c < s.1 1)) : th s c = false := by
  cases e : th s c with
  | false => rfl
  | true =>
    unfold th at e
    simp at e
    exact absurd e h
def FrX (μ μ' : am_M) : Prop := (∀ k, (k = 0 ∨ 25 ≤ k) → μ'.1 k = μ.1 k) ∧ μ'.2 = μ.2
theorem FrX_rf (μ : am_M) : FrX μ μ := ⟨fun _ _ => rfl, rfl⟩
theorem FrX_tr {x y z : am_M} (h1 : FrX x y) (h2 : FrX y z) : FrX x z := ⟨fun k hk => (h2.1 k hk).trans (h1.1 k hk), h2.2.trans h1.2⟩
theorem FrX_1 {x y : am_M} (h : Fr 1 x y) : FrX x y := ⟨fun k hk => h.1 k (by omega), h.2⟩
theorem FrX_13 {x y : am_M} (h : Fr 13 x y) : FrX x y := ⟨fun k hk => h.1 k (by omega), h.2⟩
def fnd (μ : am_M) (w : Nat) : am_M := am_set μ 48 w (μ.1 48 w + 1)
def oX (s : cS) (r : Out) (μ : am_M) (Q : am_Q) : Prop := match r with
  | .inl (x, s') => ∀ μ', Rp 1 μ' s' → FrX μ μ' → Q (some (.int x)) μ'
  | .inr w => ∀ μ', Rp 1 μ' s → FrX μ μ' → Q (some (.int (-1000001 - nI w))) (fnd μ' w)
theorem LB1 : LB 1 := Or.inl rfl
theorem LB13 : LB 13 := Or.inr (Or.inl rfl)
theorem LB25 : LB 25 := Or.inr (Or.inr rfl)
theorem q00 : am_sh 0 = (4, 0) := by decide
theorem q01 : am_rf 0 0 = 1 := by decide
theorem q02 : am_rf 0 1 = 13 := by decide
theorem q03 : am_rf 0 2 = 25 := by decide
theorem q04 : am_rf 0 4 = 37 := by decide
theorem q05 : am_rf 0 5 = 39 := by decide
theorem q06 : am_rf 0 6 = 48 := by decide
theorem q48 : am_sh 48 = (10, 7) := by decide
theorem s1 : am_sh 1 = (1, 0) := by decide
theorem r14 : am_rf 1 4 = 2 := by decide
theorem r15 : am_rf 1 5 = 3 := by decide
theorem r16 : am_rf 1 6 = 12 := by decide
theorem s2 : am_sh 2 = (10, 6) := by decide
theorem s3 : am_sh 3 = (13, 8) := by decide
theorem s12 : am_sh 12 = (10, 10) := by decide
theorem s13 : am_sh 13 = (1, 0) := by decide
theorem r3 (i : Nat) : am_rf 3 i = 4 + i := (LBf LB1).2.2.2.2.2.2.2.1 i
theorem s4 {i : Nat} (h : i < 8) : am_sh (4 + i) = (0, 0) := (LBf LB1).2.2.2.2.2.2.2.2 i h
theorem r134 : am_rf 13 4 = 14 := by decide
theorem r135 : am_rf 13 5 = 15 := by decide
theorem s14 : am_sh 14 = (10, 6) := by decide
theorem s15 : am_sh 15 = (13, 8) := by decide
theorem r15a (i : Nat) : am_rf 15 i = 16 + i := (LBf LB13).2.2.2.2.2.2.2.1 i
theorem s16 {i : Nat} (h : i < 8) : am_sh (16 + i) = (0, 0) := (LBf LB13).2.2.2.2.2.2.2.2 i h
def f_X4_found (k : Nat) (x : Int32) (μ : am_M) (Q : am_Q) : Prop := k = 0 ∧ ∃ w, w < 7 ∧ x = -1000001 - nI w ∧ Q (some (.int x)) (fnd μ w)
theorem low_w {w : Nat} (h : w < 7) : (-1000001 : Int32) - (-1000001 - nI w) = nI w := by
  match w, h with
  | 0, _ => decide
  | 1, _ => decide
  | 2, _ => decide
  | 3, _ => decide
  | 4, _ => decide
  | 5, _ => decide
  | 6, _ => decide
theorem in7 {i : Nat} (h : i < 7) : vp_in (nI i) 7 := vp_in_nI h (by omega)
theorem cl7 {i : Nat} (h : i < 7) : (nI i).toNatClampNeg = i := nI_clamp (by omega)
def sp_X4_found : am_Sp := q_RI f_X4_found
def bk_X4_found_0 : List Instr := [.ldc 49, .iload_n 1, .isub, .istore_n 2, .iload_n 2, .bipush 6, .invokestatic 45, .ifCond .eq 13, .aload_n 0, .getfield 40, .iload_n 2, .dup2, .iaload, .iconst 1, .iadd, .iastore]
def bk_X4_found_24 : List Instr := [.iload_n 1, .ireturn]
def cd_X4_found : am_cd := [(0, bk_X4_found_0), (24, bk_X4_found_24)]
def E_X4_found : am_E := (3, .int, [(40, 4, 6)], [(49, .int (-1000001))], [], [], [(45, 2, sp_X4_isWithin)], [])
theorem n_X4_found : am_nL E_X4_found = 3 := Eq.trans rfl rfl
theorem r_X4_found : am_rt E_X4_found = .int := Eq.trans rfl rfl
theorem g_X4_found_0 {At : am_J} {Q : am_Q} {n : Nat} {L S : List Value} {μ : am_M} : am_go E_X4_found cd_X4_found [] At Q (n + 1) 0 L S μ = am_blk E_X4_found (am_go E_X4_found cd_X4_found [] At Q n) Q bk_X4_found_0 0 L S μ := Eq.trans rfl rfl
theorem b_X4_found_0 {gt : am_J} {Q : am_Q} {L S : List Value} {μ : am_M} : am_blk E_X4_found gt Q (am_lk [] cd_X4_found 0) 0 L S μ = am_blk E_X4_found gt Q bk_X4_found_0 0 L S μ := Eq.trans rfl rfl
theorem g_X4_found_24 {At : am_J} {Q : am_Q} {n : Nat} {L S : List Value} {μ : am_M} : am_go E_X4_found cd_X4_found [] At Q (n + 1) 24 L S μ = am_blk E_X4_found (am_go E_X4_found cd_X4_found [] At Q n) Q bk_X4_found_24 24 L S μ := Eq.trans rfl rfl
theorem t_X4_found_11_24 : am_tg 11 13 = 24 := Eq.trans rfl rfl
theorem x_X4_found_g40 {pc : Nat} {L S : List Value} {μ : am_M} {nx : am_K} {jp : am_J} {Q : am_Q} {k : Nat} : am_st E_X4_found pc (.getfield 40) L (.ref k :: S) μ nx jp Q = (am_sh k = (4, 0) ∧ nx L (.ref (am_rf k 6) :: S) μ) := Eq.trans rfl rfl
theorem x_X4_found_c49 {pc : Nat} {L S : List Value} {μ : am_M} {nx : am_K} {jp : am_J} {Q : am_Q} : am_st E_X4_found pc (.ldc 49) L S μ nx jp Q = nx L (.int (-1000001) :: S) μ := Eq.trans rfl rfl
theorem x_X4_found_v45 {pc : Nat} {L S : List Value} {μ : am_M} {nx : am_K} {jp : am_J} {Q : am_Q} {a0 : Int32} {a1 : Int32} : am_st E_X4_found pc (.invokestatic 45) L (.int a1 :: .int a0 :: S) μ nx jp Q = (am_csum S ≤ 8 ∧ f_X4_isWithin a0 a1 μ (fun r μ' => nx L (r.toList ++ S) μ')) := Eq.trans rfl rfl
def rm_X4_found : Room := { frames := 1, cells := 0, slots := 0, locals := 21 }
theorem eo_X4_found : am_EO "CarpetLane" rm_X4_found E_X4_found := ⟨(List.forall_mem_cons.mpr ⟨Or.inl ⟨_, rfl, by decide, am_in 213 (by decide +kernel) (by decide +kernel), by decide⟩, (fun _ h => absurd h List.not_mem_nil)⟩), (List.forall_mem_cons.mpr ⟨am_in 237 (by decide +kernel) (by decide +kernel), (fun _ h => absurd h List.not_mem_nil)⟩), (fun _ h => absurd h List.not_mem_nil), (fun _ h => absurd h List.not_mem_nil), (List.forall_mem_cons.mpr ⟨am_mkS ok_X4_isWithin wv_X4_isWithin (Or.inl (am_in 234 (by decide +kernel) (by decide +kernel))) ⟨rfl, rfl, by decide, by decide⟩, (fun _ h => absurd h List.not_mem_nil)⟩), (fun _ h => absurd h List.not_mem_nil)⟩
theorem wv_X4_found : am_WV (⟨"CarpetLane", "found", "(I)I"⟩ : MethodName) prog_1_method_44_code 3 (some .int) 1 4 := ⟨am_in 59 (by decide +kernel) (by decide +kernel), am_in 241 (by decide +kernel) (by decide +kernel), by decide +kernel, rfl, by decide, am_in 240 (by decide +kernel) (by decide +kernel), am_in 0 (by decide +kernel) (by decide +kernel)⟩
theorem bd_X4_found (k : Nat) (x : Int32) (μ : am_M) (Q : am_Q) (At : am_J) (hA : am_ok E_X4_found cd_X4_found Q At) (h : f_X4_found k x μ Q) : At 0 (am_en [.ref k, .int x] 3) [] μ := by
  obtain ⟨rfl, w, hw, rfl, h⟩ := h
  have hwt : wthn (nI w) 6 := ⟨nI_pos' (by omega), nI_le (b := 6) (by omega) (by omega)⟩
  refine hA [] 60 0 _ _ _ ?_; show am_blk _ _ _ _ _ [_, _, .null] _ _
  simp only [s_aload_0, s_iload_0, s_lload_0, s_istore_0, s_lstore_0, s_astore_0, s_aload_1, s_iload_1, s_lload_1, s_istore_1, s_lstore_1, s_astore_1, s_aload_2, s_iload_2, s_lload_2, s_istore_2, s_lstore_2, s_astore_2, s_aload_3, s_iload_3, s_lload_3, s_istore_3, s_lstore_3, s_astore_3, s_aload, s_iload, s_lload, s_istore, s_lstore, s_astore, s_iconst, s_bipush, s_sipush, s_lconst_0, s_lconst_1, s_iinc, s_iadd, s_isub, s_imul, s_iand, s_ior, s_ixor, s_ishl, s_ishr, s_iushr, s_idiv, s_irem, s_ladd, s_lsub, s_lmul, s_ldiv, s_lrem, s_lcmp, s_i2l, s_l2i, s_i2b, s_i2s, s_i2c, s_dupI, s_dupR, s_dup2IR, s_dupx1, s_popI, s_if_eq, s_if_ne, s_if_lt, s_if_ge, s_if_gt, s_if_le, s_cmp_eq, s_cmp_ne, s_cmp_lt, s_cmp_ge, s_cmp_gt, s_cmp_le, s_goto, s_tsw, s_iaload, s_baload, s_caload, s_aaload, s_iastore, s_bastore, s_alen, s_ireturn, s_lreturn, s_return, am_lI_0, am_lI_S, am_lL_0, am_lL_S, am_lR_0, am_lR_S, am_sto_0, am_sto_1I, am_sto_1R, am_sto_1N, am_sto_1L, am_sto_S, am_stL_d, am_blk_0, am_blk_1, am_ln_aload_n, am_ln_iload_n, am_ln_lload_n, am_ln_istore_n, am_ln_lstore_n, am_ln_astore_n, am_ln_iconst, am_ln_lconst, am_ln_iadd, am_ln_isub, am_ln_imul, am_ln_idiv, am_ln_irem, am_ln_iand, am_ln_ior, am_ln_ixor, am_ln_ishl, am_ln_ishr, am_ln_iushr, am_ln_ladd, am_ln_lsub, am_ln_lmul, am_ln_ldiv, am_ln_lrem, am_ln_lcmp, am_ln_i2l, am_ln_l2i, am_ln_i2b, am_ln_i2s, am_ln_i2c, am_ln_dup, am_ln_dup2, am_ln_dup_x1, am_ln_pop, am_ln_iaload, am_ln_iastore, am_ln_baload, am_ln_bastore, am_ln_caload, am_ln_aaload, am_ln_arraylength, am_ln_ireturn, am_ln_lreturn, am_ln_return_, am_ln_aload, am_ln_iload, am_ln_lload, am_ln_istore, am_ln_lstore, am_ln_astore, am_ln_bipush, am_ln_ldc, am_ln_sipush, am_ln_ldc_w, am_ln_ldc2_w, am_ln_iinc, am_ln_ifCond, am_ln_if_icmp, am_ln_goto, am_ln_getfield, am_ln_putfield, am_ln_getstatic, am_ln_invokevirtual, am_ln_invokestatic, am_csum_0, am_csum_I, am_csum_R, am_csum_L, k_im16, k_im8, k_im4, k_im2, k_im1, k_i0, k_i1, k_i2, k_i3, k_i4, k_i5, k_i6, k_i7, k_i8, k_i9, k_i10, k_i11, k_i12, k_i13, k_i14, k_i15, k_i16, k_i17, k_i18, k_i19, k_i20, k_i21, k_i22, k_i23, k_i24, k_i25, k_i26, k_i27, k_i28, k_i29, k_i30, k_i31, k_i32, k_i33, k_i34, k_i35, k_i36, k_i37, k_i38, k_i39, k_i40, k_i41, k_b6, k_b7, k_b8, k_b9, k_b10, k_b11, k_b12, k_b13, k_b14, k_b15, k_b16, k_b17, k_b18, k_b19, k_b20, k_b21, k_b22, k_b23, k_b24, k_b25, k_b26, k_b27, k_b28, k_b29, k_b30, k_b31, k_b32, k_b33, k_b34, k_b35, k_b36, k_b37, k_b38, k_b39, k_b40, k_b41, k_b42, k_b43, k_b44, k_b45, k_b46, k_b47, k_b48, k_b49, k_b50, k_b51, k_b52, k_b53, k_b54, k_b55, k_b56, k_b57, k_b58, k_b59, k_b60, k_b61, k_b62, k_b63, k_b66, k_b76, k_b97, k_b98, k_b99, k_b100, k_b101, k_b102, k_b103, k_b104, k_b105, k_b107, k_b108, k_b109, k_b110, k_b112, k_b114, k_b115, k_b116, k_b117, k_b120, k_b121, k_b122, k_s160, k_s200, k_s255, k_s256, k_s999, k_s2048, k_s4095, k_s9999, k_s10000, k_s12345, k_narI, k_narZ0, k_narZ1, k_ffalse, k_ts0, k_ts1, k_tw0, k_tw1, k_rt, k_rn, Nat.reduceAdd, Nat.zero_add, Nat.reduceLeDiff, Nat.reduceLT, Int.reduceAdd, Int.zero_add, true_and, and_true, List.set_cons_zero, List.set_cons_succ, eq_self, k_n2, k_n3, k_n4, k_n5, k_n6, k_n7, k_n8, k_n9, k_n10, k_n12, k_nn, true_or, or_true, false_or, or_false, k_z10, not_false_eq_true, not_true_eq_false, true_imp_iff, false_imp_iff, n_X4_found, r_X4_found, g_X4_found_0, b_X4_found_0, bk_X4_found_0, g_X4_found_24, bk_X4_found_24, t_X4_found_11_24, x_X4_found_g40, x_X4_found_c49, x_X4_found_v45, low_w hw, f_X4_isWithin, q00, q06, ial10 q48, q48, in7 hw, cl7 hw]
  exact ⟨fun _ => h, fun q => absurd hwt q⟩
theorem ok_X4_found : am_OK (⟨"CarpetLane", "found", "(I)I"⟩ : MethodName) prog_1_method_44_code 3 (some .int) rm_X4_found sp_X4_found := am_mok (cd := cd_X4_found) E_X4_found (by decide +kernel) rfl eo_X4_found (by decide +kernel) (by decide +kernel) (q_RI_h (by decide)) (q_RI_b bd_X4_found)
theorem oX_g {s : cS} {w : Nat} {μ μ' : am_M} {Q : am_Q} (h : oX s (.inr w) μ Q) (hw : w < 7) (hR : Rp 1 μ' s) (hF : FrX μ μ') {x : Int32} (hx : x = -1000001 - nI w) : ∃ w, w < 7 ∧ x = -1000001 - nI w ∧ Q (some (.int x)) (fnd μ' w) := ⟨w, hw, hx, by rw [hx]; exact h μ' hR hF⟩
/-! the acts -/
def p_air (v : Int32) (s : cS) : Out := if wi v 99999 = true then .inl (s.1 3, wsc s 3 v) else .inr 0
def f_X4_air (k : Nat) (v : Int32) (μ : am_M) (Q : am_Q) : Prop := k = 0 ∧ ∃ s, Rp 1 μ s ∧ Iv s ∧ oX s (p_air v s) μ Q
def sp_X4_air : am_Sp := q_RI f_X4_air
def bk_X4_air_0 : List Instr := [.iload_n 1, .ldc 44, .invokestatic 45, .ifCond .ne 10, .aload_n 0, .ldc 49, .invokevirtual 50, .ireturn]
def bk_X4_air_16 : List Instr := [.aload_n 0, .getfield 12, .getfield 54, .istore_n 2, .aload_n 0, .getfield 12, .iload_n 1, .putfield 54, .iload_n 2, .ireturn]
def cd_X4_air : am_cd := [(0, bk_X4_air_0), (16, bk_X4_air_16)]
def E_X4_air : am_E := (3, .int, [(12, 4, 0), (54, 1, 1)], [(44, .int 99999), (49, .int (-1000001))], [], [(50, 4, 1, sp_X4_found)], [(45, 2, sp_X4_isWithin)], [])
theorem n_X4_air : am_nL E_X4_air = 3 := Eq.trans rfl rfl
theorem r_X4_air : am_rt E_X4_air = .int := Eq.trans rfl rfl
theorem g_X4_air_0 {At : am_J} {Q : am_Q} {n : Nat} {L S : List Value} {μ : am_M} : am_go E_X4_air cd_X4_air [] At Q (n + 1) 0 L S μ = am_blk E_X4_air (am_go E_X4_air cd_X4_air [] At Q n) Q bk_X4_air_0 0 L S μ := Eq.trans rfl rfl
theorem b_X4_air_0 {gt : am_J} {Q : am_Q} {L S : List Value} {μ : am_M} : am_blk E_X4_air gt Q (am_lk [] cd_X4_air 0) 0 L S μ = am_blk E_X4_air gt Q bk_X4_air_0 0 L S μ := Eq.trans rfl rfl
theorem g_X4_air_16 {At : am_J} {Q : am_Q} {n : Nat} {L S : List Value} {μ : am_M} : am_go E_X4_air cd_X4_air [] At Q (n + 1) 16 L S μ = am_blk E_X4_air (am_go E_X4_air cd_X4_air [] At Q n) Q bk_X4_air_16 16 L S μ := Eq.trans rfl rfl
theorem t_X4_air_6_16 : am_tg 6 10 = 16 := Eq.trans rfl rfl
theorem x_X4_air_g12 {pc : Nat} {L S : List Value} {μ : am_M} {nx : am_K} {jp : am_J} {Q : am_Q} {k : Nat} : am_st E_X4_air pc (.getfield 12) L (.ref k :: S) μ nx jp Q = (am_sh k = (4, 0) ∧ nx L (.ref (am_rf k 0) :: S) μ) := Eq.trans rfl rfl
theorem x_X4_air_g54 {pc : Nat} {L S : List Value} {μ : am_M} {nx : am_K} {jp : am_J} {Q : am_Q} {k : Nat} : am_st E_X4_air pc (.getfield 54) L (.ref k :: S) μ nx jp Q = (am_sh k = (1, 0) ∧ nx L (.int (μ.1 k 1) :: S) μ) := Eq.trans rfl rfl
theorem x_X4_air_p54 {pc : Nat} {L S : List Value} {μ : am_M} {nx : am_K} {jp : am_J} {Q : am_Q} {k : Nat} {x : Int32} : am_st E_X4_air pc (.putfield 54) L (.int x :: .ref k :: S) μ nx jp Q = (am_sh k = (1, 0) ∧ 1 < 6 ∧ (0 : Nat) = 0 ∧ (false = true → x = 0 ∨ x = 1) ∧ nx L S (am_set μ k 1 x)) := Eq.trans rfl rfl
theorem x_X4_air_c44 {pc : Nat} {L S : List Value} {μ : am_M} {nx : am_K} {jp : am_J} {Q : am_Q} : am_st E_X4_air pc (.ldc 44) L S μ nx jp Q = nx L (.int 99999 :: S) μ := Eq.trans rfl rfl
theorem x_X4_air_c49 {pc : Nat} {L S : List Value} {μ : am_M} {nx : am_K} {jp : am_J} {Q : am_Q} : am_st E_X4_air pc (.ldc 49) L S μ nx jp Q = nx L (.int (-1000001) :: S) μ := Eq.trans rfl rfl
theorem x_X4_air_v50 {pc : Nat} {L S : List Value} {μ : am_M} {nx : am_K} {jp : am_J} {Q : am_Q} {k : Nat} {a0 : Int32} : am_st E_X4_air pc (.invokevirtual 50) L (.int a0 :: .ref k :: S) μ nx jp Q = (am_sh k = (4, 0) ∧ am_csum S ≤ 8 ∧ f_X4_found k a0 μ (fun r μ' => nx L (r.toList ++ S) μ')) := Eq.trans rfl rfl
theorem x_X4_air_v45 {pc : Nat} {L S : List Value} {μ : am_M} {nx : am_K} {jp : am_J} {Q : am_Q} {a0 : Int32} {a1 : Int32} : am_st E_X4_air pc (.invokestatic 45) L (.int a1 :: .int a0 :: S) μ nx jp Q = (am_csum S ≤ 8 ∧ f_X4_isWithin a0 a1 μ (fun r μ' => nx L (r.toList ++ S) μ')) := Eq.trans rfl rfl
def rm_X4_air : Room := { frames := 2, cells := 0, slots := 0, locals := 43 }
theorem eo_X4_air : am_EO "CarpetLane" rm_X4_air E_X4_air := ⟨(List.forall_mem_cons.mpr ⟨Or.inl ⟨_, rfl, by decide, am_in 207 (by decide +kernel) (by decide +kernel), by decide⟩, (List.forall_mem_cons.mpr ⟨Or.inl ⟨_, rfl, by decide, am_in 131 (by decide +kernel) (by decide +kernel), by decide⟩, (fun _ h => absurd h List.not_mem_nil)⟩)⟩), (List.forall_mem_cons.mpr ⟨am_in 233 (by decide +kernel) (by decide +kernel), (List.forall_mem_cons.mpr ⟨am_in 237 (by decide +kernel) (by decide +kernel), (fun _ h => absurd h List.not_mem_nil)⟩)⟩), (fun _ h => absurd h List.not_mem_nil), (List.forall_mem_cons.mpr ⟨am_mkV ok_X4_found wv_X4_found (am_in 238 (by decide +kernel) (by decide +kernel)) ⟨rfl, rfl, by decide, by decide⟩, (fun _ h => absurd h List.not_mem_nil)⟩), (List.forall_mem_cons.mpr ⟨am_mkS ok_X4_isWithin wv_X4_isWithin (Or.inl (am_in 234 (by decide +kernel) (by decide +kernel))) ⟨rfl, rfl, by decide, by decide⟩, (fun _ h => absurd h List.not_mem_nil)⟩), (fun _ h => absurd h List.not_mem_nil)⟩
theorem wv_X4_air : am_WV (⟨"CarpetLane", "air", "(I)I"⟩ : MethodName) prog_1_method_2_code 3 (some .int) 1 4 := ⟨am_in 59 (by decide +kernel) (by decide +kernel), am_in 232 (by decide +kernel) (by decide +kernel), by decide +kernel, rfl, by decide, am_in 230 (by decide +kernel) (by decide +kernel), am_in 231 (by decide +kernel) (by decide +kernel)⟩
theorem bd_X4_air (k : Nat) (v : Int32) (μ : am_M) (Q : am_Q) (At : am_J) (hA : am_ok E_X4_air cd_X4_air Q At) (h : f_X4_air k v μ Q) : At 0 (am_en [.ref k, .int v] 3) [] μ := by
  obtain ⟨rfl, s, hR, hI, h⟩ := h
  unfold p_air at h
  refine hA [] 60 0 _ _ _ ?_; show am_blk _ _ _ _ _ [_, _, .null] _ _
  simp only [s_aload_0, s_iload_0, s_lload_0, s_istore_0, s_lstore_0, s_astore_0, s_aload_1, s_iload_1, s_lload_1, s_istore_1, s_lstore_1, s_astore_1, s_aload_2, s_iload_2, s_lload_2, s_istore_2, s_lstore_2, s_astore_2, s_aload_3, s_iload_3, s_lload_3, s_istore_3, s_lstore_3, s_astore_3, s_aload, s_iload, s_lload, s_istore, s_lstore, s_astore, s_iconst, s_bipush, s_sipush, s_lconst_0, s_lconst_1, s_iinc, s_iadd, s_isub, s_imul, s_iand, s_ior, s_ixor, s_ishl, s_ishr, s_iushr, s_idiv, s_irem, s_ladd, s_lsub, s_lmul, s_ldiv, s_lrem, s_lcmp, s_i2l, s_l2i, s_i2b, s_i2s, s_i2c, s_dupI, s_dupR, s_dup2IR, s_dupx1, s_popI, s_if_eq, s_if_ne, s_if_lt, s_if_ge, s_if_gt, s_if_le, s_cmp_eq, s_cmp_ne, s_cmp_lt, s_cmp_ge, s_cmp_gt, s_cmp_le, s_goto, s_tsw, s_iaload, s_baload, s_caload, s_aaload, s_iastore, s_bastore, s_alen, s_ireturn, s_lreturn, s_return, am_lI_0, am_lI_S, am_lL_0, am_lL_S, am_lR_0, am_lR_S, am_sto_0, am_sto_1I, am_sto_1R, am_sto_1N, am_sto_1L, am_sto_S, am_stL_d, am_blk_0, am_blk_1, am_ln_aload_n, am_ln_iload_n, am_ln_lload_n, am_ln_istore_n, am_ln_lstore_n, am_ln_astore_n, am_ln_iconst, am_ln_lconst, am_ln_iadd, am_ln_isub, am_ln_imul, am_ln_idiv, am_ln_irem, am_ln_iand, am_ln_ior, am_ln_ixor, am_ln_ishl, am_ln_ishr, am_ln_iushr, am_ln_ladd, am_ln_lsub, am_ln_lmul, am_ln_ldiv, am_ln_lrem, am_ln_lcmp, am_ln_i2l, am_ln_l2i, am_ln_i2b, am_ln_i2s, am_ln_i2c, am_ln_dup, am_ln_dup2, am_ln_dup_x1, am_ln_pop, am_ln_iaload, am_ln_iastore, am_ln_baload, am_ln_bastore, am_ln_caload, am_ln_aaload, am_ln_arraylength, am_ln_ireturn, am_ln_lreturn, am_ln_return_, am_ln_aload, am_ln_iload, am_ln_lload, am_ln_istore, am_ln_lstore, am_ln_astore, am_ln_bipush, am_ln_ldc, am_ln_sipush, am_ln_ldc_w, am_ln_ldc2_w, am_ln_iinc, am_ln_ifCond, am_ln_if_icmp, am_ln_goto, am_ln_getfield, am_ln_putfield, am_ln_getstatic, am_ln_invokevirtual, am_ln_invokestatic, am_csum_0, am_csum_I, am_csum_R, am_csum_L, k_im16, k_im8, k_im4, k_im2, k_im1, k_i0, k_i1, k_i2, k_i3, k_i4, k_i5, k_i6, k_i7, k_i8, k_i9, k_i10, k_i11, k_i12, k_i13, k_i14, k_i15, k_i16, k_i17, k_i18, k_i19, k_i20, k_i21, k_i22, k_i23, k_i24, k_i25, k_i26, k_i27, k_i28, k_i29, k_i30, k_i31, k_i32, k_i33, k_i34, k_i35, k_i36, k_i37, k_i38, k_i39, k_i40, k_i41, k_b6, k_b7, k_b8, k_b9, k_b10, k_b11, k_b12, k_b13, k_b14, k_b15, k_b16, k_b17, k_b18, k_b19, k_b20, k_b21, k_b22, k_b23, k_b24, k_b25, k_b26, k_b27, k_b28, k_b29, k_b30, k_b31, k_b32, k_b33, k_b34, k_b35, k_b36, k_b37, k_b38, k_b39, k_b40, k_b41, k_b42, k_b43, k_b44, k_b45, k_b46, k_b47, k_b48, k_b49, k_b50, k_b51, k_b52, k_b53, k_b54, k_b55, k_b56, k_b57, k_b58, k_b59, k_b60, k_b61, k_b62, k_b63, k_b66, k_b76, k_b97, k_b98, k_b99, k_b100, k_b101, k_b102, k_b103, k_b104, k_b105, k_b107, k_b108, k_b109, k_b110, k_b112, k_b114, k_b115, k_b116, k_b117, k_b120, k_b121, k_b122, k_s160, k_s200, k_s255, k_s256, k_s999, k_s2048, k_s4095, k_s9999, k_s10000, k_s12345, k_narI, k_narZ0, k_narZ1, k_ffalse, k_ts0, k_ts1, k_tw0, k_tw1, k_rt, k_rn, Nat.reduceAdd, Nat.zero_add, Nat.reduceLeDiff, Nat.reduceLT, Int.reduceAdd, Int.zero_add, true_and, and_true, List.set_cons_zero, List.set_cons_succ, eq_self, k_n2, k_n3, k_n4, k_n5, k_n6, k_n7, k_n8, k_n9, k_n10, k_n12, k_nn, true_or, or_true, false_or, or_false, k_z10, not_false_eq_true, not_true_eq_false, true_imp_iff, false_imp_iff, n_X4_air, r_X4_air, g_X4_air_0, b_X4_air_0, bk_X4_air_0, g_X4_air_16, bk_X4_air_16, t_X4_air_6_16, x_X4_air_g12, x_X4_air_g54, x_X4_air_p54, x_X4_air_c44, x_X4_air_c49, x_X4_air_v50, x_X4_air_v45, f_X4_isWithin, f_X4_found, q00, q01, s1]
  refine ⟨fun q => ?_, fun q => ?_⟩
  · rw [if_pos (wi_t q)] at h
    rw [hR.1.2.2.2]
    exact h _ (Rp_air hR) (FrX_1 (Fr_set (Fr_rf 1 μ) (by omega) (by omega)))
  · rw [wi_f q, if_neg (by decide)] at h
    exact oX_g h (by omega) hR (FrX_rf μ) (by decide)
theorem ok_X4_air : am_OK (⟨"CarpetLane", "air", "(I)I"⟩ : MethodName) prog_1_method_2_code 3 (some .int) rm_X4_air sp_X4_air := am_mok (cd := cd_X4_air) E_X4_air (by decide +kernel) rfl eo_X4_air (by decide +kernel) (by decide +kernel) (q_RI_h (by decide)) (q_RI_b bd_X4_air)
theorem in6 {i : Nat} (h : i < 6) : vp_in (nI i) 6 := vp_in_nI h (by omega)
theorem cl6 {i : Nat} (h : i < 6) : (nI i).toNatClampNeg = i := nI_clamp (by omega)
def p_list (i c f : Int32) (s : cS) : Out := if wi i 5 = true then (if wi c 7 = true then (if wi f 9 = true then .inl (s.2.1 i.toNatClampNeg, wbt s i.toNatClampNeg (10 * c + f)) else .inr 0) else .inr 0) else .inr 0
def f_X4_list (k : Nat) (i c f : Int32) (μ : am_M) (Q : am_Q) : Prop := k = 0 ∧ ∃ s, Rp 1 μ s ∧ Iv s ∧ oX s (p_list i c f s) μ Q
def sp_X4_list : am_Sp := q_RIII f_X4_list
def bk_X4_list_0 : List Instr := [.iload_n 1, .iconst 5, .invokestatic 45, .ifCond .eq 21, .iload_n 2, .bipush 7, .invokestatic 45, .ifCond .eq 12, .iload_n 3, .bipush 9, .invokestatic 45, .ifCond .ne 10]
def bk_X4_list_26 : List Instr := [.aload_n 0, .ldc 49, .invokevirtual 50, .ireturn]
def bk_X4_list_33 : List Instr := [.aload_n 0, .getfield 12, .getfield 58, .iload_n 1, .iaload, .istore 4, .aload_n 0, .getfield 12, .getfield 58, .iload_n 1, .iload_n 2, .iload_n 3, .invokestatic 61, .iastore, .iload 4, .ireturn]
def cd_X4_list : am_cd := [(0, bk_X4_list_0), (26, bk_X4_list_26), (33, bk_X4_list_33)]
def E_X4_list : am_E := (5, .int, [(12, 4, 0), (58, 1, 4)], [(49, .int (-1000001))], [], [(50, 4, 1, sp_X4_found)], [(45, 2, sp_X4_isWithin), (61, 2, sp_X4_beating)], [])
theorem n_X4_list : am_nL E_X4_list = 5 := Eq.trans rfl rfl
theorem r_X4_list : am_rt E_X4_list = .int := Eq.trans rfl rfl
theorem g_X4_list_0 {At : am_J} {Q : am_Q} {n : Nat} {L S : List Value} {μ : am_M} : am_go E_X4_list cd_X4_list [] At Q (n + 1) 0 L S μ = am_blk E_X4_list (am_go E_X4_list cd_X4_list [] At Q n) Q bk_X4_list_0 0 L S μ := Eq.trans rfl rfl
theorem b_X4_list_0 {gt : am_J} {Q : am_Q} {L S : List Value} {μ : am_M} : am_blk E_X4_list gt Q (am_lk [] cd_X4_list 0) 0 L S μ = am_blk E_X4_list gt Q bk_X4_list_0 0 L S μ := Eq.trans rfl rfl
theorem g_X4_list_26 {At : am_J} {Q : am_Q} {n : Nat} {L S : List Value} {μ : am_M} : am_go E_X4_list cd_X4_list [] At Q (n + 1) 26 L S μ = am_blk E_X4_list (am_go E_X4_list cd_X4_list [] At Q n) Q bk_X4_list_26 26 L S μ := Eq.trans rfl rfl
theorem g_X4_list_33 {At : am_J} {Q : am_Q} {n : Nat} {L S : List Value} {μ : am_M} : am_go E_X4_list cd_X4_list [] At Q (n + 1) 33 L S μ = am_blk E_X4_list (am_go E_X4_list cd_X4_list [] At Q n) Q bk_X4_list_33 33 L S μ := Eq.trans rfl rfl
theorem t_X4_list_5_26 : am_tg 5 21 = 26 := Eq.trans rfl rfl
theorem t_X4_list_14_26 : am_tg 14 12 = 26 := Eq.trans rfl rfl
theorem t_X4_list_23_33 : am_tg 23 10 = 33 := Eq.trans rfl rfl
theorem x_X4_list_g12 {pc : Nat} {L S : List Value} {μ : am_M} {nx : am_K} {jp : am_J} {Q : am_Q} {k : Nat} : am_st E_X4_list pc (.getfield 12) L (.ref k :: S) μ nx jp Q = (am_sh k = (4, 0) ∧ nx L (.ref (am_rf k 0) :: S) μ) := Eq.trans rfl rfl
theorem x_X4_list_g58 {pc : Nat} {L S : List Value} {μ : am_M} {nx : am_K} {jp : am_J} {Q : am_Q} {k : Nat} : am_st E_X4_list pc (.getfield 58) L (.ref k :: S) μ nx jp Q = (am_sh k = (1, 0) ∧ nx L (.ref (am_rf k 4) :: S) μ) := Eq.trans rfl rfl
theorem x_X4_list_c49 {pc : Nat} {L S : List Value} {μ : am_M} {nx : am_K} {jp : am_J} {Q : am_Q} : am_st E_X4_list pc (.ldc 49) L S μ nx jp Q = nx L (.int (-1000001) :: S) μ := Eq.trans rfl rfl
theorem x_X4_list_v50 {pc : Nat} {L S : List Value} {μ : am_M} {nx : am_K} {jp : am_J} {Q : am_Q} {k : Nat} {a0 : Int32} : am_st E_X4_list pc (.invokevirtual 50) L (.int a0 :: .ref k :: S) μ nx jp Q = (am_sh k = (4, 0) ∧ am_csum S ≤ 8 ∧ f_X4_found k a0 μ (fun r μ' => nx L (r.toList ++ S) μ')) := Eq.trans rfl rfl
theorem x_X4_list_v45 {pc : Nat} {L S : List Value} {μ : am_M} {nx : am_K} {jp : am_J} {Q : am_Q} {a0 : Int32} {a1 : Int32} : am_st E_X4_list pc (.invokestatic 45) L (.int a1 :: .int a0 :: S) μ nx jp Q = (am_csum S ≤ 8 ∧ f_X4_isWithin a0 a1 μ (fun r μ' => nx L (r.toList ++ S) μ')) := Eq.trans rfl rfl
theorem x_X4_list_v61 {pc : Nat} {L S : List Value} {μ : am_M} {nx : am_K} {jp : am_J} {Q : am_Q} {a0 : Int32} {a1 : Int32} : am_st E_X4_list pc (.invokestatic 61) L (.int a1 :: .int a0 :: S) μ nx jp Q = (am_csum S ≤ 8 ∧ f_X4_beating a0 a1 μ (fun r μ' => nx L (r.toList ++ S) μ')) := Eq.trans rfl rfl
def rm_X4_list : Room := { frames := 2, cells := 0, slots := 0, locals := 43 }
theorem eo_X4_list : am_EO "CarpetLane" rm_X4_list E_X4_list := ⟨(List.forall_mem_cons.mpr ⟨Or.inl ⟨_, rfl, by decide, am_in 207 (by decide +kernel) (by decide +kernel), by decide⟩, (List.forall_mem_cons.mpr ⟨Or.inl ⟨_, rfl, by decide, am_in 138 (by decide +kernel) (by decide +kernel), by decide⟩, (fun _ h => absurd h List.not_mem_nil)⟩)⟩), (List.forall_mem_cons.mpr ⟨am_in 237 (by decide +kernel) (by decide +kernel), (fun _ h => absurd h List.not_mem_nil)⟩), (fun _ h => absurd h List.not_mem_nil), (List.forall_mem_cons.mpr ⟨am_mkV ok_X4_found wv_X4_found (am_in 238 (by decide +kernel) (by decide +kernel)) ⟨rfl, rfl, by decide, by decide⟩, (fun _ h => absurd h List.not_mem_nil)⟩), (List.forall_mem_cons.mpr ⟨am_mkS ok_X4_isWithin wv_X4_isWithin (Or.inl (am_in 234 (by decide +kernel) (by decide +kernel))) ⟨rfl, rfl, by decide, by decide⟩, (List.forall_mem_cons.mpr ⟨am_mkS ok_X4_beating wv_X4_beating (Or.inl (am_in 246 (by decide +kernel) (by decide +kernel))) ⟨rfl, rfl, by decide, by decide⟩, (fun _ h => absurd h List.not_mem_nil)⟩)⟩), (fun _ h => absurd h List.not_mem_nil)⟩
theorem wv_X4_list : am_WV (⟨"CarpetLane", "list", "(III)I"⟩ : MethodName) prog_1_method_3_code 5 (some .int) 3 4 := ⟨am_in 59 (by decide +kernel) (by decide +kernel), am_in 245 (by decide +kernel) (by decide +kernel), by decide +kernel, rfl, by decide, am_in 243 (by decide +kernel) (by decide +kernel), am_in 244 (by decide +kernel) (by decide +kernel)⟩
theorem bd_X4_list (k : Nat) (i : Int32) (c : Int32) (f : Int32) (μ : am_M) (Q : am_Q) (At : am_J) (hA : am_ok E_X4_list cd_X4_list Q At) (h : f_X4_list k i c f μ Q) : At 0 (am_en [.ref k, .int i, .int c, .int f] 5) [] μ := by
  obtain ⟨rfl, s, hR, hI, h⟩ := h
  unfold p_list at h
  refine hA [] 60 0 _ _ _ ?_; show am_blk _ _ _ _ _ [_, _, _, _, .null] _ _
  simp only [s_aload_0, s_iload_0, s_lload_0, s_istore_0, s_lstore_0, s_astore_0, s_aload_1, s_iload_1, s_lload_1, s_istore_1, s_lstore_1, s_astore_1, s_aload_2, s_iload_2, s_lload_2, s_istore_2, s_lstore_2, s_astore_2, s_aload_3, s_iload_3, s_lload_3, s_istore_3, s_lstore_3, s_astore_3, s_aload, s_iload, s_lload, s_istore, s_lstore, s_astore, s_iconst, s_bipush, s_sipush, s_lconst_0, s_lconst_1, s_iinc, s_iadd, s_isub, s_imul, s_iand, s_ior, s_ixor, s_ishl, s_ishr, s_iushr, s_idiv, s_irem, s_ladd, s_lsub, s_lmul, s_ldiv, s_lrem, s_lcmp, s_i2l, s_l2i, s_i2b, s_i2s, s_i2c, s_dupI, s_dupR, s_dup2IR, s_dupx1, s_popI, s_if_eq, s_if_ne, s_if_lt, s_if_ge, s_if_gt, s_if_le, s_cmp_eq, s_cmp_ne, s_cmp_lt, s_cmp_ge, s_cmp_gt, s_cmp_le, s_goto, s_tsw, s_iaload, s_baload, s_caload, s_aaload, s_iastore, s_bastore, s_alen, s_ireturn, s_lreturn, s_return, am_lI_0, am_lI_S, am_lL_0, am_lL_S, am_lR_0, am_lR_S, am_sto_0, am_sto_1I, am_sto_1R, am_sto_1N, am_sto_1L, am_sto_S, am_stL_d, am_blk_0, am_blk_1, am_ln_aload_n, am_ln_iload_n, am_ln_lload_n, am_ln_istore_n, am_ln_lstore_n, am_ln_astore_n, am_ln_iconst, am_ln_lconst, am_ln_iadd, am_ln_isub, am_ln_imul, am_ln_idiv, am_ln_irem, am_ln_iand, am_ln_ior, am_ln_ixor, am_ln_ishl, am_ln_ishr, am_ln_iushr, am_ln_ladd, am_ln_lsub, am_ln_lmul, am_ln_ldiv, am_ln_lrem, am_ln_lcmp, am_ln_i2l, am_ln_l2i, am_ln_i2b, am_ln_i2s, am_ln_i2c, am_ln_dup, am_ln_dup2, am_ln_dup_x1, am_ln_pop, am_ln_iaload, am_ln_iastore, am_ln_baload, am_ln_bastore, am_ln_caload, am_ln_aaload, am_ln_arraylength, am_ln_ireturn, am_ln_lreturn, am_ln_return_, am_ln_aload, am_ln_iload, am_ln_lload, am_ln_istore, am_ln_lstore, am_ln_astore, am_ln_bipush, am_ln_ldc, am_ln_sipush, am_ln_ldc_w, am_ln_ldc2_w, am_ln_iinc, am_ln_ifCond, am_ln_if_icmp, am_ln_goto, am_ln_getfield, am_ln_putfield, am_ln_getstatic, am_ln_invokevirtual, am_ln_invokestatic, am_csum_0, am_csum_I, am_csum_R, am_csum_L, k_im16, k_im8, k_im4, k_im2, k_im1, k_i0, k_i1, k_i2, k_i3, k_i4, k_i5, k_i6, k_i7, k_i8, k_i9, k_i10, k_i11, k_i12, k_i13, k_i14, k_i15, k_i16, k_i17, k_i18, k_i19, k_i20, k_i21, k_i22, k_i23, k_i24, k_i25, k_i26, k_i27, k_i28, k_i29, k_i30, k_i31, k_i32, k_i33, k_i34, k_i35, k_i36, k_i37, k_i38, k_i39, k_i40, k_i41, k_b6, k_b7, k_b8, k_b9, k_b10, k_b11, k_b12, k_b13, k_b14, k_b15, k_b16, k_b17, k_b18, k_b19, k_b20, k_b21, k_b22, k_b23, k_b24, k_b25, k_b26, k_b27, k_b28, k_b29, k_b30, k_b31, k_b32, k_b33, k_b34, k_b35, k_b36, k_b37, k_b38, k_b39, k_b40, k_b41, k_b42, k_b43, k_b44, k_b45, k_b46, k_b47, k_b48, k_b49, k_b50, k_b51, k_b52, k_b53, k_b54, k_b55, k_b56, k_b57, k_b58, k_b59, k_b60, k_b61, k_b62, k_b63, k_b66, k_b76, k_b97, k_b98, k_b99, k_b100, k_b101, k_b102, k_b103, k_b104, k_b105, k_b107, k_b108, k_b109, k_b110, k_b112, k_b114, k_b115, k_b116, k_b117, k_b120, k_b121, k_b122, k_s160, k_s200, k_s255, k_s256, k_s999, k_s2048, k_s4095, k_s9999, k_s10000, k_s12345, k_narI, k_narZ0, k_narZ1, k_ffalse, k_ts0, k_ts1, k_tw0, k_tw1, k_rt, k_rn, Nat.reduceAdd, Nat.zero_add, Nat.reduceLeDiff, Nat.reduceLT, Int.reduceAdd, Int.zero_add, true_and, and_true, List.set_cons_zero, List.set_cons_succ, eq_self, k_n2, k_n3, k_n4, k_n5, k_n6, k_n7, k_n8, k_n9, k_n10, k_n12, k_nn, true_or, or_true, false_or, or_false, k_z10, not_false_eq_true, not_true_eq_false, true_imp_iff, false_imp_iff, n_X4_list, r_X4_list, g_X4_list_0, b_X4_list_0, bk_X4_list_0, g_X4_list_26, bk_X4_list_26, g_X4_list_33, bk_X4_list_33, t_X4_list_5_26, t_X4_list_14_26, t_X4_list_23_33, x_X4_list_g12, x_X4_list_g58, x_X4_list_c49, x_X4_list_v50, x_X4_list_v45, x_X4_list_v61, f_X4_isWithin, f_X4_found, q00, q01, q02, s1, s2, s3, r3, r14, r15, r16, f_X4_beating, ial10 s2]
  refine ⟨fun q => ?_, fun q => ?_⟩
  · obtain ⟨j, hj, rfl⟩ := wi_nI (k := 5) (by omega) q
    rw [if_pos (wi_t q)] at h
    rw [cl6 (by omega)] at h ⊢
    refine ⟨fun q2 => ?_, fun q2 => ?_⟩
    · rw [if_pos (wi_t q2)] at h
      refine ⟨fun q3 => ?_, fun q3 => ?_⟩
      · rw [if_pos (wi_t q3)] at h
        have e : μ.1 2 j = s.2.1 j := hR.2.1 j (by omega)
        rw [e]
        exact ⟨in6 (by omega), in6 (by omega), h _ (Rp_bt (j := j) hR) (FrX_1 (Fr_set (Fr_rf 1 μ) (by omega) (by omega)))⟩
      · rw [wi_f q3, if_neg (by decide)] at h
        exact oX_g h (by omega) hR (FrX_rf μ) (by decide)
    · rw [wi_f q2, if_neg (by decide)] at h
      exact oX_g h (by omega) hR (FrX_rf μ) (by decide)
  · rw [wi_f q, if_neg (by decide)] at h
    exact oX_g h (by omega) hR (FrX_rf μ) (by decide)
theorem ok_X4_list : am_OK (⟨"CarpetLane", "list", "(III)I"⟩ : MethodName) prog_1_method_3_code 5 (some .int) rm_X4_list sp_X4_list := am_mok (cd := cd_X4_list) E_X4_list (by decide +kernel) rfl eo_X4_list (by decide +kernel) (by decide +kernel) (q_RIII_h (by decide)) (q_RIII_b bd_X4_list)
def p_listed (i : Int32) (s : cS) : Out := if wi i 5 = true then .inl (s.2.1 i.toNatClampNeg, s) else .inr 0
def f_X4_listed (k : Nat) (i : Int32) (μ : am_M) (Q : am_Q) : Prop := k = 0 ∧ ∃ s, Rp 1 μ s ∧ Iv s ∧ oX s (p_listed i s) μ Q
def sp_X4_listed : am_Sp := q_RI f_X4_listed
def bk_X4_listed_0 : List Instr := [.iload_n 1, .iconst 5, .invokestatic 45, .ifCond .ne 10, .aload_n 0, .ldc 49, .invokevirtual 50, .ireturn]
def bk_X4_listed_15 : List Instr := [.aload_n 0, .getfield 12, .getfield 58, .iload_n 1, .iaload, .ireturn]
def cd_X4_listed : am_cd := [(0, bk_X4_listed_0), (15, bk_X4_listed_15)]
def E_X4_listed : am_E := (2, .int, [(12, 4, 0), (58, 1, 4)], [(49, .int (-1000001))], [], [(50, 4, 1, sp_X4_found)], [(45, 2, sp_X4_isWithin)], [])
theorem n_X4_listed : am_nL E_X4_listed = 2 := Eq.trans rfl rfl
theorem r_X4_listed : am_rt E_X4_listed = .int := Eq.trans rfl rfl
theorem g_X4_listed_0 {At : am_J} {Q : am_Q} {n : Nat} {L S : List Value} {μ : am_M} : am_go E_X4_listed cd_X4_listed [] At Q (n + 1) 0 L S μ = am_blk E_X4_listed (am_go E_X4_listed cd_X4_listed [] At Q n) Q bk_X4_listed_0 0 L S μ := Eq.trans rfl rfl
theorem b_X4_listed_0 {gt : am_J} {Q : am_Q} {L S : List Value} {μ : am_M} : am_blk E_X4_listed gt Q (am_lk [] cd_X4_listed 0) 0 L S μ = am_blk E_X4_listed gt Q bk_X4_listed_0 0 L S μ := Eq.trans rfl rfl
theorem g_X4_listed_15 {At : am_J} {Q : am_Q} {n : Nat} {L S : List Value} {μ : am_M} : am_go E_X4_listed cd_X4_listed [] At Q (n + 1) 15 L S μ = am_blk E_X4_listed (am_go E_X4_listed cd_X4_listed [] At Q n) Q bk_X4_listed_15 15 L S μ := Eq.trans rfl rfl
theorem t_X4_listed_5_15 : am_tg 5 10 = 15 := Eq.trans rfl rfl
theorem x_X4_listed_g12 {pc : Nat} {L S : List Value} {μ : am_M} {nx : am_K} {jp : am_J} {Q : am_Q} {k : Nat} : am_st E_X4_listed pc (.getfield 12) L (.ref k :: S) μ nx jp Q = (am_sh k = (4, 0) ∧ nx L (.ref (am_rf k 0) :: S) μ) := Eq.trans rfl rfl
theorem x_X4_listed_g58 {pc : Nat} {L S : List Value} {μ : am_M} {nx : am_K} {jp : am_J} {Q : am_Q} {k : Nat} : am_st E_X4_listed pc (.getfield 58) L (.ref k :: S) μ nx jp Q = (am_sh k = (1, 0) ∧ nx L (.ref (am_rf k 4) :: S) μ) := Eq.trans rfl rfl
theorem x_X4_listed_c49 {pc : Nat} {L S : List Value} {μ : am_M} {nx : am_K} {jp : am_J} {Q : am_Q} : am_st E_X4_listed pc (.ldc 49) L S μ nx jp Q = nx L (.int (-1000001) :: S) μ := Eq.trans rfl rfl
theorem x_X4_listed_v50 {pc : Nat} {L S : List Value} {μ : am_M} {nx : am_K} {jp : am_J} {Q : am_Q} {k : Nat} {a0 : Int32} : am_st E_X4_listed pc (.invokevirtual 50) L (.int a0 :: .ref k :: S) μ nx jp Q = (am_sh k = (4, 0) ∧ am_csum S ≤ 8 ∧ f_X4_found k a0 μ (fun r μ' => nx L (r.toList ++ S) μ')) := Eq.trans rfl rfl
theorem x_X4_listed_v45 {pc : Nat} {L S : List Value} {μ : am_M} {nx : am_K} {jp : am_J} {Q : am_Q} {a0 : Int32} {a1 : Int32} : am_st E_X4_listed pc (.invokestatic 45) L (.int a1 :: .int a0 :: S) μ nx jp Q = (am_csum S ≤ 8 ∧ f_X4_isWithin a0 a1 μ (fun r μ' => nx L (r.toList ++ S) μ')) := Eq.trans rfl rfl
def rm_X4_listed : Room := { frames := 2, cells := 0, slots := 0, locals := 43 }
theorem eo_X4_listed : am_EO "CarpetLane" rm_X4_listed E_X4_listed := ⟨(List.forall_mem_cons.mpr ⟨Or.inl ⟨_, rfl, by decide, am_in 207 (by decide +kernel) (by decide +kernel), by decide⟩, (List.forall_mem_cons.mpr ⟨Or.inl ⟨_, rfl, by decide, am_in 138 (by decide +kernel) (by decide +kernel), by decide⟩, (fun _ h => absurd h List.not_mem_nil)⟩)⟩), (List.forall_mem_cons.mpr ⟨am_in 237 (by decide +kernel) (by decide +kernel), (fun _ h => absurd h List.not_mem_nil)⟩), (fun _ h => absurd h List.not_mem_nil), (List.forall_mem_cons.mpr ⟨am_mkV ok_X4_found wv_X4_found (am_in 238 (by decide +kernel) (by decide +kernel)) ⟨rfl, rfl, by decide, by decide⟩, (fun _ h => absurd h List.not_mem_nil)⟩), (List.forall_mem_cons.mpr ⟨am_mkS ok_X4_isWithin wv_X4_isWithin (Or.inl (am_in 234 (by decide +kernel) (by decide +kernel))) ⟨rfl, rfl, by decide, by decide⟩, (fun _ h => absurd h List.not_mem_nil)⟩), (fun _ h => absurd h List.not_mem_nil)⟩
theorem wv_X4_listed : am_WV (⟨"CarpetLane", "listed", "(I)I"⟩ : MethodName) prog_1_method_4_code 2 (some .int) 1 4 := ⟨am_in 59 (by decide +kernel) (by decide +kernel), am_in 252 (by decide +kernel) (by decide +kernel), by decide +kernel, rfl, by decide, am_in 250 (by decide +kernel) (by decide +kernel), am_in 251 (by decide +kernel) (by decide +kernel)⟩
theorem bd_X4_listed (k : Nat) (i : Int32) (μ : am_M) (Q : am_Q) (At : am_J) (hA : am_ok E_X4_listed cd_X4_listed Q At) (h : f_X4_listed k i μ Q) : At 0 (am_en [.ref k, .int i] 2) [] μ := by
  obtain ⟨rfl, s, hR, hI, h⟩ := h
  unfold p_listed at h
  refine hA [] 60 0 _ _ _ ?_; show am_blk _ _ _ _ _ [_, _] _ _
  simp only [s_aload_0, s_iload_0, s_lload_0, s_istore_0, s_lstore_0, s_astore_0, s_aload_1, s_iload_1, s_lload_1, s_istore_1, s_lstore_1, s_astore_1, s_aload_2, s_iload_2, s_lload_2, s_istore_2, s_lstore_2, s_astore_2, s_aload_3, s_iload_3, s_lload_3, s_istore_3, s_lstore_3, s_astore_3, s_aload, s_iload, s_lload, s_istore, s_lstore, s_astore, s_iconst, s_bipush, s_sipush, s_lconst_0, s_lconst_1, s_iinc, s_iadd, s_isub, s_imul, s_iand, s_ior, s_ixor, s_ishl, s_ishr, s_iushr, s_idiv, s_irem, s_ladd, s_lsub, s_lmul, s_ldiv, s_lrem, s_lcmp, s_i2l, s_l2i, s_i2b, s_i2s, s_i2c, s_dupI, s_dupR, s_dup2IR, s_dupx1, s_popI, s_if_eq, s_if_ne, s_if_lt, s_if_ge, s_if_gt, s_if_le, s_cmp_eq, s_cmp_ne, s_cmp_lt, s_cmp_ge, s_cmp_gt, s_cmp_le, s_goto, s_tsw, s_iaload, s_baload, s_caload, s_aaload, s_iastore, s_bastore, s_alen, s_ireturn, s_lreturn, s_return, am_lI_0, am_lI_S, am_lL_0, am_lL_S, am_lR_0, am_lR_S, am_sto_0, am_sto_1I, am_sto_1R, am_sto_1N, am_sto_1L, am_sto_S, am_stL_d, am_blk_0, am_blk_1, am_ln_aload_n, am_ln_iload_n, am_ln_lload_n, am_ln_istore_n, am_ln_lstore_n, am_ln_astore_n, am_ln_iconst, am_ln_lconst, am_ln_iadd, am_ln_isub, am_ln_imul, am_ln_idiv, am_ln_irem, am_ln_iand, am_ln_ior, am_ln_ixor, am_ln_ishl, am_ln_ishr, am_ln_iushr, am_ln_ladd, am_ln_lsub, am_ln_lmul, am_ln_ldiv, am_ln_lrem, am_ln_lcmp, am_ln_i2l, am_ln_l2i, am_ln_i2b, am_ln_i2s, am_ln_i2c, am_ln_dup, am_ln_dup2, am_ln_dup_x1, am_ln_pop, am_ln_iaload, am_ln_iastore, am_ln_baload, am_ln_bastore, am_ln_caload, am_ln_aaload, am_ln_arraylength, am_ln_ireturn, am_ln_lreturn, am_ln_return_, am_ln_aload, am_ln_iload, am_ln_lload, am_ln_istore, am_ln_lstore, am_ln_astore, am_ln_bipush, am_ln_ldc, am_ln_sipush, am_ln_ldc_w, am_ln_ldc2_w, am_ln_iinc, am_ln_ifCond, am_ln_if_icmp, am_ln_goto, am_ln_getfield, am_ln_putfield, am_ln_getstatic, am_ln_invokevirtual, am_ln_invokestatic, am_csum_0, am_csum_I, am_csum_R, am_csum_L, k_im16, k_im8, k_im4, k_im2, k_im1, k_i0, k_i1, k_i2, k_i3, k_i4, k_i5, k_i6, k_i7, k_i8, k_i9, k_i10, k_i11, k_i12, k_i13, k_i14, k_i15, k_i16, k_i17, k_i18, k_i19, k_i20, k_i21, k_i22, k_i23, k_i24, k_i25, k_i26, k_i27, k_i28, k_i29, k_i30, k_i31, k_i32, k_i33, k_i34, k_i35, k_i36, k_i37, k_i38, k_i39, k_i40, k_i41, k_b6, k_b7, k_b8, k_b9, k_b10, k_b11, k_b12, k_b13, k_b14, k_b15, k_b16, k_b17, k_b18, k_b19, k_b20, k_b21, k_b22, k_b23, k_b24, k_b25, k_b26, k_b27, k_b28, k_b29, k_b30, k_b31, k_b32, k_b33, k_b34, k_b35, k_b36, k_b37, k_b38, k_b39, k_b40, k_b41, k_b42, k_b43, k_b44, k_b45, k_b46, k_b47, k_b48, k_b49, k_b50, k_b51, k_b52, k_b53, k_b54, k_b55, k_b56, k_b57, k_b58, k_b59, k_b60, k_b61, k_b62, k_b63, k_b66, k_b76, k_b97, k_b98, k_b99, k_b100, k_b101, k_b102, k_b103, k_b104, k_b105, k_b107, k_b108, k_b109, k_b110, k_b112, k_b114, k_b115, k_b116, k_b117, k_b120, k_b121, k_b122, k_s160, k_s200, k_s255, k_s256, k_s999, k_s2048, k_s4095, k_s9999, k_s10000, k_s12345, k_narI, k_narZ0, k_narZ1, k_ffalse, k_ts0, k_ts1, k_tw0, k_tw1, k_rt, k_rn, Nat.reduceAdd, Nat.zero_add, Nat.reduceLeDiff, Nat.reduceLT, Int.reduceAdd, Int.zero_add, true_and, and_true, List.set_cons_zero, List.set_cons_succ, eq_self, k_n2, k_n3, k_n4, k_n5, k_n6, k_n7, k_n8, k_n9, k_n10, k_n12, k_nn, true_or, or_true, false_or, or_false, k_z10, not_false_eq_true, not_true_eq_false, true_imp_iff, false_imp_iff, n_X4_listed, r_X4_listed, g_X4_listed_0, b_X4_listed_0, bk_X4_listed_0, g_X4_listed_15, bk_X4_listed_15, t_X4_listed_5_15, x_X4_listed_g12, x_X4_listed_g58, x_X4_listed_c49, x_X4_listed_v50, x_X4_listed_v45, f_X4_isWithin, f_X4_found, q00, q01, q02, s1, s2, s3, r3, r14, r15, r16, ial10 s2]
  refine ⟨fun q => ?_, fun q => ?_⟩
  · obtain ⟨j, hj, rfl⟩ := wi_nI (k := 5) (by omega) q
    rw [if_pos (wi_t q)] at h
    rw [cl6 (by omega)] at h ⊢
    have e : μ.1 2 j = s.2.1 j := hR.2.1 j (by omega)
    rw [e]
    exact ⟨in6 (by omega), h μ hR (FrX_rf μ)⟩
  · rw [wi_f q, if_neg (by decide)] at h
    exact oX_g h (by omega) hR (FrX_rf μ) (by decide)
theorem ok_X4_listed : am_OK (⟨"CarpetLane", "listed", "(I)I"⟩ : MethodName) prog_1_method_4_code 2 (some .int) rm_X4_listed sp_X4_listed := am_mok (cd := cd_X4_listed) E_X4_listed (by decide +kernel) rfl eo_X4_listed (by decide +kernel) (by decide +kernel) (q_RI_h (by decide)) (q_RI_b bd_X4_listed)
def p_carpet (k f : Int32) (s : cS) : Out := if wi k 6 = true then (if wi f 4095 = true then (if sn s = 8 then .inr 1 else .inl (nI (sn s), lay s k f)) else .inr 0) else .inr 0
def f_X4_carpet (o : Nat) (k f : Int32) (μ : am_M) (Q : am_Q) : Prop := o = 0 ∧ ∃ s, Rp 1 μ s ∧ Iv s ∧ oX s (p_carpet k f s) μ Q
def sp_X4_carpet : am_Sp := q_RII f_X4_carpet
def bk_X4_carpet_0 : List Instr := [.iload_n 1, .bipush 6, .invokestatic 45, .ifCond .eq 13, .iload_n 2, .sipush 4095, .invokestatic 45, .ifCond .ne 10]
def bk_X4_carpet_19 : List Instr := [.aload_n 0, .ldc 49, .invokevirtual 50, .ireturn]
def bk_X4_carpet_26 : List Instr := [.aload_n 0, .getfield 12, .invokevirtual 65, .ifCond .eq 10, .aload_n 0, .ldc 69, .invokevirtual 50, .ireturn]
def bk_X4_carpet_43 : List Instr := [.aload_n 0, .getfield 12, .iload_n 1, .iload_n 2, .invokevirtual 70, .ireturn]
def cd_X4_carpet : am_cd := [(0, bk_X4_carpet_0), (19, bk_X4_carpet_19), (26, bk_X4_carpet_26), (43, bk_X4_carpet_43)]
def E_X4_carpet : am_E := (3, .int, [(12, 4, 0)], [(49, .int (-1000001)), (69, .int (-1000002))], [], [(50, 4, 1, sp_X4_found), (65, 1, 0, sp_X1_isFull), (70, 1, 2, sp_X1_lay)], [(45, 2, sp_X4_isWithin)], [])
theorem n_X4_carpet : am_nL E_X4_carpet = 3 := Eq.trans rfl rfl
theorem r_X4_carpet : am_rt E_X4_carpet = .int := Eq.trans rfl rfl
theorem g_X4_carpet_0 {At : am_J} {Q : am_Q} {n : Nat} {L S : List Value} {μ : am_M} : am_go E_X4_carpet cd_X4_carpet [] At Q (n + 1) 0 L S μ = am_blk E_X4_carpet (am_go E_X4_carpet cd_X4_carpet [] At Q n) Q bk_X4_carpet_0 0 L S μ := Eq.trans rfl rfl
theorem b_X4_carpet_0 {gt : am_J} {Q : am_Q} {L S : List Value} {μ : am_M} : am_blk E_X4_carpet gt Q (am_lk [] cd_X4_carpet 0) 0 L S μ = am_blk E_X4_carpet gt Q bk_X4_carpet_0 0 L S μ := Eq.trans rfl rfl
theorem g_X4_carpet_19 {At : am_J} {Q : am_Q} {n : Nat} {L S : List Value} {μ : am_M} : am_go E_X4_carpet cd_X4_carpet [] At Q (n + 1) 19 L S μ = am_blk E_X4_carpet (am_go E_X4_carpet cd_X4_carpet [] At Q n) Q bk_X4_carpet_19 19 L S μ := Eq.trans rfl rfl
theorem g_X4_carpet_26 {At : am_J} {Q : am_Q} {n : Nat} {L S : List Value} {μ : am_M} : am_go E_X4_carpet cd_X4_carpet [] At Q (n + 1) 26 L S μ = am_blk E_X4_carpet (am_go E_X4_carpet cd_X4_carpet [] At Q n) Q bk_X4_carpet_26 26 L S μ := Eq.trans rfl rfl
theorem g_X4_carpet_43 {At : am_J} {Q : am_Q} {n : Nat} {L S : List Value} {μ : am_M} : am_go E_X4_carpet cd_X4_carpet [] At Q (n + 1) 43 L S μ = am_blk E_X4_carpet (am_go E_X4_carpet cd_X4_carpet [] At Q n) Q bk_X4_carpet_43 43 L S μ := Eq.trans rfl rfl
theorem t_X4_carpet_6_19 : am_tg 6 13 = 19 := Eq.trans rfl rfl
theorem t_X4_carpet_16_26 : am_tg 16 10 = 26 := Eq.trans rfl rfl
theorem t_X4_carpet_33_43 : am_tg 33 10 = 43 := Eq.trans rfl rfl
theorem x_X4_carpet_g12 {pc : Nat} {L S : List Value} {μ : am_M} {nx : am_K} {jp : am_J} {Q : am_Q} {k : Nat} : am_st E_X4_carpet pc (.getfield 12) L (.ref k :: S) μ nx jp Q = (am_sh k = (4, 0) ∧ nx L (.ref (am_rf k 0) :: S) μ) := Eq.trans rfl rfl
theorem x_X4_carpet_c49 {pc : Nat} {L S : List Value} {μ : am_M} {nx : am_K} {jp : am_J} {Q : am_Q} : am_st E_X4_carpet pc (.ldc 49) L S μ nx jp Q = nx L (.int (-1000001) :: S) μ := Eq.trans rfl rfl
theorem x_X4_carpet_c69 {pc : Nat} {L S : List Value} {μ : am_M} {nx : am_K} {jp : am_J} {Q : am_Q} : am_st E_X4_carpet pc (.ldc 69) L S μ nx jp Q = nx L (.int (-1000002) :: S) μ := Eq.trans rfl rfl
theorem x_X4_carpet_v50 {pc : Nat} {L S : List Value} {μ : am_M} {nx : am_K} {jp : am_J} {Q : am_Q} {k : Nat} {a0 : Int32} : am_st E_X4_carpet pc (.invokevirtual 50) L (.int a0 :: .ref k :: S) μ nx jp Q = (am_sh k = (4, 0) ∧ am_csum S ≤ 8 ∧ f_X4_found k a0 μ (fun r μ' => nx L (r.toList ++ S) μ')) := Eq.trans rfl rfl
theorem x_X4_carpet_v65 {pc : Nat} {L S : List Value} {μ : am_M} {nx : am_K} {jp : am_J} {Q : am_Q} {k : Nat}  : am_st E_X4_carpet pc (.invokevirtual 65) L (.ref k :: S) μ nx jp Q = (am_sh k = (1, 0) ∧ am_csum S ≤ 8 ∧ f_X1_isFull k  μ (fun r μ' => nx L (r.toList ++ S) μ')) := Eq.trans rfl rfl
theorem x_X4_carpet_v70 {pc : Nat} {L S : List Value} {μ : am_M} {nx : am_K} {jp : am_J} {Q : am_Q} {k : Nat} {a0 : Int32} {a1 : Int32} : am_st E_X4_carpet pc (.invokevirtual 70) L (.int a1 :: .int a0 :: .ref k :: S) μ nx jp Q = (am_sh k = (1, 0) ∧ am_csum S ≤ 8 ∧ f_X1_lay k a0 a1 μ (fun r μ' => nx L (r.toList ++ S) μ')) := Eq.trans rfl rfl
theorem x_X4_carpet_v45 {pc : Nat} {L S : List Value} {μ : am_M} {nx : am_K} {jp : am_J} {Q : am_Q} {a0 : Int32} {a1 : Int32} : am_st E_X4_carpet pc (.invokestatic 45) L (.int a1 :: .int a0 :: S) μ nx jp Q = (am_csum S ≤ 8 ∧ f_X4_isWithin a0 a1 μ (fun r μ' => nx L (r.toList ++ S) μ')) := Eq.trans rfl rfl
def rm_X4_carpet : Room := { frames := 2, cells := 0, slots := 0, locals := 44 }
theorem eo_X4_carpet : am_EO "CarpetLane" rm_X4_carpet E_X4_carpet := ⟨(List.forall_mem_cons.mpr ⟨Or.inl ⟨_, rfl, by decide, am_in 207 (by decide +kernel) (by decide +kernel), by decide⟩, (fun _ h => absurd h List.not_mem_nil)⟩), (List.forall_mem_cons.mpr ⟨am_in 237 (by decide +kernel) (by decide +kernel), (List.forall_mem_cons.mpr ⟨am_in 261 (by decide +kernel) (by decide +kernel), (fun _ h => absurd h List.not_mem_nil)⟩)⟩), (fun _ h => absurd h List.not_mem_nil), (List.forall_mem_cons.mpr ⟨am_mkV ok_X4_found wv_X4_found (am_in 238 (by decide +kernel) (by decide +kernel)) ⟨rfl, rfl, by decide, by decide⟩, (List.forall_mem_cons.mpr ⟨am_mkV ok_X1_isFull wv_X1_isFull (am_in 257 (by decide +kernel) (by decide +kernel)) ⟨rfl, rfl, by decide, by decide⟩, (List.forall_mem_cons.mpr ⟨am_mkV ok_X1_lay wv_X1_lay (am_in 262 (by decide +kernel) (by decide +kernel)) ⟨rfl, rfl, by decide, by decide⟩, (fun _ h => absurd h List.not_mem_nil)⟩)⟩)⟩), (List.forall_mem_cons.mpr ⟨am_mkS ok_X4_isWithin wv_X4_isWithin (Or.inl (am_in 234 (by decide +kernel) (by decide +kernel))) ⟨rfl, rfl, by decide, by decide⟩, (fun _ h => absurd h List.not_mem_nil)⟩), (fun _ h => absurd h List.not_mem_nil)⟩
theorem wv_X4_carpet : am_WV (⟨"CarpetLane", "carpet", "(II)I"⟩ : MethodName) prog_1_method_5_code 3 (some .int) 2 4 := ⟨am_in 59 (by decide +kernel) (by decide +kernel), am_in 256 (by decide +kernel) (by decide +kernel), by decide +kernel, rfl, by decide, am_in 254 (by decide +kernel) (by decide +kernel), am_in 255 (by decide +kernel) (by decide +kernel)⟩
theorem bd_X4_carpet (o : Nat) (k : Int32) (f : Int32) (μ : am_M) (Q : am_Q) (At : am_J) (hA : am_ok E_X4_carpet cd_X4_carpet Q At) (h : f_X4_carpet o k f μ Q) : At 0 (am_en [.ref o, .int k, .int f] 3) [] μ := by
  obtain ⟨rfl, s, hR, hI, h⟩ := h
  have hW := Iv_w hI
  have hsz : μ.1 1 3 = nI (sn s) := by rw [hR.1.2.1, hW.1.2]
  have n8 := hW.1.1
  unfold p_carpet at h
  refine hA [] 60 0 _ _ _ ?_; show am_blk _ _ _ _ _ [_, _, _] _ _
  simp only [s_aload_0, s_iload_0, s_lload_0, s_istore_0, s_lstore_0, s_astore_0, s_aload_1, s_iload_1, s_lload_1, s_istore_1, s_lstore_1, s_astore_1, s_aload_2, s_iload_2, s_lload_2, s_istore_2, s_lstore_2, s_astore_2, s_aload_3, s_iload_3, s_lload_3, s_istore_3, s_lstore_3, s_astore_3, s_aload, s_iload, s_lload, s_istore, s_lstore, s_astore, s_iconst, s_bipush, s_sipush, s_lconst_0, s_lconst_1, s_iinc, s_iadd, s_isub, s_imul, s_iand, s_ior, s_ixor, s_ishl, s_ishr, s_iushr, s_idiv, s_irem, s_ladd, s_lsub, s_lmul, s_ldiv, s_lrem, s_lcmp, s_i2l, s_l2i, s_i2b, s_i2s, s_i2c, s_dupI, s_dupR, s_dup2IR, s_dupx1, s_popI, s_if_eq, s_if_ne, s_if_lt, s_if_ge, s_if_gt, s_if_le, s_cmp_eq, s_cmp_ne, s_cmp_lt, s_cmp_ge, s_cmp_gt, s_cmp_le, s_goto, s_tsw, s_iaload, s_baload, s_caload, s_aaload, s_iastore, s_bastore, s_alen, s_ireturn, s_lreturn, s_return, am_lI_0, am_lI_S, am_lL_0, am_lL_S, am_lR_0, am_lR_S, am_sto_0, am_sto_1I, am_sto_1R, am_sto_1N, am_sto_1L, am_sto_S, am_stL_d, am_blk_0, am_blk_1, am_ln_aload_n, am_ln_iload_n, am_ln_lload_n, am_ln_istore_n, am_ln_lstore_n, am_ln_astore_n, am_ln_iconst, am_ln_lconst, am_ln_iadd, am_ln_isub, am_ln_imul, am_ln_idiv, am_ln_irem, am_ln_iand, am_ln_ior, am_ln_ixor, am_ln_ishl, am_ln_ishr, am_ln_iushr, am_ln_ladd, am_ln_lsub, am_ln_lmul, am_ln_ldiv, am_ln_lrem, am_ln_lcmp, am_ln_i2l, am_ln_l2i, am_ln_i2b, am_ln_i2s, am_ln_i2c, am_ln_dup, am_ln_dup2, am_ln_dup_x1, am_ln_pop, am_ln_iaload, am_ln_iastore, am_ln_baload, am_ln_bastore, am_ln_caload, am_ln_aaload, am_ln_arraylength, am_ln_ireturn, am_ln_lreturn, am_ln_return_, am_ln_aload, am_ln_iload, am_ln_lload, am_ln_istore, am_ln_lstore, am_ln_astore, am_ln_bipush, am_ln_ldc, am_ln_sipush, am_ln_ldc_w, am_ln_ldc2_w, am_ln_iinc, am_ln_ifCond, am_ln_if_icmp, am_ln_goto, am_ln_getfield, am_ln_putfield, am_ln_getstatic, am_ln_invokevirtual, am_ln_invokestatic, am_csum_0, am_csum_I, am_csum_R, am_csum_L, k_im16, k_im8, k_im4, k_im2, k_im1, k_i0, k_i1, k_i2, k_i3, k_i4, k_i5, k_i6, k_i7, k_i8, k_i9, k_i10, k_i11, k_i12, k_i13, k_i14, k_i15, k_i16, k_i17, k_i18, k_i19, k_i20, k_i21, k_i22, k_i23, k_i24, k_i25, k_i26, k_i27, k_i28, k_i29, k_i30, k_i31, k_i32, k_i33, k_i34, k_i35, k_i36, k_i37, k_i38, k_i39, k_i40, k_i41, k_b6, k_b7, k_b8, k_b9, k_b10, k_b11, k_b12, k_b13, k_b14, k_b15, k_b16, k_b17, k_b18, k_b19, k_b20, k_b21, k_b22, k_b23, k_b24, k_b25, k_b26, k_b27, k_b28, k_b29, k_b30, k_b31, k_b32, k_b33, k_b34, k_b35, k_b36, k_b37, k_b38, k_b39, k_b40, k_b41, k_b42, k_b43, k_b44, k_b45, k_b46, k_b47, k_b48, k_b49, k_b50, k_b51, k_b52, k_b53, k_b54, k_b55, k_b56, k_b57, k_b58, k_b59, k_b60, k_b61, k_b62, k_b63, k_b66, k_b76, k_b97, k_b98, k_b99, k_b100, k_b101, k_b102, k_b103, k_b104, k_b105, k_b107, k_b108, k_b109, k_b110, k_b112, k_b114, k_b115, k_b116, k_b117, k_b120, k_b121, k_b122, k_s160, k_s200, k_s255, k_s256, k_s999, k_s2048, k_s4095, k_s9999, k_s10000, k_s12345, k_narI, k_narZ0, k_narZ1, k_ffalse, k_ts0, k_ts1, k_tw0, k_tw1, k_rt, k_rn, Nat.reduceAdd, Nat.zero_add, Nat.reduceLeDiff, Nat.reduceLT, Int.reduceAdd, Int.zero_add, true_and, and_true, List.set_cons_zero, List.set_cons_succ, eq_self, k_n2, k_n3, k_n4, k_n5, k_n6, k_n7, k_n8, k_n9, k_n10, k_n12, k_nn, true_or, or_true, false_or, or_false, k_z10, not_false_eq_true, not_true_eq_false, true_imp_iff, false_imp_iff, n_X4_carpet, r_X4_carpet, g_X4_carpet_0, b_X4_carpet_0, bk_X4_carpet_0, g_X4_carpet_19, bk_X4_carpet_19, g_X4_carpet_26, bk_X4_carpet_26, g_X4_carpet_43, bk_X4_carpet_43, t_X4_carpet_6_19, t_X4_carpet_16_26, t_X4_carpet_33_43, x_X4_carpet_g12, x_X4_carpet_c49, x_X4_carpet_c69, x_X4_carpet_v50, x_X4_carpet_v65, x_X4_carpet_v70, x_X4_carpet_v45, f_X4_isWithin, f_X4_found, q00, q01, q02, s1, s2, s3, r3, r14, r15, r16, f_X1_isFull, f_X1_lay, hsz]
  refine ⟨fun q => ⟨fun q2 => ?_, fun q2 => ?_⟩, fun q => ?_⟩
  · rw [if_pos (wi_t q), if_pos (wi_t q2)] at h
    refine ⟨LB1, fun q3 => ?_, fun q3 => ?_⟩
    · have : sn s = 8 := by
        have := (nI_leI (a := 8) (b := sn s) (by omega) (by omega)).mp q3
        omega
      rw [if_pos this] at h
      exact oX_g h (by omega) hR (FrX_rf μ) (by decide)
    · have h8 : ¬ sn s = 8 := fun z => q3 (by rw [z]; decide)
      rw [if_neg h8] at h
      exact ⟨LB1, s, hR, hW, fun z => absurd z h8, fun _ μ' hR' hF' => h μ' hR' (FrX_1 hF')⟩
  · rw [if_pos (wi_t q), wi_f q2, if_neg (by decide)] at h
    exact oX_g h (by omega) hR (FrX_rf μ) (by decide)
  · rw [wi_f q, if_neg (by decide)] at h
    exact oX_g h (by omega) hR (FrX_rf μ) (by decide)
theorem ok_X4_carpet : am_OK (⟨"CarpetLane", "carpet", "(II)I"⟩ : MethodName) prog_1_method_5_code 3 (some .int) rm_X4_carpet sp_X4_carpet := am_mok (cd := cd_X4_carpet) E_X4_carpet (by decide +kernel) rfl eo_X4_carpet (by decide +kernel) (by decide +kernel) (q_RII_h (by decide)) (q_RII_b bd_X4_carpet)
