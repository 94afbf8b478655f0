/-! ===== a lane's state, and how cells hold it ===== -/
abbrev cS : Type := (Nat → Int32) × (Nat → Int32) × (Nat → Nat → Int32) × (Nat → Int32)
def sn (s : cS) : Nat := (s.1 1).toNatClampNeg
def wsc (s : cS) (i : Nat) (x : Int32) : cS := ((fun j => if j = i then x else s.1 j), s.2)
def wbt (s : cS) (i : Nat) (x : Int32) : cS := (s.1, (fun j => if j = i then x else s.2.1 j), s.2.2)
def wcp (s : cS) (c f : Nat) (x : Int32) : cS := (s.1, s.2.1, (fun a b => if a = c ∧ b = f then x else s.2.2.1 a b), s.2.2.2)
def wsp (s : cS) (i : Nat) (x : Int32) : cS := (s.1, s.2.1, s.2.2.1, (fun j => if j = i then x else s.2.2.2 j))
def mb (f : Nat) : Nat := [6, 4095, 999, 4095, 9999, 1, 9999].getD f 0
def Iv (s : cS) : Prop := (∃ n, n ≤ 8 ∧ s.1 1 = nI n) ∧ (∃ d, d ≤ 99999 ∧ s.1 0 = nI d) ∧ (∃ a, a ≤ 99999 ∧ s.1 3 = nI a) ∧ (∀ i, i < 6 → ∃ e, e < 80 ∧ s.2.1 i = nI e) ∧ (∀ c f, c < sn s → f < 7 → ∃ v, v ≤ mb f ∧ s.2.2.1 c f = nI v) ∧ (∀ i, i < 10 → s.2.2.2 i = -1 ∨ ∃ c, c < sn s ∧ s.2.2.2 i = nI c)
theorem Iv_n {s : cS} (h : Iv s) : sn s ≤ 8 ∧ s.1 1 = nI (sn s) := by
  obtain ⟨⟨n, h1, h2⟩, -⟩ := h
  have e : sn s = n := by unfold sn; rw [h2, nI_clamp (by omega)]
  rw [e]
  exact ⟨h1, h2⟩
def Iw (s : cS) : Prop := (sn s ≤ 8 ∧ s.1 1 = nI (sn s)) ∧ ∃ d, d ≤ 99999 ∧ s.1 0 = nI d
theorem Iv_w {s : cS} (h : Iv s) : Iw s := ⟨Iv_n h, h.2.1⟩
def LB (b : Nat) : Prop := b = 1 ∨ b = 13 ∨ b = 25
def Rp (b : Nat) (μ : am_M) (s : cS) : Prop := (μ.1 b 0 = s.1 0 ∧ μ.1 b 3 = s.1 1 ∧ μ.1 b 2 = s.1 2 ∧ μ.1 b 1 = s.1 3) ∧ (∀ i, i < 6 → μ.1 (b + 1) i = s.2.1 i) ∧ (∀ c f, c < sn s → f < 7 → μ.1 (b + 3 + c) f = s.2.2.1 c f) ∧ (∀ i, i < 10 → μ.1 (b + 11) i = s.2.2.2 i)
def Fr (b : Nat) (μ μ' : am_M) : Prop := (∀ k, (k < b ∨ b + 12 ≤ k) → μ'.1 k = μ.1 k) ∧ μ'.2 = μ.2
theorem Fr_rf (b : Nat) (μ : am_M) : Fr b μ μ := ⟨fun _ _ => rfl, rfl⟩
theorem Fr_tr {b : Nat} {x y z : am_M} (h1 : Fr b x y) (h2 : Fr b y z) : Fr b x z := ⟨fun k hk => (h2.1 k hk).trans (h1.1 k hk), h2.2.trans h1.2⟩
theorem Fr_set {b : Nat} {x y : am_M} {k j : Nat} {v : Int32} (h : Fr b x y) (h1 : b ≤ k) (h2 : k < b + 12) : Fr b x (am_set y k j v) := by
  refine ⟨fun i hi => ?_, h.2⟩
  rw [← h.1 i hi]
  funext q
  have : ¬ i = k := by omega
  simp [am_set, this]
theorem set_ne {μ : am_M} {k j a c : Nat} {x : Int32} (h : ¬ (a = k ∧ c = j)) : (am_set μ k j x).1 a c = μ.1 a c := by
  simp only [am_set, if_neg h]
theorem set_eq {μ : am_M} {k j : Nat} {x : Int32} : (am_set μ k j x).1 k j = x := by simp [am_set]
theorem Rp_day {b : Nat} {μ : am_M} {s : cS} {x : Int32} (h : Rp b μ s) : Rp b (am_set μ b 0 x) (wsc s 0 x) := by
  obtain ⟨⟨h1, h2, h3, h4⟩, h5, h6, h7⟩ := h
  refine ⟨⟨by simp [am_set, wsc], by simp [am_set, wsc, h2], by simp [am_set, wsc, h3], by simp [am_set, wsc, h4]⟩, fun i hi => ?_, fun c f hc hf => ?_, fun i hi => ?_⟩
  · rw [set_ne (by omega)]; exact h5 i hi
  · rw [set_ne (by omega)]; exact h6 c f hc hf
  · rw [set_ne (by omega)]; exact h7 i hi
theorem Rp_air {b : Nat} {μ : am_M} {s : cS} {x : Int32} (h : Rp b μ s) : Rp b (am_set μ b 1 x) (wsc s 3 x) := by
  obtain ⟨⟨h1, h2, h3, h4⟩, h5, h6, h7⟩ := h
  refine ⟨⟨by simp [am_set, wsc, h1], by simp [am_set, wsc, h2], by simp [am_set, wsc, h3], by simp [am_set, wsc]⟩, fun i hi => ?_, fun c f hc hf => ?_, fun i hi => ?_⟩
  · rw [set_ne (by omega)]; exact h5 i hi
  · rw [set_ne (by omega)]; exact h6 c f hc hf
  · rw [set_ne (by omega)]; exact h7 i hi
theorem Rp_z {b : Nat} {μ : am_M} {s : cS} {x : Int32} (h : Rp b μ s) : Rp b (am_set μ b 2 x) (wsc s 2 x) := by
  obtain ⟨⟨h1, h2, h3, h4⟩, h5, h6, h7⟩ := h
  refine ⟨⟨by simp [am_set, wsc, h1], by simp [am_set, wsc, h2], by simp [am_set, wsc], by simp [am_set, wsc, h4]⟩, fun i hi => ?_, fun c f hc hf => ?_, fun i hi => ?_⟩
  · rw [set_ne (by omega)]; exact h5 i hi
  · rw [set_ne (by omega)]; exact h6 c f hc hf
  · rw [set_ne (by omega)]; exact h7 i hi
theorem Rp_bt {b : Nat} {μ : am_M} {s : cS} {x : Int32} {j : Nat} (h : Rp b μ s) : Rp b (am_set μ (b + 1) j x) (wbt s j x) := by
  obtain ⟨⟨h1, h2, h3, h4⟩, h5, h6, h7⟩ := h
  refine ⟨⟨by rw [set_ne (by omega)]; exact h1, by rw [set_ne (by omega)]; exact h2, by rw [set_ne (by omega)]; exact h3, by rw [set_ne (by omega)]; exact h4⟩, fun i hi => ?_, fun c f hc hf => ?_, fun i hi => ?_⟩
  · by_cases e : i = j
    · subst e; rw [set_eq]; simp [wbt]
    · rw [set_ne (by omega), h5 i hi]; simp [wbt, e]
  · rw [set_ne (by omega)]; exact h6 c f hc hf
  · rw [set_ne (by omega)]; exact h7 i hi
theorem Rp_cp {b : Nat} {μ : am_M} {s : cS} {x : Int32} {c f : Nat} (h : Rp b μ s) (hc8 : c < 8) : Rp b (am_set μ (b + 3 + c) f x) (wcp s c f x) := by
  obtain ⟨⟨h1, h2, h3, h4⟩, h5, h6, h7⟩ := h
  refine ⟨⟨by rw [set_ne (by omega)]; exact h1, by rw [set_ne (by omega)]; exact h2, by rw [set_ne (by omega)]; exact h3, by rw [set_ne (by omega)]; exact h4⟩, fun i hi => ?_, fun a d hc hf => ?_, fun i hi => ?_⟩
  · rw [set_ne (by omega)]; exact h5 i hi
  · by_cases e : a = c ∧ d = f
    · obtain ⟨rfl, rfl⟩ := e; rw [set_eq]; simp [wcp]
    · rw [set_ne (by omega), h6 a d hc hf]
      simp only [wcp, if_neg e]
  · rw [set_ne (by omega)]; exact h7 i hi
theorem Rp_sp {b : Nat} {μ : am_M} {s : cS} {x : Int32} {j : Nat} (h : Rp b μ s) (hn : sn s ≤ 8) : Rp b (am_set μ (b + 11) j x) (wsp s j x) := by
  obtain ⟨⟨h1, h2, h3, h4⟩, h5, h6, h7⟩ := h
  refine ⟨⟨by rw [set_ne (by omega)]; exact h1, by rw [set_ne (by omega)]; exact h2, by rw [set_ne (by omega)]; exact h3, by rw [set_ne (by omega)]; exact h4⟩, fun i hi => ?_, fun c f hc hf => ?_, fun i hi => ?_⟩
  · rw [set_ne (by omega)]; exact h5 i hi
  · have hc' : c < sn s := hc
    rw [set_ne (by omega)]; exact h6 c f hc hf
  · by_cases e : i = j
    · subst e; rw [set_eq]; simp [wsp]
    · rw [set_ne (by omega), h7 i hi]; simp [wsp, e]
theorem Rp_fr {b b2 : Nat} {μ μ' : am_M} {s : cS} (h : Rp b2 μ s) (hf : Fr b μ μ') (hb : LB b) (hb2 : LB b2) (hne : b ≠ b2) (hn : sn s ≤ 8) : Rp b2 μ' s := by
  obtain ⟨⟨h1, h2, h3, h4⟩, h5, h6, h7⟩ := h
  have key : ∀ k, b2 ≤ k → k < b2 + 12 → μ'.1 k = μ.1 k := fun k k1 k2 => hf.1 k (by unfold LB at hb hb2; omega)
  refine ⟨⟨by rw [key b2 (by omega) (by omega)]; exact h1, by rw [key b2 (by omega) (by omega)]; exact h2, by rw [key b2 (by omega) (by omega)]; exact h3, by rw [key b2 (by omega) (by omega)]; exact h4⟩, fun i hi => ?_, fun c f hc hf => ?_, fun i hi => ?_⟩
  · rw [key _ (by omega) (by omega)]; exact h5 i hi
  · rw [key _ (by omega) (by omega)]; exact h6 c f hc hf
  · rw [key _ (by omega) (by omega)]; exact h7 i hi
theorem LBf {b : Nat} (h : LB b) : am_sh b = (1, 0) ∧ am_rf b 4 = b + 1 ∧ am_rf b 5 = b + 2 ∧ am_rf b 6 = b + 11 ∧ am_sh (b + 1) = (10, 6) ∧ am_sh (b + 2) = (13, 8) ∧ am_sh (b + 11) = (10, 10) ∧ (∀ i, am_rf (b + 2) i = b + 3 + i) ∧ (∀ i, i < 8 → am_sh (b + 3 + i) = (0, 0)) := by
  rcases h with rfl | rfl | rfl
  · refine ⟨by decide, by decide, by decide, by decide, by decide, by decide, by decide, fun i => by simp [am_rf], by decide⟩
  · refine ⟨by decide, by decide, by decide, by decide, by decide, by decide, by decide, fun i => by simp [am_rf], by decide⟩
  · refine ⟨by decide, by decide, by decide, by decide, by decide, by decide, by decide, fun i => by simp [am_rf], by decide⟩
theorem ial10 {k n : Nat} (h : am_sh k = (10, n)) (μ : am_M) (i : Int32) (nx : Int32 → Prop) : am_ial μ k i nx = (vp_in i n ∧ nx (μ.1 k i.toNatClampNeg)) := by
  unfold am_ial
  rw [h]
  simp
theorem cl_nI {n : Nat} (h : n < 2147483648) : (nI n).toNatClampNeg = n := nI_clamp h
theorem in_nI {n N : Nat} (h : n < N) (hN : N < 2147483648) : vp_in (nI n) N := vp_in_nI h hN
/-! ===== Lane ===== -/
def f_X1_isFull (b : Nat) (μ : am_M) (Q : am_Q) : Prop := LB b ∧ (8 ≤ μ.1 b 3 → Q (some (.int 1)) μ) ∧ (¬ 8 ≤ μ.1 b 3 → Q (some (.int 0)) μ)
def sp_X1_isFull : am_Sp := q_R f_X1_isFull
def bk_X1_isFull_0 : List Instr := [.aload_n 0, .getfield 35, .bipush 8, .if_icmp .lt 7, .iconst 1, .goto 4]
def bk_X1_isFull_13 : List Instr := [.iconst 0]
def bk_X1_isFull_14 : List Instr := [.ireturn]
def cd_X1_isFull : am_cd := [(0, bk_X1_isFull_0), (13, bk_X1_isFull_13), (14, bk_X1_isFull_14)]
def E_X1_isFull : am_E := (1, .boolean, [(35, 1, 3)], [], [], [], [], [])
theorem n_X1_isFull : am_nL E_X1_isFull = 1 := Eq.trans rfl rfl
theorem r_X1_isFull : am_rt E_X1_isFull = .boolean := Eq.trans rfl rfl
theorem g_X1_isFull_0 {At : am_J} {Q : am_Q} {n : Nat} {L S : List Value} {μ : am_M} : am_go E_X1_isFull cd_X1_isFull [] At Q (n + 1) 0 L S μ = am_blk E_X1_isFull (am_go E_X1_isFull cd_X1_isFull [] At Q n) Q bk_X1_isFull_0 0 L S μ := Eq.trans rfl rfl
theorem b_X1_isFull_0 {gt : am_J} {Q : am_Q} {L S : List Value} {μ : am_M} : am_blk E_X1_isFull gt Q (am_lk [] cd_X1_isFull 0) 0 L S μ = am_blk E_X1_isFull gt Q bk_X1_isFull_0 0 L S μ := Eq.trans rfl rfl
theorem g_X1_isFull_13 {At : am_J} {Q : am_Q} {n : Nat} {L S : List Value} {μ : am_M} : am_go E_X1_isFull cd_X1_isFull [] At Q (n + 1) 13 L S μ = am_blk E_X1_isFull (am_go E_X1_isFull cd_X1_isFull [] At Q n) Q bk_X1_isFull_13 13 L S μ := Eq.trans rfl rfl
theorem g_X1_isFull_14 {At : am_J} {Q : am_Q} {n : Nat} {L S : List Value} {μ : am_M} : am_go E_X1_isFull cd_X1_isFull [] At Q (n + 1) 14 L S μ = am_blk E_X1_isFull (am_go E_X1_isFull cd_X1_isFull [] At Q n) Q bk_X1_isFull_14 14 L S μ := Eq.trans rfl rfl
theorem t_X1_isFull_6_13 : am_tg 6 7 = 13 := Eq.trans rfl rfl
theorem t_X1_isFull_10_14 : am_tg 10 4 = 14 := Eq.trans rfl rfl
theorem x_X1_isFull_g35 {pc : Nat} {L S : List Value} {μ : am_M} {nx : am_K} {jp : am_J} {Q : am_Q} {k : Nat} : am_st E_X1_isFull pc (.getfield 35) L (.ref k :: S) μ nx jp Q = (am_sh k = (1, 0) ∧ nx L (.int (μ.1 k 3) :: S) μ) := Eq.trans rfl rfl
def rm_X1_isFull : Room := { frames := 0, cells := 0, slots := 0, locals := 0 }
theorem eo_X1_isFull : am_EO "CarpetLane$Lane" rm_X1_isFull E_X1_isFull := ⟨(List.forall_mem_cons.mpr ⟨Or.inl ⟨_, rfl, by decide, am_in 135 (by decide +kernel) (by decide +kernel), by decide⟩, (fun _ h => absurd h List.not_mem_nil)⟩), (fun _ h => absurd h List.not_mem_nil), (fun _ h => absurd h List.not_mem_nil), (fun _ h => absurd h List.not_mem_nil), (fun _ h => absurd h List.not_mem_nil), (fun _ h => absurd h List.not_mem_nil)⟩
theorem wv_X1_isFull : am_WV (⟨"CarpetLane$Lane", "isFull", "()Z"⟩ : MethodName) prog_3_method_3_code 1 (some .boolean) 0 1 := ⟨am_in 60 (by decide +kernel) (by decide +kernel), am_in 260 (by decide +kernel) (by decide +kernel), by decide +kernel, rfl, by decide, am_in 258 (by decide +kernel) (by decide +kernel), am_in 259 (by decide +kernel) (by decide +kernel)⟩
theorem bd_X1_isFull (b : Nat) (μ : am_M) (Q : am_Q) (At : am_J) (hA : am_ok E_X1_isFull cd_X1_isFull Q At) (h : f_X1_isFull b μ Q) : At 0 (am_en [.ref b] 1) [] μ := by
  obtain ⟨hb, h⟩ := h
  obtain ⟨b0, b4, b5, b6, b1, b2, b11, br, bc8⟩ := LBf hb
  refine hA [] 60 0 _ _ _ ?_; show am_blk _ _ _ _ _ [.ref b] _ _
  simp only [s_aload_0, s_iload_0, s_lload_0, s_istore_0, s_lstore_0, s_astore_0, s_aload_1, s_iload_1, s_lload_1, s_istore_1, s_lstore_1, s_astore_1, s_aload_2, s_iload_2, s_lload_2, s_istore_2, s_lstore_2, s_astore_2, s_aload_3, s_iload_3, s_lload_3, s_istore_3, s_lstore_3, s_astore_3, s_aload, s_iload, s_lload, s_istore, s_lstore, s_astore, s_iconst, s_bipush, s_sipush, s_lconst_0, s_lconst_1, s_iinc, s_iadd, s_isub, s_imul, s_iand, s_ior, s_ixor, s_ishl, s_ishr, s_iushr, s_idiv, s_irem, s_ladd, s_lsub, s_lmul, s_ldiv, s_lrem, s_lcmp, s_i2l, s_l2i, s_i2b, s_i2s, s_i2c, s_dupI, s_dupR, s_dup2IR, s_dupx1, s_popI, s_if_eq, s_if_ne, s_if_lt, s_if_ge, s_if_gt, s_if_le, s_cmp_eq, s_cmp_ne, s_cmp_lt, s_cmp_ge, s_cmp_gt, s_cmp_le, s_goto, s_tsw, s_iaload, s_baload, s_caload, s_aaload, s_iastore, s_bastore, s_alen, s_ireturn, s_lreturn, s_return, am_lI_0, am_lI_S, am_lL_0, am_lL_S, am_lR_0, am_lR_S, am_sto_0, am_sto_1I, am_sto_1R, am_sto_1N, am_sto_1L, am_sto_S, am_stL_d, am_blk_0, am_blk_1, am_ln_aload_n, am_ln_iload_n, am_ln_lload_n, am_ln_istore_n, am_ln_lstore_n, am_ln_astore_n, am_ln_iconst, am_ln_lconst, am_ln_iadd, am_ln_isub, am_ln_imul, am_ln_idiv, am_ln_irem, am_ln_iand, am_ln_ior, am_ln_ixor, am_ln_ishl, am_ln_ishr, am_ln_iushr, am_ln_ladd, am_ln_lsub, am_ln_lmul, am_ln_ldiv, am_ln_lrem, am_ln_lcmp, am_ln_i2l, am_ln_l2i, am_ln_i2b, am_ln_i2s, am_ln_i2c, am_ln_dup, am_ln_dup2, am_ln_dup_x1, am_ln_pop, am_ln_iaload, am_ln_iastore, am_ln_baload, am_ln_bastore, am_ln_caload, am_ln_aaload, am_ln_arraylength, am_ln_ireturn, am_ln_lreturn, am_ln_return_, am_ln_aload, am_ln_iload, am_ln_lload, am_ln_istore, am_ln_lstore, am_ln_astore, am_ln_bipush, am_ln_ldc, am_ln_sipush, am_ln_ldc_w, am_ln_ldc2_w, am_ln_iinc, am_ln_ifCond, am_ln_if_icmp, am_ln_goto, am_ln_getfield, am_ln_putfield, am_ln_getstatic, am_ln_invokevirtual, am_ln_invokestatic, am_csum_0, am_csum_I, am_csum_R, am_csum_L, k_im16, k_im8, k_im4, k_im2, k_im1, k_i0, k_i1, k_i2, k_i3, k_i4, k_i5, k_i6, k_i7, k_i8, k_i9, k_i10, k_i11, k_i12, k_i13, k_i14, k_i15, k_i16, k_i17, k_i18, k_i19, k_i20, k_i21, k_i22, k_i23, k_i24, k_i25, k_i26, k_i27, k_i28, k_i29, k_i30, k_i31, k_i32, k_i33, k_i34, k_i35, k_i36, k_i37, k_i38, k_i39, k_i40, k_i41, k_b6, k_b7, k_b8, k_b9, k_b10, k_b11, k_b12, k_b13, k_b14, k_b15, k_b16, k_b17, k_b18, k_b19, k_b20, k_b21, k_b22, k_b23, k_b24, k_b25, k_b26, k_b27, k_b28, k_b29, k_b30, k_b31, k_b32, k_b33, k_b34, k_b35, k_b36, k_b37, k_b38, k_b39, k_b40, k_b41, k_b42, k_b43, k_b44, k_b45, k_b46, k_b47, k_b48, k_b49, k_b50, k_b51, k_b52, k_b53, k_b54, k_b55, k_b56, k_b57, k_b58, k_b59, k_b60, k_b61, k_b62, k_b63, k_b66, k_b76, k_b97, k_b98, k_b99, k_b100, k_b101, k_b102, k_b103, k_b104, k_b105, k_b107, k_b108, k_b109, k_b110, k_b112, k_b114, k_b115, k_b116, k_b117, k_b120, k_b121, k_b122, k_s160, k_s200, k_s255, k_s256, k_s999, k_s2048, k_s4095, k_s9999, k_s10000, k_s12345, k_narI, k_narZ0, k_narZ1, k_ffalse, k_ts0, k_ts1, k_tw0, k_tw1, k_rt, k_rn, Nat.reduceAdd, Nat.zero_add, Nat.reduceLeDiff, Nat.reduceLT, Int.reduceAdd, Int.zero_add, true_and, and_true, List.set_cons_zero, List.set_cons_succ, eq_self, k_n2, k_n3, k_n4, k_n5, k_n6, k_n7, k_n8, k_n9, k_n10, k_n12, k_nn, true_or, or_true, false_or, or_false, k_z10, not_false_eq_true, not_true_eq_false, true_imp_iff, false_imp_iff, n_X1_isFull, r_X1_isFull, g_X1_isFull_0, b_X1_isFull_0, bk_X1_isFull_0, g_X1_isFull_13, bk_X1_isFull_13, g_X1_isFull_14, bk_X1_isFull_14, t_X1_isFull_6_13, t_X1_isFull_10_14, x_X1_isFull_g35, b0]
  exact ⟨fun q => h.2 (Int32.not_le.mpr q), fun q => h.1 (Int32.not_lt.mp q)⟩
theorem ok_X1_isFull : am_OK (⟨"CarpetLane$Lane", "isFull", "()Z"⟩ : MethodName) prog_3_method_3_code 1 (some .boolean) rm_X1_isFull sp_X1_isFull := am_mok (cd := cd_X1_isFull) E_X1_isFull (by decide +kernel) rfl eo_X1_isFull (by decide +kernel) (by decide +kernel) (q_R_h (by decide)) (q_R_b bd_X1_isFull)
def f_X1_isThere (b : Nat) (c : Int32) (μ : am_M) (Q : am_Q) : Prop := LB b ∧ ((0 ≤ c ∧ c < μ.1 b 3) → Q (some (.int 1)) μ) ∧ (¬ (0 ≤ c ∧ c < μ.1 b 3) → Q (some (.int 0)) μ)
def sp_X1_isThere : am_Sp := q_RI f_X1_isThere
def bk_X1_isThere_0 : List Instr := [.iload_n 1, .ifCond .lt 15, .iload_n 1, .aload_n 0, .getfield 35, .if_icmp .ge 7, .iconst 1, .goto 4]
def bk_X1_isThere_16 : List Instr := [.iconst 0]
def bk_X1_isThere_17 : List Instr := [.ireturn]
def cd_X1_isThere : am_cd := [(0, bk_X1_isThere_0), (16, bk_X1_isThere_16), (17, bk_X1_isThere_17)]
def E_X1_isThere : am_E := (2, .boolean, [(35, 1, 3)], [], [], [], [], [])
theorem n_X1_isThere : am_nL E_X1_isThere = 2 := Eq.trans rfl rfl
theorem r_X1_isThere : am_rt E_X1_isThere = .boolean := Eq.trans rfl rfl
theorem g_X1_isThere_0 {At : am_J} {Q : am_Q} {n : Nat} {L S : List Value} {μ : am_M} : am_go E_X1_isThere cd_X1_isThere [] At Q (n + 1) 0 L S μ = am_blk E_X1_isThere (am_go E_X1_isThere cd_X1_isThere [] At Q n) Q bk_X1_isThere_0 0 L S μ := Eq.trans rfl rfl
theorem b_X1_isThere_0 {gt : am_J} {Q : am_Q} {L S : List Value} {μ : am_M} : am_blk E_X1_isThere gt Q (am_lk [] cd_X1_isThere 0) 0 L S μ = am_blk E_X1_isThere gt Q bk_X1_isThere_0 0 L S μ := Eq.trans rfl rfl
theorem g_X1_isThere_16 {At : am_J} {Q : am_Q} {n : Nat} {L S : List Value} {μ : am_M} : am_go E_X1_isThere cd_X1_isThere [] At Q (n + 1) 16 L S μ = am_blk E_X1_isThere (am_go E_X1_isThere cd_X1_isThere [] At Q n) Q bk_X1_isThere_16 16 L S μ := Eq.trans rfl rfl
theorem g_X1_isThere_17 {At : am_J} {Q : am_Q} {n : Nat} {L S : List Value} {μ : am_M} : am_go E_X1_isThere cd_X1_isThere [] At Q (n + 1) 17 L S μ = am_blk E_X1_isThere (am_go E_X1_isThere cd_X1_isThere [] At Q n) Q bk_X1_isThere_17 17 L S μ := Eq.trans rfl rfl
theorem t_X1_isThere_1_16 : am_tg 1 15 = 16 := Eq.trans rfl rfl
theorem t_X1_isThere_9_16 : am_tg 9 7 = 16 := Eq.trans rfl rfl
theorem t_X1_isThere_13_17 : am_tg 13 4 = 17 := Eq.trans rfl rfl
theorem x_X1_isThere_g35 {pc : Nat} {L S : List Value} {μ : am_M} {nx : am_K} {jp : am_J} {Q : am_Q} {k : Nat} : am_st E_X1_isThere pc (.getfield 35) L (.ref k :: S) μ nx jp Q = (am_sh k = (1, 0) ∧ nx L (.int (μ.1 k 3) :: S) μ) := Eq.trans rfl rfl
def rm_X1_isThere : Room := { frames := 0, cells := 0, slots := 0, locals := 0 }
theorem eo_X1_isThere : am_EO "CarpetLane$Lane" rm_X1_isThere E_X1_isThere := ⟨(List.forall_mem_cons.mpr ⟨Or.inl ⟨_, rfl, by decide, am_in 135 (by decide +kernel) (by decide +kernel), by decide⟩, (fun _ h => absurd h List.not_mem_nil)⟩), (fun _ h => absurd h List.not_mem_nil), (fun _ h => absurd h List.not_mem_nil), (fun _ h => absurd h List.not_mem_nil), (fun _ h => absurd h List.not_mem_nil), (fun _ h => absurd h List.not_mem_nil)⟩
theorem wv_X1_isThere : am_WV (⟨"CarpetLane$Lane", "isThere", "(I)Z"⟩ : MethodName) prog_3_method_4_code 2 (some .boolean) 1 1 := ⟨am_in 60 (by decide +kernel) (by decide +kernel), am_in 278 (by decide +kernel) (by decide +kernel), by decide +kernel, rfl, by decide, am_in 276 (by decide +kernel) (by decide +kernel), am_in 277 (by decide +kernel) (by decide +kernel)⟩
theorem bd_X1_isThere (b : Nat) (c : Int32) (μ : am_M) (Q : am_Q) (At : am_J) (hA : am_ok E_X1_isThere cd_X1_isThere Q At) (h : f_X1_isThere b c μ Q) : At 0 (am_en [.ref b, .int c] 2) [] μ := by
  obtain ⟨hb, h⟩ := h
  obtain ⟨b0, b4, b5, b6, b1, b2, b11, br, bc8⟩ := LBf hb
  refine hA [] 60 0 _ _ _ ?_; show am_blk _ _ _ _ _ [.ref b, .int c] _ _
  simp only [s_aload_0, s_iload_0, s_lload_0, s_istore_0, s_lstore_0, s_astore_0, s_aload_1, s_iload_1, s_lload_1, s_istore_1, s_lstore_1, s_astore_1, s_aload_2, s_iload_2, s_lload_2, s_istore_2, s_lstore_2, s_astore_2, s_aload_3, s_iload_3, s_lload_3, s_istore_3, s_lstore_3, s_astore_3, s_aload, s_iload, s_lload, s_istore, s_lstore, s_astore, s_iconst, s_bipush, s_sipush, s_lconst_0, s_lconst_1, s_iinc, s_iadd, s_isub, s_imul, s_iand, s_ior, s_ixor, s_ishl, s_ishr, s_iushr, s_idiv, s_irem, s_ladd, s_lsub, s_lmul, s_ldiv, s_lrem, s_lcmp, s_i2l, s_l2i, s_i2b, s_i2s, s_i2c, s_dupI, s_dupR, s_dup2IR, s_dupx1, s_popI, s_if_eq, s_if_ne, s_if_lt, s_if_ge, s_if_gt, s_if_le, s_cmp_eq, s_cmp_ne, s_cmp_lt, s_cmp_ge, s_cmp_gt, s_cmp_le, s_goto, s_tsw, s_iaload, s_baload, s_caload, s_aaload, s_iastore, s_bastore, s_alen, s_ireturn, s_lreturn, s_return, am_lI_0, am_lI_S, am_lL_0, am_lL_S, am_lR_0, am_lR_S, am_sto_0, am_sto_1I, am_sto_1R, am_sto_1N, am_sto_1L, am_sto_S, am_stL_d, am_blk_0, am_blk_1, am_ln_aload_n, am_ln_iload_n, am_ln_lload_n, am_ln_istore_n, am_ln_lstore_n, am_ln_astore_n, am_ln_iconst, am_ln_lconst, am_ln_iadd, am_ln_isub, am_ln_imul, am_ln_idiv, am_ln_irem, am_ln_iand, am_ln_ior, am_ln_ixor, am_ln_ishl, am_ln_ishr, am_ln_iushr, am_ln_ladd, am_ln_lsub, am_ln_lmul, am_ln_ldiv, am_ln_lrem, am_ln_lcmp, am_ln_i2l, am_ln_l2i, am_ln_i2b, am_ln_i2s, am_ln_i2c, am_ln_dup, am_ln_dup2, am_ln_dup_x1, am_ln_pop, am_ln_iaload, am_ln_iastore, am_ln_baload, am_ln_bastore, am_ln_caload, am_ln_aaload, am_ln_arraylength, am_ln_ireturn, am_ln_lreturn, am_ln_return_, am_ln_aload, am_ln_iload, am_ln_lload, am_ln_istore, am_ln_lstore, am_ln_astore, am_ln_bipush, am_ln_ldc, am_ln_sipush, am_ln_ldc_w, am_ln_ldc2_w, am_ln_iinc, am_ln_ifCond, am_ln_if_icmp, am_ln_goto, am_ln_getfield, am_ln_putfield, am_ln_getstatic, am_ln_invokevirtual, am_ln_invokestatic, am_csum_0, am_csum_I, am_csum_R, am_csum_L, k_im16, k_im8, k_im4, k_im2, k_im1, k_i0, k_i1, k_i2, k_i3, k_i4, k_i5, k_i6, k_i7, k_i8, k_i9, k_i10, k_i11, k_i12, k_i13, k_i14, k_i15, k_i16, k_i17, k_i18, k_i19, k_i20, k_i21, k_i22, k_i23, k_i24, k_i25, k_i26, k_i27, k_i28, k_i29, k_i30, k_i31, k_i32, k_i33, k_i34, k_i35, k_i36, k_i37, k_i38, k_i39, k_i40, k_i41, k_b6, k_b7, k_b8, k_b9, k_b10, k_b11, k_b12, k_b13, k_b14, k_b15, k_b16, k_b17, k_b18, k_b19, k_b20, k_b21, k_b22, k_b23, k_b24, k_b25, k_b26, k_b27, k_b28, k_b29, k_b30, k_b31, k_b32, k_b33, k_b34, k_b35, k_b36, k_b37, k_b38, k_b39, k_b40, k_b41, k_b42, k_b43, k_b44, k_b45, k_b46, k_b47, k_b48, k_b49, k_b50, k_b51, k_b52, k_b53, k_b54, k_b55, k_b56, k_b57, k_b58, k_b59, k_b60, k_b61, k_b62, k_b63, k_b66, k_b76, k_b97, k_b98, k_b99, k_b100, k_b101, k_b102, k_b103, k_b104, k_b105, k_b107, k_b108, k_b109, k_b110, k_b112, k_b114, k_b115, k_b116, k_b117, k_b120, k_b121, k_b122, k_s160, k_s200, k_s255, k_s256, k_s999, k_s2048, k_s4095, k_s9999, k_s10000, k_s12345, k_narI, k_narZ0, k_narZ1, k_ffalse, k_ts0, k_ts1, k_tw0, k_tw1, k_rt, k_rn, Nat.reduceAdd, Nat.zero_add, Nat.reduceLeDiff, Nat.reduceLT, Int.reduceAdd, Int.zero_add, true_and, and_true, List.set_cons_zero, List.set_cons_succ, eq_self, k_n2, k_n3, k_n4, k_n5, k_n6, k_n7, k_n8, k_n9, k_n10, k_n12, k_nn, true_or, or_true, false_or, or_false, k_z10, not_false_eq_true, not_true_eq_false, true_imp_iff, false_imp_iff, n_X1_isThere, r_X1_isThere, g_X1_isThere_0, b_X1_isThere_0, bk_X1_isThere_0, g_X1_isThere_16, bk_X1_isThere_16, g_X1_isThere_17, bk_X1_isThere_17, t_X1_isThere_1_16, t_X1_isThere_9_16, t_X1_isThere_13_17, x_X1_isThere_g35, b0]
  exact ⟨fun q => h.2 (fun z => Int32.not_lt.mpr z.1 q), fun q => ⟨fun q2 => h.2 (fun z => Int32.not_lt.mpr q2 z.2), fun q2 => h.1 ⟨Int32.not_lt.mp q, Int32.not_le.mp q2⟩⟩⟩
theorem ok_X1_isThere : am_OK (⟨"CarpetLane$Lane", "isThere", "(I)Z"⟩ : MethodName) prog_3_method_4_code 2 (some .boolean) rm_X1_isThere sp_X1_isThere := am_mok (cd := cd_X1_isThere) E_X1_isThere (by decide +kernel) rfl eo_X1_isThere (by decide +kernel) (by decide +kernel) (q_RI_h (by decide)) (q_RI_b bd_X1_isThere)
def opn (s : cS) (c : Int32) : Prop := ∃ i, i < sn s ∧ c = nI i ∧ s.2.2.1 i 5 = 0
def opd (s : cS) (c : Int32) : Prop := 0 ≤ c ∧ c < s.1 1 ∧ s.2.2.1 c.toNatClampNeg 5 = 0
theorem thr {c : Int32} {n : Nat} (hn : n ≤ 8) : (0 ≤ c ∧ c < nI n) ↔ ∃ i, i < n ∧ c = nI i := by
  constructor
  · rintro ⟨h1, h2⟩
    obtain ⟨j, hj, rfl⟩ := nI_of (Int32.not_lt.mpr h1)
    exact ⟨j, (nI_ltI hj (by omega)).mp h2, rfl⟩
  · rintro ⟨i, hi, rfl⟩
    exact ⟨nI_pos' (by omega), (nI_ltI (by omega) (by omega)).mpr hi⟩
def f_X1_isOpen (b : Nat) (c : Int32) (μ : am_M) (Q : am_Q) : Prop := LB b ∧ ∃ s, Rp b μ s ∧ Iw s ∧ (opn s c → Q (some (.int 1)) μ) ∧ (¬ opn s c → Q (some (.int 0)) μ)
def sp_X1_isOpen : am_Sp := q_RI f_X1_isOpen
def bk_X1_isOpen_0 : List Instr := [.iload_n 1, .ifCond .lt 27, .iload_n 1, .aload_n 0, .getfield 35, .if_icmp .ge 19, .aload_n 0, .getfield 21, .iload_n 1, .aaload, .getfield 48, .ifCond .ne 7, .iconst 1, .goto 4]
def bk_X1_isOpen_28 : List Instr := [.iconst 0]
def bk_X1_isOpen_29 : List Instr := [.ireturn]
def cd_X1_isOpen : am_cd := [(0, bk_X1_isOpen_0), (28, bk_X1_isOpen_28), (29, bk_X1_isOpen_29)]
def E_X1_isOpen : am_E := (2, .boolean, [(35, 1, 3), (21, 1, 5), (48, 0, 5)], [], [], [], [], [])
theorem n_X1_isOpen : am_nL E_X1_isOpen = 2 := Eq.trans rfl rfl
theorem r_X1_isOpen : am_rt E_X1_isOpen = .boolean := Eq.trans rfl rfl
theorem g_X1_isOpen_0 {At : am_J} {Q : am_Q} {n : Nat} {L S : List Value} {μ : am_M} : am_go E_X1_isOpen cd_X1_isOpen [] At Q (n + 1) 0 L S μ = am_blk E_X1_isOpen (am_go E_X1_isOpen cd_X1_isOpen [] At Q n) Q bk_X1_isOpen_0 0 L S μ := Eq.trans rfl rfl
theorem b_X1_isOpen_0 {gt : am_J} {Q : am_Q} {L S : List Value} {μ : am_M} : am_blk E_X1_isOpen gt Q (am_lk [] cd_X1_isOpen 0) 0 L S μ = am_blk E_X1_isOpen gt Q bk_X1_isOpen_0 0 L S μ := Eq.trans rfl rfl
theorem g_X1_isOpen_28 {At : am_J} {Q : am_Q} {n : Nat} {L S : List Value} {μ : am_M} : am_go E_X1_isOpen cd_X1_isOpen [] At Q (n + 1) 28 L S μ = am_blk E_X1_isOpen (am_go E_X1_isOpen cd_X1_isOpen [] At Q n) Q bk_X1_isOpen_28 28 L S μ := Eq.trans rfl rfl
theorem g_X1_isOpen_29 {At : am_J} {Q : am_Q} {n : Nat} {L S : List Value} {μ : am_M} : am_go E_X1_isOpen cd_X1_isOpen [] At Q (n + 1) 29 L S μ = am_blk E_X1_isOpen (am_go E_X1_isOpen cd_X1_isOpen [] At Q n) Q bk_X1_isOpen_29 29 L S μ := Eq.trans rfl rfl
theorem t_X1_isOpen_1_28 : am_tg 1 27 = 28 := Eq.trans rfl rfl
theorem t_X1_isOpen_9_28 : am_tg 9 19 = 28 := Eq.trans rfl rfl
theorem t_X1_isOpen_21_28 : am_tg 21 7 = 28 := Eq.trans rfl rfl
theorem t_X1_isOpen_25_29 : am_tg 25 4 = 29 := Eq.trans rfl rfl
theorem x_X1_isOpen_g35 {pc : Nat} {L S : List Value} {μ : am_M} {nx : am_K} {jp : am_J} {Q : am_Q} {k : Nat} : am_st E_X1_isOpen pc (.getfield 35) L (.ref k :: S) μ nx jp Q = (am_sh k = (1, 0) ∧ nx L (.int (μ.1 k 3) :: S) μ) := Eq.trans rfl rfl
theorem x_X1_isOpen_g21 {pc : Nat} {L S : List Value} {μ : am_M} {nx : am_K} {jp : am_J} {Q : am_Q} {k : Nat} : am_st E_X1_isOpen pc (.getfield 21) L (.ref k :: S) μ nx jp Q = (am_sh k = (1, 0) ∧ nx L (.ref (am_rf k 5) :: S) μ) := Eq.trans rfl rfl
theorem x_X1_isOpen_g48 {pc : Nat} {L S : List Value} {μ : am_M} {nx : am_K} {jp : am_J} {Q : am_Q} {k : Nat} : am_st E_X1_isOpen pc (.getfield 48) L (.ref k :: S) μ nx jp Q = (am_sh k = (0, 0) ∧ nx L (.int (μ.1 k 5) :: S) μ) := Eq.trans rfl rfl
def rm_X1_isOpen : Room := { frames := 0, cells := 0, slots := 0, locals := 0 }
theorem eo_X1_isOpen : am_EO "CarpetLane$Lane" rm_X1_isOpen E_X1_isOpen := ⟨(List.forall_mem_cons.mpr ⟨Or.inl ⟨_, rfl, by decide, am_in 135 (by decide +kernel) (by decide +kernel), by decide⟩, (List.forall_mem_cons.mpr ⟨Or.inl ⟨_, rfl, by decide, am_in 140 (by decide +kernel) (by decide +kernel), by decide⟩, (List.forall_mem_cons.mpr ⟨Or.inl ⟨_, rfl, by decide, am_in 108 (by decide +kernel) (by decide +kernel), by decide⟩, (fun _ h => absurd h List.not_mem_nil)⟩)⟩)⟩), (fun _ h => absurd h List.not_mem_nil), (fun _ h => absurd h List.not_mem_nil), (fun _ h => absurd h List.not_mem_nil), (fun _ h => absurd h List.not_mem_nil), (fun _ h => absurd h List.not_mem_nil)⟩
theorem wv_X1_isOpen : am_WV (⟨"CarpetLane$Lane", "isOpen", "(I)Z"⟩ : MethodName) prog_3_method_5_code 2 (some .boolean) 1 1 := ⟨am_in 60 (by decide +kernel) (by decide +kernel), am_in 336 (by decide +kernel) (by decide +kernel), by decide +kernel, rfl, by decide, am_in 334 (by decide +kernel) (by decide +kernel), am_in 335 (by decide +kernel) (by decide +kernel)⟩
theorem bd_X1_isOpen (b : Nat) (c : Int32) (μ : am_M) (Q : am_Q) (At : am_J) (hA : am_ok E_X1_isOpen cd_X1_isOpen Q At) (h : f_X1_isOpen b c μ Q) : At 0 (am_en [.ref b, .int c] 2) [] μ := by
  obtain ⟨hb, s, hR, hI, hT, hF⟩ := h
  obtain ⟨n8, hn⟩ := hI.1
  obtain ⟨b0, b4, b5, b6, b1, b2, b11, br, bc8⟩ := LBf hb
  have hsz : μ.1 b 3 = nI (sn s) := by rw [hR.1.2.1]; exact hn
  refine hA [] 60 0 _ _ _ ?_; show am_blk _ _ _ _ _ [.ref b, .int c] _ _
  simp only [s_aload_0, s_iload_0, s_lload_0, s_istore_0, s_lstore_0, s_astore_0, s_aload_1, s_iload_1, s_lload_1, s_istore_1, s_lstore_1, s_astore_1, s_aload_2, s_iload_2, s_lload_2, s_istore_2, s_lstore_2, s_astore_2, s_aload_3, s_iload_3, s_lload_3, s_istore_3, s_lstore_3, s_astore_3, s_aload, s_iload, s_lload, s_istore, s_lstore, s_astore, s_iconst, s_bipush, s_sipush, s_lconst_0, s_lconst_1, s_iinc, s_iadd, s_isub, s_imul, s_iand, s_ior, s_ixor, s_ishl, s_ishr, s_iushr, s_idiv, s_irem, s_ladd, s_lsub, s_lmul, s_ldiv, s_lrem, s_lcmp, s_i2l, s_l2i, s_i2b, s_i2s, s_i2c, s_dupI, s_dupR, s_dup2IR, s_dupx1, s_popI, s_if_eq, s_if_ne, s_if_lt, s_if_ge, s_if_gt, s_if_le, s_cmp_eq, s_cmp_ne, s_cmp_lt, s_cmp_ge, s_cmp_gt, s_cmp_le, s_goto, s_tsw, s_iaload, s_baload, s_caload, s_aaload, s_iastore, s_bastore, s_alen, s_ireturn, s_lreturn, s_return, am_lI_0, am_lI_S, am_lL_0, am_lL_S, am_lR_0, am_lR_S, am_sto_0, am_sto_1I, am_sto_1R, am_sto_1N, am_sto_1L, am_sto_S, am_stL_d, am_blk_0, am_blk_1, am_ln_aload_n, am_ln_iload_n, am_ln_lload_n, am_ln_istore_n, am_ln_lstore_n, am_ln_astore_n, am_ln_iconst, am_ln_lconst, am_ln_iadd, am_ln_isub, am_ln_imul, am_ln_idiv, am_ln_irem, am_ln_iand, am_ln_ior, am_ln_ixor, am_ln_ishl, am_ln_ishr, am_ln_iushr, am_ln_ladd, am_ln_lsub, am_ln_lmul, am_ln_ldiv, am_ln_lrem, am_ln_lcmp, am_ln_i2l, am_ln_l2i, am_ln_i2b, am_ln_i2s, am_ln_i2c, am_ln_dup, am_ln_dup2, am_ln_dup_x1, am_ln_pop, am_ln_iaload, am_ln_iastore, am_ln_baload, am_ln_bastore, am_ln_caload, am_ln_aaload, am_ln_arraylength, am_ln_ireturn, am_ln_lreturn, am_ln_return_, am_ln_aload, am_ln_iload, am_ln_lload, am_ln_istore, am_ln_lstore, am_ln_astore, am_ln_bipush, am_ln_ldc, am_ln_sipush, am_ln_ldc_w, am_ln_ldc2_w, am_ln_iinc, am_ln_ifCond, am_ln_if_icmp, am_ln_goto, am_ln_getfield, am_ln_putfield, am_ln_getstatic, am_ln_invokevirtual, am_ln_invokestatic, am_csum_0, am_csum_I, am_csum_R, am_csum_L, k_im16, k_im8, k_im4, k_im2, k_im1, k_i0, k_i1, k_i2, k_i3, k_i4, k_i5, k_i6, k_i7, k_i8, k_i9, k_i10, k_i11, k_i12, k_i13, k_i14, k_i15, k_i16, k_i17, k_i18, k_i19, k_i20, k_i21, k_i22, k_i23, k_i24, k_i25, k_i26, k_i27, k_i28, k_i29, k_i30, k_i31, k_i32, k_i33, k_i34, k_i35, k_i36, k_i37, k_i38, k_i39, k_i40, k_i41, k_b6, k_b7, k_b8, k_b9, k_b10, k_b11, k_b12, k_b13, k_b14, k_b15, k_b16, k_b17, k_b18, k_b19, k_b20, k_b21, k_b22, k_b23, k_b24, k_b25, k_b26, k_b27, k_b28, k_b29, k_b30, k_b31, k_b32, k_b33, k_b34, k_b35, k_b36, k_b37, k_b38, k_b39, k_b40, k_b41, k_b42, k_b43, k_b44, k_b45, k_b46, k_b47, k_b48, k_b49, k_b50, k_b51, k_b52, k_b53, k_b54, k_b55, k_b56, k_b57, k_b58, k_b59, k_b60, k_b61, k_b62, k_b63, k_b66, k_b76, k_b97, k_b98, k_b99, k_b100, k_b101, k_b102, k_b103, k_b104, k_b105, k_b107, k_b108, k_b109, k_b110, k_b112, k_b114, k_b115, k_b116, k_b117, k_b120, k_b121, k_b122, k_s160, k_s200, k_s255, k_s256, k_s999, k_s2048, k_s4095, k_s9999, k_s10000, k_s12345, k_narI, k_narZ0, k_narZ1, k_ffalse, k_ts0, k_ts1, k_tw0, k_tw1, k_rt, k_rn, Nat.reduceAdd, Nat.zero_add, Nat.reduceLeDiff, Nat.reduceLT, Int.reduceAdd, Int.zero_add, true_and, and_true, List.set_cons_zero, List.set_cons_succ, eq_self, k_n2, k_n3, k_n4, k_n5, k_n6, k_n7, k_n8, k_n9, k_n10, k_n12, k_nn, true_or, or_true, false_or, or_false, k_z10, not_false_eq_true, not_true_eq_false, true_imp_iff, false_imp_iff, n_X1_isOpen, r_X1_isOpen, g_X1_isOpen_0, b_X1_isOpen_0, bk_X1_isOpen_0, g_X1_isOpen_28, bk_X1_isOpen_28, g_X1_isOpen_29, bk_X1_isOpen_29, t_X1_isOpen_1_28, t_X1_isOpen_9_28, t_X1_isOpen_21_28, t_X1_isOpen_25_29, x_X1_isOpen_g35, x_X1_isOpen_g21, x_X1_isOpen_g48, b0, b5, b2, br, hsz]
  refine ⟨fun q => hF ?_, fun q => ⟨fun q2 => hF ?_, fun q2 => ?_⟩⟩
  · rintro ⟨i, hi, rfl, -⟩
    exact nI_pos (by omega) q
  · rintro ⟨i, hi, rfl, -⟩
    exact Int32.not_lt.mpr q2 ((nI_ltI (by omega) (by omega)).mpr hi)
  · obtain ⟨i, hi, rfl⟩ := (thr (n := sn s) (by omega)).mp ⟨Int32.not_lt.mp q, Int32.not_le.mp q2⟩
    rw [cl_nI (by omega)]
    refine ⟨in_nI (by omega) (by omega), bc8 i (by omega), fun q3 => hF ?_, fun q3 => hT ⟨i, hi, rfl, ?_⟩⟩
    · rintro ⟨j, hj, e, h5⟩
      have : i = j := (nI_eq (by omega) (by omega)).mp e
      subst this
      rw [hR.2.2.1 i 5 hi (by omega)] at q3
      exact q3 h5
    · rw [hR.2.2.1 i 5 hi (by omega)] at q3
      exact q3
theorem ok_X1_isOpen : am_OK (⟨"CarpetLane$Lane", "isOpen", "(I)Z"⟩ : MethodName) prog_3_method_5_code 2 (some .boolean) rm_X1_isOpen sp_X1_isOpen := am_mok (cd := cd_X1_isOpen) E_X1_isOpen (by decide +kernel) rfl eo_X1_isOpen (by decide +kernel) (by decide +kernel) (q_RI_h (by decide)) (q_RI_b bd_X1_isOpen)
