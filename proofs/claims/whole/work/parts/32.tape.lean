/-! ===== the tape and its tokens ===== -/
def TX (μ : am_M) (T : Nat → Nat) (n : Nat) : Prop := n ≤ 120 ∧ μ.1 37 0 = nI n ∧ ∀ i, i < n → T i < 256 ∧ μ.1 38 i = sb_b (T i)
def skp (T : Nat → Nat) (n : Nat) : Nat → Nat → Nat
  | 0, a => a
  | k + 1, a => if a < n ∧ T a = 32 then skp T n k (a + 1) else a
def rnn (T : Nat → Nat) (n lo hi : Nat) : Nat → Nat → Nat
  | 0, a => a
  | k + 1, a => if a < n ∧ lo ≤ T a ∧ T a ≤ hi then rnn T n lo hi k (a + 1) else a
def nmv (T : Nat → Nat) : Nat → Nat → Nat → Nat
  | 0, _, acc => acc
  | k + 1, i, acc => if 9999 < 10 * acc + (T i - 48) then 10000 else nmv T k (i + 1) (10 * acc + (T i - 48))
/-- kind, start, end, value -/
abbrev tK : Type := Nat × Nat × Nat × Nat
def tkF (T : Nat → Nat) (n p : Nat) : tK :=
  if p < n then
    (if 97 ≤ T p ∧ T p ≤ 122 then (1, p, rnn T n 97 122 120 p, 0)
    else if 48 ≤ T p ∧ T p ≤ 57 then (2, p, rnn T n 48 57 120 p, nmv T (rnn T n 48 57 120 p - p) p 0)
    else (if T p = 59 then 3 else 4, p, p + 1, 0))
  else (0, p, p, 0)
def tok (T : Nat → Nat) (n a : Nat) : tK := tkF T n (skp T n 120 a)
theorem skp_le (T : Nat → Nat) (n : Nat) : ∀ k a, a ≤ n → a ≤ skp T n k a ∧ skp T n k a ≤ n
  | 0, a, h => ⟨Nat.le_refl _, h⟩
  | k + 1, a, h => by
    unfold skp
    split
    · rename_i q
      have := skp_le T n k (a + 1) (by omega)
      omega
    · omega
theorem rnn_le (T : Nat → Nat) (n lo hi : Nat) : ∀ k a, a ≤ n → a ≤ rnn T n lo hi k a ∧ rnn T n lo hi k a ≤ n
  | 0, a, h => ⟨Nat.le_refl _, h⟩
  | k + 1, a, h => by
    unfold rnn
    split
    · rename_i q
      have := rnn_le T n lo hi k (a + 1) (by omega)
      omega
    · omega
theorem skp_fx (T : Nat → Nat) (n : Nat) : ∀ k a, n ≤ a + k → ∀ k', n ≤ a + k' → skp T n k a = skp T n k' a
  | 0, a, h, k', h' => by
    cases k' with
    | zero => rfl
    | succ k' => unfold skp; rw [if_neg (by omega)]
  | k + 1, a, h, k', h' => by
    cases k' with
    | zero => unfold skp; rw [if_neg (by omega)]
    | succ k' =>
      unfold skp
      split
      · exact skp_fx T n k (a + 1) (by omega) k' (by omega)
      · rfl
theorem rnn_fx (T : Nat → Nat) (n lo hi : Nat) : ∀ k a, n ≤ a + k → ∀ k', n ≤ a + k' → rnn T n lo hi k a = rnn T n lo hi k' a
  | 0, a, h, k', h' => by
    cases k' with
    | zero => rfl
    | succ k' => unfold rnn; rw [if_neg (by omega)]
  | k + 1, a, h, k', h' => by
    cases k' with
    | zero => unfold rnn; rw [if_neg (by omega)]
    | succ k' =>
      unfold rnn
      split
      · exact rnn_fx T n lo hi k (a + 1) (by omega) k' (by omega)
      · rfl
theorem skp_s {T : Nat → Nat} {n a : Nat} (hn : n ≤ 120) (h : a < n ∧ T a = 32) : skp T n 120 a = skp T n 120 (a + 1) := by
  rw [skp_fx T n 120 a (by omega) 121 (by omega)]
  conv => lhs; unfold skp
  rw [if_pos h]
theorem skp_e {T : Nat → Nat} {n a : Nat} (h : ¬ (a < n ∧ T a = 32)) : skp T n 120 a = a := by
  unfold skp
  rw [if_neg h]
theorem rnn_s {T : Nat → Nat} {n lo hi a : Nat} (hn : n ≤ 120) (h : a < n ∧ lo ≤ T a ∧ T a ≤ hi) : rnn T n lo hi 120 a = rnn T n lo hi 120 (a + 1) := by
  rw [rnn_fx T n lo hi 120 a (by omega) 121 (by omega)]
  conv => lhs; unfold rnn
  rw [if_pos h]
theorem rnn_e {T : Nat → Nat} {n lo hi a : Nat} (h : ¬ (a < n ∧ lo ≤ T a ∧ T a ≤ hi)) : rnn T n lo hi 120 a = a := by
  unfold rnn
  rw [if_neg h]
theorem rnn_in (T : Nat → Nat) (n lo hi : Nat) : ∀ k a i, a ≤ i → i < rnn T n lo hi k a → lo ≤ T i ∧ T i ≤ hi
  | 0, a, i, h1, h2 => by unfold rnn at h2; omega
  | k + 1, a, i, h1, h2 => by
    unfold rnn at h2
    split at h2
    · rename_i q
      by_cases e : i = a
      · subst e; exact q.2
      · exact rnn_in T n lo hi k (a + 1) i (by omega) h2
    · omega
/-- the bytes as the class has them -/
theorem sbv {v : Nat} (h : v < 256) : (v < 128 → sb_b v = nI v) ∧ (128 ≤ v → sb_b v < 0) := by
  have : ∀ v, v < 256 → (v < 128 → sb_b v = nI v) ∧ (128 ≤ v → sb_b v < 0) := by decide +kernel
  exact this v h
theorem sb_ge {v l : Nat} (h : v < 256) (hl : l < 128) : nI l ≤ sb_b v ↔ (l ≤ v ∧ v < 128) := by
  obtain ⟨h1, h2⟩ := sbv h
  rcases Nat.lt_or_ge v 128 with q | q
  · rw [h1 q, nI_leI (by omega) (by omega)]
    omega
  · constructor
    · intro z
      exact absurd (h2 q) (Int32.not_lt.mpr (Int32.le_trans (nI_pos' (by omega)) z))
    · omega
theorem sb_eq {v l : Nat} (h : v < 256) (hl : l < 128) : sb_b v = nI l ↔ v = l := by
  obtain ⟨h1, h2⟩ := sbv h
  rcases Nat.lt_or_ge v 128 with q | q
  · rw [h1 q, nI_eq (by omega) (by omega)]
  · constructor
    · intro z
      have := h2 q
      rw [z] at this
      exact absurd this (nI_pos (by omega))
    · omega
/-- only the places of cell 37 from 2 on change -/
def FrP (μ μ' : am_M) : Prop := (∀ k j, ¬ (k = 37 ∧ 2 ≤ j) → μ'.1 k j = μ.1 k j) ∧ μ'.2 = μ.2
theorem FrP_rf (μ : am_M) : FrP μ μ := ⟨fun _ _ _ => rfl, rfl⟩
theorem FrP_tr {x y z : am_M} (h1 : FrP x y) (h2 : FrP y z) : FrP x z := ⟨fun k j hk => (h2.1 k j hk).trans (h1.1 k j hk), h2.2.trans h1.2⟩
theorem FrP_set {x y : am_M} {j : Nat} {v : Int32} (h : FrP x y) (hj : 2 ≤ j) : FrP x (am_set y 37 j v) := ⟨fun k q hk => by rw [set_ne (by omega)]; exact h.1 k q hk, h.2⟩
theorem TX_P {μ μ' : am_M} {T : Nat → Nat} {n : Nat} (h : TX μ T n) (hF : FrP μ μ') : TX μ' T n := ⟨h.1, by rw [hF.1 37 0 (by omega)]; exact h.2.1, fun i hi => ⟨(h.2.2 i hi).1, by rw [hF.1 38 i (by omega)]; exact (h.2.2 i hi).2⟩⟩
theorem tq37 : am_sh 37 = (3, 0) := by decide
theorem tr37 : am_rf 37 1 = 38 := by decide
theorem tq38 : am_sh 38 = (11, 120) := by decide
def f_X3_passRun (k : Nat) (x y : Int32) (μ : am_M) (Q : am_Q) : Prop := k = 37 ∧ ∃ T n a p l h, TX μ T n ∧ a ≤ n ∧ p ≤ a ∧ l < 128 ∧ h < 128 ∧ 0 < l ∧ x = nI l ∧ y = nI h ∧ μ.1 37 2 = nI a ∧ μ.1 37 4 = nI p ∧ ∀ μ', μ'.1 37 2 = nI (rnn T n l h 120 a) → (∀ k j, ¬ (k = 37 ∧ j = 2) → μ'.1 k j = μ.1 k j) → μ'.2 = μ.2 → (p < rnn T n l h 120 a → Q (some (.int 1)) μ') ∧ (¬ p < rnn T n l h 120 a → Q (some (.int 0)) μ')
def sp_X3_passRun : am_Sp := q_RII f_X3_passRun
def bk_X3_passRun_0 : List Instr := [.aload_n 0, .getfield 19, .aload_n 0, .getfield 15, .if_icmp .ge 42, .aload_n 0, .getfield 9, .aload_n 0, .getfield 19, .baload, .iload_n 1, .if_icmp .lt 29, .aload_n 0, .getfield 9, .aload_n 0, .getfield 19, .baload, .iload_n 2, .if_icmp .gt 16, .aload_n 0, .dup, .getfield 19, .iconst 1, .iadd, .putfield 19, .goto (-47)]
def bk_X3_passRun_50 : List Instr := [.aload_n 0, .getfield 19, .aload_n 0, .getfield 29, .if_icmp .le 7, .iconst 1, .goto 4]
def bk_X3_passRun_65 : List Instr := [.iconst 0]
def bk_X3_passRun_66 : List Instr := [.ireturn]
def cd_X3_passRun : am_cd := [(0, bk_X3_passRun_0), (50, bk_X3_passRun_50), (65, bk_X3_passRun_65), (66, bk_X3_passRun_66)]
def E_X3_passRun : am_E := (3, .boolean, [(19, 3, 2), (15, 3, 0), (9, 3, 1), (29, 3, 4)], [], [], [], [], [])
theorem n_X3_passRun : am_nL E_X3_passRun = 3 := Eq.trans rfl rfl
theorem r_X3_passRun : am_rt E_X3_passRun = .boolean := Eq.trans rfl rfl
theorem g_X3_passRun_0 {At : am_J} {Q : am_Q} {n : Nat} {L S : List Value} {μ : am_M} : am_go E_X3_passRun cd_X3_passRun [0, 50] At Q (n + 1) 0 L S μ = At 0 L S μ := Eq.trans rfl rfl
theorem b_X3_passRun_0 {gt : am_J} {Q : am_Q} {L S : List Value} {μ : am_M} : am_blk E_X3_passRun gt Q (am_lk [] cd_X3_passRun 0) 0 L S μ = am_blk E_X3_passRun gt Q bk_X3_passRun_0 0 L S μ := Eq.trans rfl rfl
theorem g_X3_passRun_50 {At : am_J} {Q : am_Q} {n : Nat} {L S : List Value} {μ : am_M} : am_go E_X3_passRun cd_X3_passRun [0, 50] At Q (n + 1) 50 L S μ = At 50 L S μ := Eq.trans rfl rfl
theorem b_X3_passRun_50 {gt : am_J} {Q : am_Q} {L S : List Value} {μ : am_M} : am_blk E_X3_passRun gt Q (am_lk [] cd_X3_passRun 50) 50 L S μ = am_blk E_X3_passRun gt Q bk_X3_passRun_50 50 L S μ := Eq.trans rfl rfl
theorem g_X3_passRun_65 {At : am_J} {Q : am_Q} {n : Nat} {L S : List Value} {μ : am_M} : am_go E_X3_passRun cd_X3_passRun [0, 50] At Q (n + 1) 65 L S μ = am_blk E_X3_passRun (am_go E_X3_passRun cd_X3_passRun [0, 50] At Q n) Q bk_X3_passRun_65 65 L S μ := Eq.trans rfl rfl
theorem g_X3_passRun_66 {At : am_J} {Q : am_Q} {n : Nat} {L S : List Value} {μ : am_M} : am_go E_X3_passRun cd_X3_passRun [0, 50] At Q (n + 1) 66 L S μ = am_blk E_X3_passRun (am_go E_X3_passRun cd_X3_passRun [0, 50] At Q n) Q bk_X3_passRun_66 66 L S μ := Eq.trans rfl rfl
theorem t_X3_passRun_8_50 : am_tg 8 42 = 50 := Eq.trans rfl rfl
theorem t_X3_passRun_21_50 : am_tg 21 29 = 50 := Eq.trans rfl rfl
theorem t_X3_passRun_34_50 : am_tg 34 16 = 50 := Eq.trans rfl rfl
theorem t_X3_passRun_47_0 : am_tg 47 (-47) = 0 := Eq.trans rfl rfl
theorem t_X3_passRun_58_65 : am_tg 58 7 = 65 := Eq.trans rfl rfl
theorem t_X3_passRun_62_66 : am_tg 62 4 = 66 := Eq.trans rfl rfl
theorem x_X3_passRun_g19 {pc : Nat} {L S : List Value} {μ : am_M} {nx : am_K} {jp : am_J} {Q : am_Q} {k : Nat} : am_st E_X3_passRun pc (.getfield 19) L (.ref k :: S) μ nx jp Q = (am_sh k = (3, 0) ∧ nx L (.int (μ.1 k 2) :: S) μ) := Eq.trans rfl rfl
theorem x_X3_passRun_p19 {pc : Nat} {L S : List Value} {μ : am_M} {nx : am_K} {jp : am_J} {Q : am_Q} {k : Nat} {x : Int32} : am_st E_X3_passRun pc (.putfield 19) L (.int x :: .ref k :: S) μ nx jp Q = (am_sh k = (3, 0) ∧ 3 < 6 ∧ (0 : Nat) = 0 ∧ (false = true → x = 0 ∨ x = 1) ∧ nx L S (am_set μ k 2 x)) := Eq.trans rfl rfl
theorem x_X3_passRun_g15 {pc : Nat} {L S : List Value} {μ : am_M} {nx : am_K} {jp : am_J} {Q : am_Q} {k : Nat} : am_st E_X3_passRun pc (.getfield 15) L (.ref k :: S) μ nx jp Q = (am_sh k = (3, 0) ∧ nx L (.int (μ.1 k 0) :: S) μ) := Eq.trans rfl rfl
theorem x_X3_passRun_g9 {pc : Nat} {L S : List Value} {μ : am_M} {nx : am_K} {jp : am_J} {Q : am_Q} {k : Nat} : am_st E_X3_passRun pc (.getfield 9) L (.ref k :: S) μ nx jp Q = (am_sh k = (3, 0) ∧ nx L (.ref (am_rf k 1) :: S) μ) := Eq.trans rfl rfl
theorem x_X3_passRun_g29 {pc : Nat} {L S : List Value} {μ : am_M} {nx : am_K} {jp : am_J} {Q : am_Q} {k : Nat} : am_st E_X3_passRun pc (.getfield 29) L (.ref k :: S) μ nx jp Q = (am_sh k = (3, 0) ∧ nx L (.int (μ.1 k 4) :: S) μ) := Eq.trans rfl rfl
def rm_X3_passRun : Room := { frames := 0, cells := 0, slots := 0, locals := 0 }
theorem eo_X3_passRun : am_EO "CarpetLane$Tape" rm_X3_passRun E_X3_passRun := ⟨(List.forall_mem_cons.mpr ⟨Or.inl ⟨_, rfl, by decide, am_in 169 (by decide +kernel) (by decide +kernel), by decide⟩, (List.forall_mem_cons.mpr ⟨Or.inl ⟨_, rfl, by decide, am_in 166 (by decide +kernel) (by decide +kernel), by decide⟩, (List.forall_mem_cons.mpr ⟨Or.inl ⟨_, rfl, by decide, am_in 168 (by decide +kernel) (by decide +kernel), by decide⟩, (List.forall_mem_cons.mpr ⟨Or.inl ⟨_, rfl, by decide, am_in 171 (by decide +kernel) (by decide +kernel), by decide⟩, (fun _ h => absurd h List.not_mem_nil)⟩)⟩)⟩)⟩), (fun _ h => absurd h List.not_mem_nil), (fun _ h => absurd h List.not_mem_nil), (fun _ h => absurd h List.not_mem_nil), (fun _ h => absurd h List.not_mem_nil), (fun _ h => absurd h List.not_mem_nil)⟩
theorem wv_X3_passRun : am_WV (⟨"CarpetLane$Tape", "passRun", "(CC)Z"⟩ : MethodName) prog_5_method_13_code 3 (some .boolean) 2 3 := ⟨am_in 62 (by decide +kernel) (by decide +kernel), am_in 566 (by decide +kernel) (by decide +kernel), by decide +kernel, rfl, by decide, am_in 565 (by decide +kernel) (by decide +kernel), am_in 10 (by decide +kernel) (by decide +kernel)⟩
theorem bd_X3_passRun (k : Nat) (x : Int32) (y : Int32) (μ : am_M) (Q : am_Q) (At : am_J) (hA : am_ok E_X3_passRun cd_X3_passRun Q At) (h : f_X3_passRun k x y μ Q) : At 0 (am_en [.ref k, .int x, .int y] 3) [] μ := by
  obtain ⟨rfl, T, n, a, p, l, hh, hT, ha, hpa, hl, hh8, hl0, rfl, rfl, ea, ep, h⟩ := h
  have A50 : ∀ (c : Nat) (μ1 : am_M), c ≤ n → a ≤ c → c = rnn T n l hh 120 a → μ1.1 37 2 = nI c → (∀ k j, ¬ (k = 37 ∧ j = 2) → μ1.1 k j = μ.1 k j) → μ1.2 = μ.2 → At 50 [.ref 37, .int (nI l), .int (nI hh)] [] μ1 := by
    intro c μ1 hc hac hcr e1 hF hF2
    have e4 : μ1.1 37 4 = nI p := (hF 37 4 (by omega)).trans ep
    have hh2 := h μ1 (by rw [← hcr]; exact e1) hF hF2
    rw [← hcr] at hh2
    have hn := hT.1
    refine hA [0, 50] 60 50 _ _ _ ?_
    simp only [s_aload_0, s_iload_0, s_lload_0, s_istore_0, s_lstore_0, s_astore_0, s_aload_1, s_iload_1, s_lload_1, s_istore_1, s_lstore_1, s_astore_1, s_aload_2, s_iload_2, s_lload_2, s_istore_2, s_lstore_2, s_astore_2, s_aload_3, s_iload_3, s_lload_3, s_istore_3, s_lstore_3, s_astore_3, s_aload, s_iload, s_lload, s_istore, s_lstore, s_astore, s_iconst, s_bipush, s_sipush, s_lconst_0, s_lconst_1, s_iinc, s_iadd, s_isub, s_imul, s_iand, s_ior, s_ixor, s_ishl, s_ishr, s_iushr, s_idiv, s_irem, s_ladd, s_lsub, s_lmul, s_ldiv, s_lrem, s_lcmp, s_i2l, s_l2i, s_i2b, s_i2s, s_i2c, s_dupI, s_dupR, s_dup2IR, s_dupx1, s_popI, s_if_eq, s_if_ne, s_if_lt, s_if_ge, s_if_gt, s_if_le, s_cmp_eq, s_cmp_ne, s_cmp_lt, s_cmp_ge, s_cmp_gt, s_cmp_le, s_goto, s_tsw, s_iaload, s_baload, s_caload, s_aaload, s_iastore, s_bastore, s_alen, s_ireturn, s_lreturn, s_return, am_lI_0, am_lI_S, am_lL_0, am_lL_S, am_lR_0, am_lR_S, am_sto_0, am_sto_1I, am_sto_1R, am_sto_1N, am_sto_1L, am_sto_S, am_stL_d, am_blk_0, am_blk_1, am_ln_aload_n, am_ln_iload_n, am_ln_lload_n, am_ln_istore_n, am_ln_lstore_n, am_ln_astore_n, am_ln_iconst, am_ln_lconst, am_ln_iadd, am_ln_isub, am_ln_imul, am_ln_idiv, am_ln_irem, am_ln_iand, am_ln_ior, am_ln_ixor, am_ln_ishl, am_ln_ishr, am_ln_iushr, am_ln_ladd, am_ln_lsub, am_ln_lmul, am_ln_ldiv, am_ln_lrem, am_ln_lcmp, am_ln_i2l, am_ln_l2i, am_ln_i2b, am_ln_i2s, am_ln_i2c, am_ln_dup, am_ln_dup2, am_ln_dup_x1, am_ln_pop, am_ln_iaload, am_ln_iastore, am_ln_baload, am_ln_bastore, am_ln_caload, am_ln_aaload, am_ln_arraylength, am_ln_ireturn, am_ln_lreturn, am_ln_return_, am_ln_aload, am_ln_iload, am_ln_lload, am_ln_istore, am_ln_lstore, am_ln_astore, am_ln_bipush, am_ln_ldc, am_ln_sipush, am_ln_ldc_w, am_ln_ldc2_w, am_ln_iinc, am_ln_ifCond, am_ln_if_icmp, am_ln_goto, am_ln_getfield, am_ln_putfield, am_ln_getstatic, am_ln_invokevirtual, am_ln_invokestatic, am_csum_0, am_csum_I, am_csum_R, am_csum_L, k_im16, k_im8, k_im4, k_im2, k_im1, k_i0, k_i1, k_i2, k_i3, k_i4, k_i5, k_i6, k_i7, k_i8, k_i9, k_i10, k_i11, k_i12, k_i13, k_i14, k_i15, k_i16, k_i17, k_i18, k_i19, k_i20, k_i21, k_i22, k_i23, k_i24, k_i25, k_i26, k_i27, k_i28, k_i29, k_i30, k_i31, k_i32, k_i33, k_i34, k_i35, k_i36, k_i37, k_i38, k_i39, k_i40, k_i41, k_b6, k_b7, k_b8, k_b9, k_b10, k_b11, k_b12, k_b13, k_b14, k_b15, k_b16, k_b17, k_b18, k_b19, k_b20, k_b21, k_b22, k_b23, k_b24, k_b25, k_b26, k_b27, k_b28, k_b29, k_b30, k_b31, k_b32, k_b33, k_b34, k_b35, k_b36, k_b37, k_b38, k_b39, k_b40, k_b41, k_b42, k_b43, k_b44, k_b45, k_b46, k_b47, k_b48, k_b49, k_b50, k_b51, k_b52, k_b53, k_b54, k_b55, k_b56, k_b57, k_b58, k_b59, k_b60, k_b61, k_b62, k_b63, k_b66, k_b76, k_b97, k_b98, k_b99, k_b100, k_b101, k_b102, k_b103, k_b104, k_b105, k_b107, k_b108, k_b109, k_b110, k_b112, k_b114, k_b115, k_b116, k_b117, k_b120, k_b121, k_b122, k_s160, k_s200, k_s255, k_s256, k_s999, k_s2048, k_s4095, k_s9999, k_s10000, k_s12345, k_narI, k_narZ0, k_narZ1, k_ffalse, k_ts0, k_ts1, k_tw0, k_tw1, k_rt, k_rn, Nat.reduceAdd, Nat.zero_add, Nat.reduceLeDiff, Nat.reduceLT, Int.reduceAdd, Int.zero_add, true_and, and_true, List.set_cons_zero, List.set_cons_succ, eq_self, k_n2, k_n3, k_n4, k_n5, k_n6, k_n7, k_n8, k_n9, k_n10, k_n12, k_nn, true_or, or_true, false_or, or_false, k_z10, not_false_eq_true, not_true_eq_false, true_imp_iff, false_imp_iff, n_X3_passRun, r_X3_passRun, g_X3_passRun_0, b_X3_passRun_0, bk_X3_passRun_0, g_X3_passRun_50, b_X3_passRun_50, bk_X3_passRun_50, g_X3_passRun_65, bk_X3_passRun_65, g_X3_passRun_66, bk_X3_passRun_66, t_X3_passRun_8_50, t_X3_passRun_21_50, t_X3_passRun_34_50, t_X3_passRun_47_0, t_X3_passRun_58_65, t_X3_passRun_62_66, x_X3_passRun_g19, x_X3_passRun_p19, x_X3_passRun_g15, x_X3_passRun_g9, x_X3_passRun_g29, tq37, e1, e4]
    refine ⟨fun z => hh2.2 (fun y => ?_), fun z => hh2.1 ?_⟩
    · exact absurd z (nI_ge y (by omega))
    · rcases Nat.lt_or_ge p c with q | q
      · exact q
      · exact absurd (nI_le q (by omega)) z
  have A0 : ∀ (u c : Nat) (μ1 : am_M), c + u = n → a ≤ c → rnn T n l hh 120 c = rnn T n l hh 120 a → μ1.1 37 2 = nI c → (∀ k j, ¬ (k = 37 ∧ j = 2) → μ1.1 k j = μ.1 k j) → μ1.2 = μ.2 → At 0 [.ref 37, .int (nI l), .int (nI hh)] [] μ1 := by
    intro u
    have hn := hT.1
    induction u with
    | zero =>
      intro c μ1 hc hac hcr e1 hF hF2
      have e0 : μ1.1 37 0 = nI n := (hF 37 0 (by omega)).trans hT.2.1
      have ecn : c = n := by omega
      refine hA [0, 50] 60 0 _ _ _ ?_
      simp only [s_aload_0, s_iload_0, s_lload_0, s_istore_0, s_lstore_0, s_astore_0, s_aload_1, s_iload_1, s_lload_1, s_istore_1, s_lstore_1, s_astore_1, s_aload_2, s_iload_2, s_lload_2, s_istore_2, s_lstore_2, s_astore_2, s_aload_3, s_iload_3, s_lload_3, s_istore_3, s_lstore_3, s_astore_3, s_aload, s_iload, s_lload, s_istore, s_lstore, s_astore, s_iconst, s_bipush, s_sipush, s_lconst_0, s_lconst_1, s_iinc, s_iadd, s_isub, s_imul, s_iand, s_ior, s_ixor, s_ishl, s_ishr, s_iushr, s_idiv, s_irem, s_ladd, s_lsub, s_lmul, s_ldiv, s_lrem, s_lcmp, s_i2l, s_l2i, s_i2b, s_i2s, s_i2c, s_dupI, s_dupR, s_dup2IR, s_dupx1, s_popI, s_if_eq, s_if_ne, s_if_lt, s_if_ge, s_if_gt, s_if_le, s_cmp_eq, s_cmp_ne, s_cmp_lt, s_cmp_ge, s_cmp_gt, s_cmp_le, s_goto, s_tsw, s_iaload, s_baload, s_caload, s_aaload, s_iastore, s_bastore, s_alen, s_ireturn, s_lreturn, s_return, am_lI_0, am_lI_S, am_lL_0, am_lL_S, am_lR_0, am_lR_S, am_sto_0, am_sto_1I, am_sto_1R, am_sto_1N, am_sto_1L, am_sto_S, am_stL_d, am_blk_0, am_blk_1, am_ln_aload_n, am_ln_iload_n, am_ln_lload_n, am_ln_istore_n, am_ln_lstore_n, am_ln_astore_n, am_ln_iconst, am_ln_lconst, am_ln_iadd, am_ln_isub, am_ln_imul, am_ln_idiv, am_ln_irem, am_ln_iand, am_ln_ior, am_ln_ixor, am_ln_ishl, am_ln_ishr, am_ln_iushr, am_ln_ladd, am_ln_lsub, am_ln_lmul, am_ln_ldiv, am_ln_lrem, am_ln_lcmp, am_ln_i2l, am_ln_l2i, am_ln_i2b, am_ln_i2s, am_ln_i2c, am_ln_dup, am_ln_dup2, am_ln_dup_x1, am_ln_pop, am_ln_iaload, am_ln_iastore, am_ln_baload, am_ln_bastore, am_ln_caload, am_ln_aaload, am_ln_arraylength, am_ln_ireturn, am_ln_lreturn, am_ln_return_, am_ln_aload, am_ln_iload, am_ln_lload, am_ln_istore, am_ln_lstore, am_ln_astore, am_ln_bipush, am_ln_ldc, am_ln_sipush, am_ln_ldc_w, am_ln_ldc2_w, am_ln_iinc, am_ln_ifCond, am_ln_if_icmp, am_ln_goto, am_ln_getfield, am_ln_putfield, am_ln_getstatic, am_ln_invokevirtual, am_ln_invokestatic, am_csum_0, am_csum_I, am_csum_R, am_csum_L, k_im16, k_im8, k_im4, k_im2, k_im1, k_i0, k_i1, k_i2, k_i3, k_i4, k_i5, k_i6, k_i7, k_i8, k_i9, k_i10, k_i11, k_i12, k_i13, k_i14, k_i15, k_i16, k_i17, k_i18, k_i19, k_i20, k_i21, k_i22, k_i23, k_i24, k_i25, k_i26, k_i27, k_i28, k_i29, k_i30, k_i31, k_i32, k_i33, k_i34, k_i35, k_i36, k_i37, k_i38, k_i39, k_i40, k_i41, k_b6, k_b7, k_b8, k_b9, k_b10, k_b11, k_b12, k_b13, k_b14, k_b15, k_b16, k_b17, k_b18, k_b19, k_b20, k_b21, k_b22, k_b23, k_b24, k_b25, k_b26, k_b27, k_b28, k_b29, k_b30, k_b31, k_b32, k_b33, k_b34, k_b35, k_b36, k_b37, k_b38, k_b39, k_b40, k_b41, k_b42, k_b43, k_b44, k_b45, k_b46, k_b47, k_b48, k_b49, k_b50, k_b51, k_b52, k_b53, k_b54, k_b55, k_b56, k_b57, k_b58, k_b59, k_b60, k_b61, k_b62, k_b63, k_b66, k_b76, k_b97, k_b98, k_b99, k_b100, k_b101, k_b102, k_b103, k_b104, k_b105, k_b107, k_b108, k_b109, k_b110, k_b112, k_b114, k_b115, k_b116, k_b117, k_b120, k_b121, k_b122, k_s160, k_s200, k_s255, k_s256, k_s999, k_s2048, k_s4095, k_s9999, k_s10000, k_s12345, k_narI, k_narZ0, k_narZ1, k_ffalse, k_ts0, k_ts1, k_tw0, k_tw1, k_rt, k_rn, Nat.reduceAdd, Nat.zero_add, Nat.reduceLeDiff, Nat.reduceLT, Int.reduceAdd, Int.zero_add, true_and, and_true, List.set_cons_zero, List.set_cons_succ, eq_self, k_n2, k_n3, k_n4, k_n5, k_n6, k_n7, k_n8, k_n9, k_n10, k_n12, k_nn, true_or, or_true, false_or, or_false, k_z10, not_false_eq_true, not_true_eq_false, true_imp_iff, false_imp_iff, n_X3_passRun, r_X3_passRun, g_X3_passRun_0, b_X3_passRun_0, bk_X3_passRun_0, g_X3_passRun_50, b_X3_passRun_50, bk_X3_passRun_50, g_X3_passRun_65, bk_X3_passRun_65, g_X3_passRun_66, bk_X3_passRun_66, t_X3_passRun_8_50, t_X3_passRun_21_50, t_X3_passRun_34_50, t_X3_passRun_47_0, t_X3_passRun_58_65, t_X3_passRun_62_66, x_X3_passRun_g19, x_X3_passRun_p19, x_X3_passRun_g15, x_X3_passRun_g9, x_X3_passRun_g29, tq37, e0, e1]
      refine ⟨fun _ => A50 c μ1 (by omega) hac ?_ e1 hF hF2, fun z => absurd (by rw [ecn]; exact nI_le (Nat.le_refl _) (by omega)) z⟩
      rw [← hcr]
      exact (rnn_e (by omega)).symm
    | succ u ih =>
      intro c μ1 hc hac hcr e1 hF hF2
      have e0 : μ1.1 37 0 = nI n := (hF 37 0 (by omega)).trans hT.2.1
      have ec : μ1.1 38 c = sb_b (T c) := (hF 38 c (by omega)).trans (hT.2.2 c (by omega)).2
      have hTc := (hT.2.2 c (by omega)).1
      refine hA [0, 50] 60 0 _ _ _ ?_
      simp only [s_aload_0, s_iload_0, s_lload_0, s_istore_0, s_lstore_0, s_astore_0, s_aload_1, s_iload_1, s_lload_1, s_istore_1, s_lstore_1, s_astore_1, s_aload_2, s_iload_2, s_lload_2, s_istore_2, s_lstore_2, s_astore_2, s_aload_3, s_iload_3, s_lload_3, s_istore_3, s_lstore_3, s_astore_3, s_aload, s_iload, s_lload, s_istore, s_lstore, s_astore, s_iconst, s_bipush, s_sipush, s_lconst_0, s_lconst_1, s_iinc, s_iadd, s_isub, s_imul, s_iand, s_ior, s_ixor, s_ishl, s_ishr, s_iushr, s_idiv, s_irem, s_ladd, s_lsub, s_lmul, s_ldiv, s_lrem, s_lcmp, s_i2l, s_l2i, s_i2b, s_i2s, s_i2c, s_dupI, s_dupR, s_dup2IR, s_dupx1, s_popI, s_if_eq, s_if_ne, s_if_lt, s_if_ge, s_if_gt, s_if_le, s_cmp_eq, s_cmp_ne, s_cmp_lt, s_cmp_ge, s_cmp_gt, s_cmp_le, s_goto, s_tsw, s_iaload, s_baload, s_caload, s_aaload, s_iastore, s_bastore, s_alen, s_ireturn, s_lreturn, s_return, am_lI_0, am_lI_S, am_lL_0, am_lL_S, am_lR_0, am_lR_S, am_sto_0, am_sto_1I, am_sto_1R, am_sto_1N, am_sto_1L, am_sto_S, am_stL_d, am_blk_0, am_blk_1, am_ln_aload_n, am_ln_iload_n, am_ln_lload_n, am_ln_istore_n, am_ln_lstore_n, am_ln_astore_n, am_ln_iconst, am_ln_lconst, am_ln_iadd, am_ln_isub, am_ln_imul, am_ln_idiv, am_ln_irem, am_ln_iand, am_ln_ior, am_ln_ixor, am_ln_ishl, am_ln_ishr, am_ln_iushr, am_ln_ladd, am_ln_lsub, am_ln_lmul, am_ln_ldiv, am_ln_lrem, am_ln_lcmp, am_ln_i2l, am_ln_l2i, am_ln_i2b, am_ln_i2s, am_ln_i2c, am_ln_dup, am_ln_dup2, am_ln_dup_x1, am_ln_pop, am_ln_iaload, am_ln_iastore, am_ln_baload, am_ln_bastore, am_ln_caload, am_ln_aaload, am_ln_arraylength, am_ln_ireturn, am_ln_lreturn, am_ln_return_, am_ln_aload, am_ln_iload, am_ln_lload, am_ln_istore, am_ln_lstore, am_ln_astore, am_ln_bipush, am_ln_ldc, am_ln_sipush, am_ln_ldc_w, am_ln_ldc2_w, am_ln_iinc, am_ln_ifCond, am_ln_if_icmp, am_ln_goto, am_ln_getfield, am_ln_putfield, am_ln_getstatic, am_ln_invokevirtual, am_ln_invokestatic, am_csum_0, am_csum_I, am_csum_R, am_csum_L, k_im16, k_im8, k_im4, k_im2, k_im1, k_i0, k_i1, k_i2, k_i3, k_i4, k_i5, k_i6, k_i7, k_i8, k_i9, k_i10, k_i11, k_i12, k_i13, k_i14, k_i15, k_i16, k_i17, k_i18, k_i19, k_i20, k_i21, k_i22, k_i23, k_i24, k_i25, k_i26, k_i27, k_i28, k_i29, k_i30, k_i31, k_i32, k_i33, k_i34, k_i35, k_i36, k_i37, k_i38, k_i39, k_i40, k_i41, k_b6, k_b7, k_b8, k_b9, k_b10, k_b11, k_b12, k_b13, k_b14, k_b15, k_b16, k_b17, k_b18, k_b19, k_b20, k_b21, k_b22, k_b23, k_b24, k_b25, k_b26, k_b27, k_b28, k_b29, k_b30, k_b31, k_b32, k_b33, k_b34, k_b35, k_b36, k_b37, k_b38, k_b39, k_b40, k_b41, k_b42, k_b43, k_b44, k_b45, k_b46, k_b47, k_b48, k_b49, k_b50, k_b51, k_b52, k_b53, k_b54, k_b55, k_b56, k_b57, k_b58, k_b59, k_b60, k_b61, k_b62, k_b63, k_b66, k_b76, k_b97, k_b98, k_b99, k_b100, k_b101, k_b102, k_b103, k_b104, k_b105, k_b107, k_b108, k_b109, k_b110, k_b112, k_b114, k_b115, k_b116, k_b117, k_b120, k_b121, k_b122, k_s160, k_s200, k_s255, k_s256, k_s999, k_s2048, k_s4095, k_s9999, k_s10000, k_s12345, k_narI, k_narZ0, k_narZ1, k_ffalse, k_ts0, k_ts1, k_tw0, k_tw1, k_rt, k_rn, Nat.reduceAdd, Nat.zero_add, Nat.reduceLeDiff, Nat.reduceLT, Int.reduceAdd, Int.zero_add, true_and, and_true, List.set_cons_zero, List.set_cons_succ, eq_self, k_n2, k_n3, k_n4, k_n5, k_n6, k_n7, k_n8, k_n9, k_n10, k_n12, k_nn, true_or, or_true, false_or, or_false, k_z10, not_false_eq_true, not_true_eq_false, true_imp_iff, false_imp_iff, n_X3_passRun, r_X3_passRun, g_X3_passRun_0, b_X3_passRun_0, bk_X3_passRun_0, g_X3_passRun_50, b_X3_passRun_50, bk_X3_passRun_50, g_X3_passRun_65, bk_X3_passRun_65, g_X3_passRun_66, bk_X3_passRun_66, t_X3_passRun_8_50, t_X3_passRun_21_50, t_X3_passRun_34_50, t_X3_passRun_47_0, t_X3_passRun_58_65, t_X3_passRun_62_66, x_X3_passRun_g19, x_X3_passRun_p19, x_X3_passRun_g15, x_X3_passRun_g9, x_X3_passRun_g29, tq37, tr37, bal11 tq38, e0, e1, in120 (show c < 120 by omega), cl120 (show c < 120 by omega), ec, nI_1]
      refine ⟨fun z => absurd z (nI_ge (by omega) (by omega)), fun _ => ⟨fun z => A50 c μ1 (by omega) hac ?_ e1 hF hF2, fun z => ⟨fun z2 => A50 c μ1 (by omega) hac ?_ e1 hF hF2, fun z2 => ?_⟩⟩⟩
      · rw [← hcr]
        refine (rnn_e (fun y => ?_)).symm
        exact absurd ((sb_ge hTc hl).mpr ⟨y.2.1, by omega⟩) (Int32.not_le.mpr z)
      · rw [← hcr]
        refine (rnn_e (fun y => ?_)).symm
        have h1 := (sb_ge hTc hl).mp (Int32.not_lt.mp z)
        rw [(sbv hTc).1 h1.2] at z2
        exact absurd (nI_le y.2.2 (by omega)) (Int32.not_le.mpr z2)
      · have h1 := (sb_ge hTc hl).mp (Int32.not_lt.mp z)
        rw [(sbv hTc).1 h1.2] at z2
        have h2 : T c ≤ hh := (nI_leI (by omega) (by omega)).mp (Int32.not_lt.mp z2)
        refine ih (c + 1) _ (by omega) (by omega) ?_ set_eq (fun k j hk => ?_) hF2
        · rw [← rnn_s hn ⟨by omega, h1.1, h2⟩]; exact hcr
        · rw [set_ne hk]; exact hF k j hk
  exact A0 (n - a) a μ (by omega) (Nat.le_refl _) rfl ea (fun _ _ _ => rfl) rfl
theorem ok_X3_passRun : am_OK (⟨"CarpetLane$Tape", "passRun", "(CC)Z"⟩ : MethodName) prog_5_method_13_code 3 (some .boolean) rm_X3_passRun sp_X3_passRun := am_mok (cd := cd_X3_passRun) E_X3_passRun (by decide +kernel) rfl eo_X3_passRun (by decide +kernel) (by decide +kernel) (q_RII_h (by decide)) (q_RII_b bd_X3_passRun)
def f_X3_numberRead (k : Nat) (μ : am_M) (Q : am_Q) : Prop := k = 37 ∧ ∃ T n p q, TX μ T n ∧ p ≤ q ∧ q ≤ n ∧ μ.1 37 4 = nI p ∧ μ.1 37 2 = nI q ∧ (∀ i, p ≤ i → i < q → 48 ≤ T i ∧ T i ≤ 57) ∧ Q (some (.int (nI (nmv T (q - p) p 0)))) μ
def sp_X3_numberRead : am_Sp := q_R f_X3_numberRead
def bk_X3_numberRead_0 : List Instr := [.iconst 0, .istore_n 1, .aload_n 0, .getfield 29, .istore_n 2]
def bk_X3_numberRead_7 : List Instr := [.iload_n 2, .aload_n 0, .getfield 19, .if_icmp .ge 35, .bipush 10, .iload_n 1, .imul, .aload_n 0, .getfield 9, .iload_n 2, .baload, .iadd, .bipush 48, .isub, .istore_n 1, .iload_n 1, .sipush 9999, .if_icmp .le 7, .sipush 10000, .ireturn]
def bk_X3_numberRead_41 : List Instr := [.iinc 2 1, .goto (-37)]
def bk_X3_numberRead_47 : List Instr := [.iload_n 1, .ireturn]
def cd_X3_numberRead : am_cd := [(0, bk_X3_numberRead_0), (7, bk_X3_numberRead_7), (41, bk_X3_numberRead_41), (47, bk_X3_numberRead_47)]
def E_X3_numberRead : am_E := (3, .int, [(29, 3, 4), (19, 3, 2), (9, 3, 1)], [], [], [], [], [])
theorem n_X3_numberRead : am_nL E_X3_numberRead = 3 := Eq.trans rfl rfl
theorem r_X3_numberRead : am_rt E_X3_numberRead = .int := Eq.trans rfl rfl
theorem g_X3_numberRead_0 {At : am_J} {Q : am_Q} {n : Nat} {L S : List Value} {μ : am_M} : am_go E_X3_numberRead cd_X3_numberRead [7] At Q (n + 1) 0 L S μ = am_blk E_X3_numberRead (am_go E_X3_numberRead cd_X3_numberRead [7] At Q n) Q bk_X3_numberRead_0 0 L S μ := Eq.trans rfl rfl
theorem b_X3_numberRead_0 {gt : am_J} {Q : am_Q} {L S : List Value} {μ : am_M} : am_blk E_X3_numberRead gt Q (am_lk [] cd_X3_numberRead 0) 0 L S μ = am_blk E_X3_numberRead gt Q bk_X3_numberRead_0 0 L S μ := Eq.trans rfl rfl
theorem g_X3_numberRead_7 {At : am_J} {Q : am_Q} {n : Nat} {L S : List Value} {μ : am_M} : am_go E_X3_numberRead cd_X3_numberRead [7] At Q (n + 1) 7 L S μ = At 7 L S μ := Eq.trans rfl rfl
theorem b_X3_numberRead_7 {gt : am_J} {Q : am_Q} {L S : List Value} {μ : am_M} : am_blk E_X3_numberRead gt Q (am_lk [] cd_X3_numberRead 7) 7 L S μ = am_blk E_X3_numberRead gt Q bk_X3_numberRead_7 7 L S μ := Eq.trans rfl rfl
theorem g_X3_numberRead_41 {At : am_J} {Q : am_Q} {n : Nat} {L S : List Value} {μ : am_M} : am_go E_X3_numberRead cd_X3_numberRead [7] At Q (n + 1) 41 L S μ = am_blk E_X3_numberRead (am_go E_X3_numberRead cd_X3_numberRead [7] At Q n) Q bk_X3_numberRead_41 41 L S μ := Eq.trans rfl rfl
theorem g_X3_numberRead_47 {At : am_J} {Q : am_Q} {n : Nat} {L S : List Value} {μ : am_M} : am_go E_X3_numberRead cd_X3_numberRead [7] At Q (n + 1) 47 L S μ = am_blk E_X3_numberRead (am_go E_X3_numberRead cd_X3_numberRead [7] At Q n) Q bk_X3_numberRead_47 47 L S μ := Eq.trans rfl rfl
theorem t_X3_numberRead_12_47 : am_tg 12 35 = 47 := Eq.trans rfl rfl
theorem t_X3_numberRead_34_41 : am_tg 34 7 = 41 := Eq.trans rfl rfl
theorem t_X3_numberRead_44_7 : am_tg 44 (-37) = 7 := Eq.trans rfl rfl
theorem x_X3_numberRead_g29 {pc : Nat} {L S : List Value} {μ : am_M} {nx : am_K} {jp : am_J} {Q : am_Q} {k : Nat} : am_st E_X3_numberRead pc (.getfield 29) L (.ref k :: S) μ nx jp Q = (am_sh k = (3, 0) ∧ nx L (.int (μ.1 k 4) :: S) μ) := Eq.trans rfl rfl
theorem x_X3_numberRead_g19 {pc : Nat} {L S : List Value} {μ : am_M} {nx : am_K} {jp : am_J} {Q : am_Q} {k : Nat} : am_st E_X3_numberRead pc (.getfield 19) L (.ref k :: S) μ nx jp Q = (am_sh k = (3, 0) ∧ nx L (.int (μ.1 k 2) :: S) μ) := Eq.trans rfl rfl
theorem x_X3_numberRead_g9 {pc : Nat} {L S : List Value} {μ : am_M} {nx : am_K} {jp : am_J} {Q : am_Q} {k : Nat} : am_st E_X3_numberRead pc (.getfield 9) L (.ref k :: S) μ nx jp Q = (am_sh k = (3, 0) ∧ nx L (.ref (am_rf k 1) :: S) μ) := Eq.trans rfl rfl
def rm_X3_numberRead : Room := { frames := 0, cells := 0, slots := 0, locals := 0 }
theorem eo_X3_numberRead : am_EO "CarpetLane$Tape" rm_X3_numberRead E_X3_numberRead := ⟨(List.forall_mem_cons.mpr ⟨Or.inl ⟨_, rfl, by decide, am_in 171 (by decide +kernel) (by decide +kernel), by decide⟩, (List.forall_mem_cons.mpr ⟨Or.inl ⟨_, rfl, by decide, am_in 169 (by decide +kernel) (by decide +kernel), by decide⟩, (List.forall_mem_cons.mpr ⟨Or.inl ⟨_, rfl, by decide, am_in 168 (by decide +kernel) (by decide +kernel), by decide⟩, (fun _ h => absurd h List.not_mem_nil)⟩)⟩)⟩), (fun _ h => absurd h List.not_mem_nil), (fun _ h => absurd h List.not_mem_nil), (fun _ h => absurd h List.not_mem_nil), (fun _ h => absurd h List.not_mem_nil), (fun _ h => absurd h List.not_mem_nil)⟩
theorem wv_X3_numberRead : am_WV (⟨"CarpetLane$Tape", "numberRead", "()I"⟩ : MethodName) prog_5_method_14_code 3 (some .int) 0 3 := ⟨am_in 62 (by decide +kernel) (by decide +kernel), am_in 570 (by decide +kernel) (by decide +kernel), by decide +kernel, rfl, by decide, am_in 569 (by decide +kernel) (by decide +kernel), am_in 11 (by decide +kernel) (by decide +kernel)⟩
theorem bd_X3_numberRead (k : Nat) (μ : am_M) (Q : am_Q) (At : am_J) (hA : am_ok E_X3_numberRead cd_X3_numberRead Q At) (h : f_X3_numberRead k μ Q) : At 0 (am_en [.ref k] 3) [] μ := by
  obtain ⟨rfl, T, n, p, q, hT, hpq, hqn, ep, eq, hd, h⟩ := h
  have hn := hT.1
  obtain ⟨G, hG⟩ : ∃ G, G = nmv T (q - p) p 0 := ⟨_, rfl⟩
  rw [← hG] at h
  have A7 : ∀ (u i acc : Nat), i + u = q → p ≤ i → acc ≤ 9999 → G = nmv T u i acc → At 7 [.ref 37, .int (nI acc), .int (nI i)] [] μ := by
    intro u
    induction u with
    | zero =>
      intro i acc hi hpi hacc he
      have : i = q := by omega
      subst this
      rw [he] at h
      refine hA [7] 60 7 _ _ _ ?_
      simp only [s_aload_0, s_iload_0, s_lload_0, s_istore_0, s_lstore_0, s_astore_0, s_aload_1, s_iload_1, s_lload_1, s_istore_1, s_lstore_1, s_astore_1, s_aload_2, s_iload_2, s_lload_2, s_istore_2, s_lstore_2, s_astore_2, s_aload_3, s_iload_3, s_lload_3, s_istore_3, s_lstore_3, s_astore_3, s_aload, s_iload, s_lload, s_istore, s_lstore, s_astore, s_iconst, s_bipush, s_sipush, s_lconst_0, s_lconst_1, s_iinc, s_iadd, s_isub, s_imul, s_iand, s_ior, s_ixor, s_ishl, s_ishr, s_iushr, s_idiv, s_irem, s_ladd, s_lsub, s_lmul, s_ldiv, s_lrem, s_lcmp, s_i2l, s_l2i, s_i2b, s_i2s, s_i2c, s_dupI, s_dupR, s_dup2IR, s_dupx1, s_popI, s_if_eq, s_if_ne, s_if_lt, s_if_ge, s_if_gt, s_if_le, s_cmp_eq, s_cmp_ne, s_cmp_lt, s_cmp_ge, s_cmp_gt, s_cmp_le, s_goto, s_tsw, s_iaload, s_baload, s_caload, s_aaload, s_iastore, s_bastore, s_alen, s_ireturn, s_lreturn, s_return, am_lI_0, am_lI_S, am_lL_0, am_lL_S, am_lR_0, am_lR_S, am_sto_0, am_sto_1I, am_sto_1R, am_sto_1N, am_sto_1L, am_sto_S, am_stL_d, am_blk_0, am_blk_1, am_ln_aload_n, am_ln_iload_n, am_ln_lload_n, am_ln_istore_n, am_ln_lstore_n, am_ln_astore_n, am_ln_iconst, am_ln_lconst, am_ln_iadd, am_ln_isub, am_ln_imul, am_ln_idiv, am_ln_irem, am_ln_iand, am_ln_ior, am_ln_ixor, am_ln_ishl, am_ln_ishr, am_ln_iushr, am_ln_ladd, am_ln_lsub, am_ln_lmul, am_ln_ldiv, am_ln_lrem, am_ln_lcmp, am_ln_i2l, am_ln_l2i, am_ln_i2b, am_ln_i2s, am_ln_i2c, am_ln_dup, am_ln_dup2, am_ln_dup_x1, am_ln_pop, am_ln_iaload, am_ln_iastore, am_ln_baload, am_ln_bastore, am_ln_caload, am_ln_aaload, am_ln_arraylength, am_ln_ireturn, am_ln_lreturn, am_ln_return_, am_ln_aload, am_ln_iload, am_ln_lload, am_ln_istore, am_ln_lstore, am_ln_astore, am_ln_bipush, am_ln_ldc, am_ln_sipush, am_ln_ldc_w, am_ln_ldc2_w, am_ln_iinc, am_ln_ifCond, am_ln_if_icmp, am_ln_goto, am_ln_getfield, am_ln_putfield, am_ln_getstatic, am_ln_invokevirtual, am_ln_invokestatic, am_csum_0, am_csum_I, am_csum_R, am_csum_L, k_im16, k_im8, k_im4, k_im2, k_im1, k_i0, k_i1, k_i2, k_i3, k_i4, k_i5, k_i6, k_i7, k_i8, k_i9, k_i10, k_i11, k_i12, k_i13, k_i14, k_i15, k_i16, k_i17, k_i18, k_i19, k_i20, k_i21, k_i22, k_i23, k_i24, k_i25, k_i26, k_i27, k_i28, k_i29, k_i30, k_i31, k_i32, k_i33, k_i34, k_i35, k_i36, k_i37, k_i38, k_i39, k_i40, k_i41, k_b6, k_b7, k_b8, k_b9, k_b10, k_b11, k_b12, k_b13, k_b14, k_b15, k_b16, k_b17, k_b18, k_b19, k_b20, k_b21, k_b22, k_b23, k_b24, k_b25, k_b26, k_b27, k_b28, k_b29, k_b30, k_b31, k_b32, k_b33, k_b34, k_b35, k_b36, k_b37, k_b38, k_b39, k_b40, k_b41, k_b42, k_b43, k_b44, k_b45, k_b46, k_b47, k_b48, k_b49, k_b50, k_b51, k_b52, k_b53, k_b54, k_b55, k_b56, k_b57, k_b58, k_b59, k_b60, k_b61, k_b62, k_b63, k_b66, k_b76, k_b97, k_b98, k_b99, k_b100, k_b101, k_b102, k_b103, k_b104, k_b105, k_b107, k_b108, k_b109, k_b110, k_b112, k_b114, k_b115, k_b116, k_b117, k_b120, k_b121, k_b122, k_s160, k_s200, k_s255, k_s256, k_s999, k_s2048, k_s4095, k_s9999, k_s10000, k_s12345, k_narI, k_narZ0, k_narZ1, k_ffalse, k_ts0, k_ts1, k_tw0, k_tw1, k_rt, k_rn, Nat.reduceAdd, Nat.zero_add, Nat.reduceLeDiff, Nat.reduceLT, Int.reduceAdd, Int.zero_add, true_and, and_true, List.set_cons_zero, List.set_cons_succ, eq_self, k_n2, k_n3, k_n4, k_n5, k_n6, k_n7, k_n8, k_n9, k_n10, k_n12, k_nn, true_or, or_true, false_or, or_false, k_z10, not_false_eq_true, not_true_eq_false, true_imp_iff, false_imp_iff, n_X3_numberRead, r_X3_numberRead, g_X3_numberRead_0, b_X3_numberRead_0, bk_X3_numberRead_0, g_X3_numberRead_7, b_X3_numberRead_7, bk_X3_numberRead_7, g_X3_numberRead_41, bk_X3_numberRead_41, g_X3_numberRead_47, bk_X3_numberRead_47, t_X3_numberRead_12_47, t_X3_numberRead_34_41, t_X3_numberRead_44_7, x_X3_numberRead_g29, x_X3_numberRead_g19, x_X3_numberRead_g9, tq37, eq]
      exact ⟨fun _ => h, fun y => absurd (nI_le (Nat.le_refl _) (by omega)) y⟩
    | succ u ih =>
      intro i acc hi hpi hacc he
      have ec : μ.1 38 i = sb_b (T i) := (hT.2.2 i (by omega)).2
      have hTi := (hT.2.2 i (by omega)).1
      obtain ⟨d1, d2⟩ := hd i hpi (by omega)
      have es : sb_b (T i) = nI (T i) := (sbv hTi).1 (by omega)
      have e10 : (10 : Int32) * nI acc + nI (T i) - 48 = nI (10 * acc + (T i - 48)) := by
        rw [show (10 : Int32) = nI 10 from rfl, show (48 : Int32) = nI 48 from rfl, pk_mul, nI_add, pk_sub (by omega)]
        congr 1
        omega
      refine hA [7] 60 7 _ _ _ ?_
      simp only [s_aload_0, s_iload_0, s_lload_0, s_istore_0, s_lstore_0, s_astore_0, s_aload_1, s_iload_1, s_lload_1, s_istore_1, s_lstore_1, s_astore_1, s_aload_2, s_iload_2, s_lload_2, s_istore_2, s_lstore_2, s_astore_2, s_aload_3, s_iload_3, s_lload_3, s_istore_3, s_lstore_3, s_astore_3, s_aload, s_iload, s_lload, s_istore, s_lstore, s_astore, s_iconst, s_bipush, s_sipush, s_lconst_0, s_lconst_1, s_iinc, s_iadd, s_isub, s_imul, s_iand, s_ior, s_ixor, s_ishl, s_ishr, s_iushr, s_idiv, s_irem, s_ladd, s_lsub, s_lmul, s_ldiv, s_lrem, s_lcmp, s_i2l, s_l2i, s_i2b, s_i2s, s_i2c, s_dupI, s_dupR, s_dup2IR, s_dupx1, s_popI, s_if_eq, s_if_ne, s_if_lt, s_if_ge, s_if_gt, s_if_le, s_cmp_eq, s_cmp_ne, s_cmp_lt, s_cmp_ge, s_cmp_gt, s_cmp_le, s_goto, s_tsw, s_iaload, s_baload, s_caload, s_aaload, s_iastore, s_bastore, s_alen, s_ireturn, s_lreturn, s_return, am_lI_0, am_lI_S, am_lL_0, am_lL_S, am_lR_0, am_lR_S, am_sto_0, am_sto_1I, am_sto_1R, am_sto_1N, am_sto_1L, am_sto_S, am_stL_d, am_blk_0, am_blk_1, am_ln_aload_n, am_ln_iload_n, am_ln_lload_n, am_ln_istore_n, am_ln_lstore_n, am_ln_astore_n, am_ln_iconst, am_ln_lconst, am_ln_iadd, am_ln_isub, am_ln_imul, am_ln_idiv, am_ln_irem, am_ln_iand, am_ln_ior, am_ln_ixor, am_ln_ishl, am_ln_ishr, am_ln_iushr, am_ln_ladd, am_ln_lsub, am_ln_lmul, am_ln_ldiv, am_ln_lrem, am_ln_lcmp, am_ln_i2l, am_ln_l2i, am_ln_i2b, am_ln_i2s, am_ln_i2c, am_ln_dup, am_ln_dup2, am_ln_dup_x1, am_ln_pop, am_ln_iaload, am_ln_iastore, am_ln_baload, am_ln_bastore, am_ln_caload, am_ln_aaload, am_ln_arraylength, am_ln_ireturn, am_ln_lreturn, am_ln_return_, am_ln_aload, am_ln_iload, am_ln_lload, am_ln_istore, am_ln_lstore, am_ln_astore, am_ln_bipush, am_ln_ldc, am_ln_sipush, am_ln_ldc_w, am_ln_ldc2_w, am_ln_iinc, am_ln_ifCond, am_ln_if_icmp, am_ln_goto, am_ln_getfield, am_ln_putfield, am_ln_getstatic, am_ln_invokevirtual, am_ln_invokestatic, am_csum_0, am_csum_I, am_csum_R, am_csum_L, k_im16, k_im8, k_im4, k_im2, k_im1, k_i0, k_i1, k_i2, k_i3, k_i4, k_i5, k_i6, k_i7, k_i8, k_i9, k_i10, k_i11, k_i12, k_i13, k_i14, k_i15, k_i16, k_i17, k_i18, k_i19, k_i20, k_i21, k_i22, k_i23, k_i24, k_i25, k_i26, k_i27, k_i28, k_i29, k_i30, k_i31, k_i32, k_i33, k_i34, k_i35, k_i36, k_i37, k_i38, k_i39, k_i40, k_i41, k_b6, k_b7, k_b8, k_b9, k_b10, k_b11, k_b12, k_b13, k_b14, k_b15, k_b16, k_b17, k_b18, k_b19, k_b20, k_b21, k_b22, k_b23, k_b24, k_b25, k_b26, k_b27, k_b28, k_b29, k_b30, k_b31, k_b32, k_b33, k_b34, k_b35, k_b36, k_b37, k_b38, k_b39, k_b40, k_b41, k_b42, k_b43, k_b44, k_b45, k_b46, k_b47, k_b48, k_b49, k_b50, k_b51, k_b52, k_b53, k_b54, k_b55, k_b56, k_b57, k_b58, k_b59, k_b60, k_b61, k_b62, k_b63, k_b66, k_b76, k_b97, k_b98, k_b99, k_b100, k_b101, k_b102, k_b103, k_b104, k_b105, k_b107, k_b108, k_b109, k_b110, k_b112, k_b114, k_b115, k_b116, k_b117, k_b120, k_b121, k_b122, k_s160, k_s200, k_s255, k_s256, k_s999, k_s2048, k_s4095, k_s9999, k_s10000, k_s12345, k_narI, k_narZ0, k_narZ1, k_ffalse, k_ts0, k_ts1, k_tw0, k_tw1, k_rt, k_rn, Nat.reduceAdd, Nat.zero_add, Nat.reduceLeDiff, Nat.reduceLT, Int.reduceAdd, Int.zero_add, true_and, and_true, List.set_cons_zero, List.set_cons_succ, eq_self, k_n2, k_n3, k_n4, k_n5, k_n6, k_n7, k_n8, k_n9, k_n10, k_n12, k_nn, true_or, or_true, false_or, or_false, k_z10, not_false_eq_true, not_true_eq_false, true_imp_iff, false_imp_iff, n_X3_numberRead, r_X3_numberRead, g_X3_numberRead_0, b_X3_numberRead_0, bk_X3_numberRead_0, g_X3_numberRead_7, b_X3_numberRead_7, bk_X3_numberRead_7, g_X3_numberRead_41, bk_X3_numberRead_41, g_X3_numberRead_47, bk_X3_numberRead_47, t_X3_numberRead_12_47, t_X3_numberRead_34_41, t_X3_numberRead_44_7, x_X3_numberRead_g29, x_X3_numberRead_g19, x_X3_numberRead_g9, tq37, tr37, bal11 tq38, eq, in120 (show i < 120 by omega), cl120 (show i < 120 by omega), ec, es, e10, nI_1]
      unfold nmv at he
      refine ⟨fun z => absurd z (nI_ge (by omega) (by omega)), fun _ => ⟨fun z => ih (i + 1) _ (by omega) (by omega) ?_ ?_, fun z => ?_⟩⟩
      · exact (nI_leI (b := 9999) (by omega) (by omega)).mp z
      · rw [he, if_neg]
        have := (nI_leI (b := 9999) (by omega) (by omega)).mp z
        omega
      · have : 9999 < 10 * acc + (T i - 48) := by
          rcases Nat.lt_or_ge 9999 (10 * acc + (T i - 48)) with y | y
          · exact y
          · exact absurd (nI_le (b := 9999) y (by omega)) z
        rw [he, if_pos this] at h
        exact h
  refine hA [7] 60 0 _ _ _ ?_; show am_blk _ _ _ _ _ [_, .null, .null] _ _
  simp only [s_aload_0, s_iload_0, s_lload_0, s_istore_0, s_lstore_0, s_astore_0, s_aload_1, s_iload_1, s_lload_1, s_istore_1, s_lstore_1, s_astore_1, s_aload_2, s_iload_2, s_lload_2, s_istore_2, s_lstore_2, s_astore_2, s_aload_3, s_iload_3, s_lload_3, s_istore_3, s_lstore_3, s_astore_3, s_aload, s_iload, s_lload, s_istore, s_lstore, s_astore, s_iconst, s_bipush, s_sipush, s_lconst_0, s_lconst_1, s_iinc, s_iadd, s_isub, s_imul, s_iand, s_ior, s_ixor, s_ishl, s_ishr, s_iushr, s_idiv, s_irem, s_ladd, s_lsub, s_lmul, s_ldiv, s_lrem, s_lcmp, s_i2l, s_l2i, s_i2b, s_i2s, s_i2c, s_dupI, s_dupR, s_dup2IR, s_dupx1, s_popI, s_if_eq, s_if_ne, s_if_lt, s_if_ge, s_if_gt, s_if_le, s_cmp_eq, s_cmp_ne, s_cmp_lt, s_cmp_ge, s_cmp_gt, s_cmp_le, s_goto, s_tsw, s_iaload, s_baload, s_caload, s_aaload, s_iastore, s_bastore, s_alen, s_ireturn, s_lreturn, s_return, am_lI_0, am_lI_S, am_lL_0, am_lL_S, am_lR_0, am_lR_S, am_sto_0, am_sto_1I, am_sto_1R, am_sto_1N, am_sto_1L, am_sto_S, am_stL_d, am_blk_0, am_blk_1, am_ln_aload_n, am_ln_iload_n, am_ln_lload_n, am_ln_istore_n, am_ln_lstore_n, am_ln_astore_n, am_ln_iconst, am_ln_lconst, am_ln_iadd, am_ln_isub, am_ln_imul, am_ln_idiv, am_ln_irem, am_ln_iand, am_ln_ior, am_ln_ixor, am_ln_ishl, am_ln_ishr, am_ln_iushr, am_ln_ladd, am_ln_lsub, am_ln_lmul, am_ln_ldiv, am_ln_lrem, am_ln_lcmp, am_ln_i2l, am_ln_l2i, am_ln_i2b, am_ln_i2s, am_ln_i2c, am_ln_dup, am_ln_dup2, am_ln_dup_x1, am_ln_pop, am_ln_iaload, am_ln_iastore, am_ln_baload, am_ln_bastore, am_ln_caload, am_ln_aaload, am_ln_arraylength, am_ln_ireturn, am_ln_lreturn, am_ln_return_, am_ln_aload, am_ln_iload, am_ln_lload, am_ln_istore, am_ln_lstore, am_ln_astore, am_ln_bipush, am_ln_ldc, am_ln_sipush, am_ln_ldc_w, am_ln_ldc2_w, am_ln_iinc, am_ln_ifCond, am_ln_if_icmp, am_ln_goto, am_ln_getfield, am_ln_putfield, am_ln_getstatic, am_ln_invokevirtual, am_ln_invokestatic, am_csum_0, am_csum_I, am_csum_R, am_csum_L, k_im16, k_im8, k_im4, k_im2, k_im1, k_i0, k_i1, k_i2, k_i3, k_i4, k_i5, k_i6, k_i7, k_i8, k_i9, k_i10, k_i11, k_i12, k_i13, k_i14, k_i15, k_i16, k_i17, k_i18, k_i19, k_i20, k_i21, k_i22, k_i23, k_i24, k_i25, k_i26, k_i27, k_i28, k_i29, k_i30, k_i31, k_i32, k_i33, k_i34, k_i35, k_i36, k_i37, k_i38, k_i39, k_i40, k_i41, k_b6, k_b7, k_b8, k_b9, k_b10, k_b11, k_b12, k_b13, k_b14, k_b15, k_b16, k_b17, k_b18, k_b19, k_b20, k_b21, k_b22, k_b23, k_b24, k_b25, k_b26, k_b27, k_b28, k_b29, k_b30, k_b31, k_b32, k_b33, k_b34, k_b35, k_b36, k_b37, k_b38, k_b39, k_b40, k_b41, k_b42, k_b43, k_b44, k_b45, k_b46, k_b47, k_b48, k_b49, k_b50, k_b51, k_b52, k_b53, k_b54, k_b55, k_b56, k_b57, k_b58, k_b59, k_b60, k_b61, k_b62, k_b63, k_b66, k_b76, k_b97, k_b98, k_b99, k_b100, k_b101, k_b102, k_b103, k_b104, k_b105, k_b107, k_b108, k_b109, k_b110, k_b112, k_b114, k_b115, k_b116, k_b117, k_b120, k_b121, k_b122, k_s160, k_s200, k_s255, k_s256, k_s999, k_s2048, k_s4095, k_s9999, k_s10000, k_s12345, k_narI, k_narZ0, k_narZ1, k_ffalse, k_ts0, k_ts1, k_tw0, k_tw1, k_rt, k_rn, Nat.reduceAdd, Nat.zero_add, Nat.reduceLeDiff, Nat.reduceLT, Int.reduceAdd, Int.zero_add, true_and, and_true, List.set_cons_zero, List.set_cons_succ, eq_self, k_n2, k_n3, k_n4, k_n5, k_n6, k_n7, k_n8, k_n9, k_n10, k_n12, k_nn, true_or, or_true, false_or, or_false, k_z10, not_false_eq_true, not_true_eq_false, true_imp_iff, false_imp_iff, n_X3_numberRead, r_X3_numberRead, g_X3_numberRead_0, b_X3_numberRead_0, bk_X3_numberRead_0, g_X3_numberRead_7, b_X3_numberRead_7, bk_X3_numberRead_7, g_X3_numberRead_41, bk_X3_numberRead_41, g_X3_numberRead_47, bk_X3_numberRead_47, t_X3_numberRead_12_47, t_X3_numberRead_34_41, t_X3_numberRead_44_7, x_X3_numberRead_g29, x_X3_numberRead_g19, x_X3_numberRead_g9, tq37, ep]
  exact A7 (q - p) p 0 (by omega) (Nat.le_refl _) (by omega) hG
theorem ok_X3_numberRead : am_OK (⟨"CarpetLane$Tape", "numberRead", "()I"⟩ : MethodName) prog_5_method_14_code 3 (some .int) rm_X3_numberRead sp_X3_numberRead := am_mok (cd := cd_X3_numberRead) E_X3_numberRead (by decide +kernel) rfl eo_X3_numberRead (by decide +kernel) (by decide +kernel) (q_R_h (by decide)) (q_R_b bd_X3_numberRead)
