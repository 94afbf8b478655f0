def clN (s : cS) : Nat → Nat
  | 0 => 0
  | n + 1 => if s.2.2.1 n 5 = 0 then clN s n else clN s n ||| 2 ^ n
theorem clN_lt (s : cS) : ∀ n, clN s n < 2 ^ n
  | 0 => by unfold clN; decide
  | n + 1 => by
    unfold clN
    have := clN_lt s n
    split
    · exact Nat.lt_trans this (Nat.pow_lt_pow_right (by decide) (by omega))
    · exact Nat.or_lt_two_pow (Nat.lt_trans this (Nat.pow_lt_pow_right (by decide) (by omega))) (Nat.pow_lt_pow_right (by decide) (by omega))
theorem cld_N (s : cS) : ∀ n, n ≤ 8 → cld s n = nI (clN s n)
  | 0, _ => rfl
  | n + 1, h => by
    unfold cld clN
    rw [cld_N s n (by omega)]
    split
    · rfl
    · rw [sh1 (by omega), nI_or]
theorem clN_tb (s : cS) : ∀ n k, (clN s n).testBit k = (decide (k < n) && !decide (s.2.2.1 k 5 = 0))
  | 0, k => by unfold clN; simp
  | n + 1, k => by
    unfold clN
    split
    · rename_i h0
      rw [clN_tb s n k]
      by_cases e : k = n
      · subst e
        simp [h0]
      · have : (k < n) ↔ (k < n + 1) := by omega
        simp [this]
    · rename_i h0
      rw [Nat.testBit_or, clN_tb s n k, Nat.testBit_two_pow]
      by_cases e : k = n
      · subst e
        simp [h0]
      · have : (k < n) ↔ (k < n + 1) := by omega
        have e' : ¬ n = k := fun q => e q.symm
        simp [this, e']
theorem cla_cp (s : cS) (t : Int32) : ∀ n k, n ≤ k → (cla s t n).2.2.1 k 5 = s.2.2.1 k 5
  | 0, _, _ => rfl
  | n + 1, k, h => by
    unfold cla
    split
    · exact cla_cp s t n k (by omega)
    · show (if k = n ∧ 5 = 5 then _ else _) = _
      rw [if_neg (by omega)]
      exact cla_cp s t n k (by omega)
theorem wcp_same {s : cS} {c f : Nat} {x : Int32} (h : s.2.2.1 c f = x) : wcp s c f x = s := by
  unfold wcp
  have : (fun a b => if a = c ∧ b = f then x else s.2.2.1 a b) = s.2.2.1 := by
    funext a b
    by_cases e : a = c ∧ b = f
    · rw [if_pos e, e.1, e.2, h]
    · rw [if_neg e]
  rw [this]
theorem cla_lss {s : cS} {t : Nat} (ht : t < 256) (hs : ∀ k, k < sn s → s.2.2.1 k 5 = 0 ∨ s.2.2.1 k 5 = 1) (h8 : sn s ≤ 8) : ∀ n, n ≤ sn s → cla s (nI (lss t (clN s (sn s)))) n = cla s (nI t) n
  | 0, _ => rfl
  | n + 1, hn => by
    have ih := cla_lss ht hs h8 n (by omega)
    have hl : lss t (clN s (sn s)) < 256 := by
      unfold lss
      exact Nat.xor_lt_two_pow (n := 8) ht (Nat.and_lt_two_pow (n := 8) _ (Nat.lt_of_lt_of_le (clN_lt s (sn s)) (p2_le h8)))
    unfold cla
    rw [ih]
    have e1 := tb_sh (k := n) hl (by omega)
    have e2 := tb_sh (k := n) ht (by omega)
    rw [lss_tb, clN_tb] at e1
    by_cases z : t.testBit n = false
    · rw [if_pos (e2.mpr z), if_pos (e1.mpr (by rw [z]; rfl))]
    · rw [if_neg (fun y => z (e2.mp y))]
      have zt : t.testBit n = true := by simpa using z
      by_cases w : s.2.2.1 n 5 = 0
      · rw [if_neg (fun y => by
          have := e1.mp y
          rw [zt] at this
          simp [w] at this)]
      · rw [if_pos (e1.mpr (by rw [zt]; simp [w, show n < sn s by omega]))]
        have w1 : s.2.2.1 n 5 = 1 := (hs n (by omega)).resolve_left w
        rw [wcp_same (by rw [cla_cp s _ n n (Nat.le_refl _)]; exact w1)]
def shH (s : cS) (c n : Nat) (m : Int32) (t : Nat) : Bool := mkB ((dys (cla s (nI t) (sn s)) n).2.2.1 c 3) m
def p_shut (c m n : Int32) (s : cS) : Out := if th s c = true then (if wi m 11 = true then (if wi n 20 = true then (match shB (shH s c.toNatClampNeg n.toNatClampNeg m) (2 ^ sn s) with
    | none => .inr 3
    | some t => .inl (nI t, s)) else .inr 0) else .inr 0) else .inr 0
theorem Iv_shut {s : cS} (hI : Iv s) : ∀ k, k < sn s → s.2.2.1 k 5 = 0 ∨ s.2.2.1 k 5 = 1 := by
  intro k hk
  obtain ⟨v, hv, e⟩ := hI.2.2.2.2.1 k 5 hk (by omega)
  have : mb 5 = 1 := rfl
  rw [this] at hv
  rcases (show v = 0 ∨ v = 1 by omega) with rfl | rfl
  · exact Or.inl e
  · exact Or.inr e
/-- the class's order finds the same set -/
theorem shut_found {s : cS} (hI : Iv s) {c n t : Nat} {m : Int32} (ht : t < 2 ^ sn s) (hd : (nI t &&& cld s (sn s)) = 0) (hH : shH s c n m t = false)
    (hmin : ∀ t', t' < 2 ^ sn s → (nI t' &&& cld s (sn s)) = 0 → shH s c n m t' = false → pop8 t < pop8 t' ∨ (pop8 t = pop8 t' ∧ t ≤ t')) : shB (shH s c n m) (2 ^ sn s) = some t := by
  have n8 := (Iv_n hI).1
  have p256 := p2_le n8
  refine shB_uniq ht hH (fun t' ht' hH' => ?_)
  have hl : lss t' (clN s (sn s)) < 2 ^ sn s := by
    unfold lss
    exact Nat.xor_lt_two_pow ht' (Nat.and_lt_two_pow _ (clN_lt s (sn s)))
  have hH2 : shH s c n m (lss t' (clN s (sn s))) = false := by
    unfold shH at hH' ⊢
    rw [cla_lss (by omega) (Iv_shut hI) n8 (sn s) (Nat.le_refl _)]
    exact hH'
  have hd2 : (nI (lss t' (clN s (sn s))) &&& cld s (sn s)) = 0 := by
    rw [cld_N s _ n8, nI_and]
    have : lss t' (clN s (sn s)) &&& clN s (sn s) = 0 := by
      apply Nat.eq_of_testBit_eq
      intro i
      rw [Nat.testBit_and, lss_tb, Nat.zero_testBit]
      cases t'.testBit i <;> cases (clN s (sn s)).testBit i <;> rfl
    rw [this]
    rfl
  obtain ⟨l1, l2⟩ := lss_pop t' (clN s (sn s))
  rcases hmin _ hl hd2 hH2 with y | ⟨y1, y2⟩
  · exact Or.inl (by omega)
  · rcases Nat.lt_or_ge (pop8 (lss t' (clN s (sn s)))) (pop8 t') with z | z
    · exact Or.inl (by omega)
    · have := l2 (by omega) (by omega)
      rw [this] at y1 y2
      exact Or.inr ⟨y1, y2⟩
theorem shut_none {s : cS} (hI : Iv s) {c n : Nat} {m : Int32} (hno : ∀ t', t' < 2 ^ sn s → (nI t' &&& cld s (sn s)) = 0 → shH s c n m t' = true) : shB (shH s c n m) (2 ^ sn s) = none := by
  have n8 := (Iv_n hI).1
  have p256 := p2_le n8
  refine shB_no (fun t' ht' => ?_)
  have hl : lss t' (clN s (sn s)) < 2 ^ sn s := by
    unfold lss
    exact Nat.xor_lt_two_pow ht' (Nat.and_lt_two_pow _ (clN_lt s (sn s)))
  have hd2 : (nI (lss t' (clN s (sn s))) &&& cld s (sn s)) = 0 := by
    rw [cld_N s _ n8, nI_and]
    have : lss t' (clN s (sn s)) &&& clN s (sn s) = 0 := by
      apply Nat.eq_of_testBit_eq
      intro i
      rw [Nat.testBit_and, lss_tb, Nat.zero_testBit]
      cases t'.testBit i <;> cases (clN s (sn s)).testBit i <;> rfl
    rw [this]
    rfl
  have := hno _ hl hd2
  unfold shH at this ⊢
  rw [cla_lss (by omega) (Iv_shut hI) n8 (sn s) (Nat.le_refl _)] at this
  exact this
theorem pop8_n {t n : Nat} (h : t < 2 ^ n) (hn : n ≤ 8) : pop8 t ≤ n := by
  have : ∀ n, n ≤ 8 → ∀ t, t < 2 ^ n → pop8 t ≤ n := by decide +kernel
  exact this n hn t h
def f_X4_shut (k : Nat) (c m n : Int32) (μ : am_M) (Q : am_Q) : Prop := k = 0 ∧ ∃ s, Rp 1 μ s ∧ Iv s ∧ oX s (p_shut c m n s) μ Q
def sp_X4_shut : am_Sp := q_RIII f_X4_shut
def bk_X4_shut_0 : List Instr := [.aload_n 0, .getfield 12, .iload_n 1, .invokevirtual 73, .ifCond .eq 21, .iload_n 2, .bipush 11, .invokestatic 45, .ifCond .eq 12, .iload_n 3, .bipush 20, .invokestatic 45, .ifCond .ne 10]
def bk_X4_shut_29 : List Instr := [.aload_n 0, .ldc 49, .invokevirtual 50, .ireturn]
def bk_X4_shut_36 : List Instr := [.aload_n 0, .getfield 12, .invokevirtual 135, .istore 4, .iconst 0, .istore 5]
def bk_X4_shut_48 : List Instr := [.iload 5, .aload_n 0, .getfield 12, .getfield 115, .if_icmp .gt 77, .iconst 0, .istore 6]
def bk_X4_shut_63 : List Instr := [.iload 6, .iconst 1, .aload_n 0, .getfield 12, .getfield 115, .ishl, .if_icmp .ge 54, .iload 6, .iload 4, .iand, .ifCond .ne 7, .iconst 1, .goto 4]
def bk_X4_shut_89 : List Instr := [.iconst 0]
def bk_X4_shut_90 : List Instr := [.istore 7, .iload 7, .ifCond .eq 28, .iload 6, .invokestatic 154, .iload 5, .if_icmp .ne 18, .aload_n 0, .iload 6, .iload_n 1, .iload_n 2, .iload_n 3, .invokevirtual 159, .ifCond .ne 6, .iload 6, .ireturn]
def bk_X4_shut_122 : List Instr := [.iinc 6 1, .goto (-62)]
def bk_X4_shut_128 : List Instr := [.iinc 5 1, .goto (-83)]
def bk_X4_shut_134 : List Instr := [.aload_n 0, .ldc 150, .invokevirtual 50, .ireturn]
def cd_X4_shut : am_cd := [(0, bk_X4_shut_0), (29, bk_X4_shut_29), (36, bk_X4_shut_36), (48, bk_X4_shut_48), (63, bk_X4_shut_63), (89, bk_X4_shut_89), (90, bk_X4_shut_90), (122, bk_X4_shut_122), (128, bk_X4_shut_128), (134, bk_X4_shut_134)]
def E_X4_shut : am_E := (8, .int, [(12, 4, 0), (115, 1, 3)], [(49, .int (-1000001)), (150, .int (-1000004))], [], [(73, 1, 1, sp_X1_isThere), (50, 4, 1, sp_X4_found), (135, 1, 0, sp_X1_closed), (159, 4, 4, sp_X4_hasMarkIfClosed)], [(45, 2, sp_X4_isWithin), (154, 1, sp_J6_bitCount)], [])
theorem n_X4_shut : am_nL E_X4_shut = 8 := Eq.trans rfl rfl
theorem r_X4_shut : am_rt E_X4_shut = .int := Eq.trans rfl rfl
theorem g_X4_shut_0 {At : am_J} {Q : am_Q} {n : Nat} {L S : List Value} {μ : am_M} : am_go E_X4_shut cd_X4_shut [48, 63, 90] At Q (n + 1) 0 L S μ = am_blk E_X4_shut (am_go E_X4_shut cd_X4_shut [48, 63, 90] At Q n) Q bk_X4_shut_0 0 L S μ := Eq.trans rfl rfl
theorem b_X4_shut_0 {gt : am_J} {Q : am_Q} {L S : List Value} {μ : am_M} : am_blk E_X4_shut gt Q (am_lk [] cd_X4_shut 0) 0 L S μ = am_blk E_X4_shut gt Q bk_X4_shut_0 0 L S μ := Eq.trans rfl rfl
theorem g_X4_shut_29 {At : am_J} {Q : am_Q} {n : Nat} {L S : List Value} {μ : am_M} : am_go E_X4_shut cd_X4_shut [48, 63, 90] At Q (n + 1) 29 L S μ = am_blk E_X4_shut (am_go E_X4_shut cd_X4_shut [48, 63, 90] At Q n) Q bk_X4_shut_29 29 L S μ := Eq.trans rfl rfl
theorem g_X4_shut_36 {At : am_J} {Q : am_Q} {n : Nat} {L S : List Value} {μ : am_M} : am_go E_X4_shut cd_X4_shut [48, 63, 90] At Q (n + 1) 36 L S μ = am_blk E_X4_shut (am_go E_X4_shut cd_X4_shut [48, 63, 90] At Q n) Q bk_X4_shut_36 36 L S μ := Eq.trans rfl rfl
theorem g_X4_shut_48 {At : am_J} {Q : am_Q} {n : Nat} {L S : List Value} {μ : am_M} : am_go E_X4_shut cd_X4_shut [48, 63, 90] At Q (n + 1) 48 L S μ = At 48 L S μ := Eq.trans rfl rfl
theorem b_X4_shut_48 {gt : am_J} {Q : am_Q} {L S : List Value} {μ : am_M} : am_blk E_X4_shut gt Q (am_lk [] cd_X4_shut 48) 48 L S μ = am_blk E_X4_shut gt Q bk_X4_shut_48 48 L S μ := Eq.trans rfl rfl
theorem g_X4_shut_63 {At : am_J} {Q : am_Q} {n : Nat} {L S : List Value} {μ : am_M} : am_go E_X4_shut cd_X4_shut [48, 63, 90] At Q (n + 1) 63 L S μ = At 63 L S μ := Eq.trans rfl rfl
theorem b_X4_shut_63 {gt : am_J} {Q : am_Q} {L S : List Value} {μ : am_M} : am_blk E_X4_shut gt Q (am_lk [] cd_X4_shut 63) 63 L S μ = am_blk E_X4_shut gt Q bk_X4_shut_63 63 L S μ := Eq.trans rfl rfl
theorem g_X4_shut_89 {At : am_J} {Q : am_Q} {n : Nat} {L S : List Value} {μ : am_M} : am_go E_X4_shut cd_X4_shut [48, 63, 90] At Q (n + 1) 89 L S μ = am_blk E_X4_shut (am_go E_X4_shut cd_X4_shut [48, 63, 90] At Q n) Q bk_X4_shut_89 89 L S μ := Eq.trans rfl rfl
theorem g_X4_shut_90 {At : am_J} {Q : am_Q} {n : Nat} {L S : List Value} {μ : am_M} : am_go E_X4_shut cd_X4_shut [48, 63, 90] At Q (n + 1) 90 L S μ = At 90 L S μ := Eq.trans rfl rfl
theorem b_X4_shut_90 {gt : am_J} {Q : am_Q} {L S : List Value} {μ : am_M} : am_blk E_X4_shut gt Q (am_lk [] cd_X4_shut 90) 90 L S μ = am_blk E_X4_shut gt Q bk_X4_shut_90 90 L S μ := Eq.trans rfl rfl
theorem g_X4_shut_122 {At : am_J} {Q : am_Q} {n : Nat} {L S : List Value} {μ : am_M} : am_go E_X4_shut cd_X4_shut [48, 63, 90] At Q (n + 1) 122 L S μ = am_blk E_X4_shut (am_go E_X4_shut cd_X4_shut [48, 63, 90] At Q n) Q bk_X4_shut_122 122 L S μ := Eq.trans rfl rfl
theorem g_X4_shut_128 {At : am_J} {Q : am_Q} {n : Nat} {L S : List Value} {μ : am_M} : am_go E_X4_shut cd_X4_shut [48, 63, 90] At Q (n + 1) 128 L S μ = am_blk E_X4_shut (am_go E_X4_shut cd_X4_shut [48, 63, 90] At Q n) Q bk_X4_shut_128 128 L S μ := Eq.trans rfl rfl
theorem g_X4_shut_134 {At : am_J} {Q : am_Q} {n : Nat} {L S : List Value} {μ : am_M} : am_go E_X4_shut cd_X4_shut [48, 63, 90] At Q (n + 1) 134 L S μ = am_blk E_X4_shut (am_go E_X4_shut cd_X4_shut [48, 63, 90] At Q n) Q bk_X4_shut_134 134 L S μ := Eq.trans rfl rfl
theorem t_X4_shut_8_29 : am_tg 8 21 = 29 := Eq.trans rfl rfl
theorem t_X4_shut_17_29 : am_tg 17 12 = 29 := Eq.trans rfl rfl
theorem t_X4_shut_26_36 : am_tg 26 10 = 36 := Eq.trans rfl rfl
theorem t_X4_shut_57_134 : am_tg 57 77 = 134 := Eq.trans rfl rfl
theorem t_X4_shut_74_128 : am_tg 74 54 = 128 := Eq.trans rfl rfl
theorem t_X4_shut_82_89 : am_tg 82 7 = 89 := Eq.trans rfl rfl
theorem t_X4_shut_86_90 : am_tg 86 4 = 90 := Eq.trans rfl rfl
theorem t_X4_shut_94_122 : am_tg 94 28 = 122 := Eq.trans rfl rfl
theorem t_X4_shut_104_122 : am_tg 104 18 = 122 := Eq.trans rfl rfl
theorem t_X4_shut_116_122 : am_tg 116 6 = 122 := Eq.trans rfl rfl
theorem t_X4_shut_125_63 : am_tg 125 (-62) = 63 := Eq.trans rfl rfl
theorem t_X4_shut_131_48 : am_tg 131 (-83) = 48 := Eq.trans rfl rfl
theorem x_X4_shut_g12 {pc : Nat} {L S : List Value} {μ : am_M} {nx : am_K} {jp : am_J} {Q : am_Q} {k : Nat} : am_st E_X4_shut pc (.getfield 12) L (.ref k :: S) μ nx jp Q = (am_sh k = (4, 0) ∧ nx L (.ref (am_rf k 0) :: S) μ) := Eq.trans rfl rfl
theorem x_X4_shut_g115 {pc : Nat} {L S : List Value} {μ : am_M} {nx : am_K} {jp : am_J} {Q : am_Q} {k : Nat} : am_st E_X4_shut pc (.getfield 115) L (.ref k :: S) μ nx jp Q = (am_sh k = (1, 0) ∧ nx L (.int (μ.1 k 3) :: S) μ) := Eq.trans rfl rfl
theorem x_X4_shut_c49 {pc : Nat} {L S : List Value} {μ : am_M} {nx : am_K} {jp : am_J} {Q : am_Q} : am_st E_X4_shut pc (.ldc 49) L S μ nx jp Q = nx L (.int (-1000001) :: S) μ := Eq.trans rfl rfl
theorem x_X4_shut_c150 {pc : Nat} {L S : List Value} {μ : am_M} {nx : am_K} {jp : am_J} {Q : am_Q} : am_st E_X4_shut pc (.ldc 150) L S μ nx jp Q = nx L (.int (-1000004) :: S) μ := Eq.trans rfl rfl
theorem x_X4_shut_v73 {pc : Nat} {L S : List Value} {μ : am_M} {nx : am_K} {jp : am_J} {Q : am_Q} {k : Nat} {a0 : Int32} : am_st E_X4_shut pc (.invokevirtual 73) L (.int a0 :: .ref k :: S) μ nx jp Q = (am_sh k = (1, 0) ∧ am_csum S ≤ 8 ∧ f_X1_isThere k a0 μ (fun r μ' => nx L (r.toList ++ S) μ')) := Eq.trans rfl rfl
theorem x_X4_shut_v50 {pc : Nat} {L S : List Value} {μ : am_M} {nx : am_K} {jp : am_J} {Q : am_Q} {k : Nat} {a0 : Int32} : am_st E_X4_shut pc (.invokevirtual 50) L (.int a0 :: .ref k :: S) μ nx jp Q = (am_sh k = (4, 0) ∧ am_csum S ≤ 8 ∧ f_X4_found k a0 μ (fun r μ' => nx L (r.toList ++ S) μ')) := Eq.trans rfl rfl
theorem x_X4_shut_v135 {pc : Nat} {L S : List Value} {μ : am_M} {nx : am_K} {jp : am_J} {Q : am_Q} {k : Nat}  : am_st E_X4_shut pc (.invokevirtual 135) L (.ref k :: S) μ nx jp Q = (am_sh k = (1, 0) ∧ am_csum S ≤ 8 ∧ f_X1_closed k  μ (fun r μ' => nx L (r.toList ++ S) μ')) := Eq.trans rfl rfl
theorem x_X4_shut_v159 {pc : Nat} {L S : List Value} {μ : am_M} {nx : am_K} {jp : am_J} {Q : am_Q} {k : Nat} {a0 : Int32} {a1 : Int32} {a2 : Int32} {a3 : Int32} : am_st E_X4_shut pc (.invokevirtual 159) L (.int a3 :: .int a2 :: .int a1 :: .int a0 :: .ref k :: S) μ nx jp Q = (am_sh k = (4, 0) ∧ am_csum S ≤ 8 ∧ f_X4_hasMarkIfClosed k a0 a1 a2 a3 μ (fun r μ' => nx L (r.toList ++ S) μ')) := Eq.trans rfl rfl
theorem x_X4_shut_v45 {pc : Nat} {L S : List Value} {μ : am_M} {nx : am_K} {jp : am_J} {Q : am_Q} {a0 : Int32} {a1 : Int32} : am_st E_X4_shut pc (.invokestatic 45) L (.int a1 :: .int a0 :: S) μ nx jp Q = (am_csum S ≤ 8 ∧ f_X4_isWithin a0 a1 μ (fun r μ' => nx L (r.toList ++ S) μ')) := Eq.trans rfl rfl
theorem x_X4_shut_v154 {pc : Nat} {L S : List Value} {μ : am_M} {nx : am_K} {jp : am_J} {Q : am_Q} {a0 : Int32} : am_st E_X4_shut pc (.invokestatic 154) L (.int a0 :: S) μ nx jp Q = (am_csum S ≤ 8 ∧ f_J6_bitCount a0 μ (fun r μ' => nx L (r.toList ++ S) μ')) := Eq.trans rfl rfl
def rm_X4_shut : Room := { frames := 7, cells := 0, slots := 0, locals := 158 }
theorem eo_X4_shut : am_EO "CarpetLane" rm_X4_shut E_X4_shut := ⟨(List.forall_mem_cons.mpr ⟨Or.inl ⟨_, rfl, by decide, am_in 207 (by decide +kernel) (by decide +kernel), by decide⟩, (List.forall_mem_cons.mpr ⟨Or.inl ⟨_, rfl, by decide, am_in 136 (by decide +kernel) (by decide +kernel), by decide⟩, (fun _ h => absurd h List.not_mem_nil)⟩)⟩), (List.forall_mem_cons.mpr ⟨am_in 237 (by decide +kernel) (by decide +kernel), (List.forall_mem_cons.mpr ⟨am_in 447 (by decide +kernel) (by decide +kernel), (fun _ h => absurd h List.not_mem_nil)⟩)⟩), (fun _ h => absurd h List.not_mem_nil), (List.forall_mem_cons.mpr ⟨am_mkV ok_X1_isThere wv_X1_isThere (am_in 275 (by decide +kernel) (by decide +kernel)) ⟨rfl, rfl, by decide, by decide⟩, (List.forall_mem_cons.mpr ⟨am_mkV ok_X4_found wv_X4_found (am_in 238 (by decide +kernel) (by decide +kernel)) ⟨rfl, rfl, by decide, by decide⟩, (List.forall_mem_cons.mpr ⟨am_mkV ok_X1_closed wv_X1_closed (am_in 410 (by decide +kernel) (by decide +kernel)) ⟨rfl, rfl, by decide, by decide⟩, (List.forall_mem_cons.mpr ⟨am_mkV ok_X4_hasMarkIfClosed wv_X4_hasMarkIfClosed (am_in 485 (by decide +kernel) (by decide +kernel)) ⟨rfl, rfl, by decide, by decide⟩, (fun _ h => absurd h List.not_mem_nil)⟩)⟩)⟩)⟩), (List.forall_mem_cons.mpr ⟨am_mkS ok_X4_isWithin wv_X4_isWithin (Or.inl (am_in 234 (by decide +kernel) (by decide +kernel))) ⟨rfl, rfl, by decide, by decide⟩, (List.forall_mem_cons.mpr ⟨am_mkS ok_J6_bitCount wv_J6_bitCount (Or.inl (am_in 484 (by decide +kernel) (by decide +kernel))) ⟨rfl, rfl, by decide, by decide⟩, (fun _ h => absurd h List.not_mem_nil)⟩)⟩), (fun _ h => absurd h List.not_mem_nil)⟩
theorem wv_X4_shut : am_WV (⟨"CarpetLane", "shut", "(III)I"⟩ : MethodName) prog_1_method_22_code 8 (some .int) 3 4 := ⟨am_in 59 (by decide +kernel) (by decide +kernel), am_in 483 (by decide +kernel) (by decide +kernel), by decide +kernel, rfl, by decide, am_in 481 (by decide +kernel) (by decide +kernel), am_in 482 (by decide +kernel) (by decide +kernel)⟩
theorem bd_X4_shut (k : Nat) (c : Int32) (m : Int32) (n : Int32) (μ : am_M) (Q : am_Q) (At : am_J) (hA : am_ok E_X4_shut cd_X4_shut Q At) (h : f_X4_shut k c m n μ Q) : At 0 (am_en [.ref k, .int c, .int m, .int n] 8) [] μ := by
  obtain ⟨rfl, s, hR, hI, h⟩ := h; have hW := Iv_w hI; have n8 := hW.1.1; have hsz : μ.1 1 3 = s.1 1 := hR.1.2.1
  unfold p_shut at h
  have hszn : μ.1 1 3 = nI (sn s) := by rw [hsz, hW.1.2]
  have p256 := p2_le n8
  have key : ∀ c' n', c' < sn s → c = nI c' → n' < 1000 → n = nI n' → oX s (match shB (shH s c' n' m) (2 ^ sn s) with
      | none => .inr 3
      | some t => .inl (nI t, s)) μ Q → ∀ (u z : Nat) (d6 d7 : Value) (μ1 : am_M), z + u = sn s + 1 → Fr 13 μ μ1 → (d6 = .null ∨ ∃ x, d6 = .int x) → (∀ t', t' < 2 ^ sn s → (nI t' &&& cld s (sn s)) = 0 → shH s c' n' m t' = false → z ≤ pop8 t') → At 48 [.ref 0, .int c, .int m, .int n, .int (cld s (sn s)), .int (nI z), d6, d7] [] μ1 := by
    intro c' n' hc' ec hn' en ho u
    subst ec
    subst en
    induction u with
    | zero =>
      intro z d6 d7 μ1 hz hF1 hd6 hm
      have hR1 := Rp1_13 hR hF1 n8
      have hs1 : μ1.1 1 3 = nI (sn s) := by rw [hR1.1.2.1, hW.1.2]
      have e : z = sn s + 1 := by omega
      subst e
      have hno : shB (shH s c' n' m) (2 ^ sn s) = none := shut_none hI (fun t' h1 h2 => by
        cases e : shH s c' n' m t' with
        | true => rfl
        | false =>
          have := hm t' h1 h2 e
          have := pop8_n h1 n8
          omega)
      rw [hno] at ho
      refine hA [48, 63, 90] 60 48 _ _ _ ?_
      simp only [s_aload_0, s_iload_0, s_lload_0, s_istore_0, s_lstore_0, s_astore_0, s_aload_1, s_iload_1, s_lload_1, s_istore_1, s_lstore_1, s_astore_1, s_aload_2, s_iload_2, s_lload_2, s_istore_2, s_lstore_2, s_astore_2, s_aload_3, s_iload_3, s_lload_3, s_istore_3, s_lstore_3, s_astore_3, s_aload, s_iload, s_lload, s_istore, s_lstore, s_astore, s_iconst, s_bipush, s_sipush, s_lconst_0, s_lconst_1, s_iinc, s_iadd, s_isub, s_imul, s_iand, s_ior, s_ixor, s_ishl, s_ishr, s_iushr, s_idiv, s_irem, s_ladd, s_lsub, s_lmul, s_ldiv, s_lrem, s_lcmp, s_i2l, s_l2i, s_i2b, s_i2s, s_i2c, s_dupI, s_dupR, s_dup2IR, s_dupx1, s_popI, s_if_eq, s_if_ne, s_if_lt, s_if_ge, s_if_gt, s_if_le, s_cmp_eq, s_cmp_ne, s_cmp_lt, s_cmp_ge, s_cmp_gt, s_cmp_le, s_goto, s_tsw, s_iaload, s_baload, s_caload, s_aaload, s_iastore, s_bastore, s_alen, s_ireturn, s_lreturn, s_return, am_lI_0, am_lI_S, am_lL_0, am_lL_S, am_lR_0, am_lR_S, am_sto_0, am_sto_1I, am_sto_1R, am_sto_1N, am_sto_1L, am_sto_S, am_stL_d, am_blk_0, am_blk_1, am_ln_aload_n, am_ln_iload_n, am_ln_lload_n, am_ln_istore_n, am_ln_lstore_n, am_ln_astore_n, am_ln_iconst, am_ln_lconst, am_ln_iadd, am_ln_isub, am_ln_imul, am_ln_idiv, am_ln_irem, am_ln_iand, am_ln_ior, am_ln_ixor, am_ln_ishl, am_ln_ishr, am_ln_iushr, am_ln_ladd, am_ln_lsub, am_ln_lmul, am_ln_ldiv, am_ln_lrem, am_ln_lcmp, am_ln_i2l, am_ln_l2i, am_ln_i2b, am_ln_i2s, am_ln_i2c, am_ln_dup, am_ln_dup2, am_ln_dup_x1, am_ln_pop, am_ln_iaload, am_ln_iastore, am_ln_baload, am_ln_bastore, am_ln_caload, am_ln_aaload, am_ln_arraylength, am_ln_ireturn, am_ln_lreturn, am_ln_return_, am_ln_aload, am_ln_iload, am_ln_lload, am_ln_istore, am_ln_lstore, am_ln_astore, am_ln_bipush, am_ln_ldc, am_ln_sipush, am_ln_ldc_w, am_ln_ldc2_w, am_ln_iinc, am_ln_ifCond, am_ln_if_icmp, am_ln_goto, am_ln_getfield, am_ln_putfield, am_ln_getstatic, am_ln_invokevirtual, am_ln_invokestatic, am_csum_0, am_csum_I, am_csum_R, am_csum_L, k_im16, k_im8, k_im4, k_im2, k_im1, k_i0, k_i1, k_i2, k_i3, k_i4, k_i5, k_i6, k_i7, k_i8, k_i9, k_i10, k_i11, k_i12, k_i13, k_i14, k_i15, k_i16, k_i17, k_i18, k_i19, k_i20, k_i21, k_i22, k_i23, k_i24, k_i25, k_i26, k_i27, k_i28, k_i29, k_i30, k_i31, k_i32, k_i33, k_i34, k_i35, k_i36, k_i37, k_i38, k_i39, k_i40, k_i41, k_b6, k_b7, k_b8, k_b9, k_b10, k_b11, k_b12, k_b13, k_b14, k_b15, k_b16, k_b17, k_b18, k_b19, k_b20, k_b21, k_b22, k_b23, k_b24, k_b25, k_b26, k_b27, k_b28, k_b29, k_b30, k_b31, k_b32, k_b33, k_b34, k_b35, k_b36, k_b37, k_b38, k_b39, k_b40, k_b41, k_b42, k_b43, k_b44, k_b45, k_b46, k_b47, k_b48, k_b49, k_b50, k_b51, k_b52, k_b53, k_b54, k_b55, k_b56, k_b57, k_b58, k_b59, k_b60, k_b61, k_b62, k_b63, k_b66, k_b76, k_b97, k_b98, k_b99, k_b100, k_b101, k_b102, k_b103, k_b104, k_b105, k_b107, k_b108, k_b109, k_b110, k_b112, k_b114, k_b115, k_b116, k_b117, k_b120, k_b121, k_b122, k_s160, k_s200, k_s255, k_s256, k_s999, k_s2048, k_s4095, k_s9999, k_s10000, k_s12345, k_narI, k_narZ0, k_narZ1, k_ffalse, k_ts0, k_ts1, k_tw0, k_tw1, k_rt, k_rn, Nat.reduceAdd, Nat.zero_add, Nat.reduceLeDiff, Nat.reduceLT, Int.reduceAdd, Int.zero_add, true_and, and_true, List.set_cons_zero, List.set_cons_succ, eq_self, k_n2, k_n3, k_n4, k_n5, k_n6, k_n7, k_n8, k_n9, k_n10, k_n12, k_nn, true_or, or_true, false_or, or_false, k_z10, not_false_eq_true, not_true_eq_false, true_imp_iff, false_imp_iff, n_X4_shut, r_X4_shut, g_X4_shut_0, b_X4_shut_0, bk_X4_shut_0, g_X4_shut_29, bk_X4_shut_29, g_X4_shut_36, bk_X4_shut_36, g_X4_shut_48, b_X4_shut_48, bk_X4_shut_48, g_X4_shut_63, b_X4_shut_63, bk_X4_shut_63, g_X4_shut_89, bk_X4_shut_89, g_X4_shut_90, b_X4_shut_90, bk_X4_shut_90, g_X4_shut_122, bk_X4_shut_122, g_X4_shut_128, bk_X4_shut_128, g_X4_shut_134, bk_X4_shut_134, t_X4_shut_8_29, t_X4_shut_17_29, t_X4_shut_26_36, t_X4_shut_57_134, t_X4_shut_74_128, t_X4_shut_82_89, t_X4_shut_86_90, t_X4_shut_94_122, t_X4_shut_104_122, t_X4_shut_116_122, t_X4_shut_125_63, t_X4_shut_131_48, x_X4_shut_g12, x_X4_shut_g115, x_X4_shut_c49, x_X4_shut_c150, x_X4_shut_v73, x_X4_shut_v50, x_X4_shut_v135, x_X4_shut_v159, x_X4_shut_v45, x_X4_shut_v154, f_X4_isWithin, f_X4_found, f_X1_isThere, q00, q01, q02, s1, s2, s3, r3, r14, r15, r16, s12, s13, r134, r135, s14, s15, r15a, hs1]
      exact ⟨fun _ => oX_g ho (by omega) hR1 (FrX_13 hF1) (by decide), fun y => absurd (nI_lt (by omega) (by omega)) y⟩
    | succ u ih =>
      intro z d6 d7 μ1 hz hF1 hd6 hm
      have A63 : ∀ (v t : Nat) (d7 : Value) (μ2 : am_M), t + v = 2 ^ sn s → Fr 13 μ μ2 → (∀ t', t' < 2 ^ sn s → (nI t' &&& cld s (sn s)) = 0 → shH s c' n' m t' = false → z < pop8 t' ∨ (z = pop8 t' ∧ t ≤ t')) → At 63 [.ref 0, .int (nI c'), .int m, .int (nI n'), .int (cld s (sn s)), .int (nI z), .int (nI t), d7] [] μ2 := by
        intro v
        induction v with
        | zero =>
          intro t d7 μ2 ht hF2 hm2
          have hR2 := Rp1_13 hR hF2 n8
          have hs2 : μ2.1 1 3 = nI (sn s) := by rw [hR2.1.2.1, hW.1.2]
          have e : t = 2 ^ sn s := by omega
          rw [e]
          refine hA [48, 63, 90] 60 63 _ _ _ ?_
          simp only [s_aload_0, s_iload_0, s_lload_0, s_istore_0, s_lstore_0, s_astore_0, s_aload_1, s_iload_1, s_lload_1, s_istore_1, s_lstore_1, s_astore_1, s_aload_2, s_iload_2, s_lload_2, s_istore_2, s_lstore_2, s_astore_2, s_aload_3, s_iload_3, s_lload_3, s_istore_3, s_lstore_3, s_astore_3, s_aload, s_iload, s_lload, s_istore, s_lstore, s_astore, s_iconst, s_bipush, s_sipush, s_lconst_0, s_lconst_1, s_iinc, s_iadd, s_isub, s_imul, s_iand, s_ior, s_ixor, s_ishl, s_ishr, s_iushr, s_idiv, s_irem, s_ladd, s_lsub, s_lmul, s_ldiv, s_lrem, s_lcmp, s_i2l, s_l2i, s_i2b, s_i2s, s_i2c, s_dupI, s_dupR, s_dup2IR, s_dupx1, s_popI, s_if_eq, s_if_ne, s_if_lt, s_if_ge, s_if_gt, s_if_le, s_cmp_eq, s_cmp_ne, s_cmp_lt, s_cmp_ge, s_cmp_gt, s_cmp_le, s_goto, s_tsw, s_iaload, s_baload, s_caload, s_aaload, s_iastore, s_bastore, s_alen, s_ireturn, s_lreturn, s_return, am_lI_0, am_lI_S, am_lL_0, am_lL_S, am_lR_0, am_lR_S, am_sto_0, am_sto_1I, am_sto_1R, am_sto_1N, am_sto_1L, am_sto_S, am_stL_d, am_blk_0, am_blk_1, am_ln_aload_n, am_ln_iload_n, am_ln_lload_n, am_ln_istore_n, am_ln_lstore_n, am_ln_astore_n, am_ln_iconst, am_ln_lconst, am_ln_iadd, am_ln_isub, am_ln_imul, am_ln_idiv, am_ln_irem, am_ln_iand, am_ln_ior, am_ln_ixor, am_ln_ishl, am_ln_ishr, am_ln_iushr, am_ln_ladd, am_ln_lsub, am_ln_lmul, am_ln_ldiv, am_ln_lrem, am_ln_lcmp, am_ln_i2l, am_ln_l2i, am_ln_i2b, am_ln_i2s, am_ln_i2c, am_ln_dup, am_ln_dup2, am_ln_dup_x1, am_ln_pop, am_ln_iaload, am_ln_iastore, am_ln_baload, am_ln_bastore, am_ln_caload, am_ln_aaload, am_ln_arraylength, am_ln_ireturn, am_ln_lreturn, am_ln_return_, am_ln_aload, am_ln_iload, am_ln_lload, am_ln_istore, am_ln_lstore, am_ln_astore, am_ln_bipush, am_ln_ldc, am_ln_sipush, am_ln_ldc_w, am_ln_ldc2_w, am_ln_iinc, am_ln_ifCond, am_ln_if_icmp, am_ln_goto, am_ln_getfield, am_ln_putfield, am_ln_getstatic, am_ln_invokevirtual, am_ln_invokestatic, am_csum_0, am_csum_I, am_csum_R, am_csum_L, k_im16, k_im8, k_im4, k_im2, k_im1, k_i0, k_i1, k_i2, k_i3, k_i4, k_i5, k_i6, k_i7, k_i8, k_i9, k_i10, k_i11, k_i12, k_i13, k_i14, k_i15, k_i16, k_i17, k_i18, k_i19, k_i20, k_i21, k_i22, k_i23, k_i24, k_i25, k_i26, k_i27, k_i28, k_i29, k_i30, k_i31, k_i32, k_i33, k_i34, k_i35, k_i36, k_i37, k_i38, k_i39, k_i40, k_i41, k_b6, k_b7, k_b8, k_b9, k_b10, k_b11, k_b12, k_b13, k_b14, k_b15, k_b16, k_b17, k_b18, k_b19, k_b20, k_b21, k_b22, k_b23, k_b24, k_b25, k_b26, k_b27, k_b28, k_b29, k_b30, k_b31, k_b32, k_b33, k_b34, k_b35, k_b36, k_b37, k_b38, k_b39, k_b40, k_b41, k_b42, k_b43, k_b44, k_b45, k_b46, k_b47, k_b48, k_b49, k_b50, k_b51, k_b52, k_b53, k_b54, k_b55, k_b56, k_b57, k_b58, k_b59, k_b60, k_b61, k_b62, k_b63, k_b66, k_b76, k_b97, k_b98, k_b99, k_b100, k_b101, k_b102, k_b103, k_b104, k_b105, k_b107, k_b108, k_b109, k_b110, k_b112, k_b114, k_b115, k_b116, k_b117, k_b120, k_b121, k_b122, k_s160, k_s200, k_s255, k_s256, k_s999, k_s2048, k_s4095, k_s9999, k_s10000, k_s12345, k_narI, k_narZ0, k_narZ1, k_ffalse, k_ts0, k_ts1, k_tw0, k_tw1, k_rt, k_rn, Nat.reduceAdd, Nat.zero_add, Nat.reduceLeDiff, Nat.reduceLT, Int.reduceAdd, Int.zero_add, true_and, and_true, List.set_cons_zero, List.set_cons_succ, eq_self, k_n2, k_n3, k_n4, k_n5, k_n6, k_n7, k_n8, k_n9, k_n10, k_n12, k_nn, true_or, or_true, false_or, or_false, k_z10, not_false_eq_true, not_true_eq_false, true_imp_iff, false_imp_iff, n_X4_shut, r_X4_shut, g_X4_shut_0, b_X4_shut_0, bk_X4_shut_0, g_X4_shut_29, bk_X4_shut_29, g_X4_shut_36, bk_X4_shut_36, g_X4_shut_48, b_X4_shut_48, bk_X4_shut_48, g_X4_shut_63, b_X4_shut_63, bk_X4_shut_63, g_X4_shut_89, bk_X4_shut_89, g_X4_shut_90, b_X4_shut_90, bk_X4_shut_90, g_X4_shut_122, bk_X4_shut_122, g_X4_shut_128, bk_X4_shut_128, g_X4_shut_134, bk_X4_shut_134, t_X4_shut_8_29, t_X4_shut_17_29, t_X4_shut_26_36, t_X4_shut_57_134, t_X4_shut_74_128, t_X4_shut_82_89, t_X4_shut_86_90, t_X4_shut_94_122, t_X4_shut_104_122, t_X4_shut_116_122, t_X4_shut_125_63, t_X4_shut_131_48, x_X4_shut_g12, x_X4_shut_g115, x_X4_shut_c49, x_X4_shut_c150, x_X4_shut_v73, x_X4_shut_v50, x_X4_shut_v135, x_X4_shut_v159, x_X4_shut_v45, x_X4_shut_v154, f_X4_isWithin, f_X4_found, f_X1_isThere, q00, q01, q02, s1, s2, s3, r3, r14, r15, r16, s12, s13, r134, r135, s14, s15, r15a, hs2, sh1 n8, nI_1]
          refine ⟨fun _ => ih (z + 1) _ _ μ2 (by omega) hF2 (Or.inr ⟨_, rfl⟩) (fun t' h1 h2 h3 => ?_), fun y => absurd (nI_le (Nat.le_refl _) (by omega)) y⟩
          rcases hm2 t' h1 h2 h3 with y | y
          · exact y
          · omega
        | succ v ihv =>
          intro t d7 μ2 ht hF2 hm2
          have hR2 := Rp1_13 hR hF2 n8
          have hs2 : μ2.1 1 3 = nI (sn s) := by rw [hR2.1.2.1, hW.1.2]
          have ht2 : t < 2 ^ sn s := by omega
          have hp8 : pop8 t ≤ 8 := pop8_le
          have nxt : ∀ (d7 : Value) (μ3 : am_M), Fr 13 μ μ3 → ((nI t &&& cld s (sn s)) = 0 → shH s c' n' m t = false → ¬ z = pop8 t) → At 63 [.ref 0, .int (nI c'), .int m, .int (nI n'), .int (cld s (sn s)), .int (nI z), .int (nI (t + 1)), d7] [] μ3 := by
            intro d7 μ3 hF3 hno
            refine ihv (t + 1) d7 μ3 (by omega) hF3 (fun t' h1 h2 h3 => ?_)
            rcases hm2 t' h1 h2 h3 with y | ⟨y1, y2⟩
            · exact Or.inl y
            · by_cases e : t' = t
              · subst e
                exact absurd y1 (hno h2 h3)
              · exact Or.inr ⟨y1, by omega⟩
          have A90 : ∀ x : Int32, ((x = 1 ∧ (nI t &&& cld s (sn s)) = 0) ∨ (x = 0 ∧ ¬ (nI t &&& cld s (sn s)) = 0)) → At 90 [.ref 0, .int (nI c'), .int m, .int (nI n'), .int (cld s (sn s)), .int (nI z), .int (nI t), d7] [.int x] μ2 := by
            intro x hx
            refine hA [48, 63, 90] 60 90 _ _ _ ?_
            simp only [s_aload_0, s_iload_0, s_lload_0, s_istore_0, s_lstore_0, s_astore_0, s_aload_1, s_iload_1, s_lload_1, s_istore_1, s_lstore_1, s_astore_1, s_aload_2, s_iload_2, s_lload_2, s_istore_2, s_lstore_2, s_astore_2, s_aload_3, s_iload_3, s_lload_3, s_istore_3, s_lstore_3, s_astore_3, s_aload, s_iload, s_lload, s_istore, s_lstore, s_astore, s_iconst, s_bipush, s_sipush, s_lconst_0, s_lconst_1, s_iinc, s_iadd, s_isub, s_imul, s_iand, s_ior, s_ixor, s_ishl, s_ishr, s_iushr, s_idiv, s_irem, s_ladd, s_lsub, s_lmul, s_ldiv, s_lrem, s_lcmp, s_i2l, s_l2i, s_i2b, s_i2s, s_i2c, s_dupI, s_dupR, s_dup2IR, s_dupx1, s_popI, s_if_eq, s_if_ne, s_if_lt, s_if_ge, s_if_gt, s_if_le, s_cmp_eq, s_cmp_ne, s_cmp_lt, s_cmp_ge, s_cmp_gt, s_cmp_le, s_goto, s_tsw, s_iaload, s_baload, s_caload, s_aaload, s_iastore, s_bastore, s_alen, s_ireturn, s_lreturn, s_return, am_lI_0, am_lI_S, am_lL_0, am_lL_S, am_lR_0, am_lR_S, am_sto_0, am_sto_1I, am_sto_1R, am_sto_1N, am_sto_1L, am_sto_S, am_stL_d, am_blk_0, am_blk_1, am_ln_aload_n, am_ln_iload_n, am_ln_lload_n, am_ln_istore_n, am_ln_lstore_n, am_ln_astore_n, am_ln_iconst, am_ln_lconst, am_ln_iadd, am_ln_isub, am_ln_imul, am_ln_idiv, am_ln_irem, am_ln_iand, am_ln_ior, am_ln_ixor, am_ln_ishl, am_ln_ishr, am_ln_iushr, am_ln_ladd, am_ln_lsub, am_ln_lmul, am_ln_ldiv, am_ln_lrem, am_ln_lcmp, am_ln_i2l, am_ln_l2i, am_ln_i2b, am_ln_i2s, am_ln_i2c, am_ln_dup, am_ln_dup2, am_ln_dup_x1, am_ln_pop, am_ln_iaload, am_ln_iastore, am_ln_baload, am_ln_bastore, am_ln_caload, am_ln_aaload, am_ln_arraylength, am_ln_ireturn, am_ln_lreturn, am_ln_return_, am_ln_aload, am_ln_iload, am_ln_lload, am_ln_istore, am_ln_lstore, am_ln_astore, am_ln_bipush, am_ln_ldc, am_ln_sipush, am_ln_ldc_w, am_ln_ldc2_w, am_ln_iinc, am_ln_ifCond, am_ln_if_icmp, am_ln_goto, am_ln_getfield, am_ln_putfield, am_ln_getstatic, am_ln_invokevirtual, am_ln_invokestatic, am_csum_0, am_csum_I, am_csum_R, am_csum_L, k_im16, k_im8, k_im4, k_im2, k_im1, k_i0, k_i1, k_i2, k_i3, k_i4, k_i5, k_i6, k_i7, k_i8, k_i9, k_i10, k_i11, k_i12, k_i13, k_i14, k_i15, k_i16, k_i17, k_i18, k_i19, k_i20, k_i21, k_i22, k_i23, k_i24, k_i25, k_i26, k_i27, k_i28, k_i29, k_i30, k_i31, k_i32, k_i33, k_i34, k_i35, k_i36, k_i37, k_i38, k_i39, k_i40, k_i41, k_b6, k_b7, k_b8, k_b9, k_b10, k_b11, k_b12, k_b13, k_b14, k_b15, k_b16, k_b17, k_b18, k_b19, k_b20, k_b21, k_b22, k_b23, k_b24, k_b25, k_b26, k_b27, k_b28, k_b29, k_b30, k_b31, k_b32, k_b33, k_b34, k_b35, k_b36, k_b37, k_b38, k_b39, k_b40, k_b41, k_b42, k_b43, k_b44, k_b45, k_b46, k_b47, k_b48, k_b49, k_b50, k_b51, k_b52, k_b53, k_b54, k_b55, k_b56, k_b57, k_b58, k_b59, k_b60, k_b61, k_b62, k_b63, k_b66, k_b76, k_b97, k_b98, k_b99, k_b100, k_b101, k_b102, k_b103, k_b104, k_b105, k_b107, k_b108, k_b109, k_b110, k_b112, k_b114, k_b115, k_b116, k_b117, k_b120, k_b121, k_b122, k_s160, k_s200, k_s255, k_s256, k_s999, k_s2048, k_s4095, k_s9999, k_s10000, k_s12345, k_narI, k_narZ0, k_narZ1, k_ffalse, k_ts0, k_ts1, k_tw0, k_tw1, k_rt, k_rn, Nat.reduceAdd, Nat.zero_add, Nat.reduceLeDiff, Nat.reduceLT, Int.reduceAdd, Int.zero_add, true_and, and_true, List.set_cons_zero, List.set_cons_succ, eq_self, k_n2, k_n3, k_n4, k_n5, k_n6, k_n7, k_n8, k_n9, k_n10, k_n12, k_nn, true_or, or_true, false_or, or_false, k_z10, not_false_eq_true, not_true_eq_false, true_imp_iff, false_imp_iff, n_X4_shut, r_X4_shut, g_X4_shut_0, b_X4_shut_0, bk_X4_shut_0, g_X4_shut_29, bk_X4_shut_29, g_X4_shut_36, bk_X4_shut_36, g_X4_shut_48, b_X4_shut_48, bk_X4_shut_48, g_X4_shut_63, b_X4_shut_63, bk_X4_shut_63, g_X4_shut_89, bk_X4_shut_89, g_X4_shut_90, b_X4_shut_90, bk_X4_shut_90, g_X4_shut_122, bk_X4_shut_122, g_X4_shut_128, bk_X4_shut_128, g_X4_shut_134, bk_X4_shut_134, t_X4_shut_8_29, t_X4_shut_17_29, t_X4_shut_26_36, t_X4_shut_57_134, t_X4_shut_74_128, t_X4_shut_82_89, t_X4_shut_86_90, t_X4_shut_94_122, t_X4_shut_104_122, t_X4_shut_116_122, t_X4_shut_125_63, t_X4_shut_131_48, x_X4_shut_g12, x_X4_shut_g115, x_X4_shut_c49, x_X4_shut_c150, x_X4_shut_v73, x_X4_shut_v50, x_X4_shut_v135, x_X4_shut_v159, x_X4_shut_v45, x_X4_shut_v154, f_X4_isWithin, f_X4_found, f_X1_isThere, q00, q01, q02, s1, s2, s3, r3, r14, r15, r16, s12, s13, r134, r135, s14, s15, r15a, f_J6_bitCount, bc_pop (show t < 256 by omega), f_X4_hasMarkIfClosed, nI_1]
            refine ⟨fun y => ?_, fun y => ⟨fun y2 => ?_, fun y2 => ⟨s, c', n', hR2, hW, hc', rfl, hn', rfl, fun μ3 hF3 => ⟨fun y3 => ?_, fun y3 => ?_⟩⟩⟩⟩
            · rcases hx with ⟨rfl, hx⟩ | ⟨-, hx⟩
              · exact absurd y (by decide)
              · exact nxt _ μ2 hF2 (fun w => absurd w hx)
            · exact nxt _ μ2 hF2 (fun _ _ w => y2 (by rw [w]))
            · exact nxt _ μ3 (Fr_tr hF2 hF3) (fun _ w => by
                unfold shH at w
                rw [mkB_iff.mpr y3] at w
                cases w)
            · rcases hx with ⟨-, hx⟩ | ⟨rfl, hx⟩
              · have hHt : shH s c' n' m t = false := by
                  unfold shH
                  cases e : mkB ((dys (cla s (nI t) (sn s)) n').2.2.1 c' 3) m with
                  | false => rfl
                  | true => exact absurd (mkB_iff.mp e) y3
                have ez : pop8 t = z := (nI_eq (by omega) (by omega)).mp y2
                have hf := shut_found hI ht2 hx hHt (fun t' h1 h2 h3 => by rw [ez]; exact hm2 t' h1 h2 h3)
                rw [hf] at ho
                exact ho μ3 (Rp1_13 hR (Fr_tr hF2 hF3) n8) (FrX_13 (Fr_tr hF2 hF3))
              · exact absurd rfl y
          refine hA [48, 63, 90] 60 63 _ _ _ ?_
          simp only [s_aload_0, s_iload_0, s_lload_0, s_istore_0, s_lstore_0, s_astore_0, s_aload_1, s_iload_1, s_lload_1, s_istore_1, s_lstore_1, s_astore_1, s_aload_2, s_iload_2, s_lload_2, s_istore_2, s_lstore_2, s_astore_2, s_aload_3, s_iload_3, s_lload_3, s_istore_3, s_lstore_3, s_astore_3, s_aload, s_iload, s_lload, s_istore, s_lstore, s_astore, s_iconst, s_bipush, s_sipush, s_lconst_0, s_lconst_1, s_iinc, s_iadd, s_isub, s_imul, s_iand, s_ior, s_ixor, s_ishl, s_ishr, s_iushr, s_idiv, s_irem, s_ladd, s_lsub, s_lmul, s_ldiv, s_lrem, s_lcmp, s_i2l, s_l2i, s_i2b, s_i2s, s_i2c, s_dupI, s_dupR, s_dup2IR, s_dupx1, s_popI, s_if_eq, s_if_ne, s_if_lt, s_if_ge, s_if_gt, s_if_le, s_cmp_eq, s_cmp_ne, s_cmp_lt, s_cmp_ge, s_cmp_gt, s_cmp_le, s_goto, s_tsw, s_iaload, s_baload, s_caload, s_aaload, s_iastore, s_bastore, s_alen, s_ireturn, s_lreturn, s_return, am_lI_0, am_lI_S, am_lL_0, am_lL_S, am_lR_0, am_lR_S, am_sto_0, am_sto_1I, am_sto_1R, am_sto_1N, am_sto_1L, am_sto_S, am_stL_d, am_blk_0, am_blk_1, am_ln_aload_n, am_ln_iload_n, am_ln_lload_n, am_ln_istore_n, am_ln_lstore_n, am_ln_astore_n, am_ln_iconst, am_ln_lconst, am_ln_iadd, am_ln_isub, am_ln_imul, am_ln_idiv, am_ln_irem, am_ln_iand, am_ln_ior, am_ln_ixor, am_ln_ishl, am_ln_ishr, am_ln_iushr, am_ln_ladd, am_ln_lsub, am_ln_lmul, am_ln_ldiv, am_ln_lrem, am_ln_lcmp, am_ln_i2l, am_ln_l2i, am_ln_i2b, am_ln_i2s, am_ln_i2c, am_ln_dup, am_ln_dup2, am_ln_dup_x1, am_ln_pop, am_ln_iaload, am_ln_iastore, am_ln_baload, am_ln_bastore, am_ln_caload, am_ln_aaload, am_ln_arraylength, am_ln_ireturn, am_ln_lreturn, am_ln_return_, am_ln_aload, am_ln_iload, am_ln_lload, am_ln_istore, am_ln_lstore, am_ln_astore, am_ln_bipush, am_ln_ldc, am_ln_sipush, am_ln_ldc_w, am_ln_ldc2_w, am_ln_iinc, am_ln_ifCond, am_ln_if_icmp, am_ln_goto, am_ln_getfield, am_ln_putfield, am_ln_getstatic, am_ln_invokevirtual, am_ln_invokestatic, am_csum_0, am_csum_I, am_csum_R, am_csum_L, k_im16, k_im8, k_im4, k_im2, k_im1, k_i0, k_i1, k_i2, k_i3, k_i4, k_i5, k_i6, k_i7, k_i8, k_i9, k_i10, k_i11, k_i12, k_i13, k_i14, k_i15, k_i16, k_i17, k_i18, k_i19, k_i20, k_i21, k_i22, k_i23, k_i24, k_i25, k_i26, k_i27, k_i28, k_i29, k_i30, k_i31, k_i32, k_i33, k_i34, k_i35, k_i36, k_i37, k_i38, k_i39, k_i40, k_i41, k_b6, k_b7, k_b8, k_b9, k_b10, k_b11, k_b12, k_b13, k_b14, k_b15, k_b16, k_b17, k_b18, k_b19, k_b20, k_b21, k_b22, k_b23, k_b24, k_b25, k_b26, k_b27, k_b28, k_b29, k_b30, k_b31, k_b32, k_b33, k_b34, k_b35, k_b36, k_b37, k_b38, k_b39, k_b40, k_b41, k_b42, k_b43, k_b44, k_b45, k_b46, k_b47, k_b48, k_b49, k_b50, k_b51, k_b52, k_b53, k_b54, k_b55, k_b56, k_b57, k_b58, k_b59, k_b60, k_b61, k_b62, k_b63, k_b66, k_b76, k_b97, k_b98, k_b99, k_b100, k_b101, k_b102, k_b103, k_b104, k_b105, k_b107, k_b108, k_b109, k_b110, k_b112, k_b114, k_b115, k_b116, k_b117, k_b120, k_b121, k_b122, k_s160, k_s200, k_s255, k_s256, k_s999, k_s2048, k_s4095, k_s9999, k_s10000, k_s12345, k_narI, k_narZ0, k_narZ1, k_ffalse, k_ts0, k_ts1, k_tw0, k_tw1, k_rt, k_rn, Nat.reduceAdd, Nat.zero_add, Nat.reduceLeDiff, Nat.reduceLT, Int.reduceAdd, Int.zero_add, true_and, and_true, List.set_cons_zero, List.set_cons_succ, eq_self, k_n2, k_n3, k_n4, k_n5, k_n6, k_n7, k_n8, k_n9, k_n10, k_n12, k_nn, true_or, or_true, false_or, or_false, k_z10, not_false_eq_true, not_true_eq_false, true_imp_iff, false_imp_iff, n_X4_shut, r_X4_shut, g_X4_shut_0, b_X4_shut_0, bk_X4_shut_0, g_X4_shut_29, bk_X4_shut_29, g_X4_shut_36, bk_X4_shut_36, g_X4_shut_48, b_X4_shut_48, bk_X4_shut_48, g_X4_shut_63, b_X4_shut_63, bk_X4_shut_63, g_X4_shut_89, bk_X4_shut_89, g_X4_shut_90, b_X4_shut_90, bk_X4_shut_90, g_X4_shut_122, bk_X4_shut_122, g_X4_shut_128, bk_X4_shut_128, g_X4_shut_134, bk_X4_shut_134, t_X4_shut_8_29, t_X4_shut_17_29, t_X4_shut_26_36, t_X4_shut_57_134, t_X4_shut_74_128, t_X4_shut_82_89, t_X4_shut_86_90, t_X4_shut_94_122, t_X4_shut_104_122, t_X4_shut_116_122, t_X4_shut_125_63, t_X4_shut_131_48, x_X4_shut_g12, x_X4_shut_g115, x_X4_shut_c49, x_X4_shut_c150, x_X4_shut_v73, x_X4_shut_v50, x_X4_shut_v135, x_X4_shut_v159, x_X4_shut_v45, x_X4_shut_v154, f_X4_isWithin, f_X4_found, f_X1_isThere, q00, q01, q02, s1, s2, s3, r3, r14, r15, r16, s12, s13, r134, r135, s14, s15, r15a, hs2, sh1 n8]
          exact ⟨fun y => absurd y (nI_ge (by omega) (by omega)), fun _ => ⟨fun y => A90 0 (Or.inr ⟨rfl, y⟩), fun y => A90 1 (Or.inl ⟨rfl, y⟩)⟩⟩
      have hR1 := Rp1_13 hR hF1 n8
      have hs1 : μ1.1 1 3 = nI (sn s) := by rw [hR1.1.2.1, hW.1.2]
      have fin : At 63 [.ref 0, .int (nI c'), .int m, .int (nI n'), .int (cld s (sn s)), .int (nI z), .int (nI 0), d7] [] μ1 := A63 (2 ^ sn s) 0 d7 μ1 (by omega) hF1 (fun t' h1 h2 h3 => by
          have := hm t' h1 h2 h3
          omega)
      rcases hd6 with rfl | ⟨x6, rfl⟩
      · refine hA [48, 63, 90] 60 48 _ _ _ ?_
        simp only [s_aload_0, s_iload_0, s_lload_0, s_istore_0, s_lstore_0, s_astore_0, s_aload_1, s_iload_1, s_lload_1, s_istore_1, s_lstore_1, s_astore_1, s_aload_2, s_iload_2, s_lload_2, s_istore_2, s_lstore_2, s_astore_2, s_aload_3, s_iload_3, s_lload_3, s_istore_3, s_lstore_3, s_astore_3, s_aload, s_iload, s_lload, s_istore, s_lstore, s_astore, s_iconst, s_bipush, s_sipush, s_lconst_0, s_lconst_1, s_iinc, s_iadd, s_isub, s_imul, s_iand, s_ior, s_ixor, s_ishl, s_ishr, s_iushr, s_idiv, s_irem, s_ladd, s_lsub, s_lmul, s_ldiv, s_lrem, s_lcmp, s_i2l, s_l2i, s_i2b, s_i2s, s_i2c, s_dupI, s_dupR, s_dup2IR, s_dupx1, s_popI, s_if_eq, s_if_ne, s_if_lt, s_if_ge, s_if_gt, s_if_le, s_cmp_eq, s_cmp_ne, s_cmp_lt, s_cmp_ge, s_cmp_gt, s_cmp_le, s_goto, s_tsw, s_iaload, s_baload, s_caload, s_aaload, s_iastore, s_bastore, s_alen, s_ireturn, s_lreturn, s_return, am_lI_0, am_lI_S, am_lL_0, am_lL_S, am_lR_0, am_lR_S, am_sto_0, am_sto_1I, am_sto_1R, am_sto_1N, am_sto_1L, am_sto_S, am_stL_d, am_blk_0, am_blk_1, am_ln_aload_n, am_ln_iload_n, am_ln_lload_n, am_ln_istore_n, am_ln_lstore_n, am_ln_astore_n, am_ln_iconst, am_ln_lconst, am_ln_iadd, am_ln_isub, am_ln_imul, am_ln_idiv, am_ln_irem, am_ln_iand, am_ln_ior, am_ln_ixor, am_ln_ishl, am_ln_ishr, am_ln_iushr, am_ln_ladd, am_ln_lsub, am_ln_lmul, am_ln_ldiv, am_ln_lrem, am_ln_lcmp, am_ln_i2l, am_ln_l2i, am_ln_i2b, am_ln_i2s, am_ln_i2c, am_ln_dup, am_ln_dup2, am_ln_dup_x1, am_ln_pop, am_ln_iaload, am_ln_iastore, am_ln_baload, am_ln_bastore, am_ln_caload, am_ln_aaload, am_ln_arraylength, am_ln_ireturn, am_ln_lreturn, am_ln_return_, am_ln_aload, am_ln_iload, am_ln_lload, am_ln_istore, am_ln_lstore, am_ln_astore, am_ln_bipush, am_ln_ldc, am_ln_sipush, am_ln_ldc_w, am_ln_ldc2_w, am_ln_iinc, am_ln_ifCond, am_ln_if_icmp, am_ln_goto, am_ln_getfield, am_ln_putfield, am_ln_getstatic, am_ln_invokevirtual, am_ln_invokestatic, am_csum_0, am_csum_I, am_csum_R, am_csum_L, k_im16, k_im8, k_im4, k_im2, k_im1, k_i0, k_i1, k_i2, k_i3, k_i4, k_i5, k_i6, k_i7, k_i8, k_i9, k_i10, k_i11, k_i12, k_i13, k_i14, k_i15, k_i16, k_i17, k_i18, k_i19, k_i20, k_i21, k_i22, k_i23, k_i24, k_i25, k_i26, k_i27, k_i28, k_i29, k_i30, k_i31, k_i32, k_i33, k_i34, k_i35, k_i36, k_i37, k_i38, k_i39, k_i40, k_i41, k_b6, k_b7, k_b8, k_b9, k_b10, k_b11, k_b12, k_b13, k_b14, k_b15, k_b16, k_b17, k_b18, k_b19, k_b20, k_b21, k_b22, k_b23, k_b24, k_b25, k_b26, k_b27, k_b28, k_b29, k_b30, k_b31, k_b32, k_b33, k_b34, k_b35, k_b36, k_b37, k_b38, k_b39, k_b40, k_b41, k_b42, k_b43, k_b44, k_b45, k_b46, k_b47, k_b48, k_b49, k_b50, k_b51, k_b52, k_b53, k_b54, k_b55, k_b56, k_b57, k_b58, k_b59, k_b60, k_b61, k_b62, k_b63, k_b66, k_b76, k_b97, k_b98, k_b99, k_b100, k_b101, k_b102, k_b103, k_b104, k_b105, k_b107, k_b108, k_b109, k_b110, k_b112, k_b114, k_b115, k_b116, k_b117, k_b120, k_b121, k_b122, k_s160, k_s200, k_s255, k_s256, k_s999, k_s2048, k_s4095, k_s9999, k_s10000, k_s12345, k_narI, k_narZ0, k_narZ1, k_ffalse, k_ts0, k_ts1, k_tw0, k_tw1, k_rt, k_rn, Nat.reduceAdd, Nat.zero_add, Nat.reduceLeDiff, Nat.reduceLT, Int.reduceAdd, Int.zero_add, true_and, and_true, List.set_cons_zero, List.set_cons_succ, eq_self, k_n2, k_n3, k_n4, k_n5, k_n6, k_n7, k_n8, k_n9, k_n10, k_n12, k_nn, true_or, or_true, false_or, or_false, k_z10, not_false_eq_true, not_true_eq_false, true_imp_iff, false_imp_iff, n_X4_shut, r_X4_shut, g_X4_shut_0, b_X4_shut_0, bk_X4_shut_0, g_X4_shut_29, bk_X4_shut_29, g_X4_shut_36, bk_X4_shut_36, g_X4_shut_48, b_X4_shut_48, bk_X4_shut_48, g_X4_shut_63, b_X4_shut_63, bk_X4_shut_63, g_X4_shut_89, bk_X4_shut_89, g_X4_shut_90, b_X4_shut_90, bk_X4_shut_90, g_X4_shut_122, bk_X4_shut_122, g_X4_shut_128, bk_X4_shut_128, g_X4_shut_134, bk_X4_shut_134, t_X4_shut_8_29, t_X4_shut_17_29, t_X4_shut_26_36, t_X4_shut_57_134, t_X4_shut_74_128, t_X4_shut_82_89, t_X4_shut_86_90, t_X4_shut_94_122, t_X4_shut_104_122, t_X4_shut_116_122, t_X4_shut_125_63, t_X4_shut_131_48, x_X4_shut_g12, x_X4_shut_g115, x_X4_shut_c49, x_X4_shut_c150, x_X4_shut_v73, x_X4_shut_v50, x_X4_shut_v135, x_X4_shut_v159, x_X4_shut_v45, x_X4_shut_v154, f_X4_isWithin, f_X4_found, f_X1_isThere, q00, q01, q02, s1, s2, s3, r3, r14, r15, r16, s12, s13, r134, r135, s14, s15, r15a, hs1]
        exact ⟨fun y => absurd y (nI_nlt (by omega) (by omega)), fun _ => fin⟩
      · refine hA [48, 63, 90] 60 48 _ _ _ ?_
        simp only [s_aload_0, s_iload_0, s_lload_0, s_istore_0, s_lstore_0, s_astore_0, s_aload_1, s_iload_1, s_lload_1, s_istore_1, s_lstore_1, s_astore_1, s_aload_2, s_iload_2, s_lload_2, s_istore_2, s_lstore_2, s_astore_2, s_aload_3, s_iload_3, s_lload_3, s_istore_3, s_lstore_3, s_astore_3, s_aload, s_iload, s_lload, s_istore, s_lstore, s_astore, s_iconst, s_bipush, s_sipush, s_lconst_0, s_lconst_1, s_iinc, s_iadd, s_isub, s_imul, s_iand, s_ior, s_ixor, s_ishl, s_ishr, s_iushr, s_idiv, s_irem, s_ladd, s_lsub, s_lmul, s_ldiv, s_lrem, s_lcmp, s_i2l, s_l2i, s_i2b, s_i2s, s_i2c, s_dupI, s_dupR, s_dup2IR, s_dupx1, s_popI, s_if_eq, s_if_ne, s_if_lt, s_if_ge, s_if_gt, s_if_le, s_cmp_eq, s_cmp_ne, s_cmp_lt, s_cmp_ge, s_cmp_gt, s_cmp_le, s_goto, s_tsw, s_iaload, s_baload, s_caload, s_aaload, s_iastore, s_bastore, s_alen, s_ireturn, s_lreturn, s_return, am_lI_0, am_lI_S, am_lL_0, am_lL_S, am_lR_0, am_lR_S, am_sto_0, am_sto_1I, am_sto_1R, am_sto_1N, am_sto_1L, am_sto_S, am_stL_d, am_blk_0, am_blk_1, am_ln_aload_n, am_ln_iload_n, am_ln_lload_n, am_ln_istore_n, am_ln_lstore_n, am_ln_astore_n, am_ln_iconst, am_ln_lconst, am_ln_iadd, am_ln_isub, am_ln_imul, am_ln_idiv, am_ln_irem, am_ln_iand, am_ln_ior, am_ln_ixor, am_ln_ishl, am_ln_ishr, am_ln_iushr, am_ln_ladd, am_ln_lsub, am_ln_lmul, am_ln_ldiv, am_ln_lrem, am_ln_lcmp, am_ln_i2l, am_ln_l2i, am_ln_i2b, am_ln_i2s, am_ln_i2c, am_ln_dup, am_ln_dup2, am_ln_dup_x1, am_ln_pop, am_ln_iaload, am_ln_iastore, am_ln_baload, am_ln_bastore, am_ln_caload, am_ln_aaload, am_ln_arraylength, am_ln_ireturn, am_ln_lreturn, am_ln_return_, am_ln_aload, am_ln_iload, am_ln_lload, am_ln_istore, am_ln_lstore, am_ln_astore, am_ln_bipush, am_ln_ldc, am_ln_sipush, am_ln_ldc_w, am_ln_ldc2_w, am_ln_iinc, am_ln_ifCond, am_ln_if_icmp, am_ln_goto, am_ln_getfield, am_ln_putfield, am_ln_getstatic, am_ln_invokevirtual, am_ln_invokestatic, am_csum_0, am_csum_I, am_csum_R, am_csum_L, k_im16, k_im8, k_im4, k_im2, k_im1, k_i0, k_i1, k_i2, k_i3, k_i4, k_i5, k_i6, k_i7, k_i8, k_i9, k_i10, k_i11, k_i12, k_i13, k_i14, k_i15, k_i16, k_i17, k_i18, k_i19, k_i20, k_i21, k_i22, k_i23, k_i24, k_i25, k_i26, k_i27, k_i28, k_i29, k_i30, k_i31, k_i32, k_i33, k_i34, k_i35, k_i36, k_i37, k_i38, k_i39, k_i40, k_i41, k_b6, k_b7, k_b8, k_b9, k_b10, k_b11, k_b12, k_b13, k_b14, k_b15, k_b16, k_b17, k_b18, k_b19, k_b20, k_b21, k_b22, k_b23, k_b24, k_b25, k_b26, k_b27, k_b28, k_b29, k_b30, k_b31, k_b32, k_b33, k_b34, k_b35, k_b36, k_b37, k_b38, k_b39, k_b40, k_b41, k_b42, k_b43, k_b44, k_b45, k_b46, k_b47, k_b48, k_b49, k_b50, k_b51, k_b52, k_b53, k_b54, k_b55, k_b56, k_b57, k_b58, k_b59, k_b60, k_b61, k_b62, k_b63, k_b66, k_b76, k_b97, k_b98, k_b99, k_b100, k_b101, k_b102, k_b103, k_b104, k_b105, k_b107, k_b108, k_b109, k_b110, k_b112, k_b114, k_b115, k_b116, k_b117, k_b120, k_b121, k_b122, k_s160, k_s200, k_s255, k_s256, k_s999, k_s2048, k_s4095, k_s9999, k_s10000, k_s12345, k_narI, k_narZ0, k_narZ1, k_ffalse, k_ts0, k_ts1, k_tw0, k_tw1, k_rt, k_rn, Nat.reduceAdd, Nat.zero_add, Nat.reduceLeDiff, Nat.reduceLT, Int.reduceAdd, Int.zero_add, true_and, and_true, List.set_cons_zero, List.set_cons_succ, eq_self, k_n2, k_n3, k_n4, k_n5, k_n6, k_n7, k_n8, k_n9, k_n10, k_n12, k_nn, true_or, or_true, false_or, or_false, k_z10, not_false_eq_true, not_true_eq_false, true_imp_iff, false_imp_iff, n_X4_shut, r_X4_shut, g_X4_shut_0, b_X4_shut_0, bk_X4_shut_0, g_X4_shut_29, bk_X4_shut_29, g_X4_shut_36, bk_X4_shut_36, g_X4_shut_48, b_X4_shut_48, bk_X4_shut_48, g_X4_shut_63, b_X4_shut_63, bk_X4_shut_63, g_X4_shut_89, bk_X4_shut_89, g_X4_shut_90, b_X4_shut_90, bk_X4_shut_90, g_X4_shut_122, bk_X4_shut_122, g_X4_shut_128, bk_X4_shut_128, g_X4_shut_134, bk_X4_shut_134, t_X4_shut_8_29, t_X4_shut_17_29, t_X4_shut_26_36, t_X4_shut_57_134, t_X4_shut_74_128, t_X4_shut_82_89, t_X4_shut_86_90, t_X4_shut_94_122, t_X4_shut_104_122, t_X4_shut_116_122, t_X4_shut_125_63, t_X4_shut_131_48, x_X4_shut_g12, x_X4_shut_g115, x_X4_shut_c49, x_X4_shut_c150, x_X4_shut_v73, x_X4_shut_v50, x_X4_shut_v135, x_X4_shut_v159, x_X4_shut_v45, x_X4_shut_v154, f_X4_isWithin, f_X4_found, f_X1_isThere, q00, q01, q02, s1, s2, s3, r3, r14, r15, r16, s12, s13, r134, r135, s14, s15, r15a, hs1]
        exact ⟨fun y => absurd y (nI_nlt (by omega) (by omega)), fun _ => fin⟩
  refine hA [48, 63, 90] 60 0 _ _ _ ?_; show am_blk _ _ _ _ _ [_, _, _, _, .null, .null, .null, .null] _ _
  simp only [s_aload_0, s_iload_0, s_lload_0, s_istore_0, s_lstore_0, s_astore_0, s_aload_1, s_iload_1, s_lload_1, s_istore_1, s_lstore_1, s_astore_1, s_aload_2, s_iload_2, s_lload_2, s_istore_2, s_lstore_2, s_astore_2, s_aload_3, s_iload_3, s_lload_3, s_istore_3, s_lstore_3, s_astore_3, s_aload, s_iload, s_lload, s_istore, s_lstore, s_astore, s_iconst, s_bipush, s_sipush, s_lconst_0, s_lconst_1, s_iinc, s_iadd, s_isub, s_imul, s_iand, s_ior, s_ixor, s_ishl, s_ishr, s_iushr, s_idiv, s_irem, s_ladd, s_lsub, s_lmul, s_ldiv, s_lrem, s_lcmp, s_i2l, s_l2i, s_i2b, s_i2s, s_i2c, s_dupI, s_dupR, s_dup2IR, s_dupx1, s_popI, s_if_eq, s_if_ne, s_if_lt, s_if_ge, s_if_gt, s_if_le, s_cmp_eq, s_cmp_ne, s_cmp_lt, s_cmp_ge, s_cmp_gt, s_cmp_le, s_goto, s_tsw, s_iaload, s_baload, s_caload, s_aaload, s_iastore, s_bastore, s_alen, s_ireturn, s_lreturn, s_return, am_lI_0, am_lI_S, am_lL_0, am_lL_S, am_lR_0, am_lR_S, am_sto_0, am_sto_1I, am_sto_1R, am_sto_1N, am_sto_1L, am_sto_S, am_stL_d, am_blk_0, am_blk_1, am_ln_aload_n, am_ln_iload_n, am_ln_lload_n, am_ln_istore_n, am_ln_lstore_n, am_ln_astore_n, am_ln_iconst, am_ln_lconst, am_ln_iadd, am_ln_isub, am_ln_imul, am_ln_idiv, am_ln_irem, am_ln_iand, am_ln_ior, am_ln_ixor, am_ln_ishl, am_ln_ishr, am_ln_iushr, am_ln_ladd, am_ln_lsub, am_ln_lmul, am_ln_ldiv, am_ln_lrem, am_ln_lcmp, am_ln_i2l, am_ln_l2i, am_ln_i2b, am_ln_i2s, am_ln_i2c, am_ln_dup, am_ln_dup2, am_ln_dup_x1, am_ln_pop, am_ln_iaload, am_ln_iastore, am_ln_baload, am_ln_bastore, am_ln_caload, am_ln_aaload, am_ln_arraylength, am_ln_ireturn, am_ln_lreturn, am_ln_return_, am_ln_aload, am_ln_iload, am_ln_lload, am_ln_istore, am_ln_lstore, am_ln_astore, am_ln_bipush, am_ln_ldc, am_ln_sipush, am_ln_ldc_w, am_ln_ldc2_w, am_ln_iinc, am_ln_ifCond, am_ln_if_icmp, am_ln_goto, am_ln_getfield, am_ln_putfield, am_ln_getstatic, am_ln_invokevirtual, am_ln_invokestatic, am_csum_0, am_csum_I, am_csum_R, am_csum_L, k_im16, k_im8, k_im4, k_im2, k_im1, k_i0, k_i1, k_i2, k_i3, k_i4, k_i5, k_i6, k_i7, k_i8, k_i9, k_i10, k_i11, k_i12, k_i13, k_i14, k_i15, k_i16, k_i17, k_i18, k_i19, k_i20, k_i21, k_i22, k_i23, k_i24, k_i25, k_i26, k_i27, k_i28, k_i29, k_i30, k_i31, k_i32, k_i33, k_i34, k_i35, k_i36, k_i37, k_i38, k_i39, k_i40, k_i41, k_b6, k_b7, k_b8, k_b9, k_b10, k_b11, k_b12, k_b13, k_b14, k_b15, k_b16, k_b17, k_b18, k_b19, k_b20, k_b21, k_b22, k_b23, k_b24, k_b25, k_b26, k_b27, k_b28, k_b29, k_b30, k_b31, k_b32, k_b33, k_b34, k_b35, k_b36, k_b37, k_b38, k_b39, k_b40, k_b41, k_b42, k_b43, k_b44, k_b45, k_b46, k_b47, k_b48, k_b49, k_b50, k_b51, k_b52, k_b53, k_b54, k_b55, k_b56, k_b57, k_b58, k_b59, k_b60, k_b61, k_b62, k_b63, k_b66, k_b76, k_b97, k_b98, k_b99, k_b100, k_b101, k_b102, k_b103, k_b104, k_b105, k_b107, k_b108, k_b109, k_b110, k_b112, k_b114, k_b115, k_b116, k_b117, k_b120, k_b121, k_b122, k_s160, k_s200, k_s255, k_s256, k_s999, k_s2048, k_s4095, k_s9999, k_s10000, k_s12345, k_narI, k_narZ0, k_narZ1, k_ffalse, k_ts0, k_ts1, k_tw0, k_tw1, k_rt, k_rn, Nat.reduceAdd, Nat.zero_add, Nat.reduceLeDiff, Nat.reduceLT, Int.reduceAdd, Int.zero_add, true_and, and_true, List.set_cons_zero, List.set_cons_succ, eq_self, k_n2, k_n3, k_n4, k_n5, k_n6, k_n7, k_n8, k_n9, k_n10, k_n12, k_nn, true_or, or_true, false_or, or_false, k_z10, not_false_eq_true, not_true_eq_false, true_imp_iff, false_imp_iff, n_X4_shut, r_X4_shut, g_X4_shut_0, b_X4_shut_0, bk_X4_shut_0, g_X4_shut_29, bk_X4_shut_29, g_X4_shut_36, bk_X4_shut_36, g_X4_shut_48, b_X4_shut_48, bk_X4_shut_48, g_X4_shut_63, b_X4_shut_63, bk_X4_shut_63, g_X4_shut_89, bk_X4_shut_89, g_X4_shut_90, b_X4_shut_90, bk_X4_shut_90, g_X4_shut_122, bk_X4_shut_122, g_X4_shut_128, bk_X4_shut_128, g_X4_shut_134, bk_X4_shut_134, t_X4_shut_8_29, t_X4_shut_17_29, t_X4_shut_26_36, t_X4_shut_57_134, t_X4_shut_74_128, t_X4_shut_82_89, t_X4_shut_86_90, t_X4_shut_94_122, t_X4_shut_104_122, t_X4_shut_116_122, t_X4_shut_125_63, t_X4_shut_131_48, x_X4_shut_g12, x_X4_shut_g115, x_X4_shut_c49, x_X4_shut_c150, x_X4_shut_v73, x_X4_shut_v50, x_X4_shut_v135, x_X4_shut_v159, x_X4_shut_v45, x_X4_shut_v154, f_X4_isWithin, f_X4_found, f_X1_isThere, q00, q01, q02, s1, s2, s3, r3, r14, r15, r16, s12, s13, r134, r135, s14, s15, r15a, hsz, f_X1_closed]
  refine ⟨LB1, fun z => ⟨fun z2 => ⟨fun z3 => ?_, fun z3 => ?_⟩, fun z2 => ?_⟩, fun z => ?_⟩
  · obtain ⟨c', hc', hc8, ec⟩ := th_i hW z
    obtain ⟨n', hn', en⟩ := wi_nI (k := 20) (by omega) z3
    rw [if_pos (th_t z), if_pos (wi_t z2), if_pos (wi_t z3), ec, en, cl_nIs hc8, nI_clamp (by omega)] at h
    exact ⟨LB1, s, hR, hW, key c' n' hc' ec (by omega) en h (sn s + 1) 0 _ _ μ (by omega) (Fr_rf 13 μ) (Or.inl rfl) (fun t' _ _ _ => Nat.zero_le _)⟩
  · rw [if_pos (th_t z), if_pos (wi_t z2), wi_f z3, if_neg (by decide)] at h
    exact oX_g h (by omega) hR (FrX_rf μ) (by decide)
  · rw [if_pos (th_t z), wi_f z2, if_neg (by decide)] at h
    exact oX_g h (by omega) hR (FrX_rf μ) (by decide)
  · rw [th_f z, if_neg (by decide)] at h
    exact oX_g h (by omega) hR (FrX_rf μ) (by decide)
theorem ok_X4_shut : am_OK (⟨"CarpetLane", "shut", "(III)I"⟩ : MethodName) prog_1_method_22_code 8 (some .int) rm_X4_shut sp_X4_shut := am_mok (cd := cd_X4_shut) E_X4_shut (by decide +kernel) rfl eo_X4_shut (by decide +kernel) (by decide +kernel) (q_RIII_h (by decide)) (q_RIII_b bd_X4_shut)
