/-! ===== the model: words and numbers ===== -/
def bv (T : Nat → Nat) (i : Nat) : Nat → Nat
  | 0 => 0
  | k + 1 => bv T i k * 27 + (T (i + k) - 96)
def ltr (T : Nat → Nat) (i k : Nat) : Prop := ∀ j, j < k → 97 ≤ T (i + j) ∧ T (i + j) ≤ 122
theorem bv_lt {T : Nat → Nat} {i : Nat} : ∀ k, ltr T i k → bv T i k < 27 ^ k
  | 0, _ => Nat.zero_lt_one
  | k + 1, h => by
    have h1 := bv_lt k (fun j hj => h j (by omega))
    have h2 := h k (by omega)
    show bv T i k * 27 + (T (i + k) - 96) < 27 ^ (k + 1)
    rw [Nat.pow_succ]
    generalize 27 ^ k = p at h1 ⊢
    omega
theorem bv_ge {T : Nat → Nat} {i : Nat} : ∀ k, ltr T i (k + 1) → 27 ^ k ≤ bv T i (k + 1)
  | 0, h => by
    have h2 := h 0 (by omega)
    show 1 ≤ 0 * 27 + (T (i + 0) - 96)
    omega
  | k + 1, h => by
    have h1 := bv_ge k (fun j hj => h j (by omega))
    show 27 ^ (k + 1) ≤ bv T i (k + 1) * 27 + (T (i + (k + 1)) - 96)
    rw [Nat.pow_succ]
    generalize 27 ^ k = p at h1 ⊢
    omega
theorem bv_inj {T U : Nat → Nat} {i i' : Nat} : ∀ k m, ltr T i k → ltr U i' m → bv T i k = bv U i' m → k = m ∧ ∀ j, j < k → T (i + j) = U (i' + j)
  | 0, 0, _, _, _ => ⟨rfl, fun j hj => by omega⟩
  | 0, m + 1, _, h2, e => by
    exfalso
    have a := h2 m (by omega)
    have e : 0 = bv U i' m * 27 + (U (i' + m) - 96) := e
    omega
  | k + 1, 0, h1, _, e => by
    exfalso
    have a := h1 k (by omega)
    have e : bv T i k * 27 + (T (i + k) - 96) = 0 := e
    omega
  | k + 1, m + 1, h1, h2, e => by
    have a := h1 k (by omega)
    have b := h2 m (by omega)
    have e : bv T i k * 27 + (T (i + k) - 96) = bv U i' m * 27 + (U (i' + m) - 96) := e
    have d : T (i + k) = U (i' + m) := by omega
    have q : bv T i k = bv U i' m := by omega
    obtain ⟨km, hj⟩ := bv_inj k m (fun j hj => h1 j (by omega)) (fun j hj => h2 j (by omega)) q
    subst km
    refine ⟨rfl, fun j hj2 => ?_⟩
    by_cases e2 : j = k
    · subst e2; exact d
    · exact hj j (by omega)
theorem bv_congr {T U : Nat → Nat} {i i' : Nat} : ∀ k, (∀ j, j < k → T (i + j) = U (i' + j)) → bv T i k = bv U i' k
  | 0, _ => rfl
  | k + 1, h => by
    show bv T i k * 27 + (T (i + k) - 96) = bv U i' k * 27 + (U (i' + k) - 96)
    rw [bv_congr k (fun j hj => h j (by omega)), h k (by omega)]
theorem fld_bv {T : Nat → Nat} {i : Nat} : ∀ k, k ≤ 9 → ltr T i k → fld st27 T k i 0 = bv T i k
  | 0, _, _ => rfl
  | k + 1, hk, h => by
    have hl : ltr T i k := fun j hj => h j (by omega)
    have h1 := bv_lt k hl
    have h2 : 27 ^ k ≤ 282429536481 := Nat.le_trans (Nat.pow_le_pow_right (by omega) (show k ≤ 8 by omega)) (by decide)
    rw [fld_s, fld_bv k (by omega) hl]
    unfold st27
    rw [if_neg (by omega)]
    rfl
theorem fld_mono (T : Nat → Nat) (i k : Nat) : ∀ m, fld st27 T k i 0 ≤ fld st27 T (k + m) i 0
  | 0 => Nat.le_refl _
  | m + 1 => by
    refine Nat.le_trans (fld_mono T i k m) ?_
    show _ ≤ fld st27 T ((k + m) + 1) i 0
    rw [fld_s]
    generalize fld st27 T (k + m) i 0 = a
    unfold st27
    split <;> omega
theorem ch_ltr {i : Nat} (hi : i < 13) : ltr (chN i) 0 (sl i) := fun j hj => by
  rw [Nat.zero_add]
  exact (ch_ok hi hj).2
theorem bv_w {i : Nat} (hi : i < 13) : bv (chN i) 0 (sl i) < 387420489 := by
  have h1 := bv_lt _ (ch_ltr hi)
  have h2 : 27 ^ sl i ≤ 387420489 := Nat.le_trans (Nat.pow_le_pow_right (by omega) (sl_le hi)) (by decide)
  omega
def tkL (T : Nat → Nat) (t : tK) : Prop := t.1 = 1 → ltr T t.2.1 (t.2.2.1 - t.2.1)
theorem wd_iff {T : Nat → Nat} {t : tK} {i : Nat} (hi : i < 13) (h1 : t.1 = 1) (hL : tkL T t) : bv (chN i) 0 (sl i) = wdv T t ↔ isWB T t i = true := by
  have hL := hL h1
  have h6 := sl_le hi
  rw [isWB_iff]
  unfold wdv isW
  constructor
  · intro e
    rcases Nat.lt_or_ge (t.2.2.1 - t.2.1) 10 with q | q
    · rw [fld_bv _ (by omega) hL] at e
      obtain ⟨e1, e2⟩ := bv_inj _ _ hL (ch_ltr hi) e.symm
      refine ⟨h1, e1, fun j hj => ?_⟩
      have := e2 j (by omega)
      rw [Nat.zero_add] at this
      exact this
    · exfalso
      have hl7 : ltr T t.2.1 7 := fun j hj => hL j (by omega)
      have a1 := fld_mono T t.2.1 7 (t.2.2.1 - t.2.1 - 7)
      have a2 : 7 + (t.2.2.1 - t.2.1 - 7) = t.2.2.1 - t.2.1 := by omega
      rw [a2, fld_bv 7 (by omega) hl7, ← e] at a1
      have a3 := bv_ge 6 hl7
      have a5 := bv_w hi
      have a6 : 387420489 ≤ bv T t.2.1 (6 + 1) := Nat.le_trans (by decide) a3
      exact absurd (Nat.lt_of_le_of_lt (Nat.le_trans a6 a1) a5) (Nat.lt_irrefl _)
  · rintro ⟨-, e1, e2⟩
    rw [e1, fld_bv _ (by omega) (fun j hj => hL j (by omega))]
    exact (bv_congr _ (fun j hj => by rw [Nat.zero_add]; exact e2 j hj)).symm
theorem wdv_b {T : Nat → Nat} {t : tK} (h1 : t.1 = 1) (hL : tkL T t) : wdv T t ≤ 1000000000000000 := by
  have hL := hL h1
  refine fld_b (fun _ _ a b => st27_b a b) _ _ _ (by omega) (fun j a b => ?_)
  have := hL (j - t.2.1) (by omega)
  have e : t.2.1 + (j - t.2.1) = j := by omega
  rw [e] at this
  omega
theorem tok_L {T : Nat → Nat} {n a : Nat} (ha : a ≤ n) : tkL T (tok T n a) := by
  unfold tok
  have h1 := skp_le T n 120 a ha
  generalize skp T n 120 a = p at h1 ⊢
  unfold tkF
  split
  · split
    · intro _ j hj
      exact rnn_in T n 97 122 120 p (p + j) (by omega) (by have hj : j < rnn T n 97 122 120 p - p := hj; omega)
    · split
      · intro q; exact absurd q (by show ¬ (2 : Nat) = 1; omega)
      · intro q
        have q : (if T p = 59 then 3 else 4) = 1 := q
        split at q <;> omega
  · intro q; exact absurd q (by show ¬ (0 : Nat) = 1; omega)
def WA (a o N : Nat) : Prop := (a = 55 ∧ o = 0 ∧ N = 7) ∨ (a = 56 ∧ o = 7 ∧ N = 4) ∨ (a = 57 ∧ o = 11 ∧ N = 2)
theorem WA_f {a o N : Nat} (h : WA a o N) : am_sh a = (12, 9 * N) ∧ N ≤ 7 ∧ o + N ≤ 13 := by
  rcases h with ⟨rfl, rfl, rfl⟩ | ⟨rfl, rfl, rfl⟩ | ⟨rfl, rfl, rfl⟩ <;> exact ⟨by decide, by decide, by decide⟩
/-- the model's words -/
def LTR (μ : am_M) : Prop := ∀ a o N, WA a o N → ∀ w, w < N → ∀ j, j < 9 → μ.1 a (9 * w + j) = nI (if j < sl (o + w) then chN (o + w) j else 32)
def wof (T : Nat → Nat) (t : tK) (o : Nat) : Nat → Int32
  | 0 => -1
  | w + 1 => if isWB T t (o + w) = true then nI w else wof T t o w
theorem isWB_1 {T : Nat → Nat} {t : tK} {i : Nat} (h : isWB T t i = true) : t.1 = 1 := (isWB_iff.mp h).1
theorem wof_n {T : Nat → Nat} {t : tK} {o : Nat} (h : ¬ t.1 = 1) : ∀ w, wof T t o w = -1
  | 0 => rfl
  | w + 1 => by
    unfold wof
    rw [if_neg (fun q => h (isWB_1 q))]
    exact wof_n h w
theorem isWB_u {T : Nat → Nat} {t : tK} {i j : Nat} (hi : i < 13) (hj : j < 13) (h1 : isWB T t i = true) (h2 : isWB T t j = true) : i = j := by
  have key : ∀ i, i < 13 → ∀ j, j < 13 → sl i = sl j → (∀ q, q < sl i → chN i q = chN j q) → i = j := by decide +kernel
  obtain ⟨a1, a2, a3⟩ := isWB_iff.mp h1
  obtain ⟨b1, b2, b3⟩ := isWB_iff.mp h2
  exact key i hi j hj (by omega) (fun q hq => by rw [← a3 q hq, b3 q (by omega)])
theorem wof_y {T : Nat → Nat} {t : tK} {o w : Nat} (h : isWB T t (o + w) = true) : ∀ N, o + N ≤ 13 → w < N → wof T t o N = nI w
  | 0, _, q => by omega
  | N + 1, h13, q => by
    unfold wof
    by_cases e : isWB T t (o + N) = true
    · rw [if_pos e]
      have := isWB_u (by omega) (by omega) h e
      congr 1
      omega
    · rw [if_neg e]
      refine wof_y h N (by omega) ?_
      rcases Nat.lt_or_ge w N with z | z
      · exact z
      · have : w = N := by omega
        rw [this] at h
        exact absurd h e
theorem wof_no {T : Nat → Nat} {t : tK} {o : Nat} : ∀ N, (∀ w, w < N → ¬ isWB T t (o + w) = true) → wof T t o N = -1
  | 0, _ => rfl
  | N + 1, h => by
    unfold wof
    rw [if_neg (h N (by omega))]
    exact wof_no N (fun w hw => h w (by omega))
theorem wof_iff {T : Nat → Nat} {t : tK} {o w N : Nat} (h13 : o + N ≤ 13) (hw : w < N) : wof T t o N = nI w ↔ isWB T t (o + w) = true := by
  constructor
  · intro e
    by_cases q : ∃ v, v < N ∧ isWB T t (o + v) = true
    · obtain ⟨v, hv, h⟩ := q
      rw [wof_y h N h13 hv] at e
      have : v = w := (nI_eq (by omega) (by omega)).mp e
      rw [← this]; exact h
    · rw [wof_no N (fun v hv h => q ⟨v, hv, h⟩)] at e
      exfalso
      have : nI w < 0 := by rw [← e]; decide
      exact nI_pos (by omega) this
  · intro h
    exact wof_y h N h13 hw
theorem tkk_1 {t : tK} (h : t.1 < 5) : nI (tkk t) = 1 ↔ t.1 = 1 := by
  have hb : tkk t < 5 := by unfold tkk; split <;> omega
  rw [show (1 : Int32) = nI 1 from rfl, nI_eq (by omega) (by omega)]
  unfold tkk
  split
  · omega
  · exact Iff.rfl
theorem aln12 {k n : Nat} (h : am_sh k = (12, n)) (μ : am_M) (nx : Int32 → Prop) : am_aln μ k nx = nx (nI n) := by
  unfold am_aln
  rw [h]
  simp
def f_X5_wordOf (k a : Nat) (μ : am_M) (Q : am_Q) : Prop := k = 49 ∧ ∃ T t o N, WA a o N ∧ LTR μ ∧ TKM μ T t ∧ tkL T t ∧ t.1 < 5 ∧ Q (some (.int (wof T t o N))) μ
def sp_X5_wordOf : am_Sp := q_RR f_X5_wordOf
def bk_X5_wordOf_0 : List Instr := [.iconst (-1), .istore_n 2, .iconst 0, .istore_n 3]
def bk_X5_wordOf_4 : List Instr := [.iload_n 3, .aload_n 1, .arraylength, .bipush 9, .idiv, .if_icmp .ge 94, .aload_n 0, .getfield 194, .iconst 1, .if_icmp .ne 86, .lconst 0, .lstore 4, .iconst 0, .istore 6]
def bk_X5_wordOf_27 : List Instr := [.iload 6, .bipush 9, .if_icmp .ge 51, .aload_n 1, .bipush 9, .iload_n 3, .imul, .iload 6, .iadd, .caload, .bipush 32, .if_icmp .ne 8, .lload 4, .goto 24]
def bk_X5_wordOf_53 : List Instr := [.lload 4, .ldc2_w 202, .lmul, .aload_n 1, .bipush 9, .iload_n 3, .imul, .iload 6, .iadd, .caload, .i2l, .ladd, .ldc2_w 204, .lsub]
def bk_X5_wordOf_74 : List Instr := [.lstore 4, .iinc 6 1, .goto (-52)]
def bk_X5_wordOf_82 : List Instr := [.lload 4, .aload_n 0, .getfield 190, .lcmp, .ifCond .ne 7, .iload_n 3, .goto 4]
def bk_X5_wordOf_96 : List Instr := [.iload_n 2]
def bk_X5_wordOf_97 : List Instr := [.istore_n 2, .iinc 3 1, .goto (-97)]
def bk_X5_wordOf_104 : List Instr := [.iload_n 2, .ireturn]
def cd_X5_wordOf : am_cd := [(0, bk_X5_wordOf_0), (4, bk_X5_wordOf_4), (27, bk_X5_wordOf_27), (53, bk_X5_wordOf_53), (74, bk_X5_wordOf_74), (82, bk_X5_wordOf_82), (96, bk_X5_wordOf_96), (97, bk_X5_wordOf_97), (104, bk_X5_wordOf_104)]
def E_X5_wordOf : am_E := (7, .int, [(194, 5, 7), (190, 5, 10)], [(202, .long 27), (204, .long 96)], [], [], [], [])
theorem n_X5_wordOf : am_nL E_X5_wordOf = 7 := Eq.trans rfl rfl
theorem r_X5_wordOf : am_rt E_X5_wordOf = .int := Eq.trans rfl rfl
theorem g_X5_wordOf_0 {At : am_J} {Q : am_Q} {n : Nat} {L S : List Value} {μ : am_M} : am_go E_X5_wordOf cd_X5_wordOf [4, 27] At Q (n + 1) 0 L S μ = am_blk E_X5_wordOf (am_go E_X5_wordOf cd_X5_wordOf [4, 27] At Q n) Q bk_X5_wordOf_0 0 L S μ := Eq.trans rfl rfl
theorem b_X5_wordOf_0 {gt : am_J} {Q : am_Q} {L S : List Value} {μ : am_M} : am_blk E_X5_wordOf gt Q (am_lk [] cd_X5_wordOf 0) 0 L S μ = am_blk E_X5_wordOf gt Q bk_X5_wordOf_0 0 L S μ := Eq.trans rfl rfl
theorem g_X5_wordOf_4 {At : am_J} {Q : am_Q} {n : Nat} {L S : List Value} {μ : am_M} : am_go E_X5_wordOf cd_X5_wordOf [4, 27] At Q (n + 1) 4 L S μ = At 4 L S μ := Eq.trans rfl rfl
theorem b_X5_wordOf_4 {gt : am_J} {Q : am_Q} {L S : List Value} {μ : am_M} : am_blk E_X5_wordOf gt Q (am_lk [] cd_X5_wordOf 4) 4 L S μ = am_blk E_X5_wordOf gt Q bk_X5_wordOf_4 4 L S μ := Eq.trans rfl rfl
theorem g_X5_wordOf_27 {At : am_J} {Q : am_Q} {n : Nat} {L S : List Value} {μ : am_M} : am_go E_X5_wordOf cd_X5_wordOf [4, 27] At Q (n + 1) 27 L S μ = At 27 L S μ := Eq.trans rfl rfl
theorem b_X5_wordOf_27 {gt : am_J} {Q : am_Q} {L S : List Value} {μ : am_M} : am_blk E_X5_wordOf gt Q (am_lk [] cd_X5_wordOf 27) 27 L S μ = am_blk E_X5_wordOf gt Q bk_X5_wordOf_27 27 L S μ := Eq.trans rfl rfl
theorem g_X5_wordOf_53 {At : am_J} {Q : am_Q} {n : Nat} {L S : List Value} {μ : am_M} : am_go E_X5_wordOf cd_X5_wordOf [4, 27] At Q (n + 1) 53 L S μ = am_blk E_X5_wordOf (am_go E_X5_wordOf cd_X5_wordOf [4, 27] At Q n) Q bk_X5_wordOf_53 53 L S μ := Eq.trans rfl rfl
theorem g_X5_wordOf_74 {At : am_J} {Q : am_Q} {n : Nat} {L S : List Value} {μ : am_M} : am_go E_X5_wordOf cd_X5_wordOf [4, 27] At Q (n + 1) 74 L S μ = am_blk E_X5_wordOf (am_go E_X5_wordOf cd_X5_wordOf [4, 27] At Q n) Q bk_X5_wordOf_74 74 L S μ := Eq.trans rfl rfl
theorem g_X5_wordOf_82 {At : am_J} {Q : am_Q} {n : Nat} {L S : List Value} {μ : am_M} : am_go E_X5_wordOf cd_X5_wordOf [4, 27] At Q (n + 1) 82 L S μ = am_blk E_X5_wordOf (am_go E_X5_wordOf cd_X5_wordOf [4, 27] At Q n) Q bk_X5_wordOf_82 82 L S μ := Eq.trans rfl rfl
theorem g_X5_wordOf_96 {At : am_J} {Q : am_Q} {n : Nat} {L S : List Value} {μ : am_M} : am_go E_X5_wordOf cd_X5_wordOf [4, 27] At Q (n + 1) 96 L S μ = am_blk E_X5_wordOf (am_go E_X5_wordOf cd_X5_wordOf [4, 27] At Q n) Q bk_X5_wordOf_96 96 L S μ := Eq.trans rfl rfl
theorem g_X5_wordOf_97 {At : am_J} {Q : am_Q} {n : Nat} {L S : List Value} {μ : am_M} : am_go E_X5_wordOf cd_X5_wordOf [4, 27] At Q (n + 1) 97 L S μ = am_blk E_X5_wordOf (am_go E_X5_wordOf cd_X5_wordOf [4, 27] At Q n) Q bk_X5_wordOf_97 97 L S μ := Eq.trans rfl rfl
theorem g_X5_wordOf_104 {At : am_J} {Q : am_Q} {n : Nat} {L S : List Value} {μ : am_M} : am_go E_X5_wordOf cd_X5_wordOf [4, 27] At Q (n + 1) 104 L S μ = am_blk E_X5_wordOf (am_go E_X5_wordOf cd_X5_wordOf [4, 27] At Q n) Q bk_X5_wordOf_104 104 L S μ := Eq.trans rfl rfl
theorem t_X5_wordOf_10_104 : am_tg 10 94 = 104 := Eq.trans rfl rfl
theorem t_X5_wordOf_18_104 : am_tg 18 86 = 104 := Eq.trans rfl rfl
theorem t_X5_wordOf_31_82 : am_tg 31 51 = 82 := Eq.trans rfl rfl
theorem t_X5_wordOf_45_53 : am_tg 45 8 = 53 := Eq.trans rfl rfl
theorem t_X5_wordOf_50_74 : am_tg 50 24 = 74 := Eq.trans rfl rfl
theorem t_X5_wordOf_79_27 : am_tg 79 (-52) = 27 := Eq.trans rfl rfl
theorem t_X5_wordOf_89_96 : am_tg 89 7 = 96 := Eq.trans rfl rfl
theorem t_X5_wordOf_93_97 : am_tg 93 4 = 97 := Eq.trans rfl rfl
theorem t_X5_wordOf_101_4 : am_tg 101 (-97) = 4 := Eq.trans rfl rfl
theorem x_X5_wordOf_g194 {pc : Nat} {L S : List Value} {μ : am_M} {nx : am_K} {jp : am_J} {Q : am_Q} {k : Nat} : am_st E_X5_wordOf pc (.getfield 194) L (.ref k :: S) μ nx jp Q = (am_sh k = (5, 0) ∧ nx L (.int (μ.1 k 7) :: S) μ) := Eq.trans rfl rfl
theorem x_X5_wordOf_g190 {pc : Nat} {L S : List Value} {μ : am_M} {nx : am_K} {jp : am_J} {Q : am_Q} {k : Nat} : am_st E_X5_wordOf pc (.getfield 190) L (.ref k :: S) μ nx jp Q = (am_sh k = (5, 0) ∧ nx L (.long μ.2 :: S) μ) := Eq.trans rfl rfl
theorem x_X5_wordOf_c202 {pc : Nat} {L S : List Value} {μ : am_M} {nx : am_K} {jp : am_J} {Q : am_Q} : am_st E_X5_wordOf pc (.ldc2_w 202) L S μ nx jp Q = nx L (.long 27 :: S) μ := Eq.trans rfl rfl
theorem x_X5_wordOf_c204 {pc : Nat} {L S : List Value} {μ : am_M} {nx : am_K} {jp : am_J} {Q : am_Q} : am_st E_X5_wordOf pc (.ldc2_w 204) L S μ nx jp Q = nx L (.long 96 :: S) μ := Eq.trans rfl rfl
def rm_X5_wordOf : Room := { frames := 0, cells := 0, slots := 0, locals := 0 }
theorem eo_X5_wordOf : am_EO "CarpetLaneModel" rm_X5_wordOf E_X5_wordOf := ⟨(List.forall_mem_cons.mpr ⟨Or.inl ⟨_, rfl, by decide, am_in 764 (by decide +kernel) (by decide +kernel), by decide⟩, (List.forall_mem_cons.mpr ⟨Or.inl ⟨_, rfl, by decide, am_in 767 (by decide +kernel) (by decide +kernel), by decide⟩, (fun _ h => absurd h List.not_mem_nil)⟩)⟩), (List.forall_mem_cons.mpr ⟨am_in 1093 (by decide +kernel) (by decide +kernel), (List.forall_mem_cons.mpr ⟨am_in 1094 (by decide +kernel) (by decide +kernel), (fun _ h => absurd h List.not_mem_nil)⟩)⟩), (fun _ h => absurd h List.not_mem_nil), (fun _ h => absurd h List.not_mem_nil), (fun _ h => absurd h List.not_mem_nil), (fun _ h => absurd h List.not_mem_nil)⟩
theorem wv_X5_wordOf : am_WV (⟨"CarpetLaneModel", "wordOf", "([C)I"⟩ : MethodName) prog_7_method_73_code 7 (some .int) 1 5 := ⟨am_in 64 (by decide +kernel) (by decide +kernel), am_in 1108 (by decide +kernel) (by decide +kernel), by decide +kernel, rfl, by decide, am_in 1107 (by decide +kernel) (by decide +kernel), am_in 54 (by decide +kernel) (by decide +kernel)⟩
theorem bd_X5_wordOf (k : Nat) (a : Nat) (μ : am_M) (Q : am_Q) (At : am_J) (hA : am_ok E_X5_wordOf cd_X5_wordOf Q At) (h : f_X5_wordOf k a μ Q) : At 0 (am_en [.ref k, .ref a] 7) [] μ := by
  obtain ⟨rfl, T, t, o, N, hWA, hLT, hK, hL, h5, h⟩ := h
  obtain ⟨ha, hN7, hN13⟩ := WA_f hWA
  have hLT := hLT a o N hWA
  have h12 : (am_sh a).1 = 12 := by rw [ha]
  have h9 : (am_sh a).2 = 9 * N := by rw [ha]
  have ed : nI (9 * N) / 9 = nI N := by
    rw [show (9 : Int32) = nI 9 from rfl, nI_div (by omega) (by omega) (by omega)]
    congr 1
    omega
  have e7 := hK.1
  have A4 : ∀ (u w : Nat) (d4 d5 d6 : Value), w + u = N → At 4 [.ref 49, .ref a, .int (wof T t o w), .int (nI w), d4, d5, d6] [] μ := by
    intro u
    induction u with
    | zero =>
      intro w d4 d5 d6 hw
      have : w = N := by omega
      subst this
      refine hA [4, 27] 60 4 _ _ _ ?_
      simp only [s_aload_0, s_iload_0, s_lload_0, s_istore_0, s_lstore_0, s_astore_0, s_aload_1, s_iload_1, s_lload_1, s_istore_1, s_lstore_1, s_astore_1, s_aload_2, s_iload_2, s_lload_2, s_istore_2, s_lstore_2, s_astore_2, s_aload_3, s_iload_3, s_lload_3, s_istore_3, s_lstore_3, s_astore_3, s_aload, s_iload, s_lload, s_istore, s_lstore, s_astore, s_iconst, s_bipush, s_sipush, s_lconst_0, s_lconst_1, s_iinc, s_iadd, s_isub, s_imul, s_iand, s_ior, s_ixor, s_ishl, s_ishr, s_iushr, s_idiv, s_irem, s_ladd, s_lsub, s_lmul, s_ldiv, s_lrem, s_lcmp, s_i2l, s_l2i, s_i2b, s_i2s, s_i2c, s_dupI, s_dupR, s_dup2IR, s_dupx1, s_popI, s_if_eq, s_if_ne, s_if_lt, s_if_ge, s_if_gt, s_if_le, s_cmp_eq, s_cmp_ne, s_cmp_lt, s_cmp_ge, s_cmp_gt, s_cmp_le, s_goto, s_tsw, s_iaload, s_baload, s_caload, s_aaload, s_iastore, s_bastore, s_alen, s_ireturn, s_lreturn, s_return, am_lI_0, am_lI_S, am_lL_0, am_lL_S, am_lR_0, am_lR_S, am_sto_0, am_sto_1I, am_sto_1R, am_sto_1N, am_sto_1L, am_sto_S, am_stL_d, am_blk_0, am_blk_1, am_ln_aload_n, am_ln_iload_n, am_ln_lload_n, am_ln_istore_n, am_ln_lstore_n, am_ln_astore_n, am_ln_iconst, am_ln_lconst, am_ln_iadd, am_ln_isub, am_ln_imul, am_ln_idiv, am_ln_irem, am_ln_iand, am_ln_ior, am_ln_ixor, am_ln_ishl, am_ln_ishr, am_ln_iushr, am_ln_ladd, am_ln_lsub, am_ln_lmul, am_ln_ldiv, am_ln_lrem, am_ln_lcmp, am_ln_i2l, am_ln_l2i, am_ln_i2b, am_ln_i2s, am_ln_i2c, am_ln_dup, am_ln_dup2, am_ln_dup_x1, am_ln_pop, am_ln_iaload, am_ln_iastore, am_ln_baload, am_ln_bastore, am_ln_caload, am_ln_aaload, am_ln_arraylength, am_ln_ireturn, am_ln_lreturn, am_ln_return_, am_ln_aload, am_ln_iload, am_ln_lload, am_ln_istore, am_ln_lstore, am_ln_astore, am_ln_bipush, am_ln_ldc, am_ln_sipush, am_ln_ldc_w, am_ln_ldc2_w, am_ln_iinc, am_ln_ifCond, am_ln_if_icmp, am_ln_goto, am_ln_getfield, am_ln_putfield, am_ln_getstatic, am_ln_invokevirtual, am_ln_invokestatic, am_csum_0, am_csum_I, am_csum_R, am_csum_L, k_im16, k_im8, k_im4, k_im2, k_im1, k_i0, k_i1, k_i2, k_i3, k_i4, k_i5, k_i6, k_i7, k_i8, k_i9, k_i10, k_i11, k_i12, k_i13, k_i14, k_i15, k_i16, k_i17, k_i18, k_i19, k_i20, k_i21, k_i22, k_i23, k_i24, k_i25, k_i26, k_i27, k_i28, k_i29, k_i30, k_i31, k_i32, k_i33, k_i34, k_i35, k_i36, k_i37, k_i38, k_i39, k_i40, k_i41, k_b6, k_b7, k_b8, k_b9, k_b10, k_b11, k_b12, k_b13, k_b14, k_b15, k_b16, k_b17, k_b18, k_b19, k_b20, k_b21, k_b22, k_b23, k_b24, k_b25, k_b26, k_b27, k_b28, k_b29, k_b30, k_b31, k_b32, k_b33, k_b34, k_b35, k_b36, k_b37, k_b38, k_b39, k_b40, k_b41, k_b42, k_b43, k_b44, k_b45, k_b46, k_b47, k_b48, k_b49, k_b50, k_b51, k_b52, k_b53, k_b54, k_b55, k_b56, k_b57, k_b58, k_b59, k_b60, k_b61, k_b62, k_b63, k_b66, k_b76, k_b97, k_b98, k_b99, k_b100, k_b101, k_b102, k_b103, k_b104, k_b105, k_b107, k_b108, k_b109, k_b110, k_b112, k_b114, k_b115, k_b116, k_b117, k_b120, k_b121, k_b122, k_s160, k_s200, k_s255, k_s256, k_s999, k_s2048, k_s4095, k_s9999, k_s10000, k_s12345, k_narI, k_narZ0, k_narZ1, k_ffalse, k_ts0, k_ts1, k_tw0, k_tw1, k_rt, k_rn, Nat.reduceAdd, Nat.zero_add, Nat.reduceLeDiff, Nat.reduceLT, Int.reduceAdd, Int.zero_add, true_and, and_true, List.set_cons_zero, List.set_cons_succ, eq_self, k_n2, k_n3, k_n4, k_n5, k_n6, k_n7, k_n8, k_n9, k_n10, k_n12, k_nn, true_or, or_true, false_or, or_false, k_z10, not_false_eq_true, not_true_eq_false, true_imp_iff, false_imp_iff, n_X5_wordOf, r_X5_wordOf, g_X5_wordOf_0, b_X5_wordOf_0, bk_X5_wordOf_0, g_X5_wordOf_4, b_X5_wordOf_4, bk_X5_wordOf_4, g_X5_wordOf_27, b_X5_wordOf_27, bk_X5_wordOf_27, g_X5_wordOf_53, bk_X5_wordOf_53, g_X5_wordOf_74, bk_X5_wordOf_74, g_X5_wordOf_82, bk_X5_wordOf_82, g_X5_wordOf_96, bk_X5_wordOf_96, g_X5_wordOf_97, bk_X5_wordOf_97, g_X5_wordOf_104, bk_X5_wordOf_104, t_X5_wordOf_10_104, t_X5_wordOf_18_104, t_X5_wordOf_31_82, t_X5_wordOf_45_53, t_X5_wordOf_50_74, t_X5_wordOf_79_27, t_X5_wordOf_89_96, t_X5_wordOf_93_97, t_X5_wordOf_101_4, x_X5_wordOf_g194, x_X5_wordOf_g190, x_X5_wordOf_c202, x_X5_wordOf_c204, aln12 ha, ed, m49]
      exact ⟨fun _ => h, fun z => absurd (nI_le (Nat.le_refl _) (by omega)) z⟩
    | succ u ih =>
      intro w d4 d5 d6 hw
      have hi13 : o + w < 13 := by omega
      have hs6 := sl_le hi13
      have A27 : t.1 = 1 → ∀ (v j : Nat), j + v = 9 → At 27 [.ref 49, .ref a, .int (wof T t o w), .int (nI w), .long (lN (bv (chN (o + w)) 0 (min j (sl (o + w))))), .null, .int (nI j)] [] μ := by
        intro h1 v
        induction v with
        | zero =>
          intro j hj
          have : j = 9 := by omega
          subst this
          have em : min 9 (sl (o + w)) = sl (o + w) := by omega
          have ev := hK.2.2.2.2 h1
          have b1 := wdv_b h1 hL
          have b2 := bv_w hi13
          rw [em]
          refine hA [4, 27] 60 27 _ _ _ ?_
          simp only [s_aload_0, s_iload_0, s_lload_0, s_istore_0, s_lstore_0, s_astore_0, s_aload_1, s_iload_1, s_lload_1, s_istore_1, s_lstore_1, s_astore_1, s_aload_2, s_iload_2, s_lload_2, s_istore_2, s_lstore_2, s_astore_2, s_aload_3, s_iload_3, s_lload_3, s_istore_3, s_lstore_3, s_astore_3, s_aload, s_iload, s_lload, s_istore, s_lstore, s_astore, s_iconst, s_bipush, s_sipush, s_lconst_0, s_lconst_1, s_iinc, s_iadd, s_isub, s_imul, s_iand, s_ior, s_ixor, s_ishl, s_ishr, s_iushr, s_idiv, s_irem, s_ladd, s_lsub, s_lmul, s_ldiv, s_lrem, s_lcmp, s_i2l, s_l2i, s_i2b, s_i2s, s_i2c, s_dupI, s_dupR, s_dup2IR, s_dupx1, s_popI, s_if_eq, s_if_ne, s_if_lt, s_if_ge, s_if_gt, s_if_le, s_cmp_eq, s_cmp_ne, s_cmp_lt, s_cmp_ge, s_cmp_gt, s_cmp_le, s_goto, s_tsw, s_iaload, s_baload, s_caload, s_aaload, s_iastore, s_bastore, s_alen, s_ireturn, s_lreturn, s_return, am_lI_0, am_lI_S, am_lL_0, am_lL_S, am_lR_0, am_lR_S, am_sto_0, am_sto_1I, am_sto_1R, am_sto_1N, am_sto_1L, am_sto_S, am_stL_d, am_blk_0, am_blk_1, am_ln_aload_n, am_ln_iload_n, am_ln_lload_n, am_ln_istore_n, am_ln_lstore_n, am_ln_astore_n, am_ln_iconst, am_ln_lconst, am_ln_iadd, am_ln_isub, am_ln_imul, am_ln_idiv, am_ln_irem, am_ln_iand, am_ln_ior, am_ln_ixor, am_ln_ishl, am_ln_ishr, am_ln_iushr, am_ln_ladd, am_ln_lsub, am_ln_lmul, am_ln_ldiv, am_ln_lrem, am_ln_lcmp, am_ln_i2l, am_ln_l2i, am_ln_i2b, am_ln_i2s, am_ln_i2c, am_ln_dup, am_ln_dup2, am_ln_dup_x1, am_ln_pop, am_ln_iaload, am_ln_iastore, am_ln_baload, am_ln_bastore, am_ln_caload, am_ln_aaload, am_ln_arraylength, am_ln_ireturn, am_ln_lreturn, am_ln_return_, am_ln_aload, am_ln_iload, am_ln_lload, am_ln_istore, am_ln_lstore, am_ln_astore, am_ln_bipush, am_ln_ldc, am_ln_sipush, am_ln_ldc_w, am_ln_ldc2_w, am_ln_iinc, am_ln_ifCond, am_ln_if_icmp, am_ln_goto, am_ln_getfield, am_ln_putfield, am_ln_getstatic, am_ln_invokevirtual, am_ln_invokestatic, am_csum_0, am_csum_I, am_csum_R, am_csum_L, k_im16, k_im8, k_im4, k_im2, k_im1, k_i0, k_i1, k_i2, k_i3, k_i4, k_i5, k_i6, k_i7, k_i8, k_i9, k_i10, k_i11, k_i12, k_i13, k_i14, k_i15, k_i16, k_i17, k_i18, k_i19, k_i20, k_i21, k_i22, k_i23, k_i24, k_i25, k_i26, k_i27, k_i28, k_i29, k_i30, k_i31, k_i32, k_i33, k_i34, k_i35, k_i36, k_i37, k_i38, k_i39, k_i40, k_i41, k_b6, k_b7, k_b8, k_b9, k_b10, k_b11, k_b12, k_b13, k_b14, k_b15, k_b16, k_b17, k_b18, k_b19, k_b20, k_b21, k_b22, k_b23, k_b24, k_b25, k_b26, k_b27, k_b28, k_b29, k_b30, k_b31, k_b32, k_b33, k_b34, k_b35, k_b36, k_b37, k_b38, k_b39, k_b40, k_b41, k_b42, k_b43, k_b44, k_b45, k_b46, k_b47, k_b48, k_b49, k_b50, k_b51, k_b52, k_b53, k_b54, k_b55, k_b56, k_b57, k_b58, k_b59, k_b60, k_b61, k_b62, k_b63, k_b66, k_b76, k_b97, k_b98, k_b99, k_b100, k_b101, k_b102, k_b103, k_b104, k_b105, k_b107, k_b108, k_b109, k_b110, k_b112, k_b114, k_b115, k_b116, k_b117, k_b120, k_b121, k_b122, k_s160, k_s200, k_s255, k_s256, k_s999, k_s2048, k_s4095, k_s9999, k_s10000, k_s12345, k_narI, k_narZ0, k_narZ1, k_ffalse, k_ts0, k_ts1, k_tw0, k_tw1, k_rt, k_rn, Nat.reduceAdd, Nat.zero_add, Nat.reduceLeDiff, Nat.reduceLT, Int.reduceAdd, Int.zero_add, true_and, and_true, List.set_cons_zero, List.set_cons_succ, eq_self, k_n2, k_n3, k_n4, k_n5, k_n6, k_n7, k_n8, k_n9, k_n10, k_n12, k_nn, true_or, or_true, false_or, or_false, k_z10, not_false_eq_true, not_true_eq_false, true_imp_iff, false_imp_iff, n_X5_wordOf, r_X5_wordOf, g_X5_wordOf_0, b_X5_wordOf_0, bk_X5_wordOf_0, g_X5_wordOf_4, b_X5_wordOf_4, bk_X5_wordOf_4, g_X5_wordOf_27, b_X5_wordOf_27, bk_X5_wordOf_27, g_X5_wordOf_53, bk_X5_wordOf_53, g_X5_wordOf_74, bk_X5_wordOf_74, g_X5_wordOf_82, bk_X5_wordOf_82, g_X5_wordOf_96, bk_X5_wordOf_96, g_X5_wordOf_97, bk_X5_wordOf_97, g_X5_wordOf_104, bk_X5_wordOf_104, t_X5_wordOf_10_104, t_X5_wordOf_18_104, t_X5_wordOf_31_82, t_X5_wordOf_45_53, t_X5_wordOf_50_74, t_X5_wordOf_79_27, t_X5_wordOf_89_96, t_X5_wordOf_93_97, t_X5_wordOf_101_4, x_X5_wordOf_g194, x_X5_wordOf_g190, x_X5_wordOf_c202, x_X5_wordOf_c204, ev, lg_cmp_eq, nI_1, m49]
          refine ⟨fun _ => ⟨fun z => ?_, fun z => ?_⟩, fun z => absurd (by decide) z⟩
          · have q : ¬ isWB T t (o + w) = true := fun q => z ((pk_lEQ (by omega) (by omega)).mpr ((wd_iff hi13 h1 hL).mpr q))
            have := ih (w + 1) (.long (lN (bv (chN (o + w)) 0 (sl (o + w))))) .null (.int 9) (by omega)
            have e : wof T t o (w + 1) = wof T t o w := by conv => lhs; unfold wof
                                                           rw [if_neg q]
            rw [e] at this
            exact this
          · have q : isWB T t (o + w) = true := (wd_iff hi13 h1 hL).mp ((pk_lEQ (by omega) (by omega)).mp z)
            have := ih (w + 1) (.long (lN (bv (chN (o + w)) 0 (sl (o + w))))) .null (.int 9) (by omega)
            have e : wof T t o (w + 1) = nI w := by conv => lhs; unfold wof
                                                    rw [if_pos q]
            rw [e] at this
            exact this
        | succ v ihv =>
          intro j hj
          have IH := ihv (j + 1) (by omega)
          have hin : vp_in (nI (9 * w + j)) (9 * N) := vp_in_nI (by omega) (by omega)
          have hcl : (nI (9 * w + j)).toNatClampNeg = 9 * w + j := nI_clamp (by omega)
          have ei : (9 : Int32) * nI w + nI j = nI (9 * w + j) := by rw [show (9 : Int32) = nI 9 from rfl, nI_mul, nI_add]
          have ec := hLT w (by omega) j (by omega)
          refine hA [4, 27] 60 27 _ _ _ ?_
          simp only [s_aload_0, s_iload_0, s_lload_0, s_istore_0, s_lstore_0, s_astore_0, s_aload_1, s_iload_1, s_lload_1, s_istore_1, s_lstore_1, s_astore_1, s_aload_2, s_iload_2, s_lload_2, s_istore_2, s_lstore_2, s_astore_2, s_aload_3, s_iload_3, s_lload_3, s_istore_3, s_lstore_3, s_astore_3, s_aload, s_iload, s_lload, s_istore, s_lstore, s_astore, s_iconst, s_bipush, s_sipush, s_lconst_0, s_lconst_1, s_iinc, s_iadd, s_isub, s_imul, s_iand, s_ior, s_ixor, s_ishl, s_ishr, s_iushr, s_idiv, s_irem, s_ladd, s_lsub, s_lmul, s_ldiv, s_lrem, s_lcmp, s_i2l, s_l2i, s_i2b, s_i2s, s_i2c, s_dupI, s_dupR, s_dup2IR, s_dupx1, s_popI, s_if_eq, s_if_ne, s_if_lt, s_if_ge, s_if_gt, s_if_le, s_cmp_eq, s_cmp_ne, s_cmp_lt, s_cmp_ge, s_cmp_gt, s_cmp_le, s_goto, s_tsw, s_iaload, s_baload, s_caload, s_aaload, s_iastore, s_bastore, s_alen, s_ireturn, s_lreturn, s_return, am_lI_0, am_lI_S, am_lL_0, am_lL_S, am_lR_0, am_lR_S, am_sto_0, am_sto_1I, am_sto_1R, am_sto_1N, am_sto_1L, am_sto_S, am_stL_d, am_blk_0, am_blk_1, am_ln_aload_n, am_ln_iload_n, am_ln_lload_n, am_ln_istore_n, am_ln_lstore_n, am_ln_astore_n, am_ln_iconst, am_ln_lconst, am_ln_iadd, am_ln_isub, am_ln_imul, am_ln_idiv, am_ln_irem, am_ln_iand, am_ln_ior, am_ln_ixor, am_ln_ishl, am_ln_ishr, am_ln_iushr, am_ln_ladd, am_ln_lsub, am_ln_lmul, am_ln_ldiv, am_ln_lrem, am_ln_lcmp, am_ln_i2l, am_ln_l2i, am_ln_i2b, am_ln_i2s, am_ln_i2c, am_ln_dup, am_ln_dup2, am_ln_dup_x1, am_ln_pop, am_ln_iaload, am_ln_iastore, am_ln_baload, am_ln_bastore, am_ln_caload, am_ln_aaload, am_ln_arraylength, am_ln_ireturn, am_ln_lreturn, am_ln_return_, am_ln_aload, am_ln_iload, am_ln_lload, am_ln_istore, am_ln_lstore, am_ln_astore, am_ln_bipush, am_ln_ldc, am_ln_sipush, am_ln_ldc_w, am_ln_ldc2_w, am_ln_iinc, am_ln_ifCond, am_ln_if_icmp, am_ln_goto, am_ln_getfield, am_ln_putfield, am_ln_getstatic, am_ln_invokevirtual, am_ln_invokestatic, am_csum_0, am_csum_I, am_csum_R, am_csum_L, k_im16, k_im8, k_im4, k_im2, k_im1, k_i0, k_i1, k_i2, k_i3, k_i4, k_i5, k_i6, k_i7, k_i8, k_i9, k_i10, k_i11, k_i12, k_i13, k_i14, k_i15, k_i16, k_i17, k_i18, k_i19, k_i20, k_i21, k_i22, k_i23, k_i24, k_i25, k_i26, k_i27, k_i28, k_i29, k_i30, k_i31, k_i32, k_i33, k_i34, k_i35, k_i36, k_i37, k_i38, k_i39, k_i40, k_i41, k_b6, k_b7, k_b8, k_b9, k_b10, k_b11, k_b12, k_b13, k_b14, k_b15, k_b16, k_b17, k_b18, k_b19, k_b20, k_b21, k_b22, k_b23, k_b24, k_b25, k_b26, k_b27, k_b28, k_b29, k_b30, k_b31, k_b32, k_b33, k_b34, k_b35, k_b36, k_b37, k_b38, k_b39, k_b40, k_b41, k_b42, k_b43, k_b44, k_b45, k_b46, k_b47, k_b48, k_b49, k_b50, k_b51, k_b52, k_b53, k_b54, k_b55, k_b56, k_b57, k_b58, k_b59, k_b60, k_b61, k_b62, k_b63, k_b66, k_b76, k_b97, k_b98, k_b99, k_b100, k_b101, k_b102, k_b103, k_b104, k_b105, k_b107, k_b108, k_b109, k_b110, k_b112, k_b114, k_b115, k_b116, k_b117, k_b120, k_b121, k_b122, k_s160, k_s200, k_s255, k_s256, k_s999, k_s2048, k_s4095, k_s9999, k_s10000, k_s12345, k_narI, k_narZ0, k_narZ1, k_ffalse, k_ts0, k_ts1, k_tw0, k_tw1, k_rt, k_rn, Nat.reduceAdd, Nat.zero_add, Nat.reduceLeDiff, Nat.reduceLT, Int.reduceAdd, Int.zero_add, true_and, and_true, List.set_cons_zero, List.set_cons_succ, eq_self, k_n2, k_n3, k_n4, k_n5, k_n6, k_n7, k_n8, k_n9, k_n10, k_n12, k_nn, true_or, or_true, false_or, or_false, k_z10, not_false_eq_true, not_true_eq_false, true_imp_iff, false_imp_iff, n_X5_wordOf, r_X5_wordOf, g_X5_wordOf_0, b_X5_wordOf_0, bk_X5_wordOf_0, g_X5_wordOf_4, b_X5_wordOf_4, bk_X5_wordOf_4, g_X5_wordOf_27, b_X5_wordOf_27, bk_X5_wordOf_27, g_X5_wordOf_53, bk_X5_wordOf_53, g_X5_wordOf_74, bk_X5_wordOf_74, g_X5_wordOf_82, bk_X5_wordOf_82, g_X5_wordOf_96, bk_X5_wordOf_96, g_X5_wordOf_97, bk_X5_wordOf_97, g_X5_wordOf_104, bk_X5_wordOf_104, t_X5_wordOf_10_104, t_X5_wordOf_18_104, t_X5_wordOf_31_82, t_X5_wordOf_45_53, t_X5_wordOf_50_74, t_X5_wordOf_79_27, t_X5_wordOf_89_96, t_X5_wordOf_93_97, t_X5_wordOf_101_4, x_X5_wordOf_g194, x_X5_wordOf_g190, x_X5_wordOf_c202, x_X5_wordOf_c204, ei, h12, h9, hin, hcl, ec, nI_1, m49]
          refine ⟨fun z => absurd z (nI_ge (b := 9) (by omega) (by omega)), fun _ => ?_⟩
          by_cases q : j < sl (o + w)
          · obtain ⟨c1, c2, c3⟩ := ch_ok hi13 q
            rw [if_pos q]
            have e1 : min (j + 1) (sl (o + w)) = j + 1 := by omega
            have e2 : min j (sl (o + w)) = j := by omega
            have e3 : bv (chN (o + w)) 0 (j + 1) = bv (chN (o + w)) 0 j * 27 + (chN (o + w) j - 96) := by
              show bv (chN (o + w)) 0 j * 27 + (chN (o + w) (0 + j) - 96) = _
              rw [Nat.zero_add]
            rw [e1, e3] at IH
            rw [e2]
            refine ⟨fun _ => ?_, fun z => absurd ((nI_eq (b := 32) (by omega) (by omega)).mp z) (by omega)⟩
            rw [l27 (by omega) (by omega)]
            exact IH
          · rw [if_neg q]
            have e1 : min (j + 1) (sl (o + w)) = min j (sl (o + w)) := by omega
            rw [e1] at IH
            exact ⟨fun z => absurd rfl z, fun _ => IH⟩
      refine hA [4, 27] 60 4 _ _ _ ?_
      simp only [s_aload_0, s_iload_0, s_lload_0, s_istore_0, s_lstore_0, s_astore_0, s_aload_1, s_iload_1, s_lload_1, s_istore_1, s_lstore_1, s_astore_1, s_aload_2, s_iload_2, s_lload_2, s_istore_2, s_lstore_2, s_astore_2, s_aload_3, s_iload_3, s_lload_3, s_istore_3, s_lstore_3, s_astore_3, s_aload, s_iload, s_lload, s_istore, s_lstore, s_astore, s_iconst, s_bipush, s_sipush, s_lconst_0, s_lconst_1, s_iinc, s_iadd, s_isub, s_imul, s_iand, s_ior, s_ixor, s_ishl, s_ishr, s_iushr, s_idiv, s_irem, s_ladd, s_lsub, s_lmul, s_ldiv, s_lrem, s_lcmp, s_i2l, s_l2i, s_i2b, s_i2s, s_i2c, s_dupI, s_dupR, s_dup2IR, s_dupx1, s_popI, s_if_eq, s_if_ne, s_if_lt, s_if_ge, s_if_gt, s_if_le, s_cmp_eq, s_cmp_ne, s_cmp_lt, s_cmp_ge, s_cmp_gt, s_cmp_le, s_goto, s_tsw, s_iaload, s_baload, s_caload, s_aaload, s_iastore, s_bastore, s_alen, s_ireturn, s_lreturn, s_return, am_lI_0, am_lI_S, am_lL_0, am_lL_S, am_lR_0, am_lR_S, am_sto_0, am_sto_1I, am_sto_1R, am_sto_1N, am_sto_1L, am_sto_S, am_stL_d, am_blk_0, am_blk_1, am_ln_aload_n, am_ln_iload_n, am_ln_lload_n, am_ln_istore_n, am_ln_lstore_n, am_ln_astore_n, am_ln_iconst, am_ln_lconst, am_ln_iadd, am_ln_isub, am_ln_imul, am_ln_idiv, am_ln_irem, am_ln_iand, am_ln_ior, am_ln_ixor, am_ln_ishl, am_ln_ishr, am_ln_iushr, am_ln_ladd, am_ln_lsub, am_ln_lmul, am_ln_ldiv, am_ln_lrem, am_ln_lcmp, am_ln_i2l, am_ln_l2i, am_ln_i2b, am_ln_i2s, am_ln_i2c, am_ln_dup, am_ln_dup2, am_ln_dup_x1, am_ln_pop, am_ln_iaload, am_ln_iastore, am_ln_baload, am_ln_bastore, am_ln_caload, am_ln_aaload, am_ln_arraylength, am_ln_ireturn, am_ln_lreturn, am_ln_return_, am_ln_aload, am_ln_iload, am_ln_lload, am_ln_istore, am_ln_lstore, am_ln_astore, am_ln_bipush, am_ln_ldc, am_ln_sipush, am_ln_ldc_w, am_ln_ldc2_w, am_ln_iinc, am_ln_ifCond, am_ln_if_icmp, am_ln_goto, am_ln_getfield, am_ln_putfield, am_ln_getstatic, am_ln_invokevirtual, am_ln_invokestatic, am_csum_0, am_csum_I, am_csum_R, am_csum_L, k_im16, k_im8, k_im4, k_im2, k_im1, k_i0, k_i1, k_i2, k_i3, k_i4, k_i5, k_i6, k_i7, k_i8, k_i9, k_i10, k_i11, k_i12, k_i13, k_i14, k_i15, k_i16, k_i17, k_i18, k_i19, k_i20, k_i21, k_i22, k_i23, k_i24, k_i25, k_i26, k_i27, k_i28, k_i29, k_i30, k_i31, k_i32, k_i33, k_i34, k_i35, k_i36, k_i37, k_i38, k_i39, k_i40, k_i41, k_b6, k_b7, k_b8, k_b9, k_b10, k_b11, k_b12, k_b13, k_b14, k_b15, k_b16, k_b17, k_b18, k_b19, k_b20, k_b21, k_b22, k_b23, k_b24, k_b25, k_b26, k_b27, k_b28, k_b29, k_b30, k_b31, k_b32, k_b33, k_b34, k_b35, k_b36, k_b37, k_b38, k_b39, k_b40, k_b41, k_b42, k_b43, k_b44, k_b45, k_b46, k_b47, k_b48, k_b49, k_b50, k_b51, k_b52, k_b53, k_b54, k_b55, k_b56, k_b57, k_b58, k_b59, k_b60, k_b61, k_b62, k_b63, k_b66, k_b76, k_b97, k_b98, k_b99, k_b100, k_b101, k_b102, k_b103, k_b104, k_b105, k_b107, k_b108, k_b109, k_b110, k_b112, k_b114, k_b115, k_b116, k_b117, k_b120, k_b121, k_b122, k_s160, k_s200, k_s255, k_s256, k_s999, k_s2048, k_s4095, k_s9999, k_s10000, k_s12345, k_narI, k_narZ0, k_narZ1, k_ffalse, k_ts0, k_ts1, k_tw0, k_tw1, k_rt, k_rn, Nat.reduceAdd, Nat.zero_add, Nat.reduceLeDiff, Nat.reduceLT, Int.reduceAdd, Int.zero_add, true_and, and_true, List.set_cons_zero, List.set_cons_succ, eq_self, k_n2, k_n3, k_n4, k_n5, k_n6, k_n7, k_n8, k_n9, k_n10, k_n12, k_nn, true_or, or_true, false_or, or_false, k_z10, not_false_eq_true, not_true_eq_false, true_imp_iff, false_imp_iff, n_X5_wordOf, r_X5_wordOf, g_X5_wordOf_0, b_X5_wordOf_0, bk_X5_wordOf_0, g_X5_wordOf_4, b_X5_wordOf_4, bk_X5_wordOf_4, g_X5_wordOf_27, b_X5_wordOf_27, bk_X5_wordOf_27, g_X5_wordOf_53, bk_X5_wordOf_53, g_X5_wordOf_74, bk_X5_wordOf_74, g_X5_wordOf_82, bk_X5_wordOf_82, g_X5_wordOf_96, bk_X5_wordOf_96, g_X5_wordOf_97, bk_X5_wordOf_97, g_X5_wordOf_104, bk_X5_wordOf_104, t_X5_wordOf_10_104, t_X5_wordOf_18_104, t_X5_wordOf_31_82, t_X5_wordOf_45_53, t_X5_wordOf_50_74, t_X5_wordOf_79_27, t_X5_wordOf_89_96, t_X5_wordOf_93_97, t_X5_wordOf_101_4, x_X5_wordOf_g194, x_X5_wordOf_g190, x_X5_wordOf_c202, x_X5_wordOf_c204, aln12 ha, ed, e7, tkk_1 h5, m49]
      refine ⟨fun z => absurd z (nI_ge (by omega) (by omega)), fun _ => ⟨fun z => ?_, fun z => ?_⟩⟩
      · rw [wof_n z] at h ⊢
        exact h
      · have := A27 z 9 0 (by omega)
        rw [Nat.zero_min] at this
        exact this
  refine hA [4, 27] 60 0 _ _ _ ?_; show am_blk _ _ _ _ _ [_, _, .null, .null, .null, .null, .null] _ _
  simp only [s_aload_0, s_iload_0, s_lload_0, s_istore_0, s_lstore_0, s_astore_0, s_aload_1, s_iload_1, s_lload_1, s_istore_1, s_lstore_1, s_astore_1, s_aload_2, s_iload_2, s_lload_2, s_istore_2, s_lstore_2, s_astore_2, s_aload_3, s_iload_3, s_lload_3, s_istore_3, s_lstore_3, s_astore_3, s_aload, s_iload, s_lload, s_istore, s_lstore, s_astore, s_iconst, s_bipush, s_sipush, s_lconst_0, s_lconst_1, s_iinc, s_iadd, s_isub, s_imul, s_iand, s_ior, s_ixor, s_ishl, s_ishr, s_iushr, s_idiv, s_irem, s_ladd, s_lsub, s_lmul, s_ldiv, s_lrem, s_lcmp, s_i2l, s_l2i, s_i2b, s_i2s, s_i2c, s_dupI, s_dupR, s_dup2IR, s_dupx1, s_popI, s_if_eq, s_if_ne, s_if_lt, s_if_ge, s_if_gt, s_if_le, s_cmp_eq, s_cmp_ne, s_cmp_lt, s_cmp_ge, s_cmp_gt, s_cmp_le, s_goto, s_tsw, s_iaload, s_baload, s_caload, s_aaload, s_iastore, s_bastore, s_alen, s_ireturn, s_lreturn, s_return, am_lI_0, am_lI_S, am_lL_0, am_lL_S, am_lR_0, am_lR_S, am_sto_0, am_sto_1I, am_sto_1R, am_sto_1N, am_sto_1L, am_sto_S, am_stL_d, am_blk_0, am_blk_1, am_ln_aload_n, am_ln_iload_n, am_ln_lload_n, am_ln_istore_n, am_ln_lstore_n, am_ln_astore_n, am_ln_iconst, am_ln_lconst, am_ln_iadd, am_ln_isub, am_ln_imul, am_ln_idiv, am_ln_irem, am_ln_iand, am_ln_ior, am_ln_ixor, am_ln_ishl, am_ln_ishr, am_ln_iushr, am_ln_ladd, am_ln_lsub, am_ln_lmul, am_ln_ldiv, am_ln_lrem, am_ln_lcmp, am_ln_i2l, am_ln_l2i, am_ln_i2b, am_ln_i2s, am_ln_i2c, am_ln_dup, am_ln_dup2, am_ln_dup_x1, am_ln_pop, am_ln_iaload, am_ln_iastore, am_ln_baload, am_ln_bastore, am_ln_caload, am_ln_aaload, am_ln_arraylength, am_ln_ireturn, am_ln_lreturn, am_ln_return_, am_ln_aload, am_ln_iload, am_ln_lload, am_ln_istore, am_ln_lstore, am_ln_astore, am_ln_bipush, am_ln_ldc, am_ln_sipush, am_ln_ldc_w, am_ln_ldc2_w, am_ln_iinc, am_ln_ifCond, am_ln_if_icmp, am_ln_goto, am_ln_getfield, am_ln_putfield, am_ln_getstatic, am_ln_invokevirtual, am_ln_invokestatic, am_csum_0, am_csum_I, am_csum_R, am_csum_L, k_im16, k_im8, k_im4, k_im2, k_im1, k_i0, k_i1, k_i2, k_i3, k_i4, k_i5, k_i6, k_i7, k_i8, k_i9, k_i10, k_i11, k_i12, k_i13, k_i14, k_i15, k_i16, k_i17, k_i18, k_i19, k_i20, k_i21, k_i22, k_i23, k_i24, k_i25, k_i26, k_i27, k_i28, k_i29, k_i30, k_i31, k_i32, k_i33, k_i34, k_i35, k_i36, k_i37, k_i38, k_i39, k_i40, k_i41, k_b6, k_b7, k_b8, k_b9, k_b10, k_b11, k_b12, k_b13, k_b14, k_b15, k_b16, k_b17, k_b18, k_b19, k_b20, k_b21, k_b22, k_b23, k_b24, k_b25, k_b26, k_b27, k_b28, k_b29, k_b30, k_b31, k_b32, k_b33, k_b34, k_b35, k_b36, k_b37, k_b38, k_b39, k_b40, k_b41, k_b42, k_b43, k_b44, k_b45, k_b46, k_b47, k_b48, k_b49, k_b50, k_b51, k_b52, k_b53, k_b54, k_b55, k_b56, k_b57, k_b58, k_b59, k_b60, k_b61, k_b62, k_b63, k_b66, k_b76, k_b97, k_b98, k_b99, k_b100, k_b101, k_b102, k_b103, k_b104, k_b105, k_b107, k_b108, k_b109, k_b110, k_b112, k_b114, k_b115, k_b116, k_b117, k_b120, k_b121, k_b122, k_s160, k_s200, k_s255, k_s256, k_s999, k_s2048, k_s4095, k_s9999, k_s10000, k_s12345, k_narI, k_narZ0, k_narZ1, k_ffalse, k_ts0, k_ts1, k_tw0, k_tw1, k_rt, k_rn, Nat.reduceAdd, Nat.zero_add, Nat.reduceLeDiff, Nat.reduceLT, Int.reduceAdd, Int.zero_add, true_and, and_true, List.set_cons_zero, List.set_cons_succ, eq_self, k_n2, k_n3, k_n4, k_n5, k_n6, k_n7, k_n8, k_n9, k_n10, k_n12, k_nn, true_or, or_true, false_or, or_false, k_z10, not_false_eq_true, not_true_eq_false, true_imp_iff, false_imp_iff, n_X5_wordOf, r_X5_wordOf, g_X5_wordOf_0, b_X5_wordOf_0, bk_X5_wordOf_0, g_X5_wordOf_4, b_X5_wordOf_4, bk_X5_wordOf_4, g_X5_wordOf_27, b_X5_wordOf_27, bk_X5_wordOf_27, g_X5_wordOf_53, bk_X5_wordOf_53, g_X5_wordOf_74, bk_X5_wordOf_74, g_X5_wordOf_82, bk_X5_wordOf_82, g_X5_wordOf_96, bk_X5_wordOf_96, g_X5_wordOf_97, bk_X5_wordOf_97, g_X5_wordOf_104, bk_X5_wordOf_104, t_X5_wordOf_10_104, t_X5_wordOf_18_104, t_X5_wordOf_31_82, t_X5_wordOf_45_53, t_X5_wordOf_50_74, t_X5_wordOf_79_27, t_X5_wordOf_89_96, t_X5_wordOf_93_97, t_X5_wordOf_101_4, x_X5_wordOf_g194, x_X5_wordOf_g190, x_X5_wordOf_c202, x_X5_wordOf_c204, m49]
  exact A4 N 0 _ _ _ (by omega)
theorem ok_X5_wordOf : am_OK (⟨"CarpetLaneModel", "wordOf", "([C)I"⟩ : MethodName) prog_7_method_73_code 7 (some .int) rm_X5_wordOf sp_X5_wordOf := am_mok (cd := cd_X5_wordOf) E_X5_wordOf (by decide +kernel) rfl eo_X5_wordOf (by decide +kernel) (by decide +kernel) (q_RR_h (by decide)) (q_RR_b bd_X5_wordOf)
def f_X5_takesNumber (k : Nat) (l m : Int32) (μ : am_M) (Q : am_Q) : Prop := k = 49 ∧ ∃ T n t m', l = 0 ∧ m = nI m' ∧ m' ≤ 9999 ∧ TXM μ T n ∧ TKM μ T t ∧ tkO n t ∧ (isNB t m' = true → ∀ μ', TKM μ' T (nxt T n t) → FrPM μ μ' → Q (some (.int (nI t.2.2.2))) μ') ∧ (isNB t m' = false → Q (some (.int (-1))) μ)
theorem tkk_2 {t : tK} (h : t.1 < 5) : nI (tkk t) = 2 ↔ (t.1 = 2 ∧ t.2.2.2 ≤ 9999) := by
  have hb : tkk t < 5 := by unfold tkk; split <;> omega
  rw [show (2 : Int32) = nI 2 from rfl, nI_eq (by omega) (by omega)]
  unfold tkk
  split <;> omega
def sp_X5_takesNumber : am_Sp := q_RII f_X5_takesNumber
def bk_X5_takesNumber_0 : List Instr := [.aload_n 0, .getfield 194, .iconst 2, .if_icmp .ne 24, .aload_n 0, .getfield 190, .l2i, .iload_n 1, .iload_n 2, .invokestatic 48, .ifCond .eq 11, .aload_n 0, .getfield 190, .l2i, .goto 4]
def bk_X5_takesNumber_29 : List Instr := [.iconst (-1)]
def bk_X5_takesNumber_30 : List Instr := [.istore_n 3, .iload_n 3, .ifCond .lt 7, .aload_n 0, .invokevirtual 215]
def bk_X5_takesNumber_39 : List Instr := [.iload_n 3, .ireturn]
def cd_X5_takesNumber : am_cd := [(0, bk_X5_takesNumber_0), (29, bk_X5_takesNumber_29), (30, bk_X5_takesNumber_30), (39, bk_X5_takesNumber_39)]
def E_X5_takesNumber : am_E := (4, .int, [(194, 5, 7), (190, 5, 10)], [], [], [(215, 5, 0, sp_X5_nextToken)], [(48, 3, sp_X5_in1)], [])
theorem n_X5_takesNumber : am_nL E_X5_takesNumber = 4 := Eq.trans rfl rfl
theorem r_X5_takesNumber : am_rt E_X5_takesNumber = .int := Eq.trans rfl rfl
theorem g_X5_takesNumber_0 {At : am_J} {Q : am_Q} {n : Nat} {L S : List Value} {μ : am_M} : am_go E_X5_takesNumber cd_X5_takesNumber [30] At Q (n + 1) 0 L S μ = am_blk E_X5_takesNumber (am_go E_X5_takesNumber cd_X5_takesNumber [30] At Q n) Q bk_X5_takesNumber_0 0 L S μ := Eq.trans rfl rfl
theorem b_X5_takesNumber_0 {gt : am_J} {Q : am_Q} {L S : List Value} {μ : am_M} : am_blk E_X5_takesNumber gt Q (am_lk [] cd_X5_takesNumber 0) 0 L S μ = am_blk E_X5_takesNumber gt Q bk_X5_takesNumber_0 0 L S μ := Eq.trans rfl rfl
theorem g_X5_takesNumber_29 {At : am_J} {Q : am_Q} {n : Nat} {L S : List Value} {μ : am_M} : am_go E_X5_takesNumber cd_X5_takesNumber [30] At Q (n + 1) 29 L S μ = am_blk E_X5_takesNumber (am_go E_X5_takesNumber cd_X5_takesNumber [30] At Q n) Q bk_X5_takesNumber_29 29 L S μ := Eq.trans rfl rfl
theorem g_X5_takesNumber_30 {At : am_J} {Q : am_Q} {n : Nat} {L S : List Value} {μ : am_M} : am_go E_X5_takesNumber cd_X5_takesNumber [30] At Q (n + 1) 30 L S μ = At 30 L S μ := Eq.trans rfl rfl
theorem b_X5_takesNumber_30 {gt : am_J} {Q : am_Q} {L S : List Value} {μ : am_M} : am_blk E_X5_takesNumber gt Q (am_lk [] cd_X5_takesNumber 30) 30 L S μ = am_blk E_X5_takesNumber gt Q bk_X5_takesNumber_30 30 L S μ := Eq.trans rfl rfl
theorem g_X5_takesNumber_39 {At : am_J} {Q : am_Q} {n : Nat} {L S : List Value} {μ : am_M} : am_go E_X5_takesNumber cd_X5_takesNumber [30] At Q (n + 1) 39 L S μ = am_blk E_X5_takesNumber (am_go E_X5_takesNumber cd_X5_takesNumber [30] At Q n) Q bk_X5_takesNumber_39 39 L S μ := Eq.trans rfl rfl
theorem t_X5_takesNumber_5_29 : am_tg 5 24 = 29 := Eq.trans rfl rfl
theorem t_X5_takesNumber_18_29 : am_tg 18 11 = 29 := Eq.trans rfl rfl
theorem t_X5_takesNumber_26_30 : am_tg 26 4 = 30 := Eq.trans rfl rfl
theorem t_X5_takesNumber_32_39 : am_tg 32 7 = 39 := Eq.trans rfl rfl
theorem x_X5_takesNumber_g194 {pc : Nat} {L S : List Value} {μ : am_M} {nx : am_K} {jp : am_J} {Q : am_Q} {k : Nat} : am_st E_X5_takesNumber pc (.getfield 194) L (.ref k :: S) μ nx jp Q = (am_sh k = (5, 0) ∧ nx L (.int (μ.1 k 7) :: S) μ) := Eq.trans rfl rfl
theorem x_X5_takesNumber_g190 {pc : Nat} {L S : List Value} {μ : am_M} {nx : am_K} {jp : am_J} {Q : am_Q} {k : Nat} : am_st E_X5_takesNumber pc (.getfield 190) L (.ref k :: S) μ nx jp Q = (am_sh k = (5, 0) ∧ nx L (.long μ.2 :: S) μ) := Eq.trans rfl rfl
theorem x_X5_takesNumber_v215 {pc : Nat} {L S : List Value} {μ : am_M} {nx : am_K} {jp : am_J} {Q : am_Q} {k : Nat}  : am_st E_X5_takesNumber pc (.invokevirtual 215) L (.ref k :: S) μ nx jp Q = (am_sh k = (5, 0) ∧ am_csum S ≤ 8 ∧ f_X5_nextToken k  μ (fun r μ' => nx L (r.toList ++ S) μ')) := Eq.trans rfl rfl
theorem x_X5_takesNumber_v48 {pc : Nat} {L S : List Value} {μ : am_M} {nx : am_K} {jp : am_J} {Q : am_Q} {a0 : Int32} {a1 : Int32} {a2 : Int32} : am_st E_X5_takesNumber pc (.invokestatic 48) L (.int a2 :: .int a1 :: .int a0 :: S) μ nx jp Q = (am_csum S ≤ 8 ∧ f_X5_in1 a0 a1 a2 μ (fun r μ' => nx L (r.toList ++ S) μ')) := Eq.trans rfl rfl
def rm_X5_takesNumber : Room := { frames := 3, cells := 0, slots := 0, locals := 62 }
theorem eo_X5_takesNumber : am_EO "CarpetLaneModel" rm_X5_takesNumber E_X5_takesNumber := ⟨(List.forall_mem_cons.mpr ⟨Or.inl ⟨_, rfl, by decide, am_in 764 (by decide +kernel) (by decide +kernel), by decide⟩, (List.forall_mem_cons.mpr ⟨Or.inl ⟨_, rfl, by decide, am_in 767 (by decide +kernel) (by decide +kernel), by decide⟩, (fun _ h => absurd h List.not_mem_nil)⟩)⟩), (fun _ h => absurd h List.not_mem_nil), (fun _ h => absurd h List.not_mem_nil), (List.forall_mem_cons.mpr ⟨am_mkV ok_X5_nextToken wv_X5_nextToken (am_in 1085 (by decide +kernel) (by decide +kernel)) ⟨rfl, rfl, by decide, by decide⟩, (fun _ h => absurd h List.not_mem_nil)⟩), (List.forall_mem_cons.mpr ⟨am_mkS ok_X5_in1 wv_X5_in1 (Or.inl (am_in 818 (by decide +kernel) (by decide +kernel))) ⟨rfl, rfl, by decide, by decide⟩, (fun _ h => absurd h List.not_mem_nil)⟩), (fun _ h => absurd h List.not_mem_nil)⟩
theorem wv_X5_takesNumber : am_WV (⟨"CarpetLaneModel", "takesNumber", "(II)I"⟩ : MethodName) prog_7_method_74_code 4 (some .int) 2 5 := ⟨am_in 64 (by decide +kernel) (by decide +kernel), am_in 1116 (by decide +kernel) (by decide +kernel), by decide +kernel, rfl, by decide, am_in 1115 (by decide +kernel) (by decide +kernel), am_in 56 (by decide +kernel) (by decide +kernel)⟩
theorem bd_X5_takesNumber (k : Nat) (l : Int32) (m : Int32) (μ : am_M) (Q : am_Q) (At : am_J) (hA : am_ok E_X5_takesNumber cd_X5_takesNumber Q At) (h : f_X5_takesNumber k l m μ Q) : At 0 (am_en [.ref k, .int l, .int m] 4) [] μ := by
  obtain ⟨rfl, T, n, t, m', rfl, rfl, hm, hT, hK, hO, hY, hN⟩ := h
  have e7 := hK.1
  have A30 : isNB t m' = false → ∀ d, At 30 [.ref 49, .int 0, .int (nI m'), d] [.int (-1)] μ := by
    intro q d
    refine hA [30] 60 30 _ _ _ ?_
    simp only [s_aload_0, s_iload_0, s_lload_0, s_istore_0, s_lstore_0, s_astore_0, s_aload_1, s_iload_1, s_lload_1, s_istore_1, s_lstore_1, s_astore_1, s_aload_2, s_iload_2, s_lload_2, s_istore_2, s_lstore_2, s_astore_2, s_aload_3, s_iload_3, s_lload_3, s_istore_3, s_lstore_3, s_astore_3, s_aload, s_iload, s_lload, s_istore, s_lstore, s_astore, s_iconst, s_bipush, s_sipush, s_lconst_0, s_lconst_1, s_iinc, s_iadd, s_isub, s_imul, s_iand, s_ior, s_ixor, s_ishl, s_ishr, s_iushr, s_idiv, s_irem, s_ladd, s_lsub, s_lmul, s_ldiv, s_lrem, s_lcmp, s_i2l, s_l2i, s_i2b, s_i2s, s_i2c, s_dupI, s_dupR, s_dup2IR, s_dupx1, s_popI, s_if_eq, s_if_ne, s_if_lt, s_if_ge, s_if_gt, s_if_le, s_cmp_eq, s_cmp_ne, s_cmp_lt, s_cmp_ge, s_cmp_gt, s_cmp_le, s_goto, s_tsw, s_iaload, s_baload, s_caload, s_aaload, s_iastore, s_bastore, s_alen, s_ireturn, s_lreturn, s_return, am_lI_0, am_lI_S, am_lL_0, am_lL_S, am_lR_0, am_lR_S, am_sto_0, am_sto_1I, am_sto_1R, am_sto_1N, am_sto_1L, am_sto_S, am_stL_d, am_blk_0, am_blk_1, am_ln_aload_n, am_ln_iload_n, am_ln_lload_n, am_ln_istore_n, am_ln_lstore_n, am_ln_astore_n, am_ln_iconst, am_ln_lconst, am_ln_iadd, am_ln_isub, am_ln_imul, am_ln_idiv, am_ln_irem, am_ln_iand, am_ln_ior, am_ln_ixor, am_ln_ishl, am_ln_ishr, am_ln_iushr, am_ln_ladd, am_ln_lsub, am_ln_lmul, am_ln_ldiv, am_ln_lrem, am_ln_lcmp, am_ln_i2l, am_ln_l2i, am_ln_i2b, am_ln_i2s, am_ln_i2c, am_ln_dup, am_ln_dup2, am_ln_dup_x1, am_ln_pop, am_ln_iaload, am_ln_iastore, am_ln_baload, am_ln_bastore, am_ln_caload, am_ln_aaload, am_ln_arraylength, am_ln_ireturn, am_ln_lreturn, am_ln_return_, am_ln_aload, am_ln_iload, am_ln_lload, am_ln_istore, am_ln_lstore, am_ln_astore, am_ln_bipush, am_ln_ldc, am_ln_sipush, am_ln_ldc_w, am_ln_ldc2_w, am_ln_iinc, am_ln_ifCond, am_ln_if_icmp, am_ln_goto, am_ln_getfield, am_ln_putfield, am_ln_getstatic, am_ln_invokevirtual, am_ln_invokestatic, am_csum_0, am_csum_I, am_csum_R, am_csum_L, k_im16, k_im8, k_im4, k_im2, k_im1, k_i0, k_i1, k_i2, k_i3, k_i4, k_i5, k_i6, k_i7, k_i8, k_i9, k_i10, k_i11, k_i12, k_i13, k_i14, k_i15, k_i16, k_i17, k_i18, k_i19, k_i20, k_i21, k_i22, k_i23, k_i24, k_i25, k_i26, k_i27, k_i28, k_i29, k_i30, k_i31, k_i32, k_i33, k_i34, k_i35, k_i36, k_i37, k_i38, k_i39, k_i40, k_i41, k_b6, k_b7, k_b8, k_b9, k_b10, k_b11, k_b12, k_b13, k_b14, k_b15, k_b16, k_b17, k_b18, k_b19, k_b20, k_b21, k_b22, k_b23, k_b24, k_b25, k_b26, k_b27, k_b28, k_b29, k_b30, k_b31, k_b32, k_b33, k_b34, k_b35, k_b36, k_b37, k_b38, k_b39, k_b40, k_b41, k_b42, k_b43, k_b44, k_b45, k_b46, k_b47, k_b48, k_b49, k_b50, k_b51, k_b52, k_b53, k_b54, k_b55, k_b56, k_b57, k_b58, k_b59, k_b60, k_b61, k_b62, k_b63, k_b66, k_b76, k_b97, k_b98, k_b99, k_b100, k_b101, k_b102, k_b103, k_b104, k_b105, k_b107, k_b108, k_b109, k_b110, k_b112, k_b114, k_b115, k_b116, k_b117, k_b120, k_b121, k_b122, k_s160, k_s200, k_s255, k_s256, k_s999, k_s2048, k_s4095, k_s9999, k_s10000, k_s12345, k_narI, k_narZ0, k_narZ1, k_ffalse, k_ts0, k_ts1, k_tw0, k_tw1, k_rt, k_rn, Nat.reduceAdd, Nat.zero_add, Nat.reduceLeDiff, Nat.reduceLT, Int.reduceAdd, Int.zero_add, true_and, and_true, List.set_cons_zero, List.set_cons_succ, eq_self, k_n2, k_n3, k_n4, k_n5, k_n6, k_n7, k_n8, k_n9, k_n10, k_n12, k_nn, true_or, or_true, false_or, or_false, k_z10, not_false_eq_true, not_true_eq_false, true_imp_iff, false_imp_iff, n_X5_takesNumber, r_X5_takesNumber, g_X5_takesNumber_0, b_X5_takesNumber_0, bk_X5_takesNumber_0, g_X5_takesNumber_29, bk_X5_takesNumber_29, g_X5_takesNumber_30, b_X5_takesNumber_30, bk_X5_takesNumber_30, g_X5_takesNumber_39, bk_X5_takesNumber_39, t_X5_takesNumber_5_29, t_X5_takesNumber_18_29, t_X5_takesNumber_26_30, t_X5_takesNumber_32_39, x_X5_takesNumber_g194, x_X5_takesNumber_g190, x_X5_takesNumber_v215, x_X5_takesNumber_v48, m1lt, m49]
    exact hN q
  refine hA [30] 60 0 _ _ _ ?_; show am_blk _ _ _ _ _ [_, _, _, .null] _ _
  simp only [s_aload_0, s_iload_0, s_lload_0, s_istore_0, s_lstore_0, s_astore_0, s_aload_1, s_iload_1, s_lload_1, s_istore_1, s_lstore_1, s_astore_1, s_aload_2, s_iload_2, s_lload_2, s_istore_2, s_lstore_2, s_astore_2, s_aload_3, s_iload_3, s_lload_3, s_istore_3, s_lstore_3, s_astore_3, s_aload, s_iload, s_lload, s_istore, s_lstore, s_astore, s_iconst, s_bipush, s_sipush, s_lconst_0, s_lconst_1, s_iinc, s_iadd, s_isub, s_imul, s_iand, s_ior, s_ixor, s_ishl, s_ishr, s_iushr, s_idiv, s_irem, s_ladd, s_lsub, s_lmul, s_ldiv, s_lrem, s_lcmp, s_i2l, s_l2i, s_i2b, s_i2s, s_i2c, s_dupI, s_dupR, s_dup2IR, s_dupx1, s_popI, s_if_eq, s_if_ne, s_if_lt, s_if_ge, s_if_gt, s_if_le, s_cmp_eq, s_cmp_ne, s_cmp_lt, s_cmp_ge, s_cmp_gt, s_cmp_le, s_goto, s_tsw, s_iaload, s_baload, s_caload, s_aaload, s_iastore, s_bastore, s_alen, s_ireturn, s_lreturn, s_return, am_lI_0, am_lI_S, am_lL_0, am_lL_S, am_lR_0, am_lR_S, am_sto_0, am_sto_1I, am_sto_1R, am_sto_1N, am_sto_1L, am_sto_S, am_stL_d, am_blk_0, am_blk_1, am_ln_aload_n, am_ln_iload_n, am_ln_lload_n, am_ln_istore_n, am_ln_lstore_n, am_ln_astore_n, am_ln_iconst, am_ln_lconst, am_ln_iadd, am_ln_isub, am_ln_imul, am_ln_idiv, am_ln_irem, am_ln_iand, am_ln_ior, am_ln_ixor, am_ln_ishl, am_ln_ishr, am_ln_iushr, am_ln_ladd, am_ln_lsub, am_ln_lmul, am_ln_ldiv, am_ln_lrem, am_ln_lcmp, am_ln_i2l, am_ln_l2i, am_ln_i2b, am_ln_i2s, am_ln_i2c, am_ln_dup, am_ln_dup2, am_ln_dup_x1, am_ln_pop, am_ln_iaload, am_ln_iastore, am_ln_baload, am_ln_bastore, am_ln_caload, am_ln_aaload, am_ln_arraylength, am_ln_ireturn, am_ln_lreturn, am_ln_return_, am_ln_aload, am_ln_iload, am_ln_lload, am_ln_istore, am_ln_lstore, am_ln_astore, am_ln_bipush, am_ln_ldc, am_ln_sipush, am_ln_ldc_w, am_ln_ldc2_w, am_ln_iinc, am_ln_ifCond, am_ln_if_icmp, am_ln_goto, am_ln_getfield, am_ln_putfield, am_ln_getstatic, am_ln_invokevirtual, am_ln_invokestatic, am_csum_0, am_csum_I, am_csum_R, am_csum_L, k_im16, k_im8, k_im4, k_im2, k_im1, k_i0, k_i1, k_i2, k_i3, k_i4, k_i5, k_i6, k_i7, k_i8, k_i9, k_i10, k_i11, k_i12, k_i13, k_i14, k_i15, k_i16, k_i17, k_i18, k_i19, k_i20, k_i21, k_i22, k_i23, k_i24, k_i25, k_i26, k_i27, k_i28, k_i29, k_i30, k_i31, k_i32, k_i33, k_i34, k_i35, k_i36, k_i37, k_i38, k_i39, k_i40, k_i41, k_b6, k_b7, k_b8, k_b9, k_b10, k_b11, k_b12, k_b13, k_b14, k_b15, k_b16, k_b17, k_b18, k_b19, k_b20, k_b21, k_b22, k_b23, k_b24, k_b25, k_b26, k_b27, k_b28, k_b29, k_b30, k_b31, k_b32, k_b33, k_b34, k_b35, k_b36, k_b37, k_b38, k_b39, k_b40, k_b41, k_b42, k_b43, k_b44, k_b45, k_b46, k_b47, k_b48, k_b49, k_b50, k_b51, k_b52, k_b53, k_b54, k_b55, k_b56, k_b57, k_b58, k_b59, k_b60, k_b61, k_b62, k_b63, k_b66, k_b76, k_b97, k_b98, k_b99, k_b100, k_b101, k_b102, k_b103, k_b104, k_b105, k_b107, k_b108, k_b109, k_b110, k_b112, k_b114, k_b115, k_b116, k_b117, k_b120, k_b121, k_b122, k_s160, k_s200, k_s255, k_s256, k_s999, k_s2048, k_s4095, k_s9999, k_s10000, k_s12345, k_narI, k_narZ0, k_narZ1, k_ffalse, k_ts0, k_ts1, k_tw0, k_tw1, k_rt, k_rn, Nat.reduceAdd, Nat.zero_add, Nat.reduceLeDiff, Nat.reduceLT, Int.reduceAdd, Int.zero_add, true_and, and_true, List.set_cons_zero, List.set_cons_succ, eq_self, k_n2, k_n3, k_n4, k_n5, k_n6, k_n7, k_n8, k_n9, k_n10, k_n12, k_nn, true_or, or_true, false_or, or_false, k_z10, not_false_eq_true, not_true_eq_false, true_imp_iff, false_imp_iff, n_X5_takesNumber, r_X5_takesNumber, g_X5_takesNumber_0, b_X5_takesNumber_0, bk_X5_takesNumber_0, g_X5_takesNumber_29, bk_X5_takesNumber_29, g_X5_takesNumber_30, b_X5_takesNumber_30, bk_X5_takesNumber_30, g_X5_takesNumber_39, bk_X5_takesNumber_39, t_X5_takesNumber_5_29, t_X5_takesNumber_18_29, t_X5_takesNumber_26_30, t_X5_takesNumber_32_39, x_X5_takesNumber_g194, x_X5_takesNumber_g190, x_X5_takesNumber_v215, x_X5_takesNumber_v48, e7, tkk_2 hO.1, f_X5_in1, m49]
  refine ⟨fun z => A30 ?_ _, fun z => ?_⟩
  · cases e : isNB t m' with
    | false => rfl
    | true =>
      have := isNB_iff.mp e
      exact absurd ⟨this.1, Nat.le_trans this.2 hm⟩ z
  · have ev := hK.2.2.2.1 z.1 z.2
    rw [ev, lN_i]
    refine ⟨fun y => ?_, fun y => A30 ?_ _⟩
    · have hq : isNB t m' = true := isNB_iff.mpr ⟨z.1, (nI_leI (by omega) (by omega)).mp y.2⟩
      refine hA [30] 60 30 _ _ _ ?_
      simp only [s_aload_0, s_iload_0, s_lload_0, s_istore_0, s_lstore_0, s_astore_0, s_aload_1, s_iload_1, s_lload_1, s_istore_1, s_lstore_1, s_astore_1, s_aload_2, s_iload_2, s_lload_2, s_istore_2, s_lstore_2, s_astore_2, s_aload_3, s_iload_3, s_lload_3, s_istore_3, s_lstore_3, s_astore_3, s_aload, s_iload, s_lload, s_istore, s_lstore, s_astore, s_iconst, s_bipush, s_sipush, s_lconst_0, s_lconst_1, s_iinc, s_iadd, s_isub, s_imul, s_iand, s_ior, s_ixor, s_ishl, s_ishr, s_iushr, s_idiv, s_irem, s_ladd, s_lsub, s_lmul, s_ldiv, s_lrem, s_lcmp, s_i2l, s_l2i, s_i2b, s_i2s, s_i2c, s_dupI, s_dupR, s_dup2IR, s_dupx1, s_popI, s_if_eq, s_if_ne, s_if_lt, s_if_ge, s_if_gt, s_if_le, s_cmp_eq, s_cmp_ne, s_cmp_lt, s_cmp_ge, s_cmp_gt, s_cmp_le, s_goto, s_tsw, s_iaload, s_baload, s_caload, s_aaload, s_iastore, s_bastore, s_alen, s_ireturn, s_lreturn, s_return, am_lI_0, am_lI_S, am_lL_0, am_lL_S, am_lR_0, am_lR_S, am_sto_0, am_sto_1I, am_sto_1R, am_sto_1N, am_sto_1L, am_sto_S, am_stL_d, am_blk_0, am_blk_1, am_ln_aload_n, am_ln_iload_n, am_ln_lload_n, am_ln_istore_n, am_ln_lstore_n, am_ln_astore_n, am_ln_iconst, am_ln_lconst, am_ln_iadd, am_ln_isub, am_ln_imul, am_ln_idiv, am_ln_irem, am_ln_iand, am_ln_ior, am_ln_ixor, am_ln_ishl, am_ln_ishr, am_ln_iushr, am_ln_ladd, am_ln_lsub, am_ln_lmul, am_ln_ldiv, am_ln_lrem, am_ln_lcmp, am_ln_i2l, am_ln_l2i, am_ln_i2b, am_ln_i2s, am_ln_i2c, am_ln_dup, am_ln_dup2, am_ln_dup_x1, am_ln_pop, am_ln_iaload, am_ln_iastore, am_ln_baload, am_ln_bastore, am_ln_caload, am_ln_aaload, am_ln_arraylength, am_ln_ireturn, am_ln_lreturn, am_ln_return_, am_ln_aload, am_ln_iload, am_ln_lload, am_ln_istore, am_ln_lstore, am_ln_astore, am_ln_bipush, am_ln_ldc, am_ln_sipush, am_ln_ldc_w, am_ln_ldc2_w, am_ln_iinc, am_ln_ifCond, am_ln_if_icmp, am_ln_goto, am_ln_getfield, am_ln_putfield, am_ln_getstatic, am_ln_invokevirtual, am_ln_invokestatic, am_csum_0, am_csum_I, am_csum_R, am_csum_L, k_im16, k_im8, k_im4, k_im2, k_im1, k_i0, k_i1, k_i2, k_i3, k_i4, k_i5, k_i6, k_i7, k_i8, k_i9, k_i10, k_i11, k_i12, k_i13, k_i14, k_i15, k_i16, k_i17, k_i18, k_i19, k_i20, k_i21, k_i22, k_i23, k_i24, k_i25, k_i26, k_i27, k_i28, k_i29, k_i30, k_i31, k_i32, k_i33, k_i34, k_i35, k_i36, k_i37, k_i38, k_i39, k_i40, k_i41, k_b6, k_b7, k_b8, k_b9, k_b10, k_b11, k_b12, k_b13, k_b14, k_b15, k_b16, k_b17, k_b18, k_b19, k_b20, k_b21, k_b22, k_b23, k_b24, k_b25, k_b26, k_b27, k_b28, k_b29, k_b30, k_b31, k_b32, k_b33, k_b34, k_b35, k_b36, k_b37, k_b38, k_b39, k_b40, k_b41, k_b42, k_b43, k_b44, k_b45, k_b46, k_b47, k_b48, k_b49, k_b50, k_b51, k_b52, k_b53, k_b54, k_b55, k_b56, k_b57, k_b58, k_b59, k_b60, k_b61, k_b62, k_b63, k_b66, k_b76, k_b97, k_b98, k_b99, k_b100, k_b101, k_b102, k_b103, k_b104, k_b105, k_b107, k_b108, k_b109, k_b110, k_b112, k_b114, k_b115, k_b116, k_b117, k_b120, k_b121, k_b122, k_s160, k_s200, k_s255, k_s256, k_s999, k_s2048, k_s4095, k_s9999, k_s10000, k_s12345, k_narI, k_narZ0, k_narZ1, k_ffalse, k_ts0, k_ts1, k_tw0, k_tw1, k_rt, k_rn, Nat.reduceAdd, Nat.zero_add, Nat.reduceLeDiff, Nat.reduceLT, Int.reduceAdd, Int.zero_add, true_and, and_true, List.set_cons_zero, List.set_cons_succ, eq_self, k_n2, k_n3, k_n4, k_n5, k_n6, k_n7, k_n8, k_n9, k_n10, k_n12, k_nn, true_or, or_true, false_or, or_false, k_z10, not_false_eq_true, not_true_eq_false, true_imp_iff, false_imp_iff, n_X5_takesNumber, r_X5_takesNumber, g_X5_takesNumber_0, b_X5_takesNumber_0, bk_X5_takesNumber_0, g_X5_takesNumber_29, bk_X5_takesNumber_29, g_X5_takesNumber_30, b_X5_takesNumber_30, bk_X5_takesNumber_30, g_X5_takesNumber_39, bk_X5_takesNumber_39, t_X5_takesNumber_5_29, t_X5_takesNumber_18_29, t_X5_takesNumber_26_30, t_X5_takesNumber_32_39, x_X5_takesNumber_g194, x_X5_takesNumber_g190, x_X5_takesNumber_v215, x_X5_takesNumber_v48, f_X5_nextToken, m49]
      refine ⟨fun w => absurd w (nI_pos (by omega)), fun _ => ⟨T, n, t.2.2.1, hT, hO.2.2.1, hK.2.2.1, fun μ' a b => hY hq μ' a b⟩⟩
    · cases e : isNB t m' with
      | false => rfl
      | true =>
        have := isNB_iff.mp e
        exact absurd ⟨nI_pos' (by omega), nI_le this.2 (by omega)⟩ y
theorem ok_X5_takesNumber : am_OK (⟨"CarpetLaneModel", "takesNumber", "(II)I"⟩ : MethodName) prog_7_method_74_code 4 (some .int) rm_X5_takesNumber sp_X5_takesNumber := am_mok (cd := cd_X5_takesNumber) E_X5_takesNumber (by decide +kernel) rfl eo_X5_takesNumber (by decide +kernel) (by decide +kernel) (q_RII_h (by decide)) (q_RII_b bd_X5_takesNumber)
