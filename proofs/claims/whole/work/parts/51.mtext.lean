/-! ===== the model: text ===== -/
theorem tok_nx {T : Nat → Nat} {n a : Nat} (ha : a ≤ n) (h0 : ¬ (tok T n a).1 = 0) : a < (tok T n a).2.2.1 := by
  unfold tok at h0 ⊢
  have h1 := skp_le T n 120 a ha
  generalize skp T n 120 a = p at h0 h1 ⊢
  unfold tkF at h0 ⊢
  by_cases q : p < n
  · rw [if_pos q] at h0 ⊢
    by_cases q2 : 97 ≤ T p ∧ T p ≤ 122
    · rw [if_pos q2]
      have := rnn_le T n 97 122 119 (p + 1) (by omega)
      have e : rnn T n 97 122 120 p = rnn T n 97 122 119 (p + 1) := by
        conv => lhs; unfold rnn
        rw [if_pos ⟨q, q2⟩]
      show a < rnn T n 97 122 120 p
      omega
    · rw [if_neg q2]
      by_cases q3 : 48 ≤ T p ∧ T p ≤ 57
      · rw [if_pos q3]
        have := rnn_le T n 48 57 119 (p + 1) (by omega)
        have e : rnn T n 48 57 120 p = rnn T n 48 57 119 (p + 1) := by
          conv => lhs; unfold rnn
          rw [if_pos ⟨q, q3⟩]
        show a < rnn T n 48 57 120 p
        omega
      · rw [if_neg q3]
        show a < p + 1
        omega
  · rw [if_neg q] at h0
    exact absurd rfl h0
theorem tok_ge {T : Nat → Nat} {n a : Nat} (ha : a ≤ n) : a ≤ (tok T n a).2.2.1 := by
  by_cases h : (tok T n a).1 = 0
  · unfold tok at h ⊢
    have h1 := skp_le T n 120 a ha
    generalize skp T n 120 a = p at h h1 ⊢
    unfold tkF at h ⊢
    by_cases q : p < n
    · rw [if_pos q] at h
      exfalso
      by_cases q2 : 97 ≤ T p ∧ T p ≤ 122
      · rw [if_pos q2] at h; exact absurd h (by show ¬ (1 : Nat) = 0; omega)
      · rw [if_neg q2] at h
        by_cases q3 : 48 ≤ T p ∧ T p ≤ 57
        · rw [if_pos q3] at h; exact absurd h (by show ¬ (2 : Nat) = 0; omega)
        · rw [if_neg q3] at h
          have h : (if T p = 59 then 3 else 4) = 0 := h
          split at h <;> omega
    · rw [if_neg q]; exact h1.1
  · exact Nat.le_of_lt (tok_nx ha h)
/-- what a reader leaves is further on -/
def aft (n : Nat) (t t' : tK) : Prop := tkO n t' ∧ t.2.2.1 ≤ t'.2.2.1 ∧ (¬ t'.1 = 0 → t.2.2.1 < t'.2.2.1)
theorem aft_1 {T : Nat → Nat} {n : Nat} {t : tK} (h : tkO n t) : aft n t (nxt T n t) := ⟨nxt_O h, tok_ge h.2.2.1, fun q => tok_nx h.2.2.1 q⟩
theorem aft_s {T : Nat → Nat} {n : Nat} {t t' : tK} (h : aft n t t') : aft n t (nxt T n t') := ⟨nxt_O h.1, Nat.le_trans h.2.1 (tok_ge h.1.2.2.1), fun q => Nat.lt_of_le_of_lt h.2.1 (tok_nx h.1.2.2.1 q)⟩
theorem aft_part {T : Nat → Nat} {n : Nat} {s : cS} {c : Nat} {t t' : tK} {w j : Nat} (h : aft n t t') : aft n t (rPart T n s c t' w j).2.2 := by
  unfold rPart
  split
  · split
    · exact aft_s (aft_s h)
    · exact aft_s h
  · exact h
theorem aft_item {T : Nat → Nat} {n : Nat} {s : cS} {t : tK} (h : tkO n t) (hr : (rItem T n s t).1 = true) : aft n t (rItem T n s t).2.2 := by
  have r1 : aft n t (nxt T n t) := aft_1 h
  unfold rItem at hr ⊢
  split at hr
  · unfold rCarpet at hr ⊢
    split at hr
    · cases hr
    · rename_i i _ h8
      rw [if_neg h8]
      have w1 := aft_part (T := T) (s := lay s (nI i) 1) (c := sn s) (w := 7) (j := 1) r1
      clear hr
      generalize rPart T n (lay s (nI i) 1) (sn s) (nxt T n t) 7 1 = r at w1 ⊢
      have w2 : aft n t (rP2 T n (sn s) r 8 2).2.2 := by
        unfold rP2
        split
        · exact aft_part w1
        · exact w1
      generalize rP2 T n (sn s) r 8 2 = r at w2 ⊢
      have w3 : aft n t (rP2 T n (sn s) r 9 3).2.2 := by
        unfold rP2
        split
        · exact aft_part w2
        · exact w2
      generalize rP2 T n (sn s) r 9 3 = r at w3 ⊢
      unfold rP4
      split
      · unfold rShut
        split
        · exact aft_s w3
        · exact w3
      · exact w3
  · split at hr
    · rename_i q
      rw [if_pos q]
      unfold rBeat
      split
      · split
        · split
          · exact aft_s (aft_s (aft_s r1))
          · exact aft_s (aft_s r1)
        · exact aft_s r1
      · exact r1
    · rename_i q
      rw [if_neg q]
      split at hr
      · rename_i q2
        rw [if_pos q2]
        unfold rAir
        split
        · exact aft_s r1
        · exact r1
      · cases hr
theorem tkk_3 {t : tK} (h : t.1 < 5) : nI (tkk t) = 3 ↔ t.1 = 3 := by
  have hb : tkk t < 5 := by unfold tkk; split <;> omega
  rw [show (3 : Int32) = nI 3 from rfl, nI_eq (by omega) (by omega)]
  unfold tkk
  split <;> omega
theorem tkk_0 {t : tK} (h : t.1 < 5) : nI (tkk t) = 0 ↔ t.1 = 0 := by
  have hb : tkk t < 5 := by unfold tkk; split <;> omega
  rw [show (0 : Int32) = nI 0 from rfl, nI_eq (by omega) (by omega)]
  unfold tkk
  split <;> omega
def FrYM (μ μ' : am_M) : Prop := (∀ k j, k ≠ 50 → k ≠ 52 → ¬ (k = 49 ∧ 6 ≤ j) → μ'.1 k j = μ.1 k j) ∧ μ'.1 49 6 = 0
def f_X5_text (k : Nat) (μ : am_M) (Q : am_Q) : Prop := k = 49 ∧ ∃ T n s, TXM μ T n ∧ LTR μ ∧ RpM 50 μ s ∧ Iw s ∧ ∀ μ', RpM 50 μ' (p_text T n s).2 → FrYM μ μ' → Q (some (.int (p_text T n s).1)) μ'
theorem m1s {v : Nat} (h : v < 1000) : (-1 : Int32) - nI v < 0 := by
  have : ∀ v, v < 1000 → (-1 : Int32) - nI v < 0 := by decide +kernel
  exact this v h
def bi (b : Bool) : Int32 := if b = true then 1 else 0
theorem bi_0 (b : Bool) : bi b = 0 ↔ b = false := by cases b <;> decide
theorem RpM_52 {μ μ' : am_M} {s : cS} (h : RpM 52 μ s) (hn : sn s ≤ 8) (hF : FrLM μ μ') : RpM 52 μ' s := RpM_c h hn (fun j _ => hF 52 j (by omega) (by omega))
def sp_X5_text : am_Sp := q_R f_X5_text
def bk_X5_text_0 : List Instr := [.aload_n 0, .invokevirtual 135, .aload_n 0, .iconst 0, .putfield 184, .aload_n 0, .invokevirtual 215, .iconst 1, .istore_n 1, .aload_n 0, .invokevirtual 232, .istore_n 2]
def bk_X5_text_20 : List Instr := [.iload_n 2, .ifCond .eq 26, .aload_n 0, .getfield 194, .iconst 3, .if_icmp .ne 18, .aload_n 0, .invokevirtual 215, .aload_n 0, .invokevirtual 232, .istore_n 2, .iinc 1 1, .goto (-24)]
def bk_X5_text_47 : List Instr := [.iload_n 2, .ifCond .eq 14, .aload_n 0, .getfield 194, .ifCond .ne 7, .iconst 1, .goto 4]
def bk_X5_text_62 : List Instr := [.iconst 0]
def bk_X5_text_63 : List Instr := [.istore_n 2, .aload_n 0, .iconst 0, .putfield 180, .iload_n 2, .ifCond .ne 14, .aload_n 0, .invokevirtual 138, .iconst (-1), .aload_n 0, .getfield 187, .isub, .ireturn]
def bk_X5_text_84 : List Instr := [.iload_n 1, .ireturn]
def cd_X5_text : am_cd := [(0, bk_X5_text_0), (20, bk_X5_text_20), (47, bk_X5_text_47), (62, bk_X5_text_62), (63, bk_X5_text_63), (84, bk_X5_text_84)]
def E_X5_text : am_E := (3, .int, [(184, 5, 9), (194, 5, 7), (180, 5, 6), (187, 5, 8)], [], [], [(135, 5, 0, sp_X5_setsAside), (215, 5, 0, sp_X5_nextToken), (232, 5, 0, sp_X5_readsItem), (138, 5, 0, sp_X5_laysBack)], [], [])
theorem n_X5_text : am_nL E_X5_text = 3 := Eq.trans rfl rfl
theorem r_X5_text : am_rt E_X5_text = .int := Eq.trans rfl rfl
theorem g_X5_text_0 {At : am_J} {Q : am_Q} {n : Nat} {L S : List Value} {μ : am_M} : am_go E_X5_text cd_X5_text [20, 47, 63] At Q (n + 1) 0 L S μ = am_blk E_X5_text (am_go E_X5_text cd_X5_text [20, 47, 63] At Q n) Q bk_X5_text_0 0 L S μ := Eq.trans rfl rfl
theorem b_X5_text_0 {gt : am_J} {Q : am_Q} {L S : List Value} {μ : am_M} : am_blk E_X5_text gt Q (am_lk [] cd_X5_text 0) 0 L S μ = am_blk E_X5_text gt Q bk_X5_text_0 0 L S μ := Eq.trans rfl rfl
theorem g_X5_text_20 {At : am_J} {Q : am_Q} {n : Nat} {L S : List Value} {μ : am_M} : am_go E_X5_text cd_X5_text [20, 47, 63] At Q (n + 1) 20 L S μ = At 20 L S μ := Eq.trans rfl rfl
theorem b_X5_text_20 {gt : am_J} {Q : am_Q} {L S : List Value} {μ : am_M} : am_blk E_X5_text gt Q (am_lk [] cd_X5_text 20) 20 L S μ = am_blk E_X5_text gt Q bk_X5_text_20 20 L S μ := Eq.trans rfl rfl
theorem g_X5_text_47 {At : am_J} {Q : am_Q} {n : Nat} {L S : List Value} {μ : am_M} : am_go E_X5_text cd_X5_text [20, 47, 63] At Q (n + 1) 47 L S μ = At 47 L S μ := Eq.trans rfl rfl
theorem b_X5_text_47 {gt : am_J} {Q : am_Q} {L S : List Value} {μ : am_M} : am_blk E_X5_text gt Q (am_lk [] cd_X5_text 47) 47 L S μ = am_blk E_X5_text gt Q bk_X5_text_47 47 L S μ := Eq.trans rfl rfl
theorem g_X5_text_62 {At : am_J} {Q : am_Q} {n : Nat} {L S : List Value} {μ : am_M} : am_go E_X5_text cd_X5_text [20, 47, 63] At Q (n + 1) 62 L S μ = am_blk E_X5_text (am_go E_X5_text cd_X5_text [20, 47, 63] At Q n) Q bk_X5_text_62 62 L S μ := Eq.trans rfl rfl
theorem g_X5_text_63 {At : am_J} {Q : am_Q} {n : Nat} {L S : List Value} {μ : am_M} : am_go E_X5_text cd_X5_text [20, 47, 63] At Q (n + 1) 63 L S μ = At 63 L S μ := Eq.trans rfl rfl
theorem b_X5_text_63 {gt : am_J} {Q : am_Q} {L S : List Value} {μ : am_M} : am_blk E_X5_text gt Q (am_lk [] cd_X5_text 63) 63 L S μ = am_blk E_X5_text gt Q bk_X5_text_63 63 L S μ := Eq.trans rfl rfl
theorem g_X5_text_84 {At : am_J} {Q : am_Q} {n : Nat} {L S : List Value} {μ : am_M} : am_go E_X5_text cd_X5_text [20, 47, 63] At Q (n + 1) 84 L S μ = am_blk E_X5_text (am_go E_X5_text cd_X5_text [20, 47, 63] At Q n) Q bk_X5_text_84 84 L S μ := Eq.trans rfl rfl
theorem t_X5_text_21_47 : am_tg 21 26 = 47 := Eq.trans rfl rfl
theorem t_X5_text_29_47 : am_tg 29 18 = 47 := Eq.trans rfl rfl
theorem t_X5_text_44_20 : am_tg 44 (-24) = 20 := Eq.trans rfl rfl
theorem t_X5_text_48_62 : am_tg 48 14 = 62 := Eq.trans rfl rfl
theorem t_X5_text_55_62 : am_tg 55 7 = 62 := Eq.trans rfl rfl
theorem t_X5_text_59_63 : am_tg 59 4 = 63 := Eq.trans rfl rfl
theorem t_X5_text_70_84 : am_tg 70 14 = 84 := Eq.trans rfl rfl
theorem x_X5_text_g184 {pc : Nat} {L S : List Value} {μ : am_M} {nx : am_K} {jp : am_J} {Q : am_Q} {k : Nat} : am_st E_X5_text pc (.getfield 184) L (.ref k :: S) μ nx jp Q = (am_sh k = (5, 0) ∧ nx L (.int (μ.1 k 9) :: S) μ) := Eq.trans rfl rfl
theorem x_X5_text_p184 {pc : Nat} {L S : List Value} {μ : am_M} {nx : am_K} {jp : am_J} {Q : am_Q} {k : Nat} {x : Int32} : am_st E_X5_text pc (.putfield 184) L (.int x :: .ref k :: S) μ nx jp Q = (am_sh k = (5, 0) ∧ 5 < 6 ∧ (0 : Nat) = 0 ∧ (false = true → x = 0 ∨ x = 1) ∧ nx L S (am_set μ k 9 x)) := Eq.trans rfl rfl
theorem x_X5_text_g194 {pc : Nat} {L S : List Value} {μ : am_M} {nx : am_K} {jp : am_J} {Q : am_Q} {k : Nat} : am_st E_X5_text pc (.getfield 194) L (.ref k :: S) μ nx jp Q = (am_sh k = (5, 0) ∧ nx L (.int (μ.1 k 7) :: S) μ) := Eq.trans rfl rfl
theorem x_X5_text_g180 {pc : Nat} {L S : List Value} {μ : am_M} {nx : am_K} {jp : am_J} {Q : am_Q} {k : Nat} : am_st E_X5_text pc (.getfield 180) L (.ref k :: S) μ nx jp Q = (am_sh k = (5, 0) ∧ nx L (.int (μ.1 k 6) :: S) μ) := Eq.trans rfl rfl
theorem x_X5_text_p180 {pc : Nat} {L S : List Value} {μ : am_M} {nx : am_K} {jp : am_J} {Q : am_Q} {k : Nat} {x : Int32} : am_st E_X5_text pc (.putfield 180) L (.int x :: .ref k :: S) μ nx jp Q = (am_sh k = (5, 0) ∧ 5 < 6 ∧ (0 : Nat) = 0 ∧ (false = true → x = 0 ∨ x = 1) ∧ nx L S (am_set μ k 6 x)) := Eq.trans rfl rfl
theorem x_X5_text_g187 {pc : Nat} {L S : List Value} {μ : am_M} {nx : am_K} {jp : am_J} {Q : am_Q} {k : Nat} : am_st E_X5_text pc (.getfield 187) L (.ref k :: S) μ nx jp Q = (am_sh k = (5, 0) ∧ nx L (.int (μ.1 k 8) :: S) μ) := Eq.trans rfl rfl
theorem x_X5_text_v135 {pc : Nat} {L S : List Value} {μ : am_M} {nx : am_K} {jp : am_J} {Q : am_Q} {k : Nat}  : am_st E_X5_text pc (.invokevirtual 135) L (.ref k :: S) μ nx jp Q = (am_sh k = (5, 0) ∧ am_csum S ≤ 8 ∧ f_X5_setsAside k  μ (fun r μ' => nx L (r.toList ++ S) μ')) := Eq.trans rfl rfl
theorem x_X5_text_v215 {pc : Nat} {L S : List Value} {μ : am_M} {nx : am_K} {jp : am_J} {Q : am_Q} {k : Nat}  : am_st E_X5_text pc (.invokevirtual 215) L (.ref k :: S) μ nx jp Q = (am_sh k = (5, 0) ∧ am_csum S ≤ 8 ∧ f_X5_nextToken k  μ (fun r μ' => nx L (r.toList ++ S) μ')) := Eq.trans rfl rfl
theorem x_X5_text_v232 {pc : Nat} {L S : List Value} {μ : am_M} {nx : am_K} {jp : am_J} {Q : am_Q} {k : Nat}  : am_st E_X5_text pc (.invokevirtual 232) L (.ref k :: S) μ nx jp Q = (am_sh k = (5, 0) ∧ am_csum S ≤ 8 ∧ f_X5_readsItem k  μ (fun r μ' => nx L (r.toList ++ S) μ')) := Eq.trans rfl rfl
theorem x_X5_text_v138 {pc : Nat} {L S : List Value} {μ : am_M} {nx : am_K} {jp : am_J} {Q : am_Q} {k : Nat}  : am_st E_X5_text pc (.invokevirtual 138) L (.ref k :: S) μ nx jp Q = (am_sh k = (5, 0) ∧ am_csum S ≤ 8 ∧ f_X5_laysBack k  μ (fun r μ' => nx L (r.toList ++ S) μ')) := Eq.trans rfl rfl
def rm_X5_text : Room := { frames := 6, cells := 0, slots := 0, locals := 132 }
theorem eo_X5_text : am_EO "CarpetLaneModel" rm_X5_text E_X5_text := ⟨(List.forall_mem_cons.mpr ⟨Or.inl ⟨_, rfl, by decide, am_in 766 (by decide +kernel) (by decide +kernel), by decide⟩, (List.forall_mem_cons.mpr ⟨Or.inl ⟨_, rfl, by decide, am_in 764 (by decide +kernel) (by decide +kernel), by decide⟩, (List.forall_mem_cons.mpr ⟨Or.inl ⟨_, rfl, by decide, am_in 763 (by decide +kernel) (by decide +kernel), by decide⟩, (List.forall_mem_cons.mpr ⟨Or.inl ⟨_, rfl, by decide, am_in 765 (by decide +kernel) (by decide +kernel), by decide⟩, (fun _ h => absurd h List.not_mem_nil)⟩)⟩)⟩)⟩), (fun _ h => absurd h List.not_mem_nil), (fun _ h => absurd h List.not_mem_nil), (List.forall_mem_cons.mpr ⟨am_mkV ok_X5_setsAside wv_X5_setsAside (am_in 964 (by decide +kernel) (by decide +kernel)) ⟨rfl, rfl, by decide, by decide⟩, (List.forall_mem_cons.mpr ⟨am_mkV ok_X5_nextToken wv_X5_nextToken (am_in 1085 (by decide +kernel) (by decide +kernel)) ⟨rfl, rfl, by decide, by decide⟩, (List.forall_mem_cons.mpr ⟨am_mkV ok_X5_readsItem wv_X5_readsItem (am_in 1101 (by decide +kernel) (by decide +kernel)) ⟨rfl, rfl, by decide, by decide⟩, (List.forall_mem_cons.mpr ⟨am_mkV ok_X5_laysBack wv_X5_laysBack (am_in 968 (by decide +kernel) (by decide +kernel)) ⟨rfl, rfl, by decide, by decide⟩, (fun _ h => absurd h List.not_mem_nil)⟩)⟩)⟩)⟩), (fun _ h => absurd h List.not_mem_nil), (fun _ h => absurd h List.not_mem_nil)⟩
theorem wv_X5_text : am_WV (⟨"CarpetLaneModel", "text", "()I"⟩ : MethodName) prog_7_method_78_code 3 (some .int) 0 5 := ⟨am_in 64 (by decide +kernel) (by decide +kernel), am_in 1084 (by decide +kernel) (by decide +kernel), by decide +kernel, rfl, by decide, am_in 1082 (by decide +kernel) (by decide +kernel), am_in 1083 (by decide +kernel) (by decide +kernel)⟩
set_option maxRecDepth 20000 in
set_option maxHeartbeats 2000000 in
theorem bd_X5_text (k : Nat) (μ : am_M) (Q : am_Q) (At : am_J) (hA : am_ok E_X5_text cd_X5_text Q At) (h : f_X5_text k μ Q) : At 0 (am_en [.ref k] 3) [] μ := by
  obtain ⟨rfl, T, n, s, hT, hLT, hR, hW, h⟩ := h
  have n8 := hW.1.1
  have hn := hT.1
  obtain ⟨G, hG⟩ : ∃ G, G = rTxt T n 120 1 s (tok T n 0) := ⟨_, rfl⟩
  unfold p_text at h
  rw [← hG] at h
  -- the end, good or not
  have A63 : ∀ (b : Bool) (i : Nat) (d : Int32) (s1 : cS) (t : tK) (μ1 : am_M), (b = true → G = (nI i, s1)) → (b = false → G = (-1 - nI t.2.1, s1)) → i < 1000 → tkO n t → μ1.1 49 8 = nI t.2.1 → RpM 50 μ1 s1 → RpM 52 μ1 s → (∀ k j, k ≠ 50 → k ≠ 52 → ¬ (k = 49 ∧ 6 ≤ j) → μ1.1 k j = μ.1 k j) → At 63 [.ref 49, .int (nI i), .int d] [.int (bi b)] μ1 := by
    intro b i d s1 t μ1 hb1 hb2 hi hO hK hR1 hR2 hF
    have e8 : (am_set μ1 49 6 0).1 49 8 = nI t.2.1 := by rw [set_ne (by omega)]; exact hK
    have hR3 : RpM 52 (am_set μ1 49 6 0) s := RpM_c hR2 n8 (fun j _ => set_ne (by omega))
    have hn2 := hT.1
    refine hA [20, 47, 63] 60 63 _ _ _ ?_
    simp only [s_aload_0, s_iload_0, s_lload_0, s_istore_0, s_lstore_0, s_astore_0, s_aload_1, s_iload_1, s_lload_1, s_istore_1, s_lstore_1, s_astore_1, s_aload_2, s_iload_2, s_lload_2, s_istore_2, s_lstore_2, s_astore_2, s_aload_3, s_iload_3, s_lload_3, s_istore_3, s_lstore_3, s_astore_3, s_aload, s_iload, s_lload, s_istore, s_lstore, s_astore, s_iconst, s_bipush, s_sipush, s_lconst_0, s_lconst_1, s_iinc, s_iadd, s_isub, s_imul, s_iand, s_ior, s_ixor, s_ishl, s_ishr, s_iushr, s_idiv, s_irem, s_ladd, s_lsub, s_lmul, s_ldiv, s_lrem, s_lcmp, s_i2l, s_l2i, s_i2b, s_i2s, s_i2c, s_dupI, s_dupR, s_dup2IR, s_dupx1, s_popI, s_if_eq, s_if_ne, s_if_lt, s_if_ge, s_if_gt, s_if_le, s_cmp_eq, s_cmp_ne, s_cmp_lt, s_cmp_ge, s_cmp_gt, s_cmp_le, s_goto, s_tsw, s_iaload, s_baload, s_caload, s_aaload, s_iastore, s_bastore, s_alen, s_ireturn, s_lreturn, s_return, am_lI_0, am_lI_S, am_lL_0, am_lL_S, am_lR_0, am_lR_S, am_sto_0, am_sto_1I, am_sto_1R, am_sto_1N, am_sto_1L, am_sto_S, am_stL_d, am_blk_0, am_blk_1, am_ln_aload_n, am_ln_iload_n, am_ln_lload_n, am_ln_istore_n, am_ln_lstore_n, am_ln_astore_n, am_ln_iconst, am_ln_lconst, am_ln_iadd, am_ln_isub, am_ln_imul, am_ln_idiv, am_ln_irem, am_ln_iand, am_ln_ior, am_ln_ixor, am_ln_ishl, am_ln_ishr, am_ln_iushr, am_ln_ladd, am_ln_lsub, am_ln_lmul, am_ln_ldiv, am_ln_lrem, am_ln_lcmp, am_ln_i2l, am_ln_l2i, am_ln_i2b, am_ln_i2s, am_ln_i2c, am_ln_dup, am_ln_dup2, am_ln_dup_x1, am_ln_pop, am_ln_iaload, am_ln_iastore, am_ln_baload, am_ln_bastore, am_ln_caload, am_ln_aaload, am_ln_arraylength, am_ln_ireturn, am_ln_lreturn, am_ln_return_, am_ln_aload, am_ln_iload, am_ln_lload, am_ln_istore, am_ln_lstore, am_ln_astore, am_ln_bipush, am_ln_ldc, am_ln_sipush, am_ln_ldc_w, am_ln_ldc2_w, am_ln_iinc, am_ln_ifCond, am_ln_if_icmp, am_ln_goto, am_ln_getfield, am_ln_putfield, am_ln_getstatic, am_ln_invokevirtual, am_ln_invokestatic, am_csum_0, am_csum_I, am_csum_R, am_csum_L, k_im16, k_im8, k_im4, k_im2, k_im1, k_i0, k_i1, k_i2, k_i3, k_i4, k_i5, k_i6, k_i7, k_i8, k_i9, k_i10, k_i11, k_i12, k_i13, k_i14, k_i15, k_i16, k_i17, k_i18, k_i19, k_i20, k_i21, k_i22, k_i23, k_i24, k_i25, k_i26, k_i27, k_i28, k_i29, k_i30, k_i31, k_i32, k_i33, k_i34, k_i35, k_i36, k_i37, k_i38, k_i39, k_i40, k_i41, k_b6, k_b7, k_b8, k_b9, k_b10, k_b11, k_b12, k_b13, k_b14, k_b15, k_b16, k_b17, k_b18, k_b19, k_b20, k_b21, k_b22, k_b23, k_b24, k_b25, k_b26, k_b27, k_b28, k_b29, k_b30, k_b31, k_b32, k_b33, k_b34, k_b35, k_b36, k_b37, k_b38, k_b39, k_b40, k_b41, k_b42, k_b43, k_b44, k_b45, k_b46, k_b47, k_b48, k_b49, k_b50, k_b51, k_b52, k_b53, k_b54, k_b55, k_b56, k_b57, k_b58, k_b59, k_b60, k_b61, k_b62, k_b63, k_b66, k_b76, k_b97, k_b98, k_b99, k_b100, k_b101, k_b102, k_b103, k_b104, k_b105, k_b107, k_b108, k_b109, k_b110, k_b112, k_b114, k_b115, k_b116, k_b117, k_b120, k_b121, k_b122, k_s160, k_s200, k_s255, k_s256, k_s999, k_s2048, k_s4095, k_s9999, k_s10000, k_s12345, k_narI, k_narZ0, k_narZ1, k_ffalse, k_ts0, k_ts1, k_tw0, k_tw1, k_rt, k_rn, Nat.reduceAdd, Nat.zero_add, Nat.reduceLeDiff, Nat.reduceLT, Int.reduceAdd, Int.zero_add, true_and, and_true, List.set_cons_zero, List.set_cons_succ, eq_self, k_n2, k_n3, k_n4, k_n5, k_n6, k_n7, k_n8, k_n9, k_n10, k_n12, k_nn, true_or, or_true, false_or, or_false, k_z10, not_false_eq_true, not_true_eq_false, true_imp_iff, false_imp_iff, n_X5_text, r_X5_text, g_X5_text_0, b_X5_text_0, bk_X5_text_0, g_X5_text_20, b_X5_text_20, bk_X5_text_20, g_X5_text_47, b_X5_text_47, bk_X5_text_47, g_X5_text_62, bk_X5_text_62, g_X5_text_63, b_X5_text_63, bk_X5_text_63, g_X5_text_84, bk_X5_text_84, t_X5_text_21_47, t_X5_text_29_47, t_X5_text_44_20, t_X5_text_48_62, t_X5_text_55_62, t_X5_text_59_63, t_X5_text_70_84, x_X5_text_g184, x_X5_text_p184, x_X5_text_g194, x_X5_text_g180, x_X5_text_p180, x_X5_text_g187, x_X5_text_v135, x_X5_text_v215, x_X5_text_v232, x_X5_text_v138, f_X5_laysBack, bi_0, m49]
    refine ⟨fun z => ?_, fun z μ2 h2 => ?_⟩
    · have z : b = true := by cases b; exact absurd rfl z; rfl
      have g := hb1 z
      rw [g] at h
      rw [if_neg (nI_pos (by omega))] at h
      refine h _ ?_ ⟨fun k j a1 a2 a3 => ?_, set_eq⟩
      · have : RpM 50 (am_set μ1 49 6 0) s1 := by
          obtain ⟨⟨h1, h2, h3, h4⟩, h5, h6, h7⟩ := hR1
          exact ⟨⟨by rw [set_ne (by omega)]; exact h1, by rw [set_ne (by omega)]; exact h2, by rw [set_ne (by omega)]; exact h3, by rw [set_ne (by omega)]; exact h4⟩, fun i hi => by rw [set_ne (by omega)]; exact h5 i hi, fun c f hc hf => by rw [set_ne (by omega)]; exact h6 c f hc hf, fun i hi => by rw [set_ne (by omega)]; exact h7 i hi⟩
        exact this
      · rw [set_ne (by omega)]; exact hF k j a1 a2 a3
    · have g := hb2 z
      rw [g] at h
      have ht : t.2.1 < 1000 := by have := hO.2.1; have := hO.2.2.1; omega
      rw [if_pos (m1s ht)] at h
      rw [h2.2.1 49 (by omega), e8]
      refine h μ2 (R52_b hR3 n8 h2) ⟨fun k j a1 a2 a3 => ?_, ?_⟩
      · rw [h2.2.1 k (by omega), set_ne (by omega)]; exact hF k j a1 a2 a3
      · rw [h2.2.1 49 (by omega)]; exact set_eq
  have A20 : ∀ (u i : Nat) (s1 : cS) (t : tK) (μ1 : am_M), i < 1000 - u → n < (u + 1) + t.2.2.1 → G = rTxt T n (u + 1) i s1 t → tkO n t → Iw s1 → TKM μ1 T (rItem T n s1 t).2.2 → RpM 50 μ1 (rItem T n s1 t).2.1 → RpM 52 μ1 s → (∀ k j, k ≠ 50 → k ≠ 52 → ¬ (k = 49 ∧ 7 ≤ j) → μ1.1 k j = μ.1 k j) → At 20 [.ref 49, .int (nI i), .int (bi (rItem T n s1 t).1)] [] μ1 := by
    intro u
    induction u with
    | zero =>
      intro i s1 t μ1 hi hm hg hO hW1 hK1 hR1 hR2 hF
      have hW2 := Iw_rItem (T := T) (n := n) (t := t) hW1
      have hO2 := O_rItem (T := T) (s := s1) hO
      have haf := aft_item (T := T) (s := s1) hO
      have hg : G = if (rItem T n s1 t).1 = true then (if (rItem T n s1 t).2.2.1 = 0 then (nI i, (rItem T n s1 t).2.1) else if (rItem T n s1 t).2.2.1 = 3 then rTxt T n 0 (i + 1) (rItem T n s1 t).2.1 (nxt T n (rItem T n s1 t).2.2) else (-1 - nI (rItem T n s1 t).2.2.2.1, (rItem T n s1 t).2.1)) else (-1 - nI (rItem T n s1 t).2.2.2.1, (rItem T n s1 t).2.1) := hg
      generalize rItem T n s1 t = r at hK1 hR1 hW2 hO2 haf hg ⊢
      have hF6 : ∀ k j, k ≠ 50 → k ≠ 52 → ¬ (k = 49 ∧ 6 ≤ j) → μ1.1 k j = μ.1 k j := fun k j a1 a2 a3 => hF k j a1 a2 (by omega)
      have e7 := hK1.1
      have A47 : (r.1 = true → ¬ r.2.2.1 = 3) → At 47 [.ref 49, .int (nI i), .int (bi r.1)] [] μ1 := by
        intro h3
        refine hA [20, 47, 63] 60 47 _ _ _ ?_
        simp only [s_aload_0, s_iload_0, s_lload_0, s_istore_0, s_lstore_0, s_astore_0, s_aload_1, s_iload_1, s_lload_1, s_istore_1, s_lstore_1, s_astore_1, s_aload_2, s_iload_2, s_lload_2, s_istore_2, s_lstore_2, s_astore_2, s_aload_3, s_iload_3, s_lload_3, s_istore_3, s_lstore_3, s_astore_3, s_aload, s_iload, s_lload, s_istore, s_lstore, s_astore, s_iconst, s_bipush, s_sipush, s_lconst_0, s_lconst_1, s_iinc, s_iadd, s_isub, s_imul, s_iand, s_ior, s_ixor, s_ishl, s_ishr, s_iushr, s_idiv, s_irem, s_ladd, s_lsub, s_lmul, s_ldiv, s_lrem, s_lcmp, s_i2l, s_l2i, s_i2b, s_i2s, s_i2c, s_dupI, s_dupR, s_dup2IR, s_dupx1, s_popI, s_if_eq, s_if_ne, s_if_lt, s_if_ge, s_if_gt, s_if_le, s_cmp_eq, s_cmp_ne, s_cmp_lt, s_cmp_ge, s_cmp_gt, s_cmp_le, s_goto, s_tsw, s_iaload, s_baload, s_caload, s_aaload, s_iastore, s_bastore, s_alen, s_ireturn, s_lreturn, s_return, am_lI_0, am_lI_S, am_lL_0, am_lL_S, am_lR_0, am_lR_S, am_sto_0, am_sto_1I, am_sto_1R, am_sto_1N, am_sto_1L, am_sto_S, am_stL_d, am_blk_0, am_blk_1, am_ln_aload_n, am_ln_iload_n, am_ln_lload_n, am_ln_istore_n, am_ln_lstore_n, am_ln_astore_n, am_ln_iconst, am_ln_lconst, am_ln_iadd, am_ln_isub, am_ln_imul, am_ln_idiv, am_ln_irem, am_ln_iand, am_ln_ior, am_ln_ixor, am_ln_ishl, am_ln_ishr, am_ln_iushr, am_ln_ladd, am_ln_lsub, am_ln_lmul, am_ln_ldiv, am_ln_lrem, am_ln_lcmp, am_ln_i2l, am_ln_l2i, am_ln_i2b, am_ln_i2s, am_ln_i2c, am_ln_dup, am_ln_dup2, am_ln_dup_x1, am_ln_pop, am_ln_iaload, am_ln_iastore, am_ln_baload, am_ln_bastore, am_ln_caload, am_ln_aaload, am_ln_arraylength, am_ln_ireturn, am_ln_lreturn, am_ln_return_, am_ln_aload, am_ln_iload, am_ln_lload, am_ln_istore, am_ln_lstore, am_ln_astore, am_ln_bipush, am_ln_ldc, am_ln_sipush, am_ln_ldc_w, am_ln_ldc2_w, am_ln_iinc, am_ln_ifCond, am_ln_if_icmp, am_ln_goto, am_ln_getfield, am_ln_putfield, am_ln_getstatic, am_ln_invokevirtual, am_ln_invokestatic, am_csum_0, am_csum_I, am_csum_R, am_csum_L, k_im16, k_im8, k_im4, k_im2, k_im1, k_i0, k_i1, k_i2, k_i3, k_i4, k_i5, k_i6, k_i7, k_i8, k_i9, k_i10, k_i11, k_i12, k_i13, k_i14, k_i15, k_i16, k_i17, k_i18, k_i19, k_i20, k_i21, k_i22, k_i23, k_i24, k_i25, k_i26, k_i27, k_i28, k_i29, k_i30, k_i31, k_i32, k_i33, k_i34, k_i35, k_i36, k_i37, k_i38, k_i39, k_i40, k_i41, k_b6, k_b7, k_b8, k_b9, k_b10, k_b11, k_b12, k_b13, k_b14, k_b15, k_b16, k_b17, k_b18, k_b19, k_b20, k_b21, k_b22, k_b23, k_b24, k_b25, k_b26, k_b27, k_b28, k_b29, k_b30, k_b31, k_b32, k_b33, k_b34, k_b35, k_b36, k_b37, k_b38, k_b39, k_b40, k_b41, k_b42, k_b43, k_b44, k_b45, k_b46, k_b47, k_b48, k_b49, k_b50, k_b51, k_b52, k_b53, k_b54, k_b55, k_b56, k_b57, k_b58, k_b59, k_b60, k_b61, k_b62, k_b63, k_b66, k_b76, k_b97, k_b98, k_b99, k_b100, k_b101, k_b102, k_b103, k_b104, k_b105, k_b107, k_b108, k_b109, k_b110, k_b112, k_b114, k_b115, k_b116, k_b117, k_b120, k_b121, k_b122, k_s160, k_s200, k_s255, k_s256, k_s999, k_s2048, k_s4095, k_s9999, k_s10000, k_s12345, k_narI, k_narZ0, k_narZ1, k_ffalse, k_ts0, k_ts1, k_tw0, k_tw1, k_rt, k_rn, Nat.reduceAdd, Nat.zero_add, Nat.reduceLeDiff, Nat.reduceLT, Int.reduceAdd, Int.zero_add, true_and, and_true, List.set_cons_zero, List.set_cons_succ, eq_self, k_n2, k_n3, k_n4, k_n5, k_n6, k_n7, k_n8, k_n9, k_n10, k_n12, k_nn, true_or, or_true, false_or, or_false, k_z10, not_false_eq_true, not_true_eq_false, true_imp_iff, false_imp_iff, n_X5_text, r_X5_text, g_X5_text_0, b_X5_text_0, bk_X5_text_0, g_X5_text_20, b_X5_text_20, bk_X5_text_20, g_X5_text_47, b_X5_text_47, bk_X5_text_47, g_X5_text_62, bk_X5_text_62, g_X5_text_63, b_X5_text_63, bk_X5_text_63, g_X5_text_84, bk_X5_text_84, t_X5_text_21_47, t_X5_text_29_47, t_X5_text_44_20, t_X5_text_48_62, t_X5_text_55_62, t_X5_text_59_63, t_X5_text_70_84, x_X5_text_g184, x_X5_text_p184, x_X5_text_g194, x_X5_text_g180, x_X5_text_p180, x_X5_text_g187, x_X5_text_v135, x_X5_text_v215, x_X5_text_v232, x_X5_text_v138, e7, tkk_0 hO2.1, bi_0, m49]
        refine ⟨fun z => ?_, fun z => ⟨fun z2 => ?_, fun z2 => ?_⟩⟩
        · exact A63 false i _ r.2.1 r.2.2 μ1 (fun q => by cases q) (fun _ => by rw [hg, z, if_neg (by decide)]) (by omega) hO2 hK1.2.1 hR1 hR2 hF6
        · have z' : r.1 = true := by cases e : r.1; exact absurd e z; rfl
          exact A63 false i _ r.2.1 r.2.2 μ1 (fun q => by cases q) (fun _ => by rw [hg, if_pos z', if_neg z2, if_neg (h3 z')]) (by omega) hO2 hK1.2.1 hR1 hR2 hF6
        · have z' : r.1 = true := by cases e : r.1; exact absurd e z; rfl
          exact A63 true i _ r.2.1 r.2.2 μ1 (fun _ => by rw [hg, if_pos z', if_pos z2]) (fun q => by cases q) (by omega) hO2 hK1.2.1 hR1 hR2 hF6
      refine hA [20, 47, 63] 60 20 _ _ _ ?_
      simp only [s_aload_0, s_iload_0, s_lload_0, s_istore_0, s_lstore_0, s_astore_0, s_aload_1, s_iload_1, s_lload_1, s_istore_1, s_lstore_1, s_astore_1, s_aload_2, s_iload_2, s_lload_2, s_istore_2, s_lstore_2, s_astore_2, s_aload_3, s_iload_3, s_lload_3, s_istore_3, s_lstore_3, s_astore_3, s_aload, s_iload, s_lload, s_istore, s_lstore, s_astore, s_iconst, s_bipush, s_sipush, s_lconst_0, s_lconst_1, s_iinc, s_iadd, s_isub, s_imul, s_iand, s_ior, s_ixor, s_ishl, s_ishr, s_iushr, s_idiv, s_irem, s_ladd, s_lsub, s_lmul, s_ldiv, s_lrem, s_lcmp, s_i2l, s_l2i, s_i2b, s_i2s, s_i2c, s_dupI, s_dupR, s_dup2IR, s_dupx1, s_popI, s_if_eq, s_if_ne, s_if_lt, s_if_ge, s_if_gt, s_if_le, s_cmp_eq, s_cmp_ne, s_cmp_lt, s_cmp_ge, s_cmp_gt, s_cmp_le, s_goto, s_tsw, s_iaload, s_baload, s_caload, s_aaload, s_iastore, s_bastore, s_alen, s_ireturn, s_lreturn, s_return, am_lI_0, am_lI_S, am_lL_0, am_lL_S, am_lR_0, am_lR_S, am_sto_0, am_sto_1I, am_sto_1R, am_sto_1N, am_sto_1L, am_sto_S, am_stL_d, am_blk_0, am_blk_1, am_ln_aload_n, am_ln_iload_n, am_ln_lload_n, am_ln_istore_n, am_ln_lstore_n, am_ln_astore_n, am_ln_iconst, am_ln_lconst, am_ln_iadd, am_ln_isub, am_ln_imul, am_ln_idiv, am_ln_irem, am_ln_iand, am_ln_ior, am_ln_ixor, am_ln_ishl, am_ln_ishr, am_ln_iushr, am_ln_ladd, am_ln_lsub, am_ln_lmul, am_ln_ldiv, am_ln_lrem, am_ln_lcmp, am_ln_i2l, am_ln_l2i, am_ln_i2b, am_ln_i2s, am_ln_i2c, am_ln_dup, am_ln_dup2, am_ln_dup_x1, am_ln_pop, am_ln_iaload, am_ln_iastore, am_ln_baload, am_ln_bastore, am_ln_caload, am_ln_aaload, am_ln_arraylength, am_ln_ireturn, am_ln_lreturn, am_ln_return_, am_ln_aload, am_ln_iload, am_ln_lload, am_ln_istore, am_ln_lstore, am_ln_astore, am_ln_bipush, am_ln_ldc, am_ln_sipush, am_ln_ldc_w, am_ln_ldc2_w, am_ln_iinc, am_ln_ifCond, am_ln_if_icmp, am_ln_goto, am_ln_getfield, am_ln_putfield, am_ln_getstatic, am_ln_invokevirtual, am_ln_invokestatic, am_csum_0, am_csum_I, am_csum_R, am_csum_L, k_im16, k_im8, k_im4, k_im2, k_im1, k_i0, k_i1, k_i2, k_i3, k_i4, k_i5, k_i6, k_i7, k_i8, k_i9, k_i10, k_i11, k_i12, k_i13, k_i14, k_i15, k_i16, k_i17, k_i18, k_i19, k_i20, k_i21, k_i22, k_i23, k_i24, k_i25, k_i26, k_i27, k_i28, k_i29, k_i30, k_i31, k_i32, k_i33, k_i34, k_i35, k_i36, k_i37, k_i38, k_i39, k_i40, k_i41, k_b6, k_b7, k_b8, k_b9, k_b10, k_b11, k_b12, k_b13, k_b14, k_b15, k_b16, k_b17, k_b18, k_b19, k_b20, k_b21, k_b22, k_b23, k_b24, k_b25, k_b26, k_b27, k_b28, k_b29, k_b30, k_b31, k_b32, k_b33, k_b34, k_b35, k_b36, k_b37, k_b38, k_b39, k_b40, k_b41, k_b42, k_b43, k_b44, k_b45, k_b46, k_b47, k_b48, k_b49, k_b50, k_b51, k_b52, k_b53, k_b54, k_b55, k_b56, k_b57, k_b58, k_b59, k_b60, k_b61, k_b62, k_b63, k_b66, k_b76, k_b97, k_b98, k_b99, k_b100, k_b101, k_b102, k_b103, k_b104, k_b105, k_b107, k_b108, k_b109, k_b110, k_b112, k_b114, k_b115, k_b116, k_b117, k_b120, k_b121, k_b122, k_s160, k_s200, k_s255, k_s256, k_s999, k_s2048, k_s4095, k_s9999, k_s10000, k_s12345, k_narI, k_narZ0, k_narZ1, k_ffalse, k_ts0, k_ts1, k_tw0, k_tw1, k_rt, k_rn, Nat.reduceAdd, Nat.zero_add, Nat.reduceLeDiff, Nat.reduceLT, Int.reduceAdd, Int.zero_add, true_and, and_true, List.set_cons_zero, List.set_cons_succ, eq_self, k_n2, k_n3, k_n4, k_n5, k_n6, k_n7, k_n8, k_n9, k_n10, k_n12, k_nn, true_or, or_true, false_or, or_false, k_z10, not_false_eq_true, not_true_eq_false, true_imp_iff, false_imp_iff, n_X5_text, r_X5_text, g_X5_text_0, b_X5_text_0, bk_X5_text_0, g_X5_text_20, b_X5_text_20, bk_X5_text_20, g_X5_text_47, b_X5_text_47, bk_X5_text_47, g_X5_text_62, bk_X5_text_62, g_X5_text_63, b_X5_text_63, bk_X5_text_63, g_X5_text_84, bk_X5_text_84, t_X5_text_21_47, t_X5_text_29_47, t_X5_text_44_20, t_X5_text_48_62, t_X5_text_55_62, t_X5_text_59_63, t_X5_text_70_84, x_X5_text_g184, x_X5_text_p184, x_X5_text_g194, x_X5_text_g180, x_X5_text_p180, x_X5_text_g187, x_X5_text_v135, x_X5_text_v215, x_X5_text_v232, x_X5_text_v138, e7, tkk_3 hO2.1, bi_0, m49]
      refine ⟨fun z => A47 (fun q => by rw [z] at q; cases q), fun z => ⟨fun z2 => A47 (fun _ => z2), fun z2 => ?_⟩⟩
      exfalso
      have z' : r.1 = true := by cases e : r.1; exact absurd e z; rfl
      have := (haf z').2.2 (by rw [z2]; omega)
      have := hO2.2.2.1
      omega
    | succ u ih =>
      intro i s1 t μ1 hi hm hg hO hW1 hK1 hR1 hR2 hF
      have hW2 := Iw_rItem (T := T) (n := n) (t := t) hW1
      have hO2 := O_rItem (T := T) (s := s1) hO
      have haf := aft_item (T := T) (s := s1) hO
      have hg : G = if (rItem T n s1 t).1 = true then (if (rItem T n s1 t).2.2.1 = 0 then (nI i, (rItem T n s1 t).2.1) else if (rItem T n s1 t).2.2.1 = 3 then rTxt T n (u + 1) (i + 1) (rItem T n s1 t).2.1 (nxt T n (rItem T n s1 t).2.2) else (-1 - nI (rItem T n s1 t).2.2.2.1, (rItem T n s1 t).2.1)) else (-1 - nI (rItem T n s1 t).2.2.2.1, (rItem T n s1 t).2.1) := hg
      generalize rItem T n s1 t = r at hK1 hR1 hW2 hO2 haf hg ⊢
      have hF6 : ∀ k j, k ≠ 50 → k ≠ 52 → ¬ (k = 49 ∧ 6 ≤ j) → μ1.1 k j = μ.1 k j := fun k j a1 a2 a3 => hF k j a1 a2 (by omega)
      have e7 := hK1.1
      have A47 : (r.1 = true → ¬ r.2.2.1 = 3) → At 47 [.ref 49, .int (nI i), .int (bi r.1)] [] μ1 := by
        intro h3
        refine hA [20, 47, 63] 60 47 _ _ _ ?_
        simp only [s_aload_0, s_iload_0, s_lload_0, s_istore_0, s_lstore_0, s_astore_0, s_aload_1, s_iload_1, s_lload_1, s_istore_1, s_lstore_1, s_astore_1, s_aload_2, s_iload_2, s_lload_2, s_istore_2, s_lstore_2, s_astore_2, s_aload_3, s_iload_3, s_lload_3, s_istore_3, s_lstore_3, s_astore_3, s_aload, s_iload, s_lload, s_istore, s_lstore, s_astore, s_iconst, s_bipush, s_sipush, s_lconst_0, s_lconst_1, s_iinc, s_iadd, s_isub, s_imul, s_iand, s_ior, s_ixor, s_ishl, s_ishr, s_iushr, s_idiv, s_irem, s_ladd, s_lsub, s_lmul, s_ldiv, s_lrem, s_lcmp, s_i2l, s_l2i, s_i2b, s_i2s, s_i2c, s_dupI, s_dupR, s_dup2IR, s_dupx1, s_popI, s_if_eq, s_if_ne, s_if_lt, s_if_ge, s_if_gt, s_if_le, s_cmp_eq, s_cmp_ne, s_cmp_lt, s_cmp_ge, s_cmp_gt, s_cmp_le, s_goto, s_tsw, s_iaload, s_baload, s_caload, s_aaload, s_iastore, s_bastore, s_alen, s_ireturn, s_lreturn, s_return, am_lI_0, am_lI_S, am_lL_0, am_lL_S, am_lR_0, am_lR_S, am_sto_0, am_sto_1I, am_sto_1R, am_sto_1N, am_sto_1L, am_sto_S, am_stL_d, am_blk_0, am_blk_1, am_ln_aload_n, am_ln_iload_n, am_ln_lload_n, am_ln_istore_n, am_ln_lstore_n, am_ln_astore_n, am_ln_iconst, am_ln_lconst, am_ln_iadd, am_ln_isub, am_ln_imul, am_ln_idiv, am_ln_irem, am_ln_iand, am_ln_ior, am_ln_ixor, am_ln_ishl, am_ln_ishr, am_ln_iushr, am_ln_ladd, am_ln_lsub, am_ln_lmul, am_ln_ldiv, am_ln_lrem, am_ln_lcmp, am_ln_i2l, am_ln_l2i, am_ln_i2b, am_ln_i2s, am_ln_i2c, am_ln_dup, am_ln_dup2, am_ln_dup_x1, am_ln_pop, am_ln_iaload, am_ln_iastore, am_ln_baload, am_ln_bastore, am_ln_caload, am_ln_aaload, am_ln_arraylength, am_ln_ireturn, am_ln_lreturn, am_ln_return_, am_ln_aload, am_ln_iload, am_ln_lload, am_ln_istore, am_ln_lstore, am_ln_astore, am_ln_bipush, am_ln_ldc, am_ln_sipush, am_ln_ldc_w, am_ln_ldc2_w, am_ln_iinc, am_ln_ifCond, am_ln_if_icmp, am_ln_goto, am_ln_getfield, am_ln_putfield, am_ln_getstatic, am_ln_invokevirtual, am_ln_invokestatic, am_csum_0, am_csum_I, am_csum_R, am_csum_L, k_im16, k_im8, k_im4, k_im2, k_im1, k_i0, k_i1, k_i2, k_i3, k_i4, k_i5, k_i6, k_i7, k_i8, k_i9, k_i10, k_i11, k_i12, k_i13, k_i14, k_i15, k_i16, k_i17, k_i18, k_i19, k_i20, k_i21, k_i22, k_i23, k_i24, k_i25, k_i26, k_i27, k_i28, k_i29, k_i30, k_i31, k_i32, k_i33, k_i34, k_i35, k_i36, k_i37, k_i38, k_i39, k_i40, k_i41, k_b6, k_b7, k_b8, k_b9, k_b10, k_b11, k_b12, k_b13, k_b14, k_b15, k_b16, k_b17, k_b18, k_b19, k_b20, k_b21, k_b22, k_b23, k_b24, k_b25, k_b26, k_b27, k_b28, k_b29, k_b30, k_b31, k_b32, k_b33, k_b34, k_b35, k_b36, k_b37, k_b38, k_b39, k_b40, k_b41, k_b42, k_b43, k_b44, k_b45, k_b46, k_b47, k_b48, k_b49, k_b50, k_b51, k_b52, k_b53, k_b54, k_b55, k_b56, k_b57, k_b58, k_b59, k_b60, k_b61, k_b62, k_b63, k_b66, k_b76, k_b97, k_b98, k_b99, k_b100, k_b101, k_b102, k_b103, k_b104, k_b105, k_b107, k_b108, k_b109, k_b110, k_b112, k_b114, k_b115, k_b116, k_b117, k_b120, k_b121, k_b122, k_s160, k_s200, k_s255, k_s256, k_s999, k_s2048, k_s4095, k_s9999, k_s10000, k_s12345, k_narI, k_narZ0, k_narZ1, k_ffalse, k_ts0, k_ts1, k_tw0, k_tw1, k_rt, k_rn, Nat.reduceAdd, Nat.zero_add, Nat.reduceLeDiff, Nat.reduceLT, Int.reduceAdd, Int.zero_add, true_and, and_true, List.set_cons_zero, List.set_cons_succ, eq_self, k_n2, k_n3, k_n4, k_n5, k_n6, k_n7, k_n8, k_n9, k_n10, k_n12, k_nn, true_or, or_true, false_or, or_false, k_z10, not_false_eq_true, not_true_eq_false, true_imp_iff, false_imp_iff, n_X5_text, r_X5_text, g_X5_text_0, b_X5_text_0, bk_X5_text_0, g_X5_text_20, b_X5_text_20, bk_X5_text_20, g_X5_text_47, b_X5_text_47, bk_X5_text_47, g_X5_text_62, bk_X5_text_62, g_X5_text_63, b_X5_text_63, bk_X5_text_63, g_X5_text_84, bk_X5_text_84, t_X5_text_21_47, t_X5_text_29_47, t_X5_text_44_20, t_X5_text_48_62, t_X5_text_55_62, t_X5_text_59_63, t_X5_text_70_84, x_X5_text_g184, x_X5_text_p184, x_X5_text_g194, x_X5_text_g180, x_X5_text_p180, x_X5_text_g187, x_X5_text_v135, x_X5_text_v215, x_X5_text_v232, x_X5_text_v138, e7, tkk_0 hO2.1, bi_0, m49]
        refine ⟨fun z => ?_, fun z => ⟨fun z2 => ?_, fun z2 => ?_⟩⟩
        · exact A63 false i _ r.2.1 r.2.2 μ1 (fun q => by cases q) (fun _ => by rw [hg, z, if_neg (by decide)]) (by omega) hO2 hK1.2.1 hR1 hR2 hF6
        · have z' : r.1 = true := by cases e : r.1; exact absurd e z; rfl
          exact A63 false i _ r.2.1 r.2.2 μ1 (fun q => by cases q) (fun _ => by rw [hg, if_pos z', if_neg z2, if_neg (h3 z')]) (by omega) hO2 hK1.2.1 hR1 hR2 hF6
        · have z' : r.1 = true := by cases e : r.1; exact absurd e z; rfl
          exact A63 true i _ r.2.1 r.2.2 μ1 (fun _ => by rw [hg, if_pos z', if_pos z2]) (fun q => by cases q) (by omega) hO2 hK1.2.1 hR1 hR2 hF6
      refine hA [20, 47, 63] 60 20 _ _ _ ?_
      simp only [s_aload_0, s_iload_0, s_lload_0, s_istore_0, s_lstore_0, s_astore_0, s_aload_1, s_iload_1, s_lload_1, s_istore_1, s_lstore_1, s_astore_1, s_aload_2, s_iload_2, s_lload_2, s_istore_2, s_lstore_2, s_astore_2, s_aload_3, s_iload_3, s_lload_3, s_istore_3, s_lstore_3, s_astore_3, s_aload, s_iload, s_lload, s_istore, s_lstore, s_astore, s_iconst, s_bipush, s_sipush, s_lconst_0, s_lconst_1, s_iinc, s_iadd, s_isub, s_imul, s_iand, s_ior, s_ixor, s_ishl, s_ishr, s_iushr, s_idiv, s_irem, s_ladd, s_lsub, s_lmul, s_ldiv, s_lrem, s_lcmp, s_i2l, s_l2i, s_i2b, s_i2s, s_i2c, s_dupI, s_dupR, s_dup2IR, s_dupx1, s_popI, s_if_eq, s_if_ne, s_if_lt, s_if_ge, s_if_gt, s_if_le, s_cmp_eq, s_cmp_ne, s_cmp_lt, s_cmp_ge, s_cmp_gt, s_cmp_le, s_goto, s_tsw, s_iaload, s_baload, s_caload, s_aaload, s_iastore, s_bastore, s_alen, s_ireturn, s_lreturn, s_return, am_lI_0, am_lI_S, am_lL_0, am_lL_S, am_lR_0, am_lR_S, am_sto_0, am_sto_1I, am_sto_1R, am_sto_1N, am_sto_1L, am_sto_S, am_stL_d, am_blk_0, am_blk_1, am_ln_aload_n, am_ln_iload_n, am_ln_lload_n, am_ln_istore_n, am_ln_lstore_n, am_ln_astore_n, am_ln_iconst, am_ln_lconst, am_ln_iadd, am_ln_isub, am_ln_imul, am_ln_idiv, am_ln_irem, am_ln_iand, am_ln_ior, am_ln_ixor, am_ln_ishl, am_ln_ishr, am_ln_iushr, am_ln_ladd, am_ln_lsub, am_ln_lmul, am_ln_ldiv, am_ln_lrem, am_ln_lcmp, am_ln_i2l, am_ln_l2i, am_ln_i2b, am_ln_i2s, am_ln_i2c, am_ln_dup, am_ln_dup2, am_ln_dup_x1, am_ln_pop, am_ln_iaload, am_ln_iastore, am_ln_baload, am_ln_bastore, am_ln_caload, am_ln_aaload, am_ln_arraylength, am_ln_ireturn, am_ln_lreturn, am_ln_return_, am_ln_aload, am_ln_iload, am_ln_lload, am_ln_istore, am_ln_lstore, am_ln_astore, am_ln_bipush, am_ln_ldc, am_ln_sipush, am_ln_ldc_w, am_ln_ldc2_w, am_ln_iinc, am_ln_ifCond, am_ln_if_icmp, am_ln_goto, am_ln_getfield, am_ln_putfield, am_ln_getstatic, am_ln_invokevirtual, am_ln_invokestatic, am_csum_0, am_csum_I, am_csum_R, am_csum_L, k_im16, k_im8, k_im4, k_im2, k_im1, k_i0, k_i1, k_i2, k_i3, k_i4, k_i5, k_i6, k_i7, k_i8, k_i9, k_i10, k_i11, k_i12, k_i13, k_i14, k_i15, k_i16, k_i17, k_i18, k_i19, k_i20, k_i21, k_i22, k_i23, k_i24, k_i25, k_i26, k_i27, k_i28, k_i29, k_i30, k_i31, k_i32, k_i33, k_i34, k_i35, k_i36, k_i37, k_i38, k_i39, k_i40, k_i41, k_b6, k_b7, k_b8, k_b9, k_b10, k_b11, k_b12, k_b13, k_b14, k_b15, k_b16, k_b17, k_b18, k_b19, k_b20, k_b21, k_b22, k_b23, k_b24, k_b25, k_b26, k_b27, k_b28, k_b29, k_b30, k_b31, k_b32, k_b33, k_b34, k_b35, k_b36, k_b37, k_b38, k_b39, k_b40, k_b41, k_b42, k_b43, k_b44, k_b45, k_b46, k_b47, k_b48, k_b49, k_b50, k_b51, k_b52, k_b53, k_b54, k_b55, k_b56, k_b57, k_b58, k_b59, k_b60, k_b61, k_b62, k_b63, k_b66, k_b76, k_b97, k_b98, k_b99, k_b100, k_b101, k_b102, k_b103, k_b104, k_b105, k_b107, k_b108, k_b109, k_b110, k_b112, k_b114, k_b115, k_b116, k_b117, k_b120, k_b121, k_b122, k_s160, k_s200, k_s255, k_s256, k_s999, k_s2048, k_s4095, k_s9999, k_s10000, k_s12345, k_narI, k_narZ0, k_narZ1, k_ffalse, k_ts0, k_ts1, k_tw0, k_tw1, k_rt, k_rn, Nat.reduceAdd, Nat.zero_add, Nat.reduceLeDiff, Nat.reduceLT, Int.reduceAdd, Int.zero_add, true_and, and_true, List.set_cons_zero, List.set_cons_succ, eq_self, k_n2, k_n3, k_n4, k_n5, k_n6, k_n7, k_n8, k_n9, k_n10, k_n12, k_nn, true_or, or_true, false_or, or_false, k_z10, not_false_eq_true, not_true_eq_false, true_imp_iff, false_imp_iff, n_X5_text, r_X5_text, g_X5_text_0, b_X5_text_0, bk_X5_text_0, g_X5_text_20, b_X5_text_20, bk_X5_text_20, g_X5_text_47, b_X5_text_47, bk_X5_text_47, g_X5_text_62, bk_X5_text_62, g_X5_text_63, b_X5_text_63, bk_X5_text_63, g_X5_text_84, bk_X5_text_84, t_X5_text_21_47, t_X5_text_29_47, t_X5_text_44_20, t_X5_text_48_62, t_X5_text_55_62, t_X5_text_59_63, t_X5_text_70_84, x_X5_text_g184, x_X5_text_p184, x_X5_text_g194, x_X5_text_g180, x_X5_text_p180, x_X5_text_g187, x_X5_text_v135, x_X5_text_v215, x_X5_text_v232, x_X5_text_v138, e7, tkk_3 hO2.1, bi_0, f_X5_nextToken, f_X5_readsItem, rEM, nI_1, m49]
      refine ⟨fun z => A47 (fun q => by rw [z] at q; cases q), fun z => ⟨fun z2 => A47 (fun _ => z2), fun z2 => ?_⟩⟩
      have z' : r.1 = true := by cases e : r.1; exact absurd e z; rfl
      have ha := (haf z').2.2 (by rw [z2]; omega)
      rw [if_pos z', if_neg (by omega), if_pos z2] at hg
      have hFL : ∀ {μ2 : am_M}, FrLM μ1 μ2 → ∀ k j, k ≠ 50 → k ≠ 52 → ¬ (k = 49 ∧ 7 ≤ j) → μ2.1 k j = μ.1 k j := fun q k j a1 a2 a3 => (q k j a1 a3).trans (hF k j a1 a2 a3)
      have hT1 : TXM μ1 T n := ⟨hT.1, by rw [hF 49 6 (by omega) (by omega) (by omega)]; exact hT.2.1, fun i hi => ⟨(hT.2.2 i hi).1, by rw [hF 54 i (by omega) (by omega) (by omega)]; exact (hT.2.2 i hi).2⟩⟩
      have hLT1 : LTR μ1 := fun a o N hW w hw j hj => by
        have ha : a ≠ 50 ∧ a ≠ 49 ∧ a ≠ 52 := by rcases hW with q | q | q <;> omega
        rw [hF a _ ha.1 ha.2.2 (by omega)]
        exact hLT a o N hW w hw j hj
      refine ⟨T, n, r.2.2.2.2.1, hT1, hO2.2.2.1, hK1.2.2.1, fun μ2 hK2 hF2 => ?_⟩
      have hO3 : tkO n (nxt T n r.2.2) := nxt_O hO2
      have hge : r.2.2.2.2.1 ≤ (nxt T n r.2.2).2.2.1 := tok_ge hO2.2.2.1
      refine ⟨T, n, nxt T n r.2.2, r.2.1, TXM_P hT1 hF2, hK2, hO3, tok_L hO2.2.2.1, LTR_L hLT1 (FrLM_P hF2), RpM_PM hR1 hF2 hW2.1.1, hW2, fun μ3 hK3 hR3 hF3 => ?_⟩
      have hF23 := FrLM_tr (FrLM_P hF2) hF3
      have R := ih (i + 1) r.2.1 (nxt T n r.2.2) μ3 (by omega) (by omega) hg hO3 hW2 hK3 hR3 (RpM_52 hR2 n8 hF23) (hFL hF23)
      refine ⟨fun q => ?_, fun q => ?_⟩
      · rw [q] at R; exact R
      · rw [q] at R; exact R
  refine hA [20, 47, 63] 60 0 _ _ _ ?_; show am_blk _ _ _ _ _ [_, .null, .null] _ _
  simp only [s_aload_0, s_iload_0, s_lload_0, s_istore_0, s_lstore_0, s_astore_0, s_aload_1, s_iload_1, s_lload_1, s_istore_1, s_lstore_1, s_astore_1, s_aload_2, s_iload_2, s_lload_2, s_istore_2, s_lstore_2, s_astore_2, s_aload_3, s_iload_3, s_lload_3, s_istore_3, s_lstore_3, s_astore_3, s_aload, s_iload, s_lload, s_istore, s_lstore, s_astore, s_iconst, s_bipush, s_sipush, s_lconst_0, s_lconst_1, s_iinc, s_iadd, s_isub, s_imul, s_iand, s_ior, s_ixor, s_ishl, s_ishr, s_iushr, s_idiv, s_irem, s_ladd, s_lsub, s_lmul, s_ldiv, s_lrem, s_lcmp, s_i2l, s_l2i, s_i2b, s_i2s, s_i2c, s_dupI, s_dupR, s_dup2IR, s_dupx1, s_popI, s_if_eq, s_if_ne, s_if_lt, s_if_ge, s_if_gt, s_if_le, s_cmp_eq, s_cmp_ne, s_cmp_lt, s_cmp_ge, s_cmp_gt, s_cmp_le, s_goto, s_tsw, s_iaload, s_baload, s_caload, s_aaload, s_iastore, s_bastore, s_alen, s_ireturn, s_lreturn, s_return, am_lI_0, am_lI_S, am_lL_0, am_lL_S, am_lR_0, am_lR_S, am_sto_0, am_sto_1I, am_sto_1R, am_sto_1N, am_sto_1L, am_sto_S, am_stL_d, am_blk_0, am_blk_1, am_ln_aload_n, am_ln_iload_n, am_ln_lload_n, am_ln_istore_n, am_ln_lstore_n, am_ln_astore_n, am_ln_iconst, am_ln_lconst, am_ln_iadd, am_ln_isub, am_ln_imul, am_ln_idiv, am_ln_irem, am_ln_iand, am_ln_ior, am_ln_ixor, am_ln_ishl, am_ln_ishr, am_ln_iushr, am_ln_ladd, am_ln_lsub, am_ln_lmul, am_ln_ldiv, am_ln_lrem, am_ln_lcmp, am_ln_i2l, am_ln_l2i, am_ln_i2b, am_ln_i2s, am_ln_i2c, am_ln_dup, am_ln_dup2, am_ln_dup_x1, am_ln_pop, am_ln_iaload, am_ln_iastore, am_ln_baload, am_ln_bastore, am_ln_caload, am_ln_aaload, am_ln_arraylength, am_ln_ireturn, am_ln_lreturn, am_ln_return_, am_ln_aload, am_ln_iload, am_ln_lload, am_ln_istore, am_ln_lstore, am_ln_astore, am_ln_bipush, am_ln_ldc, am_ln_sipush, am_ln_ldc_w, am_ln_ldc2_w, am_ln_iinc, am_ln_ifCond, am_ln_if_icmp, am_ln_goto, am_ln_getfield, am_ln_putfield, am_ln_getstatic, am_ln_invokevirtual, am_ln_invokestatic, am_csum_0, am_csum_I, am_csum_R, am_csum_L, k_im16, k_im8, k_im4, k_im2, k_im1, k_i0, k_i1, k_i2, k_i3, k_i4, k_i5, k_i6, k_i7, k_i8, k_i9, k_i10, k_i11, k_i12, k_i13, k_i14, k_i15, k_i16, k_i17, k_i18, k_i19, k_i20, k_i21, k_i22, k_i23, k_i24, k_i25, k_i26, k_i27, k_i28, k_i29, k_i30, k_i31, k_i32, k_i33, k_i34, k_i35, k_i36, k_i37, k_i38, k_i39, k_i40, k_i41, k_b6, k_b7, k_b8, k_b9, k_b10, k_b11, k_b12, k_b13, k_b14, k_b15, k_b16, k_b17, k_b18, k_b19, k_b20, k_b21, k_b22, k_b23, k_b24, k_b25, k_b26, k_b27, k_b28, k_b29, k_b30, k_b31, k_b32, k_b33, k_b34, k_b35, k_b36, k_b37, k_b38, k_b39, k_b40, k_b41, k_b42, k_b43, k_b44, k_b45, k_b46, k_b47, k_b48, k_b49, k_b50, k_b51, k_b52, k_b53, k_b54, k_b55, k_b56, k_b57, k_b58, k_b59, k_b60, k_b61, k_b62, k_b63, k_b66, k_b76, k_b97, k_b98, k_b99, k_b100, k_b101, k_b102, k_b103, k_b104, k_b105, k_b107, k_b108, k_b109, k_b110, k_b112, k_b114, k_b115, k_b116, k_b117, k_b120, k_b121, k_b122, k_s160, k_s200, k_s255, k_s256, k_s999, k_s2048, k_s4095, k_s9999, k_s10000, k_s12345, k_narI, k_narZ0, k_narZ1, k_ffalse, k_ts0, k_ts1, k_tw0, k_tw1, k_rt, k_rn, Nat.reduceAdd, Nat.zero_add, Nat.reduceLeDiff, Nat.reduceLT, Int.reduceAdd, Int.zero_add, true_and, and_true, List.set_cons_zero, List.set_cons_succ, eq_self, k_n2, k_n3, k_n4, k_n5, k_n6, k_n7, k_n8, k_n9, k_n10, k_n12, k_nn, true_or, or_true, false_or, or_false, k_z10, not_false_eq_true, not_true_eq_false, true_imp_iff, false_imp_iff, n_X5_text, r_X5_text, g_X5_text_0, b_X5_text_0, bk_X5_text_0, g_X5_text_20, b_X5_text_20, bk_X5_text_20, g_X5_text_47, b_X5_text_47, bk_X5_text_47, g_X5_text_62, bk_X5_text_62, g_X5_text_63, b_X5_text_63, bk_X5_text_63, g_X5_text_84, bk_X5_text_84, t_X5_text_21_47, t_X5_text_29_47, t_X5_text_44_20, t_X5_text_48_62, t_X5_text_55_62, t_X5_text_59_63, t_X5_text_70_84, x_X5_text_g184, x_X5_text_p184, x_X5_text_g194, x_X5_text_g180, x_X5_text_p180, x_X5_text_g187, x_X5_text_v135, x_X5_text_v215, x_X5_text_v232, x_X5_text_v138, f_X5_setsAside, f_X5_nextToken, f_X5_readsItem, rEM, m49]
  intro μ1 h1
  obtain ⟨r0, r2⟩ := R50_a hR n8 h1
  have k1 : ∀ k, k ≠ 52 → μ1.1 k = μ.1 k := h1.2.1
  have hF2 : ∀ k j, k ≠ 52 → ¬ (k = 49 ∧ 7 ≤ j) → (am_set μ1 49 9 0).1 k j = μ.1 k j := fun k j a1 a2 => by rw [set_ne (by omega), k1 k a1]
  have hT2 : TXM (am_set μ1 49 9 0) T n := ⟨hT.1, by rw [hF2 49 6 (by omega) (by omega)]; exact hT.2.1, fun i hi => ⟨(hT.2.2 i hi).1, by rw [hF2 54 i (by omega) (by omega)]; exact (hT.2.2 i hi).2⟩⟩
  have hLT2 : LTR (am_set μ1 49 9 0) := fun a o N hW w hw j hj => by
    have ha : a ≠ 50 ∧ a ≠ 49 ∧ a ≠ 52 := by rcases hW with q | q | q <;> omega
    rw [hF2 a _ ha.2.2 (by omega)]
    exact hLT a o N hW w hw j hj
  have hR2 : RpM 50 (am_set μ1 49 9 0) s := RpM_c r0 n8 (fun j _ => set_ne (by omega))
  have hR52 : RpM 52 (am_set μ1 49 9 0) s := RpM_c r2 n8 (fun j _ => set_ne (by omega))
  refine ⟨T, n, 0, hT2, Nat.zero_le _, set_eq, fun μ3 hK3 hF3 => ?_⟩
  have hO3 : tkO n (tok T n 0) := tok_O (Nat.zero_le _)
  refine ⟨T, n, tok T n 0, s, TXM_P hT2 hF3, hK3, hO3, tok_L (Nat.zero_le _), LTR_L hLT2 (FrLM_P hF3), RpM_PM hR2 hF3 n8, hW, fun μ4 hK4 hR4 hF4 => ?_⟩
  have hF34 := FrLM_tr (FrLM_P hF3) hF4
  have hm : n < 119 + 1 + (tok T n 0).2.2.1 := by
    rcases Nat.lt_or_ge n 120 with q | q
    · omega
    · by_cases e : (tok T n 0).1 = 0
      · have : (tok T n 0).2.2.1 = n := by
          have e := e
          unfold tok at e ⊢
          have h1 := skp_le T n 120 0 (Nat.zero_le _)
          generalize skp T n 120 0 = p at e h1 ⊢
          unfold tkF at e ⊢
          by_cases q : p < n
          · rw [if_pos q] at e
            exfalso
            by_cases q2 : 97 ≤ T p ∧ T p ≤ 122
            · rw [if_pos q2] at e; exact absurd e (by show ¬ (1 : Nat) = 0; omega)
            · rw [if_neg q2] at e
              by_cases q3 : 48 ≤ T p ∧ T p ≤ 57
              · rw [if_pos q3] at e; exact absurd e (by show ¬ (2 : Nat) = 0; omega)
              · rw [if_neg q3] at e
                have e : (if T p = 59 then 3 else 4) = 0 := e
                split at e <;> omega
          · rw [if_neg q]
            show p = n
            omega
        omega
      · have := tok_nx (T := T) (n := n) (a := 0) (Nat.zero_le _) e
        omega
  have R := A20 119 1 s (tok T n 0) μ4 (by omega) hm hG hO3 hW hK4 hR4 (RpM_52 hR52 n8 hF34) (fun k j a1 a2 a3 => (hF34 k j a1 a3).trans (hF2 k j a2 a3))
  refine ⟨fun q => ?_, fun q => ?_⟩
  · rw [q] at R; exact R
  · rw [q] at R; exact R
theorem ok_X5_text : am_OK (⟨"CarpetLaneModel", "text", "()I"⟩ : MethodName) prog_7_method_78_code 3 (some .int) rm_X5_text sp_X5_text := am_mok (cd := cd_X5_text) E_X5_text (by decide +kernel) rfl eo_X5_text (by decide +kernel) (by decide +kernel) (q_R_h (by decide)) (q_R_b bd_X5_text)
