theorem am_inN : Cond.native arraycopyName ∈ am_tb := am_in 424 (by decide +kernel) (by decide +kernel)
theorem am_inS : Cond.static arraycopyName ∈ am_tb := am_in 423 (by decide +kernel) (by decide +kernel)
theorem am_inI : Cond.initialized "java/lang/System" ∈ am_tb := am_in 67 (by decide +kernel) (by decide +kernel)
theorem am_t22 {k : Nat} (h : (am_sh k).1 = 22) : 130 ≤ k ∧ k < 143 ∧ (am_sh k).2 = am_slen.getD (k - 130) 0 := by
  by_cases h62 : k < 62
  · exfalso
    have h0 : ∀ k, k < 62 → (am_sh k).1 ≠ 22 := by decide +kernel
    exact h0 k h62 h
  · unfold am_sh at h ⊢
    rw [if_neg h62] at h ⊢
    split at h
    · simp at h
    · split at h
      · simp at h
      · split at h
        · simp at h
        · split at h
          · simp at h
          · rename_i a1 a2 a3 a4
            rw [if_neg a1, if_neg a2, if_neg a3, if_neg a4]
            split at h
            · rename_i a5
              rw [if_pos a5]
              refine ⟨a5.1, a5.2, ?_⟩
              simp only
            · simp at h
theorem am_t22T {g : am_G} {μ : am_M} {s : State} {k : Nat} (hSW : am_SW g μ s) (h : (am_sh k).1 = 22) : va_T .byte (am_ad g k) (am_sh k).2 (fun j => .int (am_sb (k - 130) j)) (am_A g) s s.heap := by
  obtain ⟨k1, k2, k3⟩ := am_t22 h
  have hE := (hSW.2.2.2.2.2.2.2.1.1 (k - 130) (by omega)).2.2.2
  have e1 : 130 + (k - 130) = k := by omega
  simp only [e1] at hE
  rw [k3]
  exact hE
section AMU
variable {p : Program} {l : Launch} {e : Env} {R : Room} {s : State} {m : MethodId} {args : Array Value} {below : List Frame} {meth : Method} {c : Code} {cells slots : Nat} {Z : State → Prop} {g : am_G} {μ0 : am_M} {cc : ByteArray} {own : String} {E : am_E} {Q : am_Q}
theorem am_dke {ins : Instr} {pc : Nat} (h : am_dk cc pc ins = true) (hn : ∀ a b c d, ins ≠ .tableswitch a b c d) : decode cc pc = .ok (ins, am_ln ins) := by
  unfold am_dk at h
  split at h
  · exact absurd rfl (hn _ _ _ _)
  · exact of_decide_eq_true h
set_option maxHeartbeats 2000000 in
theorem am_snd (C : am_Cx p s m args c cc own E g μ0) (EO : am_EO own R E) (hcs : cells ≤ R.cells ∧ slots ≤ R.slots)
    {pc : Nat} {ins : Instr} {L S : List Value} {μ : am_M} {nx : am_K} {jp : am_J}
    (hrI : ins = .ireturn → ∀ pc H locs ls μ x, decode cc pc = .ok (.ireturn, 1) → narrow (am_rt E) (.int x) = .int x → Q (some (.int x)) μ → am_off μ0 μ → va_P (am_D g) am_cl (am_cw g μ) H → va_S (am_A g) s.heap H locs → W p l e R s m args below meth c H locs cells slots Z (F0 m pc ls [.int x]))
    (hrL : ins = .lreturn → ∀ pc H locs ls μ x, decode cc pc = .ok (.lreturn, 1) → Q (some (.long x)) μ → am_off μ0 μ → va_P (am_D g) am_cl (am_cw g μ) H → va_S (am_A g) s.heap H locs → W p l e R s m args below meth c H locs cells slots Z (F0 m pc ls [.long x]))
    (hrV : ins = .return_ → ∀ pc H locs ls μ, decode cc pc = .ok (.return_, 1) → Q none μ → am_off μ0 μ → va_P (am_D g) am_cl (am_cw g μ) H → va_S (am_A g) s.heap H locs → W p l e R s m args below meth c H locs cells slots Z (F0 m pc ls []))
    (hdk : am_dk cc pc ins = true) (hbr : am_bro pc ins = true)
    (hn : ∀ L S μ, nx L S μ → am_At p l e R s m args below meth c cells slots Z g μ0 (am_nL E) (pc + am_ln ins) L S μ)
    (hj : ∀ t L S μ, jp t L S μ → am_At p l e R s m args below meth c cells slots Z g μ0 (am_nL E) t L S μ)
    (h : am_st E pc ins L S μ nx jp Q) : am_At p l e R s m args below meth c cells slots Z g μ0 (am_nL E) pc L S μ := by
  intro H locs ls ho hP hS hl
  have hx := C.1
  have hb := C.2.1
  have hown := C.2.2.1
  have hts := C.2.2.2.1
  have hml := C.2.2.2.2.1
  have hSW := C.2.2.2.2.2
  have hz := hSW.2.2.2.2.2.2.2.2.2
  have hT : ∀ {t : Nat} {ty : FieldType} {j0 : Nat}, True := trivial
  cases ins with
  | aload_n n =>
    have hd := am_dke hdk (fun _ _ _ _ q => by cases q)
    obtain ⟨x, h1, h2⟩ := am_lR_inv h
    exact lv_aload_n hx hb hd rfl (am_lvR hl h1) (hn _ _ _ h2 H locs ls ho hP hS hl)
  | aload i =>
    have hd := am_dke hdk (fun _ _ _ _ q => by cases q)
    obtain ⟨x, h1, h2⟩ := am_lR_inv h
    exact lv_aload hx hb hd (am_lvR hl h1) (hn _ _ _ h2 H locs ls ho hP hS hl)
  | iload_n n =>
    have hd := am_dke hdk (fun _ _ _ _ q => by cases q)
    obtain ⟨x, h1, h2⟩ := am_lI_inv h
    exact lv_iload_n hx hb hd rfl (am_lvI hl h1) (hn _ _ _ h2 H locs ls ho hP hS hl)
  | iload i =>
    have hd := am_dke hdk (fun _ _ _ _ q => by cases q)
    obtain ⟨x, h1, h2⟩ := am_lI_inv h
    exact lv_iload hx hb hd (am_lvI hl h1) (hn _ _ _ h2 H locs ls ho hP hS hl)
  | lload_n n =>
    have hd := am_dke hdk (fun _ _ _ _ q => by cases q)
    obtain ⟨x, h1, h2⟩ := am_lL_inv h
    exact lv_lload_n hx hb hd rfl (am_lvL hl h1) (hn _ _ _ h2 H locs ls ho hP hS hl)
  | lload i =>
    have hd := am_dke hdk (fun _ _ _ _ q => by cases q)
    obtain ⟨x, h1, h2⟩ := am_lL_inv h
    exact lv_lload hx hb hd (am_lvL hl h1) (hn _ _ _ h2 H locs ls ho hP hS hl)
  | istore_n n =>
    have hd := am_dke hdk (fun _ _ _ _ q => by cases q)
    obtain ⟨x, S, rfl, h1, h2⟩ := am_pI_inv h
    exact lv_istore_n hx hb hd rfl hl h1 rfl (fun ls1 hl1 => hn _ _ _ h2 H locs ls1 ho hP hS (am_hmono hl1 (am_sto_sub hz)))
  | istore i =>
    have hd := am_dke hdk (fun _ _ _ _ q => by cases q)
    obtain ⟨x, S, rfl, h1, h2⟩ := am_pI_inv h
    exact lv_istore hx hb hd hl h1 rfl (fun ls1 hl1 => hn _ _ _ h2 H locs ls1 ho hP hS (am_hmono hl1 (am_sto_sub hz)))
  | lstore_n n =>
    have hd := am_dke hdk (fun _ _ _ _ q => by cases q)
    obtain ⟨x, S, rfl, h1, h2⟩ := am_pL_inv h
    exact lv_lstore_n hx hb hd rfl hl h1 rfl (fun ls1 hl1 => hn _ _ _ h2 H locs ls1 ho hP hS (am_hmono hl1 (am_stL_sub hz)))
  | lstore i =>
    have hd := am_dke hdk (fun _ _ _ _ q => by cases q)
    obtain ⟨x, S, rfl, h1, h2⟩ := am_pL_inv h
    exact lv_lstore hx hb hd hl h1 rfl (fun ls1 hl1 => hn _ _ _ h2 H locs ls1 ho hP hS (am_hmono hl1 (am_stL_sub hz)))
  | astore_n n =>
    have hd := am_dke hdk (fun _ _ _ _ q => by cases q)
    obtain ⟨x, S, rfl, h1, h2⟩ := am_pR_inv h
    exact lv_astore_n hx hb hd rfl hl h1 rfl (fun ls1 hl1 => hn _ _ _ h2 H locs ls1 ho hP hS (am_hmono hl1 (am_sto_sub hz)))
  | astore i =>
    have hd := am_dke hdk (fun _ _ _ _ q => by cases q)
    obtain ⟨x, S, rfl, h1, h2⟩ := am_pR_inv h
    exact lv_astore hx hb hd hl h1 rfl (fun ls1 hl1 => hn _ _ _ h2 H locs ls1 ho hP hS (am_hmono hl1 (am_sto_sub hz)))
  | iconst i =>
    have hd := am_dke hdk (fun _ _ _ _ q => by cases q)
    exact lv_iconst hx hb hd rfl (hn _ _ _ h H locs ls ho hP hS hl)
  | bipush b =>
    have hd := am_dke hdk (fun _ _ _ _ q => by cases q)
    exact lv_bipush hx hb hd rfl (hn _ _ _ h H locs ls ho hP hS hl)
  | sipush b =>
    have hd := am_dke hdk (fun _ _ _ _ q => by cases q)
    exact lv_sipush hx hb hd rfl (hn _ _ _ h H locs ls ho hP hS hl)
  | lconst n =>
    have hd := am_dke hdk (fun _ _ _ _ q => by cases q)
    exact lv_lconst hx hb hd rfl (hn _ _ _ h H locs ls ho hP hS hl)
  | ldc i =>
    have hd := am_dke hdk (fun _ _ _ _ q => by cases q)
    rcases am_lk_mem (d := Value.null) (am_co E) i with q | q
    · unfold am_st at h
      simp only [q] at h
    · unfold am_st at h
      simp only at h
      generalize am_lk Value.null (am_co E) i = v at h q
      have hco := EO.2.1 _ q
      cases v with
      | int x => exact lv_ldc hx hb hown (hts _ hco) hd (hn _ _ _ h H locs ls ho hP hS hl)
      | ref k =>
        obtain ⟨rfl, q, q1, q2, q3⟩ := hco
        simp only at q2 q3
        subst q2; subst q3
        exact va_ldcS hx hb hown (hSW.2.2.2.2.2.2.1 _ q1) hd (hn _ _ _ h H locs ls ho hP hS hl)
      | _ => exact h.elim
  | ldc_w i =>
    have hd := am_dke hdk (fun _ _ _ _ q => by cases q)
    rcases am_lk_mem (d := Value.null) (am_co E) i with q | q
    · unfold am_st at h
      simp only [q] at h
    · unfold am_st at h
      simp only at h
      generalize am_lk Value.null (am_co E) i = v at h q
      have hco := EO.2.1 _ q
      cases v with
      | int x => exact lv_ldcw hx hb hown (hts _ hco) hd (hn _ _ _ h H locs ls ho hP hS hl)
      | _ => exact h.elim
  | ldc2_w i =>
    have hd := am_dke hdk (fun _ _ _ _ q => by cases q)
    rcases am_lk_mem (d := Value.null) (am_co E) i with q | q
    · unfold am_st at h
      simp only [q] at h
    · unfold am_st at h
      simp only at h
      generalize am_lk Value.null (am_co E) i = v at h q
      have hco := EO.2.1 _ q
      cases v with
      | long x => exact lv_ldc2 hx hb hown (hts _ hco) hd (hn _ _ _ h H locs ls ho hP hS hl)
      | _ => exact h.elim
  | iinc i n =>
    have hd := am_dke hdk (fun _ _ _ _ q => by cases q)
    obtain ⟨x, h1, h2, h3⟩ := am_lI_inv h
    obtain ⟨k, hk⟩ := List.getElem?_of_mem (am_lv_mem (g := g) (L := L) (q := (i, .int x)) |>.mpr ⟨_, h1, by simp, rfl⟩)
    exact lv_iinc hx hb hd hl hk rfl h2 rfl (fun ls1 hl1 => hn _ _ _ h3 H locs ls1 ho hP hS (am_hmono hl1 (am_sto_sub hz)))
  | iadd =>
    have hd := am_dke hdk (fun _ _ _ _ q => by cases q)
    obtain ⟨y, S, rfl, h⟩ := am_pI_inv h
    obtain ⟨x, S, rfl, h⟩ := am_pI_inv h
    exact lv_iadd hx hb hd (hn _ _ _ h H locs ls ho hP hS hl)
  | isub =>
    have hd := am_dke hdk (fun _ _ _ _ q => by cases q)
    obtain ⟨y, S, rfl, h⟩ := am_pI_inv h
    obtain ⟨x, S, rfl, h⟩ := am_pI_inv h
    exact lv_isub hx hb hd (hn _ _ _ h H locs ls ho hP hS hl)
  | imul =>
    have hd := am_dke hdk (fun _ _ _ _ q => by cases q)
    obtain ⟨y, S, rfl, h⟩ := am_pI_inv h
    obtain ⟨x, S, rfl, h⟩ := am_pI_inv h
    exact lv_imul hx hb hd (hn _ _ _ h H locs ls ho hP hS hl)
  | iand =>
    have hd := am_dke hdk (fun _ _ _ _ q => by cases q)
    obtain ⟨y, S, rfl, h⟩ := am_pI_inv h
    obtain ⟨x, S, rfl, h⟩ := am_pI_inv h
    exact lv_iand hx hb hd (hn _ _ _ h H locs ls ho hP hS hl)
  | ior =>
    have hd := am_dke hdk (fun _ _ _ _ q => by cases q)
    obtain ⟨y, S, rfl, h⟩ := am_pI_inv h
    obtain ⟨x, S, rfl, h⟩ := am_pI_inv h
    exact lv_ior hx hb hd (hn _ _ _ h H locs ls ho hP hS hl)
  | ixor =>
    have hd := am_dke hdk (fun _ _ _ _ q => by cases q)
    obtain ⟨y, S, rfl, h⟩ := am_pI_inv h
    obtain ⟨x, S, rfl, h⟩ := am_pI_inv h
    exact lv_ixor hx hb hd (hn _ _ _ h H locs ls ho hP hS hl)
  | ishl =>
    have hd := am_dke hdk (fun _ _ _ _ q => by cases q)
    obtain ⟨y, S, rfl, h⟩ := am_pI_inv h
    obtain ⟨x, S, rfl, h⟩ := am_pI_inv h
    exact lv_ishl hx hb hd (hn _ _ _ h H locs ls ho hP hS hl)
  | ishr =>
    have hd := am_dke hdk (fun _ _ _ _ q => by cases q)
    obtain ⟨y, S, rfl, h⟩ := am_pI_inv h
    obtain ⟨x, S, rfl, h⟩ := am_pI_inv h
    exact lv_ishr hx hb hd (hn _ _ _ h H locs ls ho hP hS hl)
  | iushr =>
    have hd := am_dke hdk (fun _ _ _ _ q => by cases q)
    obtain ⟨y, S, rfl, h⟩ := am_pI_inv h
    obtain ⟨x, S, rfl, h⟩ := am_pI_inv h
    exact lv_iushr hx hb hd rfl (hn _ _ _ h H locs ls ho hP hS hl)
  | idiv =>
    have hd := am_dke hdk (fun _ _ _ _ q => by cases q)
    obtain ⟨y, S, rfl, h⟩ := am_pI_inv h
    obtain ⟨x, S, rfl, h0, h⟩ := am_pI_inv h
    exact lv_idiv hx hb hd h0 (hn _ _ _ h H locs ls ho hP hS hl)
  | irem =>
    have hd := am_dke hdk (fun _ _ _ _ q => by cases q)
    obtain ⟨y, S, rfl, h⟩ := am_pI_inv h
    obtain ⟨x, S, rfl, h0, h⟩ := am_pI_inv h
    exact lv_irem hx hb hd h0 (hn _ _ _ h H locs ls ho hP hS hl)
  | ladd =>
    have hd := am_dke hdk (fun _ _ _ _ q => by cases q)
    obtain ⟨y, S, rfl, h⟩ := am_pL_inv h
    obtain ⟨x, S, rfl, h⟩ := am_pL_inv h
    exact lv_ladd hx hb hd (hn _ _ _ h H locs ls ho hP hS hl)
  | lsub =>
    have hd := am_dke hdk (fun _ _ _ _ q => by cases q)
    obtain ⟨y, S, rfl, h⟩ := am_pL_inv h
    obtain ⟨x, S, rfl, h⟩ := am_pL_inv h
    exact lv_lsub hx hb hd (hn _ _ _ h H locs ls ho hP hS hl)
  | lmul =>
    have hd := am_dke hdk (fun _ _ _ _ q => by cases q)
    obtain ⟨y, S, rfl, h⟩ := am_pL_inv h
    obtain ⟨x, S, rfl, h⟩ := am_pL_inv h
    exact lv_lmul hx hb hd (hn _ _ _ h H locs ls ho hP hS hl)
  | lcmp =>
    have hd := am_dke hdk (fun _ _ _ _ q => by cases q)
    obtain ⟨y, S, rfl, h⟩ := am_pL_inv h
    obtain ⟨x, S, rfl, h⟩ := am_pL_inv h
    exact W.lcmp hx hb hd (hn _ _ _ h H locs ls ho hP hS hl)
  | ldiv =>
    have hd := am_dke hdk (fun _ _ _ _ q => by cases q)
    obtain ⟨y, S, rfl, h⟩ := am_pL_inv h
    obtain ⟨x, S, rfl, h0, h⟩ := am_pL_inv h
    exact lv_ldiv hx hb hd h0 (hn _ _ _ h H locs ls ho hP hS hl)
  | lrem =>
    have hd := am_dke hdk (fun _ _ _ _ q => by cases q)
    obtain ⟨y, S, rfl, h⟩ := am_pL_inv h
    obtain ⟨x, S, rfl, h0, h⟩ := am_pL_inv h
    exact lv_lrem hx hb hd h0 (hn _ _ _ h H locs ls ho hP hS hl)
  | i2l =>
    have hd := am_dke hdk (fun _ _ _ _ q => by cases q)
    obtain ⟨x, S, rfl, h⟩ := am_pI_inv h
    exact lv_i2l hx hb hd rfl (hn _ _ _ h H locs ls ho hP hS hl)
  | i2b =>
    have hd := am_dke hdk (fun _ _ _ _ q => by cases q)
    obtain ⟨x, S, rfl, h⟩ := am_pI_inv h
    exact lv_i2b hx hb hd rfl (hn _ _ _ h H locs ls ho hP hS hl)
  | i2s =>
    have hd := am_dke hdk (fun _ _ _ _ q => by cases q)
    obtain ⟨x, S, rfl, h⟩ := am_pI_inv h
    exact lv_i2s hx hb hd rfl (hn _ _ _ h H locs ls ho hP hS hl)
  | i2c =>
    have hd := am_dke hdk (fun _ _ _ _ q => by cases q)
    obtain ⟨x, S, rfl, h⟩ := am_pI_inv h
    exact lv_i2c hx hb hd rfl (hn _ _ _ h H locs ls ho hP hS hl)
  | l2i =>
    have hd := am_dke hdk (fun _ _ _ _ q => by cases q)
    obtain ⟨x, S, rfl, h⟩ := am_pL_inv h
    exact lv_l2i hx hb hd rfl (hn _ _ _ h H locs ls ho hP hS hl)
  | dup =>
    have hd := am_dke hdk (fun _ _ _ _ q => by cases q)
    obtain ⟨x, S, rfl, h0, h⟩ := am_pV_inv h
    exact lv_dup hx hb hd ((am_cv_cat hz x).trans h0) (hn _ _ _ h H locs ls ho hP hS hl)
  | pop =>
    have hd := am_dke hdk (fun _ _ _ _ q => by cases q)
    obtain ⟨x, S, rfl, h0, h⟩ := am_pV_inv h
    exact lv_pop hx hb hd ((am_cv_cat hz x).trans h0) (hn _ _ _ h H locs ls ho hP hS hl)
  | dup2 =>
    have hd := am_dke hdk (fun _ _ _ _ q => by cases q)
    obtain ⟨x, S, rfl, h0, h⟩ := am_pV_inv h
    obtain ⟨y, S, rfl, h1, h⟩ := am_pV_inv h
    exact lv_dup2_11 hx hb hd ((am_cv_cat hz x).trans h0) ((am_cv_cat hz y).trans h1) (hn _ _ _ h H locs ls ho hP hS hl)
  | dup_x1 =>
    have hd := am_dke hdk (fun _ _ _ _ q => by cases q)
    obtain ⟨x, S, rfl, h0, h⟩ := am_pV_inv h
    obtain ⟨y, S, rfl, h1, h⟩ := am_pV_inv h
    exact lv_dup_x1 hx hb hd ((am_cv_cat hz x).trans h0) ((am_cv_cat hz y).trans h1) (hn _ _ _ h H locs ls ho hP hS hl)
  | ifCond cd off =>
    have hd := am_dke hdk (fun _ _ _ _ q => by cases q)
    have ht := am_tgE hbr
    obtain ⟨x, S, rfl, h⟩ := am_pI_inv h
    cases cd with
    | eq => exact lv_if_eq hx hb hd ht (fun q => hj _ _ _ _ (h.1 q) H locs ls ho hP hS hl) (fun q => hn _ _ _ (h.2 q) H locs ls ho hP hS hl)
    | ne => exact lv_if_ne hx hb hd ht (fun q => hj _ _ _ _ (h.1 q) H locs ls ho hP hS hl) (fun q => hn _ _ _ (h.2 (fun z => z q)) H locs ls ho hP hS hl)
    | lt => exact lv_if_lt hx hb hd ht (fun q => hj _ _ _ _ (h.1 q) H locs ls ho hP hS hl) (fun q => hn _ _ _ (h.2 q) H locs ls ho hP hS hl)
    | ge => exact lv_if_ge hx hb hd ht (fun q => hj _ _ _ _ (h.1 q) H locs ls ho hP hS hl) (fun q => hn _ _ _ (h.2 q) H locs ls ho hP hS hl)
    | gt => exact lv_if_gt hx hb hd ht (fun q => hj _ _ _ _ (h.1 q) H locs ls ho hP hS hl) (fun q => hn _ _ _ (h.2 q) H locs ls ho hP hS hl)
    | le => exact lv_if_le hx hb hd ht (fun q => hj _ _ _ _ (h.1 q) H locs ls ho hP hS hl) (fun q => hn _ _ _ (h.2 q) H locs ls ho hP hS hl)
  | if_icmp cd off =>
    have hd := am_dke hdk (fun _ _ _ _ q => by cases q)
    have ht := am_tgE hbr
    obtain ⟨y, S, rfl, h⟩ := am_pI_inv h
    obtain ⟨x, S, rfl, h⟩ := am_pI_inv h
    cases cd with
    | eq => exact lv_icmp_eq hx hb hd ht (fun q => hj _ _ _ _ (h.1 q) H locs ls ho hP hS hl) (fun q => hn _ _ _ (h.2 q) H locs ls ho hP hS hl)
    | ne => exact lv_icmp_ne hx hb hd ht (fun q => hj _ _ _ _ (h.1 q) H locs ls ho hP hS hl) (fun q => hn _ _ _ (h.2 (fun z => z q)) H locs ls ho hP hS hl)
    | lt => exact lv_icmp_lt hx hb hd ht (fun q => hj _ _ _ _ (h.1 q) H locs ls ho hP hS hl) (fun q => hn _ _ _ (h.2 q) H locs ls ho hP hS hl)
    | ge => exact lv_icmp_ge hx hb hd ht (fun q => hj _ _ _ _ (h.1 q) H locs ls ho hP hS hl) (fun q => hn _ _ _ (h.2 q) H locs ls ho hP hS hl)
    | gt => exact lv_icmp_gt hx hb hd ht (fun q => hj _ _ _ _ (h.1 q) H locs ls ho hP hS hl) (fun q => hn _ _ _ (h.2 q) H locs ls ho hP hS hl)
    | le => exact lv_icmp_le hx hb hd ht (fun q => hj _ _ _ _ (h.1 q) H locs ls ho hP hS hl) (fun q => hn _ _ _ (h.2 q) H locs ls ho hP hS hl)
  | goto off =>
    have hd := am_dke hdk (fun _ _ _ _ q => by cases q)
    exact lv_goto hx hb hd (am_tgE hbr) (hj _ _ _ _ h H locs ls ho hP hS hl)
  | tableswitch dflt lo hi offs =>
    have hd : ∃ n, decode cc pc = .ok (.tableswitch dflt lo hi offs, n) := by
      unfold am_dk at hdk
      simp only at hdk
      split at hdk
      · rename_i i n hq
        have := of_decide_eq_true hdk
        subst this
        exact ⟨n, hq⟩
      · cases hdk
    obtain ⟨n, hd⟩ := hd
    unfold am_bro at hbr
    simp only [Bool.and_eq_true] at hbr
    obtain ⟨⟨⟨⟨b1, b2⟩, b3⟩, b4⟩, b5⟩ := hbr
    have b3 := of_decide_eq_true b3
    have b4 := of_decide_eq_true b4
    have b5 := of_decide_eq_true b5
    obtain ⟨x, S, rfl, h1, h2⟩ := am_pI_inv h
    by_cases hin : x.toInt < lo ∨ hi < x.toInt
    · refine lv_tableOut hx hb hd hin (am_tgE b1) (hj _ _ _ _ (am_tsd_inv h1 (fun j hj1 e1 => ?_)) H locs ls ho hP hS hl)
      have e2 : x.toInt = lo + j := by
        rw [e1, Int32.toInt_ofInt_of_le (by omega) (by omega)]
      omega
    · have hlt : (x.toInt - lo).toNat < offs.toList.length := by omega
      have hof : offs[(x.toInt - lo).toNat]? = some offs.toList[(x.toInt - lo).toNat] := by
        rw [← Array.getElem?_toList, List.getElem?_eq_getElem hlt]
      have hmem : offs.toList[(x.toInt - lo).toNat] ∈ offs.toList := List.getElem_mem hlt
      refine lv_tableIn hx hb hd (fun q => hin (Or.inl q)) (fun q => hin (Or.inr q)) hof (am_tgE (List.all_eq_true.mp b2 _ hmem)) (hj _ _ _ _ (am_tsw_inv h2 (List.getElem?_eq_getElem hlt) ?_) H locs ls ho hP hS hl)
      have : lo + (((x.toInt - lo).toNat : Nat) : Int) = x.toInt := by omega
      rw [this, Int32.ofInt_toInt]
  | getfield i =>
    have hd := am_dke hdk (fun _ _ _ _ q => by cases q)
    obtain ⟨k, S, rfl, h0, h⟩ := am_pR_inv h
    exact am_getf C EO ho hP hS h0 hd (hn _ _ _ h H locs ls ho hP hS hl)
  | putfield i =>
    have hd := am_dke hdk (fun _ _ _ _ q => by cases q)
    unfold am_st at h
    simp only at h
    split at h
    · rename_i x k S
      obtain ⟨h0, h1, h2, h3, h4⟩ := h
      exact am_putf C EO hP hS h0 h1 h2 h3 hd (fun H1 locs1 hP1 hS1 => hn _ _ _ h4 H1 locs1 ls (am_off_set ho (am_shlt h0 (by omega))) hP1 hS1 hl)
    · rename_i x k S
      obtain ⟨h0, h1, h4⟩ := h
      exact am_putl C EO hP hS h0 h1 hd (fun H1 locs1 hP1 hS1 => hn _ _ _ h4 H1 locs1 ls (fun k hk => ho k hk) hP1 hS1 hl)
    · exact h.elim
  | getstatic i =>
    have hd := am_dke hdk (fun _ _ _ _ q => by cases q)
    rcases am_lk_mem (d := Value.long 0) (am_sa E) i with q | q
    · unfold am_st at h
      simp only [q] at h
    · unfold am_st at h
      simp only at h
      generalize am_lk (Value.long 0) (am_sa E) i = v at h q
      obtain ⟨w, w1, w2, w3⟩ := EO.2.2.1 _ q
      have hZ := hSW.2.2.2.1 w w1
      simp only at w2
      rw [w2] at hZ
      have hnx : nx L (v :: S) μ := by
        cases v <;> first | exact h | exact h.elim
      rcases w3 with w3 | w3
      · exact va_gets hx hb hZ hS hown (hts _ w3) (fun _ h9 => h9) hd (hn _ _ _ hnx H locs ls ho hP hS hl)
      · exact va_getsN hx hb hZ hS hown (va_Nw.use rfl (hSW.2.2.1 _ w3)) (fun _ h9 => h9) hd (hn _ _ _ hnx H locs ls ho hP hS hl)
  | iaload =>
    have hd := am_dke hdk (fun _ _ _ _ q => by cases q)
    obtain ⟨i, S1, rfl, h1⟩ := am_pI_inv h
    obtain ⟨k, S2, rfl, h2⟩ := am_pR_inv h1
    clear h h1
    unfold am_ial at h2
    split at h2
    · rename_i h10
      have hk62 : k < 62 := am_lt (by omega)
      exact va_iald (tys := am_tys g) hx hb hSW.1 hP k 0 (by rw [am_cw_get hk62, am_ce_arr (t := 10) (n := (am_sh k).2) (by rw [← h10]) (by omega) (by omega)]) rfl h2.1 hd (hn _ _ _ h2.2 H locs ls ho hP hS hl)
    · split at h2
      · rename_i hk
        subst hk
        exact va_ti hx hb hSW.2.2.2.2.1 hS h2.1 rfl hd (hn _ _ _ h2.2 H locs ls ho hP hS hl)
      · split at h2
        · rename_i hk
          subst hk
          exact va_ti hx hb hSW.2.2.2.2.2.1 hS h2.1 rfl hd (hn _ _ _ h2.2 H locs ls ho hP hS hl)
        · split at h2
          · rename_i hk
            subst hk
            obtain ⟨n, n1, n2, n3⟩ := hSW.2.2.2.2.2.2.2.2.1
            have e1 : μ.1 103 0 = nI n := by rw [ho 103 (by omega)]; exact n2
            have e2 : μ0.1 102 = μ.1 102 := (ho 102 (by omega)).symm
            rw [e2] at n3
            rw [e1, nI_clamp n1] at h2
            exact va_ti hx hb n3 hS h2.1 rfl hd (hn _ _ _ h2.2 H locs ls ho hP hS hl)
          · exact h2.elim
  | baload =>
    have hd := am_dke hdk (fun _ _ _ _ q => by cases q)
    obtain ⟨i, S1, rfl, h1⟩ := am_pI_inv h
    obtain ⟨k, S2, rfl, h2⟩ := am_pR_inv h1
    clear h h1
    unfold am_bal at h2
    split at h2
    · rename_i h10
      have hk62 : k < 62 := am_lt (by omega)
      exact va_bald (tys := am_tys g) hx hb hSW.1 hP k 1 (by rw [am_cw_get hk62, am_ce_arr (t := 11) (n := (am_sh k).2) (by rw [← h10]) (by omega) (by omega)]) rfl h2.1 hd (hn _ _ _ h2.2 H locs ls ho hP hS hl)
    · split at h2
      · rename_i h22
        exact va_tb hx hb (am_t22T hSW h22) hS h2.1 rfl hd (hn _ _ _ h2.2 H locs ls ho hP hS hl)
      · exact h2.elim
  | caload =>
    have hd := am_dke hdk (fun _ _ _ _ q => by cases q)
    obtain ⟨i, S, rfl, h⟩ := am_pI_inv h
    obtain ⟨k, S, rfl, h10, h⟩ := am_pR_inv h
    have hk62 : k < 62 := am_lt (by omega)
    exact va_cald (tys := am_tys g) hx hb hSW.1 hP k 2 (by rw [am_cw_get hk62, am_ce_arr (t := 12) (n := (am_sh k).2) (by rw [← h10]) (by omega) (by omega)]) rfl h.1 hd (hn _ _ _ h.2 H locs ls ho hP hS hl)
  | aaload =>
    have hd := am_dke hdk (fun _ _ _ _ q => by cases q)
    obtain ⟨i, S, rfl, h⟩ := am_pI_inv h
    obtain ⟨k, S, rfl, h10, h⟩ := am_pR_inv h
    rcases h10 with h10 | h10
    · have hk62 : k < 62 := am_lt (by omega)
      exact va_aldq (tys := am_tys g) (f := fun j => some (am_ad g (am_rf k j))) hx hb hSW.1 hP k 3 (by rw [am_cw_get hk62, am_ce_ref (t := 13) (n := (am_sh k).2) (by rw [← h10]) (by omega)]) rfl h.1 hd (hn _ _ _ h.2 H locs ls ho hP hS hl)
    · have hk62 : k < 62 := am_lt (by omega)
      exact va_aldq (tys := am_tys g) (f := fun j => some (am_ad g (am_rf k j))) hx hb hSW.1 hP k 4 (by rw [am_cw_get hk62, am_ce_ref (t := 14) (n := (am_sh k).2) (by rw [← h10]) (by omega)]) rfl h.1 hd (hn _ _ _ h.2 H locs ls ho hP hS hl)
  | iastore =>
    have hd := am_dke hdk (fun _ _ _ _ q => by cases q)
    obtain ⟨x, S, rfl, h⟩ := am_pI_inv h
    obtain ⟨i, S, rfl, h⟩ := am_pI_inv h
    obtain ⟨k, S, rfl, h10, h⟩ := am_pR_inv h
    have hk62 : k < 62 := am_lt (by omega)
    refine va_iast (tys := am_tys g) hx hb hSW.1 hP (am_D_of hSW.2.1) hS k 0 (by rw [am_cw_get hk62, am_ce_arr (t := 10) (n := (am_sh k).2) (by rw [← h10]) (by omega) (by omega)]) rfl h.1 hd (fun H1 locs1 hP1 _ hS1 => hn _ _ _ h.2 H1 locs1 ls (am_off_set ho hk62) ?_ hS1 hl)
    rw [← am_ce_setA (t := 10) (n := (am_sh k).2) (by rw [← h10]) (by omega) (by omega), am_cw_upd (μ := μ) (μ' := am_set μ k i.toNatClampNeg x) hk62 (fun i hi => by funext b; simp [am_set, hi]) rfl] at hP1
    exact hP1
  | bastore =>
    have hd := am_dke hdk (fun _ _ _ _ q => by cases q)
    obtain ⟨x, S, rfl, h⟩ := am_pI_inv h
    obtain ⟨i, S, rfl, h⟩ := am_pI_inv h
    obtain ⟨k, S, rfl, h10, h⟩ := am_pR_inv h
    have hk62 : k < 62 := am_lt (by omega)
    refine va_bast (tys := am_tys g) hx hb hSW.1 hP (am_D_of hSW.2.1) hS k 1 (by rw [am_cw_get hk62, am_ce_arr (t := 11) (n := (am_sh k).2) (by rw [← h10]) (by omega) (by omega)]) rfl h.1 hd (fun H1 locs1 hP1 _ hS1 => hn _ _ _ h.2 H1 locs1 ls (am_off_set ho hk62) ?_ hS1 hl)
    rw [← am_ce_setA (t := 11) (n := (am_sh k).2) (by rw [← h10]) (by omega) (by omega), am_cw_upd (μ := μ) (μ' := am_set μ k i.toNatClampNeg (vp_nar .byte x)) hk62 (fun i hi => by funext b; simp [am_set, hi]) rfl] at hP1
    exact hP1
  | arraylength =>
    have hd := am_dke hdk (fun _ _ _ _ q => by cases q)
    obtain ⟨k, S1, rfl, h2⟩ := am_pR_inv h
    clear h
    unfold am_aln at h2
    split at h2
    · rename_i h10
      have hk62 : k < 62 := am_lt (by omega)
      rcases (show (am_sh k).1 = 10 ∨ (am_sh k).1 = 11 ∨ (am_sh k).1 = 12 ∨ (am_sh k).1 = 13 ∨ (am_sh k).1 = 14 by omega) with h1 | h1 | h1 | h1 | h1
      · exact va_alen (tys := am_tys g) (x := ((am_sh k).2, .inl (μ.1 k))) hx hb hSW.1 hP k 0 (by rw [am_cw_get hk62, am_ce_arr (t := 10) (n := (am_sh k).2) (by rw [← h1]) (by omega) (by omega)]) rfl rfl hd (hn _ _ _ h2 H locs ls ho hP hS hl)
      · exact va_alen (tys := am_tys g) (x := ((am_sh k).2, .inl (μ.1 k))) hx hb hSW.1 hP k 1 (by rw [am_cw_get hk62, am_ce_arr (t := 11) (n := (am_sh k).2) (by rw [← h1]) (by omega) (by omega)]) rfl rfl hd (hn _ _ _ h2 H locs ls ho hP hS hl)
      · exact va_alen (tys := am_tys g) (x := ((am_sh k).2, .inl (μ.1 k))) hx hb hSW.1 hP k 2 (by rw [am_cw_get hk62, am_ce_arr (t := 12) (n := (am_sh k).2) (by rw [← h1]) (by omega) (by omega)]) rfl rfl hd (hn _ _ _ h2 H locs ls ho hP hS hl)
      · exact va_alen (tys := am_tys g) (x := ((am_sh k).2, .inr (.inr (.inr (.inr (fun j => some (am_ad g (am_rf k j)))))))) hx hb hSW.1 hP k 3 (by rw [am_cw_get hk62, am_ce_ref (t := 13) (n := (am_sh k).2) (by rw [← h1]) (by omega)]) rfl rfl hd (hn _ _ _ h2 H locs ls ho hP hS hl)
      · exact va_alen (tys := am_tys g) (x := ((am_sh k).2, .inr (.inr (.inr (.inr (fun j => some (am_ad g (am_rf k j)))))))) hx hb hSW.1 hP k 4 (by rw [am_cw_get hk62, am_ce_ref (t := 14) (n := (am_sh k).2) (by rw [← h1]) (by omega)]) rfl rfl hd (hn _ _ _ h2 H locs ls ho hP hS hl)
    · split at h2
      · rename_i h22
        exact va_tlen hx hb (am_t22T hSW h22) hS rfl hd (hn _ _ _ h2 H locs ls ho hP hS hl)
      · split at h2
        · rename_i hk
          subst hk
          obtain ⟨n, n1, n2, n3⟩ := hSW.2.2.2.2.2.2.2.2.1
          have e1 : μ.1 103 0 = nI n := by rw [ho 103 (by omega)]; exact n2
          rw [e1] at h2
          exact va_tlen hx hb n3 hS rfl hd (hn _ _ _ h2 H locs ls ho hP hS hl)
        · exact h2.elim
  | invokevirtual i =>
    have hd := am_dke hdk (fun _ _ _ _ q => by cases q)
    obtain ⟨bs, S1, rfl, hlen, h⟩ := am_pop_inv h
    obtain ⟨k, S1, rfl, h0, hc, h⟩ := am_pR_inv h
    rw [List.append_nil] at h
    rcases am_lk_mem (d := (0, 0, am_no)) (am_vc E) i with q | q
    · rw [q] at h
      exact h.elim
    · have hcv := EO.2.2.2.1 _ q
      have hr := am_runV (l := l) (e := e) (below := below) (meth := meth) (ls := ls) (S := S1) C hcs hcv ho hP hS hl.1 h0 (by rw [List.length_reverse]; exact hlen) hc h hd
      have e0 : (bs ++ Value.ref k :: S1).map (am_cv g) = ((bs.reverse.map (am_cv g)).reverse ++ .ref (am_ad g k) :: S1.map (am_cv g)) := by
        rw [List.map_append, ← List.map_reverse, List.reverse_reverse]
        rfl
      rw [e0]
      refine am_call hr hS (fun r μ' H1 locs1 q1 q2 q3 q4 => ?_)
      have := hn _ _ _ q1 H1 locs1 ls (am_off_tr ho q2) q3 q4 hl
      rw [List.map_append] at this
      have e1 : (r.map (am_cv g)).toList = r.toList.map (am_cv g) := by cases r <;> rfl
      rw [e1]
      exact this
  | invokestatic i =>
    have hd := am_dke hdk (fun _ _ _ _ q => by cases q)
    unfold am_st at h
    simp only at h
    split at h
    · rename_i hac
      obtain ⟨a1, a2, a3⟩ := EO.2.2.2.2.2 i hac
      split at h
      · rename_i n dp b sp a S
        obtain ⟨h1, h2, h3, h4, h5, h6, h7, h8, h⟩ := h
        have ha62 : a < 62 := am_lt (by omega)
        have hb62 : b < 62 := am_lt (by omega)
        refine va_copyi (tys := am_tys g) hx hb (by rw [hml]; exact hl.1.symm) hown (hts _ a1) (hts _ am_inN) (hts _ am_inS) (hts _ am_inI) hSW.1 hP (am_D_of hSW.2.1) hS a b 0 0 (by rw [am_cw_get ha62, am_ce_arr (t := 10) (n := (am_sh a).2) (by rw [← h1]) (by omega) (by omega)]) (by rw [am_cw_get hb62, am_ce_arr (t := 10) (n := (am_sh b).2) (by rw [← h2]) (by omega) (by omega)]) rfl rfl rfl h3 h4 h5 h6 h7 (fun _ _ => rfl) a2 ?_ hd (fun H1 locs1 hP1 _ hS1 => hn _ _ _ h H1 locs1 ls (am_off_cpm ho hb62) ?_ hS1 hl)
        · rw [am_csumE hz, h8]
          exact Nat.le_trans (by decide) a3
        · have e1 : am_ce g (am_cpm μ a b sp.toNatClampNeg dp.toNatClampNeg n.toNatClampNeg) b = .inl (am_cA g 10, (am_sh b).2, .inl (va_cpy (μ.1 a) (μ.1 b) sp.toNatClampNeg dp.toNatClampNeg n.toNatClampNeg)) := by
            rw [am_ce_arr (t := 10) (n := (am_sh b).2) (by rw [← h2]) (by omega) (by omega)]
            congr 4
            funext q
            simp [am_cpm]
          rw [← e1, am_cw_upd (μ := μ) (μ' := am_cpm μ a b sp.toNatClampNeg dp.toNatClampNeg n.toNatClampNeg) hb62 (fun i hi => by funext q; simp [am_cpm, hi]) rfl] at hP1
          exact hP1
      · exact h.elim
    · obtain ⟨bs, S1, rfl, hlen, hc, h⟩ := am_pop_inv h
      rw [List.append_nil] at h
      rcases am_lk_mem (d := (0, am_no)) (am_sc E) i with q | q
      · rw [q] at h
        exact h.elim
      · have hcv := EO.2.2.2.2.1 _ q
        have hr := am_runS (l := l) (e := e) (below := below) (meth := meth) (ls := ls) (S := S1) C hcs hcv ho hP hS hl.1 (by rw [List.length_reverse]; exact hlen) hc h hd
        have e0 : (bs ++ S1).map (am_cv g) = ((bs.reverse.map (am_cv g)).reverse ++ S1.map (am_cv g)) := by
          rw [List.map_append, ← List.map_reverse, List.reverse_reverse]
        rw [e0]
        refine am_call hr hS (fun r μ' H1 locs1 q1 q2 q3 q4 => ?_)
        have := hn _ _ _ q1 H1 locs1 ls (am_off_tr ho q2) q3 q4 hl
        rw [List.map_append] at this
        have e1 : (r.map (am_cv g)).toList = r.toList.map (am_cv g) := by cases r <;> rfl
        rw [e1]
        exact this
  | ireturn =>
    have hd := am_dke hdk (fun _ _ _ _ q => by cases q)
    unfold am_st at h
    simp only at h
    split at h
    · exact hrI rfl _ _ _ _ _ _ hd h.1 h.2 ho hP hS
    · exact h.elim
  | lreturn =>
    have hd := am_dke hdk (fun _ _ _ _ q => by cases q)
    unfold am_st at h
    simp only at h
    split at h
    · exact hrL rfl _ _ _ _ _ _ hd h ho hP hS
    · exact h.elim
  | return_ =>
    have hd := am_dke hdk (fun _ _ _ _ q => by cases q)
    unfold am_st at h
    simp only at h
    split at h
    · exact hrV rfl _ _ _ _ _ hd h ho hP hS
    · exact h.elim
  | _ => exact h.elim
end AMU
