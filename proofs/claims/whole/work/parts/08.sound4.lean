section AMT
variable {p : Program} {l : Launch} {e : Env} {R : Room} {s : State} {m : MethodId} {args : Array Value} {below : List Frame} {meth : Method} {c : Code} {cells slots : Nat} {Z : State → Prop} {g : am_G} {μ0 : am_M} {cc : ByteArray} {own : String} {E : am_E} {Q : am_Q}
theorem am_getf (C : am_Cx p s m args c cc own E g μ0) (EO : am_EO own R E) {H : Heap} {locs : List Loc} {ls : Array Slot} {pc i k : Nat} {S : List Value} {μ : am_M} (ho : am_off μ0 μ) (hP : va_P (am_D g) am_cl (am_cw g μ) H) (hS : va_S (am_A g) s.heap H locs)
    (hk : am_sh k = ((am_lk (90, 0) (am_fl E) i).1, 0)) (hd : decode cc pc = .ok (.getfield i, 3))
    (kk : W p l e R s m args below meth c H locs cells slots Z (F0 m (pc + 3) ls ((am_av μ k (am_lk (90, 0) (am_fl E) i).1 (am_lk (90, 0) (am_fl E) i).2 :: S).map (am_cv g)))) : W p l e R s m args below meth c H locs cells slots Z (F0 m pc ls (.ref (am_ad g k) :: S.map (am_cv g))) := by
  obtain ⟨hx, hb, hown, hts, hml, hSW⟩ := C
  rcases am_lk_mem (d := (90, 0)) (am_fl E) i with q | q
  · rw [q] at hk
    exfalso
    by_cases h62 : k < 62
    · have h0 : ∀ k, k < 62 → (am_sh k).1 ≠ 90 := by decide +kernel
      exact h0 k h62 (by rw [hk])
    · unfold am_sh at hk
      rw [if_neg h62] at hk
      split at hk
      · simp at hk
      · split at hk
        · simp at hk
        · split at hk
          · simp at hk
          · split at hk
            · simp at hk
            · split at hk <;> simp at hk
  · generalize am_lk (90, 0) (am_fl E) i = f at hk kk q
    obtain ⟨ci, j⟩ := f
    rcases EO.1 _ q with ⟨r, r1, r2, r3, r4⟩ | ⟨rfl, hj⟩
    · simp only at r1 r2 r3 r4 hk
      have hk62 : k < 62 := am_shlt hk (by omega)
      obtain ⟨r', r1', r5⟩ := am_nfN ci r4
      have : r' = r := Option.some.inj (r1'.symm.trans r1)
      subst this
      refine va_get (D := am_D g) (ci := ci) (C := r'.1) (T := r'.2.1) (N := r'.2.2) (a := am_ad g k) hx hb hts (am_inC ci r' r1) hown hSW.1 hP k (fs := (List.range (am_nf ci)).map (am_fv g μ k ci)) (by rw [am_cw_get hk62, am_ce_obj hk (by omega)]) r1 j r2 (hts _ r3) (fun _ h9 => h9) (v := am_fv g μ k ci j) ?_ hd ?_
      · rw [List.getElem?_map, List.getElem?_range (by omega)]
        rfl
      · have e1 : am_cv g (am_av μ k ci j) = am_fv g μ k ci j := by
          unfold am_av am_fv
          rw [if_neg (by omega)]
          split
          · rfl
          · split <;> rfl
        have kk' := kk
        simp only [List.map_cons, e1] at kk'
        exact kk'
    · simp only at hj hk
      have hk2 : 110 ≤ k ∧ k < 123 := by
        by_cases h62 : k < 62
        · exfalso
          have h0 : ∀ k, k < 62 → (am_sh k).1 ≠ 21 := by decide +kernel
          exact h0 k h62 (by rw [hk])
        · unfold am_sh at hk
          rw [if_neg h62] at hk
          split at hk
          · simp at hk
          · split at hk
            · simp at hk
            · split at hk
              · simp at hk
              · split at hk
                · assumption
                · split at hk <;> simp at hk
      have hE := hSW.2.2.2.2.2.2.2.1.1 (k - 110) (by omega)
      have e1 : 110 + (k - 110) = k := by omega
      have e2 : 130 + (k - 110) = k + 20 := by omega
      simp only [e1, e2] at hE
      rcases hj with ⟨rfl, hl⟩ | ⟨rfl, hl⟩
      · exact vk_getf hx hb hE.2.2.1 hS hown (hts _ hl) (fun _ h9 => h9) hd kk
      · exact vk_getf hx hb hE.2.1 hS hown (hts _ hl) (fun _ h9 => h9) hd kk
theorem am_putf (C : am_Cx p s m args c cc own E g μ0) (EO : am_EO own R E) {H : Heap} {locs : List Loc} {ls : Array Slot} {pc i k : Nat} {S : List Value} {μ : am_M} {x : Int32} (hP : va_P (am_D g) am_cl (am_cw g μ) H) (hS : va_S (am_A g) s.heap H locs)
    (hk : am_sh k = ((am_lk (90, 0) (am_fl E) i).1, 0)) (h6 : (am_lk (90, 0) (am_fl E) i).1 < 6) (hf : am_fk (am_lk (90, 0) (am_fl E) i).1 (am_lk (90, 0) (am_fl E) i).2 = 0) (hz : am_bz (am_lk (90, 0) (am_fl E) i).1 (am_lk (90, 0) (am_fl E) i).2 = true → x = 0 ∨ x = 1) (hd : decode cc pc = .ok (.putfield i, 3))
    (kk : ∀ H locs, va_P (am_D g) am_cl (am_cw g (am_set μ k (am_lk (90, 0) (am_fl E) i).2 x)) H → va_S (am_A g) s.heap H locs → W p l e R s m args below meth c H locs cells slots Z (F0 m (pc + 3) ls (S.map (am_cv g)))) : W p l e R s m args below meth c H locs cells slots Z (F0 m pc ls (.int x :: .ref (am_ad g k) :: S.map (am_cv g))) := by
  obtain ⟨hx, hb, hown, hts, hml, hSW⟩ := C
  rcases am_lk_mem (d := (90, 0)) (am_fl E) i with q | q
  · rw [q] at h6
    exact absurd h6 (by decide)
  · generalize am_lk (90, 0) (am_fl E) i = f at hk kk q h6 hf hz
    obtain ⟨ci, j⟩ := f
    simp only at hk h6 hf hz kk
    rcases EO.1 _ q with ⟨r, r1, r2, r3, r4⟩ | ⟨rfl, hj⟩
    · simp only at r1 r2 r3 r4
      have hk62 : k < 62 := am_shlt hk (by omega)
      obtain ⟨r', r1', r5⟩ := am_nfN ci r4
      have : r' = r := Option.some.inj (r1'.symm.trans r1)
      subst this
      obtain ⟨t1, t2⟩ := am_tyC ci r' r1
      obtain ⟨u1, u2⟩ := am_fkC ci r' r1 j r2 hf
      refine va_put (D := am_D g) (ci := ci) (C := r'.1) (T := r'.2.1) (N := r'.2.2) (a := am_ad g k) (ty := am_tyc ci j) (v := .int x) hx hb hts (am_inC ci r' r1) (am_tyc ci) t1 t2 hown hSW.1 hP (am_D_of hSW.2.1) hS k (fs := (List.range (am_nf ci)).map (am_fv g μ k ci)) (by rw [am_cw_get hk62, am_ce_obj hk (by omega)]) r1 j r2 (hts _ r3) (fun _ h9 => h9) u1 (t1 j r2) ?_ ?_ (by simp; omega) hd (fun H1 locs1 hP1 _ hS1 => ?_)
      · rcases u2 with u2 | ⟨u2, u3⟩
        · rw [u2]; rfl
        · rw [u2]
          rcases hz u3 with rfl | rfl <;> decide +kernel
      · rcases u2 with u2 | ⟨u2, u3⟩
        · rw [u2]; rfl
        · rw [u2]
          rcases hz u3 with rfl | rfl <;> decide +kernel
      · refine kk H1 locs1 ?_ hS1
        rw [← am_ce_setI hk (by omega) hf, am_cw_upd (μ := μ) (μ' := am_set μ k j x) hk62 (fun i hi => by funext b; simp [am_set, hi]) rfl] at hP1
        exact hP1
    · exact absurd h6 (by decide)
theorem am_c5 : ∀ k, k < 62 → am_sh k = (5, 0) → k = 49 := by decide +kernel
theorem am_c5n : ∀ k, k < 62 → k ≠ 49 → (am_sh k).1 ≠ 5 := by decide +kernel
theorem am_fk1 : ∀ ci j, ci ≠ 5 → am_fk ci j ≠ 1 := by
  intro ci j h
  match ci, h with
  | 0, _ => match j with
    | 0 | 1 | 2 | 3 | 4 | 5 | 6 => decide
    | k + 7 => simp [am_fk]
  | 1, _ => match j with
    | 0 | 1 | 2 | 3 | 4 | 5 | 6 => decide
    | k + 7 => simp [am_fk]
  | 2, _ => match j with
    | 0 | 1 | 2 => decide
    | k + 3 => simp [am_fk]
  | 3, _ => match j with
    | 0 | 1 | 2 | 3 | 4 | 5 => decide
    | k + 6 => simp [am_fk]
  | 4, _ => match j with
    | 0 | 1 | 2 | 3 | 4 | 5 | 6 => decide
    | k + 7 => simp [am_fk]
  | 5, h => exact absurd rfl h
  | k + 6, _ => simp [am_fk]
theorem am_putl (C : am_Cx p s m args c cc own E g μ0) (EO : am_EO own R E) {H : Heap} {locs : List Loc} {ls : Array Slot} {pc i k : Nat} {S : List Value} {μ : am_M} {x : Int64} (hP : va_P (am_D g) am_cl (am_cw g μ) H) (hS : va_S (am_A g) s.heap H locs)
    (hk : am_sh k = (5, 0)) (hf : am_lk (90, 0) (am_fl E) i = (5, 10)) (hd : decode cc pc = .ok (.putfield i, 3))
    (kk : ∀ H locs, va_P (am_D g) am_cl (am_cw g (μ.1, x)) H → va_S (am_A g) s.heap H locs → W p l e R s m args below meth c H locs cells slots Z (F0 m (pc + 3) ls (S.map (am_cv g)))) : W p l e R s m args below meth c H locs cells slots Z (F0 m pc ls (.long x :: .ref (am_ad g k) :: S.map (am_cv g))) := by
  obtain ⟨hx, hb, hown, hts, hml, hSW⟩ := C
  rcases am_lk_mem (d := (90, 0)) (am_fl E) i with q | q
  · rw [q] at hf
    exact absurd hf (by decide)
  · rw [hf] at q
    rcases EO.1 _ q with ⟨r, r1, r2, r3, r4⟩ | ⟨h, _⟩
    · have hk62 : k < 62 := am_shlt hk (by omega)
      have hk49 := am_c5 k hk62 hk
      subst hk49
      cases r1
      obtain ⟨t1, t2⟩ := am_tyC 5 _ rfl
      refine va_put (D := am_D g) (ci := 5) (C := RX5) (T := TX5) (N := 18) (a := am_ad g 49) (ty := .long) (v := .long x) hx hb hts (am_inC 5 _ rfl) (am_tyc 5) t1 t2 hown hSW.1 hP (am_D_of hSW.2.1) hS 49 (fs := (List.range (am_nf 5)).map (am_fv g μ 49 5)) (by rw [am_cw_get (by decide), am_ce_obj hk (by omega)]) rfl 10 r2 (hts _ r3) (fun _ h9 => h9) rfl (t1 10 r2) rfl rfl (by simp [am_nf]) hd (fun H1 locs1 hP1 _ hS1 => ?_)
      refine kk H1 locs1 ?_ hS1
      have e1 : (am_cw g μ).set 49 (am_ad g 49, .inr (5, ((List.range (am_nf 5)).map (am_fv g μ 49 5)).set 10 (.long x))) = am_cw g (μ.1, x) := by
        apply List.ext_getElem?
        intro i
        by_cases hi : i = 49
        · subst hi
          rw [List.getElem?_set_self (by simp [am_cw]), am_cw_get (by decide), am_ce_obj hk (by omega)]
          rfl
        · rw [List.getElem?_set_ne (fun q => hi q.symm)]
          by_cases h62 : i < 62
          · rw [am_cw_get h62, am_cw_get h62]
            congr 2
            unfold am_ce
            have hc := am_c5n i h62 hi
            have : am_fv g (μ.1, x) i (am_sh i).1 = am_fv g μ i (am_sh i).1 := by
              funext j
              unfold am_fv
              have h1 := am_fk1 _ j hc
              simp [h1]
            rw [this]
          · rw [List.getElem?_eq_none (by simp [am_cw]; omega), List.getElem?_eq_none (by simp [am_cw]; omega)]
      rw [e1] at hP1
      exact hP1
    · exact absurd h (by simp)
end AMT
