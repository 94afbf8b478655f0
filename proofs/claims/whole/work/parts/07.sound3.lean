section AMS
variable {p : Program} {l : Launch} {e : Env} {R : Room} {s : State} {m : MethodId} {args : Array Value} {below : List Frame} {meth : Method} {c : Code} {cells slots : Nat} {Z : State → Prop} {g : am_G} {μ0 : am_M} {cc : ByteArray} {own : String} {E : am_E} {Q : am_Q}
/-- behind a call -/
theorem am_call {H : Heap} {locs : List Loc} {pc : Nat} {ls : Array Slot} {st0 rest : List Value} {a : Array Value} {μ : am_M} {Q1 : am_Q}
    (hr : va_Run p l e R s m args below meth c H locs cells slots 0 0 (F0 m pc ls st0) rest (am_Qc g Q1 μ a) (am_A g)) (hS : va_S (am_A g) s.heap H locs)
    (kk : ∀ (r : Option Value) (μ' : am_M) (H1 : Heap) (locs1 : List Loc), Q1 r μ' → am_off μ μ' → va_P (am_D g) am_cl (am_cw g μ') H1 → va_S (am_A g) s.heap H1 locs1 → W p l e R s m args below meth c H1 locs1 cells slots Z (F0 m (pc + 3) ls ((r.map (am_cv g)).toList ++ rest))) : W p l e R s m args below meth c H locs cells slots Z (F0 m pc ls st0) := by
  intro T hT X
  obtain ⟨v, st₀, t, T', L, h0, X', hL, e1, e2, ⟨⟨r, μ', hv, hq, ho, hp⟩, hz, hk⟩, st⟩ := hr T hT X
  have hv' : v = r.map (am_cv g) := by cases hv; rfl
  subst hv'
  rw [h0] at hz hk
  obtain ⟨t2, a1, b1⟩ := kk r μ' T'.heap (locs ++ L) hq ho (by rw [e1]; exact hp)
    ⟨Nat.le_trans hS.1 (by rw [e1]; exact hz), fun q h1 h2 => by rw [e1, hk q (Nat.lt_of_lt_of_le h1 hS.1) h2]; exact hS.2.1 q h1 h2, fun q hq => by
      rcases List.mem_append.mp hq with h | h
      · exact hS.2.2 q h
      · exact hL q h⟩ T' rfl X'
  exact ⟨t2, st t2 a1, b1⟩
theorem am_gin {y : MethodName} {bytes : ByteArray} {maxL : Nat} {ret : Option FieldType} (h : .code y bytes maxL ret ∈ am_tb) : GoodIn am_tb (.code y bytes maxL ret :: am_tb) := by
  intro w hw
  rcases List.mem_cons.mp hw with rfl | hw
  · exact ⟨h, am_good h⟩
  · exact ⟨hw, am_good hw⟩
theorem am_runV (C : am_Cx p s m args c cc own E g μ0) (hcs : cells ≤ R.cells ∧ slots ≤ R.slots) {i ci n : Nat} {sp : am_Sp} (hc : am_CV own R i ci n sp) {H : Heap} {locs : List Loc} {ls : Array Slot} {pc k : Nat} {as S : List Value} {μ : am_M} {Q1 : am_Q}
    (ho : am_off μ0 μ) (hP : va_P (am_D g) am_cl (am_cw g μ) H) (hS : va_S (am_A g) s.heap H locs) (hsz : ls.size = am_nL E) (hk : am_sh k = (ci, 0)) (hn : as.length = n) (hcat : am_csum S ≤ 8) (hsp : sp (.ref k :: as) μ Q1) (hd : decode cc pc = .ok (.invokevirtual i, 3)) :
    va_Run p l e R s m args below meth c H locs cells slots 0 0 (F0 m pc ls ((as.map (am_cv g)).reverse ++ .ref (am_ad g k) :: S.map (am_cv g))) (S.map (am_cv g)) (am_Qc g Q1 μ (Value.ref (am_ad g k) :: as.map (am_cv g)).toArray) (am_A g) := by
  obtain ⟨hx, hb, hown, hts, hml, hSW⟩ := C
  obtain ⟨y, bytes, maxL, ret, rm, hok, ⟨c1, c2, c3, c4, c5, c6, c7⟩, hcls, hci, hl, hin, hse⟩ := hc
  have hM := hok l g (.ref k :: as) μ Q1 hsp
  have cb : CallB R s args own i y bytes maxL ret (.code y bytes maxL ret :: am_tb) rm 0 0 n := callB_of n hts (am_gin c2) rfl c4 c5 (hts _ c1) (hts _ hl) c3 ⟨c6, c7⟩
  refine va_runV (C := y.cls) (As := as.map (am_cv g)) (rest := S.map (am_cv g)) (g := F0 m pc ls _) ⟨hx, hb, hml, hown, hts⟩ hM ⟨cb, hts _ hin, hts _ hse⟩ ⟨am_blind g _ μ, ?_, fun U hU hW => ⟨rfl, am_SW_warm hSW ho hS hU hW, by rw [hU]; exact hP⟩⟩ rfl (by simpa using hn) hsz rfl (lv_room (by rw [am_csumE hSW.2.2.2.2.2.2.2.2.2]; exact hcat)) hd ⟨hcs.1, hcs.2⟩
  rcases hci with hci | hci
  · have hk62 : k < 62 := am_shlt hk (by omega)
    obtain ⟨r, r1, -⟩ := am_nfN ci hci
    have := va_recv hSW.1 hP (q0 := k) (ci := ci) (q := r) (a := am_ad g k) (fs := (List.range (am_nf ci)).map (am_fv g μ k ci)) r1 (by rw [am_cw_get hk62, am_ce_obj hk (by omega)])
    have hr : r.1 = y.cls := by
      rw [hcls]
      match ci, hci, r1 with
      | 0, _, r1 => cases r1; rfl
      | 1, _, r1 => cases r1; rfl
      | 2, _, r1 => cases r1; rfl
      | 3, _, r1 => cases r1; rfl
      | 4, _, r1 => cases r1; rfl
      | 5, _, r1 => cases r1; rfl
    rw [← hr]
    exact this
  · subst hci
    have hk2 : 110 ≤ k ∧ k < 123 := by
      unfold am_sh at hk
      split at hk
      · exfalso
        revert hk
        rename_i h62
        intro hk
        have : ∀ q : Nat × Nat, (am_sh k) = q → k < 62 → q.1 ≠ 21 := by
          intro q hq hk
          rw [← hq]
          clear hq q
          have h0 : ∀ k, k < 62 → (am_sh k).1 ≠ 21 := by decide +kernel
          exact h0 k hk
        have h1 := this (21, 0) (by unfold am_sh; rw [if_pos h62]; exact hk) h62
        exact h1 rfl
      · split at hk
        · simp at hk
        · split at hk
          · simp at hk
          · split at hk
            · simp at hk
            · split at hk
              · assumption
              · split at hk <;> simp at hk
    have := vk_recv (i := k - 110) hSW.2.2.2.2.2.2.2.1 (by omega) hS
    have e1 : 110 + (k - 110) = k := by omega
    simp only [e1] at this
    rw [hcls]
    exact this
theorem am_runS (C : am_Cx p s m args c cc own E g μ0) (hcs : cells ≤ R.cells ∧ slots ≤ R.slots) {i n : Nat} {sp : am_Sp} (hc : am_CS own R i n sp) {H : Heap} {locs : List Loc} {ls : Array Slot} {pc : Nat} {as S : List Value} {μ : am_M} {Q1 : am_Q}
    (ho : am_off μ0 μ) (hP : va_P (am_D g) am_cl (am_cw g μ) H) (hS : va_S (am_A g) s.heap H locs) (hsz : ls.size = am_nL E) (hn : as.length = n) (hcat : am_csum S ≤ 8) (hsp : sp as μ Q1) (hd : decode cc pc = .ok (.invokestatic i, 3)) :
    va_Run p l e R s m args below meth c H locs cells slots 0 0 (F0 m pc ls ((as.map (am_cv g)).reverse ++ S.map (am_cv g))) (S.map (am_cv g)) (am_Qc g Q1 μ (as.map (am_cv g)).toArray) (am_A g) := by
  obtain ⟨hx, hb, hown, hts, hml, hSW⟩ := C
  obtain ⟨y, bytes, maxL, ret, rm, hok, ⟨c1, c2, c3, c4, c5, c6, c7⟩, hst, hl⟩ := hc
  have hM := hok l g as μ Q1 hsp
  rcases hl with hl | hl
  · have cb : CallB R s args own i y bytes maxL ret (.code y bytes maxL ret :: am_tb) rm 0 0 n := callB_of n hts (am_gin c2) rfl c4 c5 (hts _ c1) (hts _ hl) c3 ⟨c6, c7⟩
    exact va_runS (As := as.map (am_cv g)) (rest := S.map (am_cv g)) (g := F0 m pc ls _) ⟨hx, hb, hml, hown, hts⟩ hM ⟨cb, hts _ hst⟩ ⟨am_blind g _ μ, fun U hU hW => ⟨rfl, am_SW_warm hSW ho hS hU hW, by rw [hU]; exact hP⟩⟩ rfl (by simpa using hn) hsz rfl (lv_room (by rw [am_csumE hSW.2.2.2.2.2.2.2.2.2]; exact hcat)) hd ⟨hcs.1, hcs.2⟩
  · have cb : va_CN R s args own i y RX4 bytes maxL ret (.code y bytes maxL ret :: am_tb) rm 0 0 n := va_cnB n hts (am_gin c2) rfl c4 c5 (hSW.2.2.1 _ hl) (hts _ c1) c3 ⟨c6, c7⟩
    exact va_runSN (As := as.map (am_cv g)) (rest := S.map (am_cv g)) (g := F0 m pc ls _) ⟨hx, hb, hml, hown, hts⟩ hM ⟨cb, hts _ hst, trivial⟩ ⟨am_blind g _ μ, fun U hU hW => ⟨rfl, am_SW_warm hSW ho hS hU hW, by rw [hU]; exact hP⟩⟩ rfl (by simpa using hn) hsz rfl (lv_room (by rw [am_csumE hSW.2.2.2.2.2.2.2.2.2]; exact hcat)) hd ⟨hcs.1, hcs.2⟩
end AMS
