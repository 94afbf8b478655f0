/-! ===== constructors: Carpet, Sheet, Tape, Lane ===== -/
theorem nfX0 : ∀ j, j < 7 → defaultValue (tyX0 j) = vp_V [.int 0, .int 0, .int 0, .int 0, .int 0, .int 0, .int 0] j := by
  intro j hj
  match j, hj with
  | 0, _ => rfl
  | 1, _ => rfl
  | 2, _ => rfl
  | 3, _ => rfl
  | 4, _ => rfl
  | 5, _ => rfl
  | 6, _ => rfl
theorem nfX1 : ∀ j, j < 7 → defaultValue (tyX1 j) = vp_V [.int 0, .int 0, .int 0, .int 0, .null, .null, .null] j := by
  intro j hj
  match j, hj with
  | 0, _ => rfl
  | 1, _ => rfl
  | 2, _ => rfl
  | 3, _ => rfl
  | 4, _ => rfl
  | 5, _ => rfl
  | 6, _ => rfl
theorem nfX2 : ∀ j, j < 3 → defaultValue (tyX2 j) = vp_V [.int 0, .int 0, .null] j := by
  intro j hj
  match j, hj with
  | 0, _ => rfl
  | 1, _ => rfl
  | 2, _ => rfl
theorem nfX3 : ∀ j, j < 6 → defaultValue (tyX3 j) = vp_V [.int 0, .null, .int 0, .int 0, .int 0, .int 0] j := by
  intro j hj
  match j, hj with
  | 0, _ => rfl
  | 1, _ => rfl
  | 2, _ => rfl
  | 3, _ => rfl
  | 4, _ => rfl
  | 5, _ => rfl
theorem nfX4 : ∀ j, j < 7 → defaultValue (tyX4 j) = vp_V [.null, .null, .null, .int 0, .null, .null, .null] j := by
  intro j hj
  match j, hj with
  | 0, _ => rfl
  | 1, _ => rfl
  | 2, _ => rfl
  | 3, _ => rfl
  | 4, _ => rfl
  | 5, _ => rfl
  | 6, _ => rfl
theorem nfX5 : ∀ j, j < 18 → defaultValue (tyX5 j) = vp_V [.null, .null, .null, .int 0, .null, .null, .int 0, .int 0, .int 0, .int 0, .long 0, .null, .null, .null, .null, .null, .null, .null] j := by
  intro j hj
  match j, hj with
  | 0, _ => rfl
  | 1, _ => rfl
  | 2, _ => rfl
  | 3, _ => rfl
  | 4, _ => rfl
  | 5, _ => rfl
  | 6, _ => rfl
  | 7, _ => rfl
  | 8, _ => rfl
  | 9, _ => rfl
  | 10, _ => rfl
  | 11, _ => rfl
  | 12, _ => rfl
  | 13, _ => rfl
  | 14, _ => rfl
  | 15, _ => rfl
  | 16, _ => rfl
  | 17, _ => rfl
  | n + 18, h => exact absurd h (by omega)
set_option maxHeartbeats 8000000 in
set_option maxRecDepth 100000 in
theorem ct_X0_init (l : Launch) (D : va_G) (cA : Nat → ClassId) (h0 sz : Nat) : Met l yX0_init (.code yX0_init cX0_init 1 none :: am_tb) ({ frames := 1, cells := 0, slots := 0, locals := 20 }) (va_Pc [.ref h0] (fun U => U.heap.size = sz ∧ va_P D am_cl [(h0, .inr (0, [.int 0, .int 0, .int 0, .int 0, .int 0, .int 0, .int 0]))] U.heap ∧ va_K D am_cl (kT cA) U ∧ va_D (fun _ => True) [(h0, .inr (0, [.int 0, .int 0, .int 0, .int 0, .int 0, .int 0, .int 0]))])) (va_Qv (fun _ : Unit => True) (fun _ t => ∃ f : Nat → Nat, va_P D am_cl [(h0, .inr (0, [.int 0, .int 0, .int 0, .int 0, .int 0, .int 0, .int 0]))] t.heap ∧ va_D (va_A [(h0, .inr (0, [.int 0, .int 0, .int 0, .int 0, .int 0, .int 0, .int 0]))] sz) [(h0, .inr (0, [.int 0, .int 0, .int 0, .int 0, .int 0, .int 0, .int 0]))]) (va_A [(h0, .inr (0, [.int 0, .int 0, .int 0, .int 0, .int 0, .int 0, .int 0]))] sz)) 0 0 (va_A [(h0, .inr (0, [.int 0, .int 0, .int 0, .int 0, .int 0, .int 0, .int 0]))] sz) := by
  refine Met.ofW (cc := cX0_init) (maxL := 1) (ret := none) (by decide) rfl ?_
  intro p e s m args below meth c s₁ B hml hv
  obtain ⟨rfl, hsz, hP, hK, hD0⟩ := hv
  have hx := B.exec
  have hb := B.bytes
  have hr := B.returns
  have hts : ∀ w ∈ am_tb, w.before #[Value.ref h0] s = true := fun w hw => atoms_spec (ws := .code yX0_init cX0_init 1 none :: am_tb) B.pre w (List.mem_cons_of_mem _ hw)
  have hown : s.vm.findClass RX0 = some m.cls := findClass_of_methodNamed B.named
  have hlocks := B.notSynchronized
  have hin : meth.name = "<init>" := (name_of_methodNamed B.named B.method).1
  subst hsz
  have hD := hD0.self (sz := s.heap.size)
  generalize hAe : va_A [(h0, .inr (0, [.int 0, .int 0, .int 0, .int 0, .int 0, .int 0, .int 0]))] s.heap.size = A at hD ⊢
  have hA : ∀ q : Nat, s.heap.size ≤ q → A q := fun q h => by rw [← hAe]; exact Or.inr h
  have hS : va_S A s.heap s.heap [] := va_S.rf
  have hP : va_P D am_cl [(h0, .inr (0, [.int 0, .int 0, .int 0, .int 0, .int 0, .int 0, .int 0]))] s.heap := hP
  have hl := lv_entry ([.ref h0]) (n := 1) (Nat.le_of_ble_eq_true rfl)
  rw [lg_entry_eq]
  generalize (lg_sl ([.ref h0]) ++ List.replicate (1 - (lg_sl ([.ref h0])).length) Slot.unset).toArray = ls at hl ⊢
  have hl : lv_has ls 1 [(0, .ref h0)] := hl
  refine lv_aload_n hx hb (show decode cX0_init 0 = .ok (.aload_n 0, 1) by decide +kernel) rfl (lv_at hl 0 rfl) ?_
  refine W.objInit hx hb hown (hts _ (am_in 92 (by decide +kernel) (by decide +kernel))) (hts _ (am_in 78 (by decide +kernel) (by decide +kernel))) (hts _ (am_in 79 (by decide +kernel) (by decide +kernel))) rfl (by rw [hml]; exact hl.1) rfl (show decode cX0_init 1 = .ok (.invokespecial 3, 3) by decide +kernel) (Nat.le_of_ble_eq_true rfl) (Nat.le_of_ble_eq_true rfl) ?_
  refine W.eq (g2 := F0 m 4 ls []) rfl ?_
  have hP9 := hP.sub (ws' := [(h0, .inr (0, [.int 0, .int 0, .int 0, .int 0, .int 0, .int 0, .int 0]))]) [0] rfl
  have hD9 := hD.sub (ws' := [(h0, .inr (0, [.int 0, .int 0, .int 0, .int 0, .int 0, .int 0, .int 0]))]) [0] (by decide) rfl
  exact W.vret hx hb hr (fun t ht hW => ⟨⟨(), rfl, trivial, (fun k => ([h0] : List Nat).getD k 0), by rw [ht]; exact hP9, hD9⟩, hS.F ht⟩) hS.2.2 (show decode cX0_init 4 = .ok (.return_, 1) by decide +kernel)
set_option maxHeartbeats 8000000 in
set_option maxRecDepth 100000 in
theorem ct_X2_init (l : Launch) (D : va_G) (cA : Nat → ClassId) (h0 sz : Nat) : Met l yX2_init (.code yX2_init cX2_init 1 none :: am_tb) ({ frames := 1, cells := 1, slots := 40, locals := 20 }) (va_Pc [.ref h0] (fun U => U.heap.size = sz ∧ va_P D am_cl [(h0, .inr (2, [.int 0, .int 0, .null]))] U.heap ∧ va_K D am_cl (kT cA) U ∧ va_D (fun _ => True) [(h0, .inr (2, [.int 0, .int 0, .null]))])) (va_Qv (fun _ : Unit => True) (fun _ t => ∃ f : Nat → Nat, va_P D am_cl [(h0, .inr (2, [.int 0, .int 0, .ref (f 1)])), (f 1, .inl (cA 10, 40, .inl (fun _ => 0)))] t.heap ∧ va_D (va_A [(h0, .inr (2, [.int 0, .int 0, .null]))] sz) [(h0, .inr (2, [.int 0, .int 0, .ref (f 1)])), (f 1, .inl (cA 10, 40, .inl (fun _ => 0)))]) (va_A [(h0, .inr (2, [.int 0, .int 0, .null]))] sz)) 1 40 (va_A [(h0, .inr (2, [.int 0, .int 0, .null]))] sz) := by
  refine Met.ofW (cc := cX2_init) (maxL := 1) (ret := none) (by decide) rfl ?_
  intro p e s m args below meth c s₁ B hml hv
  obtain ⟨rfl, hsz, hP, hK, hD0⟩ := hv
  have hx := B.exec
  have hb := B.bytes
  have hr := B.returns
  have hts : ∀ w ∈ am_tb, w.before #[Value.ref h0] s = true := fun w hw => atoms_spec (ws := .code yX2_init cX2_init 1 none :: am_tb) B.pre w (List.mem_cons_of_mem _ hw)
  have hown : s.vm.findClass RX2 = some m.cls := findClass_of_methodNamed B.named
  have hlocks := B.notSynchronized
  have hin : meth.name = "<init>" := (name_of_methodNamed B.named B.method).1
  subst hsz
  have hD := hD0.self (sz := s.heap.size)
  generalize hAe : va_A [(h0, .inr (2, [.int 0, .int 0, .null]))] s.heap.size = A at hD ⊢
  have hA : ∀ q : Nat, s.heap.size ≤ q → A q := fun q h => by rw [← hAe]; exact Or.inr h
  have hS : va_S A s.heap s.heap [] := va_S.rf
  have hP : va_P D am_cl [(h0, .inr (2, [.int 0, .int 0, .null]))] s.heap := hP
  have hl := lv_entry ([.ref h0]) (n := 1) (Nat.le_of_ble_eq_true rfl)
  rw [lg_entry_eq]
  generalize (lg_sl ([.ref h0]) ++ List.replicate (1 - (lg_sl ([.ref h0])).length) Slot.unset).toArray = ls at hl ⊢
  have hl : lv_has ls 1 [(0, .ref h0)] := hl
  refine lv_aload_n hx hb (show decode cX2_init 0 = .ok (.aload_n 0, 1) by decide +kernel) rfl (lv_at hl 0 rfl) ?_
  refine W.objInit hx hb hown (hts _ (am_in 193 (by decide +kernel) (by decide +kernel))) (hts _ (am_in 78 (by decide +kernel) (by decide +kernel))) (hts _ (am_in 79 (by decide +kernel) (by decide +kernel))) rfl (by rw [hml]; exact hl.1) rfl (show decode cX2_init 1 = .ok (.invokespecial 3, 3) by decide +kernel) (Nat.le_of_ble_eq_true rfl) (Nat.le_of_ble_eq_true rfl) ?_
  refine W.eq (g2 := F0 m 4 ls []) rfl ?_
  refine lv_aload_n hx hb (show decode cX2_init 4 = .ok (.aload_n 0, 1) by decide +kernel) rfl (lv_at hl 0 rfl) ?_
  refine lv_bipush (v := 40) hx hb (show decode cX2_init 5 = .ok (.bipush 40, 2) by decide +kernel) (by decide) ?_
  refine nw_a (atype := .int) (ty := .int) (N' := 40) (a0 := (40, .inl (fun _ => 0))) (cI := cA 10) hx hb (hts _ (am_in 127 (by decide +kernel) (by decide +kernel))) rfl hK hP hD hS hA (fun _ => rfl) (by decide) (by decide) (Nat.le_of_ble_eq_true rfl) (Nat.le_of_ble_eq_true rfl) (Nat.le_of_ble_eq_true rfl) (show decode cX2_init 7 = .ok (.newarray .int, 2) by decide +kernel) 0 rfl (fun _ h9 => h9) (fun q1 H hP hD hS => ?_)
  have hP : va_P D am_cl [(h0, .inr (2, [.int 0, .int 0, .null])), (q1, .inl (cA 10, 40, .inl (fun _ => 0)))] H := hP
  have hD : va_D A [(h0, .inr (2, [.int 0, .int 0, .null])), (q1, .inl (cA 10, 40, .inl (fun _ => 0)))] := hD
  refine W.widen (k := 1) (n := 40) (Nat.le_refl _) (Nat.le_refl _) ?_
  refine va_putF (D := D) (ci := 2) (v := .ref q1) (ty := .array (.int)) (C := RX2) (T := TX2) (N := 3) hx hb hts am_inX2 tyX2 tyX2_ok nmX2 hown hK hP hD hS 0 rfl rfl 2 (by decide) (hts _ (am_in 198 (by decide +kernel) (by decide +kernel))) (fun _ h9 => h9) rfl hin rfl (by decide +kernel) (by first | rfl | decide +kernel) (by first | rfl | decide +kernel) (Nat.le_of_ble_eq_true rfl) (show decode cX2_init 9 = .ok (.putfield 9, 3) by decide +kernel) (fun H locs hP hD hS => ?_)
  have hP : va_P D am_cl [(h0, .inr (2, [.int 0, .int 0, .ref q1])), (q1, .inl (cA 10, 40, .inl (fun _ => 0)))] H := hP
  have hD : va_D A [(h0, .inr (2, [.int 0, .int 0, .ref q1])), (q1, .inl (cA 10, 40, .inl (fun _ => 0)))] := hD
  have hP9 := hP.sub (ws' := [(h0, .inr (2, [.int 0, .int 0, .ref q1])), (q1, .inl (cA 10, 40, .inl (fun _ => 0)))]) [0, 1] rfl
  have hD9 := hD.sub (ws' := [(h0, .inr (2, [.int 0, .int 0, .ref q1])), (q1, .inl (cA 10, 40, .inl (fun _ => 0)))]) [0, 1] (by decide) rfl
  exact W.vret hx hb hr (fun t ht hW => ⟨⟨(), rfl, trivial, (fun k => ([h0, q1] : List Nat).getD k 0), by rw [ht]; exact hP9, hD9⟩, hS.F ht⟩) hS.2.2 (show decode cX2_init 12 = .ok (.return_, 1) by decide +kernel)
set_option maxHeartbeats 8000000 in
set_option maxRecDepth 100000 in
theorem ct_X3_init (l : Launch) (D : va_G) (cA : Nat → ClassId) (h0 sz : Nat) : Met l yX3_init (.code yX3_init cX3_init 1 none :: am_tb) ({ frames := 1, cells := 1, slots := 120, locals := 20 }) (va_Pc [.ref h0] (fun U => U.heap.size = sz ∧ va_P D am_cl [(h0, .inr (3, [.int 0, .null, .int 0, .int 0, .int 0, .int 0]))] U.heap ∧ va_K D am_cl (kT cA) U ∧ va_D (fun _ => True) [(h0, .inr (3, [.int 0, .null, .int 0, .int 0, .int 0, .int 0]))])) (va_Qv (fun _ : Unit => True) (fun _ t => ∃ f : Nat → Nat, va_P D am_cl [(h0, .inr (3, [.int 0, .ref (f 1), .int 0, .int 0, .int 0, .int 0])), (f 1, .inl (cA 11, 120, .inl (fun _ => 0)))] t.heap ∧ va_D (va_A [(h0, .inr (3, [.int 0, .null, .int 0, .int 0, .int 0, .int 0]))] sz) [(h0, .inr (3, [.int 0, .ref (f 1), .int 0, .int 0, .int 0, .int 0])), (f 1, .inl (cA 11, 120, .inl (fun _ => 0)))]) (va_A [(h0, .inr (3, [.int 0, .null, .int 0, .int 0, .int 0, .int 0]))] sz)) 1 120 (va_A [(h0, .inr (3, [.int 0, .null, .int 0, .int 0, .int 0, .int 0]))] sz) := by
  refine Met.ofW (cc := cX3_init) (maxL := 1) (ret := none) (by decide) rfl ?_
  intro p e s m args below meth c s₁ B hml hv
  obtain ⟨rfl, hsz, hP, hK, hD0⟩ := hv
  have hx := B.exec
  have hb := B.bytes
  have hr := B.returns
  have hts : ∀ w ∈ am_tb, w.before #[Value.ref h0] s = true := fun w hw => atoms_spec (ws := .code yX3_init cX3_init 1 none :: am_tb) B.pre w (List.mem_cons_of_mem _ hw)
  have hown : s.vm.findClass RX3 = some m.cls := findClass_of_methodNamed B.named
  have hlocks := B.notSynchronized
  have hin : meth.name = "<init>" := (name_of_methodNamed B.named B.method).1
  subst hsz
  have hD := hD0.self (sz := s.heap.size)
  generalize hAe : va_A [(h0, .inr (3, [.int 0, .null, .int 0, .int 0, .int 0, .int 0]))] s.heap.size = A at hD ⊢
  have hA : ∀ q : Nat, s.heap.size ≤ q → A q := fun q h => by rw [← hAe]; exact Or.inr h
  have hS : va_S A s.heap s.heap [] := va_S.rf
  have hP : va_P D am_cl [(h0, .inr (3, [.int 0, .null, .int 0, .int 0, .int 0, .int 0]))] s.heap := hP
  have hl := lv_entry ([.ref h0]) (n := 1) (Nat.le_of_ble_eq_true rfl)
  rw [lg_entry_eq]
  generalize (lg_sl ([.ref h0]) ++ List.replicate (1 - (lg_sl ([.ref h0])).length) Slot.unset).toArray = ls at hl ⊢
  have hl : lv_has ls 1 [(0, .ref h0)] := hl
  refine lv_aload_n hx hb (show decode cX3_init 0 = .ok (.aload_n 0, 1) by decide +kernel) rfl (lv_at hl 0 rfl) ?_
  refine W.objInit hx hb hown (hts _ (am_in 165 (by decide +kernel) (by decide +kernel))) (hts _ (am_in 78 (by decide +kernel) (by decide +kernel))) (hts _ (am_in 79 (by decide +kernel) (by decide +kernel))) rfl (by rw [hml]; exact hl.1) rfl (show decode cX3_init 1 = .ok (.invokespecial 3, 3) by decide +kernel) (Nat.le_of_ble_eq_true rfl) (Nat.le_of_ble_eq_true rfl) ?_
  refine W.eq (g2 := F0 m 4 ls []) rfl ?_
  refine lv_aload_n hx hb (show decode cX3_init 4 = .ok (.aload_n 0, 1) by decide +kernel) rfl (lv_at hl 0 rfl) ?_
  refine lv_bipush (v := 120) hx hb (show decode cX3_init 5 = .ok (.bipush 120, 2) by decide +kernel) (by decide) ?_
  refine nw_a (atype := .byte) (ty := .byte) (N' := 120) (a0 := (120, .inl (fun _ => 0))) (cI := cA 11) hx hb (hts _ (am_in 186 (by decide +kernel) (by decide +kernel))) rfl hK hP hD hS hA (fun _ => rfl) (by decide) (by decide) (Nat.le_of_ble_eq_true rfl) (Nat.le_of_ble_eq_true rfl) (Nat.le_of_ble_eq_true rfl) (show decode cX3_init 7 = .ok (.newarray .byte, 2) by decide +kernel) 1 rfl (fun _ h9 => h9) (fun q1 H hP hD hS => ?_)
  have hP : va_P D am_cl [(h0, .inr (3, [.int 0, .null, .int 0, .int 0, .int 0, .int 0])), (q1, .inl (cA 11, 120, .inl (fun _ => 0)))] H := hP
  have hD : va_D A [(h0, .inr (3, [.int 0, .null, .int 0, .int 0, .int 0, .int 0])), (q1, .inl (cA 11, 120, .inl (fun _ => 0)))] := hD
  refine W.widen (k := 1) (n := 120) (Nat.le_refl _) (Nat.le_refl _) ?_
  refine va_putF (D := D) (ci := 3) (v := .ref q1) (ty := .array (.byte)) (C := RX3) (T := TX3) (N := 6) hx hb hts am_inX3 tyX3 tyX3_ok nmX3 hown hK hP hD hS 0 rfl rfl 1 (by decide) (hts _ (am_in 168 (by decide +kernel) (by decide +kernel))) (fun _ h9 => h9) rfl hin rfl (by decide +kernel) (by first | rfl | decide +kernel) (by first | rfl | decide +kernel) (Nat.le_of_ble_eq_true rfl) (show decode cX3_init 9 = .ok (.putfield 9, 3) by decide +kernel) (fun H locs hP hD hS => ?_)
  have hP : va_P D am_cl [(h0, .inr (3, [.int 0, .ref q1, .int 0, .int 0, .int 0, .int 0])), (q1, .inl (cA 11, 120, .inl (fun _ => 0)))] H := hP
  have hD : va_D A [(h0, .inr (3, [.int 0, .ref q1, .int 0, .int 0, .int 0, .int 0])), (q1, .inl (cA 11, 120, .inl (fun _ => 0)))] := hD
  have hP9 := hP.sub (ws' := [(h0, .inr (3, [.int 0, .ref q1, .int 0, .int 0, .int 0, .int 0])), (q1, .inl (cA 11, 120, .inl (fun _ => 0)))]) [0, 1] rfl
  have hD9 := hD.sub (ws' := [(h0, .inr (3, [.int 0, .ref q1, .int 0, .int 0, .int 0, .int 0])), (q1, .inl (cA 11, 120, .inl (fun _ => 0)))]) [0, 1] (by decide) rfl
  exact W.vret hx hb hr (fun t ht hW => ⟨⟨(), rfl, trivial, (fun k => ([h0, q1] : List Nat).getD k 0), by rw [ht]; exact hP9, hD9⟩, hS.F ht⟩) hS.2.2 (show decode cX3_init 12 = .ok (.return_, 1) by decide +kernel)
