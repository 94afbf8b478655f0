/-! ===== what the Statement gives of the start ===== -/
/-! THE CLAIM OUT OF ONE WALK OF THE LAW'S BODY. Your part is whole_start (and what it stands on); all else here is the same for every law, but numbers. -/
def R_law : String := "CarpetLaneLaw"
def lw_P (b : Addr) (xs : List Int32) (args : Array Value) (s : State) : Prop := args = #[.ref b] ∧ s.IntsAt b xs ∧ xs.length ≤ 3072 ∧ (Jvm.Cond.and given_1 narrow_1).before args s = true
def lw_Q (_ : Array Value) (s : State) (o : Outcome) (t : State) : Prop := o = .returned (some (.int 1)) ∧ Framed s o t [] 600000 7302250
def lw_Z (below : List Frame) (a : Array Value) (s : State) : State → Prop := fun t => ∃ o, t.status = .running ∧ Ended t below o ∧ lw_Q a s o t
/-- the law's own end, with 1 on the stack, nothing written that was there before, its room as the claim has it -/
theorem lw_ret {p : Program} {l : Launch} {e : Env} {s : State} {m : MethodId} {below : List Frame} {meth : Method} {c : Code} {b : Nat} (hx : p.tables.exec = Jvm.exec) (hb : c.code = code) (hr : meth.sig.returnType = ret) (hlocks : meth.locks = false) {pc : Nat} {H : Heap} {ls : Array Slot} (hdg : decode code pc = .ok (.ireturn, 1)) : W p l e room_1 s m #[Value.ref b] below meth c H [] 600000 7302250 (lw_Z below #[Value.ref b] s) (F0 m pc ls [.int 1]) := by
  intro T hT X
  obtain ⟨fs, hret, hrun, hended, hW, hframe⟩ := X.leave (v := some (.int 1)) (hlocks := hlocks) (fun h => by rw [hr] at h; cases h)
  have hmeth' : T.vm.method? m = some meth := X.method'
  refine ⟨T.setFrames fs, ?_, .returned (some (.int 1)), hrun, hended, rfl, ⟨_, rfl⟩, hW, hframe⟩
  jvm_step X.here [X.here.top, hx, hb, hdg, hmeth', hr, ret, narrow_b1]
  (try refine ⟨rfl, ?_⟩); (try refine ⟨rfl, ?_⟩)
  first | (intro acts; rw [hret _ acts rfl rfl rfl]) | rw [hret _ _ rfl rfl rfl]
  exact Steps.refl _
/-- what holds at the law's entry: the machine, the code, the tables' words (any of lw_tbl by 'hts w (by decide +kernel)'), the script of L ints xs at the cell b, what the Statement gives of the start (any of its parts by flat_of_before) -/
def lw_At (p : Program) (s : State) (m : MethodId) (meth : Method) (c : Code) (b L : Nat) (xs : Nat → Int32) : Prop :=
  p.tables.exec = Jvm.exec ∧ c.code = code ∧ meth.sig.returnType = ret ∧ c.maxLocals = 4 ∧ s.vm.findClass R_law = some m.cls ∧ (∀ w ∈ lw_tbl, w.before #[Value.ref b] s = true) ∧ va_X b L xs s s.heap ∧ b < s.heap.size ∧ meth.locks = false ∧ (Jvm.Cond.and given_1 narrow_1).before #[Value.ref b] s = true
def FL : List Cond := flatC (Jvm.Cond.and given_1 narrow_1)
def tmS (i : Nat) : Term := .string RX3 (([109, 111, 113, 115, 117, 119, 121, 71, 77, 79, 81, 43, 52] : List Nat).getD i 0)
set_option maxRecDepth 100000 in
theorem fs_ex : ∀ i, i < 13 → Cond.exactly (tmS i) "java/lang/String" ∈ FL := by decide +kernel
set_option maxRecDepth 100000 in
theorem fs_co : ∀ i, i < 13 → Cond.eq (.field (tmS i) "java/lang/String" "coder" "B") (.int 0) ∈ FL := by decide +kernel
set_option maxRecDepth 100000 in
theorem fs_ar : ∀ i, i < 13 → Cond.arrayOf (.field (tmS i) "java/lang/String" "value" "[B") .byte ∈ FL := by decide +kernel
set_option maxRecDepth 100000 in
theorem fs_le : ∀ i, i < 13 → Cond.eq (.length (.field (tmS i) "java/lang/String" "value" "[B")) (.int (Int32.ofNat (am_slen.getD i 0))) ∈ FL := by decide +kernel
set_option maxRecDepth 100000 in
theorem fs_el : ∀ i, i < 13 → ∀ j, j < am_slen.getD i 0 → Cond.eq (.elem (.field (tmS i) "java/lang/String" "value" "[B") (.int (Int32.ofNat j))) (.int ((am_sbyt.getD i []).getD j 0)) ∈ FL := by decide +kernel
set_option maxRecDepth 100000 in
theorem fs_n1 : ∀ i, i < 1 → FL[58 + i]? = some (Cond.not (.eq (tmS i) (tmS 1))) := by decide +kernel
set_option maxRecDepth 100000 in
theorem fs_n2 : ∀ i, i < 2 → FL[69 + i]? = some (Cond.not (.eq (tmS i) (tmS 2))) := by decide +kernel
set_option maxRecDepth 100000 in
theorem fs_n3 : ∀ i, i < 3 → FL[80 + i]? = some (Cond.not (.eq (tmS i) (tmS 3))) := by decide +kernel
set_option maxRecDepth 100000 in
theorem fs_n4 : ∀ i, i < 4 → FL[92 + i]? = some (Cond.not (.eq (tmS i) (tmS 4))) := by decide +kernel
set_option maxRecDepth 100000 in
theorem fs_n5 : ∀ i, i < 5 → FL[103 + i]? = some (Cond.not (.eq (tmS i) (tmS 5))) := by decide +kernel
set_option maxRecDepth 100000 in
theorem fs_n6 : ∀ i, i < 6 → FL[117 + i]? = some (Cond.not (.eq (tmS i) (tmS 6))) := by decide +kernel
set_option maxRecDepth 100000 in
theorem fs_n7 : ∀ i, i < 7 → FL[131 + i]? = some (Cond.not (.eq (tmS i) (tmS 7))) := by decide +kernel
set_option maxRecDepth 100000 in
theorem fs_n8 : ∀ i, i < 8 → FL[146 + i]? = some (Cond.not (.eq (tmS i) (tmS 8))) := by decide +kernel
set_option maxRecDepth 100000 in
theorem fs_n9 : ∀ i, i < 9 → FL[161 + i]? = some (Cond.not (.eq (tmS i) (tmS 9))) := by decide +kernel
set_option maxRecDepth 100000 in
theorem fs_n10 : ∀ i, i < 10 → FL[178 + i]? = some (Cond.not (.eq (tmS i) (tmS 10))) := by decide +kernel
set_option maxRecDepth 100000 in
theorem fs_n11 : ∀ i, i < 11 → FL[196 + i]? = some (Cond.not (.eq (tmS i) (tmS 11))) := by decide +kernel
set_option maxRecDepth 100000 in
theorem fs_n12 : ∀ i, i < 12 → FL[214 + i]? = some (Cond.not (.eq (tmS i) (tmS 12))) := by decide +kernel
theorem fs_nx : ∀ j, j < 13 → ∀ i, i < j → Cond.not (.eq (tmS i) (tmS j)) ∈ FL := by
  intro j hj i hi
  match j, hj, hi with
  | 0, _, hi => exact absurd hi (by omega)
  | 1, _, hi => exact List.mem_of_getElem? (fs_n1 i hi)
  | 2, _, hi => exact List.mem_of_getElem? (fs_n2 i hi)
  | 3, _, hi => exact List.mem_of_getElem? (fs_n3 i hi)
  | 4, _, hi => exact List.mem_of_getElem? (fs_n4 i hi)
  | 5, _, hi => exact List.mem_of_getElem? (fs_n5 i hi)
  | 6, _, hi => exact List.mem_of_getElem? (fs_n6 i hi)
  | 7, _, hi => exact List.mem_of_getElem? (fs_n7 i hi)
  | 8, _, hi => exact List.mem_of_getElem? (fs_n8 i hi)
  | 9, _, hi => exact List.mem_of_getElem? (fs_n9 i hi)
  | 10, _, hi => exact List.mem_of_getElem? (fs_n10 i hi)
  | 11, _, hi => exact List.mem_of_getElem? (fs_n11 i hi)
  | 12, _, hi => exact List.mem_of_getElem? (fs_n12 i hi)
theorem fs_ne (i : Nat) (hi : i < 13) (j : Nat) (hj : j < 13) (h : i ≠ j) : Cond.not (.eq (tmS i) (tmS j)) ∈ FL ∨ Cond.not (.eq (tmS j) (tmS i)) ∈ FL := by
  rcases Nat.lt_or_gt_of_ne h with q | q
  · exact Or.inl (fs_nx j hj i q)
  · exact Or.inr (fs_nx i hi j q)
theorem fs_n : ∀ i, i < 13 → am_slen.getD i 0 < 2 ^ 31 := by decide +kernel
set_option maxRecDepth 100000 in
theorem fm_el : ∀ j, j < 7 → Cond.eq (.elem (.static RX4 "MOST_OF" "[I") (.int (Int32.ofNat j))) (.int (am_mo j)) ∈ FL := by decide +kernel
set_option maxRecDepth 100000 in
theorem fk_el : ∀ j, j < 7 → Cond.eq (.elem (.static RX4 "KIND_ABOVE" "[I") (.int (Int32.ofNat j))) (.int (am_ka j)) ∈ FL := by decide +kernel
set_option maxRecDepth 100000 in
theorem fm_ar : Cond.arrayOf (.static RX4 "MOST_OF" "[I") .int ∈ FL ∧ Cond.eq (.length (.static RX4 "MOST_OF" "[I")) (.int (Int32.ofNat 7)) ∈ FL := by decide +kernel
set_option maxRecDepth 100000 in
theorem fk_ar : Cond.arrayOf (.static RX4 "KIND_ABOVE" "[I") .int ∈ FL ∧ Cond.eq (.length (.static RX4 "KIND_ABOVE" "[I")) (.int (Int32.ofNat 7)) ∈ FL := by decide +kernel
set_option maxRecDepth 100000 in
theorem fz_cs : Cond.eq (.static "java/lang/String" "COMPACT_STRINGS" "Z") (.int 1) ∈ FL ∧ Cond.isRef (.static "jdk/internal/util/Preconditions" "SIOOBE_FORMATTER" "Ljava/util/function/BiFunction;") ∈ FL := by decide +kernel
theorem vk_S_congr {N : Nat} {len : List Nat} {byt : List (List Int32)} {adK adV adK' adV' : Nat → Nat} {A : Nat → Prop} {U : State} {H : Heap} (h : vk_S N len byt adK adV A U H) (h1 : ∀ i, i < N → adK' i = adK i) (h2 : ∀ i, i < N → adV' i = adV i) : vk_S N len byt adK' adV' A U H :=
  ⟨fun i hi => by rw [h1 i hi, h2 i hi]; exact h.1 i hi, fun i j hi hj e => h.2 i j hi hj (by rw [← h1 i hi, ← h1 j hj]; exact e)⟩
theorem st_arr {s : State} {args : Array Value} {ty : FieldType} (h : (Cond.arrayClass ty).before args s = true) (hr : ∀ x, s.vm.findClass ("[" ++ ty.toString) = some x → va_RA s x ty) : ∃ x, ArrOfT s x ty ∧ va_RA s x ty := by
  obtain ⟨cA, kA, comp, h1, h2, h3⟩ := Cond.arrayClass_spec h
  exact ⟨cA, fun n z => ⟨fun k h => (by cases h), kA, h2, comp, h3⟩, hr cA h1⟩
theorem st_arq {s : State} {args : Array Value} {C : String} (h : (Cond.arrayOver (.object C)).before args s = true) : ∃ x, ArrOfT s x (.object C) ∧ va_RA s x (.object C) := by
  obtain ⟨comp, cA, kA, h1, h2, h3, h4, h5⟩ := Cond.arrayOver_spec h
  exact ⟨cA, fun n z => ⟨fun k h => (by cases h), kA, h3, comp, h4⟩, kA, comp, h3, h4, h1, h5⟩
theorem st_K {args : Array Value} {s : State} (hts : ∀ w ∈ lw_tbl, w.before args s = true) : ∃ (D : va_G) (cA : Nat → ClassId), va_K D am_cl (kT cA) s := by
  obtain ⟨c0, i0, k0⟩ := u_known (C := RX0) (T := TX0) (N := 7) (n := 7) (ws := am_tb) (fun w hw => hts w (am_tbl hw)) am_inX0 (hts _ (List.mem_of_getElem? (i := 88) (by decide +kernel)))
  obtain ⟨c1, i1, k1⟩ := u_known (C := RX1) (T := TX1) (N := 7) (n := 7) (ws := am_tb) (fun w hw => hts w (am_tbl hw)) am_inX1 (hts _ (List.mem_of_getElem? (i := 81) (by decide +kernel)))
  obtain ⟨c2, i2, k2⟩ := u_known (C := RX2) (T := TX2) (N := 3) (n := 3) (ws := am_tb) (fun w hw => hts w (am_tbl hw)) am_inX2 (hts _ (List.mem_of_getElem? (i := 189) (by decide +kernel)))
  obtain ⟨c3, i3, k3⟩ := u_known (C := RX3) (T := TX3) (N := 6) (n := 6) (ws := am_tb) (fun w hw => hts w (am_tbl hw)) am_inX3 (hts _ (List.mem_of_getElem? (i := 161) (by decide +kernel)))
  obtain ⟨c4, i4, k4⟩ := u_known (C := RX4) (T := TX4) (N := 7) (n := 7) (ws := am_tb) (fun w hw => hts w (am_tbl hw)) am_inX4 (hts _ (List.mem_of_getElem? (i := 73) (by decide +kernel)))
  obtain ⟨c5, i5, k5⟩ := u_known (C := RX5) (T := TX5) (N := 18) (n := 18) (ws := am_tb) (fun w hw => hts w (am_tbl hw)) am_inX5 (hts _ (List.mem_of_getElem? (i := 752) (by decide +kernel)))
  obtain ⟨x10, y10⟩ := st_arr (ty := .int) (hts _ (List.mem_of_getElem? (i := 127) (by decide +kernel))) (fun _ h => h)
  obtain ⟨x11, y11⟩ := st_arr (ty := .byte) (hts _ (List.mem_of_getElem? (i := 186) (by decide +kernel))) (fun _ h => h)
  obtain ⟨x12, y12⟩ := st_arr (ty := .char) (hts _ (List.mem_of_getElem? (i := 812) (by decide +kernel))) (fun _ h => h)
  obtain ⟨x13, y13⟩ := st_arq (C := "CarpetLane$Carpet") (hts _ (List.mem_of_getElem? (i := 87) (by decide +kernel)))
  obtain ⟨x14, y14⟩ := st_arq (C := "CarpetLane$Sheet") (hts _ (List.mem_of_getElem? (i := 188) (by decide +kernel)))
  refine ⟨(fun k => if k = 0 then c0 else if k = 1 then c1 else if k = 2 then c2 else if k = 3 then c3 else if k = 4 then c4 else c5, fun k => if k = 0 then i0 else if k = 1 then i1 else if k = 2 then i2 else if k = 3 then i3 else if k = 4 then i4 else i5), fun t => if t = 10 then x10 else if t = 11 then x11 else if t = 12 then x12 else if t = 13 then x13 else x14, ?_, ?_⟩
  · intro k q hq
    match k, hq with
    | 0, hq => cases hq; exact k0
    | 1, hq => cases hq; exact k1
    | 2, hq => cases hq; exact k2
    | 3, hq => cases hq; exact k3
    | 4, hq => cases hq; exact k4
    | 5, hq => cases hq; exact k5
    | k + 6, hq => simp [am_cl] at hq
  · intro k q hq
    match k, hq with
    | 0, hq => cases hq; exact y10
    | 1, hq => cases hq; exact y11
    | 2, hq => cases hq; exact y12
    | 3, hq => cases hq; exact y13
    | 4, hq => cases hq; exact y14
    | k + 5, hq => simp [kT] at hq
theorem st_nest {args : Array Value} {s : State} (hts : ∀ w ∈ lw_tbl, w.before args s = true) : ∀ w ∈ am_nest, va_Nw w s := by
  intro w hw
  simp only [am_nest, List.mem_cons, List.not_mem_nil, or_false] at hw
  rcases hw with rfl | rfl | rfl | rfl | rfl | rfl
  · exact va_Nw.of rfl (hts _ (List.mem_of_getElem? (i := 649) (by decide +kernel)))
  · exact va_Nw.of rfl (hts _ (List.mem_of_getElem? (i := 683) (by decide +kernel)))
  · exact va_Nw.of rfl (hts _ (List.mem_of_getElem? (i := 664) (by decide +kernel)))
  · exact va_Nw.of rfl (hts _ (List.mem_of_getElem? (i := 682) (by decide +kernel)))
  · exact va_Nw.of rfl (hts _ (List.mem_of_getElem? (i := 704) (by decide +kernel)))
  · exact va_Nw.of rfl (hts _ (List.mem_of_getElem? (i := 654) (by decide +kernel)))
/-- the world that doesn't change, at the law's entry: cells may be made at any addresses behind the heap -/
theorem st_SW {args : Array Value} {s : State} {b L : Nat} {xs : Nat → Int32} (hL : L ≤ 3072) (hts : ∀ w ∈ lw_tbl, w.before args s = true) (hX : va_X b L xs s s.heap) (hbl : b < s.heap.size) (hgv : (Jvm.Cond.and given_1 narrow_1).before args s = true) {D : va_G} {cA : Nat → ClassId} (hK : va_K D am_cl (kT cA) s) :
    ∃ (t100 t101 : Nat) (adK adV : Nat → Nat) (zv : Value), ∀ ad : Nat → Nat, (∀ i j, i < 62 → j < 62 → ad i = ad j → i = j) → (∀ k, k < 62 → s.heap.size ≤ ad k) → ad 100 = t100 → ad 101 = t101 → ad 102 = b → (∀ i, i < 13 → ad (110 + i) = adK i) → (∀ i, i < 13 → ad (130 + i) = adV i) → am_SW (D.1, D.2, cA, ad, zv) (mu0 L xs) s := by
  have hf : ∀ w ∈ FL, w.before args s = true := flat_of_before _ hgv
  have hA : ∀ a : Nat, a < s.heap.size → ¬ (fun q : Nat => s.heap.size ≤ q) a := fun a h => Nat.not_le.mpr h
  obtain ⟨t100, e100, T100⟩ := va_Tof (A := fun q : Nat => s.heap.size ≤ q) (N := 7) (f := fun j => .int (am_mo j)) (by decide) (hf _ fm_ar.1) (va_eqt (hf _ fm_ar.2)) (fun j hj => va_eqt (hf _ (fm_el j hj))) hA
  obtain ⟨t101, e101, T101⟩ := va_Tof (A := fun q : Nat => s.heap.size ≤ q) (N := 7) (f := fun j => .int (am_ka j)) (by decide) (hf _ fk_ar.1) (va_eqt (hf _ fk_ar.2)) (fun j hj => va_eqt (hf _ (fk_el j hj))) hA
  have Z1 := va_Zref (A := fun q : Nat => s.heap.size ≤ q) (hts _ (List.mem_of_getElem? (i := 301) (by decide +kernel))) (hts _ (List.mem_of_getElem? (i := 59) (by decide +kernel))) e100 hA
  have Z2 := va_Zref (A := fun q : Nat => s.heap.size ≤ q) (hts _ (List.mem_of_getElem? (i := 684) (by decide +kernel))) (hts _ (List.mem_of_getElem? (i := 59) (by decide +kernel))) e101 hA
  have Z3 := va_Zof (A := fun q : Nat => s.heap.size ≤ q) (hts _ (List.mem_of_getElem? (i := 593) (by decide +kernel))) (hts _ (List.mem_of_getElem? (i := 68) (by decide +kernel))) (va_eqi (hf _ fz_cs.1)) hA
  obtain ⟨zv, hzc, Z4⟩ : ∃ zv : Value, zv.category = 1 ∧ va_Z "jdk/internal/util/Preconditions" "SIOOBE_FORMATTER" "Ljava/util/function/BiFunction;" zv (fun q : Nat => s.heap.size ≤ q) s s.heap := by
    rcases va_Zqof (A := fun q : Nat => s.heap.size ≤ q) (hts _ (List.mem_of_getElem? (i := 609) (by decide +kernel))) (hts _ (List.mem_of_getElem? (i := 70) (by decide +kernel))) (hf _ fz_cs.2) hA with h | ⟨t, h⟩
    · exact ⟨_, rfl, h⟩
    · exact ⟨_, rfl, h⟩
  obtain ⟨adK, adV, hVS, hev⟩ := vk_Sof (args := args) (s := s) (N := 13) (tm := tmS) (len := am_slen) (byt := am_sbyt) (A := fun q : Nat => s.heap.size ≤ q) fs_n (fun i hi => hf _ (fs_ex i hi)) (fun i hi => hf _ (fs_co i hi)) (fun i hi => hf _ (fs_ar i hi)) (fun i hi => hf _ (fs_le i hi)) (fun i hi j hj => hf _ (fs_el i hi j hj)) (fun i j hi hj h => (fs_ne i hi j hj h).imp (hf _) (hf _)) hA
  refine ⟨t100, t101, adK, adV, zv, fun ad hinj hge h100 h101 h102 hAK hAV => ?_⟩
  have hn : ∀ q, am_A (D.1, D.2, cA, ad, zv) q → (fun q : Nat => s.heap.size ≤ q) q := fun q ⟨k, hk, e⟩ => by rw [e]; exact hge k hk
  refine ⟨hK, hinj, st_nest hts, ?_, ?_, ?_, ?_, ?_, ⟨L, by omega, rfl, ?_⟩, hzc⟩
  · intro q hq
    simp only [am_stc, List.mem_cons, List.not_mem_nil, or_false] at hq
    rcases hq with rfl | rfl | rfl | rfl
    · show va_Z RX4 "MOST_OF" "[I" (.ref (ad 100)) _ s s.heap
      rw [h100]; exact Z1.narrow hn
    · show va_Z RX4 "KIND_ABOVE" "[I" (.ref (ad 101)) _ s s.heap
      rw [h101]; exact Z2.narrow hn
    · exact Z3.narrow hn
    · exact Z4.narrow hn
  · show va_T .int (ad 100) 7 _ _ s s.heap
    rw [h100]; exact T100.narrow hn
  · show va_T .int (ad 101) 7 _ _ s s.heap
    rw [h101]; exact T101.narrow hn
  · intro q hq
    simp only [am_strs, List.mem_cons, List.not_mem_nil, or_false] at hq
    rcases hq with rfl | rfl | rfl | rfl | rfl | rfl | rfl | rfl | rfl | rfl | rfl | rfl | rfl
    · exact vk_R.of (hts _ (List.mem_of_getElem? (i := 579) (by decide +kernel))) ((hev 0 (by decide)).trans (congrArg (fun z => some (Value.ref z)) (hAK 0 (by decide)).symm))
    · exact vk_R.of (hts _ (List.mem_of_getElem? (i := 632) (by decide +kernel))) ((hev 1 (by decide)).trans (congrArg (fun z => some (Value.ref z)) (hAK 1 (by decide)).symm))
    · exact vk_R.of (hts _ (List.mem_of_getElem? (i := 633) (by decide +kernel))) ((hev 2 (by decide)).trans (congrArg (fun z => some (Value.ref z)) (hAK 2 (by decide)).symm))
    · exact vk_R.of (hts _ (List.mem_of_getElem? (i := 634) (by decide +kernel))) ((hev 3 (by decide)).trans (congrArg (fun z => some (Value.ref z)) (hAK 3 (by decide)).symm))
    · exact vk_R.of (hts _ (List.mem_of_getElem? (i := 635) (by decide +kernel))) ((hev 4 (by decide)).trans (congrArg (fun z => some (Value.ref z)) (hAK 4 (by decide)).symm))
    · exact vk_R.of (hts _ (List.mem_of_getElem? (i := 636) (by decide +kernel))) ((hev 5 (by decide)).trans (congrArg (fun z => some (Value.ref z)) (hAK 5 (by decide)).symm))
    · exact vk_R.of (hts _ (List.mem_of_getElem? (i := 637) (by decide +kernel))) ((hev 6 (by decide)).trans (congrArg (fun z => some (Value.ref z)) (hAK 6 (by decide)).symm))
    · exact vk_R.of (hts _ (List.mem_of_getElem? (i := 644) (by decide +kernel))) ((hev 7 (by decide)).trans (congrArg (fun z => some (Value.ref z)) (hAK 7 (by decide)).symm))
    · exact vk_R.of (hts _ (List.mem_of_getElem? (i := 656) (by decide +kernel))) ((hev 8 (by decide)).trans (congrArg (fun z => some (Value.ref z)) (hAK 8 (by decide)).symm))
    · exact vk_R.of (hts _ (List.mem_of_getElem? (i := 657) (by decide +kernel))) ((hev 9 (by decide)).trans (congrArg (fun z => some (Value.ref z)) (hAK 9 (by decide)).symm))
    · exact vk_R.of (hts _ (List.mem_of_getElem? (i := 658) (by decide +kernel))) ((hev 10 (by decide)).trans (congrArg (fun z => some (Value.ref z)) (hAK 10 (by decide)).symm))
    · exact vk_R.of (hts _ (List.mem_of_getElem? (i := 659) (by decide +kernel))) ((hev 11 (by decide)).trans (congrArg (fun z => some (Value.ref z)) (hAK 11 (by decide)).symm))
    · exact vk_R.of (hts _ (List.mem_of_getElem? (i := 665) (by decide +kernel))) ((hev 12 (by decide)).trans (congrArg (fun z => some (Value.ref z)) (hAK 12 (by decide)).symm))
  · exact vk_S_congr (hVS.narrow hn) hAK hAV
  · obtain ⟨scr, h1, h2, h3, h4, h5⟩ := hX
    show va_T .int (ad 102) L (fun j => .int (xs j)) _ s s.heap
    rw [h102]
    exact ⟨scr, h1, h2, h3, by omega, by rw [h4] <;> rfl, h5, fun z => absurd (hn b z) (hA b hbl)⟩
