/-! ===== what is made: rows for the constructors ===== -/
abbrev kT (cA : Nat → ClassId) : List (ClassId × FieldType) := [(cA 10, .int), (cA 11, .byte), (cA 12, .char), (cA 13, .object "CarpetLane$Carpet"), (cA 14, .object "CarpetLane$Sheet")]
section CTR
variable {p : Program} {l : Launch} {e : Env} {R : Room} {s : State} {m : MethodId} {args : Array Value} {below : List Frame} {meth : Method} {c : Code} {H H0 : Heap} {locs : List Loc} {cells slots : Nat} {Q : State → Prop} {D : va_G} {cl : List vw_C} {tys : List (ClassId × FieldType)} {ws : va_W} {A : Nat → Prop} {ls : Array Slot} {rest : List Value} {pc : Nat} {cc : ByteArray}
theorem nw_a (hexec : p.tables.exec = Jvm.exec) (hb : c.code = cc) {atype : ArrayType} (harr : (Cond.arrayClass (newarray.typeOf atype)).before args s = true) {ty : FieldType} (hty : newarray.typeOf atype = ty) (hK : va_K D cl tys s) (hP : va_P D cl ws H) (hD : va_D A ws) (hS : va_S A H0 H locs) (hA : ∀ q, H0.size ≤ q → A q)
    {n : Int32} {N' : Nat} {a0 : vp_A} (ha : ∀ cA : ClassId, vp_cell cA a0 = arrV cA N' (fun _ => defaultValue ty)) (hn : ¬ n < 0) (hN : n.toNatClampNeg = N') (hbytes : N' * componentBytes ty ≤ 536870912) (hcells : cells + 1 ≤ R.cells) (hslots : slots + N' ≤ R.slots) (hdg : decode cc pc = .ok (.newarray atype, 2))
    {cI : ClassId} (t0 : Nat) (ht : tys[t0]? = some (cI, ty)) (hra : ∀ x, va_RA s x ty → s.vm.findClass ("[" ++ ty.toString) = some x)
    (kk : ∀ (q : Nat) (H1 : Heap), va_P D cl (ws ++ [(q, .inl (cI, a0))]) H1 → va_D A (ws ++ [(q, .inl (cI, a0))]) → va_S A H0 H1 locs →
      W p l e R s m args below meth c H1 locs (cells + 1) (slots + N') Q (F0 m (pc + 2) ls (.ref q :: rest))) : W p l e R s m args below meth c H locs cells slots Q (F0 m pc ls (.int n :: rest)) := by
  refine va_newa hexec hb harr hty hK hP hD hS hA ha hn hN hbytes hcells hslots hdg (fun q cA H1 hK1 hP1 hD1 hS1 => ?_)
  have h1 := hra _ (hK.2 t0 _ ht).2
  have h2 := hra _ (hK1.2 tys.length (cA, ty) (by simp)).2
  have h3 : cA = cI := Option.some.inj (h2.symm.trans h1)
  subst h3
  exact kk q H1 hP1 hD1 hS1
theorem nw_q (hexec : p.tables.exec = Jvm.exec) (hb : c.code = cc) {own C : String} {index : Nat} (hown : s.vm.findClass own = some m.cls) (hclink : (Cond.classLink own index C).before args s = true) (hover : va_AO C s) (hK : va_K D cl tys s) (hP : va_P D cl ws H) (hD : va_D A ws) (hS : va_S A H0 H locs) (hA : ∀ q, H0.size ≤ q → A q)
    {n : Int32} {N' : Nat} (hn : ¬ n < 0) (hN : n.toNatClampNeg = N') (hbytes : N' * 4 ≤ 536870912) (hcells : cells + 1 ≤ R.cells) (hslots : slots + N' ≤ R.slots) (hdg : decode cc pc = .ok (.anewarray index, 3))
    {cI : ClassId} (t0 : Nat) (ht : tys[t0]? = some (cI, .object C))
    (kk : ∀ (q : Nat) (H1 : Heap), va_P D cl (ws ++ [(q, .inl (cI, N', .inr (.inr (.inr (.inr (fun _ => none))))))]) H1 → va_D A (ws ++ [(q, .inl (cI, N', .inr (.inr (.inr (.inr (fun _ => none))))))]) → va_S A H0 H1 locs →
      W p l e R s m args below meth c H1 locs (cells + 1) (slots + N') Q (F0 m (pc + 3) ls (.ref q :: rest))) : W p l e R s m args below meth c H locs cells slots Q (F0 m pc ls (.int n :: rest)) := by
  refine va_newq hexec hb hown hclink hover hK hP hD hS hA hn hN hbytes hcells hslots hdg (fun q cA H1 hK1 hP1 hD1 hS1 => ?_)
  obtain ⟨-, -, -, -, -, h1⟩ := (hK.2 t0 _ ht).2
  obtain ⟨-, -, -, -, -, h2⟩ := (hK1.2 tys.length (cA, .object C) (by simp)).2
  have h3 : cA = cI := Option.some.inj (h2.symm.trans h1)
  subst h3
  exact kk q H1 hP1 hD1 hS1
end CTR
def fchk (cc : ByteArray) : List (Nat × Nat) → Nat → Bool
  | [], _ => true
  | (i, ch) :: r, pc => decide (i < 128) && (decide (ch < 128) && (decide (decode cc pc = .ok (.dup, 1)) && (if i ≤ 5 then decide (decode cc (pc + 1) = .ok (.iconst (i : Int), 1)) && (decide (decode cc (pc + 2) = .ok (.bipush (ch : Int), 2)) && (decide (decode cc (pc + 4) = .ok (.castore, 1)) && fchk cc r (pc + 5))) else decide (decode cc (pc + 1) = .ok (.bipush (i : Int), 2)) && (decide (decode cc (pc + 3) = .ok (.bipush (ch : Int), 2)) && (decide (decode cc (pc + 5) = .ok (.castore, 1)) && fchk cc r (pc + 6))))))
def fend : List (Nat × Nat) → Nat → Nat
  | [], pc => pc
  | (i, _) :: r, pc => if i ≤ 5 then fend r (pc + 5) else fend r (pc + 6)
def ffn (f : Nat → Int32) : List (Nat × Nat) → Nat → Int32
  | [] => f
  | (i, ch) :: r => ffn (upd f i (nI ch)) r
theorem set_gs {α : Type} {l : List α} {k : Nat} {x : α} (h : l[k]? = some x) : l.set k x = l := by
  apply List.ext_getElem?
  intro i
  by_cases e : i = k
  · subst e
    rw [List.getElem?_set_self (List.getElem?_eq_some_iff.mp h).1, h]
  · rw [List.getElem?_set_ne (fun q => e q.symm)]
theorem fc_i : ∀ i : Nat, i < 128 → Int32.ofInt (i : Int) = nI i ∧ (Int8.ofInt (i : Int)).toInt32 = nI i := by decide +kernel
theorem fc_c {q : Nat} (h : q < 128) : vp_nar .char (nI q) = nI q := by
  unfold vp_nar
  rw [(pk_charN (show q < 65536 by omega)).1]
section CTF
variable {p : Program} {l : Launch} {e : Env} {R : Room} {s : State} {m : MethodId} {args : Array Value} {below : List Frame} {meth : Method} {c : Code} {H0 : Heap} {cells slots : Nat} {Q : State → Prop} {D : va_G} {cl : List vw_C} {tys : List (ClassId × FieldType)} {A : Nat → Prop} {ls : Array Slot} {rest : List Value} {cc : ByteArray} {a q0 t0 n : Nat} {cA : ClassId}
theorem va_fill (hexec : p.tables.exec = Jvm.exec) (hb : c.code = cc) (hK : va_K D cl tys s) (ht : tys[t0]? = some (cA, .char)) (hn : n < 2 ^ 31) : ∀ (cs : List (Nat × Nat)) (pc : Nat) (ws : va_W) (f : Nat → Int32) (H : Heap) (locs : List Loc), fchk cc cs pc = true → (∀ x ∈ cs, x.1 < n) → ws[q0]? = some (a, .inl (cA, n, .inl f)) → va_P D cl ws H → va_D A ws → va_S A H0 H locs →
    (∀ (H1 : Heap) (locs1 : List Loc), va_P D cl (ws.set q0 (a, .inl (cA, n, .inl (ffn f cs)))) H1 → va_D A (ws.set q0 (a, .inl (cA, n, .inl (ffn f cs)))) → va_S A H0 H1 locs1 → W p l e R s m args below meth c H1 locs1 cells slots Q (F0 m (fend cs pc) ls (.ref a :: rest))) → W p l e R s m args below meth c H locs cells slots Q (F0 m pc ls (.ref a :: rest))
  | [], pc, ws, f, H, locs, _, _, ha, hP, hD, hS, kk => by
    refine kk H locs ?_ ?_ hS
    · rw [show ffn f [] = f from rfl, set_gs ha]; exact hP
    · rw [show ffn f [] = f from rfl, set_gs ha]; exact hD
  | (i, ch) :: r, pc, ws, f, H, locs, hc, hi, ha, hP, hD, hS, kk => by
    unfold fchk at hc
    simp only [Bool.and_eq_true, decide_eq_true_eq] at hc
    obtain ⟨h1, h2, h3, hc⟩ := hc
    have hin : vp_in (nI i) n := vp_in_nI (hi (i, ch) List.mem_cons_self) hn
    have hcl : (nI i).toNatClampNeg = i := nI_clamp (by omega)
    have hq : q0 < ws.length := (List.getElem?_eq_some_iff.mp ha).1
    have step : ∀ (pc2 : Nat) (H : Heap) (locs : List Loc), va_P D cl ws H → va_D A ws → va_S A H0 H locs → decode cc pc2 = .ok (.castore, 1) → fchk cc r (pc2 + 1) = true → fend ((i, ch) :: r) pc = fend r (pc2 + 1) → W p l e R s m args below meth c H locs cells slots Q (F0 m pc2 ls (.int (nI ch) :: .int (nI i) :: .ref a :: .ref a :: rest)) := by
      intro pc2 H locs hP hD hS hd hc2 he
      refine va_cast hexec hb hK hP hD hS q0 t0 ha ht hin hd (fun H1 locs1 hP1 hD1 hS1 => ?_)
      rw [hcl, fc_c h2] at hP1 hD1
      refine va_fill hexec hb hK ht hn r (pc2 + 1) _ (upd f i (nI ch)) H1 locs1 hc2 (fun x hx => hi x (List.mem_cons_of_mem _ hx)) (List.getElem?_set_self hq) hP1 hD1 hS1 (fun H2 locs2 hP2 hD2 hS2 => ?_)
      rw [List.set_set] at hP2 hD2
      rw [← he]
      exact kk H2 locs2 hP2 hD2 hS2
    refine lv_dup hexec hb h3 rfl ?_
    by_cases q : i ≤ 5
    · rw [if_pos q] at hc
      simp only [Bool.and_eq_true, decide_eq_true_eq] at hc
      obtain ⟨k1, k2, k3, k4⟩ := hc
      refine lv_iconst (v := nI i) hexec hb k1 (fc_i i h1).1 ?_
      refine lv_bipush (v := nI ch) hexec hb k2 (fc_i ch h2).2 ?_
      refine step (pc + 4) H locs hP hD hS k3 k4 ?_
      show (if i ≤ 5 then fend r (pc + 5) else fend r (pc + 6)) = _
      rw [if_pos q]
    · rw [if_neg q] at hc
      simp only [Bool.and_eq_true, decide_eq_true_eq] at hc
      obtain ⟨k1, k2, k3, k4⟩ := hc
      refine lv_bipush (v := nI i) hexec hb k1 (fc_i i h1).2 ?_
      refine lv_bipush (v := nI ch) hexec hb k2 (fc_i ch h2).2 ?_
      refine step (pc + 5) H locs hP hD hS k3 k4 ?_
      show (if i ≤ 5 then fend r (pc + 5) else fend r (pc + 6)) = _
      rw [if_neg q]
end CTF
