def am_rok (ret : Option FieldType) (rt : FieldType) (ins : Instr) : Bool := match ins with
  | .ireturn => decide (ret = some rt)
  | .lreturn => decide (ret = some .long)
  | .return_ => decide (ret = none)
  | _ => true
def am_roC (ret : Option FieldType) (rt : FieldType) (cd : am_cd) : Bool := cd.all (fun b => b.2.all (am_rok ret rt))
section AMV
variable {p : Program} {l : Launch} {e : Env} {R : Room} {s : State} {m : MethodId} {args : Array Value} {below : List Frame} {meth : Method} {c : Code} {cells slots : Nat} {Z : State → Prop} {g : am_G} {μ0 : am_M} {cc : ByteArray} {own : String} {E : am_E} {Q : am_Q}
theorem am_bsnd (C : am_Cx p s m args c cc own E g μ0) (EO : am_EO own R E) (hcs : cells ≤ R.cells ∧ slots ≤ R.slots) {ret : Option FieldType}
    (hrI : ret = some (am_rt E) → ∀ pc H locs ls μ x, decode cc pc = .ok (.ireturn, 1) → narrow (am_rt E) (.int x) = .int x → Q (some (.int x)) μ → am_off μ0 μ → va_P (am_D g) am_cl (am_cw g μ) H → va_S (am_A g) s.heap H locs → W p l e R s m args below meth c H locs cells slots Z (F0 m pc ls [.int x]))
    (hrL : ret = some .long → ∀ pc H locs ls μ x, decode cc pc = .ok (.lreturn, 1) → Q (some (.long x)) μ → am_off μ0 μ → va_P (am_D g) am_cl (am_cw g μ) H → va_S (am_A g) s.heap H locs → W p l e R s m args below meth c H locs cells slots Z (F0 m pc ls [.long x]))
    (hrV : ret = none → ∀ pc H locs ls μ, decode cc pc = .ok (.return_, 1) → Q none μ → am_off μ0 μ → va_P (am_D g) am_cl (am_cw g μ) H → va_S (am_A g) s.heap H locs → W p l e R s m args below meth c H locs cells slots Z (F0 m pc ls []))
    {gt : am_J} (hj : ∀ t L S μ, gt t L S μ → am_At p l e R s m args below meth c cells slots Z g μ0 (am_nL E) t L S μ) :
    ∀ (blk : List Instr) (pc : Nat) (L S : List Value) (μ : am_M), am_chk cc blk pc = true → blk.all (am_rok ret (am_rt E)) = true → am_blk E gt Q blk pc L S μ → am_At p l e R s m args below meth c cells slots Z g μ0 (am_nL E) pc L S μ
  | [], pc, L, S, μ, _, _, h => hj _ _ _ _ h
  | ins :: r, pc, L, S, μ, hc, hr, h => by
    unfold am_chk at hc
    simp only [Bool.and_eq_true] at hc
    simp only [List.all_cons, Bool.and_eq_true] at hr
    refine am_snd C EO hcs (fun q => hrI ?_) (fun q => hrL ?_) (fun q => hrV ?_) hc.1 hc.2.1 (fun L S μ h1 => am_bsnd C EO hcs hrI hrL hrV hj r _ L S μ hc.2.2 hr.2 h1) hj h
    · have := hr.1; subst q; exact of_decide_eq_true this
    · have := hr.1; subst q; exact of_decide_eq_true this
    · have := hr.1; subst q; exact of_decide_eq_true this
theorem am_okAt (C : am_Cx p s m args c cc own E g μ0) (EO : am_EO own R E) (hcs : cells ≤ R.cells ∧ slots ≤ R.slots) {ret : Option FieldType} {cd : am_cd} (hc : am_chC cc cd = true) (hro : am_roC ret (am_rt E) cd = true)
    (hrI : ret = some (am_rt E) → ∀ pc H locs ls μ x, decode cc pc = .ok (.ireturn, 1) → narrow (am_rt E) (.int x) = .int x → Q (some (.int x)) μ → am_off μ0 μ → va_P (am_D g) am_cl (am_cw g μ) H → va_S (am_A g) s.heap H locs → W p l e R s m args below meth c H locs cells slots Z (F0 m pc ls [.int x]))
    (hrL : ret = some .long → ∀ pc H locs ls μ x, decode cc pc = .ok (.lreturn, 1) → Q (some (.long x)) μ → am_off μ0 μ → va_P (am_D g) am_cl (am_cw g μ) H → va_S (am_A g) s.heap H locs → W p l e R s m args below meth c H locs cells slots Z (F0 m pc ls [.long x]))
    (hrV : ret = none → ∀ pc H locs ls μ, decode cc pc = .ok (.return_, 1) → Q none μ → am_off μ0 μ → va_P (am_D g) am_cl (am_cw g μ) H → va_S (am_A g) s.heap H locs → W p l e R s m args below meth c H locs cells slots Z (F0 m pc ls [])) :
    am_ok E cd Q (am_At p l e R s m args below meth c cells slots Z g μ0 (am_nL E)) := by
  have key : ∀ t, am_chk cc (am_lk [] cd t) t = true ∧ (am_lk [] cd t).all (am_rok ret (am_rt E)) = true := by
    intro t
    rcases am_lk_mem (d := []) cd t with q | q
    · rw [q]; exact ⟨rfl, rfl⟩
    · exact ⟨List.all_eq_true.mp hc _ q, List.all_eq_true.mp hro _ q⟩
  have hgo : ∀ (hs : List Nat) (n t : Nat) (L S : List Value) (μ : am_M), am_go E cd hs (am_At p l e R s m args below meth c cells slots Z g μ0 (am_nL E)) Q n t L S μ → am_At p l e R s m args below meth c cells slots Z g μ0 (am_nL E) t L S μ := by
    intro hs n
    induction n with
    | zero => intro t L S μ h; exact h
    | succ n ih =>
      intro t L S μ h
      unfold am_go at h
      split at h
      · exact h
      · exact am_bsnd C EO hcs hrI hrL hrV ih _ t L S μ (key t).1 (key t).2 h
  intro hs n t L S μ h
  exact am_bsnd C EO hcs hrI hrL hrV (hgo hs n) _ t L S μ (key t).1 (key t).2 h
end AMV
def am_en (as : List Value) (n : Nat) : List Value := as ++ List.replicate (n - as.length) .null
theorem am_args {g : am_G} (hz : (am_zv g).category = 1) : ∀ (as : List Value) (i : Nat), (∀ v ∈ as, am_cat v = 1) → ∀ j v, as[j]? = some v → (i + j, am_cv g v) ∈ lv_args i (as.map (am_cv g))
  | [], _, _, j, v, h => by simp at h
  | w :: as, i, hc, 0, v, h => by
    simp at h
    subst h
    exact List.mem_cons_self
  | w :: as, i, hc, j + 1, v, h => by
    have h1 : ¬ (am_cv g w).category = 2 := by rw [am_cv_cat hz, hc w List.mem_cons_self]; decide
    have := am_args hz as (i + 1) (fun v hv => hc v (List.mem_cons_of_mem _ hv)) j v (by simpa using h)
    refine List.mem_cons_of_mem _ ?_
    rw [if_neg h1]
    have e : i + (j + 1) = i + 1 + j := by omega
    rw [e]
    exact this
theorem am_sl {g : am_G} (hz : (am_zv g).category = 1) : ∀ (as : List Value), (∀ v ∈ as, am_cat v = 1) → (lg_sl (as.map (am_cv g))).length = as.length
  | [], _ => rfl
  | w :: as, hc => by
    have h1 : ¬ (am_cv g w).category = 2 := by rw [am_cv_cat hz, hc w List.mem_cons_self]; decide
    have := am_sl hz as (fun v hv => hc v (List.mem_cons_of_mem _ hv))
    unfold lg_sl at this ⊢
    rw [List.map_cons, List.flatMap_cons, if_neg h1, List.length_append, this]
    simp
    omega
theorem am_ofW {l : Launch} {y : MethodName} {ws ws' : List Cond} {rm : Room} {Pc : Array Value → State → Prop} {Qc : Array Value → State → Outcome → State → Prop} {mc ms : Nat} {free : Addr → Prop} {cc : ByteArray} {maxL : Nat} {ret : Option FieldType}
    (hy : plainFor y = true) (hw : ws = Cond.code y cc maxL ret :: ws')
    (body : ∀ p e s m args below meth c s₁, BodyLoose p l y (headSpec ws rm) cc maxL ret e s m args below meth c s₁ → c.maxLocals = maxL → Pc args s →
      W p l e (headSpec ws rm).room s m args below meth c s.heap [] 0 0 (MQ below Qc args s mc ms free) (entryFrame m args maxL)) : Met l y ws rm Pc Qc mc ms free := by
  refine MetFree.of_bodySF (code := cc) (maxLocals := maxL) (ret := ret) hy ?_ ?_
  · intro args s m h hn
    obtain ⟨meth, c, h1, h2, h3, h4, h5, h6, -, -⟩ := Cond.code_spec hn (atoms_spec (ws := ws) h _ (by rw [hw]; exact List.mem_cons_self))
    exact ⟨meth, c, h1, h2, h3, h4, h5, h6⟩
  · intro p e s m args below meth c s₁ B hml hP _
    have hh0 : s₁.heap = s.heap := by rw [B.state]; rfl
    obtain ⟨t, a1, o, b1, b2, b3⟩ := body p e s m args below meth c s₁ B hml hP s₁ hh0 (Stand.of_body B)
    exact ⟨t, o, a1, b1, b2, ⟨b3.1, b3.2⟩⟩
/-- a method keeps its contract: the walk over the abstract machine -/
theorem am_mok {y : MethodName} {cc : ByteArray} {maxL : Nat} {ret : Option FieldType} {rm : Room} {sp : am_Sp} {cd : am_cd} (E : am_E) (hy : plainFor y = true) (hnL : am_nL E = maxL) (EO : am_EO y.cls rm E) (hc : am_chC cc cd = true) (hro : am_roC ret (am_rt E) cd = true)
    (hsp : ∀ as μ Q, sp as μ Q → as.length ≤ maxL ∧ ∀ v ∈ as, am_cat v = 1)
    (body : ∀ as μ Q At, am_ok E cd Q At → sp as μ Q → At 0 (am_en as maxL) [] μ) : am_OK y cc maxL ret rm sp := by
  intro l g as μ0 Q hq
  refine am_ofW (cc := cc) (maxL := maxL) (ret := ret) hy rfl ?_
  intro p e s m args below meth c s₁ B hml hv
  obtain ⟨rfl, hSW, hP⟩ := hv
  have hx := B.exec
  have hb := B.bytes
  have hr := B.returns
  have hts : ∀ w ∈ am_tb, w.before ((as.map (am_cv g)).toArray) s = true := fun w hw => atoms_spec (ws := .code y cc maxL ret :: am_tb) B.pre w (List.mem_cons_of_mem _ hw)
  have hown : s.vm.findClass y.cls = some m.cls := findClass_of_methodNamed B.named
  have hlocks := B.notSynchronized
  have hz := hSW.2.2.2.2.2.2.2.2.2
  obtain ⟨h1, h2⟩ := hsp as μ0 Q hq
  have hok := am_okAt (p := p) (l := l) (e := e) (R := (headSpec (.code y cc maxL ret :: am_tb) rm).room) (s := s) (m := m) (args := (as.map (am_cv g)).toArray) (below := below) (meth := meth) (c := c) (cells := 0) (slots := 0) (Z := MQ below (am_Qc g Q μ0) (as.map (am_cv g)).toArray s 0 0 (am_A g)) (g := g) (μ0 := μ0) (cc := cc) (own := y.cls) (E := E) (Q := Q) ⟨hx, hb, hown, hts, by rw [hml, hnL], hSW⟩ EO ⟨Nat.zero_le _, Nat.zero_le _⟩ (ret := ret) hc hro
    (fun q pc H locs ls μ x hd hn hQ ho hP hS => W.zret hx hb (hr.trans q) hn (fun t ht hW => ⟨⟨some (.int x), μ, rfl, hQ, ho, by rw [ht]; exact hP⟩, hS.F ht⟩) hS.2.2 hd)
    (fun q pc H locs ls μ x hd hQ ho hP hS => W.lret hx hb (hr.trans q) (fun t ht hW => ⟨⟨some (.long x), μ, rfl, hQ, ho, by rw [ht]; exact hP⟩, hS.F ht⟩) hS.2.2 hd)
    (fun q pc H locs ls μ hd hQ ho hP hS => W.vret hx hb (hr.trans q) (fun t ht hW => ⟨⟨none, μ, rfl, hQ, ho, by rw [ht]; exact hP⟩, hS.F ht⟩) hS.2.2 hd)
  have hA := body as μ0 Q _ hok hq
  have hl := lv_entry (as.map (am_cv g)) (n := maxL) (by rw [am_sl hz as h2]; exact h1)
  rw [lg_entry_eq]
  refine hA s.heap [] _ (am_off_rf μ0) hP va_S.rf ?_
  rw [hnL]
  refine am_hmono hl (fun q hq => ?_)
  obtain ⟨v, v1, v2, v3⟩ := am_lv_mem.mp hq
  unfold am_en at v1
  obtain ⟨i, w⟩ := q
  simp only at v1 v3
  by_cases hi : i < as.length
  · rw [List.getElem?_append_left hi] at v1
    have := am_args hz as 0 h2 i v v1
    rw [Nat.zero_add] at this
    rw [v3]
    exact this
  · rw [List.getElem?_append_right (by omega)] at v1
    exact absurd (List.eq_of_mem_replicate (List.mem_of_getElem? v1)) v2
