/-! ===== the world that doesn't change, contracts, soundness ===== -/
def am_cv (g : am_G) (v : Value) : Value := match v with
  | .ref k => .ref (am_ad g k)
  | .null => am_zv g
  | v => v
def am_nest : List Cond := [.fieldLinkNest RX3 87 RX4 "MOST_OF" "[I" RX4, .fieldLinkNest RX0 41 RX4 "KIND_ABOVE" "[I" RX4, .methodLinkNest RX3 104 ⟨RX4, "beating", "(II)I"⟩ RX4, .methodLinkNest RX0 37 ⟨RX4, "isWithin", "(II)Z"⟩ RX4, .methodLinkNest RX2 28 ⟨RX4, "isWithin", "(II)Z"⟩ RX4, .methodLinkNest RX3 132 ⟨RX4, "isWithin", "(II)Z"⟩ RX4]
def am_stc : List (String × String × String × Value) := [(RX4, "MOST_OF", "[I", .ref 100), (RX4, "KIND_ABOVE", "[I", .ref 101), ("java/lang/String", "COMPACT_STRINGS", "Z", .int 1), ("jdk/internal/util/Preconditions", "SIOOBE_FORMATTER", "Ljava/util/function/BiFunction;", .null)]
def am_strs : List (Nat × Nat × String) := [(109, 0, "carpet"), (111, 1, "rug"), (113, 2, "turkey"), (115, 3, "stair"), (117, 4, "aisle"), (119, 5, "mat"), (121, 6, "pring"), (71, 7, "feet"), (77, 8, "dust"), (79, 9, "has"), (81, 10, "shut"), (43, 11, "beat"), (52, 12, "air")]
def am_sbyt : List (List Int32) := [[99, 97, 114, 112, 101, 116], [114, 117, 103], [116, 117, 114, 107, 101, 121], [115, 116, 97, 105, 114], [97, 105, 115, 108, 101], [109, 97, 116], [112, 114, 105, 110, 103], [102, 101, 101, 116], [100, 117, 115, 116], [104, 97, 115], [115, 104, 117, 116], [98, 101, 97, 116], [97, 105, 114]]
theorem am_sb_eq (i j : Nat) : am_sb i j = (am_sbyt.getD i []).getD j 0 := rfl
def am_SW (g : am_G) (μ : am_M) (U : State) : Prop :=
  va_K (am_D g) am_cl (am_tys g) U ∧ (∀ i j, i < 62 → j < 62 → am_ad g i = am_ad g j → i = j) ∧ (∀ w ∈ am_nest, va_Nw w U) ∧
  (∀ q ∈ am_stc, va_Z q.1 q.2.1 q.2.2.1 (am_cv g q.2.2.2) (am_A g) U U.heap) ∧
  va_T .int (am_ad g 100) 7 (fun j => .int (am_mo j)) (am_A g) U U.heap ∧ va_T .int (am_ad g 101) 7 (fun j => .int (am_ka j)) (am_A g) U U.heap ∧
  (∀ q ∈ am_strs, vk_R RX3 q.1 q.2.2 (am_ad g (110 + q.2.1)) U) ∧
  vk_S 13 am_slen am_sbyt (fun i => am_ad g (110 + i)) (fun i => am_ad g (130 + i)) (am_A g) U U.heap ∧
  (∃ n : Nat, n < 2 ^ 31 ∧ μ.1 103 0 = nI n ∧ va_T .int (am_ad g 102) n (fun j => .int (μ.1 102 j)) (am_A g) U U.heap) ∧
  (am_zv g).category = 1
def am_off (μ μ' : am_M) : Prop := ∀ k, 62 ≤ k → μ'.1 k = μ.1 k
theorem am_off_rf (μ : am_M) : am_off μ μ := fun _ _ => rfl
theorem am_off_tr {a b c : am_M} (h1 : am_off a b) (h2 : am_off b c) : am_off a c := fun k hk => (h2 k hk).trans (h1 k hk)
theorem am_off_set {μ0 μ : am_M} {k j : Nat} {x : Int32} (h : am_off μ0 μ) (hk : k < 62) : am_off μ0 (am_set μ k j x) := fun i hi => by
  rw [← h i hi]
  funext b
  unfold am_set
  have : ¬ i = k := by omega
  simp [this]
theorem am_off_cpm {μ0 μ : am_M} {a b sp dp n : Nat} (h : am_off μ0 μ) (hk : b < 62) : am_off μ0 (am_cpm μ a b sp dp n) := fun i hi => by
  rw [← h i hi]
  funext q
  unfold am_cpm
  have : ¬ i = b := by omega
  simp [this]
theorem am_nest_warm {w : Cond} (hw : w ∈ am_nest) {s U : State} (hW : s.WarmedH U.vm) (h : va_Nw w s) : va_Nw w U := by
  simp only [am_nest, List.mem_cons, List.not_mem_nil, or_false] at hw
  rcases hw with rfl | rfl | rfl | rfl | rfl | rfl
  · exact va_Nw.warmF hW h
  · exact va_Nw.warmF hW h
  · exact va_Nw.warmM hW h
  · exact va_Nw.warmM hW h
  · exact va_Nw.warmM hW h
  · exact va_Nw.warmM hW h
theorem am_nest_same {w : Cond} (hw : w ∈ am_nest) {u U : State} (hv : u.vm = U.vm) (h : va_Nw w u) : va_Nw w U := by
  simp only [am_nest, List.mem_cons, List.not_mem_nil, or_false] at hw
  rcases hw with rfl | rfl | rfl | rfl | rfl | rfl <;> exact va_Nw.same rfl hv h
theorem am_SW_warm {g : am_G} {μ0 μ : am_M} {s U : State} {H : Heap} {locs : List Loc} (h : am_SW g μ0 s) (ho : am_off μ0 μ) (hS : va_S (am_A g) s.heap H locs) (hU : U.heap = H) (hW : s.WarmedH U.vm) : am_SW g μ U := by
  obtain ⟨h1, h2, h3, h4, h5, h6, h7, h8, ⟨n, n1, n2, n3⟩, h10⟩ := h
  have hq : ∀ a : Nat, a < s.heap.size → ¬ (am_A g) a → U.heap[a]? = s.heap[a]? := fun a q1 q2 => by rw [hU]; exact hS.2.1 a q1 q2
  refine ⟨va_K.moved hW.alike h1, h2, fun w hw => am_nest_warm hw hW (h3 w hw), fun q hq1 => va_Z.moved hW.alike ((h4 q hq1).kept hq), va_T.moved hW.alike (h5.kept hq), va_T.moved hW.alike (h6.kept hq), fun q hq1 => (h7 q hq1).warm hW, vk_S.moved hW.alike (h8.kept hq), ⟨n, n1, ?_, ?_⟩, h10⟩
  · rw [ho 103 (by omega)]; exact n2
  · have e : μ.1 102 = μ0.1 102 := ho 102 (by omega)
    rw [e]
    exact va_T.moved hW.alike (n3.kept hq)
theorem am_SW_same {g : am_G} {μ : am_M} {u U : State} (hv : u.vm = U.vm) (hh : u.heap = U.heap) (h : am_SW g μ u) : am_SW g μ U := by
  obtain ⟨h1, h2, h3, h4, h5, h6, h7, h8, ⟨n, n1, n2, n3⟩, h10⟩ := h
  have ha : u.vm.Alike U.vm := by rw [hv]; exact Vm.Alike.refl _
  rw [hh] at h4 h5 h6 h8 n3
  exact ⟨va_K.moved ha h1, h2, fun w hw => am_nest_same hw hv (h3 w hw), fun q hq => va_Z.moved ha (h4 q hq), va_T.moved ha h5, va_T.moved ha h6, fun q hq => vk_R.same hv.symm (h7 q hq), vk_S.moved ha h8, ⟨n, n1, n2, va_T.moved ha n3⟩, h10⟩
def am_Pc (g : am_G) (as : List Value) (μ : am_M) : Array Value → State → Prop := fun v U => v = (as.map (am_cv g)).toArray ∧ am_SW g μ U ∧ va_P (am_D g) am_cl (am_cw g μ) U.heap
def am_Qc (g : am_G) (Q : am_Q) (μ : am_M) : Array Value → State → Outcome → State → Prop := fun _ st o t =>
  (∃ (r : Option Value) (μ' : am_M), o = .returned (r.map (am_cv g)) ∧ Q r μ' ∧ am_off μ μ' ∧ va_P (am_D g) am_cl (am_cw g μ') t.heap) ∧ va_F (am_A g) st t
/-- a method keeps its contract -/
def am_OK (y : MethodName) (bytes : ByteArray) (maxL : Nat) (ret : Option FieldType) (rm : Room) (sp : am_Sp) : Prop :=
  ∀ (l : Launch) (g : am_G) (as : List Value) (μ : am_M) (Q : am_Q), sp as μ Q → Met l y (.code y bytes maxL ret :: am_tb) rm (am_Pc g as μ) (am_Qc g Q μ) 0 0 (am_A g)
theorem am_blind (g : am_G) (as : List Value) (μ : am_M) : FrameBlind (am_Pc g as μ) := fun _ U _ _ h => ⟨h.1, am_SW_same (u := U) rfl rfl h.2.1, h.2.2⟩
def am_cn (ci : Nat) : String := if ci = 21 then "java/lang/String" else ["CarpetLane$Carpet", "CarpetLane$Lane", "CarpetLane$Sheet", "CarpetLane$Tape", "CarpetLane", "CarpetLaneModel"].getD ci ""
/-- what a call wants of the tables and of the room -/
def am_CB (R : Room) (n : Nat) (y : MethodName) (bytes : ByteArray) (maxL : Nat) (ret : Option FieldType) (rm : Room) : Prop :=
  .initialized y.cls ∈ am_tb ∧ .code y bytes maxL ret ∈ am_tb ∧ (y.cls ≠ "java/lang/invoke/MethodHandle" ∧ y.cls ≠ "java/lang/invoke/VarHandle" ∧ (parseMethodDescriptor y.desc).map (fun d => d.parameters.length) = some n) ∧ rm.cells = 0 ∧ rm.slots = 0 ∧ rm.frames + 1 ≤ R.frames ∧ 8 + (maxL + 11) + rm.locals ≤ R.locals
def am_CV (own : String) (R : Room) (idx ci n : Nat) (sp : am_Sp) : Prop := ∃ (y : MethodName) (bytes : ByteArray) (maxL : Nat) (ret : Option FieldType) (rm : Room),
  am_OK y bytes maxL ret rm sp ∧ am_CB R n y bytes maxL ret rm ∧ y.cls = am_cn ci ∧ (ci < 6 ∨ ci = 21) ∧ .methodLink own idx y ∈ am_tb ∧ .instanceMethod y ∈ am_tb ∧ .selects y.cls y y ∈ am_tb
def am_CS (own : String) (R : Room) (idx n : Nat) (sp : am_Sp) : Prop := ∃ (y : MethodName) (bytes : ByteArray) (maxL : Nat) (ret : Option FieldType) (rm : Room),
  am_OK y bytes maxL ret rm sp ∧ am_CB R n y bytes maxL ret rm ∧ .static y ∈ am_tb ∧ (.methodLink own idx y ∈ am_tb ∨ .methodLinkNest own idx y RX4 ∈ am_nest)
def am_fok (own : String) (i ci j : Nat) : Prop := (∃ r : vw_C, am_cl[ci]? = some r ∧ j < r.2.2 ∧ .fieldLink own i (r.2.1 j).1 (r.2.1 j).2.1 (r.2.1 j).2.2.1 ∈ am_tb ∧ ci < 6) ∨ (ci = 21 ∧ ((j = 0 ∧ .fieldLink own i "java/lang/String" "value" "[B" ∈ am_tb) ∨ (j = 1 ∧ .fieldLink own i "java/lang/String" "coder" "B" ∈ am_tb)))
def am_cok (own : String) (i : Nat) (v : Value) : Prop := match v with
  | .int x => .constant own i x ∈ am_tb
  | .long x => .constantLong own i x ∈ am_tb
  | .ref k => own = RX3 ∧ ∃ q ∈ am_strs, q.1 = i ∧ k = 110 + q.2.1
  | _ => False
def am_sok (own : String) (i : Nat) (v : Value) : Prop := ∃ q ∈ am_stc, q.2.2.2 = v ∧ (.fieldLink own i q.1 q.2.1 q.2.2.1 ∈ am_tb ∨ .fieldLinkNest own i q.1 q.2.1 q.2.2.1 RX4 ∈ am_nest)
def am_EO (own : String) (R : Room) (E : am_E) : Prop :=
  (∀ q ∈ am_fl E, am_fok own q.1 q.2.1 q.2.2) ∧ (∀ q ∈ am_co E, am_cok own q.1 q.2) ∧ (∀ q ∈ am_sa E, am_sok own q.1 q.2) ∧ (∀ q ∈ am_vc E, am_CV own R q.1 q.2.1 q.2.2.1 q.2.2.2) ∧ (∀ q ∈ am_sc E, am_CS own R q.1 q.2.1 q.2.2) ∧
  (∀ i ∈ am_ac E, .methodLink own i arraycopyName ∈ am_tb ∧ 1 ≤ R.frames ∧ 18 ≤ R.locals)
theorem am_lk_mem {α : Type} {d : α} : ∀ (l : List (Nat × α)) (i : Nat), am_lk d l i = d ∨ (i, am_lk d l i) ∈ l
  | [], _ => Or.inl rfl
  | (a, x) :: r, i => by
    unfold am_lk
    by_cases h : i = a
    · rw [if_pos h, h]
      exact Or.inr List.mem_cons_self
    · rw [if_neg h]
      rcases am_lk_mem r i with q | q
      · exact Or.inl q
      · exact Or.inr (List.mem_cons_of_mem _ q)
/-! locals -/
def am_lo (g : am_G) (i : Nat) (v : Option Value) : Option (Nat × Value) := match v with
  | some .null => none
  | some v => some (i, am_cv g v)
  | none => none
def am_lv (g : am_G) (L : List Value) : List (Nat × Value) := (List.range L.length).filterMap (fun i => am_lo g i L[i]?)
theorem am_lv_mem {g : am_G} {L : List Value} {q : Nat × Value} : q ∈ am_lv g L ↔ ∃ v, L[q.1]? = some v ∧ v ≠ .null ∧ q.2 = am_cv g v := by
  unfold am_lv
  rw [List.mem_filterMap]
  constructor
  · rintro ⟨i, hi, h⟩
    cases hv : L[i]? with
    | none => rw [hv] at h; cases h
    | some v =>
      rw [hv] at h
      cases v <;> first | (cases h; done) | (cases h; exact ⟨_, hv, by simp, rfl⟩)
  · rintro ⟨v, h1, h2, h3⟩
    refine ⟨q.1, List.mem_range.mpr (List.getElem?_eq_some_iff.mp h1).1, ?_⟩
    rw [h1]
    obtain ⟨a, b⟩ := q
    simp only at h3
    subst h3
    cases v <;> first | exact absurd rfl h2 | rfl
theorem am_cv_cat {g : am_G} (hz : (am_zv g).category = 1) (v : Value) : (am_cv g v).category = am_cat v := by
  cases v <;> first | rfl | exact hz
theorem am_lvI {g : am_G} {ls : Array Slot} {n i : Nat} {L : List Value} {x : Int32} (h : lv_has ls n (am_lv g L)) (hi : L[i]? = some (.int x)) : ls[i]? = some (.val (.int x)) := h.2.2 (i, .int x) (am_lv_mem.mpr ⟨_, hi, by simp, rfl⟩)
theorem am_lvL {g : am_G} {ls : Array Slot} {n i : Nat} {L : List Value} {x : Int64} (h : lv_has ls n (am_lv g L)) (hi : L[i]? = some (.long x)) : ls[i]? = some (.val (.long x)) := h.2.2 (i, .long x) (am_lv_mem.mpr ⟨_, hi, by simp, rfl⟩)
theorem am_lvR {g : am_G} {ls : Array Slot} {n i : Nat} {L : List Value} {k : Nat} (h : lv_has ls n (am_lv g L)) (hi : L[i]? = some (.ref k)) : ls[i]? = some (.val (.ref (am_ad g k))) := h.2.2 (i, .ref (am_ad g k)) (am_lv_mem.mpr ⟨_, hi, by simp, rfl⟩)
theorem am_hmono {ls : Array Slot} {n : Nat} {l l' : List (Nat × Value)} (h : lv_has ls n l) (hs : ∀ q ∈ l', q ∈ l) : lv_has ls n l' := ⟨h.1, h.2.1, fun q hq => h.2.2 q (hs q hq)⟩
theorem am_sto_mem {L : List Value} {i a : Nat} {v w : Value} (h : (am_sto L i v)[a]? = some w) (hw : w ≠ .null) : (a = i ∧ w = v) ∨ (a ≠ i ∧ L[a]? = some w ∧ ¬ (a + 1 = i ∧ am_cat w = 2)) := by
  have key : ∀ (M : List Value), (M.set i v)[a]? = some w → (a = i ∧ w = v) ∨ (a ≠ i ∧ M[a]? = some w) := by
    intro M h
    by_cases ha : a = i
    · subst ha
      rw [List.getElem?_set] at h
      split at h
      · split at h
        · exact Or.inl ⟨rfl, (Option.some.inj h).symm⟩
        · cases h
      · exact absurd rfl (by assumption)
    · rw [List.getElem?_set_ne (fun q => ha q.symm)] at h
      exact Or.inr ⟨ha, h⟩
  unfold am_sto at h
  split at h
  · rcases key L h with q | ⟨q1, q2⟩
    · exact Or.inl q
    · exact Or.inr ⟨q1, q2, fun q => by omega⟩
  · rename_i j
    have key2 : ((L.set j .null).set (j + 1) v)[a]? = some w → (a = j + 1 ∧ w = v) ∨ (a ≠ j + 1 ∧ L[a]? = some w ∧ ¬ (a + 1 = j + 1 ∧ am_cat w = 2)) := by
      intro h
      rcases key (L.set j .null) h with q | ⟨q1, q2⟩
      · exact Or.inl q
      · by_cases hb : a = j
        · subst hb
          rw [List.getElem?_set] at q2
          split at q2
          · split at q2
            · exact absurd (Option.some.inj q2).symm hw
            · cases q2
          · exact absurd rfl (by assumption)
        · rw [List.getElem?_set_ne (fun q => hb q.symm)] at q2
          exact Or.inr ⟨q1, q2, fun q => by omega⟩
    split at h
    · exact key2 h
    · exact key2 h
    · rename_i hx1 hx2
      rcases key L h with q | ⟨q1, q2⟩
      · exact Or.inl q
      · refine Or.inr ⟨q1, q2, fun q => ?_⟩
        have : a = j := by omega
        subst this
        have q3 := q.2
        cases w <;> first | exact hx1 _ q2 | exact hx2 _ q2 | (simp [am_cat] at q3; done)
theorem am_sto_sub {g : am_G} (hz : (am_zv g).category = 1) {L : List Value} {i : Nat} {v : Value} : ∀ q ∈ am_lv g (am_sto L i v), q ∈ (i, am_cv g v) :: (am_lv g L).filter (fun q => !(q.1 == i) && !(q.1 + 1 == i && q.2.category == 2)) := by
  intro q hq
  obtain ⟨w, h1, h2, h3⟩ := am_lv_mem.mp hq
  rcases am_sto_mem h1 h2 with ⟨e1, e2⟩ | ⟨e1, e2, e3⟩
  · obtain ⟨a, b⟩ := q
    simp only at e1 h3
    subst e1; subst h3; subst e2
    exact List.mem_cons_self
  · refine List.mem_cons_of_mem _ (List.mem_filter.mpr ⟨am_lv_mem.mpr ⟨w, e2, h2, h3⟩, ?_⟩)
    rw [h3, am_cv_cat hz]
    simp only [Bool.and_eq_true, Bool.not_eq_true', beq_eq_false_iff_ne, ne_eq, Bool.and_eq_false_iff]
    refine ⟨e1, ?_⟩
    by_cases c1 : q.1 + 1 = i
    · exact Or.inr (fun c2 => e3 ⟨c1, c2⟩)
    · exact Or.inl c1
theorem am_stL_sub {g : am_G} (hz : (am_zv g).category = 1) {L : List Value} {i : Nat} {x : Int64} : ∀ q ∈ am_lv g (am_stL L i x), q ∈ (i, Value.long x) :: (am_lv g L).filter (fun q => !(q.1 == i) && (!(q.1 == i + 1) && !(q.1 + 1 == i && q.2.category == 2))) := by
  intro q hq
  obtain ⟨w, h1, h2, h3⟩ := am_lv_mem.mp hq
  unfold am_stL at h1
  by_cases hi : q.1 = i + 1
  · rw [hi, List.getElem?_set] at h1
    split at h1
    · split at h1
      · exact absurd (Option.some.inj h1).symm h2
      · cases h1
    · exact absurd rfl (by assumption)
  · rw [List.getElem?_set_ne (fun q => hi q.symm)] at h1
    rcases am_sto_mem h1 h2 with ⟨e1, e2⟩ | ⟨e1, e2, e3⟩
    · obtain ⟨a, b⟩ := q
      simp only at e1 h3
      subst e1; subst h3; subst e2
      exact List.mem_cons_self
    · refine List.mem_cons_of_mem _ (List.mem_filter.mpr ⟨am_lv_mem.mpr ⟨w, e2, h2, h3⟩, ?_⟩)
      rw [h3, am_cv_cat hz]
      simp only [Bool.and_eq_true, Bool.not_eq_true', beq_eq_false_iff_ne, ne_eq, Bool.and_eq_false_iff]
      refine ⟨e1, hi, ?_⟩
      by_cases c1 : q.1 + 1 = i
      · exact Or.inr (fun c2 => e3 ⟨c1, c2⟩)
      · exact Or.inl c1
