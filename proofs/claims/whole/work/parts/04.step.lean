/-! ===== the abstract machine: one instruction, one block, a method ===== -/
abbrev am_K : Type := List Value → List Value → am_M → Prop
abbrev am_J : Type := Nat → List Value → List Value → am_M → Prop
abbrev am_Q : Type := Option Value → am_M → Prop
abbrev am_Sp : Type := List Value → am_M → am_Q → Prop
/-- locals, return type, fields (index, class, slot), constants, statics, virtual calls (index, class, arguments, contract), static calls, arraycopy's indices -/
abbrev am_E : Type := Nat × FieldType × List (Nat × Nat × Nat) × List (Nat × Value) × List (Nat × Value) × List (Nat × Nat × Nat × am_Sp) × List (Nat × Nat × am_Sp) × List Nat
abbrev am_nL (E : am_E) : Nat := E.1
abbrev am_rt (E : am_E) : FieldType := E.2.1
abbrev am_fl (E : am_E) : List (Nat × Nat × Nat) := E.2.2.1
abbrev am_co (E : am_E) : List (Nat × Value) := E.2.2.2.1
abbrev am_sa (E : am_E) : List (Nat × Value) := E.2.2.2.2.1
abbrev am_vc (E : am_E) : List (Nat × Nat × Nat × am_Sp) := E.2.2.2.2.2.1
abbrev am_sc (E : am_E) : List (Nat × Nat × am_Sp) := E.2.2.2.2.2.2.1
abbrev am_ac (E : am_E) : List Nat := E.2.2.2.2.2.2.2
def am_lk {α : Type} (d : α) : List (Nat × α) → Nat → α
  | [], _ => d
  | (a, x) :: r, i => if i = a then x else am_lk d r i
def am_pI (S : List Value) (k : Int32 → List Value → Prop) : Prop := match S with
  | .int x :: S => k x S
  | _ => False
def am_pL (S : List Value) (k : Int64 → List Value → Prop) : Prop := match S with
  | .long x :: S => k x S
  | _ => False
def am_pR (S : List Value) (k : Nat → List Value → Prop) : Prop := match S with
  | .ref x :: S => k x S
  | _ => False
def am_cat (v : Value) : Nat := match v with
  | .long _ => 2
  | .double _ => 2
  | _ => 1
def am_pV (S : List Value) (k : Value → List Value → Prop) : Prop := match S with
  | v :: S => am_cat v = 1 ∧ k v S
  | _ => False
def am_lI (L : List Value) (i : Nat) (k : Int32 → Prop) : Prop := match L[i]? with
  | some (.int x) => k x
  | _ => False
def am_lL (L : List Value) (i : Nat) (k : Int64 → Prop) : Prop := match L[i]? with
  | some (.long x) => k x
  | _ => False
def am_lR (L : List Value) (i : Nat) (k : Nat → Prop) : Prop := match L[i]? with
  | some (.ref x) => k x
  | _ => False
def am_sto (L : List Value) (i : Nat) (v : Value) : List Value := match i with
  | 0 => L.set 0 v
  | j + 1 => match L[j]? with
    | some (.long _) => (L.set j .null).set (j + 1) v
    | some (.double _) => (L.set j .null).set (j + 1) v
    | _ => L.set (j + 1) v
def am_stL (L : List Value) (i : Nat) (x : Int64) : List Value := (am_sto L i (.long x)).set (i + 1) .null
def am_av (μ : am_M) (k ci j : Nat) : Value := if ci = 21 then (if j = 0 then .ref (k + 20) else .int 0) else if am_fk ci j = 0 then .int (μ.1 k j) else if am_fk ci j = 1 then .long μ.2 else .ref (am_rf k j)
def am_mo : Nat → Int32 := fun j => [6, 4095, 999, 4095, 9999, 1, 9999].getD j 0
def am_ka : Nat → Int32 := fun j => [-1, 0, 0, 1, 3, 0, 2].getD j 0
def am_sb (i j : Nat) : Int32 := (([[99, 97, 114, 112, 101, 116], [114, 117, 103], [116, 117, 114, 107, 101, 121], [115, 116, 97, 105, 114], [97, 105, 115, 108, 101], [109, 97, 116], [112, 114, 105, 110, 103], [102, 101, 101, 116], [100, 117, 115, 116], [104, 97, 115], [115, 104, 117, 116], [98, 101, 97, 116], [97, 105, 114]] : List (List Int32)).getD i []).getD j 0
def am_ial (μ : am_M) (k : Nat) (i : Int32) (nx : Int32 → Prop) : Prop :=
  if (am_sh k).1 = 10 then vp_in i (am_sh k).2 ∧ nx (μ.1 k i.toNatClampNeg)
  else if k = 100 then vp_in i 7 ∧ nx (am_mo i.toNatClampNeg)
  else if k = 101 then vp_in i 7 ∧ nx (am_ka i.toNatClampNeg)
  else if k = 102 then vp_in i (μ.1 103 0).toNatClampNeg ∧ nx (μ.1 102 i.toNatClampNeg)
  else False
def am_bal (μ : am_M) (k : Nat) (i : Int32) (nx : Int32 → Prop) : Prop :=
  if (am_sh k).1 = 11 then vp_in i (am_sh k).2 ∧ nx (μ.1 k i.toNatClampNeg)
  else if (am_sh k).1 = 22 then vp_in i (am_sh k).2 ∧ nx (am_sb (k - 130) i.toNatClampNeg)
  else False
def am_aln (μ : am_M) (k : Nat) (nx : Int32 → Prop) : Prop :=
  if 10 ≤ (am_sh k).1 ∧ (am_sh k).1 < 15 then nx (nI (am_sh k).2)
  else if (am_sh k).1 = 22 then nx (nI (am_sh k).2)
  else if k = 102 then nx (μ.1 103 0)
  else False
def am_tg (pc : Nat) (off : Int) : Nat := ((pc : Int) + off).toNat
def am_c1 (c : ClassFile.Cond) (x : Int32) : Prop := match c with
  | .eq => x = 0
  | .ne => ¬ x = 0
  | .lt => x < 0
  | .ge => 0 ≤ x
  | .gt => 0 < x
  | .le => x ≤ 0
def am_c2 (c : ClassFile.Cond) (x y : Int32) : Prop := match c with
  | .eq => x = y
  | .ne => ¬ x = y
  | .lt => x < y
  | .ge => y ≤ x
  | .gt => y < x
  | .le => x ≤ y
def am_tsw (pc : Nat) (x : Int32) (jp : Nat → Prop) : Int → List Int → Prop
  | _, [] => True
  | v, o :: r => (x = Int32.ofInt v → jp (am_tg pc o)) ∧ am_tsw pc x jp (v + 1) r
def am_tsd (x : Int32) (P : Prop) : Int → List Int → Prop
  | _, [] => P
  | v, _ :: r => ¬ x = Int32.ofInt v → am_tsd x P (v + 1) r
def am_pop : Nat → List Value → List Value → (List Value → List Value → Prop) → Prop
  | 0, acc, S, k => k acc S
  | n + 1, acc, v :: S, k => am_pop n (v :: acc) S k
  | _ + 1, _, [], _ => False
def am_csum (S : List Value) : Nat := (S.map am_cat).sum
def am_no : am_Sp := fun _ _ _ => False
def am_st (E : am_E) (pc : Nat) (ins : Instr) (L S : List Value) (μ : am_M) (nx : am_K) (jp : am_J) (Q : am_Q) : Prop :=
  match ins with
  | .aload_n n => am_lR L n.val fun k => nx L (.ref k :: S) μ
  | .aload i => am_lR L i fun k => nx L (.ref k :: S) μ
  | .iload_n n => am_lI L n.val fun x => nx L (.int x :: S) μ
  | .iload i => am_lI L i fun x => nx L (.int x :: S) μ
  | .lload_n n => am_lL L n.val fun x => nx L (.long x :: S) μ
  | .lload i => am_lL L i fun x => nx L (.long x :: S) μ
  | .istore_n n => am_pI S fun x S => n.val < am_nL E ∧ nx (am_sto L n.val (.int x)) S μ
  | .istore i => am_pI S fun x S => i < am_nL E ∧ nx (am_sto L i (.int x)) S μ
  | .lstore_n n => am_pL S fun x S => n.val + 1 < am_nL E ∧ nx (am_stL L n.val x) S μ
  | .lstore i => am_pL S fun x S => i + 1 < am_nL E ∧ nx (am_stL L i x) S μ
  | .astore_n n => am_pR S fun x S => n.val < am_nL E ∧ nx (am_sto L n.val (.ref x)) S μ
  | .astore i => am_pR S fun x S => i < am_nL E ∧ nx (am_sto L i (.ref x)) S μ
  | .iconst i => nx L (.int (Int32.ofInt i) :: S) μ
  | .bipush b => nx L (.int (Int8.ofInt b).toInt32 :: S) μ
  | .sipush b => nx L (.int (Int16.ofInt b).toInt32 :: S) μ
  | .lconst n => nx L (.long (Int64.ofNat n.val) :: S) μ
  | .ldc i => match am_lk .null (am_co E) i with
    | .int x => nx L (.int x :: S) μ
    | .ref k => nx L (.ref k :: S) μ
    | _ => False
  | .ldc_w i => match am_lk .null (am_co E) i with
    | .int x => nx L (.int x :: S) μ
    | _ => False
  | .ldc2_w i => match am_lk .null (am_co E) i with
    | .long x => nx L (.long x :: S) μ
    | _ => False
  | .iinc i n => am_lI L i fun x => i < am_nL E ∧ nx (am_sto L i (.int (x + Int32.ofInt n))) S μ
  | .iadd => am_pI S fun y S => am_pI S fun x S => nx L (.int (x + y) :: S) μ
  | .isub => am_pI S fun y S => am_pI S fun x S => nx L (.int (x - y) :: S) μ
  | .imul => am_pI S fun y S => am_pI S fun x S => nx L (.int (x * y) :: S) μ
  | .idiv => am_pI S fun y S => am_pI S fun x S => ¬ y = 0 ∧ nx L (.int (x / y) :: S) μ
  | .irem => am_pI S fun y S => am_pI S fun x S => ¬ y = 0 ∧ nx L (.int (x - x / y * y) :: S) μ
  | .iand => am_pI S fun y S => am_pI S fun x S => nx L (.int (x &&& y) :: S) μ
  | .ior => am_pI S fun y S => am_pI S fun x S => nx L (.int (x ||| y) :: S) μ
  | .ixor => am_pI S fun y S => am_pI S fun x S => nx L (.int (x ^^^ y) :: S) μ
  | .ishl => am_pI S fun y S => am_pI S fun x S => nx L (.int (x <<< (y &&& 31)) :: S) μ
  | .ishr => am_pI S fun y S => am_pI S fun x S => nx L (.int (x >>> (y &&& 31)) :: S) μ
  | .iushr => am_pI S fun y S => am_pI S fun x S => nx L (.int (x.toUInt32 >>> (y.toUInt32 &&& Int32.toUInt32 31)).toInt32 :: S) μ
  | .ladd => am_pL S fun y S => am_pL S fun x S => nx L (.long (x + y) :: S) μ
  | .lsub => am_pL S fun y S => am_pL S fun x S => nx L (.long (x - y) :: S) μ
  | .lmul => am_pL S fun y S => am_pL S fun x S => nx L (.long (x * y) :: S) μ
  | .ldiv => am_pL S fun y S => am_pL S fun x S => ¬ y = 0 ∧ nx L (.long (x / y) :: S) μ
  | .lrem => am_pL S fun y S => am_pL S fun x S => ¬ y = 0 ∧ nx L (.long (x - x / y * y) :: S) μ
  | .lcmp => am_pL S fun y S => am_pL S fun x S => nx L (.int (lg_cmp x y) :: S) μ
  | .i2l => am_pI S fun x S => nx L (.long x.toInt64 :: S) μ
  | .l2i => am_pL S fun x S => nx L (.int x.toInt32 :: S) μ
  | .i2b => am_pI S fun x S => nx L (.int x.toInt8.toInt32 :: S) μ
  | .i2s => am_pI S fun x S => nx L (.int x.toInt16.toInt32 :: S) μ
  | .i2c => am_pI S fun x S => nx L (.int (x.toUInt32 % 65536).toInt32 :: S) μ
  | .dup => am_pV S fun v S => nx L (v :: v :: S) μ
  | .dup2 => am_pV S fun v S => am_pV S fun w S => nx L (v :: w :: v :: w :: S) μ
  | .dup_x1 => am_pV S fun v S => am_pV S fun w S => nx L (v :: w :: v :: S) μ
  | .pop => am_pV S fun _ S => nx L S μ
  | .ifCond c off => am_pI S fun x S => (am_c1 c x → jp (am_tg pc off) L S μ) ∧ (¬ am_c1 c x → nx L S μ)
  | .if_icmp c off => am_pI S fun y S => am_pI S fun x S => (am_c2 c x y → jp (am_tg pc off) L S μ) ∧ (¬ am_c2 c x y → nx L S μ)
  | .goto off => jp (am_tg pc off) L S μ
  | .tableswitch dflt lo _ offs => am_pI S fun x S => am_tsd x (jp (am_tg pc dflt) L S μ) lo offs.toList ∧ am_tsw pc x (fun t => jp t L S μ) lo offs.toList
  | .getfield i => am_pR S fun k S => am_sh k = ((am_lk (90, 0) (am_fl E) i).1, 0) ∧ nx L (am_av μ k (am_lk (90, 0) (am_fl E) i).1 (am_lk (90, 0) (am_fl E) i).2 :: S) μ
  | .putfield i => match S with
    | .int x :: .ref k :: S => am_sh k = ((am_lk (90, 0) (am_fl E) i).1, 0) ∧ (am_lk (90, 0) (am_fl E) i).1 < 6 ∧ am_fk (am_lk (90, 0) (am_fl E) i).1 (am_lk (90, 0) (am_fl E) i).2 = 0 ∧ (am_bz (am_lk (90, 0) (am_fl E) i).1 (am_lk (90, 0) (am_fl E) i).2 = true → x = 0 ∨ x = 1) ∧ nx L S (am_set μ k (am_lk (90, 0) (am_fl E) i).2 x)
    | .long x :: .ref k :: S => am_sh k = (5, 0) ∧ am_lk (90, 0) (am_fl E) i = (5, 10) ∧ nx L S (μ.1, x)
    | _ => False
  | .getstatic i => match am_lk (.long 0) (am_sa E) i with
    | .long _ => False
    | v => nx L (v :: S) μ
  | .iaload => am_pI S fun i S => am_pR S fun k S => am_ial μ k i fun x => nx L (.int x :: S) μ
  | .baload => am_pI S fun i S => am_pR S fun k S => am_bal μ k i fun x => nx L (.int x :: S) μ
  | .caload => am_pI S fun i S => am_pR S fun k S => (am_sh k).1 = 12 ∧ vp_in i (am_sh k).2 ∧ nx L (.int (μ.1 k i.toNatClampNeg) :: S) μ
  | .aaload => am_pI S fun i S => am_pR S fun k S => ((am_sh k).1 = 13 ∨ (am_sh k).1 = 14) ∧ vp_in i (am_sh k).2 ∧ nx L (.ref (am_rf k i.toNatClampNeg) :: S) μ
  | .iastore => am_pI S fun x S => am_pI S fun i S => am_pR S fun k S => (am_sh k).1 = 10 ∧ vp_in i (am_sh k).2 ∧ nx L S (am_set μ k i.toNatClampNeg x)
  | .bastore => am_pI S fun x S => am_pI S fun i S => am_pR S fun k S => (am_sh k).1 = 11 ∧ vp_in i (am_sh k).2 ∧ nx L S (am_set μ k i.toNatClampNeg (vp_nar .byte x))
  | .arraylength => am_pR S fun k S => am_aln μ k fun x => nx L (.int x :: S) μ
  | .invokevirtual i => am_pop (am_lk (0, 0, am_no) (am_vc E) i).2.1 [] S fun as S => am_pR S fun k S => am_sh k = ((am_lk (0, 0, am_no) (am_vc E) i).1, 0) ∧ am_csum S ≤ 8 ∧ (am_lk (0, 0, am_no) (am_vc E) i).2.2 (.ref k :: as) μ fun r μ' => nx L (r.toList ++ S) μ'
  | .invokestatic i => if i ∈ am_ac E then (match S with
      | .int n :: .int dp :: .ref b :: .int sp :: .ref a :: S => (am_sh a).1 = 10 ∧ (am_sh b).1 = 10 ∧ ¬ sp < 0 ∧ ¬ dp < 0 ∧ ¬ n < 0 ∧ sp.toNatClampNeg + n.toNatClampNeg ≤ (am_sh a).2 ∧ dp.toNatClampNeg + n.toNatClampNeg ≤ (am_sh b).2 ∧ am_csum S = 0 ∧ nx L S (am_cpm μ a b sp.toNatClampNeg dp.toNatClampNeg n.toNatClampNeg)
      | _ => False)
    else am_pop (am_lk (0, am_no) (am_sc E) i).1 [] S fun as S => am_csum S ≤ 8 ∧ (am_lk (0, am_no) (am_sc E) i).2 as μ fun r μ' => nx L (r.toList ++ S) μ'
  | .ireturn => match S with
    | [.int x] => narrow (am_rt E) (.int x) = .int x ∧ Q (some (.int x)) μ
    | _ => False
  | .lreturn => match S with
    | [.long x] => Q (some (.long x)) μ
    | _ => False
  | .return_ => match S with
    | [] => Q none μ
    | _ => False
  | _ => False
def am_ln (ins : Instr) : Nat := match ins with
  | .aload _ | .iload _ | .lload _ | .istore _ | .lstore _ | .astore _ | .bipush _ | .ldc _ => 2
  | .sipush _ | .ldc_w _ | .ldc2_w _ | .iinc _ _ | .ifCond _ _ | .if_icmp _ _ | .goto _ | .getfield _ | .putfield _ | .getstatic _ | .invokevirtual _ | .invokestatic _ => 3
  | _ => 1
def am_blk (E : am_E) (gt : am_J) (Q : am_Q) : List Instr → Nat → List Value → List Value → am_M → Prop
  | [], pc, L, S, μ => gt pc L S μ
  | ins :: r, pc, L, S, μ => am_st E pc ins L S μ (am_blk E gt Q r (pc + am_ln ins)) gt Q
abbrev am_cd : Type := List (Nat × List Instr)
def am_go (E : am_E) (cd : am_cd) (hs : List Nat) (At : am_J) (Q : am_Q) : Nat → am_J
  | 0, t, L, S, μ => At t L S μ
  | n + 1, t, L, S, μ => if t ∈ hs then At t L S μ else am_blk E (am_go E cd hs At Q n) Q (am_lk [] cd t) t L S μ
/-- a predicate of places that is closed under the code -/
def am_ok (E : am_E) (cd : am_cd) (Q : am_Q) (At : am_J) : Prop := ∀ (hs : List Nat) (n t : Nat) (L S : List Value) (μ : am_M), am_blk E (am_go E cd hs At Q n) Q (am_lk [] cd t) t L S μ → At t L S μ
/-! the check of a block against the bytes -/
def am_bro (pc : Nat) (ins : Instr) : Bool := match ins with
  | .ifCond _ off => decide (0 ≤ (pc : Int) + off)
  | .if_icmp _ off => decide (0 ≤ (pc : Int) + off)
  | .goto off => decide (0 ≤ (pc : Int) + off)
  | .tableswitch dflt lo hi offs => decide (0 ≤ (pc : Int) + dflt) && offs.toList.all (fun o => decide (0 ≤ (pc : Int) + o)) && decide (0 ≤ lo) && decide (lo + offs.toList.length < 2 ^ 31) && decide (hi + 1 = lo + offs.toList.length)
  | _ => true
def am_dk (bytes : ByteArray) (pc : Nat) (ins : Instr) : Bool := match ins with
  | .tableswitch _ _ _ _ => (match decode bytes pc with
    | .ok (i, _) => decide (i = ins)
    | _ => false)
  | _ => decide (decode bytes pc = .ok (ins, am_ln ins))
def am_chk (bytes : ByteArray) : List Instr → Nat → Bool
  | [], _ => true
  | ins :: r, pc => am_dk bytes pc ins && (am_bro pc ins && am_chk bytes r (pc + am_ln ins))
def am_chC (bytes : ByteArray) (cd : am_cd) : Bool := cd.all (fun b => am_chk bytes b.2 b.1)
