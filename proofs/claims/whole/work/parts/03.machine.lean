/-! ===== the small machine: frames of the claim's own methods over cells that are named by numbers from 0 on ===== -/
abbrev gC : Type := (FieldType × vp_A) ⊕ (Nat × List Value)
abbrev gH : Type := Nat → gC
abbrev gS : Type := Nat × Nat × gH
abbrev gL : Type := List (Option Value)
abbrev gI : Type := Instr × Nat × List Nat × Value
abbrev gR : Type := MethodName × ByteArray × Nat × Option FieldType × List (Nat × gI)
def gz : gC := .inr (1000000, [])
def gset (h : gH) (k : Nat) (c : gC) : gH := fun j => if j = k then c else h j
def glook : List (Nat × gI) → Nat → Option gI
  | [], _ => none
  | q :: r, pc => bif Nat.beq q.1 pc then some q.2 else glook r pc
def gl : gL → Nat → Option Value
  | [], _ => none
  | v :: _, 0 => v
  | _ :: r, n + 1 => gl r n
def gsl : gL → Nat → Option Value → gL
  | [], _, _ => []
  | _ :: r, 0, v => v :: r
  | a :: r, n + 1, v => a :: gsl r n v
def gwide : Option Value → Bool
  | some (.long _) => true
  | some (.double _) => true
  | _ => false
def gokS (L : gL) : Nat → Bool
  | 0 => true
  | j + 1 => !gwide (gl L j)
def gent : List Value → gL
  | [] => []
  | .long x :: r => some (.long x) :: none :: gent r
  | .double x :: r => some (.double x) :: none :: gent r
  | v :: r => some v :: gent r
def gpad : gL → Nat → gL
  | _, 0 => []
  | [], n + 1 => none :: gpad [] n
  | a :: r, n + 1 => a :: gpad r n
def gax : List Nat → Nat → Nat
  | [], _ => 0
  | a :: _, 0 => a
  | _ :: r, n + 1 => gax r n
def gbr (c : Jvm.ClassFile.Cond) (x y : Int32) (t f : Nat) : Nat := match c with
  | .eq => if x = y then t else f
  | .ne => if ¬ x = y then t else f
  | .lt => if x < y then t else f
  | .ge => if y ≤ x then t else f
  | .gt => if y < x then t else f
  | .le => if x ≤ y then t else f
def gfit : FieldType → Value → Bool
  | .int, .int _ => true
  | .long, .long _ => true
  | .boolean, .int x => x == 0 || x == 1
  | .object _, .ref _ => true
  | .object _, .null => true
  | .array _, .ref _ => true
  | .array _, .null => true
  | _, _ => false
def gty : Nat → Nat → FieldType
  | 0 => tyX0 | 1 => tyX1 | 2 => tyX2 | 3 => tyX3 | 4 => tyX4 | 5 => tyX5 | 6 => tyX6 | 7 => tyX7 | 8 => tyX8 | 9 => tyX9 | 10 => tyX10 | _ => fun _ => .int
def gdv (ci N : Nat) : List Value := (List.range N).map (fun j => defaultValue (gty ci j))
def gsw (x lo hi : Int) (ax : List Nat) : Nat := if x < lo ∨ hi < x then gax ax 0 else gax ax ((x - lo).toNat + 1)
abbrev gO : Type := Option (Nat × gL × List Value × gS)
def gpush (len : Nat) (w : Value) (pc : Nat) (L : gL) (st : List Value) (S : gS) : gO := some (pc + len, L, w :: st, S)
def gii (f : Int32 → Int32 → Int32) (pc : Nat) (L : gL) (st : List Value) (S : gS) : gO := match st with
  | .int y :: .int x :: r => some (pc + 1, L, .int (f x y) :: r, S)
  | _ => none
def gll (f : Int64 → Int64 → Int64) (pc : Nat) (L : gL) (st : List Value) (S : gS) : gO := match st with
  | .long y :: .long x :: r => some (pc + 1, L, .long (f x y) :: r, S)
  | _ => none
def gli (f : Int64 → Int32 → Int64) (pc : Nat) (L : gL) (st : List Value) (S : gS) : gO := match st with
  | .int y :: .long x :: r => some (pc + 1, L, .long (f x y) :: r, S)
  | _ => none
def giload (len i pc : Nat) (L : gL) (st : List Value) (S : gS) : gO := match gl L i with
  | some (.int x) => some (pc + len, L, .int x :: st, S)
  | _ => none
def glload (len i pc : Nat) (L : gL) (st : List Value) (S : gS) : gO := match gl L i with
  | some (.long x) => some (pc + len, L, .long x :: st, S)
  | _ => none
def galoadL (len i pc : Nat) (L : gL) (st : List Value) (S : gS) : gO := match gl L i with
  | some (.ref x) => some (pc + len, L, .ref x :: st, S)
  | _ => none
def gistore (len i pc : Nat) (L : gL) (st : List Value) (S : gS) : gO := match st with
  | .int x :: r => bif gokS L i && Nat.blt i L.length then some (pc + len, gsl L i (some (.int x)), r, S) else none
  | _ => none
def gastoreL (len i pc : Nat) (L : gL) (st : List Value) (S : gS) : gO := match st with
  | .ref x :: r => bif gokS L i && Nat.blt i L.length then some (pc + len, gsl L i (some (.ref x)), r, S) else none
  | _ => none
def glstore (len i pc : Nat) (L : gL) (st : List Value) (S : gS) : gO := match st with
  | .long x :: r => bif gokS L i && Nat.blt (i + 1) L.length then some (pc + len, gsl (gsl L i (some (.long x))) (i + 1) none, r, S) else none
  | _ => none
def giinc (len i : Nat) (w : Value) (pc : Nat) (L : gL) (st : List Value) (S : gS) : gO := match gl L i, w with
  | some (.int x), .int n => bif gokS L i && Nat.blt i L.length then some (pc + len, gsl L i (some (.int (x + n))), st, S) else none
  | _, _ => none
def gout (i : Int32) (n : Nat) : Prop := i < 0 ∨ n ≤ i.toNatClampNeg
def gget (ci sl pc : Nat) (L : gL) (st : List Value) (S : gS) : gO := match st with
  | .ref a :: r => match S.2.2 a with
    | .inr (c, fs) => bif Nat.beq c ci then (match fs[sl]? with | some v => some (pc + 3, L, v :: r, S) | none => none) else none
    | _ => none
  | _ => none
def gput (ci sl pc : Nat) (L : gL) (st : List Value) (S : gS) : gO := match st with
  | v :: .ref a :: r => match S.2.2 a with
    | .inr (c, fs) => bif Nat.beq c ci && Nat.blt sl fs.length && gfit (gty ci sl) v then some (pc + 3, L, r, (S.1, S.2.1, gset S.2.2 a (.inr (c, fs.set sl v)))) else none
    | _ => none
  | _ => none
def gnew (ci pc : Nat) (L : gL) (st : List Value) (S : gS) : gO := match gcl[ci]? with
  | some r => if S.1 < 1000000 then some (pc + 3, L, .ref S.1 :: st, (S.1 + 1, S.2.1 + r.2.2, gset S.2.2 S.1 (.inr (ci, gdv ci r.2.2)))) else none
  | none => none
def gnewa (at_ : ArrayType) (pc : Nat) (L : gL) (st : List Value) (S : gS) : gO := match st with
  | .int n :: r => if n < 0 ∨ 1000000 < n.toNatClampNeg ∨ 1000000 ≤ S.1 then none else match at_ with
    | .int => some (pc + 2, L, .ref S.1 :: r, (S.1 + 1, S.2.1 + n.toNatClampNeg, gset S.2.2 S.1 (.inl (.int, n.toNatClampNeg, .inl (fun _ => 0)))))
    | .char => some (pc + 2, L, .ref S.1 :: r, (S.1 + 1, S.2.1 + n.toNatClampNeg, gset S.2.2 S.1 (.inl (.char, n.toNatClampNeg, .inl (fun _ => 0)))))
    | .boolean => some (pc + 2, L, .ref S.1 :: r, (S.1 + 1, S.2.1 + n.toNatClampNeg, gset S.2.2 S.1 (.inl (.boolean, n.toNatClampNeg, .inl (fun _ => 0)))))
    | .long => some (pc + 2, L, .ref S.1 :: r, (S.1 + 1, S.2.1 + n.toNatClampNeg, gset S.2.2 S.1 (.inl (.long, n.toNatClampNeg, .inr (.inl (fun _ => 0))))))
    | _ => none
  | _ => none
def gnewq (ci pc : Nat) (L : gL) (st : List Value) (S : gS) : gO := match st with
  | .int n :: r => if n < 0 ∨ 1000000 < n.toNatClampNeg ∨ 1000000 ≤ S.1 then none else match gcl[ci]? with
    | some q => some (pc + 3, L, .ref S.1 :: r, (S.1 + 1, S.2.1 + n.toNatClampNeg, gset S.2.2 S.1 (.inl (.object q.1, n.toNatClampNeg, .inr (.inr (.inr (.inr (fun _ => none))))))))
    | none => none
  | _ => none
def giald (ty : FieldType) (pc : Nat) (L : gL) (st : List Value) (S : gS) : gO := match st with
  | .int i :: .ref a :: r => match S.2.2 a with
    | .inl (t, n, .inl f) => if t = ty ∧ ¬ (i < 0 ∨ n ≤ i.toNatClampNeg) then some (pc + 1, L, .int (f i.toNatClampNeg) :: r, S) else none
    | _ => none
  | _ => none
def gbald (pc : Nat) (L : gL) (st : List Value) (S : gS) : gO := match st with
  | .int i :: .ref a :: r => match S.2.2 a with
    | .inl (t, n, .inl f) => if (t = .boolean ∨ t = .byte) ∧ ¬ (i < 0 ∨ n ≤ i.toNatClampNeg) then some (pc + 1, L, .int (f i.toNatClampNeg) :: r, S) else none
    | _ => none
  | _ => none
def glald (pc : Nat) (L : gL) (st : List Value) (S : gS) : gO := match st with
  | .int i :: .ref a :: r => match S.2.2 a with
    | .inl (t, n, .inr (.inl f)) => if t = .long ∧ ¬ (i < 0 ∨ n ≤ i.toNatClampNeg) then some (pc + 1, L, .long (f i.toNatClampNeg) :: r, S) else none
    | _ => none
  | _ => none
def gaald (pc : Nat) (L : gL) (st : List Value) (S : gS) : gO := match st with
  | .int i :: .ref a :: r => match S.2.2 a with
    | .inl (.object _, n, .inr (.inr (.inr (.inr f)))) => if ¬ (i < 0 ∨ n ≤ i.toNatClampNeg) then some (pc + 1, L, va_rf (f i.toNatClampNeg) :: r, S) else none
    | _ => none
  | _ => none
def giast (ty : FieldType) (ok : Int32 → Prop) [DecidablePred ok] (pc : Nat) (L : gL) (st : List Value) (S : gS) : gO := match st with
  | .int x :: .int i :: .ref a :: r => match S.2.2 a with
    | .inl (t, n, .inl f) => if t = ty ∧ ¬ (i < 0 ∨ n ≤ i.toNatClampNeg) ∧ ok x ∧ a < 1000000000 then some (pc + 1, L, r, (S.1, S.2.1, gset S.2.2 a (.inl (t, n, .inl (upd f i.toNatClampNeg x))))) else none
    | _ => none
  | _ => none
def glast (pc : Nat) (L : gL) (st : List Value) (S : gS) : gO := match st with
  | .long x :: .int i :: .ref a :: r => match S.2.2 a with
    | .inl (t, n, .inr (.inl f)) => if t = .long ∧ ¬ (i < 0 ∨ n ≤ i.toNatClampNeg) ∧ a < 1000000000 then some (pc + 1, L, r, (S.1, S.2.1, gset S.2.2 a (.inl (t, n, .inr (.inl (vp_updL f i.toNatClampNeg x)))))) else none
    | _ => none
  | _ => none
def gaast (pc : Nat) (L : gL) (st : List Value) (S : gS) : gO := match st with
  | .ref v :: .int i :: .ref a :: r => match S.2.2 a with
    | .inl (.object C, n, .inr (.inr (.inr (.inr f)))) => match S.2.2 v with
      | .inr (ci, _) => if (gcl[ci]?.map (fun q => q.1)) = some C ∧ ¬ (i < 0 ∨ n ≤ i.toNatClampNeg) ∧ a < 1000000000 then some (pc + 1, L, r, (S.1, S.2.1, gset S.2.2 a (.inl (.object C, n, .inr (.inr (.inr (.inr (va_up f i.toNatClampNeg (some v))))))))) else none
      | _ => none
    | _ => none
  | _ => none
def galen (pc : Nat) (L : gL) (st : List Value) (S : gS) : gO := match st with
  | .ref a :: r => match S.2.2 a with
    | .inl (_, n, _) => some (pc + 1, L, .int (Int32.ofNat n) :: r, S)
    | _ => none
  | _ => none
/-- one instruction that is no call and no return -/
def gstep (i : Instr) (len : Nat) (ax : List Nat) (w : Value) (pc : Nat) (L : gL) (st : List Value) (S : gS) : gO := match i with
  | .iconst _ => gpush 1 w pc L st S
  | .lconst _ => gpush 1 w pc L st S
  | .bipush _ => gpush 2 w pc L st S
  | .sipush _ => gpush 3 w pc L st S
  | .ldc _ => match ax with | [] => none | _ => gpush 2 w pc L st S
  | .ldc_w _ => match ax with | [] => none | _ => gpush 3 w pc L st S
  | .ldc2_w _ => match ax with | [] => none | _ => gpush 3 w pc L st S
  | .iload_n _ => giload 1 (gax ax 0) pc L st S
  | .iload _ => giload 2 (gax ax 0) pc L st S
  | .lload_n _ => glload 1 (gax ax 0) pc L st S
  | .lload _ => glload 2 (gax ax 0) pc L st S
  | .aload_n _ => galoadL 1 (gax ax 0) pc L st S
  | .aload _ => galoadL 2 (gax ax 0) pc L st S
  | .istore_n _ => gistore 1 (gax ax 0) pc L st S
  | .istore _ => gistore 2 (gax ax 0) pc L st S
  | .lstore_n _ => glstore 1 (gax ax 0) pc L st S
  | .lstore _ => glstore 2 (gax ax 0) pc L st S
  | .astore_n _ => gastoreL 1 (gax ax 0) pc L st S
  | .astore _ => gastoreL 2 (gax ax 0) pc L st S
  | .iinc _ _ => giinc 3 (gax ax 0) w pc L st S
  | .iadd => gii HAdd.hAdd pc L st S
  | .isub => gii HSub.hSub pc L st S
  | .imul => gii HMul.hMul pc L st S
  | .iand => gii HAnd.hAnd pc L st S
  | .ior => gii HOr.hOr pc L st S
  | .ixor => gii HXor.hXor pc L st S
  | .ishl => gii (fun x y => x <<< (y &&& 31)) pc L st S
  | .ishr => gii (fun x y => x >>> (y &&& 31)) pc L st S
  | .iushr => gii (fun x y => (x.toUInt32 >>> (y.toUInt32 &&& Int32.toUInt32 31)).toInt32) pc L st S
  | .idiv => match st with
    | .int y :: .int x :: r => if y = 0 then none else some (pc + 1, L, .int (x / y) :: r, S)
    | _ => none
  | .irem => match st with
    | .int y :: .int x :: r => if y = 0 then none else some (pc + 1, L, .int (x - x / y * y) :: r, S)
    | _ => none
  | .ladd => gll HAdd.hAdd pc L st S
  | .lsub => gll HSub.hSub pc L st S
  | .lmul => gll HMul.hMul pc L st S
  | .land => gll HAnd.hAnd pc L st S
  | .lor => gll HOr.hOr pc L st S
  | .ldiv => match st with
    | .long y :: .long x :: r => if y = 0 then none else some (pc + 1, L, .long (x / y) :: r, S)
    | _ => none
  | .lshl => gli (fun x y => x <<< (y.toInt64 &&& 63)) pc L st S
  | .lshr => gli (fun x y => x >>> (y.toInt64 &&& 63)) pc L st S
  | .lushr => gli (fun x y => (x.toUInt64 >>> (y.toInt64.toUInt64 &&& Int64.toUInt64 63)).toInt64) pc L st S
  | .lcmp => match st with
    | .long y :: .long x :: r => some (pc + 1, L, .int (lg_cmp x y) :: r, S)
    | _ => none
  | .i2l => match st with
    | .int x :: r => some (pc + 1, L, .long x.toInt64 :: r, S)
    | _ => none
  | .l2i => match st with
    | .long x :: r => some (pc + 1, L, .int x.toInt32 :: r, S)
    | _ => none
  | .i2c => match st with
    | .int x :: r => some (pc + 1, L, .int (x.toUInt32 % 65536).toInt32 :: r, S)
    | _ => none
  | .dup => match st with
    | .int x :: r => some (pc + 1, L, .int x :: .int x :: r, S)
    | .ref x :: r => some (pc + 1, L, .ref x :: .ref x :: r, S)
    | _ => none
  | .dup2 => match st with
    | .int x :: .ref y :: r => some (pc + 1, L, .int x :: .ref y :: .int x :: .ref y :: r, S)
    | _ => none
  | .ifCond c _ => match st with
    | .int x :: r => some (gbr c x 0 (gax ax 0) (pc + 3), L, r, S)
    | _ => none
  | .if_icmp c _ => match st with
    | .int y :: .int x :: r => some (gbr c x y (gax ax 0) (pc + 3), L, r, S)
    | _ => none
  | .goto _ => some (gax ax 0, L, st, S)
  | .tableswitch _ lo hi _ => match st with
    | .int x :: r => some (gsw x.toInt lo hi ax, L, r, S)
    | _ => none
  | .getfield _ => match ax with
    | [ci, sl, _, _] => gget ci sl pc L st S
    | _ => none
  | .putfield _ => match ax with
    | [ci, sl, _, _] => gput ci sl pc L st S
    | _ => none
  | .new _ => match ax with
    | [ci, _] => gnew ci pc L st S
    | _ => none
  | .newarray t => gnewa t pc L st S
  | .anewarray _ => match ax with
    | [ci, _] => gnewq ci pc L st S
    | _ => none
  | .iaload => giald .int pc L st S
  | .caload => giald .char pc L st S
  | .baload => gbald pc L st S
  | .laload => glald pc L st S
  | .aaload => gaald pc L st S
  | .iastore => giast .int (fun _ => True) pc L st S
  | .castore => giast .char (fun x => vp_nar .char x = x) pc L st S
  | .bastore => giast .boolean (fun x => x = 0 ∨ x = 1) pc L st S
  | .lastore => glast pc L st S
  | .aastore => gaast pc L st S
  | .arraylength => galen pc L st S
  | _ => none
def grok : Option FieldType → Int32 → Prop
  | some .int, _ => True
  | some .boolean, x => x = 0 ∨ x = 1
  | some .char, x => vp_nar .char x = x
  | _, _ => False
/-- the receiver of a virtual call is of the class that declares the method -/
def grcv (S : gS) (C : String) : List Value → Prop
  | .ref a :: _ => match S.2.2 a with
    | .inr (ci, _) => (gcl[ci]?.map (fun q => q.1)) = some C
    | _ => False
  | _ => False
def gkind (i : Instr) (S : gS) (C : String) (as : List Value) : Prop := match i with
  | .invokevirtual _ => grcv S C as
  | .invokespecial _ => ∃ a r, as = .ref a :: r
  | .invokestatic _ => True
  | _ => False
abbrev gB : Type := Nat → List Value → gS → Option Value → gS → Prop
def gcat (st : List Value) : Nat := (st.map (fun v => v.category)).sum
def gcls : Instr → Nat
  | .return_ => 1
  | .ireturn => 2
  | .invokevirtual _ => 3
  | .invokespecial _ => 3
  | .invokestatic _ => 3
  | _ => 0
def gcallP (MT : List gR) (BI : gB) (i : Instr) (ax : List Nat) (d : Nat) (st : List Value) (S : gS) (ce : Nat → gL → Option Value → gS → Prop) (go : List Value → gS → Prop) : Prop := match ax with
  | j :: na :: _ => na ≤ st.length ∧ gcat (st.drop na) ≤ 8 ∧ ∃ (v1 : Option Value) (S1 : gS),
      (if 1000 ≤ j then 10 ≤ d ∧ BI j (st.take na).reverse S v1 S1 else 1 ≤ d ∧ ∃ cr, MT[j]? = some cr ∧ (gent (st.take na).reverse).length ≤ cr.2.2.1 ∧ gkind i S cr.1.cls (st.take na).reverse ∧ ce j (gpad (gent (st.take na).reverse) cr.2.2.1) v1 S1) ∧
      go (v1.toList ++ st.drop na) S1
  | _ => False
/-- from this frame the method comes to its end: with this answer, in that state -/
def gER (MT : List gR) (BI : gB) : Nat → Nat → Nat → Nat → gL → List Value → gS → Option Value → gS → Prop
  | 0, _, _, _, _, _, _, _, _ => False
  | f + 1, d, k, pc, L, st, S, v, S' => match MT[k]? with
    | none => False
    | some row => match glook row.2.2.2.2 pc with
      | none => False
      | some q => match gcls q.1 with
        | 1 => st = [] ∧ v = none ∧ S' = S ∧ row.2.2.2.1 = none
        | 2 => ∃ x, st = [.int x] ∧ v = some (.int x) ∧ S' = S ∧ grok row.2.2.2.1 x
        | 3 => gcallP MT BI q.1 q.2.2.1 d st S (fun j L0 v1 S1 => gER MT BI f (d - 1) j 0 L0 [] S v1 S1) (fun st1 S1 => gER MT BI f d k (pc + 3) L st1 S1 v S')
        | _ => match gstep q.1 q.2.1 q.2.2.1 q.2.2.2 pc L st S with
          | none => False
          | some o => gER MT BI f d k o.1 o.2.1 o.2.2.1 o.2.2.2 v S'
