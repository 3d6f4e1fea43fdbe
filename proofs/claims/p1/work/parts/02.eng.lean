/-! A small machine over the kit's rows: values whose references are places in a list of objects; one step as a function; a run with fuel and depth. Its agreement with the machine is proved once (parts 03 ..), so that a method is walked by computing this function. -/
-- an object: kind (0 int[], 1 char[], 2 long[], 3 float[], 4 double[], 5 byte[]; 8 + i: class i of the table) and its contents
abbrev aO : Type := Nat × List Value
abbrev aH : Type := List aO
abbrev aLc : Type := List (Nat × Value)
-- what an instruction's entry of the constant pool comes to: three numbers and a value
abbrev aLk : Type := Nat × Nat × Nat × Value
-- pc, instruction, its length, link
abbrev aIn : Type := Nat × Instr × Nat × aLk
-- name, bytes, locals, what it returns, rows, handlers (from, to, target, class of the table)
abbrev aMt : Type := MethodName × ByteArray × Nat × Option FieldType × List aIn × List (Nat × Nat × Nat × Nat)
abbrev aMt.nm (M : aMt) : MethodName := M.1
abbrev aMt.by (M : aMt) : ByteArray := M.2.1
abbrev aMt.nl (M : aMt) : Nat := M.2.2.1
abbrev aMt.rt (M : aMt) : Option FieldType := M.2.2.2.1
abbrev aMt.cd (M : aMt) : List aIn := M.2.2.2.2.1
abbrev aMt.hd (M : aMt) : List (Nat × Nat × Nat × Nat) := M.2.2.2.2.2
abbrev aOut : Type := Option Value ⊕ Nat
def aTy : Nat → FieldType
  | 0 => .int | 1 => .char | 2 => .long | 3 => .float | 4 => .double | _ => .byte
def aTgt (pc : Nat) (off : Int) : Option Nat := if 0 ≤ (pc : Int) + off then some ((pc : Int) + off).toNat else none
def aGet : aLc → Nat → Option Value
  | [], _ => none
  | q :: l, i => if q.1 = i then some q.2 else aGet l i
def aSet1 (ls : aLc) (i : Nat) (v : Value) : aLc := (i, v) :: ls.filter (fun q => !(q.1 == i) && !(q.1 + 1 == i && q.2.category == 2))
def aSet2 (ls : aLc) (i : Nat) (v : Value) : aLc := (i, v) :: ls.filter (fun q => !(q.1 == i) && (!(q.1 == i + 1) && !(q.1 + 1 == i && q.2.category == 2)))
def aLen : Instr → Nat
  | .bipush _ => 2 | .ldc _ => 2 | .newarray _ => 2 | .iload _ => 2 | .lload _ => 2 | .fload _ => 2 | .dload _ => 2 | .aload _ => 2
  | .istore _ => 2 | .lstore _ => 2 | .fstore _ => 2 | .dstore _ => 2 | .astore _ => 2
  | .sipush _ => 3 | .ldc_w _ => 3 | .ldc2_w _ => 3 | .iinc _ _ => 3 | .ifCond _ _ => 3 | .if_icmp _ _ => 3 | .goto _ => 3 | .ifnull _ => 3 | .ifnonnull _ => 3
  | .getstatic _ => 3 | .getfield _ => 3 | .putfield _ => 3 | .invokevirtual _ => 3 | .invokespecial _ => 3 | .invokestatic _ => 3 | .new _ => 3
  | _ => 1
def aN32 (r : UInt32) : Bool := decide (r &&& 0x7fffffff ≤ 0x7f800000)
def aN64 (r : UInt64) : Bool := decide (r &&& 0x7fffffffffffffff ≤ 0x7ff0000000000000)
/-- instructions that touch the operand stack alone -/
def aPure (I : Instr) (v : Value) (st : List Value) : Option (List Value) :=
  match I with
  | .aconst_null => some (.null :: st)
  | .iconst n => some (.int (Int32.ofInt n) :: st)
  | .bipush n => some (.int (Int8.ofInt n).toInt32 :: st)
  | .sipush n => some (.int (Int16.ofInt n).toInt32 :: st)
  | .lconst n => some (.long (Int64.ofNat n) :: st)
  | .fconst 0 => some (.float FP.fconst0 :: st)
  | .fconst 1 => some (.float FP.fconst1 :: st)
  | .ldc _ => some (v :: st)
  | .ldc_w _ => some (v :: st)
  | .ldc2_w _ => some (v :: st)
  | .iadd => match st with | .int y :: .int x :: r => some (.int (x + y) :: r) | _ => none
  | .isub => match st with | .int y :: .int x :: r => some (.int (x - y) :: r) | _ => none
  | .imul => match st with | .int y :: .int x :: r => some (.int (x * y) :: r) | _ => none
  | .iand => match st with | .int y :: .int x :: r => some (.int (x &&& y) :: r) | _ => none
  | .ior => match st with | .int y :: .int x :: r => some (.int (x ||| y) :: r) | _ => none
  | .ixor => match st with | .int y :: .int x :: r => some (.int (x ^^^ y) :: r) | _ => none
  | .idiv => match st with | .int y :: .int x :: r => if y = 0 then none else some (.int (x / y) :: r) | _ => none
  | .irem => match st with | .int y :: .int x :: r => if y = 0 then none else some (.int (x - x / y * y) :: r) | _ => none
  | .ineg => match st with | .int x :: r => some (.int (-x) :: r) | _ => none
  | .ladd => match st with | .long y :: .long x :: r => some (.long (x + y) :: r) | _ => none
  | .lsub => match st with | .long y :: .long x :: r => some (.long (x - y) :: r) | _ => none
  | .lmul => match st with | .long y :: .long x :: r => some (.long (x * y) :: r) | _ => none
  | .ishl => match st with | .int y :: .int x :: r => some (.int (x <<< (y &&& 31)) :: r) | _ => none
  | .ishr => match st with | .int y :: .int x :: r => some (.int (x >>> (y &&& 31)) :: r) | _ => none
  | .iushr => match st with | .int y :: .int x :: r => some (.int (x.toUInt32 >>> (y.toUInt32 &&& Int32.toUInt32 31)).toInt32 :: r) | _ => none
  | .i2l => match st with | .int x :: r => some (.long x.toInt64 :: r) | _ => none
  | .l2i => match st with | .long x :: r => some (.int x.toInt32 :: r) | _ => none
  | .i2b => match st with | .int x :: r => some (.int x.toInt8.toInt32 :: r) | _ => none
  | .i2c => match st with | .int x :: r => some (.int (x.toUInt32 % 65536).toInt32 :: r) | _ => none
  | .dup => match st with | .int x :: r => some (.int x :: .int x :: r) | .float x :: r => some (.float x :: .float x :: r) | .ref x :: r => some (.ref x :: .ref x :: r) | .null :: r => some (.null :: .null :: r) | _ => none
  | .pop => match st with | .int _ :: r => some r | .float _ :: r => some r | .ref _ :: r => some r | .null :: r => some r | _ => none
  | .pop2 => match st with | .long _ :: r => some r | .double _ :: r => some r | _ => none
  | .lcmp => match st with | .long y :: .long x :: r => some (.int (lg_cmp x y) :: r) | _ => none
  | .fadd => match st with | .float y :: .float x :: r => if aN32 (FP.fadd x y) then some (.float (FP.fadd x y) :: r) else none | _ => none
  | .fsub => match st with | .float y :: .float x :: r => if aN32 (FP.fsub x y) then some (.float (FP.fsub x y) :: r) else none | _ => none
  | .fmul => match st with | .float y :: .float x :: r => if aN32 (FP.fmul x y) then some (.float (FP.fmul x y) :: r) else none | _ => none
  | .fdiv => match st with | .float y :: .float x :: r => if aN32 (FP.fdiv x y) then some (.float (FP.fdiv x y) :: r) else none | _ => none
  | .fneg => match st with | .float x :: r => some (.float (FP.fneg x) :: r) | _ => none
  | .fcmp op => match st with | .float y :: .float x :: r => some (.int (Op.cmpValue (FP.fcmp x y) op) :: r) | _ => none
  | .dcmp op => match st with | .double y :: .double x :: r => some (.int (Op.cmpValue (FP.dcmp x y) op) :: r) | _ => none
  | .i2f => match st with | .int x :: r => some (.float (FP.i2f x) :: r) | _ => none
  | .f2i => match st with | .float x :: r => some (.int (FP.f2i x) :: r) | _ => none
  | .f2d => match st with | .float x :: r => if aN64 (FP.f2d x) then some (.double (FP.f2d x) :: r) else none | _ => none
  | _ => none
/-- jumps -/
def aBr (I : Instr) (pc : Nat) (st : List Value) : Option (Nat × List Value) :=
  match I with
  | .goto o => (aTgt pc o).map (fun t => (t, st))
  | .ifCond .eq o => match st with | .int x :: r => (aTgt pc o).map (fun t => if x = 0 then (t, r) else (pc + 3, r)) | _ => none
  | .ifCond .ne o => match st with | .int x :: r => (aTgt pc o).map (fun t => if x = 0 then (pc + 3, r) else (t, r)) | _ => none
  | .ifCond .lt o => match st with | .int x :: r => (aTgt pc o).map (fun t => if x < 0 then (t, r) else (pc + 3, r)) | _ => none
  | .ifCond .ge o => match st with | .int x :: r => (aTgt pc o).map (fun t => if 0 ≤ x then (t, r) else (pc + 3, r)) | _ => none
  | .ifCond .gt o => match st with | .int x :: r => (aTgt pc o).map (fun t => if 0 < x then (t, r) else (pc + 3, r)) | _ => none
  | .ifCond .le o => match st with | .int x :: r => (aTgt pc o).map (fun t => if x ≤ 0 then (t, r) else (pc + 3, r)) | _ => none
  | .if_icmp .eq o => match st with | .int y :: .int x :: r => (aTgt pc o).map (fun t => if x = y then (t, r) else (pc + 3, r)) | _ => none
  | .if_icmp .ne o => match st with | .int y :: .int x :: r => (aTgt pc o).map (fun t => if x = y then (pc + 3, r) else (t, r)) | _ => none
  | .if_icmp .lt o => match st with | .int y :: .int x :: r => (aTgt pc o).map (fun t => if x < y then (t, r) else (pc + 3, r)) | _ => none
  | .if_icmp .ge o => match st with | .int y :: .int x :: r => (aTgt pc o).map (fun t => if y ≤ x then (t, r) else (pc + 3, r)) | _ => none
  | .if_icmp .gt o => match st with | .int y :: .int x :: r => (aTgt pc o).map (fun t => if y < x then (t, r) else (pc + 3, r)) | _ => none
  | .if_icmp .le o => match st with | .int y :: .int x :: r => (aTgt pc o).map (fun t => if x ≤ y then (t, r) else (pc + 3, r)) | _ => none
  | .ifnull o => match st with | .null :: r => (aTgt pc o).map (fun t => (t, r)) | .ref _ :: r => some (pc + 3, r) | _ => none
  | .ifnonnull o => match st with | .ref _ :: r => (aTgt pc o).map (fun t => (t, r)) | .null :: r => some (pc + 3, r) | _ => none
  | .tableswitch d lo hi offs => match st with
    | .int x :: r => if x.toInt < lo ∨ hi < x.toInt then (aTgt pc d).map (fun t => (t, r)) else (offs[(x.toInt - lo).toNat]?).bind (fun o => (aTgt pc o).map (fun t => (t, r)))
    | _ => none
  | .lookupswitch d ps => match st with
    | .int x :: r => if (ps.toList.zip (ps.toList.drop 1)).all (fun (a, next) => a.1 < next.1) = true then (aTgt pc (Op.lookupswitch.offset ps.toList d x.toInt)).map (fun t => (t, r)) else none
    | _ => none
  | _ => none
/-- loads and stores of locals -/
def aLdI (i : Nat) (ls : aLc) (st : List Value) : Option (List Value) := match aGet ls i with | some (.int x) => some (.int x :: st) | _ => none
def aLdL (i : Nat) (ls : aLc) (st : List Value) : Option (List Value) := match aGet ls i with | some (.long x) => some (.long x :: st) | _ => none
def aLdF (i : Nat) (ls : aLc) (st : List Value) : Option (List Value) := match aGet ls i with | some (.float x) => some (.float x :: st) | _ => none
def aLdD (i : Nat) (ls : aLc) (st : List Value) : Option (List Value) := match aGet ls i with | some (.double x) => some (.double x :: st) | _ => none
def aLdA (i : Nat) (ls : aLc) (st : List Value) : Option (List Value) := match aGet ls i with | some (.ref x) => some (.ref x :: st) | some .null => some (.null :: st) | _ => none
def aStI (nl i : Nat) (ls : aLc) (st : List Value) : Option (aLc × List Value) := match st with | .int x :: r => if i < nl then some (aSet1 ls i (.int x), r) else none | _ => none
def aStL (nl i : Nat) (ls : aLc) (st : List Value) : Option (aLc × List Value) := match st with | .long x :: r => if i + 1 < nl then some (aSet2 ls i (.long x), r) else none | _ => none
def aStF (nl i : Nat) (ls : aLc) (st : List Value) : Option (aLc × List Value) := match st with | .float x :: r => if i < nl then some (aSet1 ls i (.float x), r) else none | _ => none
def aStD (nl i : Nat) (ls : aLc) (st : List Value) : Option (aLc × List Value) := match st with | .double x :: r => if i + 1 < nl then some (aSet2 ls i (.double x), r) else none | _ => none
def aStA (nl i : Nat) (ls : aLc) (st : List Value) : Option (aLc × List Value) := match st with | .ref x :: r => if i < nl then some (aSet1 ls i (.ref x), r) else none | .null :: r => if i < nl then some (aSet1 ls i .null, r) else none | _ => none
def aLoc (nl : Nat) (I : Instr) (ls : aLc) (st : List Value) : Option (aLc × List Value) :=
  match I with
  | .iload_n k => (aLdI k ls st).map (fun t => (ls, t))
  | .iload k => (aLdI k ls st).map (fun t => (ls, t))
  | .lload_n k => (aLdL k ls st).map (fun t => (ls, t))
  | .lload k => (aLdL k ls st).map (fun t => (ls, t))
  | .fload_n k => (aLdF k ls st).map (fun t => (ls, t))
  | .fload k => (aLdF k ls st).map (fun t => (ls, t))
  | .dload_n k => (aLdD k ls st).map (fun t => (ls, t))
  | .dload k => (aLdD k ls st).map (fun t => (ls, t))
  | .aload_n k => (aLdA k ls st).map (fun t => (ls, t))
  | .aload k => (aLdA k ls st).map (fun t => (ls, t))
  | .istore_n k => aStI nl k ls st
  | .istore k => aStI nl k ls st
  | .lstore_n k => aStL nl k ls st
  | .lstore k => aStL nl k ls st
  | .fstore_n k => aStF nl k ls st
  | .fstore k => aStF nl k ls st
  | .dstore_n k => aStD nl k ls st
  | .dstore k => aStD nl k ls st
  | .astore_n k => aStA nl k ls st
  | .astore k => aStA nl k ls st
  | .iinc i n => match aGet ls i with | some (.int x) => if i < nl then some (aSet1 ls i (.int (x + Int32.ofInt n)), st) else none | _ => none
  | _ => none
def aDef : FieldType → Value := defaultValue
/-- which fields may be written: their values are of the type as they stand -/
def aFit (ty : FieldType) (v : Value) : Bool := match ty with
  | .byte => false | .char => false | .short => false
  | t => fits t v
def aRd (kd : Nat) (st : List Value) (h : aH) : Option (List Value × aH) := match st with
  | .int i :: .ref p :: r => match h[p]? with
    | some (k, vs) => if k = kd then (if i < 0 then none else match vs[i.toNatClampNeg]? with | some v => some (v :: r, h) | none => none) else none
    | none => none
  | _ => none
def aWr (kd K : Nat) (x : Value) (st : List Value) (h : aH) : Option (List Value × aH) := match st with
  | .int i :: .ref p :: r => match h[p]? with
    | some (k, vs) => if k = kd ∧ K ≤ p ∧ ¬ i < 0 ∧ i.toNatClampNeg < vs.length then some (r, h.set p (k, vs.set i.toNatClampNeg x)) else none
    | none => none
  | _ => none
def aNewA (kd : Nat) (st : List Value) (h : aH) : Option (List Value × aH) := match st with
  | .int n :: r => if ¬ n < 0 ∧ n.toNatClampNeg ≤ 60000 then some (.ref h.length :: r, h ++ [(kd, List.replicate n.toNatClampNeg (defaultValue (aTy kd)))]) else none
  | _ => none
/-- the heap: K: how many places are not to be written; cl: the table of classes: name, fields, how many, their types -/
def aHp (cl : List (vw_C × List FieldType)) (K : Nat) (own : MethodName) (I : Instr) (lk : aLk) (st : List Value) (h : aH) : Option (List Value × aH) :=
  match I with
  | .getfield _ => match st with
    | .ref p :: r => match h[p]? with
      | some (kd, vs) => if kd = 2 * lk.1 + 8 then (match vs[lk.2.1]? with | some v => some (v :: r, h) | none => none) else none
      | none => none
    | _ => none
  | .putfield _ => match st with
    | v :: .ref p :: r => match h[p]?, cl[lk.1]? with
      | some (kd, vs), some c => if kd = 2 * lk.1 + 8 ∧ K ≤ p ∧ lk.2.1 < vs.length then (match c.2[lk.2.1]? with | some ty => if aFit ty v = true then some (r, h.set p (kd, vs.set lk.2.1 v)) else none | none => none) else none
      | _, _ => none
    | _ => none
  | .iaload => aRd 0 st h
  | .caload => aRd 1 st h
  | .laload => aRd 2 st h
  | .faload => aRd 3 st h
  | .daload => aRd 4 st h
  | .baload => aRd 5 st h
  | .iastore => match st with | .int x :: r => aWr 0 K (.int x) r h | _ => none
  | .castore => match st with | .int x :: r => aWr 1 K (narrow .char (.int x)) r h | _ => none
  | .lastore => match st with | .long x :: r => aWr 2 K (.long x) r h | _ => none
  | .fastore => match st with | .float x :: r => aWr 3 K (.float x) r h | _ => none
  | .dastore => match st with | .double x :: r => aWr 4 K (.double x) r h | _ => none
  | .arraylength => match st with
    | .ref p :: r => match h[p]? with
      | some (kd, vs) => if kd < 6 then some (.int (Int32.ofNat vs.length) :: r, h) else none
      | none => none
    | _ => none
  | .newarray .int => aNewA 0 st h
  | .newarray .char => aNewA 1 st h
  | .newarray .long => aNewA 2 st h
  | .newarray .float => aNewA 3 st h
  | .newarray .double => aNewA 4 st h
  | .new _ => match cl[lk.1]? with
    | some c => if lk.2.1 = 0 then some (.ref h.length :: st, h ++ [(2 * lk.1 + 8, c.2.map defaultValue)]) else some (.ref h.length :: st, h ++ [(2 * lk.1 + 9, [])])
    | none => none
  | .getstatic _ => some (lk.2.2.2 :: st, h)
  | _ => none
/-- a return -/
def aRet (I : Instr) (rt : Option FieldType) (st : List Value) : Option (Option Value) :=
  match I with
  | .return_ => match rt, st with | none, [] => some none | _, _ => none
  | .ireturn => match rt, st with
    | some .int, [.int v] => some (some (.int v))
    | some .boolean, [.int v] => if v = 0 ∨ v = 1 then some (some (.int v)) else none
    | some .char, [.int v] => if narrow .char (.int v) = .int v then some (some (.int v)) else none
    | some .byte, [.int v] => if narrow .byte (.int v) = .int v then some (some (.int v)) else none
    | _, _ => none
  | .lreturn => match rt, st with | some .long, [.long v] => some (some (.long v)) | _, _ => none
  | .freturn => match rt, st with | some .float, [.float v] => some (some (.float v)) | _, _ => none
  | .areturn => match rt, st with
    | some (.object _), [.ref v] => some (some (.ref v))
    | some (.object _), [.null] => some (some .null)
    | _, _ => none
  | _ => none
def aFind : List aIn → Nat → Option (Instr × aLk)
  | [], _ => none
  | e :: l, pc => if e.1 = pc then some (e.2.1, e.2.2.2) else aFind l pc
/-- a call: the number of the method in the program, its arguments (the receiver among them), what stays on the stack -/
def aArgs : Nat → List Value → Option (List Value × List Value)
  | 0, st => some ([], st)
  | n + 1, v :: st => match aArgs n st with | some (as, r) => some (as ++ [v], r) | none => none
  | _ + 1, [] => none
def aCat (st : List Value) : Nat := (st.map fun v => v.category).sum

abbrev aRes : Type := (Nat × aLc × List Value × aH) ⊕ ((aOut × aH) ⊕ (Nat × List Value × List Value))
/-- one instruction: it goes on, or the method ends, or it calls -/
def aStep (cl : List (vw_C × List FieldType)) (K : Nat) (M : aMt) (I : Instr) (lk : aLk) (pc : Nat) (ls : aLc) (st : List Value) (h : aH) : Option aRes :=
  match aPure I lk.2.2.2 st with
  | some st' => some (.inl (pc + aLen I, ls, st', h))
  | none => match aLoc M.nl I ls st with
    | some (ls', st') => some (.inl (pc + aLen I, ls', st', h))
    | none => match aBr I pc st with
      | some (pc', st') => some (.inl (pc', ls, st', h))
      | none => match aHp cl K M.nm I lk st h with
        | some (st', h') => some (.inl (pc + aLen I, ls, st', h'))
        | none => match aRet I M.rt st with
          | some v => some (.inr (.inl (.inl v, h)))
          | none => match I with
            | .invokestatic _ => match aArgs lk.2.1 st with
              | some (as, r) => some (.inr (.inr (lk.1, as, r)))
              | none => none
            | .invokevirtual _ => match aArgs lk.2.1 st with
              | some (.ref q :: as, r) => match h[q]? with
                | some (kd, _) => if kd = 2 * lk.2.2.1 + 8 then some (.inr (.inr (lk.1, .ref q :: as, r))) else none
                | none => none
              | _ => none
            | .invokespecial _ => match lk.1, st with
              | 0, .ref w :: r => match lk.2.2.1 with
                | 0 => if aCat r ≤ 80 then some (.inl (pc + 3, ls, r, h)) else none
                | x + 1 => match r with
                  | .ref q :: r' => match h[q]? with
                    | some (kd, _) => if kd = 2 * x + 9 ∧ K ≤ q ∧ aCat r' ≤ 10 then some (.inl (pc + 3, ls, r', h.set q (2 * x + 8, []))) else none
                    | none => none
                  | _ => none
              | k + 1, _ => match aArgs lk.2.1 st with
                | some (.ref q :: as, r) => some (.inr (.inr (k, .ref q :: as, r)))
                | _ => none
              | _, _ => none
            | .athrow => match st with
              | .ref q :: _ => match M.hd with
                | [] => some (.inr (.inl (.inr q, h)))
                | _ => none
              | _ => none
            | _ => none
/-- the handler of an exception of class kd - 8 at pc -/
def aHand (hd : List (Nat × Nat × Nat × Nat)) (pc : Nat) (kd : Nat) : Option Nat :=
  match hd with
  | [] => none
  | (a, b, t, k) :: l => if a ≤ pc ∧ pc < b ∧ kd = 2 * k + 8 then some t else aHand l pc kd
def aRun (cl : List (vw_C × List FieldType)) (K : Nat) (P : List aMt) : Nat → aMt → Nat → Nat → aLc → List Value → aH → Option (aOut × aH)
  | 0, _, _, _, _, _, _ => none
  | n + 1, M, d, pc, ls, st, h => match aFind M.cd pc with
    | none => none
    | some (I, lk) => match aStep cl K M I lk pc ls st h with
      | none => none
      | some (.inl (pc', ls', st', h')) => aRun cl K P n M d pc' ls' st' h'
      | some (.inr (.inl r)) => some r
      | some (.inr (.inr (k, as, rest))) => match d, P[k]? with
        | d' + 1, some M' => if aCat rest + M'.nl ≤ 80 ∧ aCat as ≤ M'.nl then (match aRun cl K P n M' d' 0 (lv_args 0 as) [] h with
          | none => none
          | some (.inl v, h') => aRun cl K P n M d (pc + 3) ls (v.toList ++ rest) h'
          | some (.inr q, h') => match M.hd with
            | [] => some (.inr q, h')
            | hd => match h'[q]? with
              | some (kd, _) => match aHand hd pc kd with
                | some t => aRun cl K P n M d t ls [.ref q] h'
                | none => none
              | none => none) else none
        | _, _ => none
