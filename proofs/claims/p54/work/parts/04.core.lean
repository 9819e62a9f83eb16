/-! THE ABSTRACT RUN. A heap is a list of cells; a reference is a cell's place in it (from 1000000 on: a constant object, by its place in xK). A cell is (kind, contents): kind below 40: an object of the class vwCl[kind]; 40: a cell of which nothing is known (an exception); 45: a constant of the enum; 50 + t: an array of the type xTy t. -/
abbrev xH : Type := List (Nat × List Value)
abbrev xL : Type := List (Nat × Value)
/-- an instruction: its place, itself, its length, what the pool names there -/
abbrev xE : Type := Nat × Instr × Nat × List Nat
/-- what an instruction does: goes on (at a place, or at the next); calls a method by its number; returns; throws a new exception by its number -/
abbrev xO : Type := (Option Nat × xL × List Value × xH) ⊕ ((Nat × List Value × xL × List Value × xH) ⊕ ((Option Value × xH) ⊕ (Nat × xH)))
abbrev xA : Type := Except (Nat × Nat) (Option Value)
def xnx (loc : xL) (st : List Value) (h : xH) : Option xO := some (.inl (none, loc, st, h))
def xjp (t : Option Nat) (loc : xL) (st : List Value) (h : xH) : Option xO := match t with
  | some t => some (.inl (some t, loc, st, h))
  | none => none
def xtgt (pc : Nat) (off : Int) : Option Nat := if 0 ≤ (pc : Int) + off then some ((pc : Int) + off).toNat else none
def xbr (b : Bool) (pc : Nat) (off : Int) (loc : xL) (st : List Value) (h : xH) : Option xO := match b with
  | true => xjp (xtgt pc off) loc st h
  | false => xnx loc st h
def xget (loc : xL) (i : Nat) : Option Value := (loc.find? (fun q => q.1 == i)).map (fun q => q.2)
def xs1 (loc : xL) (i : Nat) (v : Value) : xL := (i, v) :: loc.filter (fun q => !(q.1 == i) && !(q.1 + 1 == i && q.2.category == 2))
def xs2 (loc : xL) (i : Nat) (v : Value) : xL := (i, v) :: loc.filter (fun q => !(q.1 == i) && (!(q.1 == i + 1) && !(q.1 + 1 == i && q.2.category == 2)))
/-- the types of arrays -/
def xTy : Nat → FieldType
  | 0 => .byte
  | 1 => .char
  | 2 => .long
  | 3 => .object "RiverReaches$Command"
  | 4 => .object "RiverReaches$Pulse"
  | 5 => .object "RiverReaches$Reach"
  | 6 => .object "RiverReaches$River"
  | 7 => .object "RiverReaches$Kind"
  | _ => .int
def xld (p : Value → Bool) (loc : xL) (st : List Value) (h : xH) (i : Nat) : Option xO := match xget loc i with
  | some v => match p v with
    | true => xnx loc (v :: st) h
    | false => none
  | none => none
def xisI : Value → Bool
  | .int _ => true
  | _ => false
def xisJ : Value → Bool
  | .long _ => true
  | _ => false
def xisF : Value → Bool
  | .float _ => true
  | _ => false
def xisD : Value → Bool
  | .double _ => true
  | _ => false
def xisA : Value → Bool
  | .ref _ => true
  | .null => true
  | _ => false
def xst1 (p : Value → Bool) (nL : Nat) (loc : xL) (st : List Value) (h : xH) (i : Nat) : Option xO := match st with
  | v :: r => match p v && decide (i < nL) with
    | true => xnx (xs1 loc i v) r h
    | false => none
  | [] => none
def xst2 (p : Value → Bool) (nL : Nat) (loc : xL) (st : List Value) (h : xH) (i : Nat) : Option xO := match st with
  | v :: r => match p v && decide (i + 1 < nL) with
    | true => xnx (xs2 loc i v) r h
    | false => none
  | [] => none
def xinc (nL : Nat) (loc : xL) (st : List Value) (h : xH) (i : Nat) (n : Int) : Option xO := match xget loc i with
  | some (.int x) => match decide (i < nL) with
    | true => xnx (xs1 loc i (.int (x + Int32.ofInt n))) st h
    | false => none
  | _ => none
def xii (f : Int32 → Int32 → Int32) (loc : xL) (st : List Value) (h : xH) : Option xO := match st with
  | .int y :: .int x :: r => xnx loc (.int (f x y) :: r) h
  | _ => none
def xiz (f : Int32 → Int32 → Int32) (loc : xL) (st : List Value) (h : xH) : Option xO := match st with
  | .int y :: .int x :: r => match decide (y = 0) with
    | true => none
    | false => xnx loc (.int (f x y) :: r) h
  | _ => none
def xi1 (f : Int32 → Value) (loc : xL) (st : List Value) (h : xH) : Option xO := match st with
  | .int x :: r => xnx loc (f x :: r) h
  | _ => none
def xjj (f : Int64 → Int64 → Value) (loc : xL) (st : List Value) (h : xH) : Option xO := match st with
  | .long y :: .long x :: r => xnx loc (f x y :: r) h
  | _ => none
def xic (c : ClassFile.Cond) (x y : Int32) : Bool := match c with
  | .eq => decide (x = y)
  | .ne => !decide (x = y)
  | .lt => decide (x < y)
  | .ge => decide (y ≤ x)
  | .gt => decide (y < x)
  | .le => decide (x ≤ y)
/-- does a field of this type take this value as it is -/
def xfit (ty : FieldType) (v : Value) : Bool := match ty, v with
  | .int, .int _ => true
  | .long, .long _ => true
  | .char, .int x => decide (0 ≤ x) && decide (x ≤ 65535)
  | .boolean, .int x => decide (x = 0) || decide (x = 1)
  | .byte, .int x => decide (-128 ≤ x) && decide (x ≤ 127)
  | .object _, .null => true
  | .object _, .ref _ => true
  | .array _, .null => true
  | .array _, .ref _ => true
  | .float, .float _ => true
  | .double, .double _ => true
  | _, _ => false
def xin (i : Int32) (n : Nat) : Bool := decide (0 ≤ i) && decide (i.toNatClampNeg < n)
/-- the constant objects: the script first (XS), then the printed ones -/
def xcell (K : List (Nat × List Value)) (h : xH) (a : Nat) : Option (Nat × List Value) := match decide (a < 1000000) with
  | true => h[a]?
  | false => K[a - 1000000]?
def xknown : Value → Bool
  | .retAddr _ => false
  | _ => true
/-- getfield of the place k in a cell of the kind ci -/
def xgetf (K : List (Nat × List Value)) (ci k : Nat) (loc : xL) (st : List Value) (h : xH) : Option xO := match st with
  | .ref a :: r => match xcell K h a with
    | some (c, vs) => match decide (c = ci) with
      | true => match vs[k]? with
        | some v => match xknown v with
          | true => xnx loc (v :: r) h
          | false => none
        | none => none
      | false => none
    | none => none
  | _ => none
/-- putfield -/
def xputf (ty : FieldType) (ci k : Nat) (loc : xL) (st : List Value) (h : xH) : Option xO := match st with
  | v :: .ref a :: r => match decide (a < 1000000) with
    | true => match h[a]? with
      | some (c, vs) => match decide (c = ci) && (decide (k < vs.length) && xfit ty v) with
        | true => xnx loc r (h.set a (c, vs.set k v))
        | false => none
      | none => none
    | false => none
  | _ => none
/-- a load out of an array whose kind is one of 50 + t -/
def xald (K : List (Nat × List Value)) (p : Value → Bool) (t : Nat → Nat → Bool) (loc : xL) (st : List Value) (h : xH) : Option xO := match st with
  | .int i :: .ref a :: r => match xcell K h a with
    | some (c, vs) => match decide (50 ≤ c) && (t a (c - 50) && xin i vs.length) with
      | true => match vs[i.toNatClampNeg]? with
        | some v => match p v with
          | true => xnx loc (v :: r) h
          | false => none
        | none => none
      | false => none
    | none => none
  | _ => none
/-- a store of a number into an array of the kind 50 + t -/
def xast (t : Nat) (f : Value → Option Value) (loc : xL) (st : List Value) (h : xH) : Option xO := match st with
  | v :: .int i :: .ref a :: r => match decide (a < 1000000) with
    | true => match h[a]? with
      | some (c, vs) => match decide (c = 50 + t) && xin i vs.length with
        | true => match f v with
          | some w => xnx loc r (h.set a (c, vs.set i.toNatClampNeg w))
          | none => none
        | false => none
      | none => none
    | false => none
  | _ => none
/-- a store of a reference: the classes by their places in vwCl, as the arrays' types name them -/
def xAC : Nat → Nat
  | 3 => 4
  | 4 => 7
  | 5 => 8
  | 6 => 9
  | _ => 39
def xasq (loc : xL) (st : List Value) (h : xH) : Option xO := match st with
  | .ref b :: .int i :: .ref a :: r => match decide (a < 1000000) && decide (b < 1000000) with
    | true => match h[a]?, h[b]? with
      | some (c, vs), some (d, _) => match decide (53 ≤ c) && (decide (c ≤ 56) && (decide (d = xAC (c - 50)) && xin i vs.length)) with
        | true => xnx loc r (h.set a (c, vs.set i.toNatClampNeg (.ref b)))
        | false => none
      | _, _ => none
    | false => none
  | _ => none
def xalen (K : List (Nat × List Value)) (loc : xL) (st : List Value) (h : xH) : Option xO := match st with
  | .ref a :: r => match xcell K h a with
    | some (c, vs) => match decide (50 ≤ c) && (decide (1000000 ≤ a) || decide (c ≤ 56)) with
      | true => xnx loc (.int (Int32.ofNat vs.length) :: r) h
      | false => none
    | none => none
  | _ => none
/-- what the fields of a new object hold -/
def xnew0 : Nat → List Value
  | 0 => [.null, .int 0, .int 0, .int 0]
  | 1 => [.null, .int 0, .int 0, .int 0]
  | 4 => [.null, .int 0, .int 0, .int 0]
  | 5 => [.int 0, .int 0, .int 0, .int 0]
  | 6 => [.null, .int 0, .int 0]
  | 7 => [.int 0, .int 0, .int 0]
  | 8 => [.int 0, .int 0, .int 0, .int 0, .int 0, .int 0, .int 0, .int 0, .int 0, .int 0, .int 0]
  | 9 => [.null, .null, .int 0, .int 0, .int 0, .int 0, .int 0, .int 0]
  | 10 => [.null, .null, .int 0, .int 0, .int 0]
  | 11 => [.null, .null, .null, .null, .null, .null, .null, .int 0, .int 0]
  | _ => []
def xnew (ci : Nat) (loc : xL) (st : List Value) (h : xH) : Option xO := match decide (h.length < 1000000) with
  | true => xnx loc (.ref h.length :: st) (h ++ [(ci, xnew0 ci)])
  | false => none
def xnewa (t : Nat) (v : Value) (loc : xL) (st : List Value) (h : xH) : Option xO := match st with
  | .int n :: r => match decide (0 ≤ n) && (decide (n.toNatClampNeg ≤ 60000) && decide (h.length < 1000000)) with
    | true => xnx loc (.ref h.length :: r) (h ++ [(50 + t, List.replicate n.toNatClampNeg v)])
    | false => none
  | _ => none
/-- clone of an array of bytes -/
def xclone (loc : xL) (st : List Value) (h : xH) : Option xO := match st with
  | .ref a :: r => match decide (a < 1000000) && (decide (h.length < 1000000) && decide ((r.map fun v => v.category).sum ≤ 8)) with
    | true => match h[a]? with
      | some (c, vs) => match decide (c = 50) && vs.all (fun v => xfit .byte v) with
        | true => xnx loc (.ref h.length :: r) (h ++ [(c, vs)])
        | false => none
      | none => none
    | false => none
  | _ => none
def xcpy (f g : List Value) (sp dp n : Nat) : List Value := (List.range g.length).map fun k => if dp ≤ k ∧ k < dp + n then f.getD (sp + (k - dp)) .null else g.getD k .null
/-- System.arraycopy of bytes, into another array that is no constant -/
def xcopy (K : List (Nat × List Value)) (loc : xL) (st : List Value) (h : xH) : Option xO := match st with
  | .int n :: .int dp :: .ref a :: .int sp :: .ref b :: r => match decide (a < 1000000) && (!decide (a = b) && decide ((r.map fun v => v.category).sum ≤ 8)) with
    | true => match h[a]?, xcell K h b with
      | some (c, g), some (d, f) => match decide (c = 50) && (decide (d = 50) && (decide (0 ≤ n) && (decide (0 ≤ sp) && (decide (0 ≤ dp) && (decide (sp.toNatClampNeg + n.toNatClampNeg ≤ f.length) && (decide (dp.toNatClampNeg + n.toNatClampNeg ≤ g.length) && f.all (fun v => xfit .byte v))))))) with
        | true => xnx loc r (h.set a (c, xcpy f g sp.toNatClampNeg dp.toNatClampNeg n.toNatClampNeg))
        | false => none
      | _, _ => none
    | false => none
  | _ => none
def xcast (loc : xL) (st : List Value) (h : xH) : Option xO := match st with
  | .ref a :: r => match decide (a < 1000000) with
    | true => match h[a]? with
      | some (c, _) => match decide (c = 50) with
        | true => xnx loc (.ref a :: r) h
        | false => none
      | none => none
    | false => none
  | _ => none
/-- a call: the method by its number, how many arguments (the receiver too) -/
def xcall (mi n : Nat) (loc : xL) (st : List Value) (h : xH) : Option xO := match decide (n ≤ st.length) && decide (((st.drop n).map fun v => v.category).sum ≤ 8) with
  | true => some (.inr (.inl (mi, (st.take n).reverse, loc, st.drop n, h)))
  | false => none
def xsw (pc : Nat) (d lo hi : Int) (offs : Array Int) (loc : xL) (st : List Value) (h : xH) : Option xO := match st with
  | .int x :: r => match decide (x.toInt < lo) || decide (hi < x.toInt) with
    | true => xjp (xtgt pc d) loc r h
    | false => match offs[(x.toInt - lo).toNat]? with
      | some o => xjp (xtgt pc o) loc r h
      | none => none
  | _ => none
def xret (p : Value → Bool) (st : List Value) (h : xH) : Option xO := match st with
  | [v] => match p v with
    | true => some (.inr (.inr (.inl (some v, h))))
    | false => none
  | _ => none
def xb8 : Value → Option Value
  | .int x => some (.int x.toInt8.toInt32)
  | _ => none
def xb16 : Value → Option Value
  | .int x => some (.int x.toUInt32.toUInt16.toUInt32.toInt32)
  | _ => none
def xb64 : Value → Option Value
  | .long x => some (.long x)
  | _ => none
/-- the statics that are read: Z holds one value for each -/
def xgets (Z : List Value) (j : Nat) (loc : xL) (st : List Value) (h : xH) : Option xO := match Z[j]? with
  | some v => xnx loc (v :: st) h
  | none => none
def xroom (r : List Value) : Bool := decide ((r.map fun v => v.category).sum ≤ 8)
def xf1 (f : Value → Option Value) (loc : xL) (st : List Value) (h : xH) : Option xO := match st with
  | v :: r => match f v with
    | some w => match xroom r with
      | true => xnx loc (w :: r) h
      | false => none
    | none => none
  | [] => none
def xf2 (f : Value → Value → Option Value) (loc : xL) (st : List Value) (h : xH) : Option xO := match st with
  | w :: v :: r => match f v w with
    | some u => xnx loc (u :: r) h
    | none => none
  | _ => none
def xfdiv : Value → Value → Option Value
  | .float x, .float y => match decide (FP.fdiv x y &&& 0x7fffffff ≤ 0x7f800000) with
    | true => some (.float (FP.fdiv x y))
    | false => none
  | _, _ => none
def xddiv : Value → Value → Option Value
  | .double x, .double y => match decide (FP.ddiv x y &&& 0x7fffffffffffffff ≤ 0x7ff0000000000000) with
    | true => some (.double (FP.ddiv x y))
    | false => none
  | _, _ => none
def xfcmp (o : ClassFile.CmpOp) : Value → Value → Option Value
  | .float x, .float y => some (.int (Op.cmpValue (FP.fcmp x y) o))
  | _, _ => none
def xdcmp (o : ClassFile.CmpOp) : Value → Value → Option Value
  | .double x, .double y => some (.int (Op.cmpValue (FP.dcmp x y) o))
  | _, _ => none
def xd2l : Value → Option Value
  | .double b => some (.long b.toInt64)
  | _ => none
def xf2i : Value → Option Value
  | .float b => some (.int b.toInt32)
  | _ => none
def xcat1 (loc : xL) (st : List Value) (h : xH) (f : Value → List Value → List Value) : Option xO := match st with
  | v :: r => match decide (v.category = 1) with
    | true => xnx loc (f v r) h
    | false => none
  | [] => none
def xdx1 (loc : xL) (st : List Value) (h : xH) : Option xO := match st with
  | v :: w :: r => match decide (v.category = 1) && decide (w.category = 1) with
    | true => xnx loc (v :: w :: v :: r) h
    | false => none
  | _ => none
/-- the types of the fields of the classes in vwCl -/
def xFts : List (Nat → FieldType) := [tyJ0, tyJ4, tyJx00060, tyJx7c733, tyX1, tyX2, tyX3, tyX5, tyX6, tyX7, tyX8, tyX9]
def xFt (ci k : Nat) : FieldType := (xFts.getD ci (fun _ => .int)) k
def xa1 (aux : List Nat) (f : Nat → Option xO) : Option xO := match aux with
  | a :: _ => f a
  | [] => none
def xa2 (aux : List Nat) (f : Nat → Nat → Option xO) : Option xO := match aux with
  | a :: b :: _ => f a b
  | _ => none
def xnewx (loc : xL) (st : List Value) (h : xH) (k i : Nat) : Option xO := match decide (k = 0) with
  | true => xnew i loc st h
  | false => match decide (k = 1) && xroom st with
    | true => some (.inr (.inr (.inr (i, h))))
    | false => none
def xldc (loc : xL) (st : List Value) (h : xH) (k v : Nat) : Option xO := match k with
  | 0 => xnx loc (.int (Int32.ofNat v) :: st) h
  | 1 => xnx loc (.ref (1000000 + v) :: st) h
  | 2 => xnx loc (.float (UInt32.ofNat v) :: st) h
  | _ => none
def xldw (loc : xL) (st : List Value) (h : xH) (k v : Nat) : Option xO := match decide (k = 1) with
  | true => xnx loc (.ref (1000000 + v) :: st) h
  | false => none
def xld2 (loc : xL) (st : List Value) (h : xH) (k v : Nat) : Option xO := match decide (k = 0) with
  | true => xnx loc (.long (Int64.ofNat v) :: st) h
  | false => xnx loc (.double (UInt64.ofNat v) :: st) h
/-- the receiver of a call with n arguments is of the kind rc -/
def xrcv (K : List (Nat × List Value)) (h : xH) (st : List Value) (n rc : Nat) : Bool := match st[n - 1]? with
  | some (.ref a) => match xcell K h a with
    | some (c, _) => decide (c = rc)
    | none => false
  | _ => false
/-- the kind of the receiver, as the entry tells it: aux behind the kind of the call -/
def xrc (k r : Nat) : Nat := match k with
  | 0 => r
  | 3 => match r with
    | 0 => 1
    | _ => 45
  | _ => 1
def xvirt (K : List (Nat × List Value)) (loc : xL) (st : List Value) (h : xH) (aux : List Nat) : Option xO := match aux with
  | k :: r => match decide (k = 9) with
    | true => xclone loc st h
    | false => match r with
      | mi :: n :: _ :: rc :: _ => match xrcv K h st n (xrc k rc) with
        | true => xcall mi n loc st h
        | false => none
      | _ => none
  | [] => none
def xstat (K : List (Nat × List Value)) (loc : xL) (st : List Value) (h : xH) (aux : List Nat) : Option xO := match aux with
  | k :: r => match decide (k = 8) with
    | true => xcopy K loc st h
    | false => match decide (k = 10) with
      | true => xf1 xd2l loc st h
      | false => match decide (k = 11) with
        | true => xf1 xf2i loc st h
        | false => xa2 r fun mi n => xcall mi n loc st h
  | [] => none
def xrf (st : List Value) (n : Nat) : Bool := match st[n - 1]? with
  | some (.ref _) => true
  | _ => false
def xspec (K : List (Nat × List Value)) (loc : xL) (st : List Value) (h : xH) (aux : List Nat) : Option xO := match aux with
  | k :: r => match decide (k = 7) with
    | true => match st with
      | .ref _ :: r => match xroom r with
        | true => xnx loc r h
        | false => none
      | _ => none
    | false => xa2 r fun mi n => match xrf st n && (!decide (k = 4) || xrcv K h st n 1) with
      | true => xcall mi n loc st h
      | false => none
  | [] => none
def xif1 (c : ClassFile.Cond) (pc : Nat) (o : Int) (loc : xL) (st : List Value) (h : xH) : Option xO := match st with
  | .int x :: r => xbr (xic c x 0) pc o loc r h
  | _ => none
def xif2 (c : ClassFile.Cond) (pc : Nat) (o : Int) (loc : xL) (st : List Value) (h : xH) : Option xO := match st with
  | .int y :: .int x :: r => xbr (xic c x y) pc o loc r h
  | _ => none
def xifn (b : Bool) (pc : Nat) (o : Int) (loc : xL) (st : List Value) (h : xH) : Option xO := match st with
  | .ref _ :: r => xbr b pc o loc r h
  | .null :: r => xbr (!b) pc o loc r h
  | _ => none
def xretv (st : List Value) (h : xH) : Option xO := match st with
  | [] => some (.inr (.inr (.inl (none, h))))
  | _ => none
/-- ONE INSTRUCTION -/
def xstep (nL : Nat) (K : List (Nat × List Value)) (Z : List Value) (e : xE) (loc : xL) (st : List Value) (h : xH) : Option xO := match e.2.1 with
  | .aload_n k => xld xisA loc st h k
  | .aload i => xld xisA loc st h i
  | .iload_n k => xld xisI loc st h k
  | .iload i => xld xisI loc st h i
  | .lload_n k => xld xisJ loc st h k
  | .lload i => xld xisJ loc st h i
  | .fload_n k => xld xisF loc st h k
  | .dload_n k => xld xisD loc st h k
  | .istore_n k => xst1 xisI nL loc st h k
  | .istore i => xst1 xisI nL loc st h i
  | .astore_n k => xst1 xisA nL loc st h k
  | .astore i => xst1 xisA nL loc st h i
  | .lstore_n k => xst2 xisJ nL loc st h k
  | .lstore i => xst2 xisJ nL loc st h i
  | .iinc i n => xinc nL loc st h i n
  | .iconst n => xnx loc (.int (Int32.ofInt n) :: st) h
  | .bipush n => xnx loc (.int (Int8.ofInt n).toInt32 :: st) h
  | .sipush n => xnx loc (.int (Int16.ofInt n).toInt32 :: st) h
  | .aconst_null => xnx loc (.null :: st) h
  | .iadd => xii (fun x y => x + y) loc st h
  | .isub => xii (fun x y => x - y) loc st h
  | .imul => xii (fun x y => x * y) loc st h
  | .iand => xii (fun x y => x &&& y) loc st h
  | .ior => xii (fun x y => x ||| y) loc st h
  | .ixor => xii (fun x y => x ^^^ y) loc st h
  | .ishl => xii (fun x y => x <<< (y &&& 31)) loc st h
  | .ishr => xii (fun x y => x >>> (y &&& 31)) loc st h
  | .iushr => xii (fun x y => (x.toUInt32 >>> (y.toUInt32 &&& Int32.toUInt32 31)).toInt32) loc st h
  | .idiv => xiz (fun x y => x / y) loc st h
  | .irem => xiz (fun x y => x - x / y * y) loc st h
  | .ineg => xi1 (fun x => .int (-x)) loc st h
  | .i2l => xi1 (fun x => .long x.toInt64) loc st h
  | .i2b => xi1 (fun x => .int x.toInt8.toInt32) loc st h
  | .i2c => xi1 (fun x => .int (x.toUInt32 % 65536).toInt32) loc st h
  | .i2f => xi1 (fun x => .float (FP.i2f x)) loc st h
  | .i2d => xi1 (fun x => .double (FP.i2d x)) loc st h
  | .ladd => xjj (fun x y => .long (x + y)) loc st h
  | .lmul => xjj (fun x y => .long (x * y)) loc st h
  | .lcmp => xjj (fun x y => .int (lg_cmp x y)) loc st h
  | .fdiv => xf2 xfdiv loc st h
  | .ddiv => xf2 xddiv loc st h
  | .fcmp o => xf2 (xfcmp o) loc st h
  | .dcmp o => xf2 (xdcmp o) loc st h
  | .dup => xcat1 loc st h (fun v r => v :: v :: r)
  | .pop => xcat1 loc st h (fun _ r => r)
  | .dup_x1 => xdx1 loc st h
  | .goto o => xjp (xtgt e.1 o) loc st h
  | .ifCond c o => xif1 c e.1 o loc st h
  | .if_icmp c o => xif2 c e.1 o loc st h
  | .ifnonnull o => xifn true e.1 o loc st h
  | .ifnull o => xifn false e.1 o loc st h
  | .tableswitch d lo hi offs => xsw e.1 d lo hi offs loc st h
  | .getfield _ => xa2 e.2.2.2 fun ci k => xgetf K ci k loc st h
  | .putfield _ => xa2 e.2.2.2 fun ci k => xputf (xFt ci k) ci k loc st h
  | .getstatic _ => xa1 e.2.2.2 fun j => xgets Z j loc st h
  | .iaload => xald K xisI (fun a t => decide (1000000 ≤ a) && decide (8 ≤ t)) loc st h
  | .baload => xald K xisI (fun _ t => decide (t = 0)) loc st h
  | .caload => xald K xisI (fun a t => decide (a < 1000000) && decide (t = 1)) loc st h
  | .laload => xald K xisJ (fun a t => decide (a < 1000000) && decide (t = 2)) loc st h
  | .aaload => xald K xisA (fun a t => (decide (a < 1000000) && (decide (3 ≤ t) && decide (t ≤ 6))) || (decide (1000000 ≤ a) && decide (t = 7))) loc st h
  | .bastore => xast 0 xb8 loc st h
  | .castore => xast 1 xb16 loc st h
  | .lastore => xast 2 xb64 loc st h
  | .aastore => xasq loc st h
  | .arraylength => xalen K loc st h
  | .new _ => xa2 e.2.2.2 fun k i => xnewx loc st h k i
  | .newarray .byte => xnewa 0 (.int 0) loc st h
  | .newarray .char => xnewa 1 (.int 0) loc st h
  | .newarray .long => xnewa 2 (.long 0) loc st h
  | .anewarray _ => xa1 e.2.2.2 fun t => xnewa t .null loc st h
  | .ldc _ => xa2 e.2.2.2 fun k v => xldc loc st h k v
  | .ldc_w _ => xa2 e.2.2.2 fun k v => xldw loc st h k v
  | .ldc2_w _ => xa2 e.2.2.2 fun k v => xld2 loc st h k v
  | .checkcast _ => xa1 e.2.2.2 fun _ => xcast loc st h
  | .invokevirtual _ => xvirt K loc st h e.2.2.2
  | .invokestatic _ => xstat K loc st h e.2.2.2
  | .invokespecial _ => xspec K loc st h e.2.2.2
  | .ireturn => xret xisI st h
  | .lreturn => xret xisJ st h
  | .freturn => xret xisF st h
  | .dreturn => xret xisD st h
  | .areturn => xret xisA st h
  | .return_ => xretv st h
  | _ => none
/-- the code from a place on -/
def xseek : List xE → Nat → List xE
  | [], _ => []
  | e :: r, t => match decide (e.1 = t) with
    | true => e :: r
    | false => xseek r t
/-- who catches E at pc: the place, or nobody -/
def xhand : List (Nat × Nat × Nat × Nat) → Nat → Nat → Option Nat
  | [], _, _ => none
  | (a, b, t, E') :: r, pc, E => match decide (a ≤ pc) && (decide (pc < b) && decide (E' = E)) with
    | true => some t
    | false => xhand r pc E
/-- calls that may throw: virtual ones of a class's own methods, and static ones -/
def xmay (e : xE) : Bool := match e.2.2.2 with
  | k :: _ => decide (k ≤ 1)
  | [] => false
/-- A METHOD'S BODY: hs its handlers, each with the number of the exception that it takes -/
def xev (call : Nat → List Value → xH → Option (xA × xH)) (nL : Nat) (K : List (Nat × List Value)) (Z : List Value) (hs : List (Nat × Nat × Nat × Nat)) (code : List xE) : Nat → List xE → xL → List Value → xH → Option (xA × xH)
  | 0, _, _, _, _ => none
  | _ + 1, [], _, _, _ => none
  | n + 1, e :: cs, loc, st, h => match xstep nL K Z e loc st h with
    | none => none
    | some (.inl (none, loc, st, h)) => xev call nL K Z hs code n cs loc st h
    | some (.inl (some t, loc, st, h)) => xev call nL K Z hs code n (xseek code t) loc st h
    | some (.inr (.inl (mi, args, loc, st, h))) => match call mi args h with
      | none => none
      | some (.ok v, h) => xev call nL K Z hs code n cs loc (v.toList ++ st) h
      | some (.error (E, q), h) => match xmay e with
        | true => match xhand hs e.1 E with
          | some t => xev call nL K Z hs code n (xseek code t) loc [.ref q] h
          | none => some (.error (E, q), h)
        | false => none
    | some (.inr (.inr (.inl (v, h)))) => some (.ok v, h)
    | some (.inr (.inr (.inr (E, h)))) => match decide (h.length < 1000000) with
      | true => some (.error (E, h.length), h ++ [(40, List.replicate 6 .null)])
      | false => none
/-- a method: its name, code, locals, answer, handlers (as the class file has them, and the exceptions' numbers), instructions -/
abbrev xMi : Type := MethodName × ByteArray × Nat × Option FieldType × List (Nat × Nat × Nat × Nat) × List Nat × List xE
def xhs (m : xMi) : List (Nat × Nat × Nat × Nat) := (m.2.2.2.2.1.zip m.2.2.2.2.2.1).map fun q => (q.1.1, q.1.2.1, q.1.2.2.1, q.2)
/-- does what a method answers fit its type -/
def xrfit (r : Option FieldType) (v : Option Value) : Bool := match r, v with
  | none, none => true
  | some ty, some v => xfit ty v
  | _, _ => false
/-- THE METHODS, d calls deep -/
def xrun (M : List xMi) (K : List (Nat × List Value)) (Z : List Value) : Nat → Nat → Nat → List Value → xH → Option (xA × xH)
  | 0, _, _, _, _ => none
  | d + 1, f, mi, args, h => match M[mi]? with
    | none => none
    | some m => match xev (xrun M K Z d f) m.2.2.1 K Z (xhs m) m.2.2.2.2.2.2 f m.2.2.2.2.2.2 (lv_args 0 args) [] h with
      | some (.ok v, h) => match xrfit m.2.2.2.1 v with
        | true => some (.ok v, h)
        | false => none
      | r => r
