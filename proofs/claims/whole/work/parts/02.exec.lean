/-! A RUNNING PICTURE OF THE MACHINE, of the instructions that these methods use: a frame over cells numbered 0, 1, .. (objects, rows of ints, rows of references); what it answers is what the machine does (part 03). -/
/-- the cells: how many, how many places in all, the kind of each (0 .. 5 an object of that class of zCl, 6 int[], 7 Law[], 8 int[][]), its length, its references -/
abbrev zG : Type := Nat × Nat × (Nat → Nat) × (Nat → Nat) × (Nat → Nat → Option Nat)
/-- the ints that the cells hold -/
abbrev zI : Type := Nat → Nat → Int32
abbrev zn (G : zG) : Nat := G.1
abbrev zs (G : zG) : Nat := G.2.1
abbrev zk (G : zG) : Nat → Nat := G.2.2.1
abbrev zl (G : zG) : Nat → Nat := G.2.2.2.1
abbrev zr (G : zG) : Nat → Nat → Option Nat := G.2.2.2.2
/-- a place of the locals that holds nothing known -/
abbrev zU : Value := .retAddr 0
/-- a thing from outside, by number: 0 the script, 1 KIND_ABOVE, 2 .. 14 String constants, 20 .. 32 their bytes, 40 SIOOBE_FORMATTER -/
abbrev zX (j : Nat) : Value := .retAddr (j + 1)
def z_up (I : zI) (a j : Nat) (v : Int32) : zI := fun b k => if b = a ∧ k = j then v else I b k
def z_upR (R : Nat → Nat → Option Nat) (a j : Nat) (v : Option Nat) : Nat → Nat → Option Nat := fun b k => if b = a ∧ k = j then v else R b k
def zLk {α : Type} (l : List ((Nat × Nat) × α)) (o i : Nat) : Option α := (l.find? (fun q => q.1 == (o, i))).map (fun q => q.2)
def zKA : Nat → Int32 := fun k => [-1, 0, 0, 1, 2, 0].getD k 0
/-- the texts of the String constants, by number -/
def zTx (j : Nat) : String := (zS.map (fun q => q.2.2)).getD j ""
def zTb (j : Nat) : List Int32 := (zTx j).toList.map (fun c => Int32.ofNat c.toNat)
/-- rows of numbers from outside -/
def zXa (X : Nat × (Nat → Int32)) (j : Nat) : Option (Nat × (Nat → Int32)) := if j = 0 then some X else if j = 1 then some (6, zKA) else none
def zXb (j : Nat) : Option (Nat × (Nat → Int32)) := if 20 ≤ j ∧ j < 33 then some ((zTb (j - 20)).length, fun k => (zTb (j - 20)).getD k 0) else none
def zNF (ci : Nat) : Nat := match zCl[ci]? with | some q => q.2.2 | none => 0
def zTy (ci k : Nat) : FieldType := match ci with | 0 => tyX0 k | 1 => tyX1 k | 2 => tyX2 k | 3 => tyX3 k | 4 => tyX4 k | _ => tyX5 k
def zFin (ci k : Nat) : Bool := match zCl[ci]? with | some q => (q.2.1 k).2.2.2 | none => false
def zIsR (ci k : Nat) : Bool := match zTy ci k with | .array _ => true | .object _ => true | _ => false
abbrev zO : Type := Option (Nat × List Value × List Value)
def z1 (len n pc : Nat) (lo st : List Value) : zO := if n = len then some (pc + len, lo, st) else none
def zj (len n pc : Nat) (off : Int) (lo st : List Value) : zO := if n = len ∧ 0 ≤ (pc : Int) + off then some (((pc : Int) + off).toNat, lo, st) else none
/-- the place ahead of k, if a long lies there, holds nothing known -/
def z_cl (lo : List Value) (k : Nat) : List Value := match k with
  | 0 => lo
  | k + 1 => match lo[k]? with
    | some v => if v.category = 2 then lo.set k zU else lo
    | none => lo
def z_s1 (lo : List Value) (k : Nat) (v : Value) : List Value := (z_cl lo k).set k v
def z_s2 (lo : List Value) (k : Nat) (v : Value) : List Value := ((z_cl lo k).set k v).set (k + 1) zU
def z_ld (k len n pc : Nat) (lo st : List Value) : zO := match lo[k]? with
  | some (.int x) => z1 len n pc lo (.int x :: st)
  | _ => none
def z_ldl (k len n pc : Nat) (lo st : List Value) : zO := match lo[k]? with
  | some (.long x) => z1 len n pc lo (.long x :: st)
  | _ => none
def z_lda (k len n pc : Nat) (lo st : List Value) : zO := match lo[k]? with
  | some (.ref x) => z1 len n pc lo (.ref x :: st)
  | some (.retAddr (j + 1)) => if j < 40 then z1 len n pc lo (.retAddr (j + 1) :: st) else none
  | _ => none
def z_sto (k len n pc : Nat) (lo st : List Value) : zO := match st with
  | .int x :: r => if k < lo.length then z1 len n pc (z_s1 lo k (.int x)) r else none
  | _ => none
def z_stl (k len n pc : Nat) (lo st : List Value) : zO := match st with
  | .long x :: r => if k + 1 < lo.length then z1 len n pc (z_s2 lo k (.long x)) r else none
  | _ => none
def z_sta (k len n pc : Nat) (lo st : List Value) : zO := match st with
  | .ref x :: r => if k < lo.length then z1 len n pc (z_s1 lo k (.ref x)) r else none
  | _ => none
def z_i1 (n pc : Nat) (lo st : List Value) (f : Int32 → Int32) : zO := match st with
  | .int x :: r => z1 1 n pc lo (.int (f x) :: r)
  | _ => none
def z_i2 (n pc : Nat) (lo st : List Value) (f : Int32 → Int32 → Int32) : zO := match st with
  | .int y :: .int x :: r => z1 1 n pc lo (.int (f x y) :: r)
  | _ => none
def z_d2 (n pc : Nat) (lo st : List Value) (f : Int32 → Int32 → Int32) : zO := match st with
  | .int y :: .int x :: r => if y = 0 then none else z1 1 n pc lo (.int (f x y) :: r)
  | _ => none
def z_l2 (n pc : Nat) (lo st : List Value) (f : Int64 → Int64 → Int64) : zO := match st with
  | .long y :: .long x :: r => z1 1 n pc lo (.long (f x y) :: r)
  | _ => none
def z_m2 (n pc : Nat) (lo st : List Value) (f : Int64 → Int64 → Int64) : zO := match st with
  | .long y :: .long x :: r => if y = 0 then none else z1 1 n pc lo (.long (f x y) :: r)
  | _ => none
def z_cmp (c : ClassFile.Cond) (x y : Int32) : Prop := match c with
  | .eq => x = y
  | .ne => x ≠ y
  | .lt => x < y
  | .ge => y ≤ x
  | .gt => y < x
  | .le => x ≤ y
def z_dec (c : ClassFile.Cond) (x y : Int32) : Decidable (z_cmp c x y) := match c with
  | .eq => inferInstanceAs (Decidable (x = y))
  | .ne => inferInstanceAs (Decidable (x ≠ y))
  | .lt => inferInstanceAs (Decidable (x < y))
  | .ge => inferInstanceAs (Decidable (y ≤ x))
  | .gt => inferInstanceAs (Decidable (y < x))
  | .le => inferInstanceAs (Decidable (x ≤ y))
def z_br (c : ClassFile.Cond) (x y : Int32) (off : Int) (n pc : Nat) (lo r : List Value) : zO := if n = 3 ∧ 0 ≤ (pc : Int) + off then @ite _ (z_cmp c x y) (z_dec c x y) (some (((pc : Int) + off).toNat, lo, r)) (some (pc + 3, lo, r)) else none
/-- what touches no cell -/
def z_pure (own n pc : Nat) (lo st : List Value) (i : Instr) : zO := match i with
  | .iconst k => z1 1 n pc lo (.int (Int32.ofInt k) :: st)
  | .bipush k => z1 2 n pc lo (.int (Int8.ofInt k).toInt32 :: st)
  | .sipush k => z1 3 n pc lo (.int (Int16.ofInt k).toInt32 :: st)
  | .lconst k => z1 1 n pc lo (.long (Int64.ofNat (k : Nat)) :: st)
  | .ldc i => match zLk zK own i with
    | some v => z1 2 n pc lo (.int v :: st)
    | none => match zLk zS own i with
      | some q => z1 2 n pc lo (zX (q.1 + 2) :: st)
      | none => none
  | .ldc_w i => match zLk zK own i with
    | some v => z1 3 n pc lo (.int v :: st)
    | none => none
  | .ldc2_w i => match zLk zKL own i with
    | some v => z1 3 n pc lo (.long v :: st)
    | none => none
  | .iload k => z_ld k 2 n pc lo st
  | .iload_n k => z_ld k 1 n pc lo st
  | .lload k => z_ldl k 2 n pc lo st
  | .lload_n k => z_ldl k 1 n pc lo st
  | .aload k => z_lda k 2 n pc lo st
  | .aload_n k => z_lda k 1 n pc lo st
  | .istore k => z_sto k 2 n pc lo st
  | .istore_n k => z_sto k 1 n pc lo st
  | .lstore k => z_stl k 2 n pc lo st
  | .lstore_n k => z_stl k 1 n pc lo st
  | .astore k => z_sta k 2 n pc lo st
  | .astore_n k => z_sta k 1 n pc lo st
  | .iinc k c => match lo[k]? with
    | some (.int x) => z1 3 n pc (z_s1 lo k (.int (x + Int32.ofInt c))) st
    | _ => none
  | .iadd => z_i2 n pc lo st (fun x y => x + y)
  | .isub => z_i2 n pc lo st (fun x y => x - y)
  | .imul => z_i2 n pc lo st (fun x y => x * y)
  | .idiv => z_d2 n pc lo st (fun x y => x / y)
  | .irem => z_d2 n pc lo st (fun x y => x - x / y * y)
  | .ineg => z_i1 n pc lo st (fun x => -x)
  | .iand => z_i2 n pc lo st (fun x y => x &&& y)
  | .ior => z_i2 n pc lo st (fun x y => x ||| y)
  | .ixor => z_i2 n pc lo st (fun x y => x ^^^ y)
  | .ishl => z_i2 n pc lo st (fun x y => x <<< (y &&& 31))
  | .ishr => z_i2 n pc lo st (fun x y => x >>> (y &&& 31))
  | .iushr => z_i2 n pc lo st (fun x y => (x.toUInt32 >>> (y.toUInt32 &&& Int32.toUInt32 31)).toInt32)
  | .i2b => z_i1 n pc lo st (fun x => x.toInt8.toInt32)
  | .i2s => z_i1 n pc lo st (fun x => x.toInt16.toInt32)
  | .i2c => z_i1 n pc lo st (fun x => (x.toUInt32 % 65536).toInt32)
  | .i2l => match st with
    | .int x :: r => z1 1 n pc lo (.long x.toInt64 :: r)
    | _ => none
  | .l2i => match st with
    | .long x :: r => z1 1 n pc lo (.int x.toInt32 :: r)
    | _ => none
  | .ladd => z_l2 n pc lo st (fun x y => x + y)
  | .lmul => z_l2 n pc lo st (fun x y => x * y)
  | .ldiv => z_m2 n pc lo st (fun x y => x / y)
  | .lrem => z_m2 n pc lo st (fun x y => x - x / y * y)
  | .lcmp => match st with
    | .long y :: .long x :: r => z1 1 n pc lo (.int (lg_cmp x y) :: r)
    | _ => none
  | .dup => match st with
    | v :: r => if v.category = 1 then z1 1 n pc lo (v :: v :: r) else none
    | _ => none
  | .dup_x1 => match st with
    | v :: w :: r => if v.category = 1 ∧ w.category = 1 then z1 1 n pc lo (v :: w :: v :: r) else none
    | _ => none
  | .dup2 => match st with
    | v :: w :: r => if v.category = 1 ∧ w.category = 1 then z1 1 n pc lo (v :: w :: v :: w :: r) else none
    | _ => none
  | .pop => match st with
    | v :: r => if v.category = 1 then z1 1 n pc lo r else none
    | _ => none
  | .goto off => zj 3 n pc off lo st
  | .ifCond c off => match st with
    | .int x :: r => z_br c x 0 off n pc lo r
    | _ => none
  | .if_icmp c off => match st with
    | .int y :: .int x :: r => z_br c x y off n pc lo r
    | _ => none
  | .ifnonnull off => match st with
    | .ref _ :: r => zj 3 n pc off lo r
    | _ => none
  | .tableswitch dflt lo' hi offs => match st with
    | .int x :: r => if x.toInt < lo' ∨ hi < x.toInt then zj n n pc dflt lo r else match offs[(x.toInt - lo').toNat]? with
      | some off => zj n n pc off lo r
      | none => none
    | _ => none
  | .lookupswitch dflt ps => match st with
    | .int x :: r => if (ps.toList.zip (ps.toList.drop 1)).all (fun (a, next) => a.1 < next.1) = true then zj n n pc (Op.lookupswitch.offset ps.toList dflt x.toInt) lo r else none
    | _ => none
  | _ => none
abbrev zH : Type := Option (Nat × List Value × zG × zI)
abbrev z_inr (i : Int32) (n : Nat) : Prop := 0 ≤ i ∧ i.toNatClampNeg < n
/-- a new cell at the end -/
def z_new (G : zG) (kd len : Nat) (r : Nat → Option Nat) : zG := (zn G + 1, zs G + len, va_up (zk G) (zn G) kd, va_up (zl G) (zn G) len, va_up (zr G) (zn G) r)
def z_newI (G : zG) (I : zI) (f : Nat → Int32) : zI := va_up I (zn G) f
/-- rows of ints at the end, all 0: k of them -/
def z_many (G : zG) (I : zI) (len : Nat) : Nat → zG × zI
  | 0 => (G, I)
  | k + 1 => (z_new (z_many G I len k).1 6 len (fun _ => none), z_newI (z_many G I len k).1 (z_many G I len k).2 (fun _ => 0))
/-- the name of a method is <init> -/
def z_isC (y : MethodName) : Bool := y.name == "<init>"
/-- what reads or writes cells, or makes them -/
def z_heap (X : Nat × (Nat → Int32)) (y : MethodName) (own n pc : Nat) (st : List Value) (G : zG) (I : zI) (i : Instr) : zH := match i with
  | .getfield ix => match st with
    | .ref a :: r => match zLk zF own ix with
      | some (ci, k) => if n = 3 ∧ a < zn G ∧ zk G a = ci ∧ k < zNF ci then
          (if zIsR ci k = true then (match zr G a k with
            | some b => some (pc + 3, .ref b :: r, G, I)
            | none => some (pc + 3, .null :: r, G, I))
          else some (pc + 3, .int (I a k) :: r, G, I)) else none
      | none => none
    | .retAddr (j + 1) :: r => if own = 10 ∧ n = 3 ∧ 2 ≤ j ∧ j < 15 then (if ix = 9 then some (pc + 3, zX (j + 18) :: r, G, I) else if ix = 15 then some (pc + 3, .int 0 :: r, G, I) else none) else none
    | _ => none
  | .putfield ix => match st with
    | v :: .ref a :: r => match zLk zF own ix with
      | some (ci, k) => if n = 3 ∧ a < zn G ∧ zk G a = ci ∧ k < zNF ci ∧ (zFin ci k = true → z_isC y = true ∧ own = ci) then
          (if zIsR ci k = true then (match v with
            | .ref b => some (pc + 3, r, (zn G, zs G, zk G, zl G, z_upR (zr G) a k (some b)), I)
            | _ => none)
          else (match v with
            | .int x => if zTy ci k = .boolean → x = 0 ∨ x = 1 then some (pc + 3, r, G, z_up I a k x) else none
            | _ => none)) else none
      | none => none
    | _ => none
  | .iaload => match st with
    | .int i :: .ref a :: r => if n = 1 ∧ a < zn G ∧ zk G a = 6 ∧ z_inr i (zl G a) then some (pc + 1, .int (I a i.toNatClampNeg) :: r, G, I) else none
    | .int i :: .retAddr (j + 1) :: r => match zXa X j with
      | some q => if n = 1 ∧ z_inr i q.1 then some (pc + 1, .int (q.2 i.toNatClampNeg) :: r, G, I) else none
      | none => none
    | _ => none
  | .baload => match st with
    | .int i :: .retAddr (j + 1) :: r => match zXb j with
      | some q => if n = 1 ∧ z_inr i q.1 then some (pc + 1, .int (q.2 i.toNatClampNeg) :: r, G, I) else none
      | none => none
    | _ => none
  | .iastore => match st with
    | .int x :: .int i :: .ref a :: r => if n = 1 ∧ a < zn G ∧ zk G a = 6 ∧ z_inr i (zl G a) then some (pc + 1, r, G, z_up I a i.toNatClampNeg x) else none
    | _ => none
  | .aaload => match st with
    | .int i :: .ref a :: r => if n = 1 ∧ a < zn G ∧ (zk G a = 7 ∨ zk G a = 8) ∧ z_inr i (zl G a) then (match zr G a i.toNatClampNeg with
        | some b => some (pc + 1, .ref b :: r, G, I)
        | none => none) else none
    | _ => none
  | .aastore => match st with
    | .ref b :: .int i :: .ref a :: r => if n = 1 ∧ a < zn G ∧ zk G a = 7 ∧ z_inr i (zl G a) ∧ b < zn G ∧ zk G b = 1 then some (pc + 1, r, (zn G, zs G, zk G, zl G, z_upR (zr G) a i.toNatClampNeg (some b)), I) else none
    | _ => none
  | .arraylength => match st with
    | .ref a :: r => if n = 1 ∧ a < zn G ∧ 6 ≤ zk G a ∧ zk G a ≤ 8 then some (pc + 1, .int (Int32.ofNat (zl G a)) :: r, G, I) else none
    | .retAddr (j + 1) :: r => match zXa X j with
      | some q => if n = 1 then some (pc + 1, .int (Int32.ofNat q.1) :: r, G, I) else none
      | none => match zXb j with
        | some q => if n = 1 then some (pc + 1, .int (Int32.ofNat q.1) :: r, G, I) else none
        | none => none
    | _ => none
  | .newarray t => match st with
    | .int k :: r => if n = 2 ∧ newarray.typeOf t = .int ∧ 0 ≤ k ∧ k.toNatClampNeg ≤ 100000 then some (pc + 2, .ref (zn G) :: r, z_new G 6 k.toNatClampNeg (fun _ => none), z_newI G I (fun _ => 0)) else none
    | _ => none
  | .anewarray ix => match st with
    | .int k :: r => if n = 3 ∧ (zLk zN own ix).map (fun q => q.1) = some 1 ∧ 0 ≤ k ∧ k.toNatClampNeg ≤ 100000 then some (pc + 3, .ref (zn G) :: r, z_new G 7 k.toNatClampNeg (fun _ => none), z_newI G I (fun _ => 0)) else none
    | _ => none
  | .multianewarray ix d => match st with
    | .int k :: .int m :: r => if n = 4 ∧ d = 2 ∧ (zLk zN own ix).map (fun q => q.1) = some 8 ∧ 0 ≤ k ∧ k.toNatClampNeg ≤ 1000 ∧ 0 ≤ m ∧ m.toNatClampNeg ≤ 1000 then
        (let q := z_many (z_new G 8 m.toNatClampNeg (fun j => if j < m.toNatClampNeg then some (zn G + 1 + j) else none)) (z_newI G I (fun _ => 0)) k.toNatClampNeg m.toNatClampNeg
         some (pc + 4, .ref (zn G) :: r, q.1, q.2)) else none
    | _ => none
  | .new ix => match zLk zN own ix with
    | some q => if n = 3 ∧ q.1 < 6 then some (pc + 3, .ref (zn G) :: st, z_new G q.1 (zNF q.1) (fun _ => none), z_newI G I (fun _ => 0)) else none
    | none => none
  | .checkcast ix => match st with
    | .ref a :: r => if n = 3 ∧ a < zn G ∧ zk G a = 6 ∧ (zLk zN own ix).map (fun q => q.1) = some 6 then some (pc + 3, .ref a :: r, G, I) else none
    | _ => none
  | .getstatic ix => if n = 3 then (if own = 4 ∧ ix = 178 then some (pc + 3, zX 1 :: st, G, I) else if own = 10 ∧ ix = 38 then some (pc + 3, .int 1 :: st, G, I) else if own = 10 ∧ ix = 1053 then some (pc + 3, zX 40 :: st, G, I) else none) else none
  | _ => none
def z_cat (r : List Value) : Nat := (r.map fun v => v.category).sum
/-- what the JDK does without code here; it wants a free frame -/
def z_prim (own n pc : Nat) (st : List Value) (G : zG) (I : zI) (i : Instr) : zH := match i with
  | .invokespecial ix => match zLk zC own ix with
    | some (5, _) => match st with
      | .ref _ :: r => if n = 3 ∧ z_cat r ≤ 8 then some (pc + 3, r, G, I) else none
      | _ => none
    | _ => none
  | .invokestatic ix => match zLk zC own ix with
    | some (10, _) => match st with
      | .int y :: .int x :: r => if n = 3 ∧ z_cat r ≤ 8 then some (pc + 3, .int (if x < y then y else x) :: r, G, I) else none
      | _ => none
    | some (11, _) => match st with
      | .int y :: .int x :: r => if n = 3 ∧ z_cat r ≤ 8 then some (pc + 3, .int (if y < x then y else x) :: r, G, I) else none
      | _ => none
    | some (12, _) => match st with
      | .int x :: r => if n = 3 ∧ z_cat r ≤ 8 then some (pc + 3, .int (if 0 ≤ x then x else 0 - x) :: r, G, I) else none
      | _ => none
    | some (13, _) => match st with
      | .int k :: .int dp :: .ref b :: .int sp :: .ref a :: r => if n = 3 ∧ z_cat r ≤ 8 ∧ a < zn G ∧ b < zn G ∧ zk G a = 6 ∧ zk G b = 6 ∧ 0 ≤ sp ∧ 0 ≤ dp ∧ 0 ≤ k ∧ sp.toNatClampNeg + k.toNatClampNeg ≤ zl G a ∧ dp.toNatClampNeg + k.toNatClampNeg ≤ zl G b then
          some (pc + 3, r, G, va_up I b (va_cpy (I a) (I b) sp.toNatClampNeg dp.toNatClampNeg k.toNatClampNeg)) else none
      | _ => none
    | _ => none
  | .invokevirtual ix => match zLk zC own ix with
    | some (16, _) => match st with
      | .ref a :: r => if n = 3 ∧ z_cat r ≤ 8 ∧ a < zn G ∧ zk G a = 6 then some (pc + 3, .ref (zn G) :: r, z_new G 6 (zl G a) (fun _ => none), z_newI G I (I a)) else none
      | _ => none
    | _ => none
  | _ => none
/-- the end of a method -/
def z_ret (ret : Option FieldType) (n : Nat) (st : List Value) (i : Instr) : Option (Option Value) := match i with
  | .ireturn => match st with
    | [.int v] => match ret with
      | some ty => if n = 1 ∧ narrow ty (.int v) = .int v then some (some (.int v)) else none
      | none => none
    | _ => none
  | .lreturn => match st with
    | [.long v] => if n = 1 ∧ ret = some .long then some (some (.long v)) else none
    | _ => none
  | .areturn => match st with
    | [.ref a] => match ret with
      | some (.object _) => if n = 1 then some (some (.ref a)) else none
      | some (.array _) => if n = 1 then some (some (.ref a)) else none
      | _ => none
    | _ => none
  | .return_ => match st with
    | [] => if n = 1 ∧ ret = none then some none else none
    | _ => none
  | _ => none
/-- how many places of the stack a call takes -/
def z_np (q : zMT) (recv : Bool) : Nat := match recv with
  | true => q.2.2.2.2.2 + 1
  | false => q.2.2.2.2.2
/-- whose method it is: looked at where it is called on an object -/
def z_who (kd own μ : Nat) (G : zG) (recv : Bool) (as rest : List Value) : Option (Nat × List Value × List Value) := match recv with
  | false => some (μ, as, rest)
  | true => match as with
    | .ref b :: _ => if kd = 1 → b < zn G ∧ zk G b = own ∧ own < 6 then some (μ, as, rest) else none
    | .retAddr (j + 1) :: _ => if kd = 1 ∧ 2 ≤ j ∧ j < 15 ∧ own = 10 then some (μ, as, rest) else none
    | _ => none
def z_go (own n : Nat) (st : List Value) (G : zG) (k1 k2 : Nat) (recv : Bool) (ix : Nat) : Option (Nat × List Value × List Value) := match zLk zC own ix with
  | none => none
  | some km => match zM[km.2]? with
    | none => none
    | some q => if n = 3 ∧ (km.1 = k1 ∨ km.1 = k2) ∧ z_np q recv ≤ st.length ∧ z_cat (st.drop (z_np q recv)) ≤ 8 then z_who km.1 q.2.2.2.2.1 km.2 G recv (st.take (z_np q recv)).reverse (st.drop (z_np q recv)) else none
/-- a call: which method, its arguments, what stays on the stack -/
def z_call (own n : Nat) (st : List Value) (G : zG) (i : Instr) : Option (Nat × List Value × List Value) := match i with
  | .invokestatic ix => z_go own n st G 0 3 false ix
  | .invokevirtual ix => z_go own n st G 1 1 true ix
  | .invokespecial ix => z_go own n st G 2 4 true ix
  | _ => none
def z_ea : List Value → List Value
  | [] => []
  | v :: vs => if v.category = 2 then v :: zU :: z_ea vs else v :: z_ea vs
/-- the locals at a method's entry -/
def z_ent (maxL : Nat) (as : List Value) : List Value := z_ea as ++ List.replicate (maxL - (z_ea as).length) zU
abbrev zRes : Type := Option (Option Value × zG × zI)
/-- from a frame to its method's end; d: how many calls may stand open above it -/
def evF (X : Nat × (Nat → Int32)) : Nat → Nat → Nat → Nat → List Value → List Value → zG → zI → zRes
  | 0, _, _, _, _, _, _, _ => none
  | f + 1, d, μ, pc, lo, st, G, I => match zM[μ]? with
    | none => none
    | some q => match decode q.2.1 pc with
      | .error _ => none
      | .ok (i, n) => match z_pure q.2.2.2.2.1 n pc lo st i with
        | some (pc', lo', st') => evF X f d μ pc' lo' st' G I
        | none => match z_heap X q.1 q.2.2.2.2.1 n pc st G I i with
          | some (pc', st', G', I') => evF X f d μ pc' lo st' G' I'
          | none => match z_ret q.2.2.2.1 n st i with
            | some r => some (r, G, I)
            | none => match d with
              | 0 => none
              | d + 1 => match z_prim q.2.2.2.2.1 n pc st G I i with
                | some (pc', st', G', I') => evF X f (d + 1) μ pc' lo st' G' I'
                | none => match z_call q.2.2.2.2.1 n st G i with
                  | none => none
                  | some (ν, as, rest) => match zM[ν]? with
                    | none => none
                    | some q' => if (z_ea as).length ≤ q'.2.2.1 then (match evF X f d ν 0 (z_ent q'.2.2.1 as) [] G I with
                      | none => none
                      | some (r, G', I') => evF X f (d + 1) μ (pc + 3) lo (r.toList ++ rest) G' I') else none
