/-! THE SMALL MACHINE: what the tables' instructions do to a world that is given by functions; nothing of the big machine is in it.
    A value is an int, a long, a double, a reference (kind, number), or nothing. A world: ints, references, longs by (kind, number, slot); how many cells of a kind; cells and slots made so far; whether no exception was made. -/
abbrev AV : Type := Int32 ⊕ (Int64 ⊕ (UInt64 ⊕ ((Nat × Nat) ⊕ Unit)))
def vI (x : Int32) : AV := .inl x
def vL (x : Int64) : AV := .inr (.inl x)
def vD (x : UInt64) : AV := .inr (.inr (.inl x))
def vR (k i : Nat) : AV := .inr (.inr (.inr (.inl (k, i))))
def vU : AV := .inr (.inr (.inr (.inr ())))
def cat (v : AV) : Nat := match v with
  | .inr (.inl _) => 2
  | .inr (.inr (.inl _)) => 2
  | _ => 1
abbrev GI : Type := Nat → Nat → Nat → Int32
abbrev GR : Type := Nat → Nat → Nat → Option Nat
abbrev GL : Type := Nat → Nat → Nat → Int64
abbrev GN : Type := (Nat → Nat) × Nat × Nat × Bool
abbrev GG : Type := GI × GR × GL × GN
def up3 {α : Type} (f : Nat → Nat → Nat → α) (k i s : Nat) (v : α) : Nat → Nat → Nat → α := fun k' i' s' => if k' = k ∧ i' = i ∧ s' = s then v else f k' i' s'
def up2 {α : Type} (f : Nat → Nat → Nat → α) (k i : Nat) (v : α) : Nat → Nat → Nat → α := fun k' i' s' => if k' = k ∧ i' = i then v else f k' i' s'
def up1 (f : Nat → Nat) (k : Nat) (v : Nat) : Nat → Nat := fun k' => if k' = k then v else f k'
abbrev ST : Type := Nat × List AV × List AV × GG
/-- what comes next: a state, an answer, a call (callee, arguments, locals, the rest of the stack), a throw -/
abbrev NX : Type := ST ⊕ (Option AV ⊕ ((Nat × List AV × List AV × List AV) ⊕ Nat))
abbrev RS : Type := (Option AV ⊕ Nat) × GG
def nx (pc : Nat) (lv st : List AV) (G : GG) : Option NX := some (.inl (pc, lv, st, G))
/-- the script's length and ints -/
abbrev XS : Type := Nat × (Nat → Int32)
/-- where the cell (kind, number) lies, counted from the start -/
def ofP (i : Nat) : Nat := if i = 0 then 1 else if i = 1 then 36 else 72 + 35 * (i - 2)
def off (k i : Nat) : Nat := match k with
  | 6 => 0
  | 5 => ofP i
  | 17 => ofP i + 1
  | 1 => ofP i + 2
  | 8 => ofP i + 3
  | 9 => ofP i + 4
  | 4 => ofP i + 5
  | 14 => ofP i + 6
  | 15 => ofP i + 7
  | 16 => ofP i + 8
  | 18 => ofP i + 9
  | 19 => ofP i + 10
  | 0 => ofP (i / 8) + 11 + 3 * (i % 8)
  | 2 => ofP (i / 16) + 12 + 3 * (i % 16 / 2) + i % 2
  | 20 => 71
  | 3 => 282
  | 10 => 283
  | 11 => 284
  | 12 => 285
  | 13 => 286
  | 21 => 287
  | 7 => 288
  | 22 => 289
  | 23 => 290
  | 24 => 291
  | 25 => 292
  | 26 => 293
  | 27 => 294
  | 28 => 295
  | 29 => 296
  | _ => 297
def stat3 : Nat → List Int32 := fun k => match k with
  | 32 => [4, 0, 2, 5, 10]
  | 33 => [0, 0, 1, 0, 0]
  | _ => [20, 2, 9, 90, 50]
/-- an index in a row -/
def inR (j : Int32) (n : Nat) : Bool := decide (¬ j < 0) && decide (j.toNatClampNeg < n)
def n64 (r : UInt64) : Bool := decide (r &&& 0x7fffffffffffffff ≤ 0x7ff0000000000000)
def okSt (lv : List AV) (k : Nat) : Bool := match k with
  | 0 => true
  | k + 1 => match lv[k]? with
    | some v => decide (cat v = 1)
    | none => false
/-- loads and stores of a local -/
def o_ld (P : AV → Bool) (k len pc : Nat) (lv st : List AV) (G : GG) : Option NX := match lv[k]? with
  | some v => if P v then nx (pc + len) lv (v :: st) G else none
  | none => none
def o_st (P : AV → Bool) (k len pc : Nat) (lv st : List AV) (G : GG) : Option NX := match st with
  | v :: st => if P v && okSt lv k && decide (k + cat v ≤ lv.length) then nx (pc + len) (if cat v = 2 then (lv.set k v).set (k + 1) vU else lv.set k v) st G else none
  | [] => none
def pI (v : AV) : Bool := match v with | .inl _ => true | _ => false
def pL (v : AV) : Bool := match v with | .inr (.inl _) => true | _ => false
def pD (v : AV) : Bool := match v with | .inr (.inr (.inl _)) => true | _ => false
def pR (v : AV) : Bool := match v with | .inr (.inr (.inr (.inl _))) => true | _ => false
def o_bi (f : Int32 → Int32 → Int32) (pc : Nat) (lv st : List AV) (G : GG) : Option NX := match st with
  | .inl y :: .inl x :: st => nx (pc + 1) lv (vI (f x y) :: st) G
  | _ => none
def o_bi0 (f : Int32 → Int32 → Int32) (pc : Nat) (lv st : List AV) (G : GG) : Option NX := match st with
  | .inl y :: .inl x :: st => if y = 0 then none else nx (pc + 1) lv (vI (f x y) :: st) G
  | _ => none
def o_bl (f : Int64 → Int64 → Int64) (pc : Nat) (lv st : List AV) (G : GG) : Option NX := match st with
  | .inr (.inl y) :: .inr (.inl x) :: st => nx (pc + 1) lv (vL (f x y) :: st) G
  | _ => none
def o_bd (f : UInt64 → UInt64 → UInt64) (pc : Nat) (lv st : List AV) (G : GG) : Option NX := match st with
  | .inr (.inr (.inl y)) :: .inr (.inr (.inl x)) :: st => if n64 (f x y) then nx (pc + 1) lv (vD (f x y) :: st) G else none
  | _ => none
def tgt (pc : Nat) (o : Int) : Nat := ((pc : Int) + o).toNat
def okT (pc : Nat) (o : Int) : Bool := decide (0 ≤ (pc : Int) + o)
def o_if (c : Bool) (pc : Nat) (o : Int) (lv st : List AV) (G : GG) : Option NX := if okT pc o then nx (if c then tgt pc o else pc + 3) lv st G else none
def o_cmp (f : Int32 → Int32 → Bool) (pc : Nat) (o : Int) (lv st : List AV) (G : GG) : Option NX := match st with
  | .inl y :: .inl x :: st => o_if (f x y) pc o lv st G
  | _ => none
def o_cm0 (f : Int32 → Int32 → Bool) (pc : Nat) (o : Int) (lv st : List AV) (G : GG) : Option NX := match st with
  | .inl x :: st => o_if (f x 0) pc o lv st G
  | _ => none
def cnd (c : ClassFile.Cond) : Int32 → Int32 → Bool := match c with
  | .eq => fun x y => decide (x = y)
  | .ne => fun x y => decide (x ≠ y)
  | .lt => fun x y => decide (x < y)
  | .ge => fun x y => decide (x ≥ y)
  | .gt => fun x y => decide (x > y)
  | .le => fun x y => decide (x ≤ y)
def has (G : GG) (k i : Nat) : Bool := decide (i < G.2.2.2.1 k)
def o_get (a b pc : Nat) (lv st : List AV) (G : GG) : Option NX := match st with
  | .inr (.inr (.inr (.inl (k, i)))) :: st => if decide (k = a) && has G k i then match (kS a)[b]? with
    | some 0 => nx (pc + 3) lv (vI (G.1 a i b) :: st) G
    | some 1 => nx (pc + 3) lv (vI (G.1 a i b) :: st) G
    | some 2 => nx (pc + 3) lv (vL (G.2.2.1 a i b) :: st) G
    | some (t + 3) => match G.2.1 a i b with
      | some r => nx (pc + 3) lv (vR t r :: st) G
      | none => none
    | none => none else none
  | _ => none
def o_put (a b pc : Nat) (lv st : List AV) (G : GG) : Option NX := match st with
  | v :: .inr (.inr (.inr (.inl (k, i)))) :: st => if decide (k = a) && has G k i then match (kS a)[b]?, v with
    | some 0, .inl x => nx (pc + 3) lv st (up3 G.1 a i b x, G.2)
    | some 1, .inl x => if decide (x = 0) || decide (x = 1) then nx (pc + 3) lv st (up3 G.1 a i b x, G.2) else none
    | some 2, .inr (.inl x) => nx (pc + 3) lv st (G.1, G.2.1, up3 G.2.2.1 a i b x, G.2.2.2)
    | some (t + 3), .inr (.inr (.inr (.inl (k', r)))) => if k' = t then nx (pc + 3) lv st (G.1, up3 G.2.1 a i b (some r), G.2.2) else none
    | _, _ => none else none
  | _ => none
def o_ald (e : Nat) (X : XS) (pc : Nat) (lv st : List AV) (G : GG) : Option NX := match st with
  | .inl j :: .inr (.inr (.inr (.inl (k, i)))) :: st =>
    if k = 31 then (if decide (e = 0) && inR j X.1 then nx (pc + 1) lv (vI (X.2 j.toNatClampNeg) :: st) G else none)
    else if 32 ≤ k then (if decide (e = 0) && inR j 5 && decide (k < 35) then nx (pc + 1) lv (vI ((stat3 k).getD j.toNatClampNeg 0) :: st) G else none)
    else if decide ((kA k).1 = e) && inR j (kA k).2 && has G k i then match e with
      | 0 => nx (pc + 1) lv (vI (G.1 k i j.toNatClampNeg) :: st) G
      | 1 => nx (pc + 1) lv (vI (G.1 k i j.toNatClampNeg) :: st) G
      | 2 => nx (pc + 1) lv (vL (G.2.2.1 k i j.toNatClampNeg) :: st) G
      | _ => none
    else none
  | _ => none
def o_aald (pc : Nat) (lv st : List AV) (G : GG) : Option NX := match st with
  | .inl j :: .inr (.inr (.inr (.inl (k, i)))) :: st =>
    if inR j (kA k).2 && has G k i then match (kA k).1 with
      | t + 3 => match G.2.1 k i j.toNatClampNeg with
        | some r => nx (pc + 1) lv (vR t r :: st) G
        | none => none
      | _ => none
    else none
  | _ => none
def o_ast (e : Nat) (pc : Nat) (lv st : List AV) (G : GG) : Option NX := match st with
  | v :: .inl j :: .inr (.inr (.inr (.inl (k, i)))) :: st =>
    if decide ((kA k).1 = e) && inR j (kA k).2 && has G k i then match e, v with
      | 0, .inl x => nx (pc + 1) lv st (up3 G.1 k i j.toNatClampNeg x, G.2)
      | 1, .inl x => if decide (x = 0) || decide (x = 1) then nx (pc + 1) lv st (up3 G.1 k i j.toNatClampNeg x, G.2) else none
      | 2, .inr (.inl x) => nx (pc + 1) lv st (G.1, G.2.1, up3 G.2.2.1 k i j.toNatClampNeg x, G.2.2.2)
      | _, _ => none
    else none
  | _ => none
def o_aast (pc : Nat) (lv st : List AV) (G : GG) : Option NX := match st with
  | .inr (.inr (.inr (.inl (k', r)))) :: .inl j :: .inr (.inr (.inr (.inl (k, i)))) :: st =>
    if inR j (kA k).2 && has G k i && has G k' r && decide ((kA k).1 = k' + 3) && decide (k' < 8) then nx (pc + 1) lv st (G.1, up3 G.2.1 k i j.toNatClampNeg (some r), G.2.2)
    else none
  | _ => none
def o_len (X : XS) (pc : Nat) (lv st : List AV) (G : GG) : Option NX := match st with
  | .inr (.inr (.inr (.inl (k, i)))) :: st =>
    if k = 31 then nx (pc + 1) lv (vI (Int32.ofNat X.1) :: st) G
    else if decide (8 ≤ k) && decide (k < 31) && has G k i then nx (pc + 1) lv (vI (Int32.ofNat (kA k).2) :: st) G else none
  | _ => none
/-- a new cell of the kind k, n slots -/
def mk (k n : Nat) (G : GG) : GG := (up2 G.1 k (G.2.2.2.1 k) 0, up2 G.2.1 k (G.2.2.2.1 k) none, up2 G.2.2.1 k (G.2.2.2.1 k) 0, up1 G.2.2.2.1 k (G.2.2.2.1 k + 1), G.2.2.2.2.1 + 1, G.2.2.2.2.2.1 + n, G.2.2.2.2.2.2)
def okN (k : Nat) (G : GG) : Bool := G.2.2.2.2.2.2 && decide (off k (G.2.2.2.1 k) = G.2.2.2.2.1)
def o_new (a b pc : Nat) (lv st : List AV) (G : GG) : Option NX :=
  if 100 ≤ a then (match st with | [] => some (.inr (.inr (.inr (a - 100)))) | _ => none)
  else if decide (a < 8) && okN a G then nx (pc + 3) lv (vR a (G.2.2.2.1 a) :: st) (mk a b G) else none
def o_newa (len a pc : Nat) (lv st : List AV) (G : GG) : Option NX := match st with
  | .inl n :: st => if decide (8 ≤ a) && decide (a < 31) && okN a G && decide (n = Int32.ofNat (kA a).2) then nx (pc + len) lv (vR a (G.2.2.2.1 a) :: st) (mk a (kA a).2 G) else none
  | _ => none
def ct (st : List AV) : Nat := (st.map cat).sum
/-- calls: the callee a with b arguments; a receiver of the kind k, any receiver, none -/
def o_callV (a b k : Nat) (lv st : List AV) (G : GG) : Option NX := match st.drop b with
  | .inr (.inr (.inr (.inl (k', i)))) :: rest => if decide (k' = k) && has G k' i && decide (ct rest ≤ 8) then some (.inr (.inr (.inl (a, vR k' i :: (st.take b).reverse, lv, rest)))) else none
  | _ => none
def o_callR (a b : Nat) (lv st : List AV) : Option NX := match st.drop b with
  | .inr (.inr (.inr (.inl (k', i)))) :: rest => if ct rest ≤ 8 then some (.inr (.inr (.inl (a, vR k' i :: (st.take b).reverse, lv, rest)))) else none
  | _ => none
def o_callS (a b : Nat) (lv st : List AV) : Option NX := if decide (b ≤ st.length) && decide (ct (st.drop b) ≤ 8) then some (.inr (.inr (.inl (a, (st.take b).reverse, lv, st.drop b)))) else none
def retk (r : Option FieldType) (v : AV) : Bool := match r, v with
  | some .int, .inl _ => true
  | some .boolean, .inl x => decide (x = 0) || decide (x = 1)
  | some .long, .inr (.inl _) => true
  | some .double, .inr (.inr (.inl _)) => true
  | _, _ => false
def o_ret (P : AV → Bool) (r : Option FieldType) (st : List AV) : Option NX := match st with
  | [v] => if P v && retk r v then some (.inr (.inl (some v))) else none
  | _ => none
def stepI (X : XS) (R : Option FieldType) (i : Instr) (len a b c pc : Nat) (lv st : List AV) (G : GG) : Option NX := match i with
  | .iconst n => nx (pc + 1) lv (vI (Int32.ofInt n) :: st) G
  | .bipush n => nx (pc + 2) lv (vI (Int8.ofInt n).toInt32 :: st) G
  | .sipush n => nx (pc + 3) lv (vI (Int16.ofInt n).toInt32 :: st) G
  | .lconst n => nx (pc + 1) lv (vL (Int64.ofNat n) :: st) G
  | .dconst n => if n = 0 then nx (pc + 1) lv (vD FP.dconst0 :: st) G else nx (pc + 1) lv (vD FP.dconst1 :: st) G
  | .ldc2_w _ => if a = 0 then nx (pc + 3) lv (vL (Int64.ofNat b) :: st) G else nx (pc + 3) lv (vD (UInt64.ofNat b) :: st) G
  | .iload k => o_ld pI k 2 pc lv st G
  | .iload_n k => o_ld pI k 1 pc lv st G
  | .lload k => o_ld pL k 2 pc lv st G
  | .lload_n k => o_ld pL k 1 pc lv st G
  | .dload k => o_ld pD k 2 pc lv st G
  | .dload_n k => o_ld pD k 1 pc lv st G
  | .aload k => o_ld pR k 2 pc lv st G
  | .aload_n k => o_ld pR k 1 pc lv st G
  | .istore k => o_st pI k 2 pc lv st G
  | .istore_n k => o_st pI k 1 pc lv st G
  | .lstore k => o_st pL k 2 pc lv st G
  | .lstore_n k => o_st pL k 1 pc lv st G
  | .dstore k => o_st pD k 2 pc lv st G
  | .dstore_n k => o_st pD k 1 pc lv st G
  | .astore k => o_st pR k 2 pc lv st G
  | .astore_n k => o_st pR k 1 pc lv st G
  | .iinc k n => match lv[k]? with
    | some (.inl x) => if okSt lv k then nx (pc + 3) (lv.set k (vI (x + Int32.ofInt n))) st G else none
    | _ => none
  | .iadd => o_bi (· + ·) pc lv st G
  | .isub => o_bi (· - ·) pc lv st G
  | .imul => o_bi (· * ·) pc lv st G
  | .iand => o_bi (· &&& ·) pc lv st G
  | .idiv => o_bi0 (· / ·) pc lv st G
  | .irem => o_bi0 (fun x y => x - x / y * y) pc lv st G
  | .ladd => o_bl (· + ·) pc lv st G
  | .lsub => o_bl (· - ·) pc lv st G
  | .lmul => o_bl (· * ·) pc lv st G
  | .lshl => match st with
    | .inl y :: .inr (.inl x) :: st => nx (pc + 1) lv (vL (x <<< (y.toInt64 &&& 63)) :: st) G
    | _ => none
  | .lcmp => match st with
    | .inr (.inl y) :: .inr (.inl x) :: st => nx (pc + 1) lv (vI (lg_cmp x y) :: st) G
    | _ => none
  | .i2l => match st with
    | .inl x :: st => nx (pc + 1) lv (vL x.toInt64 :: st) G
    | _ => none
  | .i2d => match st with
    | .inl x :: st => nx (pc + 1) lv (vD (FP.i2d x) :: st) G
    | _ => none
  | .d2l => match st with
    | .inr (.inr (.inl x)) :: st => nx (pc + 1) lv (vL (FP.d2l x) :: st) G
    | _ => none
  | .dcmp op => match st with
    | .inr (.inr (.inl y)) :: .inr (.inr (.inl x)) :: st => nx (pc + 1) lv (vI (Op.cmpValue (FP.dcmp x y) op) :: st) G
    | _ => none
  | .dmul => o_bd FP.dmul pc lv st G
  | .ddiv => o_bd FP.ddiv pc lv st G
  | .dsub => o_bd FP.dsub pc lv st G
  | .dup => match st with
    | v :: st => if cat v = 1 then nx (pc + 1) lv (v :: v :: st) G else none
    | _ => none
  | .dup2 => match st with
    | v :: w :: st => if decide (cat v = 1) && decide (cat w = 1) then nx (pc + 1) lv (v :: w :: v :: w :: st) G else none
    | _ => none
  | .pop => match st with
    | v :: st => if cat v = 1 then nx (pc + 1) lv st G else none
    | _ => none
  | .ifCond q o => o_cm0 (cnd q) pc o lv st G
  | .if_icmp q o => o_cmp (cnd q) pc o lv st G
  | .goto o => if okT pc o then nx (tgt pc o) lv st G else none
  | .tableswitch d lo hi offs => match st with
    | .inl x :: st => if x.toInt < lo ∨ hi < x.toInt then (if okT pc d then nx (tgt pc d) lv st G else none)
      else match offs[(x.toInt - lo).toNat]? with
        | some o => if okT pc o then nx (tgt pc o) lv st G else none
        | none => none
    | _ => none
  | .lookupswitch d ps => match st with
    | .inl x :: st => if okT pc (Op.lookupswitch.offset ps.toList d x.toInt) then nx (tgt pc (Op.lookupswitch.offset ps.toList d x.toInt)) lv st G else none
    | _ => none
  | .getfield _ => o_get a b pc lv st G
  | .putfield _ => o_put a b pc lv st G
  | .getstatic _ => nx (pc + 3) lv (vR a 0 :: st) G
  | .iaload => o_ald 0 X pc lv st G
  | .baload => o_ald 1 X pc lv st G
  | .laload => o_ald 2 X pc lv st G
  | .aaload => o_aald pc lv st G
  | .iastore => o_ast 0 pc lv st G
  | .bastore => o_ast 1 pc lv st G
  | .lastore => o_ast 2 pc lv st G
  | .aastore => o_aast pc lv st G
  | .arraylength => o_len X pc lv st G
  | .new _ => o_new a b pc lv st G
  | .newarray _ => o_newa 2 a pc lv st G
  | .anewarray _ => o_newa 3 a pc lv st G
  | .invokevirtual _ => o_callV a b c lv st G
  | .invokestatic _ => if c = 6 then (match st with
      | .inl y :: .inl x :: st => if ct st ≤ 8 then nx (pc + 3) lv (vI (if y < x then y else x) :: st) G else none
      | _ => none) else if c = 7 then (match st with
      | .inr (.inr (.inl x)) :: st => if ct st ≤ 8 then nx (pc + 3) lv (vL x.toInt64 :: st) G else none
      | _ => none) else o_callS a b lv st
  | .invokespecial _ => if c = 8 then (match st with
      | .inr (.inr (.inr (.inl _))) :: st => if ct st ≤ 8 then nx (pc + 3) lv st G else none
      | _ => none) else if c = 99 then none else o_callR a b lv st
  | .ireturn => o_ret pI R st
  | .lreturn => o_ret pL R st
  | .dreturn => o_ret pD R st
  | .return_ => if R = none ∧ st = [] then some (.inr (.inl none)) else none
  | _ => none
def entry (m pc : Nat) : Option EN := match tabs[m]? with
  | some tb => tb.find? (fun e => e.1 == pc)
  | none => none
def retT (m : Nat) : Option FieldType := match mths[m]? with
  | some i => i.2.2.2.1
  | none => none
def maxL (m : Nat) : Nat := match mths[m]? with
  | some i => i.2.2.1
  | none => 0
def step (X : XS) (m : Nat) (s : ST) : Option NX := match entry m s.1 with
  | some (_, i, len, a, b, c, _) => stepI X (retT m) i len a b c s.1 s.2.1 s.2.2.1 s.2.2.2
  | none => none
def hands (m : Nat) : List (Nat × Nat × Nat × Nat) := match mths[m]? with
  | some i => i.2.2.2.2.2.1
  | none => []
/-- the classes of exceptions by the numbers that the law's class gives them -/
def exIx (k : Nat) : Nat := match k with
  | 13 => 0
  | 15 => 1
  | 17 => 2
  | _ => 9
/-- the handler that takes the exception E thrown by the call at pc: its place, and the local that its first instruction stores it in -/
def hand (m pc E : Nat) : Option (Nat × Nat) := match (hands m).find? (fun h => decide (h.1 ≤ pc) && decide (pc < h.2.1) && decide (exIx h.2.2.2 = E)) with
  | some h => match entry m h.2.2.1 with
    | some (_, .astore k, _) => some (h.2.2.1 + 2, k)
    | some (_, .astore_n k, _) => some (h.2.2.1 + 1, k)
    | _ => none
  | none => none
/-- the locals when a thing of one word is stored at k that nothing is said of -/
def kill (lv : List AV) (k : Nat) : List AV := match k with
  | 0 => lv.set 0 vU
  | k + 1 => match lv[k]? with
    | some v => if cat v = 2 then (lv.set k vU).set (k + 1) vU else lv.set (k + 1) vU
    | none => lv.set (k + 1) vU
def thrG (G : GG) : GG := (G.1, G.2.1, G.2.2.1, G.2.2.2.1, G.2.2.2.2.1 + 1, G.2.2.2.2.2.1 + 6, false)
def run (X : XS) (call : Nat → List AV → GG → Option RS) (m : Nat) : Nat → ST → Option RS
  | 0, _ => none
  | n + 1, s => match step X m s with
    | none => none
    | some (.inl s') => run X call m n s'
    | some (.inr (.inl r)) => some (.inl r, s.2.2.2)
    | some (.inr (.inr (.inl (y, args, lv, st)))) => match call y args s.2.2.2 with
      | none => none
      | some (.inl r, G') => run X call m n (s.1 + 3, lv, r.toList ++ st, G')
      | some (.inr E, G') => match hand m s.1 E with
        | some (h, k) => run X call m n (h, kill lv k, [], G')
        | none => some (.inr E, G')
    | some (.inr (.inr (.inr E))) => some (.inr E, thrG s.2.2.2)
/-- the locals at a method's entry -/
def spread : List AV → List AV
  | [] => []
  | v :: vs => if cat v = 2 then v :: vU :: spread vs else v :: spread vs
def init (m : Nat) (args : List AV) : List AV := spread args ++ List.replicate (maxL m - (spread args).length) vU
def ev (X : XS) : Nat → Nat → List AV → GG → Option RS
  | 0 => fun _ _ _ => none
  | N + 1 => fun m args G => if (spread args).length ≤ maxL m then run X (ev X N) m N (0, init m args, [], G) else none
theorem run_mono {X : XS} {c1 c2 : Nat → List AV → GG → Option RS} (hc : ∀ y a G r, c1 y a G = some r → c2 y a G = some r) (m : Nat) : ∀ n n' s r, n ≤ n' → run X c1 m n s = some r → run X c2 m n' s = some r := by
  intro n
  induction n with
  | zero => intro n' s r _ h; simp [run] at h
  | succ n ih =>
    intro n' s r hn h
    obtain ⟨n', rfl⟩ : ∃ z, n' = z + 1 := ⟨n' - 1, by omega⟩
    have hn' : n ≤ n' := by omega
    unfold run at h ⊢
    cases hs : step X m s with
    | none => rw [hs] at h; cases h
    | some x =>
      rw [hs] at h
      rcases x with s' | r' | ⟨y, a, lv, st⟩ | E
      · exact ih n' s' r hn' h
      · exact h
      · simp only at h ⊢
        cases hy : c1 y a s.2.2.2 with
        | none => rw [hy] at h; cases h
        | some z =>
          rw [hy] at h
          rw [hc _ _ _ _ hy]
          obtain ⟨o, G'⟩ := z
          cases o with
          | inl v => exact ih n' _ r hn' h
          | inr E =>
            simp only at h ⊢
            cases hh : hand m s.1 E with
            | none => rw [hh] at h; exact h
            | some q => rw [hh] at h; exact ih n' _ r hn' h
      · exact h
theorem ev_mono {X : XS} : ∀ N m a G r, ev X N m a G = some r → ev X (N + 1) m a G = some r := by
  intro N
  induction N with
  | zero => intro m a G r h; simp [ev] at h
  | succ N ih =>
    intro m a G r h
    unfold ev at h ⊢
    split at h
    · rename_i hs
      rw [if_pos hs]
      exact run_mono ih m N (N + 1) _ r (Nat.le_succ N) h
    · cases h
theorem ev_le {X : XS} {N N' : Nat} (h : N ≤ N') {m : Nat} {a : List AV} {G : GG} {r : RS} (e : ev X N m a G = some r) : ev X N' m a G = some r := by
  induction h with
  | refl => exact e
  | step _ ih => exact ev_mono _ _ _ _ _ ih
theorem run_le {X : XS} {m N N' : Nat} {s : ST} {r : RS} (h : N ≤ N') (e : run X (ev X N) m N s = some r) : run X (ev X N') m N' s = some r :=
  run_mono (fun _ _ _ _ q => ev_le h q) m N N' s r h e
/-- the answer of a method, of a state in a method: of any depth -/
noncomputable def exec (X : XS) (m : Nat) (a : List AV) (G : GG) : Option RS := @dite _ (∃ r N, ev X N m a G = some r) (Classical.propDecidable _) (fun h => some h.choose) (fun _ => none)
noncomputable def ex (X : XS) (m pc : Nat) (lv st : List AV) (G : GG) : Option RS := @dite _ (∃ r N, run X (ev X N) m N (pc, lv, st, G) = some r) (Classical.propDecidable _) (fun h => some h.choose) (fun _ => none)
theorem exec_iff {X : XS} {m : Nat} {a : List AV} {G : GG} {r : RS} : exec X m a G = some r ↔ ∃ N, ev X N m a G = some r := by
  constructor
  · intro h
    by_cases q : ∃ r N, ev X N m a G = some r
    · unfold exec at h
      rw [dif_pos q] at h
      cases h
      exact q.choose_spec
    · unfold exec at h
      rw [dif_neg q] at h
      cases h
  · rintro ⟨N, h⟩
    have q : ∃ r N, ev X N m a G = some r := ⟨r, N, h⟩
    unfold exec
    rw [dif_pos q]
    obtain ⟨N2, h2⟩ := q.choose_spec
    have e1 := ev_le (Nat.le_max_left N N2) h
    have e2 := ev_le (Nat.le_max_right N N2) h2
    rw [e1] at e2
    exact e2.symm
theorem ex_iff {X : XS} {m pc : Nat} {lv st : List AV} {G : GG} {r : RS} : ex X m pc lv st G = some r ↔ ∃ N, run X (ev X N) m N (pc, lv, st, G) = some r := by
  constructor
  · intro h
    by_cases q : ∃ r N, run X (ev X N) m N (pc, lv, st, G) = some r
    · unfold ex at h
      rw [dif_pos q] at h
      cases h
      exact q.choose_spec
    · unfold ex at h
      rw [dif_neg q] at h
      cases h
  · rintro ⟨N, h⟩
    have q : ∃ r N, run X (ev X N) m N (pc, lv, st, G) = some r := ⟨r, N, h⟩
    unfold ex
    rw [dif_pos q]
    obtain ⟨N2, h2⟩ := q.choose_spec
    have e1 := run_le (Nat.le_max_left N N2) h
    have e2 := run_le (Nat.le_max_right N N2) h2
    rw [e1] at e2
    exact e2.symm
theorem opt_ext {α : Type} {a b : Option α} (h : ∀ r, a = some r ↔ b = some r) : a = b := by
  cases a with
  | none => cases b with
    | none => rfl
    | some y => exact ((h y).mpr rfl)
  | some x => exact ((h x).mp rfl).symm
theorem exec_ex {X : XS} {m : Nat} {a : List AV} {G : GG} (hs : (spread a).length ≤ maxL m) : exec X m a G = ex X m 0 (init m a) [] G := by
  refine opt_ext fun r => ?_
  rw [exec_iff, ex_iff]
  constructor
  · rintro ⟨N, h⟩
    cases N with
    | zero => simp [ev] at h
    | succ N =>
      unfold ev at h
      rw [if_pos hs] at h
      exact ⟨N, h⟩
  · rintro ⟨N, h⟩
    refine ⟨N + 1, ?_⟩
    unfold ev
    rw [if_pos hs]
    exact h
/-- what a state does next -/
noncomputable def exN (X : XS) (m pc : Nat) (G : GG) : Option NX → Option RS
  | none => none
  | some (.inl s) => ex X m s.1 s.2.1 s.2.2.1 s.2.2.2
  | some (.inr (.inl r)) => some (.inl r, G)
  | some (.inr (.inr (.inl (y, args, lv, st)))) => match exec X y args G with
    | none => none
    | some (.inl r, G') => ex X m (pc + 3) lv (r.toList ++ st) G'
    | some (.inr E, G') => match hand m pc E with
      | some (h, k) => ex X m h (kill lv k) [] G'
      | none => some (.inr E, G')
  | some (.inr (.inr (.inr E))) => some (.inr E, thrG G)
theorem ex_step {X : XS} {m pc : Nat} {lv st : List AV} {G : GG} : ex X m pc lv st G = exN X m pc G (step X m (pc, lv, st, G)) := by
  refine opt_ext fun r => ?_
  rw [ex_iff]
  cases hs : step X m (pc, lv, st, G) with
  | none =>
    constructor
    · rintro ⟨N, h⟩
      cases N with
      | zero => simp [run] at h
      | succ N => unfold run at h; rw [hs] at h; cases h
    · intro h; cases h
  | some x =>
    rcases x with ⟨pc', lv', st', G'⟩ | r' | ⟨y, a, lv', st'⟩ | E
    · show _ ↔ ex X m pc' lv' st' G' = some r
      rw [ex_iff]
      constructor
      · rintro ⟨N, h⟩
        cases N with
        | zero => simp [run] at h
        | succ N =>
          unfold run at h; rw [hs] at h
          exact ⟨N + 1, run_mono (fun _ _ _ _ q => q) m N (N + 1) _ _ (Nat.le_succ N) h⟩
      · rintro ⟨N, h⟩
        refine ⟨N + 1, ?_⟩
        unfold run; rw [hs]
        exact run_mono (fun _ _ _ _ q => ev_mono _ _ _ _ _ q) m N N _ _ (Nat.le_refl N) h
    · constructor
      · rintro ⟨N, h⟩
        cases N with
        | zero => simp [run] at h
        | succ N => unfold run at h; rw [hs] at h; exact h
      · intro h
        refine ⟨1, ?_⟩
        unfold run; rw [hs]; exact h
    · constructor
      · rintro ⟨N, h⟩
        cases N with
        | zero => simp [run] at h
        | succ N =>
          unfold run at h; rw [hs] at h
          simp only at h
          show (match exec X y a G with | none => none | some (.inl r, G') => ex X m (pc + 3) lv' (r.toList ++ st') G' | some (.inr E, G') => match hand m pc E with | some (h, k) => ex X m h (kill lv' k) [] G' | none => some (.inr E, G')) = some r
          cases hy : ev X (N + 1) y a G with
          | none => rw [hy] at h; cases h
          | some z =>
            rw [hy] at h
            rw [exec_iff.mpr ⟨_, hy⟩]
            obtain ⟨o, G'⟩ := z
            cases o with
            | inl v => exact ex_iff.mpr ⟨N + 1, run_mono (fun _ _ _ _ q => q) m N (N + 1) _ _ (Nat.le_succ N) h⟩
            | inr E =>
              simp only at h ⊢
              cases hh : hand m pc E with
              | none => rw [hh] at h; exact h
              | some q => rw [hh] at h; exact ex_iff.mpr ⟨N + 1, run_mono (fun _ _ _ _ q => q) m N (N + 1) _ _ (Nat.le_succ N) h⟩
      · intro h
        have h : (match exec X y a G with | none => none | some (.inl r, G') => ex X m (pc + 3) lv' (r.toList ++ st') G' | some (.inr E, G') => match hand m pc E with | some (h, k) => ex X m h (kill lv' k) [] G' | none => some (.inr E, G')) = some r := h
        cases hy : exec X y a G with
        | none => rw [hy] at h; cases h
        | some z =>
          rw [hy] at h
          obtain ⟨N1, h1⟩ := exec_iff.mp hy
          obtain ⟨o, G'⟩ := z
          cases o with
          | inl v =>
            obtain ⟨N2, h2⟩ := ex_iff.mp h
            refine ⟨max N1 N2 + 1, ?_⟩
            unfold run; rw [hs]
            simp only
            rw [ev_le (Nat.le_succ_of_le (Nat.le_max_left N1 N2)) h1]
            exact run_mono (fun _ _ _ _ q => ev_le (Nat.le_succ_of_le (Nat.le_max_right N1 N2)) q) m N2 _ _ _ (Nat.le_max_right N1 N2) h2
          | inr E =>
            simp only at h
            cases hh : hand m pc E with
            | none =>
              rw [hh] at h
              refine ⟨N1 + 1, ?_⟩
              unfold run; rw [hs]
              simp only
              rw [ev_mono _ _ _ _ _ h1]
              simp only [hh]
              exact h
            | some q =>
              rw [hh] at h
              obtain ⟨N2, h2⟩ := ex_iff.mp h
              refine ⟨max N1 N2 + 1, ?_⟩
              unfold run; rw [hs]
              simp only
              rw [ev_le (Nat.le_succ_of_le (Nat.le_max_left N1 N2)) h1]
              simp only [hh]
              exact run_mono (fun _ _ _ _ q => ev_le (Nat.le_succ_of_le (Nat.le_max_right N1 N2)) q) m N2 _ _ _ (Nat.le_max_right N1 N2) h2
    · constructor
      · rintro ⟨N, h⟩
        cases N with
        | zero => simp [run] at h
        | succ N => unfold run at h; rw [hs] at h; exact h
      · intro h
        refine ⟨1, ?_⟩
        unfold run; rw [hs]; exact h
