/-! The abstract machine: ints, longs and references are Int; the memory is a function of a cell's number and a place. -/
abbrev AV : Type := Nat × Int
abbrev Mo : Type := Int → Int → Int
abbrev Sh : Type := List (Nat × Nat)
abbrev AR : Type := (Nat × List AV × List AV × Sh × Mo) ⊕ ((Option AV) ⊕ (Nat × List AV × List AV))
def mt (g : Nat) : ByteArray × MethodName × Nat × Option FieldType × Nat × Nat × Nat × Bool × Nat := mtL.getD g (⟨#[]⟩, ⟨"", "", ""⟩, 0, none, 0, 0, 0, false, 0)
def bc (g : Nat) : ByteArray := (mt g).1
def nmm (g : Nat) : MethodName := (mt g).2.1
def mxl (g : Nat) : Nat := (mt g).2.2.1
def rty (g : Nat) : Option FieldType := (mt g).2.2.2.1
def own (g : Nat) : Nat := (mt g).2.2.2.2.1
def hgt (g : Nat) : Nat := (mt g).2.2.2.2.2.1
def npr (g : Nat) : Nat := (mt g).2.2.2.2.2.2.1
def sta (g : Nat) : Bool := (mt g).2.2.2.2.2.2.2.1
def cpl (g : Nat) : Nat := (mt g).2.2.2.2.2.2.2.2
def fdt (ci k : Nat) : String × String × String × Bool := ((vwCl.getD ci ("", TX0, 0)).2.1) k
def nfl (ci : Nat) : Nat := (vwCl.getD ci ("", TX0, 0)).2.2
def tgf (ci k : Nat) : Nat := (tgL.getD ci []).getD k 0
def fl (oc idx : Nat) : Option (Nat × Nat × Nat × Nat × Nat) := fT.find? (fun e => e.1 == oc && e.2.1 == idx)
def mlk (oc idx : Nat) : Option (Nat × Nat × Nat × Nat × Nat × Nat × Nat × Nat) := mT.find? (fun e => e.1 == oc && e.2.1 == idx)
def klk (oc idx : Nat) : Option (Nat × Nat × Int × Nat × Nat) := kT.find? (fun e => e.1 == oc && e.2.1 == idx)
def nlk (oc idx : Nat) : Option (Nat × Nat × Nat × Nat × Nat × Nat) := nT.find? (fun e => e.1 == oc && e.2.1 == idx)
def alk (oc idx : Nat) : Option (Nat × Nat × Nat) := aT.find? (fun e => e.1 == oc && e.2.1 == idx)
def glk (oc idx : Nat) : Option (Nat × Nat × Nat × Nat) := gT.find? (fun e => e.1 == oc && e.2.1 == idx)
def up2 (M : Mo) (a i v : Int) : Mo := fun x y => if x = a ∧ y = i then v else M x y
def cp2 (M : Mo) (b sp a dp n : Int) : Mo := fun x y => if x = a ∧ dp ≤ y ∧ y < dp + n then M b (sp + (y - dp)) else M x y
def shp (σ : Sh) (a : Int) : Nat × Nat := if a < 0 then (99, 0) else σ.getD a.toNat (99, 0)
def catv (v : AV) : Nat := if v.1 = 1 then 2 else 1
def cats (st : List AV) : Nat := (st.map catv).sum
def nx (pc : Nat) (ls st : List AV) (σ : Sh) (M : Mo) : Option AR := some (.inl (pc, ls, st, σ, M))
def jm (pc : Nat) (off : Int) (ls st : List AV) (σ : Sh) (M : Mo) : Option AR := if 0 ≤ (pc : Int) + off then nx ((pc : Int) + off).toNat ls st σ M else none
def stl (ls : List AV) (i : Nat) (v : AV) : List AV :=
  let l1 := if v.1 = 1 then (ls.set i v).set (i + 1) (9, 0) else ls.set i v
  match i with
  | 0 => l1
  | j + 1 => match ls[j]? with
    | some (1, _) => l1.set j (9, 0)
    | _ => l1
/-- a load of kind t -/
def ald (t len k pc i : Nat) (ls st : List AV) (σ : Sh) (M : Mo) : Option AR :=
  if len = k then match ls[i]? with
    | some v => if v.1 = t then nx (pc + k) ls (v :: st) σ M else none
    | none => none
  else none
/-- a load of a reference (or of the script) -/
def alda (len k pc i : Nat) (ls st : List AV) (σ : Sh) (M : Mo) : Option AR :=
  if len = k then match ls[i]? with
    | some v => if v.1 = 2 ∧ 0 ≤ v.2 ∨ v.1 = 4 then nx (pc + k) ls (v :: st) σ M else none
    | none => none
  else none
def ast (t len k pc i : Nat) (ls st : List AV) (σ : Sh) (M : Mo) : Option AR :=
  if len = k then match st with
    | v :: st => if v.1 = t ∧ i + (if t = 1 then 1 else 0) < ls.length ∧ (t = 2 → 0 ≤ v.2) then nx (pc + k) (stl ls i v) st σ M else none
    | [] => none
  else none
def cst (z : Int) (len k pc : Nat) (ls st : List AV) (σ : Sh) (M : Mo) : Option AR :=
  if len = k ∧ -128 ≤ z ∧ z < 128 then nx (pc + k) ls ((0, z) :: st) σ M else none
def bi (g : Int32 → Int32 → Int32) (len pc : Nat) (ls st : List AV) (σ : Sh) (M : Mo) : Option AR :=
  if len = 1 then match st with
    | (0, y) :: (0, x) :: st => nx (pc + 1) ls ((0, (g (Int32.ofInt x) (Int32.ofInt y)).toInt) :: st) σ M
    | _ => none
  else none
def bz (g : Int32 → Int32 → Int32) (len pc : Nat) (ls st : List AV) (σ : Sh) (M : Mo) : Option AR :=
  if len = 1 then match st with
    | (0, y) :: (0, x) :: st => if Int32.ofInt y = 0 then none else nx (pc + 1) ls ((0, (g (Int32.ofInt x) (Int32.ofInt y)).toInt) :: st) σ M
    | _ => none
  else none
def bl (g : Int64 → Int64 → Int64) (len pc : Nat) (ls st : List AV) (σ : Sh) (M : Mo) : Option AR :=
  if len = 1 then match st with
    | (1, y) :: (1, x) :: st => nx (pc + 1) ls ((1, (g (Int64.ofInt x) (Int64.ofInt y)).toInt) :: st) σ M
    | _ => none
  else none
def blz (g : Int64 → Int64 → Int64) (len pc : Nat) (ls st : List AV) (σ : Sh) (M : Mo) : Option AR :=
  if len = 1 then match st with
    | (1, y) :: (1, x) :: st => if Int64.ofInt y = 0 then none else nx (pc + 1) ls ((1, (g (Int64.ofInt x) (Int64.ofInt y)).toInt) :: st) σ M
    | _ => none
  else none
def bs (g : Int64 → Int32 → Int64) (len pc : Nat) (ls st : List AV) (σ : Sh) (M : Mo) : Option AR :=
  if len = 1 then match st with
    | (0, y) :: (1, x) :: st => nx (pc + 1) ls ((1, (g (Int64.ofInt x) (Int32.ofInt y)).toInt) :: st) σ M
    | _ => none
  else none
def cmpb (c : Jvm.ClassFile.Cond) (x y : Int) : Bool := match c with
  | .eq => decide (x = y)
  | .ne => decide (x ≠ y)
  | .lt => decide (x < y)
  | .ge => decide (y ≤ x)
  | .gt => decide (y < x)
  | .le => decide (x ≤ y)
/-- pop n arguments: (arguments in order, rest) -/
def pops : Nat → List AV → Option (List AV × List AV)
  | 0, st => some ([], st)
  | n + 1, v :: st => match pops n st with
    | some (as, r) => some (as ++ [v], r)
    | none => none
  | _ + 1, [] => none
/-- a cell of kind kd and its contents -/
def dfv (kd j : Nat) : Int := if kd < 11 then (if tgf kd j = 2 then -1 else 0) else if kd < 22 then 0 else -1
def nwc (σ : Sh) (M : Mo) (kd : Nat) : Mo := fun x y => if x = σ.length then dfv kd y.toNat else M x y
/-- the outer array at N, its rows behind it -/
def nwg (σ : Sh) (M : Mo) (n : Nat) : Mo := fun x y => if x = σ.length then (if 0 ≤ y ∧ y < n then (σ.length : Int) + 1 + y else -1) else if (σ.length : Int) < x ∧ x ≤ (σ.length : Int) + n then 0 else M x y
/-- the locals at a method's entry -/
def ent : List AV → List AV
  | [] => []
  | v :: as => if v.1 = 1 then v :: (9, 0) :: ent as else v :: ent as
def rcv (σ : Sh) (g : Nat) (as : List AV) : Bool := sta g || (match as with
  | (2, a) :: _ => decide (shp σ a = (own g, nfl (own g)))
  | _ => false)
def ava (f len : Nat) (st : List AV) (σ : Sh) (idx : Nat) (kds : List Nat) : Option AR :=
  if len = 3 then match mlk (own f) idx with
    | some e => if kds.contains e.2.2.2.1 then
        (match pops (npr e.2.2.1 + (if sta e.2.2.1 then 0 else 1)) st with
        | some (as, r) => if cats r ≤ 8 ∧ hgt e.2.2.1 < hgt f ∧ rcv σ e.2.2.1 as = true ∧ (ent as).length ≤ mxl e.2.2.1 ∧ (as.all fun v => v.1 == 0 || v.1 == 1 || v.1 == 2) = true then some (.inr (.inr (e.2.2.1, as, r))) else none
        | none => none)
      else none
    | none => none
  else none
def astep (o : Option (List Int)) (f pc : Nat) (i : Instr) (len : Nat) (ls st : List AV) (σ : Sh) (M : Mo) : Option AR :=
  match i with
  | .aload n => alda len 2 pc n ls st σ M
  | .aload_n n => alda len 1 pc n.val ls st σ M
  | .iload n => ald 0 len 2 pc n ls st σ M
  | .iload_n n => ald 0 len 1 pc n.val ls st σ M
  | .lload n => ald 1 len 2 pc n ls st σ M
  | .lload_n n => ald 1 len 1 pc n.val ls st σ M
  | .istore n => ast 0 len 2 pc n ls st σ M
  | .istore_n n => ast 0 len 1 pc n.val ls st σ M
  | .lstore n => ast 1 len 2 pc n ls st σ M
  | .lstore_n n => ast 1 len 1 pc n.val ls st σ M
  | .astore n => ast 2 len 2 pc n ls st σ M
  | .astore_n n => ast 2 len 1 pc n.val ls st σ M
  | .iconst z => cst z len 1 pc ls st σ M
  | .bipush z => cst z len 2 pc ls st σ M
  | .sipush z => if len = 3 ∧ -32768 ≤ z ∧ z < 32768 then nx (pc + 3) ls ((0, z) :: st) σ M else none
  | .lconst z => if len = 1 then nx (pc + 1) ls ((1, (z.val : Int)) :: st) σ M else none
  | .ldc n => if len = 2 then match klk (own f) n with
      | some e => if e.2.2.2.1 = 0 then nx (pc + 2) ls ((0, e.2.2.1) :: st) σ M else none
      | none => none
    else none
  | .ldc_w n => if len = 3 then match klk (own f) n with
      | some e => if e.2.2.2.1 = 0 then nx (pc + 3) ls ((0, e.2.2.1) :: st) σ M else none
      | none => none
    else none
  | .ldc2_w n => if len = 3 then match klk (own f) n with
      | some e => if e.2.2.2.1 = 1 then nx (pc + 3) ls ((1, e.2.2.1) :: st) σ M else none
      | none => none
    else none
  | .iadd => bi (· + ·) len pc ls st σ M
  | .isub => bi (· - ·) len pc ls st σ M
  | .imul => bi (· * ·) len pc ls st σ M
  | .iand => bi (· &&& ·) len pc ls st σ M
  | .ixor => bi (· ^^^ ·) len pc ls st σ M
  | .ishl => bi (fun x y => x <<< (y &&& 31)) len pc ls st σ M
  | .ishr => bi (fun x y => x >>> (y &&& 31)) len pc ls st σ M
  | .iushr => bi (fun x y => (x.toUInt32 >>> (y.toUInt32 &&& Int32.toUInt32 31)).toInt32) len pc ls st σ M
  | .idiv => bz (· / ·) len pc ls st σ M
  | .irem => bz (fun x y => x - x / y * y) len pc ls st σ M
  | .ineg => if len = 1 then match st with
      | (0, x) :: st => nx (pc + 1) ls ((0, (-(Int32.ofInt x)).toInt) :: st) σ M
      | _ => none
    else none
  | .ladd => bl (· + ·) len pc ls st σ M
  | .lsub => bl (· - ·) len pc ls st σ M
  | .lmul => bl (· * ·) len pc ls st σ M
  | .land => bl (· &&& ·) len pc ls st σ M
  | .lor => bl (· ||| ·) len pc ls st σ M
  | .ldiv => blz (· / ·) len pc ls st σ M
  | .lrem => blz (fun x y => x - x / y * y) len pc ls st σ M
  | .lshl => bs (fun x y => x <<< (y.toInt64 &&& 63)) len pc ls st σ M
  | .lushr => bs (fun x y => (x.toUInt64 >>> (y.toInt64.toUInt64 &&& Int64.toUInt64 63)).toInt64) len pc ls st σ M
  | .lcmp => if len = 1 then match st with
      | (1, y) :: (1, x) :: st => nx (pc + 1) ls ((0, if y < x then 1 else if x = y then 0 else -1) :: st) σ M
      | _ => none
    else none
  | .i2l => if len = 1 then match st with
      | (0, x) :: st => nx (pc + 1) ls ((1, x) :: st) σ M
      | _ => none
    else none
  | .l2i => if len = 1 then match st with
      | (1, x) :: st => nx (pc + 1) ls ((0, (Int64.ofInt x).toInt32.toInt) :: st) σ M
      | _ => none
    else none
  | .iinc n z => if len = 3 then match ls[n]? with
      | some (0, x) => nx (pc + 3) (stl ls n (0, (Int32.ofInt x + Int32.ofInt z).toInt)) st σ M
      | _ => none
    else none
  | .dup => if len = 1 then match st with
      | v :: st => if v.1 = 0 ∨ v.1 = 2 then nx (pc + 1) ls (v :: v :: st) σ M else none
      | _ => none
    else none
  | .dup2 => if len = 1 then match st with
      | v :: w :: st => if (v.1 = 0 ∨ v.1 = 2) ∧ (w.1 = 0 ∨ w.1 = 2) then nx (pc + 1) ls (v :: w :: v :: w :: st) σ M else none
      | _ => none
    else none
  | .goto z => if len = 3 then jm pc z ls st σ M else none
  | .ifCond c z => if len = 3 ∧ 0 ≤ (pc : Int) + z then match st with
      | (0, x) :: st => if cmpb c x 0 then jm pc z ls st σ M else nx (pc + 3) ls st σ M
      | _ => none
    else none
  | .if_icmp c z => if len = 3 ∧ 0 ≤ (pc : Int) + z then match st with
      | (0, y) :: (0, x) :: st => if cmpb c x y then jm pc z ls st σ M else nx (pc + 3) ls st σ M
      | _ => none
    else none
  | .tableswitch d lo hi offs => match st with
      | (0, x) :: st => if x < lo ∨ hi < x then jm pc d ls st σ M else (match offs[(x - lo).toNat]? with
        | some z => jm pc z ls st σ M
        | none => none)
      | _ => none
  | .lookupswitch d ps => match st with
      | (0, x) :: st => if (ps.toList.zip (ps.toList.drop 1)).all (fun (a, next) => a.1 < next.1) = true then jm pc (Op.lookupswitch.offset ps.toList d x) ls st σ M else none
      | _ => none
  | .getfield n => if len = 3 then match fl (own f) n, st with
      | some e, (2, a) :: st => if shp σ a = (e.2.2.1, nfl e.2.2.1) ∧ (tgf e.2.2.1 e.2.2.2.1 = 2 → 0 ≤ M a e.2.2.2.1) then nx (pc + 3) ls ((tgf e.2.2.1 e.2.2.2.1, M a e.2.2.2.1) :: st) σ M else none
      | _, _ => none
    else none
  | .putfield n => if len = 3 then match fl (own f) n, st with
      | some e, v :: (2, a) :: st => if shp σ a = (e.2.2.1, nfl e.2.2.1) ∧ v.1 = tgf e.2.2.1 e.2.2.2.1 ∧ ((fdt e.2.2.1 e.2.2.2.1).2.2.2 = false ∨ ((nmm f).name = "<init>" ∧ own f = e.2.2.1)) then nx (pc + 3) ls st σ (up2 M a e.2.2.2.1 v.2) else none
      | _, _ => none
    else none
  | .new n => if len = 3 then match nlk (own f) n with
      | some e => nx (pc + 3) ls ((2, (σ.length : Int)) :: st) (σ ++ [(e.2.2.1, nfl e.2.2.1)]) (nwc σ M e.2.2.1)
      | none => none
    else none
  | .newarray t => if len = 2 then match st with
      | (0, n) :: st => if 0 ≤ n ∧ n < 65536 then (match t with
        | .int => nx (pc + 2) ls ((2, (σ.length : Int)) :: st) (σ ++ [(20, n.toNat)]) (nwc σ M 20)
        | .long => nx (pc + 2) ls ((2, (σ.length : Int)) :: st) (σ ++ [(21, n.toNat)]) (nwc σ M 21)
        | _ => none) else none
      | _ => none
    else none
  | .anewarray k => if len = 3 then match alk (own f) k, st with
      | some _, (0, n) :: st => if 0 ≤ n ∧ n < 65536 then nx (pc + 3) ls ((2, (σ.length : Int)) :: st) (σ ++ [(22, n.toNat)]) (nwc σ M 22) else none
      | _, _ => none
    else none
  | .multianewarray k d => if len = 4 ∧ d = 2 then match glk (own f) k, st with
      | some e, (0, b) :: (0, n) :: st => if 0 ≤ n ∧ n < 65536 ∧ 0 ≤ b ∧ b < 65536 then nx (pc + 4) ls ((2, (σ.length : Int)) :: st) ((σ ++ [(e.2.2.1, n.toNat)]) ++ List.replicate n.toNat (e.2.2.1 - 3, b.toNat)) (nwg σ M n.toNat) else none
      | _, _ => none
    else none
  | .arraylength => if len = 1 then match o, st with
      | some xs, (4, _) :: st => nx (pc + 1) ls ((0, (xs.length : Int)) :: st) σ M
      | _, _ => none
    else none
  | .iaload => if len = 1 then match o, st with
      | some xs, (0, i) :: (4, _) :: st => if 0 ≤ i ∧ i < xs.length then nx (pc + 1) ls ((0, xs.getD i.toNat 0) :: st) σ M else none
      | _, (0, i) :: (2, a) :: st => if (shp σ a).1 = 20 ∧ 0 ≤ i ∧ i < (shp σ a).2 then nx (pc + 1) ls ((0, M a i) :: st) σ M else none
      | _, _ => none
    else none
  | .laload => if len = 1 then match st with
      | (0, i) :: (2, a) :: st => if (shp σ a).1 = 21 ∧ 0 ≤ i ∧ i < (shp σ a).2 then nx (pc + 1) ls ((1, M a i) :: st) σ M else none
      | _ => none
    else none
  | .aaload => if len = 1 then match st with
      | (0, i) :: (2, a) :: st => if 22 ≤ (shp σ a).1 ∧ (shp σ a).1 ≤ 24 ∧ 0 ≤ i ∧ i < (shp σ a).2 ∧ 0 ≤ M a i then nx (pc + 1) ls ((2, M a i) :: st) σ M else none
      | _ => none
    else none
  | .iastore => if len = 1 then match st with
      | (0, x) :: (0, i) :: (2, a) :: st => if (shp σ a).1 = 20 ∧ 0 ≤ i ∧ i < (shp σ a).2 then nx (pc + 1) ls st σ (up2 M a i x) else none
      | _ => none
    else none
  | .lastore => if len = 1 then match st with
      | (1, x) :: (0, i) :: (2, a) :: st => if (shp σ a).1 = 21 ∧ 0 ≤ i ∧ i < (shp σ a).2 then nx (pc + 1) ls st σ (up2 M a i x) else none
      | _ => none
    else none
  | .aastore => if len = 1 then match st with
      | (2, x) :: (0, i) :: (2, a) :: st => if (shp σ a).1 = 22 ∧ 0 ≤ i ∧ i < (shp σ a).2 ∧ shp σ x = (0, nfl 0) then nx (pc + 1) ls st σ (up2 M a i x) else none
      | _ => none
    else none
  | .invokevirtual n => ava f len st σ n [0, 3]
  | .invokestatic n => if (mlk (own f) n).map (fun e => e.2.2.2.1) = some 7 then
      (if len = 3 then match st with
      | (0, n) :: (0, dp) :: (2, a) :: (0, sp) :: (2, b) :: st => if ((shp σ a).1 = 20 ∧ (shp σ b).1 = 20 ∨ (shp σ a).1 = 21 ∧ (shp σ b).1 = 21) ∧ 0 ≤ n ∧ 0 ≤ sp ∧ 0 ≤ dp ∧ sp + n ≤ (shp σ b).2 ∧ dp + n ≤ (shp σ a).2 ∧ cats st ≤ 8 ∧ 1 ≤ hgt f then nx (pc + 3) ls st σ (cp2 M b sp a dp n) else none
      | _ => none
      else none)
    else ava f len st σ n [1, 4]
  | .invokespecial n => if (mlk (own f) n).map (fun e => e.2.2.2.1) = some 6 then
      (if len = 3 then match st with
      | (2, _) :: st => if cats st ≤ 8 ∧ 1 ≤ hgt f then nx (pc + 3) ls st σ M else none
      | _ => none
      else none)
    else ava f len st σ n [2, 5]
  | .ireturn => if len = 1 then match st with
      | [(0, x)] => if rty f = some .int ∨ rty f = some .boolean ∧ (x = 0 ∨ x = 1) then some (.inr (.inl (some (0, x)))) else none
      | _ => none
    else none
  | .lreturn => if len = 1 then match st with
      | [(1, x)] => if rty f = some .long then some (.inr (.inl (some (1, x)))) else none
      | _ => none
    else none
  | .return_ => if len = 1 then match st with
      | [] => if rty f = none then some (.inr (.inl none)) else none
      | _ => none
    else none
  | _ => none
def entl (g : Nat) (as : List AV) : List AV := ent as ++ List.replicate (mxl g - (ent as).length) (9, 0)
def arun (o : Option (List Int)) : Nat → Nat → Nat → List AV → List AV → Sh → Mo → Option (Option AV × Sh × Mo)
  | 0, _, _, _, _, _, _ => none
  | n + 1, f, pc, ls, st, σ, M => match decode (bc f) pc with
    | .ok (i, len) => (match astep o f pc i len ls st σ M with
      | some (.inl (pc', ls', st', σ', M')) => arun o n f pc' ls' st' σ' M'
      | some (.inr (.inl v)) => some (v, σ, M)
      | some (.inr (.inr (g, as, r))) => (match arun none n g 0 (entl g as) [] σ M with
        | some (v, σ', M') => arun o n f (pc + 3) ls (v.toList ++ r) σ' M'
        | none => none)
      | none => none)
    | .error _ => none
