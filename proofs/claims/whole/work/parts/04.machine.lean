/-! ===== a plain machine: ints are whole numbers, cells are numbered as they are made, fields of references stand apart ===== -/
abbrev AV : Type := Int ⊕ (Int64 ⊕ Option Nat)
abbrev aI (z : Int) : AV := .inl z
abbrev aL (z : Int64) : AV := .inr (.inl z)
abbrev aR (i : Nat) : AV := .inr (.inr (some i))
abbrev aN : AV := .inr (.inr none)
/-- how many cells; kind and length of each (0 ints, 1 longs, 2 booleans, 3 + c an object of class c); fields that are references; ints; longs -/
abbrev M5 : Type := Nat × (Nat → Nat × Nat) × (Nat → Nat → Option Nat) × (Nat → Nat → Int) × (Nat → Nat → Int64)
abbrev LV : Type := List (Option AV)
abbrev ST : Type := Nat × LV × List AV × M5
def ma {α : Type} (f : Nat → α) (i : Nat) (v : α) : Nat → α := fun j => if j = i then v else f j
def inR (z : Int) : Prop := -2147483648 ≤ z ∧ z ≤ 2147483647
def inRb (z : Int) : Bool := decide (-2147483648 ≤ z) && decide (z ≤ 2147483647)
abbrev SCR : Nat := 100000
def lpre (l : LV) (i : Nat) : LV := match i with
  | 0 => l
  | j + 1 => match l.getD j none with
    | some (.inr (.inl _)) => l.set j none
    | _ => l
def ls1 (l : LV) (i : Nat) (v : AV) : LV := (lpre l i).set i (some v)
def ls2 (l : LV) (i : Nat) (v : AV) : LV := ((lpre l i).set i (some v)).set (i + 1) none
def brc (c : Jvm.ClassFile.Cond) (x y : Int) (a b : Nat) : Nat := match c with
  | .eq => if x = y then a else b
  | .ne => if x = y then b else a
  | .lt => if x < y then a else b
  | .ge => if x < y then b else a
  | .gt => if y < x then a else b
  | .le => if y < x then b else a
def tsw (d lo hi : Int) (offs : List Int) (x : Int) : Nat := if lo ≤ x ∧ x ≤ hi then (offs.getD (x - lo).toNat d).toNat else d.toNat
def lcm (x y : Int64) : Int := if y < x then 1 else if x = y then 0 else -1
def ushr (x : Int64) (z : Int) : Int64 := (x.toUInt64 >>> (Int64.ofInt z).toUInt64).toInt64
def shll (x : Int64) (z : Int) : Int64 := x <<< Int64.ofInt z
def shrl (x : Int64) (z : Int) : Int64 := x >>> Int64.ofInt z
def acp {α : Type} (f g : Nat → α) (sp dp n : Nat) : Nat → α := fun k => if dp ≤ k ∧ k < dp + n then f (sp + (k - dp)) else g k
def pmF (M : M5) (i : Nat) (k : Nat) : Option AV := bif Nat.beq (fK ((M.2.1 i).1 - 3) k) 2 then (match M.2.2.1 i k with | some j => some (aR j) | none => some aN) else some (aI (M.2.2.2.1 i k))
/-- words of what lies on a stack -/
def catS : List AV → Nat
  | [] => 0
  | .inr (.inl _) :: r => 2 + catS r
  | _ :: r => 1 + catS r
/-- one instruction; what must hold for it -/
def stp (op : Instr) (len : Nat) : ST → Option (List Prop × ST)
  | (pc, ls, st, M) => match op with
    | .bipush v => bif inRb v then some ([], pc + len, ls, aI v :: st, M) else none
    | .jsr_w v => some ([], pc + len, ls, aL (Int64.ofInt v) :: st, M)
    | .iload i => match ls.getD i none with | some (.inl z) => some ([], pc + len, ls, aI z :: st, M) | _ => none
    | .lload i => match ls.getD i none with | some (.inr (.inl z)) => some ([], pc + len, ls, aL z :: st, M) | _ => none
    | .aload i => match ls.getD i none with | some (.inr (.inr (some z))) => some ([], pc + len, ls, aR z :: st, M) | _ => none
    | .istore i => match st with | .inl z :: st => bif Nat.blt i ls.length then some ([], pc + len, ls1 ls i (aI z), st, M) else none | _ => none
    | .lstore i => match st with | .inr (.inl z) :: st => bif Nat.blt (i + 1) ls.length then some ([], pc + len, ls2 ls i (aL z), st, M) else none | _ => none
    | .astore i => match st with | .inr (.inr (some z)) :: st => bif Nat.blt i ls.length then some ([], pc + len, ls1 ls i (aR z), st, M) else none | _ => none
    | .iinc i n => match ls.getD i none with | some (.inl z) => some ([inR (z + n)], pc + len, ls1 ls i (aI (z + n)), st, M) | _ => none
    | .iadd => match st with | .inl y :: .inl x :: st => some ([inR (x + y)], pc + len, ls, aI (x + y) :: st, M) | _ => none
    | .isub => match st with | .inl y :: .inl x :: st => some ([inR (x - y)], pc + len, ls, aI (x - y) :: st, M) | _ => none
    | .imul => match st with | .inl y :: .inl x :: st => some ([inR (x * y)], pc + len, ls, aI (x * y) :: st, M) | _ => none
    | .ineg => match st with | .inl x :: st => some ([inR (-x)], pc + len, ls, aI (-x) :: st, M) | _ => none
    | .idiv => match st with | .inl y :: .inl x :: st => some ([0 ≤ x ∧ 0 < y], pc + len, ls, aI (x / y) :: st, M) | _ => none
    | .irem => match st with | .inl y :: .inl x :: st => some ([0 ≤ x ∧ 0 < y], pc + len, ls, aI (x % y) :: st, M) | _ => none
    | .iand => match st with | .inl y :: .inl x :: st => some ([y = 1 ∨ y = 63 ∨ y = 127], pc + len, ls, aI (x % (y + 1)) :: st, M) | _ => none
    | .ishr => match st with | .inl y :: .inl x :: st => some ([y = 1], pc + len, ls, aI (x / 2) :: st, M) | _ => none
    | .i2l => match st with | .inl x :: st => some ([], pc + len, ls, aL (Int64.ofInt x) :: st, M) | _ => none
    | .l2i => match st with | .inr (.inl x) :: st => some ([], pc + len, ls, aI x.toInt32.toInt :: st, M) | _ => none
    | .ladd => match st with | .inr (.inl y) :: .inr (.inl x) :: st => some ([], pc + len, ls, aL (x + y) :: st, M) | _ => none
    | .lsub => match st with | .inr (.inl y) :: .inr (.inl x) :: st => some ([], pc + len, ls, aL (x - y) :: st, M) | _ => none
    | .land => match st with | .inr (.inl y) :: .inr (.inl x) :: st => some ([], pc + len, ls, aL (x &&& y) :: st, M) | _ => none
    | .lor => match st with | .inr (.inl y) :: .inr (.inl x) :: st => some ([], pc + len, ls, aL (x ||| y) :: st, M) | _ => none
    | .lxor => match st with | .inr (.inl y) :: .inr (.inl x) :: st => some ([], pc + len, ls, aL (x ^^^ y) :: st, M) | _ => none
    | .lushr => match st with | .inl y :: .inr (.inl x) :: st => some ([0 ≤ y ∧ y < 64], pc + len, ls, aL (ushr x y) :: st, M) | _ => none
    | .lshl => match st with | .inl y :: .inr (.inl x) :: st => some ([0 ≤ y ∧ y < 64], pc + len, ls, aL (shll x y) :: st, M) | _ => none
    | .lshr => match st with | .inl y :: .inr (.inl x) :: st => some ([0 ≤ y ∧ y < 64], pc + len, ls, aL (shrl x y) :: st, M) | _ => none
    | .lcmp => match st with | .inr (.inl y) :: .inr (.inl x) :: st => some ([], pc + len, ls, aI (lcm x y) :: st, M) | _ => none
    | .dup => match st with
      | .inr (.inl _) :: _ => none
      | v :: st => some ([], pc + len, ls, v :: v :: st, M)
      | _ => none
    | .dup2 => match st with
      | .inl v :: .inr (.inr w) :: st => some ([], pc + len, ls, aI v :: .inr (.inr w) :: aI v :: .inr (.inr w) :: st, M)
      | _ => none
    | .pop => match st with | .inl _ :: st => some ([], pc + len, ls, st, M) | _ => none
    | .pop2 => match st with | .inr (.inl _) :: st => some ([], pc + len, ls, st, M) | _ => none
    | .goto t => some ([], t.toNat, ls, st, M)
    | .ifCond c t => match st with | .inl x :: st => some ([], brc c x 0 t.toNat (pc + len), ls, st, M) | _ => none
    | .if_icmp c t => match st with | .inl y :: .inl x :: st => some ([], brc c x y t.toNat (pc + len), ls, st, M) | _ => none
    | .tableswitch d lo hi offs => match st with | .inl x :: st => some ([], tsw d lo hi offs.toList x, ls, st, M) | _ => none
    | .getfield q => match st with
      | .inr (.inr (some a)) :: st => bif Nat.blt a M.1 && Nat.beq (M.2.1 a).1 (q / 1000 + 3) && Nat.blt (q % 1000) (nF (q / 1000)) then
          (match pmF M a (q % 1000) with | some v => some ([], pc + len, ls, v :: st, M) | none => none) else none
      | _ => none
    | .putfield q => match st with
      | .inl z :: .inr (.inr (some a)) :: st => bif Nat.blt a M.1 && Nat.beq (M.2.1 a).1 (q / 1000 + 3) && Nat.blt (q % 1000) (nF (q / 1000)) then
          (match fK (q / 1000) (q % 1000) with
            | 0 => some ([], pc + len, ls, st, M.1, M.2.1, M.2.2.1, ma M.2.2.2.1 a (ma (M.2.2.2.1 a) (q % 1000) z), M.2.2.2.2)
            | 1 => some ([0 ≤ z ∧ z ≤ 1], pc + len, ls, st, M.1, M.2.1, M.2.2.1, ma M.2.2.2.1 a (ma (M.2.2.2.1 a) (q % 1000) z), M.2.2.2.2)
            | _ => none) else none
      | .inr (.inr v) :: .inr (.inr (some a)) :: st => bif Nat.blt a M.1 && Nat.beq (M.2.1 a).1 (q / 1000 + 3) && Nat.blt (q % 1000) (nF (q / 1000)) then
          (match fK (q / 1000) (q % 1000), v with
            | 2, some j => bif Nat.blt j M.1 then some ([], pc + len, ls, st, M.1, M.2.1, ma M.2.2.1 a (ma (M.2.2.1 a) (q % 1000) (some j)), M.2.2.2.1, M.2.2.2.2) else none
            | _, _ => none) else none
      | _ => none
    | .iaload => match st with
      | .inl i :: .inr (.inr (some a)) :: st => bif Nat.blt a M.1 && Nat.beq (M.2.1 a).1 0 then some ([0 ≤ i ∧ i < ((M.2.1 a).2 : Int)], pc + len, ls, aI (M.2.2.2.1 a i.toNat) :: st, M) else none
      | _ => none
    | .baload => match st with
      | .inl i :: .inr (.inr (some a)) :: st => bif Nat.blt a M.1 && Nat.beq (M.2.1 a).1 2 then some ([0 ≤ i ∧ i < ((M.2.1 a).2 : Int)], pc + len, ls, aI (M.2.2.2.1 a i.toNat) :: st, M) else none
      | _ => none
    | .laload => match st with
      | .inl i :: .inr (.inr (some a)) :: st => bif Nat.blt a M.1 && Nat.beq (M.2.1 a).1 1 then some ([0 ≤ i ∧ i < ((M.2.1 a).2 : Int)], pc + len, ls, aL (M.2.2.2.2 a i.toNat) :: st, M) else none
      | _ => none
    | .iastore => match st with
      | .inl z :: .inl i :: .inr (.inr (some a)) :: st => bif Nat.blt a M.1 && Nat.beq (M.2.1 a).1 0 then some ([0 ≤ i ∧ i < ((M.2.1 a).2 : Int)], pc + len, ls, st, M.1, M.2.1, M.2.2.1, ma M.2.2.2.1 a (ma (M.2.2.2.1 a) i.toNat z), M.2.2.2.2) else none
      | _ => none
    | .bastore => match st with
      | .inl z :: .inl i :: .inr (.inr (some a)) :: st => bif Nat.blt a M.1 && Nat.beq (M.2.1 a).1 2 then some ([0 ≤ i ∧ i < ((M.2.1 a).2 : Int), 0 ≤ z ∧ z ≤ 1], pc + len, ls, st, M.1, M.2.1, M.2.2.1, ma M.2.2.2.1 a (ma (M.2.2.2.1 a) i.toNat z), M.2.2.2.2) else none
      | _ => none
    | .lastore => match st with
      | .inr (.inl z) :: .inl i :: .inr (.inr (some a)) :: st => bif Nat.blt a M.1 && Nat.beq (M.2.1 a).1 1 then some ([0 ≤ i ∧ i < ((M.2.1 a).2 : Int)], pc + len, ls, st, M.1, M.2.1, M.2.2.1, M.2.2.2.1, ma M.2.2.2.2 a (ma (M.2.2.2.2 a) i.toNat z)) else none
      | _ => none
    | .arraylength => match st with
      | .inr (.inr (some a)) :: st => bif Nat.blt a M.1 && Nat.ble (M.2.1 a).1 2 && Nat.ble (M.2.1 a).2 100000 then some ([], pc + len, ls, aI ((M.2.1 a).2 : Int) :: st, M) else none
      | _ => none
    | .caload => match st with
      | .inl i :: .inr (.inr (some a)) :: st => bif Nat.beq a SCR then some ([0 ≤ i ∧ i < ((M.2.1 SCR).2 : Int)], pc + len, ls, aI (M.2.2.2.1 SCR i.toNat) :: st, M) else none
      | _ => none
    | .saload => match st with
      | .inr (.inr (some a)) :: st => bif Nat.beq a SCR then some ([((M.2.1 SCR).2 : Int) ≤ 100000], pc + len, ls, aI ((M.2.1 SCR).2 : Int) :: st, M) else none
      | _ => none
    | .newarray t => match st with
      | .inl z :: st => bif decide (0 ≤ z) && decide (z ≤ 100000) && Nat.blt M.1 SCR then
          (match t with
            | .int => some ([], pc + len, ls, aR M.1 :: st, M.1 + 1, ma M.2.1 M.1 (0, z.toNat), M.2.2.1, ma M.2.2.2.1 M.1 (fun _ => 0), M.2.2.2.2)
            | .long => some ([], pc + len, ls, aR M.1 :: st, M.1 + 1, ma M.2.1 M.1 (1, z.toNat), M.2.2.1, M.2.2.2.1, ma M.2.2.2.2 M.1 (fun _ => 0))
            | .boolean => some ([], pc + len, ls, aR M.1 :: st, M.1 + 1, ma M.2.1 M.1 (2, z.toNat), M.2.2.1, ma M.2.2.2.1 M.1 (fun _ => 0), M.2.2.2.2)
            | _ => none) else none
      | _ => none
    | .new q => bif Nat.blt q 11 && Nat.blt M.1 SCR then some ([], pc + len, ls, aR M.1 :: st, M.1 + 1, ma M.2.1 M.1 (q + 3, nF q), ma M.2.2.1 M.1 (fun _ => none), ma M.2.2.2.1 M.1 (fun _ => 0), M.2.2.2.2) else none
    | .invokestatic q => match q with
      | 1000 => match st with | .inl y :: .inl x :: st => bif Nat.ble (catS st) 8 then some ([], pc + len, ls, aI (if x < y then y else x) :: st, M) else none | _ => none
      | 1001 => match st with | .inl y :: .inl x :: st => bif Nat.ble (catS st) 8 then some ([], pc + len, ls, aI (if y < x then y else x) :: st, M) else none | _ => none
      | 1002 => match st with
        | .inl n :: .inl dp :: .inr (.inr (some a)) :: .inl sp :: .inr (.inr (some a0)) :: st => bif Nat.blt a M.1 && Nat.blt a0 M.1 && Nat.ble (catS st) 8 then
            (match (M.2.1 a0).1, (M.2.1 a).1 with
              | 0, 0 => some ([0 ≤ sp ∧ 0 ≤ dp ∧ 0 ≤ n ∧ sp + n ≤ ((M.2.1 a0).2 : Int) ∧ dp + n ≤ ((M.2.1 a).2 : Int)], pc + len, ls, st, M.1, M.2.1, M.2.2.1, ma M.2.2.2.1 a (acp (M.2.2.2.1 a0) (M.2.2.2.1 a) sp.toNat dp.toNat n.toNat), M.2.2.2.2)
              | 1, 1 => some ([0 ≤ sp ∧ 0 ≤ dp ∧ 0 ≤ n ∧ sp + n ≤ ((M.2.1 a0).2 : Int) ∧ dp + n ≤ ((M.2.1 a).2 : Int)], pc + len, ls, st, M.1, M.2.1, M.2.2.1, M.2.2.2.1, ma M.2.2.2.2 a (acp (M.2.2.2.2 a0) (M.2.2.2.2 a) sp.toNat dp.toNat n.toNat))
              | _, _ => none) else none
        | _ => none
      | 1003 => match st with | .inr (.inr (some _)) :: st => bif Nat.ble (catS st) 8 then some ([], pc + len, ls, st, M) else none | _ => none
      | _ => none
    | _ => none
def allP : List Prop → Prop
  | [] => True
  | [p] => p
  | p :: q :: r => p ∧ allP (q :: r)
/-- an instruction with its entries looked up: its targets absolute, its forms fewer; its own length is checked -/
def rsv (y pc : Nat) (op : Instr) (len : Nat) : Option Instr := match op with
  | .iconst v => bif len == 1 then some (.bipush v) else none
  | .bipush v => bif len == 2 && decide (-128 ≤ v) && decide (v ≤ 127) then some (.bipush v) else none
  | .sipush v => bif len == 3 && decide (-32768 ≤ v) && decide (v ≤ 32767) then some (.bipush v) else none
  | .ldc i => bif len == 2 then (cstQ (mO y) i).map (fun t => .bipush t.1) else none
  | .ldc_w i => bif len == 3 then (cstQ (mO y) i).map (fun t => .bipush t.1) else none
  | .lconst v => bif len == 1 then some (.jsr_w (v : Nat)) else none
  | .ldc2_w i => bif len == 3 then (cslQ (mO y) i).map (fun t => .jsr_w t.1) else none
  | .iload_n n => bif len == 1 then some (.iload n) else none
  | .iload n => bif len == 2 then some (.iload n) else none
  | .lload_n n => bif len == 1 then some (.lload n) else none
  | .lload n => bif len == 2 then some (.lload n) else none
  | .aload_n n => bif len == 1 then some (.aload n) else none
  | .aload n => bif len == 2 then some (.aload n) else none
  | .istore_n n => bif len == 1 then some (.istore n) else none
  | .istore n => bif len == 2 then some (.istore n) else none
  | .lstore_n n => bif len == 1 then some (.lstore n) else none
  | .lstore n => bif len == 2 then some (.lstore n) else none
  | .astore_n n => bif len == 1 then some (.astore n) else none
  | .astore n => bif len == 2 then some (.astore n) else none
  | .iinc i n => bif len == 3 then some (.iinc i n) else none
  | .goto o => bif len == 3 && decide (0 ≤ (pc : Int) + o) then some (.goto (pc + o)) else none
  | .ifCond c o => bif len == 3 && decide (0 ≤ (pc : Int) + o) then some (.ifCond c (pc + o)) else none
  | .if_icmp c o => bif len == 3 && decide (0 ≤ (pc : Int) + o) then some (.if_icmp c (pc + o)) else none
  | .tableswitch d lo hi offs => bif decide (0 ≤ (pc : Int) + d) && offs.toList.all (fun o => decide (0 ≤ (pc : Int) + o)) && decide ((offs.size : Int) = hi - lo + 1) then some (.tableswitch (pc + d) lo hi (offs.map (fun o => pc + o))) else none
  | .getfield i => bif len == 3 then (fldQ (mO y) i).map (fun t => .getfield (t.1 * 1000 + t.2.1)) else none
  | .putfield i => bif len == 3 then (fldQ (mO y) i).bind (fun t => bif !fFin t.1 t.2.1 || (mIn y && mO y == t.1) then some (.putfield (t.1 * 1000 + t.2.1)) else none) else none
  | .new i => bif len == 3 then (cllQ (mO y) i).map (fun t => .new t.1) else none
  | .newarray t => bif len == 2 then some (.newarray t) else none
  | .iaload => bif len == 1 then (bif y == 0 then some .caload else some .iaload) else none
  | .arraylength => bif len == 1 then (bif y == 0 then some .saload else some .arraylength) else none
  | .invokevirtual i => bif len == 3 then (mthQ (mO y) i).bind (fun t => bif Nat.blt t.1 1000 && !mSt t.1 && !mIn t.1 then some (.invokespecial t.1) else none) else none
  | .invokestatic i => bif len == 3 then (mthQ (mO y) i).bind (fun t => bif Nat.blt t.1 1000 then (bif mSt t.1 then some (.invokespecial t.1) else none) else (bif (Nat.ble t.1 1001 && Nat.ble 1 (mFr y) && Nat.ble 21 (mLo y)) || (t.1 == 1002 && Nat.ble 1 (mFr y) && Nat.ble 34 (mLo y)) then some (.invokestatic t.1) else none)) else none
  | .invokespecial i => bif len == 3 then (mthQ (mO y) i).bind (fun t => bif Nat.blt t.1 1000 then (bif mIn t.1 then some (.invokespecial t.1) else none) else (bif t.1 == 1003 && Nat.ble 1 (mFr y) && Nat.ble 21 (mLo y) then some (.invokestatic 1003) else none)) else none
  | .baload => bif len == 1 then some op else none
  | .bastore => bif len == 1 then some op else none
  | .laload => bif len == 1 then some op else none
  | .lastore => bif len == 1 then some op else none
  | .iastore => bif len == 1 then some op else none
  | .iadd => bif len == 1 then some op else none
  | .isub => bif len == 1 then some op else none
  | .imul => bif len == 1 then some op else none
  | .ineg => bif len == 1 then some op else none
  | .idiv => bif len == 1 then some op else none
  | .irem => bif len == 1 then some op else none
  | .iand => bif len == 1 then some op else none
  | .ishr => bif len == 1 then some op else none
  | .i2l => bif len == 1 then some op else none
  | .l2i => bif len == 1 then some op else none
  | .ladd => bif len == 1 then some op else none
  | .lsub => bif len == 1 then some op else none
  | .land => bif len == 1 then some op else none
  | .lor => bif len == 1 then some op else none
  | .lxor => bif len == 1 then some op else none
  | .lushr => bif len == 1 then some op else none
  | .lshl => bif len == 1 then some op else none
  | .lshr => bif len == 1 then some op else none
  | .lcmp => bif len == 1 then some op else none
  | .dup => bif len == 1 then some op else none
  | .dup2 => bif len == 1 then some op else none
  | .pop => bif len == 1 then some op else none
  | .pop2 => bif len == 1 then some op else none
  | .ireturn => bif len == 1 then some op else none
  | .lreturn => bif len == 1 then some op else none
  | .return_ => bif len == 1 then some op else none
  | _ => none
def rawAt (y pc : Nat) : Option (Nat × Instr × Nat) := (mC y).find? (fun t => t.1 == pc)
def fetch (y pc : Nat) : Option (Instr × Nat) := match rawAt y pc with
  | some t => (match rsv y pc t.2.1 t.2.2 with | some o => some (o, t.2.2) | none => none)
  | none => none
def retI (y : Nat) (z : Int) : Prop := mR y = some .int ∨ (mR y = some .boolean ∧ 0 ≤ z ∧ z ≤ 1)
/-- a call that the tables allow: room, what lies below, a receiver of the method's class -/
def callOk (y c : Nat) (st : List AV) (M : M5) : Bool :=
  Nat.blt c 200 && Nat.ble (mFr c + 1) (mFr y) && Nat.ble (8 + (mL c + 11) + mLo c) (mLo y) && Nat.ble (mNA c) st.length && Nat.ble (catS (st.drop (mNA c))) 8 &&
  (mSt c || match st.drop (mNA c - 1) with
    | .inr (.inr (some a)) :: _ => Nat.blt a M.1 && Nat.beq (M.2.1 a).1 (mO c + 3)
    | _ => false)
def retOk (c : Nat) (rv : Option AV) : Prop := match rv with
  | none => mR c = none
  | some (.inl z) => retI c z
  | some (.inr (.inl _)) => mR c = some .long
  | _ => False
/-- k steps at most from a state of method y to its return; K: what calls do -/
def runK (K : Nat → List AV → M5 → Option AV → M5 → Prop) (y : Nat) : Nat → ST → Option AV → M5 → Prop
  | 0, _, _, _ => False
  | k + 1, s, r, M' => match fetch y s.1 with
    | none => False
    | some (.ireturn, _) => ∃ z, s.2.2.1 = [aI z] ∧ retI y z ∧ r = some (aI z) ∧ M' = s.2.2.2
    | some (.lreturn, _) => ∃ z, s.2.2.1 = [aL z] ∧ mR y = some .long ∧ r = some (aL z) ∧ M' = s.2.2.2
    | some (.return_, _) => s.2.2.1 = [] ∧ mR y = none ∧ r = none ∧ M' = s.2.2.2
    | some (.invokespecial c, len) => callOk y c s.2.2.1 s.2.2.2 = true ∧ ∃ rv M1, K c ((s.2.2.1.take (mNA c)).reverse) s.2.2.2 rv M1 ∧ retOk c rv ∧ runK K y k (s.1 + len, s.2.1, rv.toList ++ s.2.2.1.drop (mNA c), M1) r M'
    | some (op, len) => ∃ ps s', stp op len s = some (ps, s') ∧ allP ps ∧ runK K y k s' r M'
def entA : List AV → LV
  | [] => []
  | .inr (.inl z) :: r => some (aL z) :: none :: entA r
  | v :: r => some v :: entA r
def entL (args : List AV) (n : Nat) : LV := entA args ++ List.replicate (n - (entA args).length) none
/-- d calls deep at most -/
def Rn : Nat → Nat → List AV → M5 → Option AV → M5 → Prop
  | 0 => fun _ _ _ _ _ => False
  | d + 1 => fun y args M r M' => (entA args).length ≤ mL y ∧ ∃ k, runK (Rn d) y k (0, entL args (mL y), [], M) r M'
