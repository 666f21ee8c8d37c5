/-! the abstract machine: what an instruction does -/
abbrev SHP : Type := (Nat × Nat) ⊕ ((Nat × List Nat) ⊕ (Nat × List (Option Nat)))
abbrev RS : Type := Option (AS ⊕ (Option AV × Mem))
abbrev inR (z : Int) : Prop := -2147483648 ≤ z ∧ z < 2147483648
abbrev inR64 (z : Int) : Prop := -9223372036854775808 ≤ z ∧ z < 9223372036854775808
def upI (f : Int → Int) (i v : Int) : Int → Int := fun j => if j = i then v else f j
def setC (M : Mem) (c : Nat) (g : Int → Int) : Mem := fun d => if d = c then g else M d
def wr (M : Mem) (c : Nat) (i v : Int) : Mem := setC M c (upI (M c) i v)
def cpI (f g : Int → Int) (sp dp n : Int) : Int → Int := fun k => if dp ≤ k ∧ k < dp + n then f (sp + (k - dp)) else g k
def iAnd (x y : Int) : Int := (Int32.ofInt x &&& Int32.ofInt y).toInt
def iOr (x y : Int) : Int := (Int32.ofInt x ||| Int32.ofInt y).toInt
/-- numbers of two ints -/
def bin2 (i : Instr) (x y : Int) : Option Int := match i with
  | .iadd => some (x + y)
  | .isub => some (x - y)
  | .imul => some (x * y)
  | .iand => some (iAnd x y)
  | .ior => some (iOr x y)
  | .idiv => if 0 ≤ x ∧ x < 2147483648 ∧ 0 < y ∧ y < 2147483648 then some (x / y) else none
  | .irem => if 0 ≤ x ∧ x < 2147483648 ∧ 0 < y ∧ y < 2147483648 then some (x % y) else none
  | .ishl => if 0 ≤ y ∧ y < 32 then some (x * 2 ^ y.toNat) else none
  | .ishr => if 0 ≤ y ∧ y < 32 then some (x.bmod 4294967296 / 2 ^ y.toNat) else none
  | .iushr => if 0 ≤ y ∧ y < 32 then some (x % 4294967296 / 2 ^ y.toNat) else none
  | _ => none
/-- numbers of one int -/
def un1 (i : Instr) (x : Int) : Option Int := match i with
  | .ineg => some (-x)
  | .i2b => some (x.bmod 256)
  | .i2s => some (x.bmod 65536)
  | _ => none
/-- a comparison holds -/
def cmpB (c : ClassFile.Cond) (x y : Int) : Bool := match c with
  | .eq => decide (x = y)
  | .ne => decide (x ≠ y)
  | .lt => decide (x < y)
  | .ge => decide (y ≤ x)
  | .gt => decide (y < x)
  | .le => decide (x ≤ y)
def isLg : Option AV → Bool
  | some (.inr (.inl _)) => true
  | _ => false
def clr (L : LVs) : Nat → LVs
  | 0 => L
  | j + 1 => match isLg (L.getD j none) with
    | true => L.set j none
    | false => L
def st1 (L : LVs) (i : Nat) (v : AV) : LVs := (clr L i).set i (some v)
def st2 (L : LVs) (i : Nat) (v : AV) : LVs := ((clr L i).set (i + 1) none).set i (some v)
def ldI (L : LVs) (i : Nat) : Option Int := match L.getD i none with
  | some (.inl x) => some x
  | _ => none
def ldJ (L : LVs) (i : Nat) : Option Int := match L.getD i none with
  | some (.inr (.inl x)) => some x
  | _ => none
def ldR (L : LVs) (i : Nat) : Option Nat := match L.getD i none with
  | some (.inr (.inr x)) => some x
  | _ => none
def catA : AV → Nat
  | .inr (.inl _) => 2
  | _ => 1
def catS (S : List AV) : Nat := (S.map catA).sum
def jmp (pc : Nat) (off : Int) : Nat := ((pc : Int) + off).toNat
def tswT (pc : Nat) (d lo hi : Int) (os : Array Int) (x : Int) : Option Nat :=
  if x < lo ∨ hi < x then some (jmp pc d) else (os[(x - lo).toNat]?).map (jmp pc)
def lswT (pc : Nat) (d : Int) (ps : Array (Int × Int)) (x : Int) : Nat := jmp pc (Op.lookupswitch.offset ps.toList d x)
