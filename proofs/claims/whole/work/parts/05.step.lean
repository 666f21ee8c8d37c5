/-! the abstract machine: one instruction, a run -/
def shp (i : Nat) : Option SHP := SH[i]?
/-- an int-like array of kind t -/
def arrN (t c : Nat) : Option Nat := match shp c with
  | some (.inl (u, n)) => if u = t then some n else none
  | _ => none
/-- byte or boolean -/
def arrB (c : Nat) : Option (Nat × Nat) := match shp c with
  | some (.inl (u, n)) => if u = 1 ∨ u = 2 then some (u, n) else none
  | _ => none
def refA (c : Nat) : Option (List Nat) := match shp c with
  | some (.inr (.inl (_, ts))) => some ts
  | _ => none
/-- slot k of an object of class ci: a cell, or an int -/
def fldA (c ci k : Nat) : Option (Option Nat) := match shp c with
  | some (.inr (.inr (u, fs))) => if u = ci then fs[k]? else none
  | _ => none
def clsA (c : Nat) : Option Nat := match shp c with
  | some (.inr (.inr (u, _))) => some u
  | _ => none
/-- the library's own methods -/
def prm (k : Nat) (nx : Nat) (L : LVs) (S : List AV) (M : Mem) : RS := match k with
  | 0 => match S with
    | .inl y :: .inl x :: r => if inR x ∧ inR y ∧ catS r ≤ 8 then some (.inl (nx, L, .inl (if x < y then y else x) :: r, M)) else none
    | _ => none
  | 1 => match S with
    | .inl y :: .inl x :: r => if inR x ∧ inR y ∧ catS r ≤ 8 then some (.inl (nx, L, .inl (if y < x then y else x) :: r, M)) else none
    | _ => none
  | 2 => match S with
    | .inl n :: .inl dp :: .inr (.inr c) :: .inl sp :: .inr (.inr d) :: r => match arrN 0 c, arrN 0 d with
      | some nc, some nd => if 0 ≤ n ∧ 0 ≤ dp ∧ 0 ≤ sp ∧ sp + n ≤ nd ∧ dp + n ≤ nc ∧ (nc < 2147483648 ∧ nd < 2147483648) ∧ catS r ≤ 8 then some (.inl (nx, L, r, setC M c (cpI (M d) (M c) sp dp n))) else none
      | _, _ => none
    | _ => none
  | 3 => match S with
    | .inr (.inr i) :: r => match STT[i - 100]? with
      | some t => if 100 ≤ i ∧ catS r ≤ 8 then some (.inl (nx, L, .inl t.length :: r, M)) else none
      | none => none
    | _ => none
  | 4 => match S with
    | .inl k :: .inr (.inr i) :: r => match STT[i - 100]? with
      | some t => if 100 ≤ i ∧ 0 ≤ k ∧ k < t.length ∧ catS r ≤ 8 then some (.inl (nx, L, .inl (t.getD k.toNat 0) :: r, M)) else none
      | none => none
    | _ => none
  | _ => none
def stp (e : EN) (st : AS) : RS := match st, e with
  | (pc, L, S, M), (_, ins, nx, a, b, z) => match ins with
    | .iconst _ => some (.inl (nx, L, .inl z :: S, M))
    | .bipush _ => some (.inl (nx, L, .inl z :: S, M))
    | .sipush _ => some (.inl (nx, L, .inl z :: S, M))
    | .ldc _ => match b with
      | 0 => some (.inl (nx, L, .inl z :: S, M))
      | _ => some (.inl (nx, L, .inr (.inr a) :: S, M))
    | .ldc_w _ => some (.inl (nx, L, .inl z :: S, M))
    | .lconst _ => some (.inl (nx, L, .inr (.inl z) :: S, M))
    | .ldc2_w _ => some (.inl (nx, L, .inr (.inl z) :: S, M))
    | .iload k => (ldI L k).map fun x => .inl (nx, L, .inl x :: S, M)
    | .iload_n k => (ldI L k.val).map fun x => .inl (nx, L, .inl x :: S, M)
    | .lload k => (ldJ L k).map fun x => .inl (nx, L, .inr (.inl x) :: S, M)
    | .lload_n k => (ldJ L k.val).map fun x => .inl (nx, L, .inr (.inl x) :: S, M)
    | .aload k => (ldR L k).map fun x => .inl (nx, L, .inr (.inr x) :: S, M)
    | .aload_n k => (ldR L k.val).map fun x => .inl (nx, L, .inr (.inr x) :: S, M)
    | .istore k => match S with
      | .inl x :: r => if k < L.length then some (.inl (nx, st1 L k (.inl x), r, M)) else none
      | _ => none
    | .istore_n k => match S with
      | .inl x :: r => if k.val < L.length then some (.inl (nx, st1 L k.val (.inl x), r, M)) else none
      | _ => none
    | .lstore k => match S with
      | .inr (.inl x) :: r => if k + 1 < L.length then some (.inl (nx, st2 L k (.inr (.inl x)), r, M)) else none
      | _ => none
    | .astore k => match S with
      | .inr (.inr x) :: r => if k < L.length then some (.inl (nx, st1 L k (.inr (.inr x)), r, M)) else none
      | _ => none
    | .astore_n k => match S with
      | .inr (.inr x) :: r => if k.val < L.length then some (.inl (nx, st1 L k.val (.inr (.inr x)), r, M)) else none
      | _ => none
    | .iinc k n => if k < L.length then (ldI L k).map fun x => .inl (nx, st1 L k (.inl (x + n)), S, M) else none
    | .dup => match S with
      | v :: r => if catA v = 1 then some (.inl (nx, L, v :: v :: r, M)) else none
      | _ => none
    | .dup2 => match S with
      | v :: w :: r => if catA v = 1 ∧ catA w = 1 then some (.inl (nx, L, v :: w :: v :: w :: r, M)) else none
      | _ => none
    | .pop => match S with
      | v :: r => if catA v = 1 then some (.inl (nx, L, r, M)) else none
      | _ => none
    | .i2l => match S with
      | .inl x :: r => if inR x then some (.inl (nx, L, .inr (.inl x) :: r, M)) else none
      | _ => none
    | .ladd => match S with
      | .inr (.inl y) :: .inr (.inl x) :: r => some (.inl (nx, L, .inr (.inl (x + y)) :: r, M))
      | _ => none
    | .lcmp => match S with
      | .inr (.inl y) :: .inr (.inl x) :: r => if inR64 x ∧ inR64 y then some (.inl (nx, L, .inl (if y < x then 1 else if x = y then 0 else -1) :: r, M)) else none
      | _ => none
    | .goto _ => some (.inl (a, L, S, M))
    | .ifCond c _ => match S with
      | .inl x :: r => if inR x then some (.inl (if cmpB c x 0 then a else nx, L, r, M)) else none
      | _ => none
    | .if_icmp c _ => match S with
      | .inl y :: .inl x :: r => if inR x ∧ inR y then some (.inl (if cmpB c x y then a else nx, L, r, M)) else none
      | _ => none
    | .tableswitch d lo hi os => match S with
      | .inl x :: r => if inR x then (tswT pc d lo hi os x).map fun t => .inl (t, L, r, M) else none
      | _ => none
    | .lookupswitch d ps => match S with
      | .inl x :: r => if inR x then some (.inl (lswT pc d ps x, L, r, M)) else none
      | _ => none
    | .arraylength => match S with
      | .inr (.inr c) :: r => match arrN 0 c with
        | some n => some (.inl (nx, L, .inl (n : Int) :: r, M))
        | none => none
      | _ => none
    | .iaload => match S with
      | .inl i :: .inr (.inr c) :: r => match arrN 0 c with
        | some n => if 0 ≤ i ∧ i < n ∧ n < 2147483648 then some (.inl (nx, L, .inl (M c i) :: r, M)) else none
        | none => none
      | _ => none
    | .baload => match S with
      | .inl i :: .inr (.inr c) :: r => match arrB c with
        | some (_, n) => if 0 ≤ i ∧ i < n ∧ n < 2147483648 then some (.inl (nx, L, .inl (M c i) :: r, M)) else none
        | none => none
      | _ => none
    | .aaload => match S with
      | .inl i :: .inr (.inr c) :: r => match refA c with
        | some ts => if 0 ≤ i ∧ i < ts.length ∧ ts.length < 2147483648 then (ts[i.toNat]?).map fun t => .inl (nx, L, .inr (.inr t) :: r, M) else none
        | none => none
      | _ => none
    | .iastore => match S with
      | .inl v :: .inl i :: .inr (.inr c) :: r => match arrN 0 c with
        | some n => if 0 ≤ i ∧ i < n ∧ n < 2147483648 then some (.inl (nx, L, r, wr M c i v)) else none
        | none => none
      | _ => none
    | .bastore => match S with
      | .inl v :: .inl i :: .inr (.inr c) :: r => match arrB c with
        | some (t, n) => if 0 ≤ i ∧ i < n ∧ n < 2147483648 ∧ (t = 1 ∧ -128 ≤ v ∧ v < 128 ∨ t = 2 ∧ (v = 0 ∨ v = 1)) then some (.inl (nx, L, r, wr M c i v)) else none
        | none => none
      | _ => none
    | .getfield _ => match S with
      | .inr (.inr c) :: r => match fldA c a b with
        | some (some t) => some (.inl (nx, L, .inr (.inr t) :: r, M))
        | some none => some (.inl (nx, L, .inl (M c (b : Int)) :: r, M))
        | none => none
      | _ => none
    | .putfield _ => match S with
      | .inl v :: .inr (.inr c) :: r => match fldA c a b with
        | some none => some (.inl (nx, L, r, wr M c (b : Int) v))
        | _ => none
      | _ => none
    | .ireturn => match S with
      | [.inl x] => if a = 0 ∨ (a = 1 ∧ (x = 0 ∨ x = 1)) then some (.inr (some (.inl x), M)) else none
      | _ => none
    | .areturn => match S with
      | [.inr (.inr x)] => some (.inr (some (.inr (.inr x)), M))
      | _ => none
    | .return_ => match S with
      | [] => some (.inr (none, M))
      | _ => none
    | .ineg => match S with
      | .inl x :: r => (un1 ins x).map fun v => .inl (nx, L, .inl v :: r, M)
      | _ => none
    | .i2b => match S with
      | .inl x :: r => (un1 ins x).map fun v => .inl (nx, L, .inl v :: r, M)
      | _ => none
    | .i2s => match S with
      | .inl x :: r => (un1 ins x).map fun v => .inl (nx, L, .inl v :: r, M)
      | _ => none
    | _ => match S with
      | .inl y :: .inl x :: r => (bin2 ins x y).map fun v => .inl (nx, L, .inl v :: r, M)
      | _ => none
/-- a call: the method, how many arguments, whether it has a receiver -/
def callOf (e : EN) : Option (Nat × Nat × Bool) := match e.2.1 with
  | .invokevirtual _ => some (e.2.2.2.1, e.2.2.2.2.1, true)
  | .invokestatic _ => some (e.2.2.2.1, e.2.2.2.2.1, false)
  | _ => none
def lay : List AV → LVs
  | [] => []
  | v :: r => match catA v with
    | 2 => some v :: none :: lay r
    | _ => some v :: lay r
def entL (as : List AV) (n : Nat) : LVs := lay as ++ List.replicate (n - (lay as).length) none
/-- what a receiver must be: an object of the method's class -/
def recvOK (o : Nat) (as : List AV) : Bool := match as with
  | .inr (.inr c) :: _ => clsA c == some o
  | _ => false
