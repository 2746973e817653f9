/-! ===== THE ABSTRACT MACHINE: predicate transformers over Int-valued cells; its soundness over W stands in the next part ===== -/
abbrev AV : Type := Int ⊕ (Int ⊕ Option Nat)
abbrev AH : Type := (Nat → Int → Int) × ((Nat → Int → Int) × (Nat → Int → Option Nat))
abbrev LL : Type := List (Option AV)
abbrev RI : Type := Instr × List Nat
abbrev AK : Type := Option AV → AH → Prop
abbrev AJ : Type := Nat → LL → List AV → AH → Prop
abbrev AT : Type := Nat → List AV → AH → AK → Prop
abbrev ABlk : Type := Nat × (List Bool × List RI)
abbrev vI (z : Int) : AV := Sum.inl z
abbrev vL (z : Int) : AV := Sum.inr (Sum.inl z)
abbrev vR (k : Nat) : AV := Sum.inr (Sum.inr (some k))
def inI (z : Int) : Prop := -2147483648 ≤ z ∧ z ≤ 2147483647
def inL (z : Int) : Prop := -9223372036854775808 ≤ z ∧ z ≤ 9223372036854775807
def upI (h : AH) (k : Nat) (j z : Int) : AH := (fun k' j' => if k' = k ∧ j' = j then z else h.1 k' j', h.2)
def upL (h : AH) (k : Nat) (j z : Int) : AH := (h.1, fun k' j' => if k' = k ∧ j' = j then z else h.2.1 k' j', h.2.2)
def upR (h : AH) (k : Nat) (j : Int) (r : Option Nat) : AH := (h.1, h.2.1, fun k' j' => if k' = k ∧ j' = j then r else h.2.2 k' j')
/-- System.arraycopy of ints -/
def cpI (h : AH) (a : Nat) (sp : Int) (b : Nat) (dp n : Int) : AH := (fun k' j' => if k' = b ∧ dp ≤ j' ∧ j' < dp + n then h.1 a (sp + (j' - dp)) else h.1 k' j', h.2)
def lcz (z y : Int) : Int := if z < y then -1 else if z = y then 0 else 1
def cmpP (c : ClassFile.Cond) (z y : Int) : Prop := match c with
  | .eq => z = y
  | .ne => ¬ z = y
  | .lt => z < y
  | .ge => y ≤ z
  | .gt => y < z
  | .le => z ≤ y
def isLg : Option AV → Bool
  | some (.inr (.inl _)) => true
  | _ => false
def setL : LL → Nat → AV → LL
  | [], _, _ => []
  | _ :: L, 0, v => some v :: L
  | x :: L, 1, v => (if isLg x = true then none else x) :: setL L 0 v
  | x :: L, n + 2, v => x :: setL L (n + 1) v
def setL2 : LL → Nat → AV → LL
  | [], _, _ => []
  | _ :: _ :: L, 0, v => some v :: none :: L
  | _ :: L, 0, v => some v :: L
  | x :: L, 1, v => (if isLg x = true then none else x) :: setL2 L 0 v
  | x :: L, n + 2, v => x :: setL2 L (n + 1) v
def entL : List AV → LL
  | [] => []
  | .inr (.inl z) :: vs => some (.inr (.inl z)) :: none :: entL vs
  | v :: vs => some v :: entL vs
def maskL : List Bool → LL → LL
  | [], _ => []
  | _ :: bs, [] => none :: maskL bs []
  | b :: bs, x :: L => (if b = true then x else none) :: maskL bs L
def popA : Nat → List AV → List AV → Option (List AV × List AV)
  | 0, acc, st => some (acc, st)
  | _ + 1, _, [] => none
  | n + 1, acc, v :: st => popA n (v :: acc) st
def catA : AV → Nat
  | .inr (.inl _) => 2
  | _ => 1
def catS : List AV → Nat
  | [] => 0
  | v :: st => catA v + catS st
def ldA (kd : Nat) (L : LL) (i : Nat) (k : AV → Prop) : Prop := match kd, L[i]? with
  | 0, some (some (.inl z)) => k (.inl z)
  | 1, some (some (.inr (.inl z))) => k (.inr (.inl z))
  | 2, some (some (.inr (.inr (some a)))) => k (.inr (.inr (some a)))
  | _, _ => False
def swA (z : Int) (J : Nat → Prop) : Int → List Nat → Prop
  | _, [] => True
  | lo, t :: ts => (z = lo → J t) ∧ swA z J (lo + 1) ts
def lkA (z : Int) (J : Nat → Prop) (d : Nat) : List (Int × Int) → List Nat → Prop
  | [], _ => J d
  | _, [] => False
  | (a, _) :: ps, t :: ts => (z = a → J t) ∧ (¬ z = a → lkA z J d ps ts)
def pushO : Option AV → List AV → List AV
  | some v, st => v :: st
  | none, st => st
def strS : List (List Int) := [[100, 68, 59], [100, 100, 100, 100, 100, 100, 59], [100, 68, 44, 100, 100, 59], [100, 100, 100, 59], [59], []]
/-- what each cell is: 0 .. 6 an object of that class, 10 ints, 11 longs, 12 booleans (how many); 13 a constant's bytes, 14 the script, 20 a constant; the reference's cells behind its object (38) -/
def shM : List (Nat × Nat) := [(10, 4), (10, 4), (10, 4), (10, 4), (10, 4), (10, 4), (10, 7), (10, 35), (10, 35), (10, 96), (10, 49), (10, 49), (10, 196), (10, 8), (10, 8), (10, 8), (11, 61), (11, 61), (12, 14884), (10, 21), (10, 397), (10, 397), (10, 4), (12, 28561), (10, 7442), (10, 12)]
def shT : List (Nat × Nat) := [(5, 0),
  (0, 0), (10, 4), (10, 4), (10, 4), (10, 4), (10, 4), (10, 4), (10, 4),
  (0, 0), (10, 4), (10, 4), (10, 4), (10, 4), (10, 4), (10, 4), (10, 4),
  (0, 0), (10, 4), (10, 4), (10, 4), (10, 4), (10, 4), (10, 4), (10, 4),
  (2, 0), (10, 96), (3, 0), (10, 8), (10, 8), (10, 8), (10, 12), (10, 7), (1, 0), (10, 1708), (4, 0), (11, 61), (10, 397),
  (6, 0)] ++ shM
def shA (k : Nat) : Nat × Nat := if k < 100 then (shT[k]?).getD (99, 0) else if 200 ≤ k ∧ k < 206 then (20, 0) else if 220 ≤ k ∧ k < 226 then (13, (strS.getD (k - 220) []).length) else if k = 300 then (14, 0) else (99, 0)
def exS (sc : Int → Int) (sl : Int) (T : AT) (J : AJ) (K : AK) (i : Instr) (x : List Nat) (L : LL) (st : List AV) (h : AH) (k : LL → List AV → AH → Prop) : Prop :=
  match i with
  | .nop => match x with
    | t :: _ => J t L st h
    | [] => False
  | .iconst n => k L (.inl n :: st) h
  | .bipush n => k L (.inl n :: st) h
  | .sipush n => k L (.inl n :: st) h
  | .lconst n => k L (.inr (.inl (n.val : Int)) :: st) h
  | .ldc _ => match x with
    | 0 :: a :: b :: _ => k L (.inl ((a : Int) - (b : Int)) :: st) h
    | [1, q] => k L (.inr (.inr (some (200 + q))) :: st) h
    | _ => False
  | .ldc_w _ => match x with
    | 0 :: a :: b :: _ => k L (.inl ((a : Int) - (b : Int)) :: st) h
    | _ => False
  | .ldc2_w _ => match x with
    | a :: b :: _ => k L (.inr (.inl ((a : Int) - (b : Int))) :: st) h
    | _ => False
  | .iload_n n => ldA 0 L n.val (fun v => k L (v :: st) h)
  | .iload n => ldA 0 L n (fun v => k L (v :: st) h)
  | .lload_n n => ldA 1 L n.val (fun v => k L (v :: st) h)
  | .lload n => ldA 1 L n (fun v => k L (v :: st) h)
  | .aload_n n => ldA 2 L n.val (fun v => k L (v :: st) h)
  | .aload n => ldA 2 L n (fun v => k L (v :: st) h)
  | .istore_n n => match st with
    | .inl z :: st => k (setL L n.val (.inl z)) st h
    | _ => False
  | .istore n => match st with
    | .inl z :: st => k (setL L n (.inl z)) st h
    | _ => False
  | .lstore_n n => match st with
    | .inr (.inl z) :: st => k (setL2 L n.val (.inr (.inl z))) st h
    | _ => False
  | .lstore n => match st with
    | .inr (.inl z) :: st => k (setL2 L n (.inr (.inl z))) st h
    | _ => False
  | .astore_n n => match st with
    | .inr (.inr (some a)) :: st => k (setL L n.val (.inr (.inr (some a)))) st h
    | _ => False
  | .astore n => match st with
    | .inr (.inr (some a)) :: st => k (setL L n (.inr (.inr (some a)))) st h
    | _ => False
  | .iinc n c => ldA 0 L n (fun v => match v with
    | .inl z => inI (z + c) ∧ k (setL L n (.inl (z + c))) st h
    | _ => False)
  | .iadd => match st with
    | .inl y :: .inl z :: st => match x with
      | [] => inI (z + y) ∧ k L (.inl (z + y) :: st) h
      | _ => k L (.inl (Int.bmod (z + y) 4294967296) :: st) h
    | _ => False
  | .isub => match st with
    | .inl y :: .inl z :: st => inI (z - y) ∧ k L (.inl (z - y) :: st) h
    | _ => False
  | .imul => match st with
    | .inl y :: .inl z :: st => match x with
      | [] => inI (z * y) ∧ k L (.inl (z * y) :: st) h
      | _ => k L (.inl (Int.bmod (z * y) 4294967296) :: st) h
    | _ => False
  | .idiv => match st with
    | .inl y :: .inl z :: st => 0 ≤ z ∧ 0 < y ∧ k L (.inl (z / y) :: st) h
    | _ => False
  | .irem => match st with
    | .inl y :: .inl z :: st => 0 ≤ z ∧ 0 < y ∧ k L (.inl (z % y) :: st) h
    | _ => False
  | .ineg => match st with
    | .inl z :: st => inI (-z) ∧ k L (.inl (-z) :: st) h
    | _ => False
  | .iand => match st with
    | .inl y :: .inl z :: st => match x with
      | [] => 0 ≤ z ∧ 0 ≤ y ∧ k L (.inl ((z.toNat &&& y.toNat : Nat) : Int) :: st) h
      | [2] => y = 63 ∧ k L (.inl (z % 64) :: st) h
      | _ => y = 2147483647 ∧ k L (.inl (z % 2147483648) :: st) h
    | _ => False
  | .ior => match st with
    | .inl y :: .inl z :: st => 0 ≤ z ∧ 0 ≤ y ∧ k L (.inl ((z.toNat ||| y.toNat : Nat) : Int) :: st) h
    | _ => False
  | .ixor => match st with
    | .inl y :: .inl z :: st => 0 ≤ z ∧ 0 ≤ y ∧ k L (.inl ((z.toNat ^^^ y.toNat : Nat) : Int) :: st) h
    | _ => False
  | .ishl => match st with
    | .inl y :: .inl z :: st => 0 ≤ z ∧ 0 ≤ y ∧ y < 31 ∧ inI (z * 2 ^ y.toNat) ∧ k L (.inl (z * 2 ^ y.toNat) :: st) h
    | _ => False
  | .ishr => match st with
    | .inl y :: .inl z :: st => 0 ≤ z ∧ 0 ≤ y ∧ y < 31 ∧ k L (.inl (z / 2 ^ y.toNat) :: st) h
    | _ => False
  | .iushr => match st with
    | .inl y :: .inl z :: st => 0 ≤ z ∧ 0 ≤ y ∧ y < 31 ∧ k L (.inl (z / 2 ^ y.toNat) :: st) h
    | _ => False
  | .lshl => match st with
    | .inl y :: .inr (.inl z) :: st => 0 ≤ z ∧ 0 ≤ y ∧ y < 63 ∧ inL (z * 2 ^ y.toNat) ∧ k L (.inr (.inl (z * 2 ^ y.toNat)) :: st) h
    | _ => False
  | .ladd => match st with
    | .inr (.inl y) :: .inr (.inl z) :: st => inL (z + y) ∧ k L (.inr (.inl (z + y)) :: st) h
    | _ => False
  | .lsub => match st with
    | .inr (.inl y) :: .inr (.inl z) :: st => inL (z - y) ∧ k L (.inr (.inl (z - y)) :: st) h
    | _ => False
  | .lmul => match st with
    | .inr (.inl y) :: .inr (.inl z) :: st => inL (z * y) ∧ k L (.inr (.inl (z * y)) :: st) h
    | _ => False
  | .ldiv => match st with
    | .inr (.inl y) :: .inr (.inl z) :: st => 0 ≤ z ∧ 0 < y ∧ k L (.inr (.inl (z / y)) :: st) h
    | _ => False
  | .lrem => match st with
    | .inr (.inl y) :: .inr (.inl z) :: st => 0 ≤ z ∧ 0 < y ∧ k L (.inr (.inl (z % y)) :: st) h
    | _ => False
  | .lcmp => match st with
    | .inr (.inl y) :: .inr (.inl z) :: st => k L (.inl (lcz z y) :: st) h
    | _ => False
  | .i2l => match st with
    | .inl z :: st => k L (.inr (.inl z) :: st) h
    | _ => False
  | .l2i => match st with
    | .inr (.inl z) :: st => inI z ∧ k L (.inl z :: st) h
    | _ => False
  | .i2c => match st with
    | .inl z :: st => 0 ≤ z ∧ z < 65536 ∧ k L (.inl z :: st) h
    | _ => False
  | .pop => match st with
    | v :: st => catA v = 1 ∧ k L st h
    | _ => False
  | .dup => match st with
    | v :: st => catA v = 1 ∧ k L (v :: v :: st) h
    | _ => False
  | .dup2 => match st with
    | v :: w :: st => catA v = 1 ∧ catA w = 1 ∧ k L (v :: w :: v :: w :: st) h
    | _ => False
  | .dup_x1 => match st with
    | v :: w :: st => catA v = 1 ∧ catA w = 1 ∧ k L (v :: w :: v :: st) h
    | _ => False
  | .if_icmp c _ => match x, st with
    | t :: _, .inl y :: .inl z :: st => (cmpP c z y → J t L st h) ∧ (¬ cmpP c z y → k L st h)
    | _, _ => False
  | .ifCond c _ => match x, st with
    | t :: _, .inl z :: st => (cmpP c z 0 → J t L st h) ∧ (¬ cmpP c z 0 → k L st h)
    | _, _ => False
  | .goto _ => match x with
    | t :: _ => J t L st h
    | _ => False
  | .tableswitch _ lo hi _ => match x, st with
    | d :: ts, .inl z :: st => (z < lo ∨ hi < z → J d L st h) ∧ swA z (fun t => J t L st h) lo ts
    | _, _ => False
  | .lookupswitch _ ps => match x, st with
    | d :: ts, .inl z :: st => lkA z (fun t => J t L st h) d ps.toList ts
    | _, _ => False
  | .getstatic _ => match x with
    | 0 :: _ => k L (.inl 1 :: st) h
    | 1 :: _ => k L (.inr (.inr (some 240)) :: st) h ∧ k L (.inr (.inr none) :: st) h
    | _ => False
  | .getfield _ => match x, st with
    | 0 :: c :: j :: _, .inr (.inr (some a)) :: st => (shA a).1 = c ∧ k L (.inl (h.1 a (j : Int)) :: st) h
    | 1 :: c :: _ :: o :: _, .inr (.inr (some a)) :: st => (shA a).1 = c ∧ k L (.inr (.inr (some (a + o))) :: st) h
    | 2 :: c :: j :: _, .inr (.inr (some a)) :: st => (shA a).1 = c ∧ ∃ b, h.2.2 a (j : Int) = some b ∧ k L (.inr (.inr (some b)) :: st) h
    | 3 :: _, .inr (.inr (some a)) :: st => (shA a).1 = 20 ∧ k L (.inl 0 :: st) h
    | _, _ => False
  | .putfield _ => match x, st with
    | 0 :: c :: j :: _, .inl z :: .inr (.inr (some a)) :: st => (shA a).1 = c ∧ k L st (upI h a (j : Int) z)
    | 2 :: c :: j :: _, .inr (.inr (some b)) :: .inr (.inr (some a)) :: st => (shA a).1 = c ∧ (shA b).1 = 10 ∧ k L st (upR h a (j : Int) (some b))
    | 3 :: c :: j :: _, .inl z :: .inr (.inr (some a)) :: st => (shA a).1 = c ∧ (z = 0 ∨ z = 1) ∧ k L st (upI h a (j : Int) z)
    | _, _ => False
  | .iaload => match x, st with
    | [], .inl i :: .inr (.inr (some a)) :: st => (shA a).1 = 10 ∧ 0 ≤ i ∧ i < ((shA a).2 : Int) ∧ k L (.inl (h.1 a i) :: st) h
    | _, .inl i :: .inr (.inr (some a)) :: st => (shA a).1 = 14 ∧ 0 ≤ i ∧ i < sl ∧ k L (.inl (sc i) :: st) h
    | _, _ => False
  | .iastore => match st with
    | .inl z :: .inl i :: .inr (.inr (some a)) :: st => (shA a).1 = 10 ∧ 0 ≤ i ∧ i < ((shA a).2 : Int) ∧ k L st (upI h a i z)
    | _ => False
  | .laload => match st with
    | .inl i :: .inr (.inr (some a)) :: st => (shA a).1 = 11 ∧ 0 ≤ i ∧ i < ((shA a).2 : Int) ∧ k L (.inr (.inl (h.2.1 a i)) :: st) h
    | _ => False
  | .lastore => match st with
    | .inr (.inl z) :: .inl i :: .inr (.inr (some a)) :: st => (shA a).1 = 11 ∧ 0 ≤ i ∧ i < ((shA a).2 : Int) ∧ k L st (upL h a i z)
    | _ => False
  | .baload => match x, st with
    | [], .inl i :: .inr (.inr (some a)) :: st => (shA a).1 = 12 ∧ 0 ≤ i ∧ i < ((shA a).2 : Int) ∧ k L (.inl (h.1 a i) :: st) h
    | _, .inl i :: .inr (.inr (some a)) :: st => (shA a).1 = 13 ∧ 0 ≤ i ∧ i < ((shA a).2 : Int) ∧ k L (.inl ((strS.getD (a - 220) []).getD i.toNat 0) :: st) h
    | _, _ => False
  | .bastore => match st with
    | .inl z :: .inl i :: .inr (.inr (some a)) :: st => (shA a).1 = 12 ∧ 0 ≤ i ∧ i < ((shA a).2 : Int) ∧ (z = 0 ∨ z = 1) ∧ k L st (upI h a i z)
    | _ => False
  | .arraylength => match x, st with
    | [], .inr (.inr (some a)) :: st => (shA a).1 = 13 ∧ k L (.inl ((shA a).2 : Int) :: st) h
    | _, .inr (.inr (some a)) :: st => (shA a).1 = 14 ∧ k L (.inl sl :: st) h
    | _, _ => False
  | .invokestatic _ => match x, st with
    | 0 :: _ :: [], .inl y :: .inl z :: st => catS st ≤ 8 ∧ k L (.inl (max z y) :: st) h
    | 1 :: _ :: [], .inl y :: .inl z :: st => catS st ≤ 8 ∧ k L (.inl (min z y) :: st) h
    | 2 :: _ :: [], .inl n :: .inl dp :: .inr (.inr (some b)) :: .inl sp :: .inr (.inr (some a)) :: st => catS st ≤ 8 ∧ (shA a).1 = 10 ∧ (shA b).1 = 10 ∧ 0 ≤ n ∧ 0 ≤ sp ∧ sp + n ≤ ((shA a).2 : Int) ∧ 0 ≤ dp ∧ dp + n ≤ ((shA b).2 : Int) ∧ k L st (cpI h a sp b dp n)
    | id :: n :: _ :: _, st => match popA n [] st with
      | some (as, st) => catS st ≤ 8 ∧ T id as h (fun r h' => k L (pushO r st) h')
      | none => False
    | _, _ => False
  | .invokevirtual _ => match x with
    | id :: n :: _ => match popA n [] st with
      | some (as, st) => catS st ≤ 8 ∧ T id as h (fun r h' => k L (pushO r st) h')
      | none => False
    | _ => False
  | .ireturn => match x, st with
    | [], .inl z :: [] => K (some (.inl z)) h
    | [1], .inl z :: [] => (z = 0 ∨ z = 1) ∧ K (some (.inl z)) h
    | [2], .inl z :: [] => (0 ≤ z ∧ z < 65536) ∧ K (some (.inl z)) h
    | [3], .inl z :: [] => z = 0 ∧ K (some (.inl z)) h
    | _, _ => False
  | .lreturn => match st with
    | .inr (.inl z) :: [] => K (some (.inr (.inl z))) h
    | _ => False
  | .areturn => match st with
    | .inr (.inr (some a)) :: [] => K (some (.inr (.inr (some a)))) h
    | _ => False
  | .return_ => match st with
    | [] => K none h
    | _ => False
  | _ => False
def ex (sc : Int → Int) (sl : Int) (T : AT) (J : AJ) (K : AK) : List RI → LL → List AV → AH → Prop
  | [], _, _, _ => False
  | r :: is, L, st, h => exS sc sl T J K r.1 r.2 L st h (fun L st h => ex sc sl T J K is L st h)
/-- from a block on: the least predicate closed under running a block -/
def Bx (sc : Int → Int) (sl : Int) (T : AT) (bs : List ABlk) (K : AK) (b : Nat) (L : LL) (st : List AV) (h : AH) : Prop :=
  ∀ P : AJ, (∀ (b : Nat) (q : ABlk) (L : LL) (st : List AV) (h : AH), bs[b]? = some q → ex sc sl T P K q.2.2 (maskL q.2.1 L) st h → P b L st h) → P b L st h
