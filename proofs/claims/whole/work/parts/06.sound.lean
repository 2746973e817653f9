/-! ===== SOUNDNESS: what the abstract machine says of a method, the machine does ===== -/
def tb : List Cond := lw_tbl.filter goodWord
theorem tb_mem {w : Cond} {pos : Nat} (h : lw_tbl[pos]? = some w) (hg : goodWord w = true) : w ∈ tb := List.mem_filter.mpr ⟨List.mem_of_getElem? h, hg⟩
theorem tb_sub {ws : List Cond} (h : ∀ w ∈ ws, w ∈ lw_tbl) (hg : ws.all goodWord = true) : ∀ w ∈ ws, w ∈ tb := fun w hw => List.mem_filter.mpr ⟨h w hw, List.all_eq_true.mp hg w hw⟩
theorem tb_good {w : Cond} (h : w ∈ tb) : goodWord w = true := (List.mem_filter.mp h).2
def isNest : Cond → Bool
  | .methodLinkNest .. => true
  | .fieldLinkNest .. => true
  | _ => false
/-- the words between nest mates: they keep, but not as the others do -/
def tn : List Cond := lw_tbl.filter isNest
theorem tn_mem {w : Cond} {pos : Nat} (h : lw_tbl[pos]? = some w) (hg : isNest w = true) : w ∈ tn := List.mem_filter.mpr ⟨List.mem_of_getElem? h, hg⟩
abbrev MDat : Type := MethodName × (ByteArray × (Nat × (Option FieldType × (Bool × (Nat × (Nat × (List Nat × List ABlk)))))))
def mdN (q : MDat) : MethodName := q.1
def mdB (q : MDat) : ByteArray := q.2.1
def mdL (q : MDat) : Nat := q.2.2.1
def mdR (q : MDat) : Option FieldType := q.2.2.2.1
def mdS (q : MDat) : Bool := q.2.2.2.2.1
def mdP (q : MDat) : Nat := q.2.2.2.2.2.1
def mdC (q : MDat) : Nat := q.2.2.2.2.2.2.1
def mdW (q : MDat) : List Nat := q.2.2.2.2.2.2.2.1
def mdK (q : MDat) : List ABlk := q.2.2.2.2.2.2.2.2
def rcv (c : Nat) : List AV → Prop
  | .inr (.inr (some a)) :: _ => (shA a).1 = c
  | _ => False
def z0 : Int → Int := fun _ => 0
def tx (mt : List MDat) : Nat → AT
  | 0 => fun _ _ _ _ => False
  | d + 1 => fun id as h K => match mt[id]? with
    | none => False
    | some md => (mdS md = true ∨ rcv (mdC md) as) ∧ (entL as).length ≤ mdL md ∧ Bx z0 0 (tx mt d) (mdK md) K 0 (entL as) [] h
def ilen : Instr → Nat
  | .bipush _ | .ldc _ | .iload _ | .lload _ | .aload _ | .istore _ | .lstore _ | .astore _ => 2
  | .sipush _ | .ldc_w _ | .ldc2_w _ | .iinc _ _ | .if_icmp _ _ | .ifCond _ _ | .goto _ | .getstatic _ | .getfield _ | .putfield _ | .invokestatic _ | .invokevirtual _ => 3
  | _ => 1
def okW (pos : Nat) (w : Cond) : Bool := decide (lw_tbl[pos]? = some w) && goodWord w
def okN (pos : Nat) (w : Cond) : Bool := decide (lw_tbl[pos]? = some w) && isNest w
/-- a call's word -/
def okL (own : String) (idx nest pos : Nat) (y : MethodName) : Bool := if nest = 0 then okW pos (.methodLink own idx y) else okN pos (.methodLinkNest own idx y "TinkerTailor")
def fWord (own : String) (idx c j nest : Nat) : Option Cond := (vwCl[c]?).map (fun q => if nest = 0 then .fieldLink own idx (q.2.1 j).1 (q.2.1 j).2.1 (q.2.1 j).2.2.1 else .fieldLinkNest own idx (q.2.1 j).1 (q.2.1 j).2.1 (q.2.1 j).2.2.1 "TinkerTailor")
def okF (own : String) (idx c j nest pos : Nat) : Bool := match fWord own idx c j nest with
  | some w => decide (c < 7) && (decide (j < cN c) && (if nest = 0 then okW pos w else okN pos w))
  | none => false
def fTy (c j : Nat) : Option FieldType := match vwCl[c]? with
  | some q => if (q.2.1 j).2.2.2 = true then none else parseFieldDescriptor (q.2.1 j).2.2.1
  | none => none
def okT (bs : List ABlk) (t : Nat) (pc : Int) : Bool := match bs[t]? with
  | some q => decide ((q.1 : Int) = pc)
  | none => false
def okTs (bs : List ABlk) (pc : Int) : List Nat → List Int → Bool
  | [], [] => true
  | t :: ts, o :: os => okT bs t (pc + o) && okTs bs pc ts os
  | _, _ => false
def strT : List String := ["dD;", "dddddd;", "dD,dd;", "ddd;", ";", ""]
def okI (mt : List MDat) (lawq : Bool) (nL : Nat) (own : String) (bs : List ABlk) (rt : Option FieldType) (pc : Nat) (i : Instr) (x : List Nat) : Bool := match i with
  | .nop => match x with
    | t :: _ => okT bs t pc
    | [] => false
  | .iconst n => decide (-1 ≤ n) && decide (n ≤ 5)
  | .bipush n => decide (-128 ≤ n) && decide (n < 128)
  | .sipush n => decide (-32768 ≤ n) && decide (n < 32768)
  | .ldc idx => match x with
    | 0 :: a :: b :: pos :: _ => decide (a < 2147483648) && (decide (b ≤ 2147483648) && okW pos (.constant own idx (Int32.ofInt ((a : Int) - (b : Int)))))
    | [1, q] => decide (own = RX2) && (decide (q < 6) && decide (idx = 23 + 2 * q))
    | _ => false
  | .ldc_w idx => match x with
    | 0 :: a :: b :: pos :: _ => decide (a < 2147483648) && (decide (b ≤ 2147483648) && okW pos (.constant own idx (Int32.ofInt ((a : Int) - (b : Int)))))
    | _ => false
  | .ldc2_w idx => match x with
    | a :: b :: pos :: _ => decide (a < 9223372036854775808) && (decide (b ≤ 9223372036854775808) && okW pos (.constantLong own idx (Int64.ofInt ((a : Int) - (b : Int)))))
    | _ => false
  | .if_icmp _ off => match x with
    | t :: _ => okT bs t ((pc : Int) + off)
    | _ => false
  | .ifCond _ off => match x with
    | t :: _ => okT bs t ((pc : Int) + off)
    | _ => false
  | .goto off => match x with
    | t :: _ => okT bs t ((pc : Int) + off)
    | _ => false
  | .tableswitch d lo hi offs => match x with
    | t :: ts => okT bs t ((pc : Int) + d) && (okTs bs pc ts offs.toList && decide (hi = lo + (offs.toList.length : Int) - 1))
    | _ => false
  | .lookupswitch d ps => match x with
    | t :: ts => okT bs t ((pc : Int) + d) && (okTs bs pc ts (ps.toList.map (fun q => q.2)) && ((ps.toList.zip (ps.toList.drop 1)).all (fun (a, next) => decide (a.1 < next.1)) && ps.toList.all (fun q => decide (-2147483648 ≤ q.1) && decide (q.1 ≤ 2147483647))))
    | _ => false
  | .getstatic idx => match x with
    | 0 :: pos :: _ => okW pos (.fieldLink own idx "java/lang/String" "COMPACT_STRINGS" "Z")
    | 1 :: pos :: _ => okW pos (.fieldLink own idx "jdk/internal/util/Preconditions" "SIOOBE_FORMATTER" "Ljava/util/function/BiFunction;")
    | _ => false
  | .getfield idx => match x with
    | 0 :: c :: j :: nest :: pos :: _ => okF own idx c j nest pos && decide ((fdK c j).1 = 0)
    | 1 :: c :: j :: o :: nest :: pos :: _ => if c = 20 then decide (o = 20) && okW pos (.fieldLink own idx "java/lang/String" "value" "[B") else okF own idx c j nest pos && decide (fdK c j = (1, o))
    | 2 :: c :: j :: nest :: pos :: _ => okF own idx c j nest pos && decide ((fdK c j).1 = 2)
    | 3 :: pos :: _ => okW pos (.fieldLink own idx "java/lang/String" "coder" "B")
    | _ => false
  | .putfield idx => match x with
    | 0 :: c :: j :: nest :: pos :: _ => okF own idx c j nest pos && (decide ((fdK c j).1 = 0) && decide (fTy c j = some .int))
    | 2 :: c :: j :: nest :: pos :: _ => okF own idx c j nest pos && (decide ((fdK c j).1 = 2) && decide (fTy c j = some (.array .int)))
    | 3 :: c :: j :: nest :: pos :: _ => okF own idx c j nest pos && (decide ((fdK c j).1 = 0) && decide (fTy c j = some .boolean))
    | _ => false
  | .istore_n n => decide (n.val < nL)
  | .istore n => decide (n < nL)
  | .astore_n n => decide (n.val < nL)
  | .astore n => decide (n < nL)
  | .lstore_n n => decide (n.val + 1 < nL)
  | .lstore n => decide (n + 1 < nL)
  | .iinc n _ => decide (n < nL)
  | .iaload => decide (x = []) || lawq
  | .arraylength => decide (x = []) || lawq
  | .invokestatic idx => match x with
    | 0 :: pos :: [] => okW pos (.methodLink own idx Lib.Math.max.name)
    | 1 :: pos :: [] => okW pos (.methodLink own idx Lib.Math.min.name)
    | 2 :: pos :: [] => okW pos (.methodLink own idx arraycopyName)
    | id :: n :: nest :: pos :: _ => match mt[id]? with
      | some md => mdS md && (decide (n = mdP md) && okL own idx nest pos (mdN md))
      | none => false
    | _ => false
  | .invokevirtual idx => match x with
    | id :: n :: nest :: pos :: _ => match mt[id]? with
      | some md => !mdS md && (decide (n = mdP md + 1) && okL own idx nest pos (mdN md))
      | none => false
    | _ => false
  | .ireturn => match x with
    | [] => decide (rt = some .int)
    | [1] => decide (rt = some .boolean)
    | [2] => decide (rt = some .char)
    | [3] => decide (rt = some .byte)
    | _ => false
  | .lreturn => decide (rt = some .long)
  | .areturn => match rt with
    | some (.object _) => true
    | _ => false
  | .return_ => decide (rt = none)
  | _ => true
def okD (cc : ByteArray) (pc : Nat) (i : Instr) : Bool := match i with
  | .nop => true
  | .tableswitch .. => match decode cc pc with
    | .ok (i', _) => decide (i' = i)
    | _ => false
  | .lookupswitch .. => match decode cc pc with
    | .ok (i', _) => decide (i' = i)
    | _ => false
  | _ => match decode cc pc with
    | .ok (i', n) => decide (i' = i) && decide (n = ilen i)
    | _ => false
def okB (mt : List MDat) (lawq : Bool) (nL : Nat) (own : String) (cc : ByteArray) (bs : List ABlk) (rt : Option FieldType) : Nat → List RI → Bool
  | _, [] => true
  | pc, r :: is => okD cc pc r.1 && (okI mt lawq nL own bs rt pc r.1 r.2 && okB mt lawq nL own cc bs rt (pc + ilen r.1) is)
def okM (mt : List MDat) (q : MDat) : Bool :=
  (match mdW q with
    | a :: b :: c :: d :: _ => okW a (.code (mdN q) (mdB q) (mdL q) (mdR q)) && (okW b (if mdS q = true then .static (mdN q) else .instanceMethod (mdN q)) && (okW d (.initialized (mdN q).cls) && (mdS q || okW c (.selects (mdN q).cls (mdN q) (mdN q)))))
    | _ => false) &&
  (decide ((mdN q).cls ≠ "java/lang/invoke/MethodHandle") && (decide ((mdN q).cls ≠ "java/lang/invoke/VarHandle") && (decide ((parseMethodDescriptor (mdN q).desc).map (fun d => d.parameters.length) = some (mdP q)) &&
  (plainName (mdN q).cls && (decide (mdL q ≤ 45) && ((match (mdK q)[0]? with | some b => decide (b.1 = 0) | none => false) &&
  ((mdS q || (if mdC q = 20 then decide ((mdN q).cls = "java/lang/String") else (match vwCl[mdC q]? with | some v => decide (v.1 = (mdN q).cls) && decide (mdC q < 7) | none => false))) &&
  (mdK q).all (fun b => okB mt false (mdL q) (mdN q).cls (mdB q) (mdK q) (mdR q) b.1 b.2.2))))))))
