/-! THE ABSTRACT MACHINE: values with references as (class, number), memory by class, slot and object, an interpreter with fuel -/
abbrev Av : Type := Int32 ⊕ (Int64 ⊕ Option (Nat × Nat))
abbrev Lo : Type := List (Option Av)
abbrev Sg : Type := (Nat → Nat → Nat → Int32) × (Nat → Nat → Nat → Int64) × (Nat → Nat → Nat → Option Nat) × (Nat → Nat) × (Nat → Nat → Nat) × Nat × Nat
abbrev vI (x : Int32) : Av := .inl x
abbrev vJ (x : Int64) : Av := .inr (.inl x)
abbrev vP (o : Option (Nat × Nat)) : Av := .inr (.inr o)
def gI (σ : Sg) (c k i : Nat) : Int32 := σ.1 c k i
def gJ (σ : Sg) (c k i : Nat) : Int64 := σ.2.1 c k i
def gP (σ : Sg) (c k i : Nat) : Option Nat := σ.2.2.1 c k i
def cn (σ : Sg) (c : Nat) : Nat := σ.2.2.2.1 c
def ln (σ : Sg) (c i : Nat) : Nat := σ.2.2.2.2.1 c i
def sz (σ : Sg) : Nat := σ.2.2.2.2.2.1
def sl (σ : Sg) : Nat := σ.2.2.2.2.2.2
def sI (σ : Sg) (c k i : Nat) (v : Int32) : Sg := (fun c' k' i' => if c' = c ∧ k' = k ∧ i' = i then v else σ.1 c' k' i', σ.2)
def sJ (σ : Sg) (c k i : Nat) (v : Int64) : Sg := (σ.1, fun c' k' i' => if c' = c ∧ k' = k ∧ i' = i then v else σ.2.1 c' k' i', σ.2.2)
def sP (σ : Sg) (c k i : Nat) (v : Option Nat) : Sg := (σ.1, σ.2.1, fun c' k' i' => if c' = c ∧ k' = k ∧ i' = i then v else σ.2.2.1 c' k' i', σ.2.2.2)
/-- a new cell of class c, of n elements (or fields), all 0 -/
def nw (σ : Sg) (c n : Nat) : Sg := (fun c' k' i' => if c' = c ∧ i' = cn σ c then 0 else σ.1 c' k' i', fun c' k' i' => if c' = c ∧ i' = cn σ c then 0 else σ.2.1 c' k' i', fun c' k' i' => if c' = c ∧ i' = cn σ c then none else σ.2.2.1 c' k' i', fun c' => if c' = c then cn σ c + 1 else σ.2.2.2.1 c', fun c' i' => if c' = c ∧ i' = cn σ c then n else σ.2.2.2.2.1 c' i', sz σ + 1, sl σ + n)
def kd (c k : Nat) : Nat := if c < 12 then (((KD[c]?).getD [])[k]?).getD 99 else (AK[c - 12]?).getD 99
def mk (c : Nat) (o : Option Nat) : Option (Nat × Nat) := o.map (fun j => (c, j))
def rdk (σ : Sg) (q c k i : Nat) : Av := match q with
  | 0 => .inl (gI σ c k i)
  | 1 => .inl (gI σ c k i)
  | 2 => .inr (.inl (gJ σ c k i))
  | t + 3 => .inr (.inr (mk t (gP σ c k i)))
def rd (σ : Sg) (c k i : Nat) : Av := rdk σ (kd c k) c k i
def wrk (σ : Sg) (q c k i : Nat) (v : Av) : Option Sg := match q, v with
  | 0, .inl x => some (sI σ c k i x)
  | 1, .inl x => if x = 0 ∨ x = 1 then some (sI σ c k i x) else none
  | 2, .inr (.inl x) => some (sJ σ c k i x)
  | _ + 3, .inr (.inr none) => some (sP σ c k i none)
  | t + 3, .inr (.inr (some q)) => if q.1 = t then some (sP σ c k i (some q.2)) else none
  | _, _ => none
def wr (σ : Sg) (c k i : Nat) (v : Av) : Option Sg := wrk σ (kd c k) c k i v
-- static facts of methods
abbrev mtT : Type := MethodName × ByteArray × Nat × Option FieldType × Nat × Nat × Nat
def mtG (mi : Nat) : mtT := (mt[mi]?).getD (⟨"", "", ""⟩, ⟨#[]⟩, 0, none, 0, 0, 0)
def yN (mi : Nat) : MethodName := (mtG mi).1
def bC (mi : Nat) : ByteArray := (mtG mi).2.1
def mx (mi : Nat) : Nat := (mtG mi).2.2.1
def rT (mi : Nat) : Option FieldType := (mtG mi).2.2.2.1
def ow (mi : Nat) : Nat := (mtG mi).2.2.2.2.1
def fN (mi : Nat) : Nat := (mtG mi).2.2.2.2.2.1
def lW (mi : Nat) : Nat := (mtG mi).2.2.2.2.2.2
def oN (o : Nat) : String := (oL[o]?).getD ""
def ii (mi pc : Nat) : Option (Instr × Nat) := ((iT[mi]?).getD []).lookup pc
def nP (mi : Nat) : Nat := (nPL[mi]?).getD 0
-- stack and locals
def bi (f : Int32 → Int32 → Option Int32) (st : List Av) : Option (List Av) := match st with
  | .inl y :: .inl x :: r => (f x y).map (fun z => .inl z :: r)
  | _ => none
def bj (f : Int64 → Int64 → Option Int64) (st : List Av) : Option (List Av) := match st with
  | .inr (.inl y) :: .inr (.inl x) :: r => (f x y).map (fun z => .inr (.inl z) :: r)
  | _ => none
def bs (f : Int64 → Int32 → Int64) (st : List Av) : Option (List Av) := match st with
  | .inl y :: .inr (.inl x) :: r => some (.inr (.inl (f x y)) :: r)
  | _ => none
def isJ (v : Av) : Bool := match v with
  | .inr (.inl _) => true
  | _ => false
def pu (i : Instr) (st : List Av) : Option (List Av) := match i with
  | .iconst n => some (.inl (Int32.ofInt n) :: st)
  | .bipush n => some (.inl (Int8.ofInt n).toInt32 :: st)
  | .sipush n => some (.inl (Int16.ofInt n).toInt32 :: st)
  | .lconst n => some (.inr (.inl (Int64.ofNat n.val)) :: st)
  | .aconst_null => some (.inr (.inr none) :: st)
  | .iadd => bi (fun x y => some (x + y)) st
  | .isub => bi (fun x y => some (x - y)) st
  | .imul => bi (fun x y => some (x * y)) st
  | .idiv => bi (fun x y => if y = 0 then none else some (x / y)) st
  | .irem => bi (fun x y => if y = 0 then none else some (x - x / y * y)) st
  | .iand => bi (fun x y => some (x &&& y)) st
  | .ladd => bj (fun x y => some (x + y)) st
  | .lsub => bj (fun x y => some (x - y)) st
  | .lmul => bj (fun x y => some (x * y)) st
  | .ldiv => bj (fun x y => if y = 0 then none else some (x / y)) st
  | .land => bj (fun x y => some (x &&& y)) st
  | .lor => bj (fun x y => some (x ||| y)) st
  | .lxor => bj (fun x y => some (x ^^^ y)) st
  | .lshl => bs (fun x y => x <<< (y.toInt64 &&& 63)) st
  | .lshr => bs (fun x y => x >>> (y.toInt64 &&& 63)) st
  | .lushr => bs (fun x y => (x.toUInt64 >>> (y.toInt64.toUInt64 &&& Int64.toUInt64 63)).toInt64) st
  | .lneg => (match st with
    | .inr (.inl x) :: r => some (.inr (.inl (-x)) :: r)
    | _ => none)
  | .i2l => (match st with
    | .inl x :: r => some (.inr (.inl x.toInt64) :: r)
    | _ => none)
  | .l2i => (match st with
    | .inr (.inl x) :: r => some (.inl x.toInt32 :: r)
    | _ => none)
  | .lcmp => (match st with
    | .inr (.inl y) :: .inr (.inl x) :: r => some (.inl (lg_cmp x y) :: r)
    | _ => none)
  | .dup => (match st with
    | v :: r => if isJ v then none else some (v :: v :: r)
    | _ => none)
  | .pop => (match st with
    | v :: r => if isJ v then none else some r
    | _ => none)
  | .dup2 => (match st with
    | v :: w :: r => if isJ v then some (v :: v :: w :: r) else if isJ w then none else some (v :: w :: v :: w :: r)
    | [v] => if isJ v then some [v, v] else none
    | _ => none)
  | .pop2 => (match st with
    | v :: r => if isJ v then some r else none
    | _ => none)
  | _ => none
def il (i : Instr) : Nat := match i with
  | .bipush _ | .iload _ | .lload _ | .aload _ | .istore _ | .lstore _ | .astore _ | .ldc _ | .newarray _ => 2
  | .sipush _ | .ldc2_w _ | .getfield _ | .putfield _ | .invokevirtual _ | .invokespecial _ | .invokestatic _ | .new _ | .anewarray _ | .goto _ | .if_icmp _ _ | .ifCond _ _ | .if_acmp _ _ | .ifnull _ | .ifnonnull _ | .iinc _ _ => 3
  | .tableswitch .. | .lookupswitch .. => 0
  | _ => 1
def lg (lo : Lo) (k : Nat) : Option Av := match lo[k]? with
  | some (some v) => some v
  | _ => none
def kl (o : Option Av) : Option Av := match o with
  | some (.inr (.inl _)) => none
  | x => x
/-- a store of one word -/
def s1 : Lo → Nat → Av → Option Lo
  | _ :: r, 0, v => some (some v :: r)
  | a :: _ :: r, 1, v => some (kl a :: some v :: r)
  | a :: r, n + 2, v => (s1 r (n + 1) v).map (fun x => a :: x)
  | _, _, _ => none
/-- a store of two words -/
def s2 : Lo → Nat → Av → Option Lo
  | _ :: _ :: r, 0, v => some (some v :: none :: r)
  | a :: _ :: _ :: r, 1, v => some (kl a :: some v :: none :: r)
  | a :: r, n + 2, v => (s2 r (n + 1) v).map (fun x => a :: x)
  | _, _, _ => none
abbrev Nx : Type := (Nat × Lo × List Av × Sg) ⊕ Option Av
def go (pc : Nat) (lo : Lo) (st : List Av) (σ : Sg) : Option Nx := some (.inl (pc, lo, st, σ))
def ldI (o : Option Av) (pc : Nat) (lo : Lo) (st : List Av) (σ : Sg) : Option Nx := match o with
  | some (.inl x) => go pc lo (.inl x :: st) σ
  | _ => none
def ldJ (o : Option Av) (pc : Nat) (lo : Lo) (st : List Av) (σ : Sg) : Option Nx := match o with
  | some (.inr (.inl x)) => go pc lo (.inr (.inl x) :: st) σ
  | _ => none
def ldP (o : Option Av) (pc : Nat) (lo : Lo) (st : List Av) (σ : Sg) : Option Nx := match o with
  | some (.inr (.inr x)) => go pc lo (.inr (.inr x) :: st) σ
  | _ => none
def toI (k pc : Nat) (lo : Lo) (st : List Av) (σ : Sg) : Option Nx := match st with
  | .inl x :: r => (s1 lo k (.inl x)).bind (fun l => go pc l r σ)
  | _ => none
def toJ (k pc : Nat) (lo : Lo) (st : List Av) (σ : Sg) : Option Nx := match st with
  | .inr (.inl x) :: r => (s2 lo k (.inr (.inl x))).bind (fun l => go pc l r σ)
  | _ => none
def toP (k pc : Nat) (lo : Lo) (st : List Av) (σ : Sg) : Option Nx := match st with
  | .inr (.inr x) :: r => (s1 lo k (.inr (.inr x))).bind (fun l => go pc l r σ)
  | _ => none
/-- a jump by an offset -/
def jp (pc : Nat) (off : Int) (lo : Lo) (st : List Av) (σ : Sg) : Option Nx := if (pc : Int) + off < 0 then none else go ((pc : Int) + off).toNat lo st σ
def icm (q : ClassFile.Cond) (x y : Int32) : Bool := match q with
  | .eq => decide (x = y)
  | .ne => !decide (x = y)
  | .lt => decide (x < y)
  | .ge => decide (y ≤ x)
  | .gt => decide (y < x)
  | .le => decide (x ≤ y)
def brn (b : Bool) (pc : Nat) (off : Int) (lo : Lo) (st : List Av) (σ : Sg) : Option Nx := if (pc : Int) + off < 0 then none else if b then go ((pc : Int) + off).toNat lo st σ else go (pc + 3) lo st σ
def swo : List (Int × Int) → Int → Int32 → Int
  | [], d, _ => d
  | (a, o) :: r, d, x => if x.toInt = a then o else swo r d x
def tbl (lo : Int) : List Int → List (Int × Int)
  | [] => []
  | o :: r => (lo, o) :: tbl (lo + 1) r
def exi (q : Option (Nat × Nat)) (σ : Sg) : Bool := match q with
  | none => true
  | some q => decide (q.2 < cn σ q.1)
def cko (x : Option (Nat × Nat)) (t : Nat) : Bool := match x with
  | none => true
  | some z => decide (z.1 = t)
/-- all instructions but calls -/
def st1 (g : Nat → Nat → Nat) (mi pc : Nat) (i : Instr) (lo : Lo) (st : List Av) (σ : Sg) : Option Nx := match i with
  | .ldc x => (kI.lookup (ow mi, x)).bind (fun q => go (pc + 2) lo (.inl q.1 :: st) σ)
  | .ldc2_w x => (kJ.lookup (ow mi, x)).bind (fun q => go (pc + 3) lo (.inr (.inl q.1) :: st) σ)
  | .iload_n k => ldI (lg lo k.val) (pc + 1) lo st σ
  | .iload k => ldI (lg lo k) (pc + 2) lo st σ
  | .lload_n k => ldJ (lg lo k.val) (pc + 1) lo st σ
  | .lload k => ldJ (lg lo k) (pc + 2) lo st σ
  | .aload_n k => ldP (lg lo k.val) (pc + 1) lo st σ
  | .aload k => ldP (lg lo k) (pc + 2) lo st σ
  | .istore_n k => toI k.val (pc + 1) lo st σ
  | .istore k => toI k (pc + 2) lo st σ
  | .lstore_n k => toJ k.val (pc + 1) lo st σ
  | .lstore k => toJ k (pc + 2) lo st σ
  | .astore_n k => toP k.val (pc + 1) lo st σ
  | .astore k => toP k (pc + 2) lo st σ
  | .iinc k n => (match lg lo k with
    | some (.inl x) => (s1 lo k (.inl (x + Int32.ofInt n))).bind (fun l => go (pc + 3) l st σ)
    | _ => none)
  | .goto off => jp pc off lo st σ
  | .ifCond q off => (match st with
    | .inl x :: r => brn (icm q x 0) pc off lo r σ
    | _ => none)
  | .if_icmp q off => (match st with
    | .inl y :: .inl x :: r => brn (icm q x y) pc off lo r σ
    | _ => none)
  | .ifnull off => (match st with
    | .inr (.inr x) :: r => brn (decide (x = none)) pc off lo r σ
    | _ => none)
  | .ifnonnull off => (match st with
    | .inr (.inr x) :: r => brn (!decide (x = none)) pc off lo r σ
    | _ => none)
  | .if_acmp q off => (match st with
    | .inr (.inr y) :: .inr (.inr x) :: r => if exi x σ && exi y σ then brn (match q with | .eq => decide (x = y) | .ne => !decide (x = y)) pc off lo r σ else none
    | _ => none)
  | .tableswitch d l h offs => (match st with
    | .inl x :: r => if h = l + offs.size - 1 then jp pc (swo (tbl l offs.toList) d x) lo r σ else none
    | _ => none)
  | .lookupswitch d ps => (match st with
    | .inl x :: r => if (ps.toList.zip (ps.toList.drop 1)).all (fun (a, next) => a.1 < next.1) = true then jp pc (swo ps.toList d x) lo r σ else none
    | _ => none)
  | .getfield x => (match st with
    | .inr (.inr (some q)) :: r => (fL.lookup (ow mi, x)).bind (fun f => if q.1 = f.1 ∧ q.2 < cn σ f.1 then go (pc + 3) lo (rd σ f.1 f.2.1 q.2 :: r) σ else none)
    | _ => none)
  | .putfield x => (match st with
    | v :: .inr (.inr (some q)) :: r => (fL.lookup (ow mi, x)).bind (fun f => if q.1 = f.1 ∧ q.2 < cn σ f.1 then (wr σ f.1 f.2.1 q.2 v).bind (fun τ => go (pc + 3) lo r τ) else none)
    | _ => none)
  | .arraylength => (match st with
    | .inr (.inr (some q)) :: r => if 12 ≤ q.1 ∧ q.1 < 55 ∧ q.2 < cn σ q.1 then go (pc + 1) lo (.inl (Int32.ofNat (ln σ q.1 q.2)) :: r) σ else none
    | _ => none)
  | .iaload => (match st with
    | .inl j :: .inr (.inr (some q)) :: r => if 12 ≤ q.1 ∧ q.1 < 55 ∧ kd q.1 0 = 0 ∧ q.2 < cn σ q.1 ∧ ¬ (j < 0 ∨ ln σ q.1 q.2 ≤ j.toNatClampNeg) then go (pc + 1) lo (.inl (gI σ q.1 j.toNatClampNeg q.2) :: r) σ else none
    | _ => none)
  | .laload => (match st with
    | .inl j :: .inr (.inr (some q)) :: r => if 12 ≤ q.1 ∧ q.1 < 55 ∧ kd q.1 0 = 2 ∧ q.2 < cn σ q.1 ∧ ¬ (j < 0 ∨ ln σ q.1 q.2 ≤ j.toNatClampNeg) then go (pc + 1) lo (.inr (.inl (gJ σ q.1 j.toNatClampNeg q.2)) :: r) σ else none
    | _ => none)
  | .aaload => (match st with
    | .inl j :: .inr (.inr (some q)) :: r => if 12 ≤ q.1 ∧ q.1 < 55 ∧ 3 ≤ kd q.1 0 ∧ q.2 < cn σ q.1 ∧ ¬ (j < 0 ∨ ln σ q.1 q.2 ≤ j.toNatClampNeg) then go (pc + 1) lo (.inr (.inr (mk (kd q.1 0 - 3) (gP σ q.1 j.toNatClampNeg q.2))) :: r) σ else none
    | _ => none)
  | .iastore => (match st with
    | .inl x :: .inl j :: .inr (.inr (some q)) :: r => if 12 ≤ q.1 ∧ q.1 < 55 ∧ kd q.1 0 = 0 ∧ q.2 < cn σ q.1 ∧ ¬ (j < 0 ∨ ln σ q.1 q.2 ≤ j.toNatClampNeg) then go (pc + 1) lo r (sI σ q.1 j.toNatClampNeg q.2 x) else none
    | _ => none)
  | .lastore => (match st with
    | .inr (.inl x) :: .inl j :: .inr (.inr (some q)) :: r => if 12 ≤ q.1 ∧ q.1 < 55 ∧ kd q.1 0 = 2 ∧ q.2 < cn σ q.1 ∧ ¬ (j < 0 ∨ ln σ q.1 q.2 ≤ j.toNatClampNeg) then go (pc + 1) lo r (sJ σ q.1 j.toNatClampNeg q.2 x) else none
    | _ => none)
  | .aastore => (match st with
    | .inr (.inr x) :: .inl j :: .inr (.inr (some q)) :: r => if 12 ≤ q.1 ∧ q.1 < 55 ∧ 3 ≤ kd q.1 0 ∧ q.2 < cn σ q.1 ∧ ¬ (j < 0 ∨ ln σ q.1 q.2 ≤ j.toNatClampNeg) ∧ exi x σ = true ∧ cko x (kd q.1 0 - 3) = true then go (pc + 1) lo r (sP σ q.1 j.toNatClampNeg q.2 (x.map (fun z => z.2))) else none
    | _ => none)
  | .new x => (cL.lookup (ow mi, x)).bind (fun f => if sz σ = g f.1 (cn σ f.1) then go (pc + 3) lo (.inr (.inr (some (f.1, cn σ f.1))) :: st) (nw σ f.1 (((KD[f.1]?).getD []).length)) else none)
  | .newarray t => (match st with
    | .inl n :: r => (sL.lookup (mi, pc)).bind (fun c => if sz σ = g c (cn σ c) ∧ ¬ n < 0 ∧ n.toNatClampNeg ≤ 65536 ∧ ((t = .int ∧ kd c 0 = 0) ∨ (t = .long ∧ kd c 0 = 2)) then go (pc + 2) lo (.inr (.inr (some (c, cn σ c))) :: r) (nw σ c n.toNatClampNeg) else none)
    | _ => none)
  | .anewarray x => (match st with
    | .inl n :: r => (sL.lookup (mi, pc)).bind (fun c => (cL.lookup (ow mi, x)).bind (fun f => if sz σ = g c (cn σ c) ∧ ¬ n < 0 ∧ n.toNatClampNeg ≤ 65536 ∧ kd c 0 = f.1 + 3 then go (pc + 3) lo (.inr (.inr (some (c, cn σ c))) :: r) (nw σ c n.toNatClampNeg) else none))
    | _ => none)
  | .ireturn => (match st with
    | [.inl x] => if rT mi = some .int ∨ (rT mi = some .boolean ∧ (x = 0 ∨ x = 1)) then some (.inr (some (.inl x))) else none
    | _ => none)
  | .lreturn => (match st with
    | [.inr (.inl x)] => if rT mi = some .long then some (.inr (some (.inr (.inl x)))) else none
    | _ => none)
  | .areturn => (match st with
    | [.inr (.inr x)] => some (.inr (some (.inr (.inr x))))
    | _ => none)
  | .return_ => (match st with
    | [] => some (.inr none)
    | _ => none)
  | i => (pu i st).bind (fun s => go (pc + il i) lo s σ)
-- calls
def tk : Nat → List Av → List Av → Option (List Av × List Av)
  | 0, a, st => some (a, st)
  | n + 1, a, v :: st => tk n (v :: a) st
  | _ + 1, _, [] => none
def al : List Av → Lo
  | [] => []
  | .inr (.inl x) :: r => some (.inr (.inl x)) :: none :: al r
  | v :: r => some v :: al r
def pd (m : Nat) (lo : Lo) : Lo := lo ++ List.replicate (m - lo.length) none
def cw (st : List Av) : Nat := (st.map (fun v => if isJ v then 2 else 1)).sum
def cI (i : Instr) : Option (Nat × List Nat) := match i with
  | .invokevirtual x => some (x, [0])
  | .invokespecial x => some (x, [1, 3, 5])
  | .invokestatic x => some (x, [2, 4, 7, 8])
  | _ => none
def rcv (mj : Nat) (as : List Av) (σ : Sg) : Bool := match as with
  | .inr (.inr (some q)) :: _ => decide (q.1 = ow mj ∧ q.2 < cn σ q.1)
  | _ => false
def rc1 (as : List Av) : Bool := match as with
  | .inr (.inr (some _)) :: _ => true
  | _ => false
/-- the calls that the machine answers at once: Object's constructor, Math.max, Math.min -/
def c0k (mi k : Nat) (ks : List Nat) (st : List Av) : Option (List Av) := match k, st with
  | 5, .inr (.inr (some _)) :: r => if 5 ∈ ks ∧ 1 ≤ fN mi ∧ cw r + 13 ≤ lW mi then some r else none
  | 7, .inl y :: .inl x :: r => if 7 ∈ ks ∧ 1 ≤ fN mi ∧ cw r + 13 ≤ lW mi then some (.inl (if x < y then y else x) :: r) else none
  | 8, .inl y :: .inl x :: r => if 8 ∈ ks ∧ 1 ≤ fN mi ∧ cw r + 13 ≤ lW mi then some (.inl (if y < x then y else x) :: r) else none
  | _, _ => none
def c0 (mi x : Nat) (ks : List Nat) (st : List Av) : Option (List Av) := (mL.lookup (ow mi, x)).bind (fun q => c0k mi q.2.1 ks st)
def c2 (mi mj k : Nat) (a : List Av × List Av) (σ : Sg) : Bool := decide (cw a.2 ≤ 8) && decide (fN mj + 1 ≤ fN mi) && decide (8 + (mx mj + 11) + lW mj ≤ lW mi) && decide ((al a.1).length ≤ mx mj) && (if k = 0 then rcv mj a.1 σ else if k = 1 ∨ k = 3 then rc1 a.1 else true)
/-- what a call needs: the callee, its arguments, the rest of the stack -/
def c1 (mi x : Nat) (ks : List Nat) (st : List Av) (σ : Sg) : Option (Nat × List Av × List Av) := (mL.lookup (ow mi, x)).bind (fun q => if q.2.1 ∈ ks ∧ q.2.1 < 5 ∧ q.1 < 184 then (tk (nP q.1) [] st).bind (fun a => if c2 mi q.1 q.2.1 a σ = true then some (q.1, a.1, a.2) else none) else none)
def ex (g : Nat → Nat → Nat) : Nat → Nat → Nat → Lo → List Av → Sg → Option (Sg × Option Av)
  | 0, _, _, _, _, _ => none
  | n + 1, mi, pc, lo, st, σ => match ii mi pc with
    | none => none
    | some (i, _) => match cI i with
      | none => (match st1 g mi pc i lo st σ with
        | none => none
        | some (.inr r) => some (σ, r)
        | some (.inl q) => ex g n mi q.1 q.2.1 q.2.2.1 q.2.2.2)
      | some (x, ks) => (match c0 mi x ks st with
        | some r => ex g n mi (pc + 3) lo r σ
        | none => (match c1 mi x ks st σ with
          | none => none
          | some q => (match ex g n q.1 0 (pd (mx q.1) (al q.2.1)) [] σ with
            | none => none
            | some w => ex g n mi (pc + 3) lo (w.2.toList ++ q.2.2) w.1)))
theorem ex_mono {g : Nat → Nat → Nat} : ∀ (n mi pc : Nat) (lo : Lo) (st : List Av) (σ : Sg) (X : Sg × Option Av), ex g n mi pc lo st σ = some X → ex g (n + 1) mi pc lo st σ = some X := by
  intro n
  induction n with
  | zero => intro mi pc lo st σ X h; simp [ex] at h
  | succ n ih =>
    intro mi pc lo st σ X h
    rw [ex] at h ⊢
    split at h
    · simp at h
    · rename_i i _ hi
      split at h
      · split at h
        · simp at h
        · exact h
        · exact ih _ _ _ _ _ _ h
      · split at h
        · exact ih _ _ _ _ _ _ h
        · split at h
          · simp at h
          · split at h
            · simp at h
            · rename_i w hw
              rw [ih _ _ _ _ _ _ hw]
              exact ih _ _ _ _ _ _ h
theorem ex_le {g : Nat → Nat → Nat} {n m mi pc : Nat} {lo : Lo} {st : List Av} {σ : Sg} {X : Sg × Option Av} (h : ex g n mi pc lo st σ = some X) (hm : n ≤ m) : ex g m mi pc lo st σ = some X := by
  induction hm with
  | refl => exact h
  | step _ ih => exact ex_mono _ _ _ _ _ _ _ ih
theorem ex_det {g : Nat → Nat → Nat} {n m mi pc : Nat} {lo : Lo} {st : List Av} {σ : Sg} {X Y : Sg × Option Av} (h : ex g n mi pc lo st σ = some X) (k : ex g m mi pc lo st σ = some Y) : X = Y := by
  have h1 := ex_le h (Nat.le_max_left n m)
  have h2 := ex_le k (Nat.le_max_right n m)
  rw [h1] at h2
  exact Option.some.inj h2
/-- the method mi, from pc on, comes to its end with X -/
def Rn (g : Nat → Nat → Nat) (mi pc : Nat) (lo : Lo) (st : List Av) (σ : Sg) (X : Sg × Option Av) : Prop := ∃ n, ex g n mi pc lo st σ = some X
theorem Rn_go {g : Nat → Nat → Nat} {mi pc pc' len : Nat} {i : Instr} {lo lo' : Lo} {st st' : List Av} {σ τ : Sg} {X : Sg × Option Av} (h : ii mi pc = some (i, len)) (hc : cI i = none) (hs : st1 g mi pc i lo st σ = some (.inl (pc', lo', st', τ))) : Rn g mi pc lo st σ X = Rn g mi pc' lo' st' τ X := by
  apply propext
  constructor
  · rintro ⟨n, hn⟩
    cases n with
    | zero => simp [ex] at hn
    | succ n =>
      rw [ex, h] at hn
      simp only [hc, hs] at hn
      exact ⟨n, hn⟩
  · rintro ⟨n, hn⟩
    refine ⟨n + 1, ?_⟩
    rw [ex, h]
    simp only [hc, hs]
    exact hn
theorem Rn_ret {g : Nat → Nat → Nat} {mi pc len : Nat} {i : Instr} {lo : Lo} {st : List Av} {σ : Sg} {r : Option Av} {X : Sg × Option Av} (h : ii mi pc = some (i, len)) (hc : cI i = none) (hs : st1 g mi pc i lo st σ = some (.inr r)) : Rn g mi pc lo st σ X = (X = (σ, r)) := by
  apply propext
  constructor
  · rintro ⟨n, hn⟩
    cases n with
    | zero => simp [ex] at hn
    | succ n =>
      rw [ex, h] at hn
      simp only [hc, hs] at hn
      exact (Option.some.inj hn).symm
  · rintro rfl
    refine ⟨1, ?_⟩
    rw [ex, h]
    simp only [hc, hs]
theorem Rn_obj {g : Nat → Nat → Nat} {mi pc len x : Nat} {ks : List Nat} {i : Instr} {lo : Lo} {st r : List Av} {σ : Sg} {X : Sg × Option Av} (h : ii mi pc = some (i, len)) (hc : cI i = some (x, ks)) (hs : c0 mi x ks st = some r) : Rn g mi pc lo st σ X = Rn g mi (pc + 3) lo r σ X := by
  apply propext
  constructor
  · rintro ⟨n, hn⟩
    cases n with
    | zero => simp [ex] at hn
    | succ n =>
      rw [ex, h] at hn
      simp only [hc, hs] at hn
      exact ⟨n, hn⟩
  · rintro ⟨n, hn⟩
    refine ⟨n + 1, ?_⟩
    rw [ex, h]
    simp only [hc, hs]
    exact hn
theorem Rn_call {g : Nat → Nat → Nat} {mi pc len x mj : Nat} {ks : List Nat} {i : Instr} {lo lj : Lo} {st as r : List Av} {σ : Sg} {X : Sg × Option Av} (h : ii mi pc = some (i, len)) (hc : cI i = some (x, ks)) (h0 : c0 mi x ks st = none) (hs : c1 mi x ks st σ = some (mj, as, r)) (hl : pd (mx mj) (al as) = lj) : Rn g mi pc lo st σ X = ∃ Y, Rn g mj 0 lj [] σ Y ∧ Rn g mi (pc + 3) lo (Y.2.toList ++ r) Y.1 X := by
  subst hl
  apply propext
  constructor
  · rintro ⟨n, hn⟩
    cases n with
    | zero => simp [ex] at hn
    | succ n =>
      rw [ex, h] at hn
      simp only [hc, h0, hs] at hn
      split at hn
      · simp at hn
      · rename_i w hw
        exact ⟨w, ⟨n, hw⟩, ⟨n, hn⟩⟩
  · rintro ⟨Y, ⟨n, hn⟩, ⟨m, hm⟩⟩
    refine ⟨max n m + 1, ?_⟩
    rw [ex, h]
    simp only [hc, h0, hs]
    rw [ex_le hn (Nat.le_max_left n m)]
    exact ex_le hm (Nat.le_max_right n m)
