/-! ===== THE SMALL MACHINE: a pure machine for the bytecode that is met here; part 05 ties it to the real one ===== -/
/-- pure values: an int, a long, a reference (number of an object, tag of its kind; tag 99: unset) -/
abbrev PV : Type := Int32 ⊕ (Int64 ⊕ (Option Nat × Nat))
abbrev vI (x : Int32) : PV := Sum.inl x
abbrev vL (x : Int64) : PV := Sum.inr (Sum.inl x)
abbrev vO (o : Option Nat) (t : Nat) : PV := Sum.inr (Sum.inr (o, t))
abbrev vR (k t : Nat) : PV := Sum.inr (Sum.inr (some k, t))
abbrev vU : PV := Sum.inr (Sum.inr (none, 99))
/-- memory: ints, longs, references by object and place; objects' kinds and lengths; the script -/
abbrev St : Type := (Nat → Nat → Int32) × (Nat → Nat → Int64) × (Nat → Nat → Option Nat) × List (Nat × Nat) × (Nat × (Nat → Int32))
def rI (σ : St) (k i : Nat) : Int32 := σ.1 k i
def rL (σ : St) (k i : Nat) : Int64 := σ.2.1 k i
def rR (σ : St) (k i : Nat) : Option Nat := σ.2.2.1 k i
def sS (σ : St) : List (Nat × Nat) := σ.2.2.2.1
def sX (σ : St) : Nat × (Nat → Int32) := σ.2.2.2.2
def sh (σ : St) (k : Nat) : Nat × Nat := (sS σ).getD k (98, 0)
def wI (σ : St) (k i : Nat) (v : Int32) : St := (fun a b => if a = k ∧ b = i then v else rI σ a b, σ.2)
def wL (σ : St) (k i : Nat) (v : Int64) : St := (σ.1, fun a b => if a = k ∧ b = i then v else rL σ a b, σ.2.2)
def wR (σ : St) (k i : Nat) (v : Option Nat) : St := (σ.1, σ.2.1, fun a b => if a = k ∧ b = i then v else rR σ a b, σ.2.2.2)
/-- a run of n places of object a from place s on comes to object k's place d on -/
def cI (σ : St) (a s k d n : Nat) : St := (fun x b => if x = k ∧ d ≤ b ∧ b < d + n then rI σ a (s + (b - d)) else rI σ x b, σ.2)
def cL (σ : St) (a s k d n : Nat) : St := (σ.1, fun x b => if x = k ∧ d ≤ b ∧ b < d + n then rL σ a (s + (b - d)) else rL σ x b, σ.2.2)
def nw (σ : St) (t len : Nat) : St :=
  (fun a b => if a = (sS σ).length then 0 else rI σ a b, fun a b => if a = (sS σ).length then 0 else rL σ a b, fun a b => if a = (sS σ).length then none else rR σ a b, sS σ ++ [(t, len)], sX σ)
/-- the bytes of the texts that the class names -/
def txB : List (List Nat) := [[110, 111, 100, 101], [109, 111, 115, 116], [108, 101, 97, 115, 116], [115, 117, 109], [114, 111, 119], [116, 111, 108, 100], [100, 111, 110, 101], [104, 105, 110, 116], [32, 109, 111, 115, 116], [32, 108, 101, 97, 115, 116], [32, 115, 117, 109], [32, 60], [32, 116, 111, 108, 100, 61], [32, 100, 111, 110, 101, 61], [32, 104, 105, 110, 116, 32]]
/-- arrays that are there before: 40 the script, 41 NEEDS, 42 DigitOnes, 43 DigitTens, 44 a text's bytes -/
def xa (σ : St) (t a : Nat) : Nat × (Nat → Int32) :=
  if t = 40 then sX σ else if t = 41 then (8, fun i => ([3, 3, 3, 3, 5, 2, 2, 4] : List Int32).getD i 0) else if t = 42 then (100, fun i => Int32.ofNat (48 + i % 10)) else if t = 43 then (100, fun i => Int32.ofNat (48 + i / 10))
  else ((txB.getD a [110, 111, 100, 101]).length, fun i => Int32.ofNat ((txB.getD a [110, 111, 100, 101]).getD i 0))
def aLen (σ : St) (t a : Nat) : Nat := if t < 40 then (sh σ a).2 else (xa σ t a).1
def aGet (σ : St) (t a i : Nat) : Int32 := if t < 40 then rI σ a i else (xa σ t a).2 i
def inB (j : Int32) (n : Nat) : Bool := !(decide (j < 0)) && decide (j.toNatClampNeg < n)
abbrev Nx : Type := Option ((Nat × List PV × List PV × St) ⊕ (Option PV × St))
abbrev Cal : Type := Nat → List PV → St → Option (Option PV × St)
def go (pc : Nat) (ls st : List PV) (σ : St) : Nx := some (Sum.inl (pc, ls, st, σ))
def pI (st : List PV) (f : Int32 → List PV → Nx) : Nx := match st with
  | Sum.inl x :: r => f x r
  | _ => none
def pL (st : List PV) (f : Int64 → List PV → Nx) : Nx := match st with
  | Sum.inr (Sum.inl x) :: r => f x r
  | _ => none
def pR (st : List PV) (f : Nat → Nat → List PV → Nx) : Nx := match st with
  | Sum.inr (Sum.inr (some a, t)) :: r => f a t r
  | _ => none
def pO (st : List PV) (f : Option Nat → Nat → List PV → Nx) : Nx := match st with
  | Sum.inr (Sum.inr (o, t)) :: r => f o t r
  | _ => none
def guard (b : Bool) (x : Nx) : Nx := match b with
  | true => x
  | false => none
def is2 : PV → Bool
  | Sum.inr (Sum.inl _) => true
  | _ => false
def cat (v : PV) : Nat := bif is2 v then 2 else 1
def catS : List PV → Nat
  | [] => 0
  | v :: r => cat v + catS r
def kill (ls : List PV) (i : Nat) : List PV := match ls[i - 1]? with
  | some (Sum.inr (Sum.inl _)) => ls.set (i - 1) vU
  | _ => ls
def set1 (ls : List PV) (i : Nat) (v : PV) : List PV := (kill ls i).set i v
def set2 (ls : List PV) (i : Nat) (v : PV) : List PV := ((kill ls i).set i v).set (i + 1) vU
def ldI (ls : List PV) (i : Nat) (f : Int32 → Nx) : Nx := match ls[i]? with
  | some (Sum.inl x) => f x
  | _ => none
def ldL (ls : List PV) (i : Nat) (f : Int64 → Nx) : Nx := match ls[i]? with
  | some (Sum.inr (Sum.inl x)) => f x
  | _ => none
def ldR (ls : List PV) (i : Nat) (f : Nat → Nat → Nx) : Nx := match ls[i]? with
  | some (Sum.inr (Sum.inr (some a, t))) => f a t
  | _ => none
def condI (c : Jvm.ClassFile.Cond) (x y : Int32) : Bool := match c with
  | .eq => decide (x = y)
  | .ne => !(decide (x = y))
  | .lt => decide (x < y)
  | .ge => decide (y ≤ x)
  | .gt => decide (y < x)
  | .le => decide (x ≤ y)
def jt (pc : Nat) (off : Int) : Nat := ((pc : Int) + off).toNat
def okJ (pc : Nat) (off : Int) : Bool := decide (0 ≤ (pc : Int) + off)
/-- the kind of a class's field: 0 int, 1 long, 2 boolean, 3 byte, 100 + tag a reference -/
def FT : List (List Nat) := [[123, 3, 2, 0], [120, 120, 120, 120], [120, 120, 0, 0, 0, 0, 0, 0, 0, 0], [121, 0, 0], [120, 0, 0, 0, 0, 0, 0, 120], [120, 120, 120, 0, 0], [124, 0], [120, 120, 120, 1], [106, 106, 106, 2, 107, 101, 105, 104, 100, 125], [0, 120, 120, 120, 2, 120, 0, 0, 2, 0, 120, 120, 0, 120, 0, 120, 120, 1, 1, 120, 0, 121, 120, 120, 120, 120, 120, 120, 0, 122, 120, 120, 121]]
def ft (c f : Nat) : Nat := (FT.getD c []).getD f 98
def nF (c : Nat) : Nat := (FT.getD c []).length
def narOK (k : Nat) (x : Int32) : Bool := bif k.beq 0 then true else bif k.beq 2 then (decide (x = 0) || decide (x = 1)) else bif k.beq 3 then decide (x.toInt8.toInt32 = x) else false
def getF (c f a : Nat) (σ : St) (r : List PV) (k : List PV → Nx) : Nx :=
  bif (ft c f).beq 1 then k (vL (rL σ a f) :: r) else bif Nat.ble 100 (ft c f) then k (vO (rR σ a f) (ft c f - 100) :: r) else bif Nat.ble (ft c f) 3 then k (vI (rI σ a f) :: r) else none
def retOK (ret : Option FieldType) (x : Int32) : Bool := match ret with
  | some .int => true
  | some .boolean => decide (x = 0) || decide (x = 1)
  | some .byte => decide (x.toInt8.toInt32 = x)
  | some .char => decide (vp_nar .char x = x)
  | _ => false
def isLong (ret : Option FieldType) : Bool := match ret with
  | some .long => true
  | _ => false
def isVoid (ret : Option FieldType) : Bool := match ret with
  | none => true
  | _ => false
def aTag : ArrayType → Nat
  | .int => 20
  | .long => 21
  | .boolean => 22
  | .byte => 23
  | _ => 98
def rcv (rt : Nat) (as : List PV) : Bool := bif rt.beq 0 then true else match as with
  | Sum.inr (Sum.inr (some _, t)) :: _ => (t + 1).beq rt
  | _ => false
def callN (E : Cal) (res pc : Nat) (ls st : List PV) (σ : St) : Nx :=
  bif Nat.ble (res / 1024 % 64) st.length && (Nat.ble (catS (st.drop (res / 1024 % 64))) 8 && rcv (res / 65536) (st.take (res / 1024 % 64)).reverse) then
    match E (res % 1024) (st.take (res / 1024 % 64)).reverse σ with
    | some (some v, σ') => go (pc + 3) ls (v :: st.drop (res / 1024 % 64)) σ'
    | some (none, σ') => go (pc + 3) ls (st.drop (res / 1024 % 64)) σ'
    | none => none
  else none
/-- a text's bytes come to an array -/
def cX (σ : St) (a s k d n : Nat) : St := (fun x b => if x = k ∧ d ≤ b ∧ b < d + n then (xa σ 44 a).2 (s + (b - d)) else rI σ x b, σ.2)
def copyN (pc : Nat) (ls st : List PV) (σ : St) : Nx :=
  pI st fun n r => pI r fun dp r => pR r fun b tb r => pI r fun sp r => pR r fun a ta r =>
    bif ta.beq 44 then guard (tb.beq 23 && (!(decide (sp < 0)) && (!(decide (dp < 0)) && (!(decide (n < 0)) && (decide (sp.toNatClampNeg + n.toNatClampNeg ≤ (xa σ 44 a).1) && (decide (dp.toNatClampNeg + n.toNatClampNeg ≤ (sh σ b).2) && Nat.ble (catS r) 8))))))
      (go (pc + 3) ls r (cX σ a sp.toNatClampNeg b dp.toNatClampNeg n.toNatClampNeg)) else
    guard (ta.beq tb && (!(decide (sp < 0)) && (!(decide (dp < 0)) && (!(decide (n < 0)) && (decide (sp.toNatClampNeg + n.toNatClampNeg ≤ (sh σ a).2) && (decide (dp.toNatClampNeg + n.toNatClampNeg ≤ (sh σ b).2) && Nat.ble (catS r) 8))))))
      (bif ta.beq 20 || ta.beq 23 then go (pc + 3) ls r (cI σ a sp.toNatClampNeg b dp.toNatClampNeg n.toNatClampNeg)
       else bif ta.beq 21 then go (pc + 3) ls r (cL σ a sp.toNatClampNeg b dp.toNatClampNeg n.toNatClampNeg) else none)
def isP (res : Nat) : Bool := Nat.ble 1001 res && Nat.ble res 1004
/-- System.arraycopy, Math.max, Math.min, Math.max of longs -/
def primN (res pc : Nat) (ls st : List PV) (σ : St) : Nx :=
  bif res.beq 1001 then copyN pc ls st σ
  else bif res.beq 1002 then pI st fun y r => pI r fun x r => guard (Nat.ble (catS r) 8) (go (pc + 3) ls (vI (if x < y then y else x) :: r) σ)
  else bif res.beq 1003 then pI st fun y r => pI r fun x r => guard (Nat.ble (catS r) 8) (go (pc + 3) ls (vI (if y < x then y else x) :: r) σ)
  else pL st fun y r => pL r fun x r => guard (Nat.ble (catS r) 8) (go (pc + 3) ls (vL (if y < x then x else y) :: r) σ)
def swT (pc : Nat) (d lo hi : Int) (offs : Array Int) (x : Int32) (k : Nat → Nx) : Nx :=
  if x.toInt < lo ∨ hi < x.toInt then guard (okJ pc d) (k (jt pc d)) else match offs[(x.toInt - lo).toNat]? with
  | some o => guard (okJ pc o) (k (jt pc o))
  | none => none
def stI (E : Cal) (ret : Option FieldType) (i : Instr) (len res pc : Nat) (ls st : List PV) (σ : St) : Nx := match i with
  | .iconst n => go (pc + 1) ls (vI (Int32.ofInt n) :: st) σ
  | .bipush n => go (pc + 2) ls (vI (Int8.ofInt n).toInt32 :: st) σ
  | .sipush n => go (pc + 3) ls (vI (Int16.ofInt n).toInt32 :: st) σ
  | .lconst n => go (pc + 1) ls (vL (Int64.ofNat (n : Nat)) :: st) σ
  | .iload_n k => ldI ls k fun x => go (pc + 1) ls (vI x :: st) σ
  | .iload k => ldI ls k fun x => go (pc + 2) ls (vI x :: st) σ
  | .lload_n k => ldL ls k fun x => go (pc + 1) ls (vL x :: st) σ
  | .lload k => ldL ls k fun x => go (pc + 2) ls (vL x :: st) σ
  | .aload_n k => ldR ls k fun a t => go (pc + 1) ls (vR a t :: st) σ
  | .aload k => ldR ls k fun a t => go (pc + 2) ls (vR a t :: st) σ
  | .istore_n k => pI st fun x r => guard (Nat.blt k ls.length) (go (pc + 1) (set1 ls k (vI x)) r σ)
  | .istore k => pI st fun x r => guard (Nat.blt k ls.length) (go (pc + 2) (set1 ls k (vI x)) r σ)
  | .lstore_n k => pL st fun x r => guard (Nat.blt (k + 1) ls.length) (go (pc + 1) (set2 ls k (vL x)) r σ)
  | .lstore k => pL st fun x r => guard (Nat.blt (k + 1) ls.length) (go (pc + 2) (set2 ls k (vL x)) r σ)
  | .astore_n k => pR st fun a t r => guard (Nat.blt k ls.length) (go (pc + 1) (set1 ls k (vR a t)) r σ)
  | .astore k => pR st fun a t r => guard (Nat.blt k ls.length) (go (pc + 2) (set1 ls k (vR a t)) r σ)
  | .iinc k n => ldI ls k fun x => guard (Nat.blt k ls.length) (go (pc + 3) (set1 ls k (vI (x + Int32.ofInt n))) st σ)
  | .iadd => pI st fun y r => pI r fun x r => go (pc + 1) ls (vI (x + y) :: r) σ
  | .isub => pI st fun y r => pI r fun x r => go (pc + 1) ls (vI (x - y) :: r) σ
  | .imul => pI st fun y r => pI r fun x r => go (pc + 1) ls (vI (x * y) :: r) σ
  | .iand => pI st fun y r => pI r fun x r => go (pc + 1) ls (vI (x &&& y) :: r) σ
  | .ior => pI st fun y r => pI r fun x r => go (pc + 1) ls (vI (x ||| y) :: r) σ
  | .ixor => pI st fun y r => pI r fun x r => go (pc + 1) ls (vI (x ^^^ y) :: r) σ
  | .ishl => pI st fun y r => pI r fun x r => go (pc + 1) ls (vI (x <<< (y &&& 31)) :: r) σ
  | .ishr => pI st fun y r => pI r fun x r => go (pc + 1) ls (vI (x >>> (y &&& 31)) :: r) σ
  | .iushr => pI st fun y r => pI r fun x r => go (pc + 1) ls (vI (x.toUInt32 >>> (y.toUInt32 &&& Int32.toUInt32 31)).toInt32 :: r) σ
  | .idiv => pI st fun y r => pI r fun x r => guard (!(decide (y = 0))) (go (pc + 1) ls (vI (x / y) :: r) σ)
  | .irem => pI st fun y r => pI r fun x r => guard (!(decide (y = 0))) (go (pc + 1) ls (vI (x - x / y * y) :: r) σ)
  | .ineg => pI st fun x r => go (pc + 1) ls (vI (-x) :: r) σ
  | .ladd => pL st fun y r => pL r fun x r => go (pc + 1) ls (vL (x + y) :: r) σ
  | .lmul => pL st fun y r => pL r fun x r => go (pc + 1) ls (vL (x * y) :: r) σ
  | .land => pL st fun y r => pL r fun x r => go (pc + 1) ls (vL (x &&& y) :: r) σ
  | .lor => pL st fun y r => pL r fun x r => go (pc + 1) ls (vL (x ||| y) :: r) σ
  | .ldiv => pL st fun y r => pL r fun x r => guard (!(decide (y = 0))) (go (pc + 1) ls (vL (x / y) :: r) σ)
  | .lrem => pL st fun y r => pL r fun x r => guard (!(decide (y = 0))) (go (pc + 1) ls (vL (x - x / y * y) :: r) σ)
  | .lshl => pI st fun y r => pL r fun x r => go (pc + 1) ls (vL (x <<< (y.toInt64 &&& 63)) :: r) σ
  | .lcmp => pL st fun y r => pL r fun x r => go (pc + 1) ls (vI (lg_cmp x y) :: r) σ
  | .i2l => pI st fun x r => go (pc + 1) ls (vL x.toInt64 :: r) σ
  | .l2i => pL st fun x r => go (pc + 1) ls (vI x.toInt32 :: r) σ
  | .i2b => pI st fun x r => go (pc + 1) ls (vI x.toInt8.toInt32 :: r) σ
  | .i2c => pI st fun x r => go (pc + 1) ls (vI (x.toUInt32 % 65536).toInt32 :: r) σ
  | .dup => match st with
    | v :: r => guard (!(is2 v)) (go (pc + 1) ls (v :: v :: r) σ)
    | [] => none
  | .pop => match st with
    | v :: r => guard (!(is2 v)) (go (pc + 1) ls r σ)
    | [] => none
  | .dup_x1 => match st with
    | v :: w :: r => guard (!(is2 v) && !(is2 w)) (go (pc + 1) ls (v :: w :: v :: r) σ)
    | _ => none
  | .dup2 => match st with
    | v :: w :: r => bif is2 v then go (pc + 1) ls (v :: v :: w :: r) σ else guard (!(is2 w)) (go (pc + 1) ls (v :: w :: v :: w :: r) σ)
    | _ => none
  | .ifCond c o => pI st fun x r => guard (okJ pc o) (go (bif condI c x 0 then jt pc o else pc + 3) ls r σ)
  | .if_icmp c o => pI st fun y r => pI r fun x r => guard (okJ pc o) (go (bif condI c x y then jt pc o else pc + 3) ls r σ)
  | .goto o => guard (okJ pc o) (go (jt pc o) ls st σ)
  | .ifnonnull o => pR st fun _ t r => guard (okJ pc o && (t.beq 46 || Nat.blt t 40)) (go (jt pc o) ls r σ)
  | .tableswitch d lo hi offs => pI st fun x r => swT pc d lo hi offs x fun p => go p ls r σ
  | .lookupswitch d ps => pI st fun x r => guard ((ps.toList.zip (ps.toList.drop 1)).all (fun (a, next) => decide (a.1 < next.1)) && okJ pc (Op.lookupswitch.offset ps.toList d x.toInt)) (go (jt pc (Op.lookupswitch.offset ps.toList d x.toInt)) ls r σ)
  | .getfield _ => pR st fun a t r => guard (t.beq (res / 64)) (bif t.beq 46 then (bif (res % 64).beq 0 then go (pc + 3) ls (vR a 44 :: r) σ else go (pc + 3) ls (vI 0 :: r) σ) else getF (res / 64) (res % 64) a σ r fun st' => go (pc + 3) ls st' σ)
  | .putfield _ => bif (ft (res / 64) (res % 64)).beq 1 then pL st fun x r => pR r fun a t r => guard (t.beq (res / 64)) (go (pc + 3) ls r (wL σ a (res % 64) x))
      else bif Nat.ble 100 (ft (res / 64) (res % 64)) then pR st fun b tb r => pR r fun a t r => guard (t.beq (res / 64) && tb.beq (ft (res / 64) (res % 64) - 100)) (go (pc + 3) ls r (wR σ a (res % 64) (some b)))
      else pI st fun x r => pR r fun a t r => guard (t.beq (res / 64) && narOK (ft (res / 64) (res % 64)) x) (go (pc + 3) ls r (wI σ a (res % 64) x))
  | .getstatic _ => go (pc + 3) ls ((bif res.beq 1 then vR 0 45 else bif res.beq 5 then vR 0 41 else bif res.beq 6 then vR 0 42 else bif res.beq 7 then vR 0 43 else bif res.beq 3 then vI 0 else bif res.beq 4 then vI 8 else vI 1) :: st) σ
  | .iaload => pI st fun j r => pR r fun a t r => guard ((t.beq 20 || (t.beq 40 || t.beq 41)) && inB j (aLen σ t a)) (go (pc + 1) ls (vI (aGet σ t a j.toNatClampNeg) :: r) σ)
  | .baload => pI st fun j r => pR r fun a t r => bif t.beq 22 || t.beq 23 then guard (inB j (sh σ a).2) (go (pc + 1) ls (vI (rI σ a j.toNatClampNeg) :: r) σ) else guard ((t.beq 42 || (t.beq 43 || t.beq 44)) && inB j (xa σ t a).1) (go (pc + 1) ls (vI ((xa σ t a).2 j.toNatClampNeg) :: r) σ)
  | .laload => pI st fun j r => pR r fun a t r => guard (t.beq 21 && inB j (sh σ a).2) (go (pc + 1) ls (vL (rL σ a j.toNatClampNeg) :: r) σ)
  | .aaload => pI st fun j r => pR r fun a t r => guard ((t.beq 24 || t.beq 25) && inB j (sh σ a).2) (go (pc + 1) ls (vO (rR σ a j.toNatClampNeg) (bif t.beq 24 then 2 else 3) :: r) σ)
  | .iastore => pI st fun x r => pI r fun j r => pR r fun a t r => guard (t.beq 20 && inB j (sh σ a).2) (go (pc + 1) ls r (wI σ a j.toNatClampNeg x))
  | .bastore => pI st fun x r => pI r fun j r => pR r fun a t r => guard ((t.beq 22 || t.beq 23) && inB j (sh σ a).2) (go (pc + 1) ls r (wI σ a j.toNatClampNeg (bif t.beq 22 then vp_nar .boolean x else vp_nar .byte x)))
  | .lastore => pL st fun x r => pI r fun j r => pR r fun a t r => guard (t.beq 21 && inB j (sh σ a).2) (go (pc + 1) ls r (wL σ a j.toNatClampNeg x))
  | .aastore => pR st fun b tb r => pI r fun j r => pR r fun a t r => guard (((t.beq 24 && tb.beq 2) || (t.beq 25 && tb.beq 3)) && inB j (sh σ a).2) (go (pc + 1) ls r (wR σ a j.toNatClampNeg (some b)))
  | .arraylength => pR st fun a t r => guard ((Nat.ble 20 t && Nat.ble t 25) || (t.beq 40 || t.beq 44)) (go (pc + 1) ls (vI (Int32.ofNat (aLen σ t a)) :: r) σ)
  | .new _ => guard (Nat.blt res 10) (go (pc + 3) ls (vR (sS σ).length res :: st) (nw σ res (nF res)))
  | .newarray ty => pI st fun n r => guard (!(decide (n < 0)) && (decide (n.toNatClampNeg ≤ 65536) && !((aTag ty).beq 98))) (go (pc + 2) ls (vR (sS σ).length (aTag ty) :: r) (nw σ (aTag ty) n.toNatClampNeg))
  | .anewarray _ => pI st fun n r => guard (!(decide (n < 0)) && (decide (n.toNatClampNeg ≤ 65536) && (res.beq 24 || res.beq 25))) (go (pc + 3) ls (vR (sS σ).length res :: r) (nw σ res n.toNatClampNeg))
  | .ldc _ => bif (res % 2).beq 0 then go (pc + 2) ls (vI (Int32.ofNat (res / 2)) :: st) σ else go (pc + 2) ls (vR (res / 2) 46 :: st) σ
  | .ldc_w _ => go (pc + 3) ls (vI (Int32.ofNat (res / 2)) :: st) σ
  | .ldc2_w _ => go (pc + 3) ls (vL (Int64.ofNat res) :: st) σ
  | .invokestatic _ => bif isP res then primN res pc ls st σ else callN E res pc ls st σ
  | .invokevirtual _ => callN E res pc ls st σ
  | .invokespecial _ => bif res.beq 1000 then pR st fun _ t r => guard (Nat.blt t 40 && Nat.ble (catS r) 8) (go (pc + 3) ls r σ) else callN E res pc ls st σ
  | .ireturn => match st with
    | [Sum.inl x] => guard (retOK ret x) (some (Sum.inr (some (vI x), σ)))
    | _ => none
  | .lreturn => match st with
    | [Sum.inr (Sum.inl x)] => guard (isLong ret) (some (Sum.inr (some (vL x), σ)))
    | _ => none
  | .areturn => match st with
    | [Sum.inr (Sum.inr (some a, t))] => some (Sum.inr (some (vR a t), σ))
    | _ => none
  | .return_ => match st with
    | [] => guard (isVoid ret) (some (Sum.inr (none, σ)))
    | _ => none
  | _ => none
/-- a method: its code (instruction, length, what its pool entry is), what it returns, how many locals -/
abbrev MT : Type := List (Instr × Nat × Nat × Nat) × Option FieldType × Nat
def codeAt : List (Instr × Nat × Nat × Nat) → Nat → Option (Instr × Nat × Nat × Nat)
  | [], _ => none
  | e :: r, pc => bif pc.beq 0 then some e else bif Nat.ble e.2.1 pc then codeAt r (pc - e.2.1) else none
def stp (E : Cal) (M : MT) (pc : Nat) (ls st : List PV) (σ : St) : Nx := match codeAt M.1 pc with
  | some e => stI E M.2.1 e.1 e.2.1 e.2.2.1 pc ls st σ
  | none => none
def run (E : Cal) (M : MT) : Nat → Nat → List PV → List PV → St → Option (Option PV × St)
  | 0, _, _, _, _ => none
  | n + 1, pc, ls, st, σ => match stp E M pc ls st σ with
    | some (Sum.inl (pc', ls', st', σ')) => run E M n pc' ls' st' σ'
    | some (Sum.inr x) => some x
    | none => none
def ent : List PV → List PV
  | [] => []
  | Sum.inr (Sum.inl x) :: r => vL x :: vU :: ent r
  | v :: r => v :: ent r
def entry (as : List PV) (nL : Nat) : List PV := ent as ++ List.replicate (nL - (ent as).length) vU
/-- calls: N turns for each method's own walk, at most d calls open -/
def exec (tab : Nat → MT) (N : Nat) : Nat → Cal
  | 0, _, _, _ => none
  | d + 1, M, as, σ => bif Nat.ble (ent as).length (tab M).2.2 then run (exec tab N d) (tab M) N 0 (entry as (tab M).2.2) [] σ else none
