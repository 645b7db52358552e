/-! ===== ints that are naturals: rows for simp with omega ===== -/
theorem kAL (a n : Nat) : nI a + no_index (OfNat.ofNat n : Int32) = nI (a + OfNat.ofNat n) := nI_add a n
theorem kLA (a n : Nat) : no_index (OfNat.ofNat n : Int32) + nI a = nI (OfNat.ofNat n + a) := nI_add n a
theorem kML (a n : Nat) : nI a * no_index (OfNat.ofNat n : Int32) = nI (a * OfNat.ofNat n) := pk_mul a n
theorem kLM (a n : Nat) : no_index (OfNat.ofNat n : Int32) * nI a = nI (OfNat.ofNat n * a) := pk_mul n a
theorem kSL {a n : Nat} (h : OfNat.ofNat n ≤ a) : nI a - no_index (OfNat.ofNat n : Int32) = nI (a - OfNat.ofNat n) := pk_sub h
theorem kLtL {a n : Nat} (ha : a < 2 ^ 31) (hn : OfNat.ofNat n < 2 ^ 31) : (nI a < no_index (OfNat.ofNat n : Int32)) = (a < OfNat.ofNat n) := propext (nI_ltI ha hn)
theorem kLLt {a n : Nat} (ha : a < 2 ^ 31) (hn : OfNat.ofNat n < 2 ^ 31) : (no_index (OfNat.ofNat n : Int32) < nI a) = (OfNat.ofNat n < a) := propext (nI_ltI hn ha)
theorem kLeL {a n : Nat} (ha : a < 2 ^ 31) (hn : OfNat.ofNat n < 2 ^ 31) : (nI a ≤ no_index (OfNat.ofNat n : Int32)) = (a ≤ OfNat.ofNat n) := propext (nI_leI ha hn)
theorem kLLe {a n : Nat} (ha : a < 2 ^ 31) (hn : OfNat.ofNat n < 2 ^ 31) : (no_index (OfNat.ofNat n : Int32) ≤ nI a) = (OfNat.ofNat n ≤ a) := propext (nI_leI hn ha)
theorem kEL {a n : Nat} (ha : a < 2 ^ 31) (hn : OfNat.ofNat n < 2 ^ 31) : (nI a = no_index (OfNat.ofNat n : Int32)) = (a = OfNat.ofNat n) := propext (nI_eq ha hn)
theorem kLt {a b : Nat} (ha : a < 2 ^ 31) (hb : b < 2 ^ 31) : (nI a < nI b) = (a < b) := propext (nI_ltI ha hb)
theorem kLe {a b : Nat} (ha : a < 2 ^ 31) (hb : b < 2 ^ 31) : (nI a ≤ nI b) = (a ≤ b) := propext (nI_leI ha hb)
theorem kEq {a b : Nat} (ha : a < 2 ^ 31) (hb : b < 2 ^ 31) : (nI a = nI b) = (a = b) := propext (nI_eq ha hb)
theorem kCl {a : Nat} (ha : a < 2 ^ 31) : (nI a).toNatClampNeg = a := nI_clamp ha
theorem kClL {n : Nat} (ha : OfNat.ofNat n < 2 ^ 31) : (no_index (OfNat.ofNat n : Int32)).toNatClampNeg = OfNat.ofNat n := nI_clamp ha
theorem kIn {a N : Nat} (h : a < N) (hN : N < 2 ^ 31) : (inB (nI a) N = true) = True := eq_true (inB_nI h hN)
theorem kInL {n N : Nat} (h : OfNat.ofNat n < N) (hN : N < 2 ^ 31) : (inB (no_index (OfNat.ofNat n : Int32)) N = true) = True := eq_true (inB_nI h hN)
theorem kM1 {a : Nat} (ha : a < 2 ^ 31) : (nI a = -1) = False := nI_m1 ha
theorem kM1' {a : Nat} (ha : a < 2 ^ 31) : (-1 = nI a) = False := eq_false (fun q => (eq_false_iff.mp (nI_m1 ha)) q.symm)
theorem kDecLe {a N : Nat} (h : a ≤ N) : (decide (a ≤ N)) = true := decide_eq_true h
theorem kDecNeg {a : Nat} (h : a < 2 ^ 31) : decide (nI a < 0) = false := decide_eq_false (nI_pos h)
theorem kBt {p : Prop} [Decidable p] (h : p) : b2 p = 1 := if_pos h
theorem kIte {p : Prop} [Decidable p] {d : Nat} {M : Nat} {a b : PV} {r : List PV} {σ : St} {Q : Option PV → St → Prop} : (if p then Ca d M (a :: r) σ Q else Ca d M (b :: r) σ Q) ↔ Ca d M ((if p then a else b) :: r) σ Q := by split <;> exact Iff.rfl
/-! bits -/
theorem kAnd (a b : Nat) : nI a &&& nI b = nI (a &&& b) := by
  apply Int32.toBitVec_inj.mp
  apply BitVec.eq_of_toNat_eq
  show (a % 2 ^ 32) &&& (b % 2 ^ 32) = (a &&& b) % 2 ^ 32
  rw [Nat.and_mod_two_pow]
theorem kOr (a b : Nat) : nI a ||| nI b = nI (a ||| b) := by
  apply Int32.toBitVec_inj.mp
  apply BitVec.eq_of_toNat_eq
  show (a % 2 ^ 32) ||| (b % 2 ^ 32) = (a ||| b) % 2 ^ 32
  rw [Nat.or_mod_two_pow]
theorem kXor (a b : Nat) : nI a ^^^ nI b = nI (a ^^^ b) := by
  apply Int32.toBitVec_inj.mp
  apply BitVec.eq_of_toNat_eq
  show (a % 2 ^ 32) ^^^ (b % 2 ^ 32) = (a ^^^ b) % 2 ^ 32
  rw [Nat.xor_mod_two_pow]
/-- a without the bits of b -/
def dif (a b : Nat) : Nat := a ^^^ (a &&& b)
theorem kDif (a b : Nat) : nI a &&& (nI b ^^^ (-1)) = nI (dif a b) := by
  unfold dif
  rw [← kXor, ← kAnd]
  apply Int32.toBitVec_inj.mp
  apply BitVec.eq_of_getLsbD_eq
  intro i hi
  show ((nI a).toBitVec &&& ((nI b).toBitVec ^^^ (-1 : Int32).toBitVec)).getLsbD i = ((nI a).toBitVec ^^^ ((nI a).toBitVec &&& (nI b).toBitVec)).getLsbD i
  rw [show (-1 : Int32).toBitVec = BitVec.allOnes 32 by decide]
  simp only [BitVec.getLsbD_and, BitVec.getLsbD_xor, BitVec.getLsbD_allOnes, hi, decide_true]
  cases (nI a).toBitVec.getLsbD i <;> cases (nI b).toBitVec.getLsbD i <;> rfl
theorem dif_bit (a b i : Nat) : (dif a b).testBit i = (a.testBit i && !b.testBit i) := by
  unfold dif
  rw [Nat.testBit_xor, Nat.testBit_and]
  cases a.testBit i <;> cases b.testBit i <;> rfl
theorem kShl : ∀ k, k < 31 → (1 : Int32) <<< (nI k &&& 31) = nI (2 ^ k) := by decide
theorem kShr {a : Nat} (ha : a < 2 ^ 31) : ∀ k, k < 31 → nI a >>> (nI k &&& 31) = nI (a / 2 ^ k) := by
  intro k hk
  refine pk_shrN ha _ k ?_
  have : ∀ k, k < 31 → ((nI k &&& 31).toBitVec.smod 32).toNat = k := by decide
  exact this k hk
theorem kHas {a : Nat} (ha : a < 2 ^ 31) {k : Nat} (hk : k < 31) : (nI a >>> (nI k &&& 31)) &&& 1 = b2 (a.testBit k = true) := by
  rw [kShr ha k hk, show (1 : Int32) = nI 1 from rfl, kAnd]
  have e : a / 2 ^ k &&& 1 = (a.testBit k).toNat := by
    rw [Nat.and_one_is_mod, Nat.toNat_testBit]
  rw [e]
  unfold b2
  cases a.testBit k <;> rfl
theorem b2_1 {p : Prop} [Decidable p] : b2 p = 1 ↔ p := by unfold b2; split <;> simp [*]
def pop7 (m : Nat) : Nat := ((List.range 7).filter fun i => m.testBit i).length
