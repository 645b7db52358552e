/-! ===== ints that are naturals: rows for simp with omega ===== -/
theorem kAL (a n : Nat) : nI a + no_index (OfNat.ofNat n : Int32) = nI (a + OfNat.ofNat n) := nI_add a n
theorem kLA (a n : Nat) : no_index (OfNat.ofNat n : Int32) + nI a = nI (OfNat.ofNat n + a) := nI_add n a
theorem kML (a n : Nat) : nI a * no_index (OfNat.ofNat n : Int32) = nI (a * OfNat.ofNat n) := pk_mul a n
theorem kLM (a n : Nat) : no_index (OfNat.ofNat n : Int32) * nI a = nI (OfNat.ofNat n * a) := pk_mul n a
theorem kSL {a n : Nat} (h : OfNat.ofNat n ≤ a) : nI a - no_index (OfNat.ofNat n : Int32) = nI (a - OfNat.ofNat n) := pk_sub h
theorem kLtL {a n : Nat} (ha : a < 2 ^ 31) (hn : OfNat.ofNat n < 2 ^ 31) : (nI a < no_index (OfNat.ofNat n : Int32)) = (a < OfNat.ofNat n) := propext (nI_ltI ha hn)
theorem kLLt {a n : Nat} (ha : a < 2 ^ 31) (hn : OfNat.ofNat n < 2 ^ 31) : (no_index (OfNat.ofNat n : Int32) < nI a) = (OfNat.ofNat n < a) := propext (nI_ltI hn ha)
theorem kLeL {a n : Nat} (ha : a < 2 ^ 31) (hn : OfNat.ofNat n < 2 ^ 31) : (nI a ≤ no_index (OfNat.ofNat n : Int32)) = (a ≤ OfNat.ofNat n) := propext (nI_leI ha hn)
theorem kLLe {a n : Nat} (ha : a < 2 ^ 31) (hn : OfNat.ofNat n < 2 ^ 31) : (no_index (OfNat.ofNat n : Int32) ≤ nI a) = (OfNat.ofNat n ≤ a) := propext (nI_leI hn ha)
theorem kEL {a n : Nat} (ha : a < 2 ^ 31) (hn : OfNat.ofNat n < 2 ^ 31) : (nI a = no_index (OfNat.ofNat n : Int32)) = (a = OfNat.ofNat n) := propext (nI_eq ha hn)
theorem kLt {a b : Nat} (ha : a < 2 ^ 31) (hb : b < 2 ^ 31) : (nI a < nI b) = (a < b) := propext (nI_ltI ha hb)
theorem kLe {a b : Nat} (ha : a < 2 ^ 31) (hb : b < 2 ^ 31) : (nI a ≤ nI b) = (a ≤ b) := propext (nI_leI ha hb)
theorem kEq {a b : Nat} (ha : a < 2 ^ 31) (hb : b < 2 ^ 31) : (nI a = nI b) = (a = b) := propext (nI_eq ha hb)
theorem kCl {a : Nat} (ha : a < 2 ^ 31) : (nI a).toNatClampNeg = a := nI_clamp ha
theorem kClL {n : Nat} (ha : OfNat.ofNat n < 2 ^ 31) : (no_index (OfNat.ofNat n : Int32)).toNatClampNeg = OfNat.ofNat n := nI_clamp ha
theorem kIn {a N : Nat} (h : a < N) (hN : N < 2 ^ 31) : (inB (nI a) N = true) = True := eq_true (inB_nI h hN)
theorem kInL {n N : Nat} (h : OfNat.ofNat n < N) (hN : N < 2 ^ 31) : (inB (no_index (OfNat.ofNat n : Int32)) N = true) = True := eq_true (inB_nI h hN)
theorem kM1 {a : Nat} (ha : a < 2 ^ 31) : (nI a = -1) = False := nI_m1 ha
theorem kM1' {a : Nat} (ha : a < 2 ^ 31) : (-1 = nI a) = False := eq_false (fun q => Eq.mp (nI_m1 ha) q.symm)
theorem kDecLe {a N : Nat} (h : a ≤ N) : (decide (a ≤ N)) = true := decide_eq_true h
theorem kDecNeg {a : Nat} (h : a < 2 ^ 31) : decide (nI a < 0) = false := decide_eq_false (nI_pos h)
theorem kBt {p : Prop} [Decidable p] (h : p) : b2 p = 1 := if_pos h
theorem kIte {p : Prop} [Decidable p] {d : Nat} {M : Nat} {a b : PV} {r : List PV} {σ : St} {Q : Option PV → St → Prop} : (if p then Ca d M (a :: r) σ Q else Ca d M (b :: r) σ Q) ↔ Ca d M ((if p then a else b) :: r) σ Q := by split <;> exact Iff.rfl
/-! bits -/
theorem kAnd (a b : Nat) : nI a &&& nI b = nI (a &&& b) := by
  apply Int32.toBitVec_inj.mp
  apply BitVec.eq_of_toNat_eq
  show (a % 2 ^ 32) &&& (b % 2 ^ 32) = (a &&& b) % 2 ^ 32
  rw [Nat.and_mod_two_pow]
theorem kOr (a b : Nat) : nI a ||| nI b = nI (a ||| b) := by
  apply Int32.toBitVec_inj.mp
  apply BitVec.eq_of_toNat_eq
  show (a % 2 ^ 32) ||| (b % 2 ^ 32) = (a ||| b) % 2 ^ 32
  rw [Nat.or_mod_two_pow]
theorem kXor (a b : Nat) : nI a ^^^ nI b = nI (a ^^^ b) := by
  apply Int32.toBitVec_inj.mp
  apply BitVec.eq_of_toNat_eq
  show (a % 2 ^ 32) ^^^ (b % 2 ^ 32) = (a ^^^ b) % 2 ^ 32
  rw [Nat.xor_mod_two_pow]
/-- a without the bits of b -/
def dif (a b : Nat) : Nat := a ^^^ (a &&& b)
theorem kDif (a b : Nat) : nI a &&& (nI b ^^^ (-1)) = nI (dif a b) := by
  unfold dif
  rw [← kXor, ← kAnd]
  apply Int32.toBitVec_inj.mp
  apply BitVec.eq_of_getLsbD_eq
  intro i hi
  show ((nI a).toBitVec &&& ((nI b).toBitVec ^^^ (-1 : Int32).toBitVec)).getLsbD i = ((nI a).toBitVec ^^^ ((nI a).toBitVec &&& (nI b).toBitVec)).getLsbD i
  rw [show (-1 : Int32).toBitVec = BitVec.allOnes 32 by decide]
  simp only [BitVec.getLsbD_and, BitVec.getLsbD_xor, BitVec.getLsbD_allOnes, hi, decide_true]
  cases (nI a).toBitVec.getLsbD i <;> cases (nI b).toBitVec.getLsbD i <;> rfl
theorem dif_bit (a b i : Nat) : (dif a b).testBit i = (a.testBit i && !b.testBit i) := by
  unfold dif
  rw [Nat.testBit_xor, Nat.testBit_and]
  cases a.testBit i <;> cases b.testBit i <;> rfl
theorem kShl : ∀ k, k < 31 → (1 : Int32) <<< (nI k &&& 31) = nI (2 ^ k) := by decide
theorem kShr {a : Nat} (ha : a < 2 ^ 31) : ∀ k, k < 31 → nI a >>> (nI k &&& 31) = nI (a / 2 ^ k) := by
  intro k hk
  refine pk_shrN ha _ k ?_
  have : ∀ k, k < 31 → ((nI k &&& 31).toBitVec.smod 32).toNat = k := by decide
  exact this k hk
theorem kHas {a : Nat} (ha : a < 2 ^ 31) {k : Nat} (hk : k < 31) : (nI a >>> (nI k &&& 31)) &&& 1 = b2 (a.testBit k = true) := by
  rw [kShr ha k hk, show (1 : Int32) = nI 1 from rfl, kAnd]
  have e : a / 2 ^ k &&& 1 = (a.testBit k).toNat := by
    rw [Nat.and_one_is_mod, Nat.toNat_testBit]
  rw [e]
  unfold b2
  cases a.testBit k <;> rfl
theorem b2_1 {p : Prop} [Decidable p] : b2 p = 1 ↔ p := by unfold b2; split <;> simp [*]
def pop7 (m : Nat) : Nat := ((List.range 7).filter fun i => m.testBit i).length
/-! frames -/
def Fm (I : Nat → Nat → Bool) (L : Nat → Bool) (σ σ' : St) : Prop := (∀ a i, I a i = false → rI σ' a i = rI σ a i) ∧ (∀ a i, L a = false → rL σ' a i = rL σ a i) ∧ (∀ a b, rR σ' a b = rR σ a b) ∧ sS σ' = sS σ ∧ sX σ' = sX σ
theorem Fm_rf {I : Nat → Nat → Bool} {L : Nat → Bool} {σ : St} : Fm I L σ σ := ⟨fun _ _ _ => rfl, fun _ _ _ => rfl, fun _ _ => rfl, rfl, rfl⟩
theorem Fm_tr {I : Nat → Nat → Bool} {L : Nat → Bool} {a b c : St} (h : Fm I L a b) (h2 : Fm I L b c) : Fm I L a c := ⟨fun x i q => (h2.1 x i q).trans (h.1 x i q), fun x i q => (h2.2.1 x i q).trans (h.2.1 x i q), fun x y => (h2.2.2.1 x y).trans (h.2.2.1 x y), h2.2.2.2.1.trans h.2.2.2.1, h2.2.2.2.2.trans h.2.2.2.2⟩
theorem Fm_wI {I : Nat → Nat → Bool} {L : Nat → Bool} {σ : St} {k i : Nat} {x : Int32} (h : I k i = true) : Fm I L σ (wI σ k i x) := ⟨fun a j q => by
  rw [rI_wI]
  split
  · rename_i e; rw [e.1, e.2, h] at q; cases q
  · rfl, fun _ _ _ => rfl, fun _ _ => rfl, rfl, rfl⟩
theorem Fm_wL {I : Nat → Nat → Bool} {L : Nat → Bool} {σ : St} {k i : Nat} {x : Int64} (h : L k = true) : Fm I L σ (wL σ k i x) := ⟨fun _ _ _ => rfl, fun a j q => by
  rw [rL_wL]
  split
  · rename_i e; rw [e.1, h] at q; cases q
  · rfl, fun _ _ => rfl, rfl, rfl⟩
theorem Fm_fI {I : Nat → Nat → Bool} {L : Nat → Bool} {σ : St} {k b n : Nat} {f : Nat → Int32} (h : ∀ i, b ≤ i → i < b + n → I k i = true) : Fm I L σ (fI σ k b n f) := ⟨fun a j q => by
  rw [rI_fI]
  split
  · rename_i e; rw [e.1, h j e.2.1 e.2.2] at q; cases q
  · rfl, fun _ _ _ => rfl, fun _ _ => rfl, rfl, rfl⟩
theorem Fm_mono {I I' : Nat → Nat → Bool} {L L' : Nat → Bool} {σ σ' : St} (h : Fm I L σ σ') (hI : ∀ a i, I a i = true → I' a i = true) (hL : ∀ a, L a = true → L' a = true) : Fm I' L' σ σ' :=
  ⟨fun a i q => h.1 a i (by cases e : I a i with | false => rfl | true => rw [hI a i e] at q; cases q), fun a i q => h.2.1 a i (by cases e : L a with | false => rfl | true => rw [hL a e] at q; cases q), h.2.2⟩
theorem MI_fm {I : Nat → Nat → Bool} {L : Nat → Bool} {σ σ' : St} {N : Net} (h : MI σ N) (hf : Fm I L σ σ') (hI : ∀ i, I 98 i = false) : MI σ' N :=
  ⟨MF_of h.1 hf.2.2.1 hf.2.2.2.1, by
    have e : rI σ' 98 = rI σ 98 := funext fun i => hf.1 98 i (hI i)
    unfold MN
    rw [e]; exact h.2.1, h.2.2⟩
theorem MI_wI {σ : St} {N : Net} {k i : Nat} {x : Int32} (h : MI σ N) (hk : k ≠ 98) : MI (wI σ k i x) N := ⟨h.1, by unfold MN; rw [rI_wI_n (fun q => hk q.symm)]; exact h.2.1, h.2.2⟩
theorem MI_wL {σ : St} {N : Net} {k i : Nat} {x : Int64} (h : MI σ N) : MI (wL σ k i x) N := h
theorem rI_fI_n {σ : St} {k b n j : Nat} {f : Nat → Int32} (h : j ≠ k) : rI (fI σ k b n f) j = rI σ j := funext fun i => by rw [rI_fI, if_neg (fun q => h q.1)]
theorem MI_fI {σ : St} {N : Net} {k b n : Nat} {f : Nat → Int32} (h : MI σ N) (hk : k ≠ 98) : MI (fI σ k b n f) N := ⟨h.1, by unfold MN; rw [rI_fI_n (fun q => hk q.symm)]; exact h.2.1, h.2.2⟩
/-- the reference's scratch -/
def I9 (a i : Nat) : Bool := decide ((102 ≤ a ∧ a ≤ 105) ∨ a = 107 ∨ (109 ≤ a ∧ a ≤ 114) ∨ (a = 97 ∧ (i = 7 ∨ i = 8 ∨ i = 9 ∨ i = 12 ∨ i = 14 ∨ i = 28)))
def L9 (a : Nat) : Bool := decide (a = 97 ∨ a = 108)
def Sc (σ σ' : St) : Prop := Fm I9 L9 σ σ'
/-- and the web set aside -/
def I9a (a i : Nat) : Bool := I9 a i || a.beq 100
def Sa (σ σ' : St) : Prop := Fm I9a L9 σ σ'
theorem Sc_Sa {σ σ' : St} (h : Sc σ σ') : Sa σ σ' := Fm_mono h (fun a i q => by unfold I9a; rw [q]; rfl) (fun _ q => q)
theorem Sa_Fr9 {σ σ' : St} (h : Sa σ σ') : Fr9 σ σ' := ⟨fun a ha => funext fun i => h.1 a i (by
  unfold I9a I9
  rw [show Nat.beq a 100 = false from by rw [← Bool.not_eq_true]; intro q; have := Nat.eq_of_beq_eq_true q; omega, Bool.or_false]
  exact decide_eq_false (by omega)), fun a ha => funext fun i => h.2.1 a i (by unfold L9; exact decide_eq_false (by omega)), h.2.2.1, h.2.2.2.1, h.2.2.2.2⟩
theorem Sa_MS {σ σ' : St} {S : MSt} (h : MS σ S) (hs : Sa σ σ') : MS σ' S := by
  obtain ⟨⟨a1, a2, a3⟩, b, c, d, e, f, g⟩ := h
  have k98 : rI σ' 98 = rI σ 98 := funext fun i => hs.1 98 i rfl
  have k99 : rI σ' 99 = rI σ 99 := funext fun i => hs.1 99 i rfl
  have k101 : rI σ' 101 = rI σ 101 := funext fun i => hs.1 101 i rfl
  have k106 : rI σ' 106 = rI σ 106 := funext fun i => hs.1 106 i rfl
  have k115 : rI σ' 115 = rI σ 115 := funext fun i => hs.1 115 i rfl
  have k116 : rI σ' 116 = rI σ 116 := funext fun i => hs.1 116 i rfl
  have k117 : rI σ' 117 = rI σ 117 := funext fun i => hs.1 117 i rfl
  have l118 : rL σ' 118 = rL σ 118 := funext fun i => hs.2.1 118 i rfl
  refine ⟨⟨MF_of a1 hs.2.2.1 hs.2.2.2.1, by unfold MN; rw [k98]; exact a2, a3⟩, by rw [hs.1 97 4 rfl]; exact b, fun K hK => ?_, ?_, fun i hi => by rw [k106]; exact e i hi, by rw [hs.1 97 20 rfl]; exact f, ?_⟩
  · obtain ⟨q1, q2⟩ := c K hK
    exact ⟨by unfold MN; rw [k99]; exact q1, q2⟩
  · unfold tpOf
    rw [hs.1 97 6 rfl, k101]; exact d
  · unfold shOf
    rw [k115, k116, k117, l118]; exact g
theorem Sc_Fr9 {σ σ' : St} (h : Sc σ σ') : Fr9 σ σ' := Sa_Fr9 (Sc_Sa h)
theorem Sc_MS {σ σ' : St} {S : MSt} (h : MS σ S) (hs : Sc σ σ') : MS σ' S := Sa_MS h (Sc_Sa hs)
