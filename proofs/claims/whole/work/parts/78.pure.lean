/-! ===== who leaves: the two ways agree (pure) ===== -/
def SY (nr : Nat → Nat) (m : Nat) : Prop := (∀ i j, (nr i).testBit j = (nr j).testBit i) ∧ (∀ i, (nr i).testBit i = false) ∧ ∀ i, m ≤ i → nr i = 0
theorem SY_hi {nr : Nat → Nat} {m i j : Nat} (h : SY nr m) (hj : m ≤ j) : (nr i).testBit j = false := by
  rw [h.1 i j, h.2.2 j hj]; exact Nat.zero_testBit i
def sR (f : Nat → Nat) : Nat → Nat → Nat
  | 0, _ => 0
  | r + 1, b => f b + sR f r (b + 1)
theorem flI_s {nr : Nat → Nat} {n a : Nat} : ∀ r b v, flI nr n a r b v = v + sR (fun b => (fb nr n a b).toNat) r b
  | 0, _, v => rfl
  | r + 1, b, v => by
    show flI nr n a r (b + 1) (if fb nr n a b = true then v + 1 else v) = v + ((fb nr n a b).toNat + sR (fun b => (fb nr n a b).toNat) r (b + 1))
    rw [flI_s r (b + 1)]
    cases fb nr n a b with
    | true => rw [if_pos rfl]; show v + 1 + _ = v + (1 + _); omega
    | false => rw [if_neg (fun q => by cases q)]; show v + _ = v + (0 + _); omega
theorem flO_s {nr : Nat → Nat} {n m : Nat} : ∀ r a v, flO nr n m r a v = v + sR (fun a => sR (fun b => (fb nr n a b).toNat) (m - (a + 1)) (a + 1)) r a
  | 0, _, v => rfl
  | r + 1, a, v => by
    show flO nr n m r (a + 1) (flI nr n a (m - (a + 1)) (a + 1) v) = v + (sR (fun b => (fb nr n a b).toNat) (m - (a + 1)) (a + 1) + _)
    rw [flO_s r (a + 1), flI_s]
    omega
theorem pop7_sR : ∀ x, x < 128 → pop7 x = sR (fun b => (x.testBit b).toNat) 7 0 := by decide +kernel
theorem sR_eq {f g : Nat → Nat} : ∀ r b, (∀ i, b ≤ i → i < b + r → f i = g i) → sR f r b = sR g r b
  | 0, _, _ => rfl
  | r + 1, b, h => by
    show f b + sR f r (b + 1) = g b + sR g r (b + 1)
    rw [h b (Nat.le_refl b) (by omega), sR_eq r (b + 1) (fun i h1 h2 => h i (by omega) (by omega))]
def fg (nr : Nat → Nat) (n a b : Nat) : Nat := if a = b then 0 else (fb nr n a b).toNat
theorem fcO_s {nr : Nat → Nat} {n : Nat} (hn : nr n < 128) : ∀ r i v, fcO nr n r i v = v + sR (fun i => sR (fun b => fg nr n i b) 7 0) r i
  | 0, _, v => rfl
  | r + 1, i, v => by
    show fcO nr n r (i + 1) (if (nr n).testBit i = true then v + pop7 (dif (dif (nr n) (nr i)) (2 ^ i)) else v) = v + (sR (fun b => fg nr n i b) 7 0 + sR (fun i => sR (fun b => fg nr n i b) 7 0) r (i + 1))
    rw [fcO_s hn r (i + 1)]
    have e : (if (nr n).testBit i = true then v + pop7 (dif (dif (nr n) (nr i)) (2 ^ i)) else v) = v + sR (fun b => fg nr n i b) 7 0 := by
      by_cases c : (nr n).testBit i = true
      · rw [if_pos c, pop7_sR _ (dif_128 (dif_128 hn))]
        refine congrArg (v + ·) (sR_eq 7 0 (fun b _ _ => ?_))
        unfold fg fb
        rw [dif_bit, dif_bit, c, Nat.testBit_two_pow]
        by_cases c2 : i = b
        · rw [if_pos c2, decide_eq_true c2, Bool.not_true, Bool.and_false]; rfl
        · rw [if_neg c2, decide_eq_false c2, Bool.not_false, Bool.and_true, Bool.true_and]
      · rw [if_neg c]
        have z : sR (fun b => fg nr n i b) 7 0 = sR (fun _ => 0) 7 0 := sR_eq 7 0 (fun b _ _ => by
          unfold fg fb
          rw [Bool.eq_false_iff.mpr c, Bool.false_and]
          split <;> rfl)
        rw [z]; rfl
    rw [e]; omega
theorem tri7 {g : Nat → Nat → Nat} {m : Nat} (h7 : m ≤ 7) (hs : ∀ a b, g a b = g b a) (h0 : ∀ a, g a a = 0) (hz : ∀ a b, m ≤ b → g a b = 0) : sR (fun i => sR (fun b => g i b) 7 0) 7 0 = 2 * sR (fun a => sR (fun b => g a b) (m - (a + 1)) (a + 1)) m 0 := by
  have F : sR (fun i => sR (fun b => g i b) 7 0) 7 0 = ((g 0 0 + (g 0 1 + (g 0 2 + (g 0 3 + (g 0 4 + (g 0 5 + (g 0 6 + (0)))))))) + ((g 1 0 + (g 1 1 + (g 1 2 + (g 1 3 + (g 1 4 + (g 1 5 + (g 1 6 + (0)))))))) + ((g 2 0 + (g 2 1 + (g 2 2 + (g 2 3 + (g 2 4 + (g 2 5 + (g 2 6 + (0)))))))) + ((g 3 0 + (g 3 1 + (g 3 2 + (g 3 3 + (g 3 4 + (g 3 5 + (g 3 6 + (0)))))))) + ((g 4 0 + (g 4 1 + (g 4 2 + (g 4 3 + (g 4 4 + (g 4 5 + (g 4 6 + (0)))))))) + ((g 5 0 + (g 5 1 + (g 5 2 + (g 5 3 + (g 5 4 + (g 5 5 + (g 5 6 + (0)))))))) + ((g 6 0 + (g 6 1 + (g 6 2 + (g 6 3 + (g 6 4 + (g 6 5 + (g 6 6 + (0)))))))) + (0)))))))) := rfl
  have hm : m = 0 ∨ m = 1 ∨ m = 2 ∨ m = 3 ∨ m = 4 ∨ m = 5 ∨ m = 6 ∨ m = 7 := by omega
  rw [F]
  clear F
  rw [h0 0]
  rw [h0 1]
  rw [h0 2]
  rw [h0 3]
  rw [h0 4]
  rw [h0 5]
  rw [h0 6]
  rw [hs 1 0]
  rw [hs 2 0]
  rw [hs 2 1]
  rw [hs 3 0]
  rw [hs 3 1]
  rw [hs 3 2]
  rw [hs 4 0]
  rw [hs 4 1]
  rw [hs 4 2]
  rw [hs 4 3]
  rw [hs 5 0]
  rw [hs 5 1]
  rw [hs 5 2]
  rw [hs 5 3]
  rw [hs 5 4]
  rw [hs 6 0]
  rw [hs 6 1]
  rw [hs 6 2]
  rw [hs 6 3]
  rw [hs 6 4]
  rw [hs 6 5]
  rcases hm with rfl | rfl | rfl | rfl | rfl | rfl | rfl | rfl
  · have T : sR (fun a => sR (fun b => g a b) (0 - (a + 1)) (a + 1)) 0 0 = (0) := rfl
    rw [T]
    rw [hz 0 1 (by decide)]
    rw [hz 0 2 (by decide)]
    rw [hz 0 3 (by decide)]
    rw [hz 0 4 (by decide)]
    rw [hz 0 5 (by decide)]
    rw [hz 0 6 (by decide)]
    rw [hz 1 2 (by decide)]
    rw [hz 1 3 (by decide)]
    rw [hz 1 4 (by decide)]
    rw [hz 1 5 (by decide)]
    rw [hz 1 6 (by decide)]
    rw [hz 2 3 (by decide)]
    rw [hz 2 4 (by decide)]
    rw [hz 2 5 (by decide)]
    rw [hz 2 6 (by decide)]
    rw [hz 3 4 (by decide)]
    rw [hz 3 5 (by decide)]
    rw [hz 3 6 (by decide)]
    rw [hz 4 5 (by decide)]
    rw [hz 4 6 (by decide)]
    rw [hz 5 6 (by decide)]
    try omega
  · have T : sR (fun a => sR (fun b => g a b) (1 - (a + 1)) (a + 1)) 1 0 = ((0) + (0)) := rfl
    rw [T]
    rw [hz 0 1 (by decide)]
    rw [hz 0 2 (by decide)]
    rw [hz 0 3 (by decide)]
    rw [hz 0 4 (by decide)]
    rw [hz 0 5 (by decide)]
    rw [hz 0 6 (by decide)]
    rw [hz 1 2 (by decide)]
    rw [hz 1 3 (by decide)]
    rw [hz 1 4 (by decide)]
    rw [hz 1 5 (by decide)]
    rw [hz 1 6 (by decide)]
    rw [hz 2 3 (by decide)]
    rw [hz 2 4 (by decide)]
    rw [hz 2 5 (by decide)]
    rw [hz 2 6 (by decide)]
    rw [hz 3 4 (by decide)]
    rw [hz 3 5 (by decide)]
    rw [hz 3 6 (by decide)]
    rw [hz 4 5 (by decide)]
    rw [hz 4 6 (by decide)]
    rw [hz 5 6 (by decide)]
    try omega
  · have T : sR (fun a => sR (fun b => g a b) (2 - (a + 1)) (a + 1)) 2 0 = ((g 0 1 + (0)) + ((0) + (0))) := rfl
    rw [T]
    rw [hz 0 2 (by decide)]
    rw [hz 0 3 (by decide)]
    rw [hz 0 4 (by decide)]
    rw [hz 0 5 (by decide)]
    rw [hz 0 6 (by decide)]
    rw [hz 1 2 (by decide)]
    rw [hz 1 3 (by decide)]
    rw [hz 1 4 (by decide)]
    rw [hz 1 5 (by decide)]
    rw [hz 1 6 (by decide)]
    rw [hz 2 3 (by decide)]
    rw [hz 2 4 (by decide)]
    rw [hz 2 5 (by decide)]
    rw [hz 2 6 (by decide)]
    rw [hz 3 4 (by decide)]
    rw [hz 3 5 (by decide)]
    rw [hz 3 6 (by decide)]
    rw [hz 4 5 (by decide)]
    rw [hz 4 6 (by decide)]
    rw [hz 5 6 (by decide)]
    omega
  · have T : sR (fun a => sR (fun b => g a b) (3 - (a + 1)) (a + 1)) 3 0 = ((g 0 1 + (g 0 2 + (0))) + ((g 1 2 + (0)) + ((0) + (0)))) := rfl
    rw [T]
    rw [hz 0 3 (by decide)]
    rw [hz 0 4 (by decide)]
    rw [hz 0 5 (by decide)]
    rw [hz 0 6 (by decide)]
    rw [hz 1 3 (by decide)]
    rw [hz 1 4 (by decide)]
    rw [hz 1 5 (by decide)]
    rw [hz 1 6 (by decide)]
    rw [hz 2 3 (by decide)]
    rw [hz 2 4 (by decide)]
    rw [hz 2 5 (by decide)]
    rw [hz 2 6 (by decide)]
    rw [hz 3 4 (by decide)]
    rw [hz 3 5 (by decide)]
    rw [hz 3 6 (by decide)]
    rw [hz 4 5 (by decide)]
    rw [hz 4 6 (by decide)]
    rw [hz 5 6 (by decide)]
    omega
  · have T : sR (fun a => sR (fun b => g a b) (4 - (a + 1)) (a + 1)) 4 0 = ((g 0 1 + (g 0 2 + (g 0 3 + (0)))) + ((g 1 2 + (g 1 3 + (0))) + ((g 2 3 + (0)) + ((0) + (0))))) := rfl
    rw [T]
    rw [hz 0 4 (by decide)]
    rw [hz 0 5 (by decide)]
    rw [hz 0 6 (by decide)]
    rw [hz 1 4 (by decide)]
    rw [hz 1 5 (by decide)]
    rw [hz 1 6 (by decide)]
    rw [hz 2 4 (by decide)]
    rw [hz 2 5 (by decide)]
    rw [hz 2 6 (by decide)]
    rw [hz 3 4 (by decide)]
    rw [hz 3 5 (by decide)]
    rw [hz 3 6 (by decide)]
    rw [hz 4 5 (by decide)]
    rw [hz 4 6 (by decide)]
    rw [hz 5 6 (by decide)]
    omega
  · have T : sR (fun a => sR (fun b => g a b) (5 - (a + 1)) (a + 1)) 5 0 = ((g 0 1 + (g 0 2 + (g 0 3 + (g 0 4 + (0))))) + ((g 1 2 + (g 1 3 + (g 1 4 + (0)))) + ((g 2 3 + (g 2 4 + (0))) + ((g 3 4 + (0)) + ((0) + (0)))))) := rfl
    rw [T]
    rw [hz 0 5 (by decide)]
    rw [hz 0 6 (by decide)]
    rw [hz 1 5 (by decide)]
    rw [hz 1 6 (by decide)]
    rw [hz 2 5 (by decide)]
    rw [hz 2 6 (by decide)]
    rw [hz 3 5 (by decide)]
    rw [hz 3 6 (by decide)]
    rw [hz 4 5 (by decide)]
    rw [hz 4 6 (by decide)]
    rw [hz 5 6 (by decide)]
    omega
  · have T : sR (fun a => sR (fun b => g a b) (6 - (a + 1)) (a + 1)) 6 0 = ((g 0 1 + (g 0 2 + (g 0 3 + (g 0 4 + (g 0 5 + (0)))))) + ((g 1 2 + (g 1 3 + (g 1 4 + (g 1 5 + (0))))) + ((g 2 3 + (g 2 4 + (g 2 5 + (0)))) + ((g 3 4 + (g 3 5 + (0))) + ((g 4 5 + (0)) + ((0) + (0))))))) := rfl
    rw [T]
    rw [hz 0 6 (by decide)]
    rw [hz 1 6 (by decide)]
    rw [hz 2 6 (by decide)]
    rw [hz 3 6 (by decide)]
    rw [hz 4 6 (by decide)]
    rw [hz 5 6 (by decide)]
    omega
  · have T : sR (fun a => sR (fun b => g a b) (7 - (a + 1)) (a + 1)) 7 0 = ((g 0 1 + (g 0 2 + (g 0 3 + (g 0 4 + (g 0 5 + (g 0 6 + (0))))))) + ((g 1 2 + (g 1 3 + (g 1 4 + (g 1 5 + (g 1 6 + (0)))))) + ((g 2 3 + (g 2 4 + (g 2 5 + (g 2 6 + (0))))) + ((g 3 4 + (g 3 5 + (g 3 6 + (0)))) + ((g 4 5 + (g 4 6 + (0))) + ((g 5 6 + (0)) + ((0) + (0)))))))) := rfl
    rw [T]
    omega
theorem fcS_fil {nr : Nat → Nat} {n m : Nat} (h : SY nr m) (h7 : m ≤ 7) (hn : nr n < 128) : fcS nr n = filS nr n m := by
  have hz : ∀ a b, m ≤ b → fg nr n a b = 0 := fun a b hb => by
    unfold fg fb
    rw [SY_hi (i := n) h hb, Bool.false_and, Bool.and_false]
    split <;> rfl
  have hs : ∀ a b, fg nr n a b = fg nr n b a := fun a b => by
    unfold fg fb
    by_cases c : a = b
    · rw [if_pos c, if_pos c.symm]
    · rw [if_neg c, if_neg (fun q => c q.symm), h.1 a b]
      cases (nr n).testBit a <;> cases (nr n).testBit b <;> rfl
  have t := tri7 h7 hs (fun a => if_pos rfl) hz
  unfold fcS filS
  rw [fcO_s hn, flO_s, Nat.zero_add, Nat.zero_add, t]
  have e : sR (fun a => sR (fun b => fg nr n a b) (m - (a + 1)) (a + 1)) m 0 = sR (fun a => sR (fun b => (fb nr n a b).toNat) (m - (a + 1)) (a + 1)) m 0 := sR_eq m 0 (fun a _ _ => sR_eq _ _ (fun b hb _ => if_neg (by omega)))
  rw [e]; omega
