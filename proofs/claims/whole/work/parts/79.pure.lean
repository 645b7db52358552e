/-! ===== one leaves: the two ways agree (pure) ===== -/
theorem lvI_s {n a : Nat} : ∀ r b (nr : Nat → Nat), (nr n).testBit n = false → lvI n a r b nr n = nr n ∧ ∀ x j, (lvI n a r b nr x).testBit j = ((nr x).testBit j || (decide (x = a) && ((nr n).testBit a && (decide (a ≠ j) && (decide (b ≤ j ∧ j < b + r) && (nr n).testBit j)))))
  | 0, b, nr, hn => ⟨rfl, fun x j => by
    rw [show decide (b ≤ j ∧ j < b + 0) = false from decide_eq_false (by omega), Bool.false_and, Bool.and_false, Bool.and_false, Bool.and_false, Bool.or_false]; rfl⟩
  | r + 1, b, nr, hn => by
    show lvI n a r (b + 1) (if ¬ a = b ∧ ((nr n).testBit a && (nr n).testBit b) = true then up nr a (nr a ||| 2 ^ b) else nr) n = nr n ∧ ∀ x j, (lvI n a r (b + 1) (if ¬ a = b ∧ ((nr n).testBit a && (nr n).testBit b) = true then up nr a (nr a ||| 2 ^ b) else nr) x).testBit j = _
    by_cases c : ¬ a = b ∧ ((nr n).testBit a && (nr n).testBit b) = true
    · rw [if_pos c]
      have c2 := Bool.and_eq_true_iff.mp c.2
      have na : n ≠ a := fun q => by
        have := c2.1
        rw [← q, hn] at this; cases this
      have en : up nr a (nr a ||| 2 ^ b) n = nr n := up_n na
      obtain ⟨i1, i2⟩ := lvI_s (n := n) (a := a) r (b + 1) (up nr a (nr a ||| 2 ^ b)) (by rw [en]; exact hn)
      rw [en] at i1 i2
      refine ⟨i1, fun x j => ?_⟩
      rw [i2 x j]
      by_cases cx : x = a
      · subst cx
        rw [up_s, Nat.testBit_or, Nat.testBit_two_pow, decide_eq_true rfl, Bool.true_and, Bool.true_and, c2.1, Bool.true_and, Bool.true_and]
        by_cases cj : b = j
        · subst cj
          rw [decide_eq_true (show b = b from rfl), show decide (b ≤ b ∧ b < b + (r + 1)) = true from decide_eq_true (by omega), show decide (x ≠ b) = true from decide_eq_true c.1, c2.2, Bool.or_true, Bool.true_or, Bool.true_and, Bool.true_and, Bool.or_true]
        · rw [decide_eq_false cj, Bool.or_false, show decide (b + 1 ≤ j ∧ j < b + 1 + r) = decide (b ≤ j ∧ j < b + (r + 1)) from decide_eq_decide.mpr (by omega)]
      · rw [up_n cx, decide_eq_false cx, Bool.false_and, Bool.false_and]
    · rw [if_neg c]
      obtain ⟨i1, i2⟩ := lvI_s (n := n) (a := a) r (b + 1) nr hn
      refine ⟨i1, fun x j => ?_⟩
      rw [i2 x j]
      by_cases cj : b = j
      · subst cj
        have z : ((nr n).testBit a && (decide (a ≠ b) && (nr n).testBit b)) = false := by
          by_cases q : a = b
          · rw [show decide (a ≠ b) = false from decide_eq_false (fun w => w q), Bool.false_and, Bool.and_false]
          · rw [show decide (a ≠ b) = true from decide_eq_true q, Bool.true_and]
            exact Bool.eq_false_iff.mpr (fun w => c ⟨q, w⟩)
        rw [show decide (b + 1 ≤ b ∧ b < b + 1 + r) = false from decide_eq_false (by omega), show decide (b ≤ b ∧ b < b + (r + 1)) = true from decide_eq_true (by omega), Bool.false_and, Bool.true_and, z, Bool.and_false, Bool.and_false, Bool.and_false]
      · rw [show decide (b + 1 ≤ j ∧ j < b + 1 + r) = decide (b ≤ j ∧ j < b + (r + 1)) from decide_eq_decide.mpr (by omega)]
theorem lvO_s {n m : Nat} : ∀ r a (nr : Nat → Nat), (nr n).testBit n = false → lvO n m r a nr n = nr n ∧ ∀ x j, (lvO n m r a nr x).testBit j = ((nr x).testBit j || (decide (a ≤ x ∧ x < a + r) && ((nr n).testBit x && (decide (x ≠ j) && (decide (j < m) && (nr n).testBit j)))))
  | 0, a, nr, hn => ⟨rfl, fun x j => by
    rw [show decide (a ≤ x ∧ x < a + 0) = false from decide_eq_false (by omega), Bool.false_and, Bool.or_false]; rfl⟩
  | r + 1, a, nr, hn => by
    show lvO n m r (a + 1) (lvI n a m 0 nr) n = nr n ∧ ∀ x j, (lvO n m r (a + 1) (lvI n a m 0 nr) x).testBit j = _
    obtain ⟨i1, i2⟩ := lvI_s (n := n) (a := a) m 0 nr hn
    obtain ⟨o1, o2⟩ := lvO_s (n := n) (m := m) r (a + 1) (lvI n a m 0 nr) (by rw [i1]; exact hn)
    rw [i1] at o1 o2
    refine ⟨o1, fun x j => ?_⟩
    rw [o2 x j, i2 x j, show decide (0 ≤ j ∧ j < 0 + m) = decide (j < m) from decide_eq_decide.mpr (by omega)]
    by_cases cx : x = a
    · subst cx
      rw [decide_eq_true (show x = x from rfl), show decide (x + 1 ≤ x ∧ x < x + 1 + r) = false from decide_eq_false (by omega), show decide (x ≤ x ∧ x < x + (r + 1)) = true from decide_eq_true (by omega), Bool.false_and, Bool.or_false]
    · rw [decide_eq_false cx, Bool.false_and, Bool.or_false, show decide (a + 1 ≤ x ∧ x < a + 1 + r) = decide (a ≤ x ∧ x < a + (r + 1)) from decide_eq_decide.mpr (by omega)]
theorem lv2_s {n : Nat} : ∀ r a (nr : Nat → Nat) x j, (lv2 n r a nr x).testBit j = ((nr x).testBit j && !(decide (a ≤ x ∧ x < a + r) && decide (n = j)))
  | 0, a, nr, x, j => by
    rw [show decide (a ≤ x ∧ x < a + 0) = false from decide_eq_false (by omega), Bool.false_and, Bool.not_false, Bool.and_true]; rfl
  | r + 1, a, nr, x, j => by
    show (lv2 n r (a + 1) (up nr a (dif (nr a) (2 ^ n))) x).testBit j = _
    rw [lv2_s r (a + 1)]
    by_cases cx : x = a
    · subst cx
      rw [up_s, dif_bit, Nat.testBit_two_pow, show decide (x + 1 ≤ x ∧ x < x + 1 + r) = false from decide_eq_false (by omega), show decide (x ≤ x ∧ x < x + (r + 1)) = true from decide_eq_true (by omega), Bool.false_and, Bool.not_false, Bool.and_true, Bool.true_and]
    · rw [up_n cx, show decide (a + 1 ≤ x ∧ x < a + 1 + r) = decide (a ≤ x ∧ x < a + (r + 1)) from decide_eq_decide.mpr (by omega)]
/-- how the class lets n leave -/
def lcS (nr : Nat → Nat) (n : Nat) : Nat → Nat := fun i => if i = n then 0 else if (nr n).testBit i = true then dif (dif (nr i ||| nr n) (2 ^ i)) (2 ^ n) else nr i
theorem lcS_lvS {nr : Nat → Nat} {n m : Nat} (h : SY nr m) (hn : n < m) : lcS nr n = lvS nr n m := by
  funext i
  refine Nat.eq_of_testBit_eq (fun j => ?_)
  unfold lcS lvS
  by_cases ci : i = n
  · rw [if_pos ci, ci, up_s]
  · rw [if_neg ci, up_n ci, lv2_s, (lvO_s m 0 nr (h.2.1 n)).2]
    have hjm : (decide (j < m) && (nr n).testBit j) = (nr n).testBit j := by
      by_cases c : j < m
      · rw [decide_eq_true c, Bool.true_and]
      · rw [SY_hi h (by omega), Bool.and_false]
    rw [hjm]
    by_cases c : (nr n).testBit i = true
    · have im : i < m := by
        refine Nat.lt_of_not_le (fun q => ?_)
        rw [SY_hi h q] at c; cases c
      rw [if_pos c, dif_bit, dif_bit, Nat.testBit_or, Nat.testBit_two_pow, Nat.testBit_two_pow, c, show decide (0 ≤ i ∧ i < 0 + m) = true from decide_eq_true (by omega), Bool.true_and, Bool.true_and, Bool.true_and]
      by_cases cj : i = j
      · subst cj
        rw [h.2.1 i, decide_eq_true (show i = i from rfl), show decide (i ≠ i) = false from decide_eq_false (fun q => q rfl), Bool.not_true, Bool.and_false, Bool.false_and, Bool.false_and, Bool.false_or, Bool.false_and]
      · rw [decide_eq_false cj, show decide (i ≠ j) = true from decide_eq_true cj, Bool.not_false, Bool.and_true, Bool.true_and]
    · rw [if_neg c, Bool.eq_false_iff.mpr c, Bool.false_and, Bool.and_false, Bool.or_false]
      by_cases cj : n = j
      · subst cj
        rw [h.1 i n, Bool.eq_false_iff.mpr c, Bool.false_and]
      · rw [decide_eq_false cj, Bool.and_false, Bool.not_false, Bool.and_true]
