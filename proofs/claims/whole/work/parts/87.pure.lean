/-! ===== the two ways to count a cost are one (pure) ===== -/
theorem pdR_cstI {N : Net} {g : Nat} : ∀ r i v, pdR N g r i v = cstI N g r i v
  | 0, _, _ => rfl
  | r + 1, i, v => by
    show pdR N g r (i + 1) (if g.testBit i = true then v * nS N i else v) = _
    rw [pdR_cstI r (i + 1)]
    show _ = cstI N g r (i + 1) (v * (if g.testBit i = true then nS N i else 1))
    by_cases c : g.testBit i = true
    · rw [if_pos c, if_pos c]
    · rw [if_neg c, if_neg c, Nat.mul_one]
theorem cstR_cstO {N : Net} {G : Nat → Nat} : ∀ r k v, cstR N G r k v = cstO N G r k v
  | 0, _, _ => rfl
  | r + 1, k, v => by
    show cstR N G r (k + 1) (v + pdR N (G k) (nM N) 0 1) = _
    rw [cstR_cstO r (k + 1), pdR_cstI]
    rfl
