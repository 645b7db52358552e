/-! ===== isParent of the reference ===== -/
def pP (m : Nat) (p : Int32) : Option (Option Nat) := if p = -1 then some none else match pN m p with
  | none => none
  | some k => some (some k)
theorem i_isParent {d : Nat} {Q : Option PV → St → Prop} {σ : St} {N : Net} (h : MI σ N) {p : Int32} : Ca (d + 3) 131 [vR 97 9, vI p] σ Q ↔ Q (some (vI (b2 (p = -1 ∨ (0 ≤ p ∧ p < nI (nM N)))))) σ := by
  rw [ca_at (K := kX9_isParent) (ls := [vR 97 9, vI p]) rfl rfl rfl]
  by_cases h1 : p = -1
  · subst h1
    rw [b2_t (Or.inl rfl)]
    simp only [z_X9_isParent_0, z_X9_isParent_1, z_X9_isParent_2, z_X9_isParent_5, z_X9_isParent_6, z_X9_isParent_7, z_X9_isParent_10, z_X9_isParent_13, z_X9_isParent_14, z_X9_isParent_17, z_X9_isParent_18, rk_b1, true_and, Option.toList_some, Option.toList_none, List.cons_append, List.nil_append, is2IT, is2RT, if_true, if_false]
  · by_cases h2 : 0 ≤ p ∧ p < nI (nM N)
    · rw [b2_t (Or.inr h2)]
      simp only [z_X9_isParent_0, z_X9_isParent_1, z_X9_isParent_2, z_X9_isParent_5, z_X9_isParent_6, z_X9_isParent_7, z_X9_isParent_10, z_X9_isParent_13, z_X9_isParent_14, z_X9_isParent_17, z_X9_isParent_18, i_isNode h, h1, h2, b2_0, and_self, not_true_eq_false, rk_b1, true_and, Option.toList_some, Option.toList_none, List.cons_append, List.nil_append, is2IT, is2RT, if_true, if_false]
    · rw [b2_f (fun q => q.elim h1 h2)]
      simp only [z_X9_isParent_0, z_X9_isParent_1, z_X9_isParent_2, z_X9_isParent_5, z_X9_isParent_6, z_X9_isParent_7, z_X9_isParent_10, z_X9_isParent_13, z_X9_isParent_14, z_X9_isParent_17, z_X9_isParent_18, i_isNode h, h1, h2, b2_0, not_false_eq_true, rk_b0, true_and, Option.toList_some, Option.toList_none, List.cons_append, List.nil_append, is2IT, is2RT, if_true, if_false]
