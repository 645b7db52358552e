/-! ===== isParent of the reference ===== -/
def pP (m : Nat) (p : Int32) : Option (Option Nat) := if p = -1 then some none else match pN m p with
  | none => none
  | some k => some (some k)
theorem i_isParent {d : Nat} {Q : Option PV → St → Prop} {σ : St} {N : Net} (h : MI σ N) {p : Int32} : Ca (d + 3) 131 [vR 97 9, vI p] σ Q ↔ Q (some (vI (b2 (p = -1 ∨ (0 ≤ p ∧ p < nI (nM N)))))) σ := by
  rw [ca_at (K := kX9_isParent) (ls := [vR 97 9, vI p]) rfl rfl rfl]
  by_cases h1 : p = -1
  · subst h1
    rw [b2_t (Or.inl rfl)]
    simp only [z_X9_isParent_0, z_X9_isParent_1, z_X9_isParent_2, z_X9_isParent_5, z_X9_isParent_6, z_X9_isParent_7, z_X9_isParent_10, z_X9_isParent_13, z_X9_isParent_14, z_X9_isParent_17, z_X9_isParent_18, rk_b1, true_and, Option.toList_some, Option.toList_none, List.cons_append, List.nil_append, is2IT, is2RT, if_true, if_false]
  · by_cases h2 : 0 ≤ p ∧ p < nI (nM N)
    · rw [b2_t (Or.inr h2)]
      simp only [z_X9_isParent_0, z_X9_isParent_1, z_X9_isParent_2, z_X9_isParent_5, z_X9_isParent_6, z_X9_isParent_7, z_X9_isParent_10, z_X9_isParent_13, z_X9_isParent_14, z_X9_isParent_17, z_X9_isParent_18, i_isNode h, h1, h2, b2_0, and_self, not_true_eq_false, rk_b1, true_and, Option.toList_some, Option.toList_none, List.cons_append, List.nil_append, is2IT, is2RT, if_true, if_false]
    · rw [b2_f (fun q => q.elim h1 h2)]
      simp only [z_X9_isParent_0, z_X9_isParent_1, z_X9_isParent_2, z_X9_isParent_5, z_X9_isParent_6, z_X9_isParent_7, z_X9_isParent_10, z_X9_isParent_13, z_X9_isParent_14, z_X9_isParent_17, z_X9_isParent_18, i_isNode h, h1, h2, b2_0, not_false_eq_true, rk_b0, true_and, Option.toList_some, Option.toList_none, List.cons_append, List.nil_append, is2IT, is2RT, if_true, if_false]
/-! ===== a run of places filled, for loops ===== -/
def fI (σ : St) (k b n : Nat) (f : Nat → Int32) : St := (fun a i => if a = k ∧ b ≤ i ∧ i < b + n then f (i - b) else rI σ a i, σ.2)
theorem fI_0 {σ : St} {k b : Nat} {f : Nat → Int32} : fI σ k b 0 f = σ := by
  have e : (fun a i => if a = k ∧ b ≤ i ∧ i < b + 0 then f (i - b) else rI σ a i) = σ.1 := funext fun a => funext fun i => if_neg (fun q => by omega)
  show ((fun a i => if a = k ∧ b ≤ i ∧ i < b + 0 then f (i - b) else rI σ a i), σ.2) = σ
  rw [e]
theorem fI_s {σ : St} {k b n : Nat} {f : Nat → Int32} {x : Int32} (hx : x = f n) : wI (fI σ k b n f) k (b + n) x = fI σ k b (n + 1) f := by
  subst hx
  have e : (fun a i => if a = k ∧ i = b + n then f n else (if a = k ∧ b ≤ i ∧ i < b + n then f (i - b) else rI σ a i)) = (fun a i => if a = k ∧ b ≤ i ∧ i < b + (n + 1) then f (i - b) else rI σ a i) := funext fun a => funext fun i => by
    by_cases h1 : a = k ∧ i = b + n
    · rw [if_pos h1, if_pos ⟨h1.1, by omega, by omega⟩, h1.2, Nat.add_sub_cancel_left]
    · rw [if_neg h1]
      by_cases h2 : a = k ∧ b ≤ i ∧ i < b + n
      · rw [if_pos h2, if_pos ⟨h2.1, h2.2.1, by omega⟩]
      · rw [if_neg h2, if_neg (fun q => h2 ⟨q.1, q.2.1, by
          have : i ≠ b + n := fun w => h1 ⟨q.1, w⟩
          omega⟩)]
  show ((fun a i => if a = k ∧ i = b + n then f n else (if a = k ∧ b ≤ i ∧ i < b + n then f (i - b) else rI σ a i)), σ.2) = _
  rw [e]
  rfl
theorem rI_fI {σ : St} {k b n a i : Nat} {f : Nat → Int32} : rI (fI σ k b n f) a i = if a = k ∧ b ≤ i ∧ i < b + n then f (i - b) else rI σ a i := rfl
theorem rR_fI {σ : St} {k b n a i : Nat} {f : Nat → Int32} : rR (fI σ k b n f) a i = rR σ a i := rfl
theorem sh_fI {σ : St} {k b n a : Nat} {f : Nat → Int32} : sh (fI σ k b n f) a = sh σ a := rfl
