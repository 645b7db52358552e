/-! ===== the reference's methods ===== -/
def b2 (p : Prop) [Decidable p] : Int32 := if p then 1 else 0
theorem rI_wI {σ : St} {k i a b : Nat} {x : Int32} : rI (wI σ k i x) a b = if a = k ∧ b = i then x else rI σ a b := rfl
theorem rL_wI {σ : St} {k i : Nat} {x : Int32} {a b : Nat} : rL (wI σ k i x) a b = rL σ a b := rfl
theorem rR_wI {σ : St} {k i : Nat} {x : Int32} {a b : Nat} : rR (wI σ k i x) a b = rR σ a b := rfl
theorem sh_wI {σ : St} {k i : Nat} {x : Int32} {a : Nat} : sh (wI σ k i x) a = sh σ a := rfl
theorem rI_wL {σ : St} {k i : Nat} {x : Int64} {a b : Nat} : rI (wL σ k i x) a b = rI σ a b := rfl
theorem rR_wL {σ : St} {k i : Nat} {x : Int64} {a b : Nat} : rR (wL σ k i x) a b = rR σ a b := rfl
theorem sh_wL {σ : St} {k i : Nat} {x : Int64} {a : Nat} : sh (wL σ k i x) a = sh σ a := rfl
theorem rL_wL {σ : St} {k i a b : Nat} {x : Int64} : rL (wL σ k i x) a b = if a = k ∧ b = i then x else rL σ a b := rfl
set_option maxHeartbeats 1000000 in
theorem m_in {d : Nat} {Q : Option PV → St → Prop} {σ : St} {v a b : Int64} : Ca (d + 1) 121 [vL v, vL a, vL b] σ Q ↔ Q (some (vI (b2 (a ≤ v ∧ v ≤ b)))) σ := by
  rw [ca_at (K := kX9_in) (ls := [vL v, vU, vL a, vU, vL b, vU]) rfl rfl rfl]
  simp only [z_X9_in_0, z_X9_in_1, z_X9_in_2, z_X9_in_3, z_X9_in_6, z_X9_in_7, z_X9_in_9, z_X9_in_10, z_X9_in_13, z_X9_in_14, z_X9_in_17, z_X9_in_18, lg_cmp_lt, lg_cmp_gt]
  unfold b2
  by_cases h1 : a ≤ v
  · by_cases h2 : v ≤ b
    · simp [h1, h2, Int64.not_lt.mpr h1, Int64.not_lt.mpr h2, retOK]
    · simp [h1, h2, Int64.not_lt.mpr h1, Int64.not_le.mp h2, retOK]
  · simp [h1, Int64.not_le.mp h1, retOK]
