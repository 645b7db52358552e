/-! ===== reads behind writes ===== -/
theorem rI_wI_n {σ : St} {k i j : Nat} {x : Int32} (h : j ≠ k) : rI (wI σ k i x) j = rI σ j := by
  funext b
  show (if j = k ∧ b = i then x else rI σ j b) = rI σ j b
  rw [if_neg (fun q => h q.1)]
theorem rI_wI_s {σ : St} {k i : Nat} {x : Int32} : rI (wI σ k i x) k = upd (rI σ k) i x := by
  funext b
  show (if k = k ∧ b = i then x else rI σ k b) = if b = i then x else rI σ k b
  simp only [true_and]
theorem rL_wL_n {σ : St} {k i j : Nat} {x : Int64} (h : j ≠ k) : rL (wL σ k i x) j = rL σ j := by
  funext b
  show (if j = k ∧ b = i then x else rL σ j b) = rL σ j b
  rw [if_neg (fun q => h q.1)]
theorem rL_wL_s {σ : St} {k i : Nat} {x : Int64} : rL (wL σ k i x) k = vp_updL (rL σ k) i x := by
  funext b
  show (if k = k ∧ b = i then x else rL σ k b) = if b = i then x else rL σ k b
  simp only [true_and]
theorem rR_wR_n {σ : St} {k i j : Nat} {x : Option Nat} (h : j ≠ k) : rR (wR σ k i x) j = rR σ j := by
  funext b
  show (if j = k ∧ b = i then x else rR σ j b) = rR σ j b
  rw [if_neg (fun q => h q.1)]
theorem rR_wR_s {σ : St} {k i : Nat} {x : Option Nat} (b : Nat) : rR (wR σ k i x) k b = if b = i then x else rR σ k b := by
  show (if k = k ∧ b = i then x else rR σ k b) = _
  simp only [true_and]
