/-! ===== node of the reference ===== -/
theorem i64_3 (a : Int32) : a.toInt64 ≤ (3 : Int64) ↔ a < nI 4 := (i64_le a 3).trans (le_pred (n := a) (m := 4) (by decide))
theorem i64_2 (a : Int32) : (2 : Int64) ≤ a.toInt64 ↔ 2 ≤ a := i64_le 2 a
def setN (N : Net) (s t : Nat) (p q : Option Nat) : Net := (nM N + 1, fun j => if j = nM N then (s, t, p, q, none, none) else N.2.1 j, fun j v => if j = nM N then 1 else nH N j v, fun j r v => if j = nM N then tb0 s v else nT N j r v)
theorem setN_NV {N : Net} (h : NV N) (hm : nM N < 7) {s t : Nat} {p q : Option Nat} (hs : s = 2 ∨ s = 3) (ht : t ≤ 3) (hp : ∀ j, p = some j → j < nM N) (hq : ∀ j, q = some j → j < nM N ∧ ∃ i, p = some i ∧ i ≠ j) (ht2 : t ≠ 0 → p ≠ none) : NV (setN N s t p q) := by
  refine ⟨show nM N + 1 ≤ 7 by omega, fun j hj => ?_⟩
  have hj' : j < nM N + 1 := hj
  by_cases e : j = nM N
  · have e1 : (setN N s t p q).2.1 j = (s, t, p, q, none, none) := if_pos e
    have e2 : ∀ v, nH (setN N s t p q) j v = 1 := fun v => if_pos e
    have e3 : ∀ r v, nT (setN N s t p q) j r v = tb0 s v := fun r v => if_pos e
    unfold nS nK nP nQ nF1 nD
    simp only [e1, e2, e3]
    refine ⟨hs, ht, fun i hi => by rw [e]; exact hp i hi, fun i hi => by rw [e]; exact hq i hi, ht2, fun v hv => (by cases hv), fun v hv => (by cases hv), fun _ _ => (by decide), fun r _ => ?_⟩
    rcases hs with rfl | rfl
    · exact ⟨rfl, fun _ => rfl⟩
    · exact ⟨rfl, fun w => absurd w (by decide)⟩
  · have e1 : (setN N s t p q).2.1 j = N.2.1 j := if_neg e
    have e2 : ∀ v, nH (setN N s t p q) j v = nH N j v := fun v => if_neg e
    have e3 : ∀ r v, nT (setN N s t p q) j r v = nT N j r v := fun r v => if_neg e
    have := h.2 j (by omega)
    unfold nS nK nP nQ nF1 nD at this ⊢
    simp only [e1, e2, e3]
    exact this
theorem setN_MN {σ σ' : St} {x : Nat} {N : Net} (h : MN σ x N) (hm : nM N < 7) {s t : Nat} {p q : Option Nat} (hlo : ∀ i, i < 36 * nM N → rI σ' x i = rI σ x i) (h0 : rI σ' x (36 * nM N + 0) = nI s) (h1 : rI σ' x (36 * nM N + 1) = nI t) (h2 : rI σ' x (36 * nM N + 2) = oI p) (h3 : rI σ' x (36 * nM N + 3) = oI q) (h4 : rI σ' x (36 * nM N + 4) = -1) (h5 : rI σ' x (36 * nM N + 5) = -1) (h6 : ∀ v, v < 3 → rI σ' x (36 * nM N + (6 + v)) = 1) (h9 : ∀ j, j < 27 → rI σ' x (36 * nM N + (9 + j)) = nI (tb0 s (j % 3))) (h252 : rI σ' x 252 = nI (nM N + 1)) : MN σ' x (setN N s t p q) := by
  refine ⟨h252, fun j hj => ?_⟩
  have hj' : j < nM N + 1 := hj
  by_cases e : j = nM N
  · have e1 : (setN N s t p q).2.1 j = (s, t, p, q, none, none) := if_pos e
    have e2 : ∀ v, nH (setN N s t p q) j v = 1 := fun v => if_pos e
    have e3 : ∀ r v, nT (setN N s t p q) j r v = tb0 s v := fun r v => if_pos e
    unfold nS nK nP nQ nF1 nD
    simp only [e1, e2, e3]
    rw [e]
    refine ⟨h0, h1, h2, h3, h4, h5, h6, fun r hr v hv => ?_⟩
    rw [h9 (3 * r + v) (by omega), show (3 * r + v) % 3 = v by omega]
  · have e1 : (setN N s t p q).2.1 j = N.2.1 j := if_neg e
    have e2 : ∀ v, nH (setN N s t p q) j v = nH N j v := fun v => if_neg e
    have e3 : ∀ r v, nT (setN N s t p q) j r v = nT N j r v := fun r v => if_neg e
    have a := h.2 j (by omega)
    have hl : ∀ y, y < 36 → rI σ' x (36 * j + y) = rI σ x (36 * j + y) := fun y hy => hlo _ (by omega)
    unfold nS nK nP nQ nF1 nD at a ⊢
    simp only [e1, e2, e3]
    obtain ⟨a1, a2, a3, a4, a5, a6, a7, a8⟩ := a
    refine ⟨by rw [hl _ (by omega)]; exact a1, by rw [hl _ (by omega)]; exact a2, by rw [hl _ (by omega)]; exact a3, by rw [hl _ (by omega)]; exact a4, by rw [hl _ (by omega)]; exact a5, by rw [hl _ (by omega)]; exact a6, fun v hv => by rw [hl _ (by omega)]; exact a7 v hv, fun r hr v hv => by rw [hl _ (by omega)]; exact a8 r hr v hv⟩
def P1 (m : Nat) (p : Int32) : Prop := p = -1 ∨ (0 ≤ p ∧ p < nI m)
def toO (p : Int32) : Option Nat := if p = -1 then none else some p.toNatClampNeg
theorem toO_oI {m : Nat} (hm : m < 2 ^ 31) {p : Int32} (h : P1 m p) : oI (toO p) = p ∧ ∀ j, toO p = some j → j < m := by
  unfold toO
  rcases h with rfl | h
  · rw [if_pos rfl]; exact ⟨rfl, fun j hj => by cases hj⟩
  · obtain ⟨k, hk, rfl⟩ := (lt_nI hm).mp h
    rw [if_neg (fun q => of_eq_false (nI_m1 (show k < 2 ^ 31 by omega)) q), nI_clamp (by omega)]
    exact ⟨rfl, fun j hj => by cases hj; exact hk⟩
def okN (m : Nat) (s t p q : Int32) : Prop := (2 ≤ s ∧ s < nI 4) ∧ (0 ≤ t ∧ t < nI 4) ∧ P1 m p ∧ P1 m q ∧ (q = -1 ∨ (¬ p = -1 ∧ ¬ p = q)) ∧ (t ≤ 0 ∨ ¬ p = -1)
theorem n_bad {d : Nat} {Q : Option PV → St → Prop} {σ : St} {N : Net} {s t p q : Int32} (h : MI σ N) (ho : ¬ okN (nM N) s t p q) (hq : Q (some (vI (-2))) σ) : Ca (d + 4) 132 [vR 97 9, vI s, vI t, vI p, vI q] σ Q := by
  rw [ca_at (K := kX9_node) (ls := [vR 97 9, vI s, vI t, vI p, vI q, vU, vU, vU]) rfl rfl rfl]
  by_cases hs : 2 ≤ s ∧ s < nI 4
  · by_cases ht : 0 ≤ t ∧ t < nI 4
    · by_cases hp : p = -1 ∨ (0 ≤ p ∧ p < nI (nM N))
      · by_cases hq1 : q = -1 ∨ (0 ≤ q ∧ q < nI (nM N))
        · have p1 := b2_t hp
          have q1 := b2_t hq1
          have n10 : ((1 : Int32) = 0) = False := eq_false (by decide)
          simp only [z_X9_node_0, z_X9_node_1, z_X9_node_2, z_X9_node_5, z_X9_node_8, z_X9_node_11, z_X9_node_14, z_X9_node_15, z_X9_node_16, z_X9_node_17, z_X9_node_20, z_X9_node_23, z_X9_node_26, z_X9_node_27, z_X9_node_28, z_X9_node_31, z_X9_node_34, z_X9_node_35, z_X9_node_37, z_X9_node_40, m_in, i64_2, i64_3, i64_0, b2_0, hs, ht, and_self, not_true_eq_false, i_isParent h, p1, q1, n10, true_and, Option.toList_some, Option.toList_none, List.cons_append, List.nil_append, is2IT, is2RT, if_true, if_false]
          simp only [z_X9_node_43, z_X9_node_45, z_X9_node_46, z_X9_node_49, z_X9_node_50, z_X9_node_51, z_X9_node_54, z_X9_node_55, z_X9_node_57, z_X9_node_60, z_X9_node_61, z_X9_node_64, z_X9_node_65, z_X9_node_66, z_X9_node_69, z_X9_node_71, true_and, Option.toList_some, Option.toList_none, List.cons_append, List.nil_append, is2IT, is2RT, if_true, if_false]
          by_cases a1 : q = -1
          · rw [if_pos a1]
            by_cases a2 : t ≤ 0
            · exact absurd ⟨hs, ht, hp, hq1, Or.inl a1, Or.inl a2⟩ ho
            · rw [if_neg a2]
              by_cases a3 : p = -1
              · rw [if_pos a3]; exact hq
              · exact absurd ⟨hs, ht, hp, hq1, Or.inl a1, Or.inr a3⟩ ho
          · rw [if_neg a1]
            by_cases a3 : p = -1
            · rw [if_pos a3]; exact hq
            · rw [if_neg a3]
              by_cases a4 : p = q
              · rw [if_pos a4]; exact hq
              · exact absurd ⟨hs, ht, hp, hq1, Or.inr ⟨a3, a4⟩, Or.inr a3⟩ ho
        · have p1 := b2_t hp
          have q1 := b2_f hq1
          have n10 : ((1 : Int32) = 0) = False := eq_false (by decide)
          simp only [z_X9_node_0, z_X9_node_1, z_X9_node_2, z_X9_node_5, z_X9_node_8, z_X9_node_11, z_X9_node_14, z_X9_node_15, z_X9_node_16, z_X9_node_17, z_X9_node_20, z_X9_node_23, z_X9_node_26, z_X9_node_27, z_X9_node_28, z_X9_node_31, z_X9_node_34, z_X9_node_35, z_X9_node_37, z_X9_node_40, z_X9_node_69, z_X9_node_71, m_in, i64_2, i64_3, i64_0, b2_0, hs, ht, and_self, not_true_eq_false, i_isParent h, p1, q1, n10, true_and, Option.toList_some, Option.toList_none, List.cons_append, List.nil_append, is2IT, is2RT, if_true, if_false]
          exact hq
      · have p1 := b2_f hp
        simp only [z_X9_node_0, z_X9_node_1, z_X9_node_2, z_X9_node_5, z_X9_node_8, z_X9_node_11, z_X9_node_14, z_X9_node_15, z_X9_node_16, z_X9_node_17, z_X9_node_20, z_X9_node_23, z_X9_node_26, z_X9_node_27, z_X9_node_28, z_X9_node_31, z_X9_node_34, z_X9_node_35, z_X9_node_37, z_X9_node_40, z_X9_node_69, z_X9_node_71, m_in, i64_2, i64_3, i64_0, b2_0, hs, ht, and_self, not_true_eq_false, i_isParent h, p1, true_and, Option.toList_some, Option.toList_none, List.cons_append, List.nil_append, is2IT, is2RT, if_true, if_false]
        exact hq
    · simp only [z_X9_node_0, z_X9_node_1, z_X9_node_2, z_X9_node_5, z_X9_node_8, z_X9_node_11, z_X9_node_14, z_X9_node_15, z_X9_node_16, z_X9_node_17, z_X9_node_20, z_X9_node_23, z_X9_node_26, z_X9_node_27, z_X9_node_28, z_X9_node_31, z_X9_node_34, z_X9_node_35, z_X9_node_37, z_X9_node_40, z_X9_node_69, z_X9_node_71, m_in, i64_2, i64_3, i64_0, b2_0, hs, ht, and_self, not_true_eq_false, not_false_eq_true, true_and, Option.toList_some, Option.toList_none, List.cons_append, List.nil_append, is2IT, is2RT, if_true, if_false]
      exact hq
  · simp only [z_X9_node_0, z_X9_node_1, z_X9_node_2, z_X9_node_5, z_X9_node_8, z_X9_node_11, z_X9_node_14, z_X9_node_15, z_X9_node_16, z_X9_node_17, z_X9_node_20, z_X9_node_23, z_X9_node_26, z_X9_node_27, z_X9_node_28, z_X9_node_31, z_X9_node_34, z_X9_node_35, z_X9_node_37, z_X9_node_40, z_X9_node_69, z_X9_node_71, m_in, i64_2, i64_3, i64_0, b2_0, hs, not_false_eq_true, true_and, Option.toList_some, Option.toList_none, List.cons_append, List.nil_append, is2IT, is2RT, if_true, if_false]
    exact hq
