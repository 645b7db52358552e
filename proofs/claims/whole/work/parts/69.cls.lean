/-! ===== the class: where a web lies ===== -/
def Wk (w : Nat) : Prop := w = 1 ∨ w = 24 ∨ w = 47
def aO (w : Nat) : Nat := w + 1
def nO (w k : Nat) : Nat := w + 2 + 3 * k
def cO (w k : Nat) : Nat := w + 3 + 3 * k
def hO (w k : Nat) : Nat := w + 4 + 3 * k
theorem i7 {P : Nat → Prop} (h0 : P 0) (h1 : P 1) (h2 : P 2) (h3 : P 3) (h4 : P 4) (h5 : P 5) (h6 : P 6) {k : Nat} (hk : k < 7) : P k := by
  rcases (show k = 0 ∨ k = 1 ∨ k = 2 ∨ k = 3 ∨ k = 4 ∨ k = 5 ∨ k = 6 by omega) with rfl | rfl | rfl | rfl | rfl | rfl | rfl <;> assumption
section XW
variable {σ : St} {w k : Nat}
theorem xw_a (h : XF σ) (hw : Wk w) : rR σ w 0 = some (aO w) := by
  rcases hw with rfl | rfl | rfl
  · exact h.1 (1, 0, 2) (by decide)
  · exact h.1 (24, 0, 25) (by decide)
  · exact h.1 (47, 0, 48) (by decide)
theorem xw_n (h : XF σ) (hw : Wk w) (hk : k < 7) : rR σ (aO w) k = some (nO w k) := by
  rcases hw with rfl | rfl | rfl
  · exact i7 (P := fun k => rR σ 2 k = some (nO 1 k)) (h.1 (2, 0, 3) (by decide)) (h.1 (2, 1, 6) (by decide)) (h.1 (2, 2, 9) (by decide)) (h.1 (2, 3, 12) (by decide)) (h.1 (2, 4, 15) (by decide)) (h.1 (2, 5, 18) (by decide)) (h.1 (2, 6, 21) (by decide)) hk
  · exact i7 (P := fun k => rR σ 25 k = some (nO 24 k)) (h.1 (25, 0, 26) (by decide)) (h.1 (25, 1, 29) (by decide)) (h.1 (25, 2, 32) (by decide)) (h.1 (25, 3, 35) (by decide)) (h.1 (25, 4, 38) (by decide)) (h.1 (25, 5, 41) (by decide)) (h.1 (25, 6, 44) (by decide)) hk
  · exact i7 (P := fun k => rR σ 48 k = some (nO 47 k)) (h.1 (48, 0, 49) (by decide)) (h.1 (48, 1, 52) (by decide)) (h.1 (48, 2, 55) (by decide)) (h.1 (48, 3, 58) (by decide)) (h.1 (48, 4, 61) (by decide)) (h.1 (48, 5, 64) (by decide)) (h.1 (48, 6, 67) (by decide)) hk
theorem xw_c (h : XF σ) (hw : Wk w) (hk : k < 7) : rR σ (nO w k) 0 = some (cO w k) := by
  rcases hw with rfl | rfl | rfl
  · exact i7 (P := fun k => rR σ (nO 1 k) 0 = some (cO 1 k)) (h.1 (3, 0, 4) (by decide)) (h.1 (6, 0, 7) (by decide)) (h.1 (9, 0, 10) (by decide)) (h.1 (12, 0, 13) (by decide)) (h.1 (15, 0, 16) (by decide)) (h.1 (18, 0, 19) (by decide)) (h.1 (21, 0, 22) (by decide)) hk
  · exact i7 (P := fun k => rR σ (nO 24 k) 0 = some (cO 24 k)) (h.1 (26, 0, 27) (by decide)) (h.1 (29, 0, 30) (by decide)) (h.1 (32, 0, 33) (by decide)) (h.1 (35, 0, 36) (by decide)) (h.1 (38, 0, 39) (by decide)) (h.1 (41, 0, 42) (by decide)) (h.1 (44, 0, 45) (by decide)) hk
  · exact i7 (P := fun k => rR σ (nO 47 k) 0 = some (cO 47 k)) (h.1 (49, 0, 50) (by decide)) (h.1 (52, 0, 53) (by decide)) (h.1 (55, 0, 56) (by decide)) (h.1 (58, 0, 59) (by decide)) (h.1 (61, 0, 62) (by decide)) (h.1 (64, 0, 65) (by decide)) (h.1 (67, 0, 68) (by decide)) hk
theorem xw_h (h : XF σ) (hw : Wk w) (hk : k < 7) : rR σ (nO w k) 1 = some (hO w k) := by
  rcases hw with rfl | rfl | rfl
  · exact i7 (P := fun k => rR σ (nO 1 k) 1 = some (hO 1 k)) (h.1 (3, 1, 5) (by decide)) (h.1 (6, 1, 8) (by decide)) (h.1 (9, 1, 11) (by decide)) (h.1 (12, 1, 14) (by decide)) (h.1 (15, 1, 17) (by decide)) (h.1 (18, 1, 20) (by decide)) (h.1 (21, 1, 23) (by decide)) hk
  · exact i7 (P := fun k => rR σ (nO 24 k) 1 = some (hO 24 k)) (h.1 (26, 1, 28) (by decide)) (h.1 (29, 1, 31) (by decide)) (h.1 (32, 1, 34) (by decide)) (h.1 (35, 1, 37) (by decide)) (h.1 (38, 1, 40) (by decide)) (h.1 (41, 1, 43) (by decide)) (h.1 (44, 1, 46) (by decide)) hk
  · exact i7 (P := fun k => rR σ (nO 47 k) 1 = some (hO 47 k)) (h.1 (49, 1, 51) (by decide)) (h.1 (52, 1, 54) (by decide)) (h.1 (55, 1, 57) (by decide)) (h.1 (58, 1, 60) (by decide)) (h.1 (61, 1, 63) (by decide)) (h.1 (64, 1, 66) (by decide)) (h.1 (67, 1, 69) (by decide)) hk
theorem xs_a (h : XF σ) (hw : Wk w) : sh σ (aO w) = (24, 7) := by
  rcases hw with rfl | rfl | rfl
  · exact h.2 (2, 24, 7) (by decide)
  · exact h.2 (25, 24, 7) (by decide)
  · exact h.2 (48, 24, 7) (by decide)
theorem xs_c (h : XF σ) (hw : Wk w) (hk : k < 7) : sh σ (cO w k) = (20, 27) := by
  rcases hw with rfl | rfl | rfl
  · exact i7 (P := fun k => sh σ (cO 1 k) = (20, 27)) (h.2 (4, 20, 27) (by decide)) (h.2 (7, 20, 27) (by decide)) (h.2 (10, 20, 27) (by decide)) (h.2 (13, 20, 27) (by decide)) (h.2 (16, 20, 27) (by decide)) (h.2 (19, 20, 27) (by decide)) (h.2 (22, 20, 27) (by decide)) hk
  · exact i7 (P := fun k => sh σ (cO 24 k) = (20, 27)) (h.2 (27, 20, 27) (by decide)) (h.2 (30, 20, 27) (by decide)) (h.2 (33, 20, 27) (by decide)) (h.2 (36, 20, 27) (by decide)) (h.2 (39, 20, 27) (by decide)) (h.2 (42, 20, 27) (by decide)) (h.2 (45, 20, 27) (by decide)) hk
  · exact i7 (P := fun k => sh σ (cO 47 k) = (20, 27)) (h.2 (50, 20, 27) (by decide)) (h.2 (53, 20, 27) (by decide)) (h.2 (56, 20, 27) (by decide)) (h.2 (59, 20, 27) (by decide)) (h.2 (62, 20, 27) (by decide)) (h.2 (65, 20, 27) (by decide)) (h.2 (68, 20, 27) (by decide)) hk
theorem xs_h (h : XF σ) (hw : Wk w) (hk : k < 7) : sh σ (hO w k) = (20, 3) := by
  rcases hw with rfl | rfl | rfl
  · exact i7 (P := fun k => sh σ (hO 1 k) = (20, 3)) (h.2 (5, 20, 3) (by decide)) (h.2 (8, 20, 3) (by decide)) (h.2 (11, 20, 3) (by decide)) (h.2 (14, 20, 3) (by decide)) (h.2 (17, 20, 3) (by decide)) (h.2 (20, 20, 3) (by decide)) (h.2 (23, 20, 3) (by decide)) hk
  · exact i7 (P := fun k => sh σ (hO 24 k) = (20, 3)) (h.2 (28, 20, 3) (by decide)) (h.2 (31, 20, 3) (by decide)) (h.2 (34, 20, 3) (by decide)) (h.2 (37, 20, 3) (by decide)) (h.2 (40, 20, 3) (by decide)) (h.2 (43, 20, 3) (by decide)) (h.2 (46, 20, 3) (by decide)) hk
  · exact i7 (P := fun k => sh σ (hO 47 k) = (20, 3)) (h.2 (51, 20, 3) (by decide)) (h.2 (54, 20, 3) (by decide)) (h.2 (57, 20, 3) (by decide)) (h.2 (60, 20, 3) (by decide)) (h.2 (63, 20, 3) (by decide)) (h.2 (66, 20, 3) (by decide)) (h.2 (69, 20, 3) (by decide)) hk
end XW
/-- a number of a node's row, whatever its kind -/
def cT (N : Net) (k r v : Nat) : Nat := tabN N k (r / sQ N k) (r % sQ N k) v
/-- node k of a web of the class -/
def NB (σ : St) (w k : Nat) (N : Net) : Prop := rI σ (nO w k) 2 = nI (nS N k) ∧ rI σ (nO w k) 3 = nI (nK N k) ∧ rI σ (nO w k) 4 = oI (nP N k) ∧ rI σ (nO w k) 5 = oI (nQ N k) ∧ rI σ (nO w k) 6 = nI (rowsN N k) ∧ rI σ (nO w k) 7 = nI (sQ N k) ∧ rI σ (nO w k) 8 = oI (nF1 N k) ∧ rI σ (nO w k) 9 = oI (nD N k) ∧
  (∀ v, v < 3 → rI σ (hO w k) v = nI (nH N k v)) ∧ ∀ r, r < rowsN N k → ∀ v, v < 3 → rI σ (cO w k) (3 * r + v) = nI (cT N k r v)
def WB (σ : St) (w : Nat) (N : Net) : Prop := rI σ w 1 = nI (nM N) ∧ ∀ k, k < nM N → NB σ w k N
/-- the class stands, with a web -/
def CI (σ : St) (w : Nat) (N : Net) : Prop := XF σ ∧ Wk w ∧ WB σ w N ∧ NV N
theorem rows_9 {N : Net} (h : NV N) {k : Nat} (hk : k < nM N) : 1 ≤ rowsN N k ∧ rowsN N k ≤ 9 ∧ 1 ≤ sQ N k ∧ sQ N k ≤ 3 ∧ 1 ≤ sP N k ∧ sP N k ≤ 3 := by
  have hp : 1 ≤ sP N k ∧ sP N k ≤ 3 := by
    unfold sP
    cases e : nP N k with
    | none => exact ⟨Nat.le_refl 1, show 1 ≤ 3 by decide⟩
    | some p =>
      have := (h.2 k hk).2.2.1 p e
      have s := NV_sv h (show p < nM N by omega)
      dsimp only
      omega
  have hq : 1 ≤ sQ N k ∧ sQ N k ≤ 3 := by
    unfold sQ
    cases e : nQ N k with
    | none => exact ⟨Nat.le_refl 1, show 1 ≤ 3 by decide⟩
    | some p =>
      have := ((h.2 k hk).2.2.2.1 p e).1
      have s := NV_sv h (show p < nM N by omega)
      dsimp only
      omega
  have e := rowsN_s (N := N) (k := k)
  have h1 : 1 * 1 ≤ sP N k * sQ N k := Nat.mul_le_mul hp.1 hq.1
  have h2 : sP N k * sQ N k ≤ 3 * 3 := Nat.mul_le_mul hp.2 hq.2
  exact ⟨by omega, by omega, hq.1, hq.2, hp.1, hp.2⟩
/-! reads of the class's web -/
section CR
variable {d w k : Nat} {Q : Option PV → St → Prop} {σ : St} {N : Net}
theorem c_nhas (h : CI σ w N) (hk : k < nM N) {v : Int32} : Ca (d + 1) 9 [vR (nO w k) 2, vI v] σ Q ↔ Q (some (vI (b2 (0 ≤ v ∧ v < nI (nS N k))))) σ := by
  have e := (h.2.2.1.2 k hk).1
  rw [ca_at (K := kX1_has) (ls := [vR (nO w k) 2, vI v]) rfl rfl rfl]
  simp (disch := first | exact is2I | exact is2R | omega) only [z_X1_has_0, z_X1_has_1, z_X1_has_4, z_X1_has_5, z_X1_has_6, z_X1_has_9, z_X1_has_12, z_X1_has_13, z_X1_has_16, z_X1_has_17, e, rk_b0, rk_b1, true_and, Option.toList_some, Option.toList_none, List.cons_append, List.nil_append, is2IT, is2RT, if_true, if_false]
  by_cases c1 : v < 0
  · rw [if_pos c1, b2_f (fun q => absurd c1 (Int32.not_lt.mpr q.1))]
  · rw [if_neg c1]
    by_cases c2 : nI (nS N k) ≤ v
    · rw [if_pos c2, b2_f (fun q => absurd q.2 (Int32.not_lt.mpr c2))]
    · rw [if_neg c2, b2_t ⟨Int32.not_lt.mp c1, Int32.not_le.mp c2⟩]
theorem c_has (h : CI σ w N) {v : Int32} : Ca (d + 1) 47 [vR w 6, vI v] σ Q ↔ Q (some (vI (b2 (0 ≤ v ∧ v < nI (nM N))))) σ := by
  have e := h.2.2.1.1
  rw [ca_at (K := kX6_has) (ls := [vR w 6, vI v]) rfl rfl rfl]
  simp (disch := first | exact is2I | exact is2R | omega) only [z_X6_has_0, z_X6_has_1, z_X6_has_4, z_X6_has_5, z_X6_has_6, z_X6_has_9, z_X6_has_12, z_X6_has_13, z_X6_has_16, z_X6_has_17, e, rk_b0, rk_b1, true_and, Option.toList_some, Option.toList_none, List.cons_append, List.nil_append, is2IT, is2RT, if_true, if_false]
  by_cases c1 : v < 0
  · rw [if_pos c1, b2_f (fun q => absurd c1 (Int32.not_lt.mpr q.1))]
  · rw [if_neg c1]
    by_cases c2 : nI (nM N) ≤ v
    · rw [if_pos c2, b2_f (fun q => absurd q.2 (Int32.not_lt.mpr c2))]
    · rw [if_neg c2, b2_t ⟨Int32.not_lt.mp c1, Int32.not_le.mp c2⟩]
theorem c_nhasN (h : CI σ w N) (hk : k < nM N) {v : Int32} : Ca (d + 2) 10 [vR (nO w k) 2, vI v] σ Q ↔ Q (some (vI (b2 (v = -1 ∨ (0 ≤ v ∧ v < nI (nS N k)))))) σ := by
  rw [ca_at (K := kX1_hasOrNone) (ls := [vR (nO w k) 2, vI v]) rfl rfl rfl]
  simp (disch := first | exact is2I | exact is2R | omega) only [z_X1_hasOrNone_0, z_X1_hasOrNone_1, z_X1_hasOrNone_2, z_X1_hasOrNone_5, z_X1_hasOrNone_6, z_X1_hasOrNone_7, z_X1_hasOrNone_10, z_X1_hasOrNone_13, z_X1_hasOrNone_14, z_X1_hasOrNone_17, z_X1_hasOrNone_18, c_nhas h hk, b2_0, rk_b0, rk_b1, true_and, Option.toList_some, Option.toList_none, List.cons_append, List.nil_append, is2IT, is2RT, if_true, if_false]
  by_cases c1 : v = -1
  · rw [if_pos c1, b2_t (Or.inl c1)]
  · rw [if_neg c1]
    by_cases c2 : 0 ≤ v ∧ v < nI (nS N k)
    · rw [if_neg (fun q => q c2), b2_t (Or.inr c2)]
    · rw [if_pos c2, b2_f (fun q => q.elim c1 c2)]
theorem c_hasN (h : CI σ w N) {v : Int32} : Ca (d + 2) 48 [vR w 6, vI v] σ Q ↔ Q (some (vI (b2 (v = -1 ∨ (0 ≤ v ∧ v < nI (nM N)))))) σ := by
  rw [ca_at (K := kX6_hasOrNone) (ls := [vR w 6, vI v]) rfl rfl rfl]
  simp (disch := first | exact is2I | exact is2R | omega) only [z_X6_hasOrNone_0, z_X6_hasOrNone_1, z_X6_hasOrNone_2, z_X6_hasOrNone_5, z_X6_hasOrNone_6, z_X6_hasOrNone_7, z_X6_hasOrNone_10, z_X6_hasOrNone_13, z_X6_hasOrNone_14, z_X6_hasOrNone_17, z_X6_hasOrNone_18, c_has h, b2_0, rk_b0, rk_b1, true_and, Option.toList_some, Option.toList_none, List.cons_append, List.nil_append, is2IT, is2RT, if_true, if_false]
  by_cases c1 : v = -1
  · rw [if_pos c1, b2_t (Or.inl c1)]
  · rw [if_neg c1]
    by_cases c2 : 0 ≤ v ∧ v < nI (nM N)
    · rw [if_neg (fun q => q c2), b2_t (Or.inr c2)]
    · rw [if_pos c2, b2_f (fun q => q.elim c1 c2)]
theorem CI_7 (h : CI σ w N) : nM N ≤ 7 := h.2.2.2.1
theorem c_hasV (h : CI σ w N) {n v : Int32} : Ca (d + 2) 49 [vR w 6, vI n, vI v] σ Q ↔ Q (some (vI (b2 ((askP N n v).isSome = true)))) σ := by
  have h7 := CI_7 h
  have hX := h.1
  have hw := h.2.1
  rw [ca_at (K := kX6_hasValue) (ls := [vR w 6, vI n, vI v]) rfl rfl rfl]
  cases hp : pN (nM N) n with
  | none =>
    have e : askP N n v = none := by unfold askP; rw [hp]
    rw [b2_f (by rw [e]; exact fun q => by cases q)]
    simp (disch := first | exact is2I | exact is2R | omega) only [z_X6_hasValue_0, z_X6_hasValue_1, z_X6_hasValue_2, z_X6_hasValue_5, z_X6_hasValue_8, z_X6_hasValue_9, z_X6_hasValue_12, z_X6_hasValue_13, z_X6_hasValue_13s, z_X6_hasValue_14, z_X6_hasValue_15, z_X6_hasValue_18, z_X6_hasValue_21, z_X6_hasValue_22, z_X6_hasValue_25, z_X6_hasValue_26, c_has h, b2_0, pN_none.mp hp, not_false_eq_true, rk_b0, true_and, Option.toList_some, Option.toList_none, List.cons_append, List.nil_append, is2IT, is2RT, if_true, if_false]
  | some j =>
    obtain ⟨hj, rfl⟩ := (pN_some (by omega)).mp hp
    have hP : 0 ≤ nI j ∧ nI j < nI (nM N) := (lt_nI (by omega)).mpr ⟨j, hj, rfl⟩
    cases hv : pN (nS N j) v with
    | none =>
      have e : askP N (nI j) v = none := by unfold askP; rw [hp]; dsimp only; rw [hv]
      have hV := pN_none.mp hv
      rw [b2_f (by rw [e]; exact fun q => by cases q)]
      simp (disch := first | exact is2I | exact is2R | omega) only [z_X6_hasValue_0, z_X6_hasValue_1, z_X6_hasValue_2, z_X6_hasValue_5, z_X6_hasValue_8, z_X6_hasValue_9, z_X6_hasValue_12, z_X6_hasValue_13, z_X6_hasValue_13s, z_X6_hasValue_14, z_X6_hasValue_15, z_X6_hasValue_18, z_X6_hasValue_21, z_X6_hasValue_22, z_X6_hasValue_25, z_X6_hasValue_26, c_has h, c_nhas h hj, b2_0, hP, hV, and_self, not_true_eq_false, not_false_eq_true, xw_a hX hw, xw_n hX hw (show j < 7 by omega), xs_a hX hw, kIn, kCl, rk_b0, rk_b1, true_and, Option.toList_some, Option.toList_none, List.cons_append, List.nil_append, is2IT, is2RT, if_true, if_false]
    | some u =>
      have hs := NV_sv h.2.2.2 hj
      obtain ⟨hu, rfl⟩ := (pN_some (by omega)).mp hv
      have e : askP N (nI j) (nI u) = some (j, u) := (askP_some h.2.2.2).mpr ⟨hj, hu, rfl, rfl⟩
      have hV : 0 ≤ nI u ∧ nI u < nI (nS N j) := (lt_nI (by omega)).mpr ⟨u, hu, rfl⟩
      rw [b2_t (by rw [e]; rfl)]
      simp (disch := first | exact is2I | exact is2R | omega) only [z_X6_hasValue_0, z_X6_hasValue_1, z_X6_hasValue_2, z_X6_hasValue_5, z_X6_hasValue_8, z_X6_hasValue_9, z_X6_hasValue_12, z_X6_hasValue_13, z_X6_hasValue_13s, z_X6_hasValue_14, z_X6_hasValue_15, z_X6_hasValue_18, z_X6_hasValue_21, z_X6_hasValue_22, z_X6_hasValue_25, z_X6_hasValue_26, c_has h, c_nhas h hj, b2_0, hP, hV, and_self, not_true_eq_false, xw_a hX hw, xw_n hX hw (show j < 7 by omega), xs_a hX hw, kIn, kCl, rk_b0, rk_b1, true_and, Option.toList_some, Option.toList_none, List.cons_append, List.nil_append, is2IT, is2RT, if_true, if_false]
theorem c_hinted (h : CI σ w N) (hk : k < nM N) : Ca (d + 1) 17 [vR (nO w k) 2] σ Q ↔ Q (some (vI (b2 (hinB N k = true)))) σ := by
  have h7 := CI_7 h
  have hX := h.1
  have hw := h.2.1
  have hs := NV_sv h.2.2.2 hk
  obtain ⟨e2, -, -, -, -, -, -, -, eh, -⟩ := h.2.2.1.2 k hk
  have g := fun v (hv : v < 3) => (h.2.2.2.2 k hk).2.2.2.2.2.2.2.1 v hv
  have g0 := g 0 (by decide); have g1 := g 1 (by decide); have g2 := g 2 (by decide)
  rw [ca_at (K := kX1_isHinted) (ls := [vR (nO w k) 2]) rfl rfl rfl]
  simp (disch := first | exact is2I | exact is2R | omega) only [z_X1_isHinted_0, z_X1_isHinted_1, z_X1_isHinted_4, z_X1_isHinted_5, z_X1_isHinted_6, z_X1_isHinted_7, z_X1_isHinted_10, z_X1_isHinted_11, z_X1_isHinted_12, z_X1_isHinted_15, z_X1_isHinted_16, z_X1_isHinted_19, z_X1_isHinted_20, z_X1_isHinted_23, z_X1_isHinted_24, z_X1_isHinted_27, z_X1_isHinted_28, z_X1_isHinted_29, z_X1_isHinted_30, z_X1_isHinted_33, z_X1_isHinted_34, z_X1_isHinted_35, z_X1_isHinted_38, z_X1_isHinted_39, z_X1_isHinted_42, z_X1_isHinted_43, xw_h hX hw (show k < 7 by omega), xs_h hX hw (show k < 7 by omega), kInL, kClL, e2, eh 0 (by decide), eh 1 (by decide), eh 2 (by decide), kEq, kEL, rk_b0, rk_b1, true_and, Option.toList_some, Option.toList_none, List.cons_append, List.nil_append, is2IT, is2RT, if_true, if_false]
  by_cases c1 : nH N k 0 = nH N k 1
  · rw [if_pos c1]
    by_cases c2 : nS N k = 3
    · rw [if_pos c2]
      by_cases c3 : nH N k 1 = nH N k 2
      · rw [if_pos c3, b2_f (fun q => (of_decide_eq_true q).elim (fun z => z c1) (fun z => z.2 (c1.trans c3)))]
      · rw [if_neg c3, b2_t (show hinB N k = true from decide_eq_true (Or.inr ⟨c2, fun q => c3 (c1.symm.trans q)⟩))]
    · rw [if_neg c2, b2_f (fun q => (of_decide_eq_true q).elim (fun z => z c1) (fun z => c2 z.1))]
  · rw [if_neg c1, b2_t (show hinB N k = true from decide_eq_true (Or.inl c1))]
theorem c_evid (h : CI σ w N) (hk : k < nM N) : Ca (d + 2) 18 [vR (nO w k) 2] σ Q ↔ Q (some (vI (b2 (((nF1 N k).isSome || hinB N k) = true)))) σ := by
  obtain ⟨-, -, -, -, -, -, ef, -⟩ := h.2.2.1.2 k hk
  have e1 := oI_none' (NV_f h.2.2.2 hk)
  rw [ca_at (K := kX1_isEvidence) (ls := [vR (nO w k) 2]) rfl rfl rfl]
  simp (disch := first | exact is2I | exact is2R | omega) only [z_X1_isEvidence_0, z_X1_isEvidence_1, z_X1_isEvidence_4, z_X1_isEvidence_5, z_X1_isEvidence_8, z_X1_isEvidence_9, z_X1_isEvidence_12, z_X1_isEvidence_15, z_X1_isEvidence_16, z_X1_isEvidence_19, z_X1_isEvidence_20, ef, e1, c_hinted h hk, b2_0, rk_b0, rk_b1, true_and, Option.toList_some, Option.toList_none, List.cons_append, List.nil_append, is2IT, is2RT, if_true, if_false]
  cases nF1 N k with
  | none =>
    rw [if_pos rfl]
    cases hinB N k with
    | true => simp only [not_true_eq_false, if_false]; rfl
    | false => simp only [Bool.false_eq_true, not_false_eq_true, if_true]; rfl
  | some u => rw [if_neg (fun q => by cases q)]; exact Iff.rfl
end CR
