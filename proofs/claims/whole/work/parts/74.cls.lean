/-! ===== the class: parents, evidence, counts ===== -/
def par (N : Net) (p n : Nat) : Bool := decide (nP N n = some p ∨ nQ N n = some p)
def oB (o : Option Nat) (g : Nat) : Bool := match o with
  | none => false
  | some p => g.testBit p
def hdA (N : Net) (n g : Nat) : Bool := decide (nD N n = none) && (oB (nP N n) g || oB (nQ N n) g)
def evd (N : Net) (n : Nat) : Bool := (nF1 N n).isSome || hinB N n
def evR (N : Net) (n : Nat) : Nat → Nat → Nat → Bool
  | 0, _, _ => false
  | r + 1, i, g => if ((if (decide (n < i) && hdA N i g) = true then g ||| 2 ^ i else g).testBit i && evd N i) = true then true else evR N n r (i + 1) (if (decide (n < i) && hdA N i g) = true then g ||| 2 ^ i else g)
section CP
variable {d w : Nat} {Q : Option PV → St → Prop} {σ : St} {N : Net}
theorem c_par (h : CI σ w N) {p n : Nat} (hn : n < nM N) (hp : p < 31) : Ca (d + 1) 54 [vR w 6, vI (nI p), vI (nI n)] σ Q ↔ Q (some (vI (b2 (par N p n = true)))) σ := by
  have h7 := CI_7 h
  have hX := h.1
  have hw := h.2.1
  obtain ⟨-, -, e4, e5, -⟩ := h.2.2.1.2 n hn
  have eP := oI_eq (p := p) (NV_p31 h.2.2.2 hn) (by omega)
  have eQ := oI_eq (p := p) (NV_q31 h.2.2.2 hn) (by omega)
  rw [ca_at (K := kX6_isParent) (ls := [vR w 6, vI (nI p), vI (nI n)]) rfl rfl rfl]
  simp (disch := first | exact is2I | exact is2R | omega) only [z_X6_isParent_0, z_X6_isParent_1, z_X6_isParent_4, z_X6_isParent_5, z_X6_isParent_5s, z_X6_isParent_6, z_X6_isParent_9, z_X6_isParent_10, z_X6_isParent_13, z_X6_isParent_14, z_X6_isParent_17, z_X6_isParent_18, z_X6_isParent_18s, z_X6_isParent_19, z_X6_isParent_22, z_X6_isParent_23, z_X6_isParent_26, z_X6_isParent_27, z_X6_isParent_30, z_X6_isParent_31, xw_a hX hw, xw_n hX hw (show n < 7 by omega), xs_a hX hw, kIn, kCl, e4, e5, eP, eQ, rk_b0, rk_b1, true_and, Option.toList_some, Option.toList_none, List.cons_append, List.nil_append, is2IT, is2RT, if_true, if_false]
  by_cases c1 : nP N n = some p
  · rw [if_pos c1, b2_t (show par N p n = true from decide_eq_true (Or.inl c1))]
  · rw [if_neg c1]
    by_cases c2 : nQ N n = some p
    · rw [if_pos c2, b2_t (show par N p n = true from decide_eq_true (Or.inr c2))]
    · rw [if_neg c2, b2_f (fun q => (of_decide_eq_true q).elim c1 c2)]
theorem c_heeds (h : CI σ w N) {p n : Nat} (hn : n < nM N) (hp : p < 31) : Ca (d + 2) 55 [vR w 6, vI (nI n), vI (nI p)] σ Q ↔ Q (some (vI (b2 (ovr N p n = true)))) σ := by
  have h7 := CI_7 h
  have hX := h.1
  have hw := h.2.1
  obtain ⟨-, -, -, -, -, -, -, e9, -⟩ := h.2.2.1.2 n hn
  have eD := oI_none' (NV_d h.2.2.2 hn)
  rw [ca_at (K := kX6_heeds) (ls := [vR w 6, vI (nI n), vI (nI p)]) rfl rfl rfl]
  simp (disch := first | exact is2I | exact is2R | omega) only [z_X6_heeds_0, z_X6_heeds_1, z_X6_heeds_4, z_X6_heeds_5, z_X6_heeds_5s, z_X6_heeds_6, z_X6_heeds_9, z_X6_heeds_10, z_X6_heeds_13, z_X6_heeds_14, z_X6_heeds_15, z_X6_heeds_16, z_X6_heeds_19, z_X6_heeds_22, z_X6_heeds_23, z_X6_heeds_26, z_X6_heeds_27, xw_a hX hw, xw_n hX hw (show n < 7 by omega), xs_a hX hw, kIn, kCl, e9, eD, c_par h hn hp, b2_0, rk_b0, rk_b1, true_and, Option.toList_some, Option.toList_none, List.cons_append, List.nil_append, is2IT, is2RT, if_true, if_false]
  by_cases c1 : nD N n = none
  · rw [if_pos c1]
    by_cases c2 : par N p n = true
    · rw [if_neg (fun q => q c2), b2_t (show ovr N p n = true from decide_eq_true ⟨c1, of_decide_eq_true c2⟩)]
    · rw [if_pos c2, b2_f (fun q => c2 (decide_eq_true (of_decide_eq_true q).2))]
  · rw [if_neg c1, b2_f (fun q => c1 (of_decide_eq_true q).1)]
theorem c_heedsAny (h : CI σ w N) {n g : Nat} (hn : n < nM N) (hg : g < 2 ^ 31) : Ca (d + 1) 57 [vR w 6, vI (nI n), vI (nI g)] σ Q ↔ Q (some (vI (b2 (hdA N n g = true)))) σ := by
  have h7 := CI_7 h
  have hX := h.1
  have hw := h.2.1
  obtain ⟨-, -, e4, e5, -, -, -, e9, -⟩ := h.2.2.1.2 n hn
  have eD := oI_none' (NV_d h.2.2.2 hn)
  have tb : ∀ p, p < 31 → (nI g >>> (nI p &&& 31)) &&& 1 = b2 (g.testBit p = true) := fun p hp => kHas hg hp
  rw [ca_at (K := kX6_heedsAny) (ls := [vR w 6, vI (nI n), vI (nI g), vU]) rfl rfl rfl]
  unfold hdA
  by_cases c1 : nD N n = none
  · have pq : At d kX6_heedsAny 36 [vR w 6, vI (nI n), vI (nI g), vR (nO w n) 2] [] σ Q ↔ Q (some (vI (b2 (oB (nQ N n) g = true)))) σ := by
      cases eq : nQ N n with
      | none =>
        rw [eq, oI_nn] at e5
        simp (disch := first | exact is2I | exact is2R | omega) only [z_X6_heedsAny_36, z_X6_heedsAny_37, z_X6_heedsAny_40, z_X6_heedsAny_41, z_X6_heedsAny_59, z_X6_heedsAny_60, e5, rk_b0, true_and, Option.toList_some, Option.toList_none, List.cons_append, List.nil_append, is2IT, is2RT, if_true, if_false]
        exact Iff.rfl
      | some q =>
        have hq := ((h.2.2.2.2 n hn).2.2.2.1 q eq).1
        rw [eq, oI_ss] at e5
        simp (disch := first | exact is2I | exact is2R | omega) only [z_X6_heedsAny_36, z_X6_heedsAny_37, z_X6_heedsAny_40, z_X6_heedsAny_41, z_X6_heedsAny_44, z_X6_heedsAny_45, z_X6_heedsAny_46, z_X6_heedsAny_49, z_X6_heedsAny_50, z_X6_heedsAny_51, z_X6_heedsAny_52, z_X6_heedsAny_55, z_X6_heedsAny_56, z_X6_heedsAny_59, z_X6_heedsAny_60, e5, kM1, tb q (by omega), b2_0, rk_b0, rk_b1, true_and, Option.toList_some, Option.toList_none, List.cons_append, List.nil_append, is2IT, is2RT, if_true, if_false]
        show _ ↔ Q (some (vI (b2 (g.testBit q = true)))) σ
        cases g.testBit q with
        | true => simp only [not_true_eq_false, if_false]; exact Iff.rfl
        | false => simp only [Bool.false_eq_true, not_false_eq_true, if_true]; exact Iff.rfl
    rw [decide_eq_true c1, Bool.true_and]
    simp (disch := first | exact is2I | exact is2R | omega) only [z_X6_heedsAny_0, z_X6_heedsAny_1, z_X6_heedsAny_4, z_X6_heedsAny_5, z_X6_heedsAny_5s, z_X6_heedsAny_6, z_X6_heedsAny_7, z_X6_heedsAny_8, z_X6_heedsAny_11, z_X6_heedsAny_12, xw_a hX hw, xw_n hX hw (show n < 7 by omega), xs_a hX hw, kIn, kCl, e9, eD, c1, true_and, Option.toList_some, Option.toList_none, List.cons_append, List.nil_append, is2IT, is2RT, if_true, if_false]
    cases ep : nP N n with
    | none =>
      rw [ep, oI_nn] at e4
      simp (disch := first | exact is2I | exact is2R | omega) only [z_X6_heedsAny_17, z_X6_heedsAny_18, z_X6_heedsAny_21, z_X6_heedsAny_22, e4, true_and, Option.toList_some, Option.toList_none, List.cons_append, List.nil_append, is2IT, is2RT, if_true, if_false]
      exact pq
    | some p =>
      have hp := (h.2.2.2.2 n hn).2.2.1 p ep
      rw [ep, oI_ss] at e4
      simp (disch := first | exact is2I | exact is2R | omega) only [z_X6_heedsAny_17, z_X6_heedsAny_18, z_X6_heedsAny_21, z_X6_heedsAny_22, z_X6_heedsAny_25, z_X6_heedsAny_26, z_X6_heedsAny_27, z_X6_heedsAny_30, z_X6_heedsAny_31, z_X6_heedsAny_32, z_X6_heedsAny_33, e4, kM1, tb p (by omega), b2_0, true_and, Option.toList_some, Option.toList_none, List.cons_append, List.nil_append, is2IT, is2RT, if_true, if_false]
      show _ ↔ Q (some (vI (b2 ((g.testBit p || oB (nQ N n) g) = true)))) σ
      cases g.testBit p with
      | true =>
        simp only [not_true_eq_false, if_false, z_X6_heedsAny_55, z_X6_heedsAny_56, z_X6_heedsAny_59, z_X6_heedsAny_60, rk_b1, Bool.true_or, true_and]
        exact Iff.rfl
      | false =>
        simp only [Bool.false_eq_true, not_false_eq_true, if_true, Bool.false_or]
        exact pq
  · rw [decide_eq_false c1, Bool.false_and]
    simp (disch := first | exact is2I | exact is2R | omega) only [z_X6_heedsAny_0, z_X6_heedsAny_1, z_X6_heedsAny_4, z_X6_heedsAny_5, z_X6_heedsAny_5s, z_X6_heedsAny_6, z_X6_heedsAny_7, z_X6_heedsAny_8, z_X6_heedsAny_11, z_X6_heedsAny_12, z_X6_heedsAny_15, z_X6_heedsAny_16, xw_a hX hw, xw_n hX hw (show n < 7 by omega), xs_a hX hw, kIn, kCl, e9, eD, c1, rk_b0, true_and, Option.toList_some, Option.toList_none, List.cons_append, List.nil_append, is2IT, is2RT, if_true, if_false]
    exact Iff.rfl
theorem c_evFrom (h : CI σ w N) {n : Nat} (hn : n < nM N) : Ca (d + 3) 56 [vR w 6, vI (nI n)] σ Q ↔ Q (some (vI (b2 (evR N n (nM N - n) n (2 ^ n) = true)))) σ := by
  have h7 := CI_7 h
  have hX := h.1
  have hw := h.2.1
  rw [ca_at (K := kX6_hasEvidenceFrom) (ls := [vR w 6, vI (nI n), vU, vU]) rfl rfl rfl]
  have loop : ∀ r i g, i + r = nM N → g < 128 → (At (d + 2) kX6_hasEvidenceFrom 6 [vR w 6, vI (nI n), vI (nI g), vI (nI i)] [] σ Q ↔ Q (some (vI (b2 (evR N n r i g = true)))) σ) := by
    intro r
    induction r with
    | zero =>
      intro i g hi hg
      have hi' : i = nM N := by omega
      subst hi'
      simp (disch := first | exact is2I | exact is2R | omega) only [z_X6_hasEvidenceFrom_6, z_X6_hasEvidenceFrom_7, z_X6_hasEvidenceFrom_8, z_X6_hasEvidenceFrom_11, z_X6_hasEvidenceFrom_62, z_X6_hasEvidenceFrom_63, h.2.2.1.1, kLe, Nat.le_refl, rk_b0, true_and, Option.toList_some, Option.toList_none, List.cons_append, List.nil_append, is2IT, is2RT, if_true, if_false]
      exact Iff.rfl
    | succ r ih =>
      intro i g hi hg
      have hi1 : i < nM N := by omega
      have c : ¬ nM N ≤ i := by omega
      have tail : ∀ g2, g2 < 128 → (At (d + 2) kX6_hasEvidenceFrom 34 [vR w 6, vI (nI n), vI (nI g2), vI (nI i)] [] σ Q ↔ Q (some (vI (b2 ((if (g2.testBit i && evd N i) = true then true else evR N n r (i + 1) g2) = true)))) σ) := fun g2 hg2 => by
        have nx := ih (i + 1) g2 (by omega) hg2
        simp (disch := first | exact is2I | exact is2R | omega) only [z_X6_hasEvidenceFrom_34, z_X6_hasEvidenceFrom_35, z_X6_hasEvidenceFrom_36, z_X6_hasEvidenceFrom_37, z_X6_hasEvidenceFrom_38, z_X6_hasEvidenceFrom_39, z_X6_hasEvidenceFrom_42, z_X6_hasEvidenceFrom_43, z_X6_hasEvidenceFrom_46, z_X6_hasEvidenceFrom_47, z_X6_hasEvidenceFrom_47s, z_X6_hasEvidenceFrom_48, z_X6_hasEvidenceFrom_51, z_X6_hasEvidenceFrom_54, z_X6_hasEvidenceFrom_55, z_X6_hasEvidenceFrom_56, kHas (show g2 < 2 ^ 31 by omega) (show i < 31 by omega), b2_0, xw_a hX hw, xw_n hX hw (show i < 7 by omega), xs_a hX hw, kIn, kCl, c_evid h hi1, kAL, rk_b1, true_and, Option.toList_some, Option.toList_none, List.cons_append, List.nil_append, is2IT, is2RT, if_true, if_false]
        show _ ↔ Q (some (vI (b2 ((if (g2.testBit i && evd N i) = true then true else evR N n r (i + 1) g2) = true)))) σ
        cases g2.testBit i with
        | false =>
          simp only [Bool.false_eq_true, not_false_eq_true, if_true, Bool.false_and, if_false]
          rw [z_X6_hasEvidenceFrom_59]
          exact nx
        | true =>
          have ee : ((nF1 N i).isSome || hinB N i) = evd N i := rfl
          rw [ee]
          cases evd N i with
          | false =>
            simp only [Bool.false_eq_true, not_false_eq_true, not_true_eq_false, if_true, if_false, Bool.and_false]
            rw [z_X6_hasEvidenceFrom_59]
            exact nx
          | true => simp only [not_true_eq_false, if_true, if_false, Bool.and_self]; exact Iff.rfl
      have es : evR N n (r + 1) i g = (if ((if (decide (n < i) && hdA N i g) = true then g ||| 2 ^ i else g).testBit i && evd N i) = true then true else evR N n r (i + 1) (if (decide (n < i) && hdA N i g) = true then g ||| 2 ^ i else g)) := rfl
      rw [es]
      simp (disch := first | exact is2I | exact is2R | omega) only [z_X6_hasEvidenceFrom_6, z_X6_hasEvidenceFrom_7, z_X6_hasEvidenceFrom_8, z_X6_hasEvidenceFrom_11, z_X6_hasEvidenceFrom_14, z_X6_hasEvidenceFrom_15, z_X6_hasEvidenceFrom_16, z_X6_hasEvidenceFrom_19, z_X6_hasEvidenceFrom_20, z_X6_hasEvidenceFrom_21, z_X6_hasEvidenceFrom_22, z_X6_hasEvidenceFrom_25, h.2.2.1.1, kLe, c, c_heedsAny h hi1 (show g < 2 ^ 31 by omega), b2_0, true_and, Option.toList_some, Option.toList_none, List.cons_append, List.nil_append, is2IT, is2RT, if_true, if_false]
      by_cases c1 : i ≤ n
      · rw [if_pos c1, decide_eq_false (show ¬ n < i by omega), Bool.false_and]
        exact tail g hg
      · rw [if_neg c1, decide_eq_true (show n < i by omega), Bool.true_and]
        cases hdA N i g with
        | false =>
          simp only [Bool.false_eq_true, not_false_eq_true, if_true, if_false]
          exact tail g hg
        | true =>
          simp (disch := first | exact is2I | exact is2R | omega) only [z_X6_hasEvidenceFrom_28, z_X6_hasEvidenceFrom_29, z_X6_hasEvidenceFrom_30, z_X6_hasEvidenceFrom_31, z_X6_hasEvidenceFrom_32, z_X6_hasEvidenceFrom_33, not_true_eq_false, if_true, if_false, kShl i (by omega), kOr, true_and, Option.toList_some, Option.toList_none, List.cons_append, List.nil_append, is2IT, is2RT, if_true, if_false]
          exact tail _ (or128 hg (by omega))
  have l := loop (nM N - n) n (2 ^ n) (by omega) (Nat.pow_lt_pow_right (n := 7) (by decide) (by omega))
  simp (disch := first | exact is2I | exact is2R | omega) only [z_X6_hasEvidenceFrom_0, z_X6_hasEvidenceFrom_1, z_X6_hasEvidenceFrom_2, z_X6_hasEvidenceFrom_3, z_X6_hasEvidenceFrom_4, z_X6_hasEvidenceFrom_5, kShl n (by omega), true_and, Option.toList_some, Option.toList_none, List.cons_append, List.nil_append, is2IT, is2RT, if_true, if_false]
  exact l
theorem c_cntF (h : CI σ w N) : Ca (d + 1) 58 [vR w 6] σ Q ↔ Q (some (vI (nI (cntR (fndP N) (nM N) 0 0)))) σ := by
  have h7 := CI_7 h
  have hX := h.1
  have hw := h.2.1
  rw [ca_at (K := kX6_countFindings) (ls := [vR w 6, vU, vU]) rfl rfl rfl]
  have loop : ∀ r n v, n + r = nM N → (At d kX6_countFindings 4 [vR w 6, vI (nI v), vI (nI n)] [] σ Q ↔ Q (some (vI (nI (cntR (fndP N) r n v)))) σ) := by
    intro r
    induction r with
    | zero =>
      intro n v hn
      have hn' : n = nM N := by omega
      subst hn'
      simp (disch := first | exact is2I | exact is2R | omega) only [z_X6_countFindings_4, z_X6_countFindings_5, z_X6_countFindings_6, z_X6_countFindings_9, z_X6_countFindings_34, z_X6_countFindings_35, h.2.2.1.1, kLe, Nat.le_refl, cntR, true_and, Option.toList_some, Option.toList_none, List.cons_append, List.nil_append, is2IT, is2RT, if_true, if_false]
    | succ r ih =>
      intro n v hn
      have hn1 : n < nM N := by omega
      have c : ¬ nM N ≤ n := by omega
      obtain ⟨-, -, -, -, -, -, e8, -⟩ := h.2.2.1.2 n hn1
      have e1 := oI_none' (NV_f h.2.2.2 hn1)
      simp (disch := first | exact is2I | exact is2R | omega) only [z_X6_countFindings_4, z_X6_countFindings_5, z_X6_countFindings_6, z_X6_countFindings_9, z_X6_countFindings_12, z_X6_countFindings_13, z_X6_countFindings_16, z_X6_countFindings_17, z_X6_countFindings_17s, z_X6_countFindings_18, z_X6_countFindings_21, z_X6_countFindings_22, z_X6_countFindings_25, z_X6_countFindings_28, h.2.2.1.1, kLe, c, xw_a hX hw, xw_n hX hw (show n < 7 by omega), xs_a hX hw, kIn, kCl, e8, e1, kAL, cntR, true_and, Option.toList_some, Option.toList_none, List.cons_append, List.nil_append, is2IT, is2RT, if_true, if_false]
      by_cases c1 : nF1 N n = none
      · rw [if_pos c1, z_X6_countFindings_31, ih (n + 1) v (by omega), if_neg (show ¬ fndP N n = true by unfold fndP; simp [c1])]
      · rw [if_neg c1, z_X6_countFindings_31, ih (n + 1) (v + 1) (by omega), if_pos (show fndP N n = true by unfold fndP; simp [c1])]
  have l := loop (nM N) 0 0 (by omega)
  simp only [z_X6_countFindings_0, z_X6_countFindings_1, z_X6_countFindings_2, z_X6_countFindings_3, true_and, Option.toList_some, Option.toList_none, List.cons_append, List.nil_append, is2IT, is2RT, if_true, if_false]
  exact l
theorem c_cntD (h : CI σ w N) : Ca (d + 1) 59 [vR w 6] σ Q ↔ Q (some (vI (nI (cntR (dneP N) (nM N) 0 0)))) σ := by
  have h7 := CI_7 h
  have hX := h.1
  have hw := h.2.1
  rw [ca_at (K := kX6_countDone) (ls := [vR w 6, vU, vU]) rfl rfl rfl]
  have loop : ∀ r n v, n + r = nM N → (At d kX6_countDone 4 [vR w 6, vI (nI v), vI (nI n)] [] σ Q ↔ Q (some (vI (nI (cntR (dneP N) r n v)))) σ) := by
    intro r
    induction r with
    | zero =>
      intro n v hn
      have hn' : n = nM N := by omega
      subst hn'
      simp (disch := first | exact is2I | exact is2R | omega) only [z_X6_countDone_4, z_X6_countDone_5, z_X6_countDone_6, z_X6_countDone_9, z_X6_countDone_34, z_X6_countDone_35, h.2.2.1.1, kLe, Nat.le_refl, cntR, true_and, Option.toList_some, Option.toList_none, List.cons_append, List.nil_append, is2IT, is2RT, if_true, if_false]
    | succ r ih =>
      intro n v hn
      have hn1 : n < nM N := by omega
      have c : ¬ nM N ≤ n := by omega
      obtain ⟨-, -, -, -, -, -, -, e9, -⟩ := h.2.2.1.2 n hn1
      have e1 := oI_none' (NV_d h.2.2.2 hn1)
      simp (disch := first | exact is2I | exact is2R | omega) only [z_X6_countDone_4, z_X6_countDone_5, z_X6_countDone_6, z_X6_countDone_9, z_X6_countDone_12, z_X6_countDone_13, z_X6_countDone_16, z_X6_countDone_17, z_X6_countDone_17s, z_X6_countDone_18, z_X6_countDone_21, z_X6_countDone_22, z_X6_countDone_25, z_X6_countDone_28, h.2.2.1.1, kLe, c, xw_a hX hw, xw_n hX hw (show n < 7 by omega), xs_a hX hw, kIn, kCl, e9, e1, kAL, cntR, true_and, Option.toList_some, Option.toList_none, List.cons_append, List.nil_append, is2IT, is2RT, if_true, if_false]
      by_cases c1 : nD N n = none
      · rw [if_pos c1, z_X6_countDone_31, ih (n + 1) v (by omega), if_neg (show ¬ dneP N n = true by unfold dneP; simp [c1])]
      · rw [if_neg c1, z_X6_countDone_31, ih (n + 1) (v + 1) (by omega), if_pos (show dneP N n = true by unfold dneP; simp [c1])]
  have l := loop (nM N) 0 0 (by omega)
  simp only [z_X6_countDone_0, z_X6_countDone_1, z_X6_countDone_2, z_X6_countDone_3, true_and, Option.toList_some, Option.toList_none, List.cons_append, List.nil_append, is2IT, is2RT, if_true, if_false]
  exact l
theorem c_cntH (h : CI σ w N) : Ca (d + 2) 60 [vR w 6] σ Q ↔ Q (some (vI (nI (cntR (hinB N) (nM N) 0 0)))) σ := by
  have h7 := CI_7 h
  have hX := h.1
  have hw := h.2.1
  rw [ca_at (K := kX6_countHinted) (ls := [vR w 6, vU, vU]) rfl rfl rfl]
  have loop : ∀ r n v, n + r = nM N → (At (d + 1) kX6_countHinted 4 [vR w 6, vI (nI v), vI (nI n)] [] σ Q ↔ Q (some (vI (nI (cntR (hinB N) r n v)))) σ) := by
    intro r
    induction r with
    | zero =>
      intro n v hn
      have hn' : n = nM N := by omega
      subst hn'
      simp (disch := first | exact is2I | exact is2R | omega) only [z_X6_countHinted_4, z_X6_countHinted_5, z_X6_countHinted_6, z_X6_countHinted_9, z_X6_countHinted_33, z_X6_countHinted_34, h.2.2.1.1, kLe, Nat.le_refl, cntR, true_and, Option.toList_some, Option.toList_none, List.cons_append, List.nil_append, is2IT, is2RT, if_true, if_false]
    | succ r ih =>
      intro n v hn
      have hn1 : n < nM N := by omega
      have c : ¬ nM N ≤ n := by omega
      simp (disch := first | exact is2I | exact is2R | omega) only [z_X6_countHinted_4, z_X6_countHinted_5, z_X6_countHinted_6, z_X6_countHinted_9, z_X6_countHinted_12, z_X6_countHinted_13, z_X6_countHinted_16, z_X6_countHinted_17, z_X6_countHinted_17s, z_X6_countHinted_18, z_X6_countHinted_21, z_X6_countHinted_24, z_X6_countHinted_27, h.2.2.1.1, kLe, c, xw_a hX hw, xw_n hX hw (show n < 7 by omega), xs_a hX hw, kIn, kCl, c_hinted h hn1, b2_0, kAL, cntR, true_and, Option.toList_some, Option.toList_none, List.cons_append, List.nil_append, is2IT, is2RT, if_true, if_false]
      by_cases c1 : hinB N n = true
      · rw [if_neg (fun q => q c1), z_X6_countHinted_30, ih (n + 1) (v + 1) (by omega), if_pos c1]
      · rw [if_pos c1, z_X6_countHinted_30, ih (n + 1) v (by omega), if_neg c1]
  have l := loop (nM N) 0 0 (by omega)
  simp only [z_X6_countHinted_0, z_X6_countHinted_1, z_X6_countHinted_2, z_X6_countHinted_3, true_and, Option.toList_some, Option.toList_none, List.cons_append, List.nil_append, is2IT, is2RT, if_true, if_false]
  exact l
theorem c_cntW (h : CI σ w N) : Ca (d + 1) 61 [vR w 6] σ Q ↔ Q (some (vI (nI (wldR N (nM N) 0 1)))) σ := by
  have h7 := CI_7 h
  have hX := h.1
  have hw := h.2.1
  rw [ca_at (K := kX6_countWorlds) (ls := [vR w 6, vU, vU]) rfl rfl rfl]
  have loop : ∀ r n v, n + r = nM N → (At d kX6_countWorlds 4 [vR w 6, vI (nI v), vI (nI n)] [] σ Q ↔ Q (some (vI (nI (wldR N r n v)))) σ) := by
    intro r
    induction r with
    | zero =>
      intro n v hn
      have hn' : n = nM N := by omega
      subst hn'
      simp (disch := first | exact is2I | exact is2R | omega) only [z_X6_countWorlds_4, z_X6_countWorlds_5, z_X6_countWorlds_6, z_X6_countWorlds_9, z_X6_countWorlds_30, z_X6_countWorlds_31, h.2.2.1.1, kLe, Nat.le_refl, wldR, true_and, Option.toList_some, Option.toList_none, List.cons_append, List.nil_append, is2IT, is2RT, if_true, if_false]
    | succ r ih =>
      intro n v hn
      have hn1 : n < nM N := by omega
      have c : ¬ nM N ≤ n := by omega
      have e2 := (h.2.2.1.2 n hn1).1
      simp (disch := first | exact is2I | exact is2R | omega) only [z_X6_countWorlds_4, z_X6_countWorlds_5, z_X6_countWorlds_6, z_X6_countWorlds_9, z_X6_countWorlds_12, z_X6_countWorlds_13, z_X6_countWorlds_14, z_X6_countWorlds_17, z_X6_countWorlds_18, z_X6_countWorlds_18s, z_X6_countWorlds_19, z_X6_countWorlds_22, z_X6_countWorlds_23, z_X6_countWorlds_24, h.2.2.1.1, kLe, c, xw_a hX hw, xw_n hX hw (show n < 7 by omega), xs_a hX hw, kIn, kCl, e2, pk_mul, kAL, wldR, true_and, Option.toList_some, Option.toList_none, List.cons_append, List.nil_append, is2IT, is2RT, if_true, if_false]
      rw [z_X6_countWorlds_27, ih (n + 1) (v * nS N n) (by omega)]
  have l := loop (nM N) 0 1 (by omega)
  simp only [z_X6_countWorlds_0, z_X6_countWorlds_1, z_X6_countWorlds_2, z_X6_countWorlds_3, true_and, Option.toList_some, Option.toList_none, List.cons_append, List.nil_append, is2IT, is2RT, if_true, if_false]
  exact l
end CP
