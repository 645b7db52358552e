/-! ===== the class: likely, apart, draws, counts, the image, the tape fed ===== -/
theorem x_likely {d : Nat} {Q : Option PV → St → Prop} {σ : St} {S : MSt} {n : Int32} (h : XS σ S) (hQ : ∀ σ', Xc σ σ' → Q (some (vI (likF S.1 n))) σ') : Ca (d + 13) 91 [vR 0 8, vI n] σ Q := by
  have hC := h.1
  have h7 := CI_7 hC
  have hX := hC.1
  rw [ca_at (K := kX8_likely) (ls := [vR 0 8, vI n]) rfl rfl rfl]
  unfold likF at hQ
  cases hp : pN (nM S.1) n with
  | none =>
    rw [hp] at hQ
    simp (disch := first | exact is2I | exact is2R | omega) only [z_X8_likely_0, z_X8_likely_1, z_X8_likely_4, z_X8_likely_5, z_X8_likely_8, z_X8_likely_11, z_X8_likely_13, xf_r0_0 hX, c_has hC, b2_0, pN_none.mp hp, not_false_eq_true, true_and, Option.toList_some, Option.toList_none, List.cons_append, List.nil_append, is2IT, is2RT, if_true, if_false]
    exact hQ σ Fm_rf
  | some k =>
    rw [hp] at hQ
    obtain ⟨hk, rfl⟩ := (pN_some (by omega)).mp hp
    have hP : 0 ≤ nI k ∧ nI k < nI (nM S.1) := (lt_nI (by omega)).mpr ⟨k, hk, rfl⟩
    dsimp only at hQ
    simp (disch := first | exact is2I | exact is2R | omega) only [z_X8_likely_0, z_X8_likely_1, z_X8_likely_4, z_X8_likely_5, z_X8_likely_8, z_X8_likely_11, z_X8_likely_13, z_X8_likely_14, z_X8_likely_15, z_X8_likely_18, z_X8_likely_19, z_X8_likely_22, xf_r0_0 hX, xf_r0_4 hX, c_has hC, b2_0, hP, and_self, not_true_eq_false, true_and, Option.toList_some, Option.toList_none, List.cons_append, List.nil_append, is2IT, is2RT, if_true, if_false]
    refine c_findL (d := d) hC (fun σ1 q1 q2 => ?_)
    have hX1 := XF_fm hX q1
    have fin := hQ σ1 (IwL_X q1)
    simp (disch := first | exact is2I | exact is2R | omega) only [z_X8_likely_25, b2_0, Option.toList_some, List.cons_append, List.nil_append, true_and, Option.toList_some, Option.toList_none, List.cons_append, List.nil_append, is2IT, is2RT, if_true, if_false]
    by_cases c : WT S.1 no1 = 0
    · rw [if_pos c] at fin
      rw [if_pos (fun q => q c)]
      simp (disch := first | exact is2I | exact is2R | omega) only [z_X8_likely_40, z_X8_likely_42, true_and, Option.toList_some, Option.toList_none, List.cons_append, List.nil_append, is2IT, is2RT, if_true, if_false]
      exact fin
    · rw [if_neg c] at fin
      rw [if_neg (fun q => q c)]
      simp (disch := first | exact is2I | exact is2R | omega) only [z_X8_likely_28, z_X8_likely_29, z_X8_likely_32, z_X8_likely_35, z_X8_likely_36, z_X8_likely_37, z_X8_likely_40, z_X8_likely_42, xf_r0_4 hX1, xf_r70_2 hX1, xf_s73 hX1, kIn, kCl, q2 c k hk, true_and, Option.toList_some, Option.toList_none, List.cons_append, List.nil_append, is2IT, is2RT, if_true, if_false]
      exact fin
theorem x_apart {d : Nat} {Q : Option PV → St → Prop} {σ : St} {S : MSt} {n o : Int32} (h : XS σ S) (hQ : Q (some (vI (apF S.1 n o))) σ) : Ca (d + 14) 92 [vR 0 8, vI n, vI o] σ Q := by
  have hC := h.1
  have h7 := CI_7 hC
  have hX := hC.1
  rw [ca_at (K := kX8_apart) (ls := [vR 0 8, vI n, vI o]) rfl rfl rfl]
  unfold apF at hQ
  have bad : Q (some (vI (-2))) σ → At (d + 13) kX8_apart 27 [vR 0 8, vI n, vI o] [] σ Q := fun q => by
    simp only [z_X8_apart_27, z_X8_apart_29, true_and, Option.toList_some, Option.toList_none, List.cons_append, List.nil_append, is2IT, is2RT, if_true, if_false]; exact q
  simp (disch := first | exact is2I | exact is2R | omega) only [z_X8_apart_0, z_X8_apart_1, z_X8_apart_4, z_X8_apart_5, z_X8_apart_8, xf_r0_0 hX, c_has hC, b2_0, true_and, Option.toList_some, Option.toList_none, List.cons_append, List.nil_append, is2IT, is2RT, if_true, if_false]
  cases hp : pN (nM S.1) n with
  | none =>
    rw [hp] at hQ
    rw [if_pos (pN_none.mp hp)]
    exact bad hQ
  | some k =>
    rw [hp] at hQ
    obtain ⟨hk, rfl⟩ := (pN_some (by omega)).mp hp
    have hP : 0 ≤ nI k ∧ nI k < nI (nM S.1) := (lt_nI (by omega)).mpr ⟨k, hk, rfl⟩
    rw [if_neg (fun q => q hP)]
    dsimp only at hQ
    simp (disch := first | exact is2I | exact is2R | omega) only [z_X8_apart_11, z_X8_apart_12, z_X8_apart_15, z_X8_apart_16, z_X8_apart_19, xf_r0_0 hX, c_has hC, b2_0, true_and, Option.toList_some, Option.toList_none, List.cons_append, List.nil_append, is2IT, is2RT, if_true, if_false]
    cases ho : pN (nM S.1) o with
    | none =>
      rw [ho] at hQ
      rw [if_pos (pN_none.mp ho)]
      exact bad hQ
    | some j =>
      rw [ho] at hQ
      obtain ⟨hj, rfl⟩ := (pN_some (by omega)).mp ho
      have hP2 : 0 ≤ nI j ∧ nI j < nI (nM S.1) := (lt_nI (by omega)).mpr ⟨j, hj, rfl⟩
      rw [if_neg (fun q => q hP2)]
      dsimp only at hQ
      simp (disch := first | exact is2I | exact is2R | omega) only [z_X8_apart_22, z_X8_apart_23, z_X8_apart_24, kEq, true_and, Option.toList_some, Option.toList_none, List.cons_append, List.nil_append, is2IT, is2RT, if_true, if_false]
      by_cases ckj : k = j
      · rw [if_pos ckj] at hQ ⊢
        exact bad hQ
      · rw [if_neg ckj] at hQ ⊢
        have ek := (hC.2.2.1.2 k hk).2.2.2.2.2.2.1
        have ej := (hC.2.2.1.2 j hj).2.2.2.2.2.2.1
        have fk := oI_none' (NV_f hC.2.2.2 hk)
        have fj := oI_none' (NV_f hC.2.2.2 hj)
        have one : (¬ nF1 S.1 k = none ∨ ¬ nF1 S.1 j = none) → At (d + 13) kX8_apart 62 [vR 0 8, vI (nI k), vI (nI j)] [] σ Q := fun q => by
          rw [if_pos q] at hQ
          simp only [z_X8_apart_62, z_X8_apart_63, true_and, Option.toList_some, Option.toList_none, List.cons_append, List.nil_append, is2IT, is2RT, if_true, if_false]; exact hQ
        simp (disch := first | exact is2I | exact is2R | omega) only [z_X8_apart_30, z_X8_apart_31, z_X8_apart_34, z_X8_apart_37, z_X8_apart_38, z_X8_apart_38s, z_X8_apart_39, z_X8_apart_42, z_X8_apart_43, xf_r0_0 hX, xw_a hX Wk1, xw_n hX Wk1 (show k < 7 by omega), xs_a hX Wk1, kIn, kCl, ek, fk, true_and, Option.toList_some, Option.toList_none, List.cons_append, List.nil_append, is2IT, is2RT, if_true, if_false]
        by_cases c1 : nF1 S.1 k = none
        · rw [if_pos c1]
          simp (disch := first | exact is2I | exact is2R | omega) only [z_X8_apart_46, z_X8_apart_47, z_X8_apart_50, z_X8_apart_53, z_X8_apart_54, z_X8_apart_54s, z_X8_apart_55, z_X8_apart_58, z_X8_apart_59, xf_r0_0 hX, xw_a hX Wk1, xw_n hX Wk1 (show j < 7 by omega), xs_a hX Wk1, kIn, kCl, ej, fj, true_and, Option.toList_some, Option.toList_none, List.cons_append, List.nil_append, is2IT, is2RT, if_true, if_false]
          by_cases c2 : nF1 S.1 j = none
          · rw [if_pos c2]
            rw [if_neg (fun q => q.elim (fun z => z c1) (fun z => z c2))] at hQ
            simp (disch := first | exact is2I | exact is2R | omega) only [z_X8_apart_64, z_X8_apart_65, z_X8_apart_68, z_X8_apart_69, z_X8_apart_70, z_X8_apart_73, xf_r0_0 hX, c_leads (d := d) hC hk hj, b2_0, true_and, Option.toList_some, Option.toList_none, List.cons_append, List.nil_append, is2IT, is2RT, if_true, if_false]
            by_cases cw : way S.1 7 none k j (2 ^ k) = true
            · rw [if_pos cw] at hQ
              rw [if_neg (fun q => q cw)]
              simp only [z_X8_apart_76, z_X8_apart_77, z_X8_apart_80, z_X8_apart_81, true_and, Option.toList_some, Option.toList_none, List.cons_append, List.nil_append, is2IT, is2RT, if_true, if_false]; exact hQ
            · rw [if_neg cw] at hQ
              rw [if_pos cw]
              simp only [z_X8_apart_80, z_X8_apart_81, true_and, Option.toList_some, Option.toList_none, List.cons_append, List.nil_append, is2IT, is2RT, if_true, if_false]; exact hQ
          · rw [if_neg c2]; exact one (Or.inr c2)
        · rw [if_neg c1]; exact one (Or.inl c1)
theorem I71_X {σ σ' : St} (h : Fm I71 noL σ σ') : Xc σ σ' := Iwc_X (Fm_mono h (fun a i => I71_c) (fun _ q => q))
theorem x_drawn {d : Nat} {Q : Option PV → St → Prop} {σ : St} {S : MSt} {s n : Int32} (h : XS σ S) (hQ : ∀ σ', Xc σ σ' → Q (some (vI (drawF S.1 s n))) σ') : Ca (d + 5) 98 [vR 0 8, vI s, vI n] σ Q := by
  have hC := h.1
  have h7 := CI_7 hC
  have hX := hC.1
  rw [ca_at (K := kX8_drawn) (ls := [vR 0 8, vI s, vI n]) rfl rfl rfl]
  unfold drawF at hQ
  cases hp : pN (nM S.1) n with
  | none =>
    rw [hp] at hQ
    simp (disch := first | exact is2I | exact is2R | omega) only [z_X8_drawn_0, z_X8_drawn_1, z_X8_drawn_4, z_X8_drawn_5, z_X8_drawn_8, z_X8_drawn_11, z_X8_drawn_13, xf_r0_0 hX, c_has hC, b2_0, pN_none.mp hp, not_false_eq_true, true_and, Option.toList_some, Option.toList_none, List.cons_append, List.nil_append, is2IT, is2RT, if_true, if_false]
    exact hQ σ Fm_rf
  | some k =>
    rw [hp] at hQ
    obtain ⟨hk, rfl⟩ := (pN_some (by omega)).mp hp
    have hP : 0 ≤ nI k ∧ nI k < nI (nM S.1) := (lt_nI (by omega)).mpr ⟨k, hk, rfl⟩
    dsimp only at hQ
    simp (disch := first | exact is2I | exact is2R | omega) only [z_X8_drawn_0, z_X8_drawn_1, z_X8_drawn_4, z_X8_drawn_5, z_X8_drawn_8, z_X8_drawn_11, z_X8_drawn_13, z_X8_drawn_14, z_X8_drawn_15, z_X8_drawn_18, z_X8_drawn_19, z_X8_drawn_22, z_X8_drawn_23, xf_r0_0 hX, xf_r0_4 hX, c_has hC, b2_0, hP, and_self, not_true_eq_false, true_and, Option.toList_some, Option.toList_none, List.cons_append, List.nil_append, is2IT, is2RT, if_true, if_false]
    refine c_draw (d := d) hC (fun σ1 q1 q2 => ?_)
    have hX1 := XF_fm hX q1
    simp (disch := first | exact is2I | exact is2R | omega) only [z_X8_drawn_26, z_X8_drawn_27, z_X8_drawn_30, z_X8_drawn_33, z_X8_drawn_34, z_X8_drawn_35, xf_r0_4 hX1, xf_r70_0 hX1, xf_s71 hX1, kIn, kCl, (q2 k hk).1, Option.toList_none, List.nil_append, true_and, Option.toList_some, Option.toList_none, List.cons_append, List.nil_append, is2IT, is2RT, if_true, if_false]
    exact hQ σ1 (I71_X q1)
theorem xch_l {d k v M : Nat} {Q : Option PV → St → Prop} {N : Net} {σ0 : St} {s l : Int32} {pE : Nat × Nat} (h : CI σ0 1 N) (hk : k < nM N) (hv : v < 3) (hM : M < 9) (hQ : ∀ σ', Fm I71 noL σ0 σ' → pE.1 ≤ M → pE.2 ≤ M → At (d + 4) kX8_chance 108 [vR 0 8, vI s, vI (nI M), vI (nI k), vI (nI v), vI l, vI (nI pE.1), vI (nI pE.2), vI (nI M)] [] σ' Q) : ∀ r i σ p, i + r = M → p.1 ≤ i → p.2 ≤ i → Fm I71 noL σ0 σ → chR N s k v r i p = pE → At (d + 4) kX8_chance 44 [vR 0 8, vI s, vI (nI M), vI (nI k), vI (nI v), vI l, vI (nI p.1), vI (nI p.2), vI (nI i)] [] σ Q
  | 0, i, σ, p, hi, h1, h2, hf, he => by
    have : i = M := by omega
    subst this
    have he' : p = pE := he
    subst he'
    simp (disch := first | exact is2I | exact is2R | omega) only [z_X8_chance_44, z_X8_chance_46, z_X8_chance_47, kLe, Nat.le_refl, true_and, Option.toList_some, Option.toList_none, List.cons_append, List.nil_append, is2IT, is2RT, if_true, if_false]
    exact hQ σ hf h1 h2
  | r + 1, i, σ, p, hi, h1, h2, hf, he => by
    have h7 := CI_7 h
    have c : ¬ M ≤ i := by omega
    have m1 : CI σ 1 N := CI_x h (I71_X hf)
    have hX := m1.1
    have ev : ∀ i : Nat, nI i + (1 : Int32) = nI (i + 1) := fun i => nI_add i 1
    simp (disch := first | exact is2I | exact is2R | omega) only [z_X8_chance_44, z_X8_chance_46, z_X8_chance_47, z_X8_chance_50, z_X8_chance_51, z_X8_chance_54, z_X8_chance_55, z_X8_chance_58, z_X8_chance_59, z_X8_chance_61, z_X8_chance_62, kLe, c, xf_r0_0 hX, xf_r0_4 hX, true_and, Option.toList_some, Option.toList_none, List.cons_append, List.nil_append, is2IT, is2RT, if_true, if_false]
    refine c_draw (d := d) m1 (fun σ1 q1 q2 => ?_)
    have m2 : CI σ1 1 N := CI_x m1 (I71_X q1)
    have hX1 := m2.1
    have nx : ∀ p', p'.1 ≤ i + 1 → p'.2 ≤ i + 1 → chR N s k v r (i + 1) p' = pE → At (d + 4) kX8_chance 102 [vR 0 8, vI s, vI (nI M), vI (nI k), vI (nI v), vI l, vI (nI p'.1), vI (nI p'.2), vI (nI i)] [] σ1 Q := fun p' g1 g2 g3 => by
      simp (disch := first | exact is2I | exact is2R | omega) only [z_X8_chance_102, ev, true_and, Option.toList_some, Option.toList_none, List.cons_append, List.nil_append, is2IT, is2RT, if_true, if_false]
      rw [z_X8_chance_105]
      exact xch_l h hk hv hM hQ r (i + 1) σ1 p' (by omega) g1 g2 (Fm_tr hf q1) g3
    have he' : chR N s k v r (i + 1) (if asfA N (drS N (s + nI i)) = true then (p.1 + 1, if drS N (s + nI i) k = v then p.2 + 1 else p.2) else p) = pE := he
    simp (disch := first | exact is2I | exact is2R | omega) only [z_X8_chance_65, z_X8_chance_66, z_X8_chance_69, z_X8_chance_70, z_X8_chance_73, z_X8_chance_76, xf_r0_0 hX1, xf_r0_4 hX1, c_fits m2 q2, b2_0, Option.toList_none, List.nil_append, true_and, Option.toList_some, Option.toList_none, List.cons_append, List.nil_append, is2IT, is2RT, if_true, if_false]
    by_cases ca : asfA N (drS N (s + nI i)) = true
    · rw [if_pos ca] at he'
      rw [if_neg (fun q => q ca)]
      have w3 := (q2 k hk).2
      have ss := NV_sv h.2.2.2 hk
      simp (disch := first | exact is2I | exact is2R | omega) only [z_X8_chance_82, z_X8_chance_85, z_X8_chance_86, z_X8_chance_89, z_X8_chance_92, z_X8_chance_93, z_X8_chance_94, z_X8_chance_96, ev, xf_r0_4 hX1, xf_r70_0 hX1, xf_s71 hX1, kIn, kCl, (q2 k hk).1, kEq, true_and, Option.toList_some, Option.toList_none, List.cons_append, List.nil_append, is2IT, is2RT, if_true, if_false]
      by_cases cv : drS N (s + nI i) k = v
      · rw [if_pos cv] at he' ⊢
        simp (disch := first | exact is2I | exact is2R | omega) only [z_X8_chance_99, ev, true_and, Option.toList_some, Option.toList_none, List.cons_append, List.nil_append, is2IT, is2RT, if_true, if_false]
        exact nx (p.1 + 1, p.2 + 1) (by show p.1 + 1 ≤ _; omega) (by show p.2 + 1 ≤ _; omega) he'
      · rw [if_neg cv] at he' ⊢
        exact nx (p.1 + 1, p.2) (by show p.1 + 1 ≤ _; omega) (by show p.2 ≤ _; omega) he'
    · rw [if_neg ca] at he'
      rw [if_pos ca]
      simp only [z_X8_chance_79, true_and, Option.toList_some, Option.toList_none, List.cons_append, List.nil_append, is2IT, is2RT, if_true, if_false]
      exact nx p (by omega) (by omega) he'
theorem x_chance {d : Nat} {Q : Option PV → St → Prop} {σ : St} {S : MSt} {s m n v l : Int32} (h : XS σ S) (hQ : ∀ σ', Xc σ σ' → Q (some (vI (chanF S.1 s m n v l))) σ') : Ca (d + 5) 99 [vR 0 8, vI s, vI m, vI n, vI v, vI l] σ Q := by
  have hC := h.1
  have h7 := CI_7 hC
  have hX := hC.1
  rw [ca_at (K := kX8_chance) (ls := [vR 0 8, vI s, vI m, vI n, vI v, vI l, vU, vU, vU]) rfl rfl rfl]
  unfold chanF at hQ
  have bad : (∀ σ', Xc σ σ' → Q (some (vI (-2))) σ') → At (d + 4) kX8_chance 32 [vR 0 8, vI s, vI m, vI n, vI v, vI l, vU, vU, vU] [] σ Q := fun q => by
    simp only [z_X8_chance_32, z_X8_chance_34, true_and, Option.toList_some, Option.toList_none, List.cons_append, List.nil_append, is2IT, is2RT, if_true, if_false]
    exact q σ Fm_rf
  have g8 : ((8 : Int32) < m) = ¬ (m < nI 9) := gtN (n := 8) (by decide)
  have g0 : (¬ (0 ≤ m)) → m < 1 := fun q => by
    rw [Int32.le_iff_toInt_le] at q
    rw [Int32.lt_iff_toInt_lt]
    have e0 : (0 : Int32).toInt = 0 := by decide
    have e1 : (1 : Int32).toInt = 1 := by decide
    omega
  simp (disch := first | exact is2I | exact is2R | omega) only [z_X8_chance_0, z_X8_chance_1, z_X8_chance_2, true_and, Option.toList_some, Option.toList_none, List.cons_append, List.nil_append, is2IT, is2RT, if_true, if_false]
  cases hm : pN 9 m with
  | none =>
    rw [hm] at hQ
    have hM := pN_none.mp hm
    by_cases c1 : m < 1
    · rw [if_pos c1]; exact bad hQ
    · rw [if_neg c1]
      have c0 : 0 ≤ m := Decidable.byContradiction (fun q => c1 (g0 q))
      simp (disch := first | exact is2I | exact is2R | omega) only [z_X8_chance_5, z_X8_chance_6, z_X8_chance_8, g8, true_and, Option.toList_some, Option.toList_none, List.cons_append, List.nil_append, is2IT, is2RT, if_true, if_false]
      rw [if_pos (fun q => hM ⟨c0, q⟩)]
      exact bad hQ
  | some M =>
    rw [hm] at hQ
    obtain ⟨hM, rfl⟩ := (pN_some (by decide)).mp hm
    dsimp only at hQ
    by_cases c0 : M = 0
    · rw [if_pos c0] at hQ
      rw [if_pos (show nI M < 1 by rw [c0]; decide)]
      exact bad hQ
    · rw [if_neg c0] at hQ
      have n1 : ¬ (nI M < 1) := fun q => by have := (nI_ltI (a := M) (b := 1) (by omega) (by decide)).mp q; omega
      have n9 : nI M < nI 9 := (nI_ltI (by omega) (by decide)).mpr hM
      rw [if_neg n1]
      simp (disch := first | exact is2I | exact is2R | omega) only [z_X8_chance_5, z_X8_chance_6, z_X8_chance_8, z_X8_chance_11, z_X8_chance_12, z_X8_chance_15, z_X8_chance_16, z_X8_chance_18, z_X8_chance_21, g8, n9, not_true_eq_false, xf_r0_0 hX, c_hasV hC, b2_0, true_and, Option.toList_some, Option.toList_none, List.cons_append, List.nil_append, is2IT, is2RT, if_true, if_false]
      cases ha : askP S.1 n v with
      | none =>
        rw [ha] at hQ
        rw [if_pos (fun q => by cases q)]
        exact bad hQ
      | some e =>
        obtain ⟨k, u⟩ := e
        rw [ha] at hQ
        obtain ⟨hk, hu, rfl, rfl⟩ := (askP_some hC.2.2.2).mp ha
        have ss := NV_sv hC.2.2.2 hk
        dsimp only at hQ
        rw [if_neg (fun q => q rfl)]
        simp (disch := first | exact is2I | exact is2R | omega) only [z_X8_chance_24, z_X8_chance_26, z_X8_chance_29, c_isLine, b2_0, true_and, Option.toList_some, Option.toList_none, List.cons_append, List.nil_append, is2IT, is2RT, if_true, if_false]
        by_cases hl : 0 ≤ l ∧ l < nI 2
        · rw [if_pos hl] at hQ
          rw [if_neg (fun q => q hl)]
          simp (disch := first | exact is2I | exact is2R | omega) only [z_X8_chance_35, z_X8_chance_36, z_X8_chance_38, z_X8_chance_39, z_X8_chance_41, z_X8_chance_42, true_and, Option.toList_some, Option.toList_none, List.cons_append, List.nil_append, is2IT, is2RT, if_true, if_false]
          refine xch_l (d := d) (pE := chR S.1 s k u M 0 (0, 0)) hC hk (by omega) hM (fun σ1 q1 q2 q3 => ?_) M 0 σ (0, 0) (by omega) (Nat.le_refl 0) (Nat.le_refl 0) Fm_rf rfl
          generalize chR S.1 s k u M 0 (0, 0) = p at hQ q2 q3
          simp (disch := first | exact is2I | exact is2R | omega) only [z_X8_chance_108, z_X8_chance_110, z_X8_chance_111, z_X8_chance_113, z_X8_chance_114, z_X8_chance_116, nI_l, true_and, Option.toList_some, Option.toList_none, List.cons_append, List.nil_append, is2IT, is2RT, if_true, if_false]
          refine c_frac (d := d + 2) (by omega) (by omega) ?_
          simp (disch := first | exact is2I | exact is2R | omega) only [z_X8_chance_119, z_X8_chance_120, Option.toList_some, List.cons_append, List.nil_append, true_and, Option.toList_some, Option.toList_none, List.cons_append, List.nil_append, is2IT, is2RT, if_true, if_false]
          have fin := hQ σ1 (I71_X q1)
          unfold oddS
          by_cases cp : p.1 = 0
          · rw [if_pos cp] at fin ⊢; exact fin
          · rw [if_neg cp] at fin ⊢; exact fin
        · rw [if_neg hl] at hQ
          rw [if_pos hl]
          exact bad hQ
theorem sR_sum {f : Nat → Nat} : ∀ r b, sR f r b = ((List.range' b r).map f).sum
  | 0, _ => rfl
  | r + 1, b => by
    show f b + sR f r (b + 1) = _
    rw [sR_sum r (b + 1), List.range'_succ, List.map_cons, List.sum_cons]
theorem x_count {d : Nat} {Q : Option PV → St → Prop} {σ : St} {S : MSt} {w : Int32} (h : XS σ S) (hQ : ∀ σ', Xc σ σ' → Q (some (vI (countF S.1 S.2.2.1.length w))) σ') : Ca (d + 5) 104 [vR 0 8, vI w] σ Q := by
  have hC := h.1
  have h7 := CI_7 hC
  have hX := hC.1
  have ht : rI σ 83 1 = nI S.2.2.1.length := h.2.2.2.1.1
  rw [ca_at (K := kX8_count) (ls := [vR 0 8, vI w]) rfl rfl rfl]
  unfold countF at hQ
  cases hw : pN 7 w with
  | none =>
    rw [hw] at hQ
    have k := pN_none.mp hw
    simp (disch := first | exact k | omega) only [z_X8_count_0, z_X8_count_1_d, z_X8_count_104, z_X8_count_106, true_and, Option.toList_some, Option.toList_none, List.cons_append, List.nil_append, is2IT, is2RT, if_true, if_false]
    exact hQ σ Fm_rf
  | some j =>
    rw [hw] at hQ
    obtain ⟨hj, rfl⟩ := (pN_some (by decide)).mp hw
    dsimp only at hQ
    rcases (show j = 0 ∨ j = 1 ∨ j = 2 ∨ j = 3 ∨ j = 4 ∨ j = 5 ∨ j = 6 by omega) with rfl | rfl | rfl | rfl | rfl | rfl | rfl
    · simp (disch := first | exact is2I | exact is2R | omega) only [z_X8_count_0, z_X8_count_44, z_X8_count_45, z_X8_count_48, z_X8_count_51, z_X8_count_1_0, xf_r0_0 hX, hC.2.2.1.1, true_and, Option.toList_some, Option.toList_none, List.cons_append, List.nil_append, is2IT, is2RT, if_true, if_false]
      exact hQ σ Fm_rf
    · simp (disch := first | exact is2I | exact is2R | omega) only [z_X8_count_0, z_X8_count_52, z_X8_count_53, z_X8_count_56, z_X8_count_59, z_X8_count_1_1, xf_r0_0 hX, c_cntF hC, true_and, Option.toList_some, Option.toList_none, List.cons_append, List.nil_append, is2IT, is2RT, if_true, if_false]
      exact hQ σ Fm_rf
    · simp (disch := first | exact is2I | exact is2R | omega) only [z_X8_count_0, z_X8_count_60, z_X8_count_61, z_X8_count_64, z_X8_count_67, z_X8_count_1_2, xf_r0_0 hX, c_cntD hC, true_and, Option.toList_some, Option.toList_none, List.cons_append, List.nil_append, is2IT, is2RT, if_true, if_false]
      exact hQ σ Fm_rf
    · simp (disch := first | exact is2I | exact is2R | omega) only [z_X8_count_0, z_X8_count_68, z_X8_count_69, z_X8_count_72, z_X8_count_75, z_X8_count_1_3, xf_r0_0 hX, c_cntH hC, true_and, Option.toList_some, Option.toList_none, List.cons_append, List.nil_append, is2IT, is2RT, if_true, if_false]
      exact hQ σ Fm_rf
    · simp (disch := first | exact is2I | exact is2R | omega) only [z_X8_count_0, z_X8_count_76, z_X8_count_77, z_X8_count_80, z_X8_count_83, z_X8_count_1_4, xf_r0_7 hX, ht, true_and, Option.toList_some, Option.toList_none, List.cons_append, List.nil_append, is2IT, is2RT, if_true, if_false]
      exact hQ σ Fm_rf
    · simp (disch := first | exact is2I | exact is2R | omega) only [z_X8_count_0, z_X8_count_84, z_X8_count_85, z_X8_count_88, z_X8_count_89, z_X8_count_92, z_X8_count_1_5, xf_r0_0 hX, xf_r0_5 hX, true_and, Option.toList_some, Option.toList_none, List.cons_append, List.nil_append, is2IT, is2RT, if_true, if_false]
      refine c_countNear (d := d) hC (fun σ1 q1 => ?_)
      simp (disch := first | exact is2I | exact is2R | omega) only [z_X8_count_95, Option.toList_some, List.cons_append, List.nil_append, true_and, Option.toList_some, Option.toList_none, List.cons_append, List.nil_append, is2IT, is2RT, if_true, if_false]
      have fin := hQ σ1 (Fm_mono q1 (fun a i q => by have := Nat.eq_of_beq_eq_true q; exact decide_eq_true (by omega)) noL_t)
      unfold cnR
      rw [sR_sum]
      exact fin
    · simp (disch := first | exact is2I | exact is2R | omega) only [z_X8_count_0, z_X8_count_96, z_X8_count_97, z_X8_count_100, z_X8_count_103, z_X8_count_1_6, xf_r0_0 hX, c_cntW hC, true_and, Option.toList_some, Option.toList_none, List.cons_append, List.nil_append, is2IT, is2RT, if_true, if_false]
      exact hQ σ Fm_rf
theorem Iw24_ICc {a i : Nat} (h : Iwb 24 a i = true) : ICc a i = true := by have := of_decide_eq_true h; exact decide_eq_true (by omega)
theorem x_image {d : Nat} {Q : Option PV → St → Prop} {σ : St} {S : MSt} (h : XS σ S) (hQ : ∀ σ', XS σ' (S.1, some S.1, S.2.2) → Fc σ σ' → Q (some (vI (nI (nM S.1)))) σ') : Ca (d + 3) 102 [vR 0 8] σ Q := by
  have h0 := h
  obtain ⟨hC, h5, h6, h7, h8⟩ := h
  have hX := hC.1
  rw [ca_at (K := kX8_image) (ls := [vR 0 8]) rfl rfl rfl]
  simp (disch := first | exact is2I | exact is2R | omega) only [z_X8_image_0, z_X8_image_1, z_X8_image_4, z_X8_image_5, z_X8_image_8, xf_r0_0 hX, xf_r0_1 hX, true_and, Option.toList_some, Option.toList_none, List.cons_append, List.nil_append, is2IT, is2RT, if_true, if_false]
  refine c_wbecome (d := d) hC Wk24 (by decide) (fun σ1 q1 h1 => ?_)
  have hX1 := h1.1
  have F2 : Fm (fun a i => Iwb 24 a i || (a.beq 0 && i.beq 3)) noL σ (wI σ1 0 3 1) := Fm_tr (Fm_mono q1 (fun a i q => by rw [q]; rfl) (fun _ q => q)) (Fm_wI rfl)
  have nI0 : ∀ a i, (a < 24 ∨ 46 < a) → ¬ (a = 0 ∧ i = 3) → (Iwb 24 a i || (a.beq 0 && i.beq 3)) = false := fun a i q1 q2 => by
    rw [show Iwb 24 a i = false from decide_eq_false (by omega), Bool.false_or]
    rw [← Bool.not_eq_true]
    intro q
    rw [Bool.and_eq_true] at q
    exact q2 ⟨Nat.eq_of_beq_eq_true q.1, Nat.eq_of_beq_eq_true q.2⟩
  have hB : WB (wI σ1 0 3 1) 1 S.1 := WB_fm hC.2.2.1 hC.2.2.2.1 F2 (fun a i q1 q2 => nI0 a i (by omega) (by omega))
  have hB2 : WB (wI σ1 0 3 1) 24 S.1 := WB_fm h1.2.2.1 h1.2.2.2.1 (Fm_wI (I := fun a i => a.beq 0) (L := noL) rfl) (fun a i q1 q2 => by rw [← Bool.not_eq_true]; intro q; have := Nat.eq_of_beq_eq_true q; omega)
  have e1 := hB.1
  have rk : (retOK (some .boolean) 1 = true) = True := rk_b1
  simp (disch := first | exact is2I | exact is2R | omega) only [z_X8_image_11, z_X8_image_12, z_X8_image_13, z_X8_image_16, z_X8_image_17, z_X8_image_20, z_X8_image_23, xf_r0_0 hX1, rR_wI, e1, show narOK 2 1 = true from rfl, Option.toList_none, List.nil_append, true_and, Option.toList_some, Option.toList_none, List.cons_append, List.nil_append, is2IT, is2RT, if_true, if_false]
  refine hQ _ ⟨⟨XF_fm hX F2, Wk1, hB, hC.2.2.2⟩, by rw [rI_wI, if_pos ⟨rfl, rfl⟩]; rfl, fun K hK => by cases hK; exact ⟨hB2, hC.2.2.2⟩, tpC_fm h7 F2 (nI0 _ _ (by omega) (by omega)) (fun i => nI0 _ _ (by omega) (by omega)), fun j hj => shAC_fm (h8 j hj) F2 (fun i => nI0 _ _ (by omega) (by omega)) rfl⟩ (Fm_mono F2 (fun a i q => ?_) noL_t)
  rw [Bool.or_eq_true, Bool.and_eq_true] at q
  rcases q with q | q
  · exact Iw24_ICc q
  · have := Nat.eq_of_beq_eq_true q.1
    exact decide_eq_true (by omega)
theorem x_back {d : Nat} {Q : Option PV → St → Prop} {σ : St} {S : MSt} (h : XS σ S) (hQ : ∀ σ', XS σ' ((backF S).2, S.2) → Fc σ σ' → Q (some (vI (backF S).1)) σ') : Ca (d + 3) 103 [vR 0 8] σ Q := by
  have h0 := h
  obtain ⟨hC, h5, h6, h7, h8⟩ := h
  have hX := hC.1
  rw [ca_at (K := kX8_back) (ls := [vR 0 8]) rfl rfl rfl]
  unfold backF at hQ
  cases hk : S.2.1 with
  | none =>
    rw [hk] at hQ h5
    have e3 : rI σ 0 3 = 0 := h5
    simp (disch := first | exact is2I | exact is2R | omega) only [z_X8_back_0, z_X8_back_1, z_X8_back_4, z_X8_back_7, z_X8_back_9, e3, true_and, Option.toList_some, Option.toList_none, List.cons_append, List.nil_append, is2IT, is2RT, if_true, if_false]
    exact hQ σ h0 Fm_rf
  | some K =>
    rw [hk] at hQ h5
    have e3 : rI σ 0 3 = 1 := h5
    obtain ⟨k1, k2⟩ := h6 K hk
    have hCK : CI σ 24 K := ⟨hX, Wk24, k1, k2⟩
    have n10 : ((1 : Int32) = 0) = False := eq_false (by decide)
    simp (disch := first | exact is2I | exact is2R | omega) only [z_X8_back_0, z_X8_back_1, z_X8_back_4, z_X8_back_7, z_X8_back_9, z_X8_back_10, z_X8_back_11, z_X8_back_14, z_X8_back_15, z_X8_back_18, e3, n10, xf_r0_0 hX, xf_r0_1 hX, true_and, Option.toList_some, Option.toList_none, List.cons_append, List.nil_append, is2IT, is2RT, if_true, if_false]
    refine c_wbecome (d := d) hCK Wk1 (by decide) (fun σ1 q1 h1 => ?_)
    simp (disch := first | exact is2I | exact is2R | omega) only [z_X8_back_21, z_X8_back_22, z_X8_back_25, z_X8_back_28, xf_r0_0 h1.1, h1.2.2.1.1, Option.toList_none, List.nil_append, true_and, Option.toList_some, Option.toList_none, List.cons_append, List.nil_append, is2IT, is2RT, if_true, if_false]
    exact hQ σ1 (XS_web h0 q1 h1.2.2.1 h1.2.2.2) (Fm_mono q1 (fun a i => Iwb_ICc) noL_t)
theorem XS_tp {σ σ' : St} {S : MSt} {l : List Nat} {I : Nat → Nat → Bool} (h : XS σ S) (hf : Fm I noL σ σ') (hI : ∀ a i, a < 83 ∨ 85 < a → I a i = false) (hl : tpC σ' l) : XS σ' (S.1, S.2.1, l, S.2.2.2) := by
  obtain ⟨⟨h1, h2, h3, h4⟩, h5, h6, h7, h8⟩ := h
  exact ⟨⟨XF_fm h1 hf, h2, WB_fm h3 h4.1 hf (fun a i q1 q2 => hI a i (by omega)), h4⟩, by rw [hf.1 0 3 (hI 0 3 (by omega))]; exact h5, fun K hK => ⟨WB_fm (h6 K hK).1 (h6 K hK).2.1 hf (fun a i q1 q2 => hI a i (by omega)), (h6 K hK).2⟩, hl, fun j hj => shAC_fm (h8 j hj) hf (fun i => hI _ i (by omega)) rfl⟩
def Itp (a _i : Nat) : Bool := decide (83 ≤ a ∧ a ≤ 85)
theorem Itp_ICc {a i : Nat} (h : Itp a i = true) : ICc a i = true := by have := of_decide_eq_true h; exact decide_eq_true (by omega)
theorem x_feed {d : Nat} {Q : Option PV → St → Prop} {σ : St} {S : MSt} {x : Int32} (h : XS σ S) (hQ : ∀ σ', XS σ' (S.1, S.2.1, (feedS S.2.2.1 x).2, S.2.2.2) → Fc σ σ' → Q (some (vI (feedS S.2.2.1 x).1)) σ') : Ca (d + 2) 79 [vR 0 8, vI x] σ Q := by
  have hX := h.1.1
  obtain ⟨t1, t2, t3⟩ := h.2.2.2.1
  rw [ca_at (K := kX8_feed) (ls := [vR 0 8, vI x]) rfl rfl rfl]
  unfold feedS at hQ
  have g : (x ≤ (255 : Int32)) = (x < nI 256) := propext ((Int32.not_lt (a := 255) (b := x)).symm.trans ((not_congr (Iff.of_eq (gtN (x := x) (n := 255) (by decide)))).trans Decidable.not_not))
  cases hx : pN 256 x with
  | none =>
    rw [hx] at hQ
    have hP := pN_none.mp hx
    have bad : At (d + 1) kX8_feed 11 [vR 0 8, vI x] [] σ Q := by
      simp only [z_X8_feed_11, z_X8_feed_13, true_and, Option.toList_some, Option.toList_none, List.cons_append, List.nil_append, is2IT, is2RT, if_true, if_false]
      exact hQ σ h Fm_rf
    simp (disch := first | exact is2I | exact is2R | omega) only [z_X8_feed_0, z_X8_feed_1, ge0, true_and, Option.toList_some, Option.toList_none, List.cons_append, List.nil_append, is2IT, is2RT, if_true, if_false]
    by_cases c0 : 0 ≤ x
    · rw [if_neg (fun q => q c0)]
      simp (disch := first | exact is2I | exact is2R | omega) only [z_X8_feed_4, z_X8_feed_5, z_X8_feed_8, g, true_and, Option.toList_some, Option.toList_none, List.cons_append, List.nil_append, is2IT, is2RT, if_true, if_false]
      rw [if_neg (fun q => hP ⟨c0, q⟩)]
      exact bad
    · rw [if_pos c0]; exact bad
  | some b =>
    rw [hx] at hQ
    obtain ⟨hb, rfl⟩ := (pN_some (by decide)).mp hx
    have n0 : 0 ≤ nI b := nI_pos' (by omega)
    have n1 : nI b < nI 256 := (nI_ltI (by omega) (by decide)).mpr hb
    dsimp only at hQ
    simp (disch := first | exact is2I | exact is2R | omega) only [z_X8_feed_0, z_X8_feed_1, z_X8_feed_4, z_X8_feed_5, z_X8_feed_8, z_X8_feed_11, z_X8_feed_13, z_X8_feed_14, z_X8_feed_15, z_X8_feed_18, z_X8_feed_21, z_X8_feed_23, ge0, g, n0, n1, not_true_eq_false, xf_r0_7 hX, t1, kLtL, true_and, Option.toList_some, Option.toList_none, List.cons_append, List.nil_append, is2IT, is2RT, if_true, if_false]
    by_cases c : S.2.2.1.length = 60
    · rw [if_pos c] at hQ
      rw [if_neg (by omega)]
      simp only [z_X8_feed_26, z_X8_feed_28, true_and, Option.toList_some, Option.toList_none, List.cons_append, List.nil_append, is2IT, is2RT, if_true, if_false]
      exact hQ σ h Fm_rf
    · rw [if_neg c] at hQ
      rw [if_pos (by omega)]
      simp (disch := first | exact is2I | exact is2R | omega) only [z_X8_feed_29, z_X8_feed_30, z_X8_feed_33, z_X8_feed_34, xf_r0_7 hX, true_and, Option.toList_some, Option.toList_none, List.cons_append, List.nil_append, is2IT, is2RT, if_true, if_false]
      rw [ca_at (K := kX3_add) (ls := [vR 83 4, vI (nI b)]) rfl rfl rfl]
      have F : Fm Itp noL σ (wI (wI σ 83 1 (nI (S.2.2.1.length + 1))) 84 S.2.2.1.length (nI b)) := Fm_tr (Fm_wI rfl) (Fm_wI rfl)
      have s1 : rI (wI (wI σ 83 1 (nI (S.2.2.1.length + 1))) 84 S.2.2.1.length (nI b)) 83 1 = nI (S.2.2.1.length + 1) := by rw [rI_wI_n (by decide), rI_wI, if_pos ⟨rfl, rfl⟩]
      simp (disch := first | exact is2I | exact is2R | omega) only [z_X3_add_0, z_X3_add_1, z_X3_add_4, z_X3_add_5, z_X3_add_6, z_X3_add_9, z_X3_add_10, z_X3_add_11, z_X3_add_12, z_X3_add_15, z_X3_add_16, z_X3_add_17, z_X8_feed_37, z_X8_feed_38, z_X8_feed_41, z_X8_feed_44, xf_r0_0 hX, xf_r0_1 hX, xf_r0_2 hX, xf_r0_4 hX, xf_r0_5 hX, xf_r0_6 hX, xf_r0_7 hX, xf_r0_8 hX, xf_r0_9 hX, xf_r70_0 hX, xf_r70_1 hX, xf_r70_2 hX, xf_r74_0 hX, xf_r74_1 hX, xf_r74_2 hX, xf_r74_3 hX, xf_r79_0 hX, xf_r79_1 hX, xf_r79_2 hX, xf_r83_0 hX, xf_r83_7 hX, xf_r88_0 hX, xf_r88_1 hX, xf_r88_2 hX, xf_r88_3 hX, xf_s0 hX, xf_s70 hX, xf_s71 hX, xf_s72 hX, xf_s73 hX, xf_s74 hX, xf_s75 hX, xf_s76 hX, xf_s77 hX, xf_s78 hX, xf_s79 hX, xf_s80 hX, xf_s81 hX, xf_s82 hX, xf_s83 hX, xf_s84 hX, xf_s85 hX, xf_s86 hX, xf_s88 hX, xf_s89 hX, xf_s90 hX, xf_s91 hX, xf_s92 hX, xf_s93 hX, xf_s94 hX, xf_s95 hX, xf_s96 hX, rR_wI, sh_wI, t1, kAL, kIn, kCl, s1, Option.toList_none, List.nil_append, true_and, Option.toList_some, Option.toList_none, List.cons_append, List.nil_append, is2IT, is2RT, if_true, if_false]
      refine hQ _ (XS_tp h F (fun a i q => decide_eq_false (by omega)) ⟨?_, ?_, fun i hi => ?_⟩) (Fm_mono F (fun a i => Itp_ICc) noL_t)
      · rw [s1, List.length_append]; rfl
      · rw [List.length_append]; show S.2.2.1.length + 1 ≤ 60; omega
      · have el : (S.2.2.1 ++ [b]).length = S.2.2.1.length + 1 := List.length_append
        rw [rI_wI]
        by_cases e : i = S.2.2.1.length
        · subst e
          have g : (S.2.2.1 ++ [b])[S.2.2.1.length] = b := by simp
          rw [if_pos ⟨rfl, rfl⟩, g]
          exact ⟨rfl, hb⟩
        · have hi' : i < (S.2.2.1 ++ [b]).length := hi
          have hi2 : i < S.2.2.1.length := by omega
          rw [if_neg (fun q => e q.2), rI_wI_n (by decide), List.getElem_append_left hi2]
          exact t3 i hi2
