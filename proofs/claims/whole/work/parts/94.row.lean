/-! ===== the class: row, node, of, cell ===== -/
theorem x_row {d : Nat} {Q : Option PV → St → Prop} {σ : St} {S : MSt} {n r a b c : Int32} (h : XS σ S) (hQ : ∀ σ', XS σ' ((rowS S.1 n r a b c).2, S.2) → Fm (Iwb 1) noL σ σ' → Q (some (vI (rowS S.1 n r a b c).1)) σ') : Ca (d + 3) 75 [vR 0 8, vI n, vI r, vI a, vI b, vI c] σ Q := by
  have hC := h.1
  have h7 := CI_7 hC
  have hX := hC.1
  rw [ca_at (K := kX8_row) (ls := [vR 0 8, vI n, vI r, vI a, vI b, vI c, vU]) rfl rfl rfl]
  unfold rowS at hQ
  cases hp : pN (nM S.1) n with
  | none =>
    rw [hp] at hQ
    simp (disch := first | exact is2I | exact is2R | omega) only [z_X8_row_0, z_X8_row_1, z_X8_row_4, z_X8_row_5, z_X8_row_8, z_X8_row_11, z_X8_row_13, xf_r0_0 hX, c_has hC, b2_0, pN_none.mp hp, not_false_eq_true, true_and, Option.toList_some, Option.toList_none, List.cons_append, List.nil_append, is2IT, is2RT, if_true, if_false]
    exact hQ σ h Fm_rf
  | some k =>
    rw [hp] at hQ
    obtain ⟨hk, rfl⟩ := (pN_some (by omega)).mp hp
    have hP : 0 ≤ nI k ∧ nI k < nI (nM S.1) := (lt_nI (by omega)).mpr ⟨k, hk, rfl⟩
    have hs := NV_sv hC.2.2.2 hk
    have k3 := NV_kk hC.2.2.2 hk
    obtain ⟨e2, e3, -, -, e6, -⟩ := hC.2.2.1.2 k hk
    have r9 := rows_9 hC.2.2.2 hk
    dsimp only at hQ
    simp (disch := first | exact is2I | exact is2R | omega) only [z_X8_row_0, z_X8_row_1, z_X8_row_4, z_X8_row_5, z_X8_row_8, z_X8_row_11, z_X8_row_13, z_X8_row_14, z_X8_row_15, z_X8_row_18, z_X8_row_21, z_X8_row_22, z_X8_row_22s, z_X8_row_23, z_X8_row_25, z_X8_row_27, z_X8_row_30, xf_r0_0 hX, c_has hC, b2_0, hP, and_self, not_true_eq_false, xw_a hX Wk1, xw_n hX Wk1 (show k < 7 by omega), xs_a hX Wk1, kIn, kCl, e3, kEL, true_and, Option.toList_some, Option.toList_none, List.cons_append, List.nil_append, is2IT, is2RT, if_true, if_false]
    by_cases hK : nK S.1 k = 0
    · rw [if_pos hK] at hQ ⊢
      cases hr : pN (rowsN S.1 k) r with
      | none =>
        rw [hr] at hQ
        have bad : At (d + 2) kX8_row 49 [vR 0 8, vI (nI k), vI r, vI a, vI b, vI c, vR (nO 1 k) 2] [] σ Q := by
          simp only [z_X8_row_49, z_X8_row_51, true_and, Option.toList_some, Option.toList_none, List.cons_append, List.nil_append, is2IT, is2RT, if_true, if_false]
          exact hQ σ h Fm_rf
        have hr' := pN_none.mp hr
        simp only [z_X8_row_36, z_X8_row_37, ge0, true_and, Option.toList_some, Option.toList_none, List.cons_append, List.nil_append, is2IT, is2RT, if_true, if_false]
        by_cases c0 : 0 ≤ r
        · rw [if_neg (fun q => q c0)]
          simp only [z_X8_row_40, z_X8_row_41, z_X8_row_43, z_X8_row_46, e6, true_and, Option.toList_some, Option.toList_none, List.cons_append, List.nil_append, is2IT, is2RT, if_true, if_false]
          rw [if_neg (fun q => hr' ⟨c0, q⟩)]
          exact bad
        · rw [if_pos c0]; exact bad
      | some i =>
        rw [hr] at hQ
        obtain ⟨hi, rfl⟩ := (pN_some (by omega)).mp hr
        have i0 : 0 ≤ nI i := nI_pos' (by omega)
        have il : nI i < nI (rowsN S.1 k) := (nI_ltI (by omega) (by omega)).mpr hi
        have bad : At (d + 2) kX8_row 87 [vR 0 8, vI (nI k), vI (nI i), vI a, vI b, vI c, vR (nO 1 k) 2] [] σ (fun x s => Q x s) ∨ okRow (nS S.1 k) a b c = true := by
          by_cases ho : okRow (nS S.1 k) a b c = true
          · exact Or.inr ho
          · dsimp only at hQ
            rw [if_neg ho] at hQ
            exact Or.inl (by simp only [z_X8_row_87, z_X8_row_89, true_and, Option.toList_some, Option.toList_none, List.cons_append, List.nil_append, is2IT, is2RT, if_true, if_false]; exact hQ σ h Fm_rf)
        have bad' : ¬ okRow (nS S.1 k) a b c = true → At (d + 2) kX8_row 87 [vR 0 8, vI (nI k), vI (nI i), vI a, vI b, vI c, vR (nO 1 k) 2] [] σ Q := fun q => bad.elim id (fun z => (q z).elim)
        simp (disch := first | exact is2I | exact is2R | omega) only [z_X8_row_36, z_X8_row_37, z_X8_row_40, z_X8_row_41, z_X8_row_43, z_X8_row_46, z_X8_row_49, z_X8_row_51, z_X8_row_52, z_X8_row_53, z_X8_row_56, ge0, e6, i0, il, not_true_eq_false, c_isTw, b2_0, true_and, Option.toList_some, Option.toList_none, List.cons_append, List.nil_append, is2IT, is2RT, if_true, if_false]
        by_cases ha : 0 ≤ a ∧ a < nI 13
        · rw [if_neg (fun q => q ha)]
          simp (disch := first | exact is2I | exact is2R | omega) only [z_X8_row_59, z_X8_row_61, z_X8_row_64, c_isTw, b2_0, true_and, Option.toList_some, Option.toList_none, List.cons_append, List.nil_append, is2IT, is2RT, if_true, if_false]
          by_cases hb : 0 ≤ b ∧ b < nI 13
          · rw [if_neg (fun q => q hb)]
            simp (disch := first | exact is2I | exact is2R | omega) only [z_X8_row_67, z_X8_row_69, z_X8_row_72, c_isTw, b2_0, true_and, Option.toList_some, Option.toList_none, List.cons_append, List.nil_append, is2IT, is2RT, if_true, if_false]
            by_cases hc : 0 ≤ c ∧ c < nI 13
            · rw [if_neg (fun q => q hc)]
              simp (disch := first | exact is2I | exact is2R | omega) only [z_X8_row_75, z_X8_row_76, z_X8_row_78, z_X8_row_79, z_X8_row_81, z_X8_row_82, z_X8_row_84, true_and, Option.toList_some, Option.toList_none, List.cons_append, List.nil_append, is2IT, is2RT, if_true, if_false]
              by_cases h12 : a + b + c = 12
              · rw [if_pos h12]
                simp (disch := first | exact is2I | exact is2R | omega) only [z_X8_row_90, z_X8_row_92, z_X8_row_95, z_X8_row_96, e2, kEL, true_and, Option.toList_some, Option.toList_none, List.cons_append, List.nil_append, is2IT, is2RT, if_true, if_false]
                have ok : ¬ (nS S.1 k = 2 ∧ ¬ c = 0) → At (d + 2) kX8_row 107 [vR 0 8, vI (nI k), vI (nI i), vI a, vI b, vI c, vR (nO 1 k) 2] [] σ Q := fun h2 => by
                  have ho : okRow (nS S.1 k) a b c = true := decide_eq_true ⟨ha, hb, hc, h12, h2⟩
                  dsimp only at hQ
                  rw [if_pos ho] at hQ
                  obtain ⟨x, hx, rfl⟩ := (lt_nI (by decide)).mp ha
                  obtain ⟨y, hy, rfl⟩ := (lt_nI (by decide)).mp hb
                  obtain ⟨z, hz, rfl⟩ := (lt_nI (by decide)).mp hc
                  rw [nI_clamp (by omega), nI_clamp (by omega), nI_clamp (by omega)] at hQ
                  have hsum : x + y + z = 12 := by
                    rw [nI_add, nI_add] at h12
                    exact (nI_eq (a := x + y + z) (b := 12) (by omega) (by decide)).mp h12
                  have hz0 : nS S.1 k = 2 → z = 0 := fun q => by
                    by_cases c0 : nI z = 0
                    · exact (nI_eq (a := z) (b := 0) (by omega) (by decide)).mp c0
                    · exact absurd ⟨q, c0⟩ h2
                  have F : Fm (Iwb 1) noL σ (wI (wI (wI σ (cO 1 k) (3 * i) (nI x)) (cO 1 k) (3 * i + 1) (nI y)) (cO 1 k) (3 * i + 2) (nI z)) := Fm_tr (Fm_tr (Fm_wI (Iwb_c (by omega))) (Fm_wI (Iwb_c (by omega)))) (Fm_wI (Iwb_c (by omega)))
                  simp (disch := first | exact is2I | exact is2R | omega) only [z_X8_row_107, z_X8_row_109, z_X8_row_110, z_X8_row_111, z_X8_row_113, z_X8_row_115, z_X8_row_118, z_X8_row_119, c_setRow hX Wk1 (show k < 7 by omega) (show i < 9 by omega), Option.toList_none, List.nil_append, true_and, Option.toList_some, Option.toList_none, List.cons_append, List.nil_append, is2IT, is2RT, if_true, if_false]
                  exact hQ _ (XS_web h F (WB_T hC.2.2.1 hC.2.2.2 hK (by omega)) (setT_NV hC.2.2.2 hsum hz0)) F
                by_cases c2 : nS S.1 k = 2
                · rw [if_pos c2]
                  simp (disch := first | exact is2I | exact is2R | omega) only [z_X8_row_99, z_X8_row_101, true_and, Option.toList_some, Option.toList_none, List.cons_append, List.nil_append, is2IT, is2RT, if_true, if_false]
                  by_cases c0 : c = 0
                  · rw [if_pos c0]; exact ok (fun q => q.2 c0)
                  · rw [if_neg c0]
                    have bb := bad' (fun q => (of_decide_eq_true q).2.2.2.2 ⟨c2, c0⟩)
                    simp (disch := first | exact is2I | exact is2R | omega) only [z_X8_row_87, z_X8_row_89, true_and, Option.toList_some, Option.toList_none, List.cons_append, List.nil_append, is2IT, is2RT, if_true, if_false] at bb
                    simp (disch := first | exact is2I | exact is2R | omega) only [z_X8_row_104, z_X8_row_106, true_and, Option.toList_some, Option.toList_none, List.cons_append, List.nil_append, is2IT, is2RT, if_true, if_false]
                    exact bb
                · rw [if_neg c2]; exact ok (fun q => c2 q.1)
              · rw [if_neg h12]; exact bad' (fun q => h12 (of_decide_eq_true q).2.2.2.1)
            · rw [if_pos hc]; exact bad' (fun q => hc (of_decide_eq_true q).2.2.1)
          · rw [if_pos hb]; exact bad' (fun q => hb (of_decide_eq_true q).2.1)
        · rw [if_pos ha]; exact bad' (fun q => ha (of_decide_eq_true q).1)
    · rw [if_neg hK] at hQ ⊢
      simp only [z_X8_row_33, z_X8_row_35, true_and, Option.toList_some, Option.toList_none, List.cons_append, List.nil_append, is2IT, is2RT, if_true, if_false]
      exact hQ σ h Fm_rf
theorem x_node {d : Nat} {Q : Option PV → St → Prop} {σ : St} {S : MSt} {s t p q : Int32} (h : XS σ S) (hQ : ∀ σ', XS σ' ((nodeS S.1 s t p q).2, S.2) → Fm (Iwb 1) noL σ σ' → Q (some (vI (nodeS S.1 s t p q).1)) σ') : Ca (d + 5) 74 [vR 0 8, vI s, vI t, vI p, vI q] σ Q := by
  have hC := h.1
  have h7 := CI_7 hC
  have hX := hC.1
  have e1 := hC.2.2.1.1
  rw [ca_at (K := kX8_node) (ls := [vR 0 8, vI s, vI t, vI p, vI q]) rfl rfl rfl]
  have bad : ¬ okN (nM S.1) s t p q → Q (some (vI (-2))) σ := fun q => by
    have e : nodeS S.1 s t p _ = (-2, S.1) := if_neg q
    rw [e] at hQ
    exact hQ σ h Fm_rf
  have g3s : ((3 : Int32) < s) = ¬ (s < nI 4) := gtN (n := 3) (by decide)
  have g3t : (t ≤ (3 : Int32)) = (t < nI 4) := propext ((Int32.not_lt (a := 3) (b := t)).symm.trans ((not_congr (Iff.of_eq (gtN (x := t) (n := 3) (by decide)))).trans Decidable.not_not))
  have b19 : ¬ okN (nM S.1) s t p q → At (d + 4) kX8_node 19 [vR 0 8, vI s, vI t, vI p, vI q] [] σ Q := fun z => by simp only [z_X8_node_19, z_X8_node_21, true_and, Option.toList_some, Option.toList_none, List.cons_append, List.nil_append, is2IT, is2RT, if_true, if_false]; exact bad z
  have b45 : ¬ okN (nM S.1) s t p q → At (d + 4) kX8_node 45 [vR 0 8, vI s, vI t, vI p, vI q] [] σ Q := fun z => by simp only [z_X8_node_45, z_X8_node_47, true_and, Option.toList_some, Option.toList_none, List.cons_append, List.nil_append, is2IT, is2RT, if_true, if_false]; exact bad z
  have b65 : ¬ okN (nM S.1) s t p q → At (d + 4) kX8_node 65 [vR 0 8, vI s, vI t, vI p, vI q] [] σ Q := fun z => by simp only [z_X8_node_65, z_X8_node_67, true_and, Option.toList_some, Option.toList_none, List.cons_append, List.nil_append, is2IT, is2RT, if_true, if_false]; exact bad z
  simp (disch := first | exact is2I | exact is2R | omega) only [z_X8_node_0, z_X8_node_1, z_X8_node_2, true_and, Option.toList_some, Option.toList_none, List.cons_append, List.nil_append, is2IT, is2RT, if_true, if_false]
  by_cases s2 : 2 ≤ s
  · rw [if_neg (Int32.not_lt.mpr s2)]
    simp (disch := first | exact is2I | exact is2R | omega) only [z_X8_node_5, z_X8_node_6, z_X8_node_7, g3s, true_and, Option.toList_some, Option.toList_none, List.cons_append, List.nil_append, is2IT, is2RT, if_true, if_false]
    by_cases s4 : s < nI 4
    · rw [if_neg (fun z => z s4)]
      simp (disch := first | exact is2I | exact is2R | omega) only [z_X8_node_10, z_X8_node_11, ge0, true_and, Option.toList_some, Option.toList_none, List.cons_append, List.nil_append, is2IT, is2RT, if_true, if_false]
      by_cases t0 : 0 ≤ t
      · rw [if_neg (fun z => z t0)]
        simp (disch := first | exact is2I | exact is2R | omega) only [z_X8_node_14, z_X8_node_15, z_X8_node_16, g3t, true_and, Option.toList_some, Option.toList_none, List.cons_append, List.nil_append, is2IT, is2RT, if_true, if_false]
        by_cases t4 : t < nI 4
        · rw [if_pos t4]
          simp (disch := first | exact is2I | exact is2R | omega) only [z_X8_node_22, z_X8_node_23, z_X8_node_26, z_X8_node_27, z_X8_node_30, xf_r0_0 hX, c_hasN hC, b2_0, true_and, Option.toList_some, Option.toList_none, List.cons_append, List.nil_append, is2IT, is2RT, if_true, if_false]
          by_cases hp : p = -1 ∨ (0 ≤ p ∧ p < nI (nM S.1))
          · rw [if_neg (fun z => z hp)]
            simp (disch := first | exact is2I | exact is2R | omega) only [z_X8_node_33, z_X8_node_34, z_X8_node_37, z_X8_node_39, z_X8_node_42, xf_r0_0 hX, c_hasN hC, b2_0, true_and, Option.toList_some, Option.toList_none, List.cons_append, List.nil_append, is2IT, is2RT, if_true, if_false]
            by_cases hq : q = -1 ∨ (0 ≤ q ∧ q < nI (nM S.1))
            · rw [if_neg (fun z => z hq)]
              have rest : (q = -1 ∨ (¬ p = -1 ∧ ¬ p = q)) → At (d + 4) kX8_node 68 [vR 0 8, vI s, vI t, vI p, vI q] [] σ Q := fun hpq => by
                simp (disch := first | exact is2I | exact is2R | omega) only [z_X8_node_68, z_X8_node_69, true_and, Option.toList_some, Option.toList_none, List.cons_append, List.nil_append, is2IT, is2RT, if_true, if_false]
                have r2 : (t ≤ 0 ∨ ¬ p = -1) → At (d + 4) kX8_node 80 [vR 0 8, vI s, vI t, vI p, vI q] [] σ Q := fun htp => by
                  have ho : okN (nM S.1) s t p q := ⟨⟨s2, s4⟩, ⟨t0, t4⟩, hp, hq, hpq, htp⟩
                  simp (disch := first | exact is2I | exact is2R | omega) only [z_X8_node_80, z_X8_node_81, z_X8_node_84, z_X8_node_87, z_X8_node_89, xf_r0_0 hX, e1, kLtL, true_and, Option.toList_some, Option.toList_none, List.cons_append, List.nil_append, is2IT, is2RT, if_true, if_false]
                  by_cases hm : nM S.1 = 7
                  · have e : nodeS S.1 s t p q = (-4, S.1) := (if_pos ho).trans (if_pos hm)
                    rw [e] at hQ
                    rw [if_neg (by omega)]
                    simp only [z_X8_node_92, z_X8_node_94, true_and, Option.toList_some, Option.toList_none, List.cons_append, List.nil_append, is2IT, is2RT, if_true, if_false]
                    exact hQ σ h Fm_rf
                  · have e : nodeS S.1 s t p q = (nI (nM S.1), setN S.1 s.toNatClampNeg t.toNatClampNeg (toO p) (toO q)) := (if_pos ho).trans (if_neg hm)
                    rw [e] at hQ
                    have hm' : nM S.1 < 7 := by omega
                    rw [if_pos hm']
                    have ps := toO_oI (by omega) hp
                    have qs := toO_oI (by omega) hq
                    obtain ⟨u, hu4, eu⟩ := (lt_nI (n := s) (m := 4) (by decide)).mp ⟨by
                      have := s2
                      rw [Int32.le_iff_toInt_le] at this ⊢
                      have h2 : (2 : Int32).toInt = 2 := by decide
                      have h0 : (0 : Int32).toInt = 0 := by decide
                      omega, s4⟩
                    have hu : u = 2 ∨ u = 3 := by
                      have h2 := s2
                      rw [eu] at h2
                      have : ¬ (nI u < nI 2) := Int32.not_lt.mpr h2
                      rw [nI_ltI (by omega) (by decide)] at this
                      omega
                    obtain ⟨w, hw4, ew⟩ := (lt_nI (by decide)).mp ⟨t0, t4⟩
                    have cu : s.toNatClampNeg = u := by rw [eu]; exact nI_clamp (by omega)
                    have cw : t.toNatClampNeg = w := by rw [ew]; exact nI_clamp (by omega)
                    rw [cu, cw] at hQ
                    have pn : p = -1 → toO p = none := fun z => if_pos z
                    have q1 : ∀ j, toO q = some j → j < nM S.1 ∧ ∃ i, toO p = some i ∧ i ≠ j := fun j hj => by
                      refine ⟨qs.2 j hj, ?_⟩
                      have qe := qs.1
                      rw [hj] at qe
                      have qn : ¬ q = -1 := fun z => by rw [show toO q = none from if_pos z] at hj; cases hj
                      obtain ⟨p1, p2⟩ := hpq.resolve_left qn
                      cases ep : toO p with
                      | none => rw [ep] at ps; exact absurd ps.1.symm p1
                      | some i =>
                        rw [ep] at ps
                        refine ⟨i, rfl, fun z => p2 ?_⟩
                        rw [← ps.1, ← qe, z]
                    have t2 : w ≠ 0 → toO p ≠ none := fun z e => by
                      rcases htp with y | y
                      · rw [ew] at y
                        have := (nI_leI (a := w) (b := 0) (by omega) (by decide)).mp y
                        omega
                      · rw [e] at ps
                        exact y ps.1.symm
                    have add : ∀ Q', (∀ σ', Fm (Iwb 1) noL σ σ' → CI σ' 1 (setN S.1 u w (toO p) (toO q)) → Q' (some (vI (nI (nM S.1)))) σ') → Ca (d + 4) 50 [vR 1 6, vI s, vI t, vI p, vI q] σ Q' := fun Q' hq' => by
                      have f := @c_add d 1 Q' σ S.1 u w (toO p) (toO q) hC hm' hu (by omega) ps.2 q1 t2 hq'
                      rw [ps.1, qs.1, ← eu, ← ew] at f
                      exact f
                    simp (disch := first | exact is2I | exact is2R | omega) only [z_X8_node_95, z_X8_node_96, z_X8_node_99, z_X8_node_100, z_X8_node_101, z_X8_node_102, z_X8_node_104, xf_r0_0 hX, true_and, Option.toList_some, Option.toList_none, List.cons_append, List.nil_append, is2IT, is2RT, if_true, if_false]
                    refine add _ (fun σ' f1 f2 => ?_)
                    simp (disch := first | exact is2I | exact is2R | omega) only [z_X8_node_107, true_and, Option.toList_some, Option.toList_none, List.cons_append, List.nil_append, is2IT, is2RT, if_true, if_false]
                    exact hQ σ' (XS_web h f1 f2.2.2.1 f2.2.2.2) f1
                by_cases tz : t = 0
                · rw [if_pos tz]; exact r2 (Or.inl (by rw [tz]; exact Int32.le_refl 0))
                · rw [if_neg tz]
                  simp (disch := first | exact is2I | exact is2R | omega) only [z_X8_node_72, z_X8_node_73, z_X8_node_74, true_and, Option.toList_some, Option.toList_none, List.cons_append, List.nil_append, is2IT, is2RT, if_true, if_false]
                  by_cases pz : p = -1
                  · rw [if_pos pz]
                    have bb := bad (fun z => by
                      rcases z.2.2.2.2.2 with y | y
                      · exact tz (Int32.le_antisymm y t0)
                      · exact y pz)
                    simp (disch := first | exact is2I | exact is2R | omega) only [z_X8_node_77, z_X8_node_79, true_and, Option.toList_some, Option.toList_none, List.cons_append, List.nil_append, is2IT, is2RT, if_true, if_false]
                    exact bb
                  · rw [if_neg pz]; exact r2 (Or.inr pz)
              simp (disch := first | exact is2I | exact is2R | omega) only [z_X8_node_48, z_X8_node_50, z_X8_node_51, true_and, Option.toList_some, Option.toList_none, List.cons_append, List.nil_append, is2IT, is2RT, if_true, if_false]
              by_cases qz : q = -1
              · rw [if_pos qz]; exact rest (Or.inl qz)
              · rw [if_neg qz]
                simp (disch := first | exact is2I | exact is2R | omega) only [z_X8_node_54, z_X8_node_55, z_X8_node_56, true_and, Option.toList_some, Option.toList_none, List.cons_append, List.nil_append, is2IT, is2RT, if_true, if_false]
                by_cases pz : p = -1
                · rw [if_pos pz]; exact b65 (fun z => (z.2.2.2.2.1.resolve_left qz).1 pz)
                · rw [if_neg pz]
                  simp (disch := first | exact is2I | exact is2R | omega) only [z_X8_node_59, z_X8_node_60, z_X8_node_62, true_and, Option.toList_some, Option.toList_none, List.cons_append, List.nil_append, is2IT, is2RT, if_true, if_false]
                  by_cases pq : p = q
                  · rw [if_pos pq]; exact b65 (fun z => (z.2.2.2.2.1.resolve_left qz).2 pq)
                  · rw [if_neg pq]; exact rest (Or.inr ⟨pz, pq⟩)
            · rw [if_pos hq]; exact b45 (fun z => hq z.2.2.2.1)
          · rw [if_pos hp]; exact b45 (fun z => hp z.2.2.1)
        · rw [if_neg t4]; exact b19 (fun z => t4 z.2.1.2)
      · rw [if_pos t0]; exact b19 (fun z => t0 z.2.1.1)
    · rw [if_pos s4]; exact b19 (fun z => s4 z.1.2)
  · rw [if_pos (Int32.not_le.mp s2)]; exact b19 (fun z => s2 z.1.1)
theorem x_of {d : Nat} {Q : Option PV → St → Prop} {σ : St} {S : MSt} {n w : Int32} (h : XS σ S) (hQ : Q (some (vI (ofS S.1 n w))) σ) : Ca (d + 2) 81 [vR 0 8, vI n, vI w] σ Q := by
  have hC := h.1
  have h7 := CI_7 hC
  have hX := hC.1
  rw [ca_at (K := kX8_of) (ls := [vR 0 8, vI n, vI w, vU]) rfl rfl rfl]
  unfold ofS at hQ
  cases hp : pN (nM S.1) n with
  | none =>
    rw [hp] at hQ
    simp (disch := first | exact is2I | exact is2R | omega) only [z_X8_of_0, z_X8_of_1, z_X8_of_4, z_X8_of_5, z_X8_of_8, z_X8_of_11, z_X8_of_13, xf_r0_0 hX, c_has hC, b2_0, pN_none.mp hp, not_false_eq_true, true_and, Option.toList_some, Option.toList_none, List.cons_append, List.nil_append, is2IT, is2RT, if_true, if_false]
    exact hQ
  | some k =>
    rw [hp] at hQ
    obtain ⟨hk, rfl⟩ := (pN_some (by omega)).mp hp
    have hP : 0 ≤ nI k ∧ nI k < nI (nM S.1) := (lt_nI (by omega)).mpr ⟨k, hk, rfl⟩
    have k3 := NV_kk hC.2.2.2 hk
    obtain ⟨e2, e3, e4, e5, e6, -, e8, e9, -⟩ := hC.2.2.1.2 k hk
    dsimp only at hQ
    simp (disch := first | exact is2I | exact is2R | omega) only [z_X8_of_0, z_X8_of_1, z_X8_of_4, z_X8_of_5, z_X8_of_8, z_X8_of_11, z_X8_of_13, z_X8_of_14, z_X8_of_15, z_X8_of_18, z_X8_of_21, z_X8_of_22, z_X8_of_22s, z_X8_of_23, z_X8_of_24, xf_r0_0 hX, c_has hC, b2_0, hP, and_self, not_true_eq_false, xw_a hX Wk1, xw_n hX Wk1 (show k < 7 by omega), xs_a hX Wk1, kIn, kCl, true_and, Option.toList_some, Option.toList_none, List.cons_append, List.nil_append, is2IT, is2RT, if_true, if_false]
    cases hw : pN 8 w with
    | none =>
      rw [hw] at hQ
      have q := pN_none.mp hw
      simp (disch := first | exact q | omega) only [z_X8_of_25_d, z_X8_of_131, z_X8_of_133, true_and, Option.toList_some, Option.toList_none, List.cons_append, List.nil_append, is2IT, is2RT, if_true, if_false]
      exact hQ
    | some j =>
      rw [hw] at hQ
      obtain ⟨hj, rfl⟩ := (pN_some (by decide)).mp hw
      dsimp only at hQ
      rcases (show j = 0 ∨ j = 1 ∨ j = 2 ∨ j = 3 ∨ j = 4 ∨ j = 5 ∨ j = 6 ∨ j = 7 by omega) with rfl | rfl | rfl | rfl | rfl | rfl | rfl | rfl
      · simp (disch := first | exact is2I | exact is2R | omega) only [z_X8_of_25_0, z_X8_of_72, z_X8_of_73, z_X8_of_76, e2, true_and, Option.toList_some, Option.toList_none, List.cons_append, List.nil_append, is2IT, is2RT, if_true, if_false]; exact hQ
      · simp (disch := first | exact is2I | exact is2R | omega) only [z_X8_of_25_1, z_X8_of_77, z_X8_of_78, z_X8_of_81, e3, true_and, Option.toList_some, Option.toList_none, List.cons_append, List.nil_append, is2IT, is2RT, if_true, if_false]; exact hQ
      · simp (disch := first | exact is2I | exact is2R | omega) only [z_X8_of_25_2, z_X8_of_82, z_X8_of_83, z_X8_of_86, e4, true_and, Option.toList_some, Option.toList_none, List.cons_append, List.nil_append, is2IT, is2RT, if_true, if_false]; exact hQ
      · simp (disch := first | exact is2I | exact is2R | omega) only [z_X8_of_25_3, z_X8_of_87, z_X8_of_88, z_X8_of_91, e5, true_and, Option.toList_some, Option.toList_none, List.cons_append, List.nil_append, is2IT, is2RT, if_true, if_false]; exact hQ
      · simp (disch := first | exact is2I | exact is2R | omega) only [z_X8_of_25_4, z_X8_of_92, z_X8_of_93, z_X8_of_96, e8, true_and, Option.toList_some, Option.toList_none, List.cons_append, List.nil_append, is2IT, is2RT, if_true, if_false]; exact hQ
      · simp (disch := first | exact is2I | exact is2R | omega) only [z_X8_of_25_5, z_X8_of_97, z_X8_of_98, z_X8_of_101, e9, true_and, Option.toList_some, Option.toList_none, List.cons_append, List.nil_append, is2IT, is2RT, if_true, if_false]; exact hQ
      · simp (disch := first | exact is2I | exact is2R | omega) only [z_X8_of_25_6, z_X8_of_102, z_X8_of_103, z_X8_of_106, c_hinted hC hk, b2_0, true_and, Option.toList_some, Option.toList_none, List.cons_append, List.nil_append, is2IT, is2RT, if_true, if_false]
        have hQ' : Q (some (vI (b2 (hinB S.1 k = true)))) σ := hQ
        by_cases c : hinB S.1 k = true
        · rw [b2_t c] at hQ'
          rw [if_neg (fun q => q c)]
          simp only [z_X8_of_109, z_X8_of_110, z_X8_of_113, z_X8_of_114, true_and, Option.toList_some, Option.toList_none, List.cons_append, List.nil_append, is2IT, is2RT, if_true, if_false]; exact hQ'
        · rw [b2_f c] at hQ'
          rw [if_pos c]
          simp only [z_X8_of_113, z_X8_of_114, true_and, Option.toList_some, Option.toList_none, List.cons_append, List.nil_append, is2IT, is2RT, if_true, if_false]; exact hQ'
      · simp (disch := first | exact is2I | exact is2R | omega) only [z_X8_of_25_7, z_X8_of_115, z_X8_of_116, z_X8_of_119, e3, kEL, true_and, Option.toList_some, Option.toList_none, List.cons_append, List.nil_append, is2IT, is2RT, if_true, if_false]
        have hQ' : Q (some (vI (if nK S.1 k = 0 then nI (rowsN S.1 k) else 0))) σ := hQ
        by_cases c : nK S.1 k = 0
        · rw [if_pos c] at hQ' ⊢
          simp only [z_X8_of_122, z_X8_of_123, z_X8_of_126, z_X8_of_129, z_X8_of_130, e6, true_and, Option.toList_some, Option.toList_none, List.cons_append, List.nil_append, is2IT, is2RT, if_true, if_false]; exact hQ'
        · rw [if_neg c] at hQ' ⊢
          simp only [z_X8_of_129, z_X8_of_130, true_and, Option.toList_some, Option.toList_none, List.cons_append, List.nil_append, is2IT, is2RT, if_true, if_false]; exact hQ'
theorem x_cell {d : Nat} {Q : Option PV → St → Prop} {σ : St} {S : MSt} {n r v : Int32} (h : XS σ S) (hQ : Q (some (vI (cellS S.1 n r v))) σ) : Ca (d + 2) 82 [vR 0 8, vI n, vI r, vI v] σ Q := by
  have hC := h.1
  have h7 := CI_7 hC
  have hX := hC.1
  rw [ca_at (K := kX8_cell) (ls := [vR 0 8, vI n, vI r, vI v, vU]) rfl rfl rfl]
  unfold cellS at hQ
  cases hp : pN (nM S.1) n with
  | none =>
    rw [hp] at hQ
    simp (disch := first | exact is2I | exact is2R | omega) only [z_X8_cell_0, z_X8_cell_1, z_X8_cell_4, z_X8_cell_5, z_X8_cell_8, z_X8_cell_11, z_X8_cell_13, xf_r0_0 hX, c_has hC, b2_0, pN_none.mp hp, not_false_eq_true, true_and, Option.toList_some, Option.toList_none, List.cons_append, List.nil_append, is2IT, is2RT, if_true, if_false]
    exact hQ
  | some k =>
    rw [hp] at hQ
    obtain ⟨hk, rfl⟩ := (pN_some (by omega)).mp hp
    have hP : 0 ≤ nI k ∧ nI k < nI (nM S.1) := (lt_nI (by omega)).mpr ⟨k, hk, rfl⟩
    have k3 := NV_kk hC.2.2.2 hk
    have hs := NV_sv hC.2.2.2 hk
    obtain ⟨e2, e3, -, -, e6, -, -, -, -, ec⟩ := hC.2.2.1.2 k hk
    have r9 := rows_9 hC.2.2.2 hk
    dsimp only at hQ
    simp (disch := first | exact is2I | exact is2R | omega) only [z_X8_cell_0, z_X8_cell_1, z_X8_cell_4, z_X8_cell_5, z_X8_cell_8, z_X8_cell_11, z_X8_cell_13, z_X8_cell_14, z_X8_cell_15, z_X8_cell_18, z_X8_cell_21, z_X8_cell_22, z_X8_cell_22s, z_X8_cell_23, z_X8_cell_25, z_X8_cell_27, z_X8_cell_30, xf_r0_0 hX, c_has hC, b2_0, hP, and_self, not_true_eq_false, xw_a hX Wk1, xw_n hX Wk1 (show k < 7 by omega), xs_a hX Wk1, kIn, kCl, e3, kEL, true_and, Option.toList_some, Option.toList_none, List.cons_append, List.nil_append, is2IT, is2RT, if_true, if_false]
    by_cases hK : nK S.1 k = 0
    · rw [if_pos hK] at hQ ⊢
      cases hr : pN (rowsN S.1 k) r with
      | none =>
        rw [hr] at hQ
        have bad : At (d + 1) kX8_cell 49 [vR 0 8, vI (nI k), vI r, vI v, vR (nO 1 k) 2] [] σ Q := by
          simp only [z_X8_cell_49, z_X8_cell_51, true_and, Option.toList_some, Option.toList_none, List.cons_append, List.nil_append, is2IT, is2RT, if_true, if_false]
          exact hQ
        have hr' := pN_none.mp hr
        simp only [z_X8_cell_36, z_X8_cell_37, ge0, true_and, Option.toList_some, Option.toList_none, List.cons_append, List.nil_append, is2IT, is2RT, if_true, if_false]
        by_cases c0 : 0 ≤ r
        · rw [if_neg (fun q => q c0)]
          simp only [z_X8_cell_40, z_X8_cell_41, z_X8_cell_43, z_X8_cell_46, e6, true_and, Option.toList_some, Option.toList_none, List.cons_append, List.nil_append, is2IT, is2RT, if_true, if_false]
          rw [if_neg (fun q => hr' ⟨c0, q⟩)]
          exact bad
        · rw [if_pos c0]; exact bad
      | some i =>
        rw [hr] at hQ
        obtain ⟨hi, rfl⟩ := (pN_some (by omega)).mp hr
        have i0 : 0 ≤ nI i := nI_pos' (by omega)
        have il : nI i < nI (rowsN S.1 k) := (nI_ltI (by omega) (by omega)).mpr hi
        dsimp only at hQ
        simp (disch := first | exact is2I | exact is2R | omega) only [z_X8_cell_36, z_X8_cell_37, z_X8_cell_40, z_X8_cell_41, z_X8_cell_43, z_X8_cell_46, z_X8_cell_49, z_X8_cell_51, z_X8_cell_52, z_X8_cell_54, z_X8_cell_55, z_X8_cell_58, ge0, e6, i0, il, not_true_eq_false, c_nhas hC hk, b2_0, true_and, Option.toList_some, Option.toList_none, List.cons_append, List.nil_append, is2IT, is2RT, if_true, if_false]
        cases hv : pN (nS S.1 k) v with
        | none =>
          rw [hv] at hQ
          rw [if_pos (pN_none.mp hv)]
          simp only [z_X8_cell_61, z_X8_cell_63, true_and, Option.toList_some, Option.toList_none, List.cons_append, List.nil_append, is2IT, is2RT, if_true, if_false]
          exact hQ
        | some u =>
          rw [hv] at hQ
          obtain ⟨hu, rfl⟩ := (pN_some (by omega)).mp hv
          rw [if_neg (fun q => q ((lt_nI (by omega)).mpr ⟨u, hu, rfl⟩))]
          have ecu := ec i hi u (by omega)
          rw [cT_0 hK] at ecu
          have e0 : nI i * (3 : Int32) = nI (3 * i) := by rw [Nat.mul_comm]; exact pk_mul i 3
          simp (disch := first | exact is2I | exact is2R | omega) only [z_X8_cell_64, z_X8_cell_66, z_X8_cell_69, z_X8_cell_70, z_X8_cell_71, z_X8_cell_72, z_X8_cell_73, z_X8_cell_74, z_X8_cell_75, xw_c hX Wk1 (show k < 7 by omega), xs_c hX Wk1 (show k < 7 by omega), e0, nI_add, kIn, kCl, ecu, true_and, Option.toList_some, Option.toList_none, List.cons_append, List.nil_append, is2IT, is2RT, if_true, if_false]
          exact hQ
    · rw [if_neg hK] at hQ ⊢
      simp only [z_X8_cell_33, z_X8_cell_35, true_and, Option.toList_some, Option.toList_none, List.cons_append, List.nil_append, is2IT, is2RT, if_true, if_false]
      exact hQ
