/-! ===== the class: leaves, cluster, cost ===== -/
theorem ILV0_X {σ σ' : St} (h : Fm ILV0 noL σ σ') : Xc σ σ' := Fm_mono h (fun a i q => by have := of_decide_eq_true q; exact decide_eq_true (by omega)) noL_t
theorem ITr_X {σ σ' : St} (h : Fm ITr noL σ σ') : Xc σ σ' := Fm_mono h (fun a i q => by have := of_decide_eq_true q; exact decide_eq_true (by omega)) noL_t
theorem leN {x : Int32} {n : Nat} (hn : n + 1 < 2 ^ 31) : (x ≤ nI n) = (x < nI (n + 1)) := propext ((Int32.not_lt (a := nI n) (b := x)).symm.trans ((not_congr (Iff.of_eq (gtN (x := x) (n := n) hn))).trans Decidable.not_not))
theorem x_leaves {d : Nat} {Q : Option PV → St → Prop} {σ : St} {S : MSt} {k w : Int32} (h : XS σ S) (hQ : ∀ σ', Xc σ σ' → Q (some (vI (leavF S.1 k w))) σ') : Ca (d + 5) 95 [vR 0 8, vI k, vI w] σ Q := by
  have hC := h.1
  have h7 := CI_7 hC
  have hX := hC.1
  rw [ca_at (K := kX8_leaves) (ls := [vR 0 8, vI k, vI w]) rfl rfl rfl]
  unfold leavF at hQ
  have g3 : (w ≤ (3 : Int32)) = (w < nI 4) := leN (n := 3) (by decide)
  have bad : (∀ σ', Xc σ σ' → Q (some (vI (-2))) σ') → At (d + 4) kX8_leaves 9 [vR 0 8, vI k, vI w] [] σ Q := fun q => by
    simp only [z_X8_leaves_9, z_X8_leaves_11, true_and, Option.toList_some, Option.toList_none, List.cons_append, List.nil_append, is2IT, is2RT, if_true, if_false]; exact q σ Fm_rf
  have bad2 : (∀ σ', Xc σ σ' → Q (some (vI (-12))) σ') → At (d + 4) kX8_leaves 27 [vR 0 8, vI k, vI w] [] σ Q := fun q => by
    simp only [z_X8_leaves_27, z_X8_leaves_29, true_and, Option.toList_some, Option.toList_none, List.cons_append, List.nil_append, is2IT, is2RT, if_true, if_false]; exact q σ Fm_rf
  simp (disch := first | exact is2I | exact is2R | omega) only [z_X8_leaves_0, z_X8_leaves_1, ge0, true_and, Option.toList_some, Option.toList_none, List.cons_append, List.nil_append, is2IT, is2RT, if_true, if_false]
  cases hw : pN 4 w with
  | none =>
    rw [hw] at hQ
    have hW := pN_none.mp hw
    by_cases c0 : 0 ≤ w
    · rw [if_neg (fun q => q c0)]
      simp (disch := first | exact is2I | exact is2R | omega) only [z_X8_leaves_4, z_X8_leaves_5, z_X8_leaves_6, g3, true_and, Option.toList_some, Option.toList_none, List.cons_append, List.nil_append, is2IT, is2RT, if_true, if_false]
      rw [if_neg (fun q => hW ⟨c0, q⟩)]
      exact bad hQ
    · rw [if_pos c0]; exact bad hQ
  | some j =>
    rw [hw] at hQ
    obtain ⟨hj, rfl⟩ := (pN_some (by decide)).mp hw
    have w0 : 0 ≤ nI j := nI_pos' (by omega)
    have w4 : nI j < nI 4 := (nI_ltI (by omega) (by decide)).mpr hj
    dsimp only at hQ
    rw [if_neg (fun q => q w0)]
    simp (disch := first | exact is2I | exact is2R | omega) only [z_X8_leaves_4, z_X8_leaves_5, z_X8_leaves_6, z_X8_leaves_9, z_X8_leaves_11, z_X8_leaves_12, z_X8_leaves_13, g3, w4, ge0, true_and, Option.toList_some, Option.toList_none, List.cons_append, List.nil_append, is2IT, is2RT, if_true, if_false]
    cases hk : pN (nM S.1) k with
    | none =>
      rw [hk] at hQ
      have hK := pN_none.mp hk
      by_cases c0 : 0 ≤ k
      · rw [if_neg (fun q => q c0)]
        simp (disch := first | exact is2I | exact is2R | omega) only [z_X8_leaves_16, z_X8_leaves_17, z_X8_leaves_18, z_X8_leaves_21, z_X8_leaves_24, xf_r0_0 hX, hC.2.2.1.1, true_and, Option.toList_some, Option.toList_none, List.cons_append, List.nil_append, is2IT, is2RT, if_true, if_false]
        rw [if_neg (fun q => hK ⟨c0, q⟩)]
        exact bad2 hQ
      · rw [if_pos c0]; exact bad2 hQ
    | some i =>
      rw [hk] at hQ
      obtain ⟨hi, rfl⟩ := (pN_some (by omega)).mp hk
      have k0 : 0 ≤ nI i := nI_pos' (by omega)
      have kl : nI i < nI (nM S.1) := (nI_ltI (by omega) (by omega)).mpr hi
      rw [if_neg (fun q => q k0)]
      simp (disch := first | exact is2I | exact is2R | omega) only [z_X8_leaves_16, z_X8_leaves_17, z_X8_leaves_18, z_X8_leaves_21, z_X8_leaves_24, z_X8_leaves_27, z_X8_leaves_29, z_X8_leaves_30, z_X8_leaves_31, z_X8_leaves_34, z_X8_leaves_35, z_X8_leaves_38, xf_r0_0 hX, xf_r0_5 hX, hC.2.2.1.1, kl, true_and, Option.toList_some, Option.toList_none, List.cons_append, List.nil_append, is2IT, is2RT, if_true, if_false]
      refine c_order (d := d) hC (fun σ1 q1 q2 q3 q4 => ?_)
      have hX1 := XF_fm hX q1
      have hil : i < (ordS S.1).length := by omega
      have fin := hQ σ1 (ILV0_X q1)
      dsimp only at fin
      rw [List.getElem?_eq_getElem hil] at fin
      obtain ⟨o1, o2, o3⟩ := q2 i hil
      have g8 := (q3 _ (List.getElem_mem hil)).2.2
      simp (disch := first | exact is2I | exact is2R | omega) only [z_X8_leaves_41, Option.toList_none, List.nil_append, true_and, Option.toList_some, Option.toList_none, List.cons_append, List.nil_append, is2IT, is2RT, if_true, if_false]
      rcases (show j = 0 ∨ j = 1 ∨ j = 2 ∨ j = 3 by omega) with rfl | rfl | rfl | rfl
      · simp (disch := first | exact is2I | exact is2R | omega) only [z_X8_leaves_42_0, z_X8_leaves_68, z_X8_leaves_69, z_X8_leaves_72, z_X8_leaves_75, z_X8_leaves_76, z_X8_leaves_77, xf_r0_0 hX1, xf_r0_1 hX1, xf_r0_2 hX1, xf_r0_4 hX1, xf_r0_5 hX1, xf_r0_6 hX1, xf_r0_7 hX1, xf_r0_8 hX1, xf_r0_9 hX1, xf_r70_0 hX1, xf_r70_1 hX1, xf_r70_2 hX1, xf_r74_0 hX1, xf_r74_1 hX1, xf_r74_2 hX1, xf_r74_3 hX1, xf_r79_0 hX1, xf_r79_1 hX1, xf_r79_2 hX1, xf_r83_0 hX1, xf_r83_7 hX1, xf_r88_0 hX1, xf_r88_1 hX1, xf_r88_2 hX1, xf_r88_3 hX1, xf_s0 hX1, xf_s70 hX1, xf_s71 hX1, xf_s72 hX1, xf_s73 hX1, xf_s74 hX1, xf_s75 hX1, xf_s76 hX1, xf_s77 hX1, xf_s78 hX1, xf_s79 hX1, xf_s80 hX1, xf_s81 hX1, xf_s82 hX1, xf_s83 hX1, xf_s84 hX1, xf_s85 hX1, xf_s86 hX1, xf_s88 hX1, xf_s89 hX1, xf_s90 hX1, xf_s91 hX1, xf_s92 hX1, xf_s93 hX1, xf_s94 hX1, xf_s95 hX1, xf_s96 hX1, kIn, kCl, o1, true_and, Option.toList_some, Option.toList_none, List.cons_append, List.nil_append, is2IT, is2RT, if_true, if_false]; exact fin
      · simp (disch := first | exact is2I | exact is2R | omega) only [z_X8_leaves_42_1, z_X8_leaves_78, z_X8_leaves_79, z_X8_leaves_82, z_X8_leaves_85, z_X8_leaves_86, z_X8_leaves_87, xf_r0_0 hX1, xf_r0_1 hX1, xf_r0_2 hX1, xf_r0_4 hX1, xf_r0_5 hX1, xf_r0_6 hX1, xf_r0_7 hX1, xf_r0_8 hX1, xf_r0_9 hX1, xf_r70_0 hX1, xf_r70_1 hX1, xf_r70_2 hX1, xf_r74_0 hX1, xf_r74_1 hX1, xf_r74_2 hX1, xf_r74_3 hX1, xf_r79_0 hX1, xf_r79_1 hX1, xf_r79_2 hX1, xf_r83_0 hX1, xf_r83_7 hX1, xf_r88_0 hX1, xf_r88_1 hX1, xf_r88_2 hX1, xf_r88_3 hX1, xf_s0 hX1, xf_s70 hX1, xf_s71 hX1, xf_s72 hX1, xf_s73 hX1, xf_s74 hX1, xf_s75 hX1, xf_s76 hX1, xf_s77 hX1, xf_s78 hX1, xf_s79 hX1, xf_s80 hX1, xf_s81 hX1, xf_s82 hX1, xf_s83 hX1, xf_s84 hX1, xf_s85 hX1, xf_s86 hX1, xf_s88 hX1, xf_s89 hX1, xf_s90 hX1, xf_s91 hX1, xf_s92 hX1, xf_s93 hX1, xf_s94 hX1, xf_s95 hX1, xf_s96 hX1, kIn, kCl, o2, true_and, Option.toList_some, Option.toList_none, List.cons_append, List.nil_append, is2IT, is2RT, if_true, if_false]; exact fin
      · simp (disch := first | exact is2I | exact is2R | omega) only [z_X8_leaves_42_2, z_X8_leaves_88, z_X8_leaves_89, z_X8_leaves_92, z_X8_leaves_95, z_X8_leaves_96, z_X8_leaves_97, z_X8_leaves_100, z_X8_leaves_101, z_X8_leaves_102, xf_r0_0 hX1, xf_r0_1 hX1, xf_r0_2 hX1, xf_r0_4 hX1, xf_r0_5 hX1, xf_r0_6 hX1, xf_r0_7 hX1, xf_r0_8 hX1, xf_r0_9 hX1, xf_r70_0 hX1, xf_r70_1 hX1, xf_r70_2 hX1, xf_r74_0 hX1, xf_r74_1 hX1, xf_r74_2 hX1, xf_r74_3 hX1, xf_r79_0 hX1, xf_r79_1 hX1, xf_r79_2 hX1, xf_r83_0 hX1, xf_r83_7 hX1, xf_r88_0 hX1, xf_r88_1 hX1, xf_r88_2 hX1, xf_r88_3 hX1, xf_s0 hX1, xf_s70 hX1, xf_s71 hX1, xf_s72 hX1, xf_s73 hX1, xf_s74 hX1, xf_s75 hX1, xf_s76 hX1, xf_s77 hX1, xf_s78 hX1, xf_s79 hX1, xf_s80 hX1, xf_s81 hX1, xf_s82 hX1, xf_s83 hX1, xf_s84 hX1, xf_s85 hX1, xf_s86 hX1, xf_s88 hX1, xf_s89 hX1, xf_s90 hX1, xf_s91 hX1, xf_s92 hX1, xf_s93 hX1, xf_s94 hX1, xf_s95 hX1, xf_s96 hX1, kIn, kCl, o3, m_bitc g8, true_and, Option.toList_some, Option.toList_none, List.cons_append, List.nil_append, is2IT, is2RT, if_true, if_false]; exact fin
      · have z3 : ¬ (0 ≤ nI 3 ∧ nI 3 < nI 3) := by decide
        simp (disch := first | exact z3 | omega) only [z_X8_leaves_42_d, z_X8_leaves_103, z_X8_leaves_104, z_X8_leaves_107, z_X8_leaves_110, z_X8_leaves_111, z_X8_leaves_112, xf_r0_0 hX1, xf_r0_1 hX1, xf_r0_2 hX1, xf_r0_4 hX1, xf_r0_5 hX1, xf_r0_6 hX1, xf_r0_7 hX1, xf_r0_8 hX1, xf_r0_9 hX1, xf_r70_0 hX1, xf_r70_1 hX1, xf_r70_2 hX1, xf_r74_0 hX1, xf_r74_1 hX1, xf_r74_2 hX1, xf_r74_3 hX1, xf_r79_0 hX1, xf_r79_1 hX1, xf_r79_2 hX1, xf_r83_0 hX1, xf_r83_7 hX1, xf_r88_0 hX1, xf_r88_1 hX1, xf_r88_2 hX1, xf_r88_3 hX1, xf_s0 hX1, xf_s70 hX1, xf_s71 hX1, xf_s72 hX1, xf_s73 hX1, xf_s74 hX1, xf_s75 hX1, xf_s76 hX1, xf_s77 hX1, xf_s78 hX1, xf_s79 hX1, xf_s80 hX1, xf_s81 hX1, xf_s82 hX1, xf_s83 hX1, xf_s84 hX1, xf_s85 hX1, xf_s86 hX1, xf_s88 hX1, xf_s89 hX1, xf_s90 hX1, xf_s91 hX1, xf_s92 hX1, xf_s93 hX1, xf_s94 hX1, xf_s95 hX1, xf_s96 hX1, kIn, kCl, o3, true_and, Option.toList_some, Option.toList_none, List.cons_append, List.nil_append, is2IT, is2RT, if_true, if_false]; exact fin
theorem z_cl73_2 {d : Nat} {Q : Option PV → St → Prop} {σ : St} {ls st : List PV} : At d kX8_cluster 73 ls (vI (nI 2) :: st) σ Q ↔ At d kX8_cluster 120 ls st σ Q := at_go (fun _ => rfl)
theorem x_cluster {d : Nat} {Q : Option PV → St → Prop} {σ : St} {S : MSt} {k w : Int32} (h : XS σ S) (hQ : ∀ σ', Xc σ σ' → Q (some (vI (clusF S.1 k w))) σ') : Ca (d + 5) 96 [vR 0 8, vI k, vI w] σ Q := by
  have hC := h.1
  have h7 := CI_7 hC
  have hX := hC.1
  rw [ca_at (K := kX8_cluster) (ls := [vR 0 8, vI k, vI w]) rfl rfl rfl]
  unfold clusF at hQ
  have g2 : (w ≤ (2 : Int32)) = (w < nI 3) := leN (n := 2) (by decide)
  have bad : (∀ σ', Xc σ σ' → Q (some (vI (-2))) σ') → At (d + 4) kX8_cluster 9 [vR 0 8, vI k, vI w] [] σ Q := fun q => by
    simp only [z_X8_cluster_9, z_X8_cluster_11, true_and, Option.toList_some, Option.toList_none, List.cons_append, List.nil_append, is2IT, is2RT, if_true, if_false]; exact q σ Fm_rf
  simp (disch := first | exact is2I | exact is2R | omega) only [z_X8_cluster_0, z_X8_cluster_1, ge0, true_and, Option.toList_some, Option.toList_none, List.cons_append, List.nil_append, is2IT, is2RT, if_true, if_false]
  cases hw : pN 3 w with
  | none =>
    rw [hw] at hQ
    have hW := pN_none.mp hw
    by_cases c0 : 0 ≤ w
    · rw [if_neg (fun q => q c0)]
      simp (disch := first | exact is2I | exact is2R | omega) only [z_X8_cluster_4, z_X8_cluster_5, z_X8_cluster_6, g2, true_and, Option.toList_some, Option.toList_none, List.cons_append, List.nil_append, is2IT, is2RT, if_true, if_false]
      rw [if_neg (fun q => hW ⟨c0, q⟩)]
      exact bad hQ
    · rw [if_pos c0]; exact bad hQ
  | some j =>
    rw [hw] at hQ
    obtain ⟨hj, rfl⟩ := (pN_some (by decide)).mp hw
    have w0 : 0 ≤ nI j := nI_pos' (by omega)
    have w4 : nI j < nI 3 := (nI_ltI (by omega) (by decide)).mpr hj
    dsimp only at hQ
    rw [if_neg (fun q => q w0)]
    simp (disch := first | exact is2I | exact is2R | omega) only [z_X8_cluster_4, z_X8_cluster_5, z_X8_cluster_6, z_X8_cluster_9, z_X8_cluster_11, z_X8_cluster_12, z_X8_cluster_13, z_X8_cluster_16, z_X8_cluster_17, z_X8_cluster_20, g2, w4, xf_r0_0 hX, xf_r0_5 hX, true_and, Option.toList_some, Option.toList_none, List.cons_append, List.nil_append, is2IT, is2RT, if_true, if_false]
    refine c_order (d := d) hC (fun σ1 q1 q2 q3 q4 => ?_)
    have m1 : CI σ1 1 S.1 := CI_x hC (ILV0_X q1)
    have hX1 := m1.1
    simp (disch := first | exact is2I | exact is2R | omega) only [z_X8_cluster_23, z_X8_cluster_24, z_X8_cluster_27, z_X8_cluster_28, z_X8_cluster_31, z_X8_cluster_32, z_X8_cluster_35, z_X8_cluster_38, xf_r0_0 hX1, xf_r0_5 hX1, xf_r0_6 hX1, m1.2.2.1.1, Option.toList_none, List.nil_append, true_and, Option.toList_some, Option.toList_none, List.cons_append, List.nil_append, is2IT, is2RT, if_true, if_false]
    refine c_grow (d := d + 1) (L := ordS S.1) hX1 h7 q2 q3 q4 (fun σ2 t q5 q6 => ?_)
    have hX2 := XF_fm hX1 q5
    have fin := hQ σ2 (Fm_tr (ILV0_X q1) (ITr_X q5))
    have q6' : TJ σ2 (CL S.1) t (JN (CL S.1)) := q6
    obtain ⟨tc, -, tj, tb⟩ := q6'
    have l7 := tc.2.1
    simp (disch := first | exact is2I | exact is2R | omega) only [z_X8_cluster_41, z_X8_cluster_42, z_X8_cluster_43, Option.toList_none, List.nil_append, true_and, Option.toList_some, Option.toList_none, List.cons_append, List.nil_append, is2IT, is2RT, if_true, if_false]
    by_cases ck : k = -1
    · rw [if_pos ck] at fin ⊢
      simp (disch := first | exact is2I | exact is2R | omega) only [z_X8_cluster_46, z_X8_cluster_47, z_X8_cluster_50, z_X8_cluster_53, xf_r0_6 hX2, tc.1, true_and, Option.toList_some, Option.toList_none, List.cons_append, List.nil_append, is2IT, is2RT, if_true, if_false]
      exact fin
    · rw [if_neg ck] at fin ⊢
      have bad2 : Q (some (vI (-12))) σ2 → At (d + 4) kX8_cluster 69 [vR 0 8, vI k, vI (nI j)] [] σ2 Q := fun q => by
        simp only [z_X8_cluster_69, z_X8_cluster_71, true_and, Option.toList_some, Option.toList_none, List.cons_append, List.nil_append, is2IT, is2RT, if_true, if_false]; exact q
      simp (disch := first | exact is2I | exact is2R | omega) only [z_X8_cluster_54, z_X8_cluster_55, ge0, true_and, Option.toList_some, Option.toList_none, List.cons_append, List.nil_append, is2IT, is2RT, if_true, if_false]
      cases hk : pN (CL S.1).length k with
      | none =>
        rw [hk] at fin
        have hK := pN_none.mp hk
        by_cases c0 : 0 ≤ k
        · rw [if_neg (fun q => q c0)]
          simp (disch := first | exact is2I | exact is2R | omega) only [z_X8_cluster_58, z_X8_cluster_59, z_X8_cluster_60, z_X8_cluster_63, z_X8_cluster_66, xf_r0_6 hX2, tc.1, true_and, Option.toList_some, Option.toList_none, List.cons_append, List.nil_append, is2IT, is2RT, if_true, if_false]
          rw [if_neg (fun q => hK ⟨c0, q⟩)]
          exact bad2 fin
        · rw [if_pos c0]; exact bad2 fin
      | some i =>
        rw [hk] at fin
        obtain ⟨hi, rfl⟩ := (pN_some (by omega)).mp hk
        have k0 : 0 ≤ nI i := nI_pos' (by omega)
        have kl : nI i < nI (CL S.1).length := (nI_ltI (by omega) (by omega)).mpr hi
        rw [if_neg (fun q => q k0)]
        simp (disch := first | exact is2I | exact is2R | omega) only [z_X8_cluster_58, z_X8_cluster_59, z_X8_cluster_60, z_X8_cluster_63, z_X8_cluster_66, z_X8_cluster_69, z_X8_cluster_71, z_X8_cluster_72, xf_r0_6 hX2, tc.1, kl, true_and, Option.toList_some, Option.toList_none, List.cons_append, List.nil_append, is2IT, is2RT, if_true, if_false]
        have gd : (CL S.1).getD i 0 = (CL S.1)[i] := by rw [List.getD_eq_getElem?_getD, List.getElem?_eq_getElem hi]; rfl
        obtain ⟨j1, j2⟩ := tj i hi
        rcases (show j = 0 ∨ j = 1 ∨ j = 2 by omega) with rfl | rfl | rfl
        · have fin' : Q (some (vI (nI ((CL S.1).getD i 0)))) σ2 := fin
          rw [gd] at fin'
          simp (disch := first | exact is2I | exact is2R | omega) only [z_X8_cluster_73_0, z_X8_cluster_100, z_X8_cluster_101, z_X8_cluster_104, z_X8_cluster_107, z_X8_cluster_108, z_X8_cluster_109, xf_r0_0 hX2, xf_r0_1 hX2, xf_r0_2 hX2, xf_r0_4 hX2, xf_r0_5 hX2, xf_r0_6 hX2, xf_r0_7 hX2, xf_r0_8 hX2, xf_r0_9 hX2, xf_r70_0 hX2, xf_r70_1 hX2, xf_r70_2 hX2, xf_r74_0 hX2, xf_r74_1 hX2, xf_r74_2 hX2, xf_r74_3 hX2, xf_r79_0 hX2, xf_r79_1 hX2, xf_r79_2 hX2, xf_r83_0 hX2, xf_r83_7 hX2, xf_r88_0 hX2, xf_r88_1 hX2, xf_r88_2 hX2, xf_r88_3 hX2, xf_s0 hX2, xf_s70 hX2, xf_s71 hX2, xf_s72 hX2, xf_s73 hX2, xf_s74 hX2, xf_s75 hX2, xf_s76 hX2, xf_s77 hX2, xf_s78 hX2, xf_s79 hX2, xf_s80 hX2, xf_s81 hX2, xf_s82 hX2, xf_s83 hX2, xf_s84 hX2, xf_s85 hX2, xf_s86 hX2, xf_s88 hX2, xf_s89 hX2, xf_s90 hX2, xf_s91 hX2, xf_s92 hX2, xf_s93 hX2, xf_s94 hX2, xf_s95 hX2, xf_s96 hX2, kIn, kCl, (tc.2.2 i hi).1, true_and, Option.toList_some, Option.toList_none, List.cons_append, List.nil_append, is2IT, is2RT, if_true, if_false]
          exact fin'
        · simp (disch := first | exact is2I | exact is2R | omega) only [z_X8_cluster_73_1, z_X8_cluster_110, z_X8_cluster_111, z_X8_cluster_114, z_X8_cluster_117, z_X8_cluster_118, z_X8_cluster_119, xf_r0_0 hX2, xf_r0_1 hX2, xf_r0_2 hX2, xf_r0_4 hX2, xf_r0_5 hX2, xf_r0_6 hX2, xf_r0_7 hX2, xf_r0_8 hX2, xf_r0_9 hX2, xf_r70_0 hX2, xf_r70_1 hX2, xf_r70_2 hX2, xf_r74_0 hX2, xf_r74_1 hX2, xf_r74_2 hX2, xf_r74_3 hX2, xf_r79_0 hX2, xf_r79_1 hX2, xf_r79_2 hX2, xf_r83_0 hX2, xf_r83_7 hX2, xf_r88_0 hX2, xf_r88_1 hX2, xf_r88_2 hX2, xf_r88_3 hX2, xf_s0 hX2, xf_s70 hX2, xf_s71 hX2, xf_s72 hX2, xf_s73 hX2, xf_s74 hX2, xf_s75 hX2, xf_s76 hX2, xf_s77 hX2, xf_s78 hX2, xf_s79 hX2, xf_s80 hX2, xf_s81 hX2, xf_s82 hX2, xf_s83 hX2, xf_s84 hX2, xf_s85 hX2, xf_s86 hX2, xf_s88 hX2, xf_s89 hX2, xf_s90 hX2, xf_s91 hX2, xf_s92 hX2, xf_s93 hX2, xf_s94 hX2, xf_s95 hX2, xf_s96 hX2, kIn, kCl, j1, true_and, Option.toList_some, Option.toList_none, List.cons_append, List.nil_append, is2IT, is2RT, if_true, if_false]
          exact fin
        · simp (disch := first | exact is2I | exact is2R | omega) only [z_cl73_2, z_X8_cluster_120, z_X8_cluster_121, z_X8_cluster_124, z_X8_cluster_127, z_X8_cluster_128, z_X8_cluster_129, xf_r0_0 hX2, xf_r0_1 hX2, xf_r0_2 hX2, xf_r0_4 hX2, xf_r0_5 hX2, xf_r0_6 hX2, xf_r0_7 hX2, xf_r0_8 hX2, xf_r0_9 hX2, xf_r70_0 hX2, xf_r70_1 hX2, xf_r70_2 hX2, xf_r74_0 hX2, xf_r74_1 hX2, xf_r74_2 hX2, xf_r74_3 hX2, xf_r79_0 hX2, xf_r79_1 hX2, xf_r79_2 hX2, xf_r83_0 hX2, xf_r83_7 hX2, xf_r88_0 hX2, xf_r88_1 hX2, xf_r88_2 hX2, xf_r88_3 hX2, xf_s0 hX2, xf_s70 hX2, xf_s71 hX2, xf_s72 hX2, xf_s73 hX2, xf_s74 hX2, xf_s75 hX2, xf_s76 hX2, xf_s77 hX2, xf_s78 hX2, xf_s79 hX2, xf_s80 hX2, xf_s81 hX2, xf_s82 hX2, xf_s83 hX2, xf_s84 hX2, xf_s85 hX2, xf_s86 hX2, xf_s88 hX2, xf_s89 hX2, xf_s90 hX2, xf_s91 hX2, xf_s92 hX2, xf_s93 hX2, xf_s94 hX2, xf_s95 hX2, xf_s96 hX2, kIn, kCl, j2, true_and, Option.toList_some, Option.toList_none, List.cons_append, List.nil_append, is2IT, is2RT, if_true, if_false]
          exact fin
/-! which orders tell each node once -/
def seR (m : Nat) (g : Nat → Int64) : Nat → Nat → Nat → Option Nat
  | 0, _, t => some t
  | r + 1, k, t => match nod m (g k) with
    | none => none
    | some x => seR m g r (k + 1) (t ||| 2 ^ x)
theorem pop7_or : ∀ t, t < 128 → ∀ x, x < 7 → pop7 (t ||| 2 ^ x) = if t.testBit x = true then pop7 t else pop7 t + 1 := by decide +kernel
theorem seR_le {m : Nat} {g : Nat → Int64} (h7 : m ≤ 7) : ∀ r k t t', t < 128 → seR m g r k t = some t' → t' < 128 ∧ pop7 t' ≤ pop7 t + r
  | 0, k, t, t', ht, h => by cases h; exact ⟨ht, Nat.le_refl _⟩
  | r + 1, k, t, t', ht, h => by
    have es : seR m g (r + 1) k t = (match nod m (g k) with
      | none => none
      | some x => seR m g r (k + 1) (t ||| 2 ^ x)) := rfl
    rw [es] at h
    cases en : nod m (g k) with
    | none => rw [en] at h; cases h
    | some x =>
      rw [en] at h
      have x7 := ((nod_some (by omega)).mp en).1
      have o8 := or128 ht (show x < 7 by omega)
      obtain ⟨b1, b2⟩ := seR_le h7 r (k + 1) _ t' o8 h
      have p := pop7_or t ht x (by omega)
      refine ⟨b1, ?_⟩
      split at p <;> omega
theorem oroR_se {m : Nat} {g : Nat → Int64} (h7 : m ≤ 7) : ∀ r k t, t < 128 → oroR m g r k t = (match seR m g r k t with | none => false | some t' => decide (pop7 t' = pop7 t + r))
  | 0, k, t, ht => (decide_eq_true (show pop7 t = pop7 t + 0 from rfl)).symm
  | r + 1, k, t, ht => by
    have es : seR m g (r + 1) k t = (match nod m (g k) with
      | none => none
      | some x => seR m g r (k + 1) (t ||| 2 ^ x)) := rfl
    have eo : oroR m g (r + 1) k t = (match nod m (g k) with
      | none => false
      | some x => !t.testBit x && oroR m g r (k + 1) (t ||| 2 ^ x)) := rfl
    rw [es, eo]
    cases en : nod m (g k) with
    | none => rfl
    | some x =>
      have x7 := ((nod_some (by omega)).mp en).1
      have o8 := or128 ht (show x < 7 by omega)
      have p := pop7_or t ht x (by omega)
      have ih := oroR_se h7 (g := g) r (k + 1) _ o8
      dsimp only
      rw [ih]
      cases et : seR m g r (k + 1) (t ||| 2 ^ x) with
      | none => exact Bool.and_false _
      | some t' =>
        have b := (seR_le h7 r (k + 1) _ t' o8 et).2
        dsimp only
        cases eb : t.testBit x with
        | true =>
          rw [eb, if_pos rfl] at p
          rw [decide_eq_false (show ¬ pop7 t' = pop7 t + (r + 1) by omega)]; rfl
        | false =>
          rw [eb, if_neg (fun q => by cases q)] at p
          rw [Bool.not_false, Bool.true_and]
          exact decide_eq_decide.mpr (by omega)
section SHX
variable {d : Nat} {Q : Option PV → St → Prop} {σ : St}
theorem xs_r {j : Nat} (hX : XF σ) (hj : j < 4) : rR σ 88 j = some (89 + 2 * j) ∧ rR σ (89 + 2 * j) 0 = some (90 + 2 * j) ∧ sh σ (90 + 2 * j) = (21, 40) := by
  rcases (show j = 0 ∨ j = 1 ∨ j = 2 ∨ j = 3 by omega) with rfl | rfl | rfl | rfl
  · exact ⟨hX.1 (88, 0, 89) (by decide), hX.1 (89, 0, 90) (by decide), hX.2 (90, 21, 40) (by decide)⟩
  · exact ⟨hX.1 (88, 1, 91) (by decide), hX.1 (91, 0, 92) (by decide), hX.2 (92, 21, 40) (by decide)⟩
  · exact ⟨hX.1 (88, 2, 93) (by decide), hX.1 (93, 0, 94) (by decide), hX.2 (94, 21, 40) (by decide)⟩
  · exact ⟨hX.1 (88, 3, 95) (by decide), hX.1 (95, 0, 96) (by decide), hX.2 (96, 21, 40) (by decide)⟩
theorem c_isMiss {a : Nat} : Ca (d + 1) 23 [vR a 3] σ Q ↔ Q (some (vI (b2 (rI σ a 1 = -1)))) σ := by
  rw [ca_at (K := kX2_isMissing) (ls := [vR a 3]) rfl rfl rfl]
  simp only [z_X2_isMissing_0, z_X2_isMissing_1, z_X2_isMissing_4, z_X2_isMissing_5, z_X2_isMissing_8, z_X2_isMissing_9, z_X2_isMissing_12, z_X2_isMissing_13, rk_b0, rk_b1, true_and, Option.toList_some, Option.toList_none, List.cons_append, List.nil_append, is2IT, is2RT, if_true, if_false]
  by_cases c : rI σ a 1 = -1
  · rw [if_pos c, b2_t c]
  · rw [if_neg c, b2_f c]
theorem miss_n {j : Nat} {o : Option (Nat × Nat × (Nat → Int64))} (h : shAC σ j o) : (rI σ (89 + 2 * j) 1 = -1) = (o = none) := by
  cases o with
  | none => exact propext ⟨fun _ => rfl, fun _ => h⟩
  | some e =>
    obtain ⟨t, n, g⟩ := e
    obtain ⟨a1, a2, -⟩ := h
    rw [a2]
    exact propext ⟨fun q => (Eq.mp (nI_m1 (by omega)) q).elim, fun q => by cases q⟩
theorem c_once {j t n : Nat} {g : Nat → Int64} {N : Net} (h : CI σ 1 N) (hj : j < 4) (hs : shAC σ j (some (t, n, g))) : Ca (d + 2) 118 [vR 0 8, vR (89 + 2 * j) 3] σ Q ↔ Q (some (vI (b2 (oroB N n g = true)))) σ := by
  have h7 := CI_7 h
  have hX := h.1
  obtain ⟨x1, x2, x3⟩ := xs_r hX hj
  obtain ⟨a1, a2, a3, a4, a5⟩ := hs
  rw [ca_at (K := kX8_tellsEachNodeOnce) (ls := [vR 0 8, vR (89 + 2 * j) 3, vU, vU]) rfl rfl rfl]
  unfold oroB
  simp (disch := first | exact is2I | exact is2R | omega) only [z_X8_tellsEachNodeOnce_0, z_X8_tellsEachNodeOnce_1, z_X8_tellsEachNodeOnce_4, z_X8_tellsEachNodeOnce_5, z_X8_tellsEachNodeOnce_8, z_X8_tellsEachNodeOnce_11, z_X8_tellsEachNodeOnce_14, z_X8_tellsEachNodeOnce_15, xf_r0_0 hX, h.2.2.1.1, a3, kEq, rk_b0, true_and, Option.toList_some, Option.toList_none, List.cons_append, List.nil_append, is2IT, is2RT, if_true, if_false]
  by_cases cn : n = nM N
  · rw [if_pos cn, decide_eq_true cn, Bool.true_and]
    have loop : ∀ r k t, k + r = nM N → t < 128 → (At (d + 1) kX8_tellsEachNodeOnce 20 [vR 0 8, vR (89 + 2 * j) 3, vI (nI t), vI (nI k)] [] σ Q ↔ Q (some (vI (b2 ((match seR (nM N) g r k t with | none => false | some t' => decide (pop7 t' = nM N)) = true)))) σ) := by
      intro r
      induction r with
      | zero =>
        intro k t hk ht
        have hk' : k = nM N := by omega
        subst hk'
        have p7 := pop7_le t ht
        show _ ↔ Q (some (vI (b2 (decide (pop7 t = nM N) = true)))) σ
        simp (disch := first | exact is2I | exact is2R | omega) only [z_X8_tellsEachNodeOnce_20, z_X8_tellsEachNodeOnce_21, z_X8_tellsEachNodeOnce_22, z_X8_tellsEachNodeOnce_25, z_X8_tellsEachNodeOnce_28, z_X8_tellsEachNodeOnce_80, z_X8_tellsEachNodeOnce_81, z_X8_tellsEachNodeOnce_84, z_X8_tellsEachNodeOnce_85, z_X8_tellsEachNodeOnce_88, z_X8_tellsEachNodeOnce_91, z_X8_tellsEachNodeOnce_94, z_X8_tellsEachNodeOnce_95, z_X8_tellsEachNodeOnce_98, z_X8_tellsEachNodeOnce_99, xf_r0_0 hX, h.2.2.1.1, kLe, Nat.le_refl, m_bitc ht, kEq, rk_b0, rk_b1, true_and, Option.toList_some, Option.toList_none, List.cons_append, List.nil_append, is2IT, is2RT, if_true, if_false]
        by_cases c : pop7 t = nM N
        · rw [if_pos c, b2_t (decide_eq_true c)]
        · rw [if_neg c, b2_f (fun q => c (of_decide_eq_true q))]
      | succ r ih =>
        intro k t hk ht
        have hk1 : k < nM N := by omega
        have c : ¬ nM N ≤ k := by omega
        have ek := a5 k (by omega)
        have es : seR (nM N) g (r + 1) k t = (match nod (nM N) (g k) with
          | none => none
          | some x => seR (nM N) g r (k + 1) (t ||| 2 ^ x)) := rfl
        rw [es]
        have ev : nI k + (1 : Int32) = nI (k + 1) := nI_add k 1
        simp (disch := first | exact is2I | exact is2R | omega) only [z_X8_tellsEachNodeOnce_20, z_X8_tellsEachNodeOnce_21, z_X8_tellsEachNodeOnce_22, z_X8_tellsEachNodeOnce_25, z_X8_tellsEachNodeOnce_28, z_X8_tellsEachNodeOnce_31, z_X8_tellsEachNodeOnce_32, z_X8_tellsEachNodeOnce_35, z_X8_tellsEachNodeOnce_36, z_X8_tellsEachNodeOnce_37, z_X8_tellsEachNodeOnce_38, z_X8_tellsEachNodeOnce_39, xf_r0_0 hX, h.2.2.1.1, kLe, c, x2, x3, kIn, kCl, ek, lg_cmp_lt, true_and, Option.toList_some, Option.toList_none, List.cons_append, List.nil_append, is2IT, is2RT, if_true, if_false]
        cases en : nod (nM N) (g k) with
        | none =>
          have hn := nod_none.mp en
          have bad : (At (d + 1) kX8_tellsEachNodeOnce 60 [vR 0 8, vR (89 + 2 * j) 3, vI (nI t), vI (nI k)] [] σ Q ↔ Q (some (vI (b2 (false = true)))) σ) := by
            simp only [z_X8_tellsEachNodeOnce_60, z_X8_tellsEachNodeOnce_61, rk_b0, true_and, Option.toList_some, Option.toList_none, List.cons_append, List.nil_append, is2IT, is2RT, if_true, if_false]
            exact Iff.rfl
          by_cases c0 : g k < 0
          · rw [if_pos c0]; exact bad
          · rw [if_neg c0]
            simp (disch := first | exact is2I | exact is2R | omega) only [z_X8_tellsEachNodeOnce_42, z_X8_tellsEachNodeOnce_43, z_X8_tellsEachNodeOnce_46, z_X8_tellsEachNodeOnce_47, z_X8_tellsEachNodeOnce_48, z_X8_tellsEachNodeOnce_49, z_X8_tellsEachNodeOnce_52, z_X8_tellsEachNodeOnce_55, z_X8_tellsEachNodeOnce_56, z_X8_tellsEachNodeOnce_57, xf_r0_0 hX, h.2.2.1.1, x2, x3, kIn, kCl, ek, lg_cmp_lt, nI_l, true_and, Option.toList_some, Option.toList_none, List.cons_append, List.nil_append, is2IT, is2RT, if_true, if_false]
            rw [if_neg (fun q => hn ⟨Int64.not_lt.mp c0, q⟩)]
            exact bad
        | some x =>
          obtain ⟨hx, ex⟩ := (nod_some (by omega)).mp en
          have n0 : ¬ (lN x < 0) := fun q => by have := (pk_lLT (b := 0) (show x < 2 ^ 63 by omega) (by decide)).mp q; omega
          have nl : lN x < lN (nM N) := (pk_lLT (by omega) (by omega)).mpr hx
          rw [ex] at ek ⊢
          rw [if_neg n0]
          simp (disch := first | exact is2I | exact is2R | omega) only [z_X8_tellsEachNodeOnce_42, z_X8_tellsEachNodeOnce_43, z_X8_tellsEachNodeOnce_46, z_X8_tellsEachNodeOnce_47, z_X8_tellsEachNodeOnce_48, z_X8_tellsEachNodeOnce_49, z_X8_tellsEachNodeOnce_52, z_X8_tellsEachNodeOnce_55, z_X8_tellsEachNodeOnce_56, z_X8_tellsEachNodeOnce_57, z_X8_tellsEachNodeOnce_60, z_X8_tellsEachNodeOnce_61, z_X8_tellsEachNodeOnce_62, z_X8_tellsEachNodeOnce_63, z_X8_tellsEachNodeOnce_64, z_X8_tellsEachNodeOnce_65, z_X8_tellsEachNodeOnce_68, z_X8_tellsEachNodeOnce_69, z_X8_tellsEachNodeOnce_70, z_X8_tellsEachNodeOnce_71, z_X8_tellsEachNodeOnce_72, z_X8_tellsEachNodeOnce_73, z_X8_tellsEachNodeOnce_74, xf_r0_0 hX, h.2.2.1.1, x2, x3, kIn, kCl, ek, lg_cmp_lt, nI_l, nl, lN_i, kShl x (by omega), kOr, ev, true_and, Option.toList_some, Option.toList_none, List.cons_append, List.nil_append, is2IT, is2RT, if_true, if_false]
          rw [z_X8_tellsEachNodeOnce_77]
          exact ih (k + 1) (t ||| 2 ^ x) (by omega) (or128 ht (by omega))
    have l := loop (nM N) 0 0 (by omega) (by decide)
    simp (disch := first | exact is2I | exact is2R | omega) only [z_X8_tellsEachNodeOnce_16, z_X8_tellsEachNodeOnce_17, z_X8_tellsEachNodeOnce_18, z_X8_tellsEachNodeOnce_19, true_and, Option.toList_some, Option.toList_none, List.cons_append, List.nil_append, is2IT, is2RT, if_true, if_false]
    refine l.trans ?_
    rw [oroR_se h7 (nM N) 0 0 (by decide), pop7_0, Nat.zero_add]
  · rw [if_neg cn, decide_eq_false cn, Bool.false_and]
    exact Iff.rfl
end SHX
theorem OL0_grp {σ : St} {L : List (Nat × Nat × Nat)} {m : Nat} (h : OL0 σ L) (hB : OB m L) (hL : L.length = m) : ∀ k, k < m → rI σ 78 k = nI (grpL L k) ∧ grpL L k < 128 := fun k hk => by
  have hk2 : k < L.length := by omega
  have e : grpL L k = L[k].2.2 := by unfold grpL; rw [List.getD_eq_getElem?_getD, List.getElem?_eq_getElem hk2]; rfl
  rw [e]
  exact ⟨(h k hk2).2.2, (hB _ (List.getElem_mem hk2)).2.2⟩
theorem xct_l {d j : Nat} {Q : Option PV → St → Prop} {N : Net} {σ0 : St} {g : Nat → Int64} {LE : List (Nat × Nat × Nat)} (h : CI σ0 1 N) (hj : j < 4) (hg : ∀ i, i < nM N → rL σ0 (90 + 2 * j) i = g i) (hx : ∀ i, i < nM N → ∃ x, nod (nM N) (g i) = some x) (hQ : ∀ σ', Fm ILV0 noL σ0 σ' → OL0 σ' LE → OB (nM N) LE → LE.length = nM N → At (d + 3) kX8_cost 111 [vR 0 8, vI (nI j), vR (89 + 2 * j) 3, vI (nI (nM N))] [] σ' Q) : ∀ r k σ nr L, k + r = nM N → L.length = k → Fm ILV0 noL σ0 σ → NR0 σ nr → SY nr (nM N) → OL0 σ L → OB (nM N) L → crdR (nM N) g r k nr L = LE → At (d + 3) kX8_cost 79 [vR 0 8, vI (nI j), vR (89 + 2 * j) 3, vI (nI k)] [] σ Q
  | 0, k, σ, nr, L, hk, hL, hf, hN, hS, hO, hB, he => by
    have h7 := CI_7 h
    have m1 : CI σ 1 N := CI_x h (ILV0_X hf)
    have : k = nM N := by omega
    subst this
    have he' : L = LE := he
    subst he'
    simp (disch := first | exact is2I | exact is2R | omega) only [z_X8_cost_79, z_X8_cost_80, z_X8_cost_81, z_X8_cost_84, z_X8_cost_87, xf_r0_0 m1.1, m1.2.2.1.1, kLe, Nat.le_refl, true_and, Option.toList_some, Option.toList_none, List.cons_append, List.nil_append, is2IT, is2RT, if_true, if_false]
    exact hQ σ hf hO hB hL
  | r + 1, k, σ, nr, L, hk, hL, hf, hN, hS, hO, hB, he => by
    have h7 := CI_7 h
    have hk1 : k < nM N := by omega
    have m1 : CI σ 1 N := CI_x h (ILV0_X hf)
    have hX := m1.1
    have c : ¬ nM N ≤ k := by omega
    obtain ⟨s1, s2, s3⟩ := xs_r hX hj
    obtain ⟨x, ex⟩ := hx k hk1
    obtain ⟨x1, x2⟩ := (nod_some (by omega)).mp ex
    have en : ndx (nM N) g k = x := by unfold ndx; rw [ex]; rfl
    have hr : rL σ (90 + 2 * j) k = g k := by rw [hf.2.1 (90 + 2 * j) _ rfl]; exact hg k hk1
    obtain ⟨y1, y2⟩ := hN x (by omega)
    have he' : crdR (nM N) g r (k + 1) (lvS nr (ndx (nM N) g k) (nM N)) (L ++ [(ndx (nM N) g k, filS nr (ndx (nM N) g k) (nM N), nr (ndx (nM N) g k) ||| 2 ^ ndx (nM N) g k)]) = LE := he
    rw [en] at he'
    have ev : nI k + (1 : Int32) = nI (k + 1) := nI_add k 1
    simp (disch := first | exact is2I | exact is2R | omega) only [z_X8_cost_79, z_X8_cost_80, z_X8_cost_81, z_X8_cost_84, z_X8_cost_87, z_X8_cost_90, z_X8_cost_91, z_X8_cost_94, z_X8_cost_95, z_X8_cost_96, z_X8_cost_99, z_X8_cost_100, z_X8_cost_101, z_X8_cost_102, xf_r0_0 hX, xf_r0_5 hX, m1.2.2.1.1, kLe, c, s2, s3, kIn, kCl, hr, x2, lN_i, true_and, Option.toList_some, Option.toList_none, List.cons_append, List.nil_append, is2IT, is2RT, if_true, if_false]
    refine c_leave (d := d) hX hS h7 x1 (by omega) hN (fun σ' q1 q2 q3 q4 q5 => ?_)
    simp (disch := first | exact is2I | exact is2R | omega) only [z_X8_cost_105, ev, Option.toList_none, List.nil_append, true_and, Option.toList_some, Option.toList_none, List.cons_append, List.nil_append, is2IT, is2RT, if_true, if_false]
    rw [z_X8_cost_108]
    subst hL
    refine xct_l h hj hg hx hQ r (L.length + 1) σ' _ (L ++ [(x, filS nr x (nM N), nr x ||| 2 ^ x)]) (by omega) (by rw [List.length_append]; rfl) (Fm_tr hf q1) q2 (by rw [← lcS_lvS hS x1]; exact SY_lcS hS x1) (OL0_add hO q3 q4 q5) (fun e he2 => ?_) he'
    rcases List.mem_append.mp he2 with q | q
    · exact hB e q
    · rw [List.mem_singleton] at q
      rw [q]
      exact ⟨x1, filS_le h7, or128 y2 (by omega)⟩
theorem x_cost {d : Nat} {Q : Option PV → St → Prop} {σ : St} {S : MSt} {s : Int32} (h : XS σ S) (hQ : ∀ σ', Xc σ σ' → Q (some (vI (costF S.1 S.2.2.2 s))) σ') : Ca (d + 5) 97 [vR 0 8, vI s] σ Q := by
  have hC := h.1
  have h7 := CI_7 hC
  have hX := hC.1
  have hS := h.2.2.2.2
  rw [ca_at (K := kX8_cost) (ls := [vR 0 8, vI s, vU, vU]) rfl rfl rfl]
  unfold costF at hQ
  simp (disch := first | exact is2I | exact is2R | omega) only [z_X8_cost_0, z_X8_cost_1, z_X8_cost_2, true_and, Option.toList_some, Option.toList_none, List.cons_append, List.nil_append, is2IT, is2RT, if_true, if_false]
  by_cases c1 : s = -1
  · rw [if_pos c1] at hQ ⊢
    simp (disch := first | exact is2I | exact is2R | omega) only [z_X8_cost_5, z_X8_cost_6, z_X8_cost_9, z_X8_cost_10, z_X8_cost_13, xf_r0_0 hX, xf_r0_5 hX, true_and, Option.toList_some, Option.toList_none, List.cons_append, List.nil_append, is2IT, is2RT, if_true, if_false]
    refine c_order (d := d) hC (fun σ1 q1 q2 q3 q4 => ?_)
    have m1 : CI σ1 1 S.1 := CI_x hC (ILV0_X q1)
    simp (disch := first | exact is2I | exact is2R | omega) only [z_X8_cost_16, z_X8_cost_17, z_X8_cost_20, z_X8_cost_21, z_X8_cost_24, z_X8_cost_27, xf_r0_0 m1.1, xf_r0_5 m1.1, c_costOf m1 (OL0_grp q2 q3 q4), cstR_cstO, Option.toList_none, List.nil_append, true_and, Option.toList_some, Option.toList_none, List.cons_append, List.nil_append, is2IT, is2RT, if_true, if_false]
    exact hQ σ1 (ILV0_X q1)
  · rw [if_neg c1] at hQ ⊢
    simp (disch := first | exact is2I | exact is2R | omega) only [z_X8_cost_28, z_X8_cost_29, z_X8_cost_32, c_isSheet, b2_0, true_and, Option.toList_some, Option.toList_none, List.cons_append, List.nil_append, is2IT, is2RT, if_true, if_false]
    cases hp : pN 4 s with
    | none =>
      rw [hp] at hQ
      rw [if_pos (pN_none.mp hp)]
      simp (disch := first | exact is2I | exact is2R | omega) only [z_X8_cost_35, z_X8_cost_37, true_and, Option.toList_some, Option.toList_none, List.cons_append, List.nil_append, is2IT, is2RT, if_true, if_false]
      exact hQ σ Fm_rf
    | some j =>
      rw [hp] at hQ
      obtain ⟨hj, rfl⟩ := (pN_some (by decide)).mp hp
      have hP : 0 ≤ nI j ∧ nI j < nI 4 := (lt_nI (by decide)).mpr ⟨j, hj, rfl⟩
      rw [if_neg (fun q => q hP)]
      dsimp only at hQ
      obtain ⟨x1, x2, x3⟩ := xs_r hX hj
      have ha := hS j hj
      have em := miss_n ha
      simp (disch := first | exact is2I | exact is2R | omega) only [z_X8_cost_38, z_X8_cost_39, z_X8_cost_42, z_X8_cost_43, z_X8_cost_43s, z_X8_cost_44, z_X8_cost_45, z_X8_cost_46, z_X8_cost_49, xf_r0_9 hX, xf_s88 hX, x1, kIn, kCl, c_isMiss, b2_0, em, true_and, Option.toList_some, Option.toList_none, List.cons_append, List.nil_append, is2IT, is2RT, if_true, if_false]
      cases hf : S.2.2.2 j with
      | none =>
        rw [hf] at hQ
        rw [if_neg (fun q => q rfl)]
        simp (disch := first | exact is2I | exact is2R | omega) only [z_X8_cost_52, z_X8_cost_54, true_and, Option.toList_some, Option.toList_none, List.cons_append, List.nil_append, is2IT, is2RT, if_true, if_false]
        exact hQ σ Fm_rf
      | some e =>
        obtain ⟨t, n, g⟩ := e
        rw [hf] at hQ ha
        rw [if_pos (fun q => by cases q)]
        dsimp only at hQ
        simp (disch := first | exact is2I | exact is2R | omega) only [z_X8_cost_55, z_X8_cost_56, z_X8_cost_57, z_X8_cost_60, c_once hC hj ha, b2_0, true_and, Option.toList_some, Option.toList_none, List.cons_append, List.nil_append, is2IT, is2RT, if_true, if_false]
        obtain ⟨a1, a2, a3, a4, a5⟩ := ha
        by_cases ct : oroB S.1 n g = true
        · rw [if_pos ct] at hQ
          rw [if_neg (fun q => q ct)]
          have ct2 := ct
          unfold oroB at ct2
          simp only [Bool.and_eq_true] at ct2
          have en : n = nM S.1 := of_decide_eq_true ct2.1
          have hx := fun i hi => oro_all _ _ _ ct2.2 i (Nat.zero_le _) (by omega)
          simp (disch := first | exact is2I | exact is2R | omega) only [z_X8_cost_66, z_X8_cost_67, z_X8_cost_70, z_X8_cost_71, z_X8_cost_74, xf_r0_0 hX, xf_r0_5 hX, true_and, Option.toList_some, Option.toList_none, List.cons_append, List.nil_append, is2IT, is2RT, if_true, if_false]
          refine c_begin (d := d + 1) hC (fun σ1 q1 q2 => ?_)
          have q1' : Fm ILV0 noL σ σ1 := Fm_mono q1 (fun a i => ILV0_75) (fun _ q => q)
          have m1 : CI σ1 1 S.1 := CI_x hC (ILV0_X q1')
          simp (disch := first | exact is2I | exact is2R | omega) only [z_X8_cost_77, z_X8_cost_78, Option.toList_none, List.nil_append, true_and, Option.toList_some, Option.toList_none, List.cons_append, List.nil_append, is2IT, is2RT, if_true, if_false]
          refine xct_l (d := d + 1) (g := g) (LE := crdR (nM S.1) g (nM S.1) 0 (nrS S.1) []) m1 hj (fun i hi => by rw [q1.2.1 _ _ rfl]; exact a5 i (by omega)) (fun i hi => hx i (by omega)) (fun σ2 q3 q4 q5 q6 => ?_) (nM S.1) 0 σ1 (nrS S.1) [] (by omega) rfl Fm_rf q2 (SY_nrS hC.2.2.2) (fun i hi => absurd hi (Nat.not_lt_zero i)) (fun e he => by cases he) rfl
          have m2 : CI σ2 1 S.1 := CI_x m1 (ILV0_X q3)
          simp (disch := first | exact is2I | exact is2R | omega) only [z_X8_cost_111, z_X8_cost_112, z_X8_cost_115, z_X8_cost_116, z_X8_cost_119, z_X8_cost_122, xf_r0_0 m2.1, xf_r0_5 m2.1, c_costOf m2 (OL0_grp q4 q5 q6), cstR_cstO, true_and, Option.toList_some, Option.toList_none, List.cons_append, List.nil_append, is2IT, is2RT, if_true, if_false]
          exact hQ σ2 (Fm_tr (ILV0_X q1') (ILV0_X q3))
        · rw [if_neg ct] at hQ
          rw [if_pos ct]
          simp only [z_X8_cost_63, z_X8_cost_65, true_and, Option.toList_some, Option.toList_none, List.cons_append, List.nil_append, is2IT, is2RT, if_true, if_false]
          exact hQ σ Fm_rf
