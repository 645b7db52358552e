/-! ===== print: the class ===== -/
theorem XF_fb {σ σ' : St} (h : XF σ) (hf : Fb σ σ') : XF σ' := by
  have c1 : ∀ p, p ∈ xfR → p.1 < 119 ∧ (p.1 = 86 → p.2.1 ≠ 0) := by decide
  have c2 : ∀ p, p ∈ xfS → p.1 < 119 := by decide
  exact ⟨fun p hp => by rw [hf.2.2.1 _ _ (c1 p hp).1 (c1 p hp).2]; exact h.1 p hp, fun p hp => by rw [hf.2.2.2.1 _ (c2 p hp)]; exact h.2 p hp⟩
theorem MF_fb {σ σ' : St} (h : MF σ) (hf : Fb σ σ') : MF σ' := by
  have c2 : ∀ p, p ∈ mfS → p.1 < 119 := by decide
  exact ⟨fun p hp => by rw [hf.2.2.1 _ _ (by decide) (fun q => absurd q (by decide))]; exact h.1 p hp, fun p hp => by rw [hf.2.2.2.1 _ (c2 p hp)]; exact h.2 p hp⟩
theorem WB_fb {σ σ' : St} {v : Nat} {N : Net} (h : WB σ v N) (hv : Wk v) (h7 : nM N ≤ 7) (hf : Fb σ σ') : WB σ' v N := by
  have r : ∀ a, a < 86 → rI σ' a = rI σ a := fun a h1 => funext fun i => hf.1 a i (by omega) (by omega) (by omega)
  have vb : v ≤ 47 := by unfold Wk at hv; omega
  refine ⟨by rw [r v (by omega)]; exact h.1, fun k hk => ?_⟩
  have q := h.2 k hk
  unfold NB at q ⊢
  rw [r (nO v k) (by unfold nO; omega), r (hO v k) (by unfold hO; omega), r (cO v k) (by unfold cO; omega)]
  exact q
theorem CI_fb {σ σ' : St} {v : Nat} {N : Net} (h : CI σ v N) (hf : Fb σ σ') : CI σ' v N := ⟨XF_fb h.1 hf, h.2.1, WB_fb h.2.2.1 h.2.1 h.2.2.2.1 hf, h.2.2.2⟩
theorem shAC_fb {σ σ' : St} {j : Nat} (hj : j < 4) {o : Option (Nat × Nat × (Nat → Int64))} (h : shAC σ j o) (hf : Fb σ σ') : shAC σ' j o := by
  cases o with
  | none =>
    have h' : rI σ (89 + 2 * j) 1 = -1 := h
    show rI σ' (89 + 2 * j) 1 = -1
    rw [hf.1 _ _ (by omega) (by omega) (by omega)]; exact h'
  | some e =>
    obtain ⟨t, n, g⟩ := e
    obtain ⟨a1, a2, a3, a4, a5⟩ := h
    exact ⟨a1, by rw [hf.1 _ _ (by omega) (by omega) (by omega)]; exact a2, by rw [hf.1 _ _ (by omega) (by omega) (by omega)]; exact a3, a4, fun i hi => by rw [hf.2.1 _ _ (by omega)]; exact a5 i hi⟩
theorem XS_fb {σ σ' : St} {S : MSt} (h : XS σ S) (hf : Fb σ σ') : XS σ' S := by
  obtain ⟨h1, h5, h6, h7, h8⟩ := h
  exact ⟨CI_fb h1 hf, by rw [hf.1 0 3 (by decide) (by decide) (by decide)]; exact h5, fun K hK => ⟨WB_fb (h6 K hK).1 Wk24 (h6 K hK).2.1 hf, (h6 K hK).2⟩, ⟨by rw [hf.1 83 1 (by decide) (by decide) (by decide)]; exact h7.1, h7.2.1, fun i hi => by rw [hf.1 84 i (by decide) (by decide) (by decide)]; exact h7.2.2 i hi⟩, fun j hj => shAC_fb hj (h8 j hj) hf⟩
theorem MN_fb {σ σ' : St} {a : Nat} {N : Net} (h : MN σ a N) (ha : 97 ≤ a) (ha2 : a < 119) (hf : Fb σ σ') : MN σ' a N := by
  have r : rI σ' a = rI σ a := funext fun i => hf.1 a i ha2 (by omega) (by omega)
  unfold MN at h ⊢
  rw [r]; exact h
theorem MS_fb {σ σ' : St} {S : MSt} (h : MS σ S) (hf : Fb σ σ') : MS σ' S := by
  have r : ∀ a i, 97 ≤ a → a < 119 → rI σ' a i = rI σ a i := fun a i h1 h2 => hf.1 a i h2 (by omega) (by omega)
  obtain ⟨⟨a1, a2, a3⟩, b, c, d, e, f, g⟩ := h
  refine ⟨⟨MF_fb a1 hf, MN_fb a2 (by decide) (by decide) hf, a3⟩, by rw [r 97 4 (by decide) (by decide)]; exact b, fun K hK => ⟨MN_fb (c K hK).1 (by decide) (by decide) hf, (c K hK).2⟩, ⟨by rw [r 97 6 (by decide) (by decide)]; exact d.1, d.2.1, fun i hi => by rw [r 101 i (by decide) (by decide)]; exact d.2.2 i hi⟩, fun i hi => by rw [r 106 i (by decide) (by decide)]; exact e i hi, by rw [r 97 20 (by decide) (by decide)]; exact f, fun j hj => ?_⟩
  exact sh_keep (sh_at g hj) (r 115 j (by decide) (by decide)) (r 116 j (by decide) (by decide)) (r 117 j (by decide) (by decide)) (fun i hi => hf.2.1 118 _ (by decide))
section PR
variable {d n : Nat} {Q : Option PV → St → Prop} {σ : St} {N : Net} {L : List Nat} {k cap : Nat} {x : Int32}
theorem pr_kind (h : CI σ 1 N) (hn : n < nM N) (hb : SB σ L k cap) (hl : L.length ≤ 50) (hQ : ∀ σ' k' cap', SB σ' (L ++ kindL (nK N n)) k' cap' → Fb σ σ' → At (d + 5) kX1_printTo 58 [vR (nO 1 n) 2, vR 86 0, vI x] [] σ' Q) : At (d + 5) kX1_printTo 18 [vR (nO 1 n) 2, vR 86 0, vI x] [] σ Q := by
  obtain ⟨-, e3, -⟩ := h.2.2.1.2 n hn
  have k3 := NV_kk h.2.2.2 hn
  unfold kindL at hQ
  simp (disch := first | exact is2I | exact is2R | omega) only [z_X1_printTo_18, z_X1_printTo_19, z_X1_printTo_22, e3, kEL, true_and, Option.toList_some, Option.toList_none, List.cons_append, List.nil_append, is2IT, is2RT, if_true, if_false]
  have app : ∀ t M, t < 15 → txL t = M → (∀ σ' k' cap', SB σ' (L ++ M) k' cap' → Fb σ σ' → At (d + 5) kX1_printTo 58 [vR (nO 1 n) 2, vR 86 0, vI x] [] σ' Q) → At (d + 5) kX1_printTo 54 [vR (nO 1 n) 2, vR 86 0, vI x] [vR t 46, vR 86 0] σ Q := fun t M ht hM q => by
    simp (disch := first | exact is2I | exact is2R | omega) only [z_X1_printTo_54, true_and, Option.toList_some, Option.toList_none, List.cons_append, List.nil_append, is2IT, is2RT, if_true, if_false]
    refine j_appS (d := d) hb (by omega) ht (fun σ1 k1 c1 g1 f1 => ?_)
    rw [hM] at g1
    simp (disch := first | exact is2I | exact is2R | omega) only [z_X1_printTo_57, Option.toList_some, List.cons_append, List.nil_append, true_and, Option.toList_some, Option.toList_none, List.cons_append, List.nil_append, is2IT, is2RT, if_true, if_false]
    exact q σ1 k1 c1 g1 f1
  rcases (show nK N n = 0 ∨ nK N n = 1 ∨ nK N n = 2 ∨ nK N n = 3 by omega) with q | q | q | q
  · rw [q] at hQ ⊢
    rw [if_pos rfl]
    exact hQ σ k cap (by show SB σ (L ++ []) k cap; rw [List.append_nil]; exact hb) Fb_rf
  · rw [q] at hQ ⊢
    rw [if_neg (by decide)]
    rw [q] at e3
    have a1 := app 8 _ (by decide) rfl hQ
    simp (disch := first | exact is2I | exact is2R | omega) only [z_X1_printTo_25, z_X1_printTo_26, z_X1_printTo_27, z_X1_printTo_30, z_X1_printTo_31, z_X1_printTo_34, z_X1_printTo_36, e3, show (nI 1 = (1 : Int32)) = True from eq_true rfl, true_and, Option.toList_some, Option.toList_none, List.cons_append, List.nil_append, is2IT, is2RT, if_true, if_false]
    exact a1
  · rw [q] at hQ ⊢
    rw [if_neg (by decide)]
    rw [q] at e3
    have a1 := app 9 _ (by decide) rfl hQ
    simp (disch := first | exact is2I | exact is2R | omega) only [z_X1_printTo_25, z_X1_printTo_26, z_X1_printTo_27, z_X1_printTo_30, z_X1_printTo_31, z_X1_printTo_39, z_X1_printTo_40, z_X1_printTo_43, z_X1_printTo_44, z_X1_printTo_47, z_X1_printTo_49, e3, show (nI 2 = (1 : Int32)) = False from eq_false (by decide), show (nI 2 = (2 : Int32)) = True from eq_true rfl, true_and, Option.toList_some, Option.toList_none, List.cons_append, List.nil_append, is2IT, is2RT, if_true, if_false]
    exact a1
  · rw [q] at hQ ⊢
    rw [if_neg (by decide)]
    rw [q] at e3
    have a1 := app 10 _ (by decide) rfl hQ
    simp (disch := first | exact is2I | exact is2R | omega) only [z_X1_printTo_25, z_X1_printTo_26, z_X1_printTo_27, z_X1_printTo_30, z_X1_printTo_31, z_X1_printTo_39, z_X1_printTo_40, z_X1_printTo_43, z_X1_printTo_44, z_X1_printTo_52, e3, show (nI 3 = (1 : Int32)) = False from eq_false (by decide), show (nI 3 = (2 : Int32)) = False from eq_false (by decide), true_and, Option.toList_some, Option.toList_none, List.cons_append, List.nil_append, is2IT, is2RT, if_true, if_false]
    exact a1
theorem pr_pa (h : CI σ 1 N) (hn : n < nM N) (hb : SB σ L k cap) (hl : L.length ≤ 50) (hQ : ∀ σ' k' cap', SB σ' (L ++ paL (nP N n)) k' cap' → Fb σ σ' → At (d + 5) kX1_printTo 80 [vR (nO 1 n) 2, vR 86 0, vI x] [] σ' Q) : At (d + 5) kX1_printTo 58 [vR (nO 1 n) 2, vR 86 0, vI x] [] σ Q := by
  have h7 := CI_7 h
  have e4 := (h.2.2.1.2 n hn).2.2.1
  cases ep : nP N n with
  | none =>
    rw [ep] at hQ e4
    rw [oI_nn] at e4
    simp (disch := first | exact is2I | exact is2R | omega) only [z_X1_printTo_58, z_X1_printTo_59, z_X1_printTo_62, z_X1_printTo_63, e4, true_and, Option.toList_some, Option.toList_none, List.cons_append, List.nil_append, is2IT, is2RT, if_true, if_false]
    exact hQ σ k cap (by show SB σ (L ++ []) k cap; rw [List.append_nil]; exact hb) Fb_rf
  | some p =>
    rw [ep] at hQ e4
    rw [oI_ss] at e4
    have hp := (h.2.2.2.2 n hn).2.2.1 p ep
    simp (disch := first | exact is2I | exact is2R | omega) only [z_X1_printTo_58, z_X1_printTo_59, z_X1_printTo_62, z_X1_printTo_63, z_X1_printTo_66, z_X1_printTo_67, z_X1_printTo_69, e4, kM1, true_and, Option.toList_some, Option.toList_none, List.cons_append, List.nil_append, is2IT, is2RT, if_true, if_false]
    refine j_appS (d := d) hb (by omega) (show 11 < 15 by decide) (fun σ1 k1 c1 g1 f1 => ?_)
    have m1 := CI_fb h f1
    have e41 := (m1.2.2.1.2 n hn).2.2.1
    rw [ep, oI_ss] at e41
    have tl : (txL 11).length = 2 := rfl
    simp (disch := first | exact is2I | exact is2R | omega) only [z_X1_printTo_72, z_X1_printTo_73, z_X1_printTo_76, e41, Option.toList_some, List.cons_append, List.nil_append, true_and, Option.toList_some, Option.toList_none, List.cons_append, List.nil_append, is2IT, is2RT, if_true, if_false]
    refine j_appI (d := d) g1 (by rw [List.length_append]; omega) (show p < 10 by omega) (fun σ2 k2 c2 g2 f2 => ?_)
    simp (disch := first | exact is2I | exact is2R | omega) only [z_X1_printTo_79, Option.toList_some, List.cons_append, List.nil_append, true_and, Option.toList_some, Option.toList_none, List.cons_append, List.nil_append, is2IT, is2RT, if_true, if_false]
    refine hQ σ2 k2 c2 ?_ (Fb_tr f1 f2)
    rw [List.append_assoc] at g2
    exact g2
theorem pr_qu (h : CI σ 1 N) (hn : n < nM N) (hb : SB σ L k cap) (hl : L.length ≤ 50) (hQ : ∀ σ' k' cap', SB σ' (L ++ quL (nQ N n)) k' cap' → Fb σ σ' → At (d + 5) kX1_printTo 102 [vR (nO 1 n) 2, vR 86 0, vI x] [] σ' Q) : At (d + 5) kX1_printTo 80 [vR (nO 1 n) 2, vR 86 0, vI x] [] σ Q := by
  have h7 := CI_7 h
  have e4 := (h.2.2.1.2 n hn).2.2.2.1
  cases ep : nQ N n with
  | none =>
    rw [ep] at hQ e4
    rw [oI_nn] at e4
    simp (disch := first | exact is2I | exact is2R | omega) only [z_X1_printTo_80, z_X1_printTo_81, z_X1_printTo_84, z_X1_printTo_85, e4, true_and, Option.toList_some, Option.toList_none, List.cons_append, List.nil_append, is2IT, is2RT, if_true, if_false]
    exact hQ σ k cap (by show SB σ (L ++ []) k cap; rw [List.append_nil]; exact hb) Fb_rf
  | some p =>
    rw [ep] at hQ e4
    rw [oI_ss] at e4
    have hp := ((h.2.2.2.2 n hn).2.2.2.1 p ep).1
    simp (disch := first | exact is2I | exact is2R | omega) only [z_X1_printTo_80, z_X1_printTo_81, z_X1_printTo_84, z_X1_printTo_85, z_X1_printTo_88, z_X1_printTo_89, z_X1_printTo_91, e4, kM1, true_and, Option.toList_some, Option.toList_none, List.cons_append, List.nil_append, is2IT, is2RT, if_true, if_false]
    refine j_appC (d := d) (c := 44) hb (by omega) (by decide) (fun σ1 k1 c1 g1 f1 => ?_)
    have m1 := CI_fb h f1
    have e41 := (m1.2.2.1.2 n hn).2.2.2.1
    rw [ep, oI_ss] at e41
    simp (disch := first | exact is2I | exact is2R | omega) only [z_X1_printTo_94, z_X1_printTo_95, z_X1_printTo_98, e41, Option.toList_some, List.cons_append, List.nil_append, true_and, Option.toList_some, Option.toList_none, List.cons_append, List.nil_append, is2IT, is2RT, if_true, if_false]
    refine j_appI (d := d) g1 (by rw [List.length_append]; show L.length + 1 < 60; omega) (show p < 10 by omega) (fun σ2 k2 c2 g2 f2 => ?_)
    simp (disch := first | exact is2I | exact is2R | omega) only [z_X1_printTo_101, Option.toList_some, List.cons_append, List.nil_append, true_and, Option.toList_some, Option.toList_none, List.cons_append, List.nil_append, is2IT, is2RT, if_true, if_false]
    refine hQ σ2 k2 c2 ?_ (Fb_tr f1 f2)
    rw [List.append_assoc] at g2
    exact g2
theorem pr_fo (h : CI σ 1 N) (hn : n < nM N) (hb : SB σ L k cap) (hl : L.length ≤ 50) (hQ : ∀ σ' k' cap', SB σ' (L ++ foL (nF1 N n)) k' cap' → Fb σ σ' → At (d + 5) kX1_printTo 124 [vR (nO 1 n) 2, vR 86 0, vI x] [] σ' Q) : At (d + 5) kX1_printTo 102 [vR (nO 1 n) 2, vR 86 0, vI x] [] σ Q := by
  have h7 := CI_7 h
  have e4 := (h.2.2.1.2 n hn).2.2.2.2.2.2.1
  cases ep : nF1 N n with
  | none =>
    rw [ep] at hQ e4
    rw [oI_nn] at e4
    simp (disch := first | exact is2I | exact is2R | omega) only [z_X1_printTo_102, z_X1_printTo_103, z_X1_printTo_106, z_X1_printTo_107, e4, true_and, Option.toList_some, Option.toList_none, List.cons_append, List.nil_append, is2IT, is2RT, if_true, if_false]
    exact hQ σ k cap (by show SB σ (L ++ []) k cap; rw [List.append_nil]; exact hb) Fb_rf
  | some p =>
    rw [ep] at hQ e4
    rw [oI_ss] at e4
    have hp := (h.2.2.2.2 n hn).2.2.2.2.2.1 p ep
    have ss := NV_sv h.2.2.2 hn
    simp (disch := first | exact is2I | exact is2R | omega) only [z_X1_printTo_102, z_X1_printTo_103, z_X1_printTo_106, z_X1_printTo_107, z_X1_printTo_110, z_X1_printTo_111, z_X1_printTo_113, e4, kM1, true_and, Option.toList_some, Option.toList_none, List.cons_append, List.nil_append, is2IT, is2RT, if_true, if_false]
    refine j_appS (d := d) hb (by omega) (show 12 < 15 by decide) (fun σ1 k1 c1 g1 f1 => ?_)
    have m1 := CI_fb h f1
    have e41 := (m1.2.2.1.2 n hn).2.2.2.2.2.2.1
    rw [ep, oI_ss] at e41
    have tl : (txL 12).length = 6 := rfl
    simp (disch := first | exact is2I | exact is2R | omega) only [z_X1_printTo_116, z_X1_printTo_117, z_X1_printTo_120, e41, Option.toList_some, List.cons_append, List.nil_append, true_and, Option.toList_some, Option.toList_none, List.cons_append, List.nil_append, is2IT, is2RT, if_true, if_false]
    refine j_appI (d := d) g1 (by rw [List.length_append]; omega) (show p < 10 by omega) (fun σ2 k2 c2 g2 f2 => ?_)
    simp (disch := first | exact is2I | exact is2R | omega) only [z_X1_printTo_123, Option.toList_some, List.cons_append, List.nil_append, true_and, Option.toList_some, Option.toList_none, List.cons_append, List.nil_append, is2IT, is2RT, if_true, if_false]
    refine hQ σ2 k2 c2 ?_ (Fb_tr f1 f2)
    rw [List.append_assoc] at g2
    exact g2
theorem pr_do (h : CI σ 1 N) (hn : n < nM N) (hb : SB σ L k cap) (hl : L.length ≤ 50) (hQ : ∀ σ' k' cap', SB σ' (L ++ doL (nD N n)) k' cap' → Fb σ σ' → At (d + 5) kX1_printTo 146 [vR (nO 1 n) 2, vR 86 0, vI x] [] σ' Q) : At (d + 5) kX1_printTo 124 [vR (nO 1 n) 2, vR 86 0, vI x] [] σ Q := by
  have h7 := CI_7 h
  have e4 := (h.2.2.1.2 n hn).2.2.2.2.2.2.2.1
  cases ep : nD N n with
  | none =>
    rw [ep] at hQ e4
    rw [oI_nn] at e4
    simp (disch := first | exact is2I | exact is2R | omega) only [z_X1_printTo_124, z_X1_printTo_125, z_X1_printTo_128, z_X1_printTo_129, e4, true_and, Option.toList_some, Option.toList_none, List.cons_append, List.nil_append, is2IT, is2RT, if_true, if_false]
    exact hQ σ k cap (by show SB σ (L ++ []) k cap; rw [List.append_nil]; exact hb) Fb_rf
  | some p =>
    rw [ep] at hQ e4
    rw [oI_ss] at e4
    have hp := (h.2.2.2.2 n hn).2.2.2.2.2.2.1 p ep
    have ss := NV_sv h.2.2.2 hn
    simp (disch := first | exact is2I | exact is2R | omega) only [z_X1_printTo_124, z_X1_printTo_125, z_X1_printTo_128, z_X1_printTo_129, z_X1_printTo_132, z_X1_printTo_133, z_X1_printTo_135, e4, kM1, true_and, Option.toList_some, Option.toList_none, List.cons_append, List.nil_append, is2IT, is2RT, if_true, if_false]
    refine j_appS (d := d) hb (by omega) (show 13 < 15 by decide) (fun σ1 k1 c1 g1 f1 => ?_)
    have m1 := CI_fb h f1
    have e41 := (m1.2.2.1.2 n hn).2.2.2.2.2.2.2.1
    rw [ep, oI_ss] at e41
    have tl : (txL 13).length = 6 := rfl
    simp (disch := first | exact is2I | exact is2R | omega) only [z_X1_printTo_138, z_X1_printTo_139, z_X1_printTo_142, e41, Option.toList_some, List.cons_append, List.nil_append, true_and, Option.toList_some, Option.toList_none, List.cons_append, List.nil_append, is2IT, is2RT, if_true, if_false]
    refine j_appI (d := d) g1 (by rw [List.length_append]; omega) (show p < 10 by omega) (fun σ2 k2 c2 g2 f2 => ?_)
    simp (disch := first | exact is2I | exact is2R | omega) only [z_X1_printTo_145, Option.toList_some, List.cons_append, List.nil_append, true_and, Option.toList_some, Option.toList_none, List.cons_append, List.nil_append, is2IT, is2RT, if_true, if_false]
    refine hQ σ2 k2 c2 ?_ (Fb_tr f1 f2)
    rw [List.append_assoc] at g2
    exact g2
theorem pr_hi (h : CI σ 1 N) (hn : n < nM N) (hb : SB σ L k cap) (hl : L.length ≤ 40) (hQ : ∀ σ' k' cap', SB σ' (L ++ hiL N n) k' cap' → Fb σ σ' → Q none σ') : At (d + 5) kX1_printTo 146 [vR (nO 1 n) 2, vR 86 0, vI x] [] σ Q := by
  have h7 := CI_7 h
  have ss := NV_sv h.2.2.2 hn
  have hg := (h.2.2.2.2 n hn).2.2.2.2.2.2.2.1
  unfold hiL at hQ
  simp (disch := first | exact is2I | exact is2R | omega) only [z_X1_printTo_146, z_X1_printTo_147, z_X1_printTo_150, c_hinted h hn, b2_0, true_and, Option.toList_some, Option.toList_none, List.cons_append, List.nil_append, is2IT, is2RT, if_true, if_false]
  by_cases hh : hinB N n = true
  · rw [if_pos hh] at hQ
    rw [if_neg (fun q => q hh)]
    simp (disch := first | exact is2I | exact is2R | omega) only [z_X1_printTo_154, z_X1_printTo_155, z_X1_printTo_157, true_and, Option.toList_some, Option.toList_none, List.cons_append, List.nil_append, is2IT, is2RT, if_true, if_false]
    refine j_appS (d := d) hb (by omega) (show 14 < 15 by decide) (fun σ1 k1 c1 g1 f1 => ?_)
    have m1 := CI_fb h f1
    have eh1 := (m1.2.2.1.2 n hn).2.2.2.2.2.2.2.2.1
    have tl : (txL 14).length = 6 := rfl
    have l1 : (L ++ txL 14).length = L.length + 6 := by rw [List.length_append, tl]
    simp (disch := first | exact is2I | exact is2R | omega) only [z_X1_printTo_160, z_X1_printTo_161, z_X1_printTo_164, z_X1_printTo_165, z_X1_printTo_166, xw_h m1.1 Wk1 (show n < 7 by omega), xs_h m1.1 Wk1 (show n < 7 by omega), kInL, kClL, eh1 0 (by decide), Option.toList_some, List.cons_append, List.nil_append, true_and, Option.toList_some, Option.toList_none, List.cons_append, List.nil_append, is2IT, is2RT, if_true, if_false]
    refine j_appI (d := d) g1 (by omega) (show nH N n 0 < 10 by have := hg 0 (by decide); omega) (fun σ2 k2 c2 g2 f2 => ?_)
    have l2 : ((L ++ txL 14) ++ [48 + nH N n 0]).length = L.length + 7 := by rw [List.length_append, l1]; rfl
    simp (disch := first | exact is2I | exact is2R | omega) only [z_X1_printTo_169, z_X1_printTo_171, Option.toList_some, List.cons_append, List.nil_append, true_and, Option.toList_some, Option.toList_none, List.cons_append, List.nil_append, is2IT, is2RT, if_true, if_false]
    refine j_appC (d := d) (c := 58) g2 (by omega) (by decide) (fun σ3 k3 c3 g3 f3 => ?_)
    have m3 := CI_fb m1 (Fb_tr f2 f3)
    have eh3 := (m3.2.2.1.2 n hn).2.2.2.2.2.2.2.2.1
    have l3 : (((L ++ txL 14) ++ [48 + nH N n 0]) ++ [58]).length = L.length + 8 := by rw [List.length_append, l2]; rfl
    simp (disch := first | exact is2I | exact is2R | omega) only [z_X1_printTo_174, z_X1_printTo_175, z_X1_printTo_178, z_X1_printTo_179, z_X1_printTo_180, xw_h m3.1 Wk1 (show n < 7 by omega), xs_h m3.1 Wk1 (show n < 7 by omega), kInL, kClL, eh3 1 (by decide), Option.toList_some, List.cons_append, List.nil_append, true_and, Option.toList_some, Option.toList_none, List.cons_append, List.nil_append, is2IT, is2RT, if_true, if_false]
    refine j_appI (d := d) g3 (by omega) (show nH N n 1 < 10 by have := hg 1 (by decide); omega) (fun σ4 k4 c4 g4 f4 => ?_)
    have m4 := CI_fb m3 f4
    have e24 := (m4.2.2.1.2 n hn).1
    have f14 := Fb_tr f1 (Fb_tr f2 (Fb_tr f3 f4))
    have l4 : ((((L ++ txL 14) ++ [48 + nH N n 0]) ++ [58]) ++ [48 + nH N n 1]).length = L.length + 9 := by rw [List.length_append, l3]; rfl
    simp (disch := first | exact is2I | exact is2R | omega) only [z_X1_printTo_183, z_X1_printTo_184, z_X1_printTo_185, z_X1_printTo_188, z_X1_printTo_189, e24, kEL, Option.toList_some, List.cons_append, List.nil_append, true_and, Option.toList_some, Option.toList_none, List.cons_append, List.nil_append, is2IT, is2RT, if_true, if_false]
    rcases ss with s2 | s3
    · rw [if_neg (by omega)]
      rw [s2] at hQ
      simp (disch := first | exact is2I | exact is2R | omega) only [z_X1_printTo_208, true_and, Option.toList_some, Option.toList_none, List.cons_append, List.nil_append, is2IT, is2RT, if_true, if_false]
      refine hQ σ4 k4 c4 ?_ f14
      have e : L ++ (splL 104 105 110 116 32 ++ hiR N n 2 0) = ((((L ++ txL 14) ++ [48 + nH N n 0]) ++ [58]) ++ [48 + nH N n 1]) := by
        simp only [List.append_assoc]; rfl
      rw [e]; exact g4
    · rw [if_pos s3]
      rw [s3] at hQ
      simp (disch := first | exact is2I | exact is2R | omega) only [z_X1_printTo_192, z_X1_printTo_193, z_X1_printTo_195, true_and, Option.toList_some, Option.toList_none, List.cons_append, List.nil_append, is2IT, is2RT, if_true, if_false]
      refine j_appC (d := d) (c := 58) g4 (by omega) (by decide) (fun σ5 k5 c5 g5 f5 => ?_)
      have m5 := CI_fb m4 f5
      have eh5 := (m5.2.2.1.2 n hn).2.2.2.2.2.2.2.2.1
      have l5 : (((((L ++ txL 14) ++ [48 + nH N n 0]) ++ [58]) ++ [48 + nH N n 1]) ++ [58]).length = L.length + 10 := by rw [List.length_append, l4]; rfl
      simp (disch := first | exact is2I | exact is2R | omega) only [z_X1_printTo_198, z_X1_printTo_199, z_X1_printTo_202, z_X1_printTo_203, z_X1_printTo_204, xw_h m5.1 Wk1 (show n < 7 by omega), xs_h m5.1 Wk1 (show n < 7 by omega), kInL, kClL, eh5 2 (by decide), Option.toList_some, List.cons_append, List.nil_append, true_and, Option.toList_some, Option.toList_none, List.cons_append, List.nil_append, is2IT, is2RT, if_true, if_false]
      refine j_appI (d := d) g5 (by omega) (show nH N n 2 < 10 by have := hg 2 (by decide); omega) (fun σ6 k6 c6 g6 f6 => ?_)
      simp (disch := first | exact is2I | exact is2R | omega) only [z_X1_printTo_207, z_X1_printTo_208, Option.toList_some, List.cons_append, List.nil_append, true_and, Option.toList_some, Option.toList_none, List.cons_append, List.nil_append, is2IT, is2RT, if_true, if_false]
      refine hQ σ6 k6 c6 ?_ (Fb_tr f14 (Fb_tr f5 f6))
      have e : L ++ (splL 104 105 110 116 32 ++ hiR N n 3 0) = ((((((L ++ txL 14) ++ [48 + nH N n 0]) ++ [58]) ++ [48 + nH N n 1]) ++ [58]) ++ [48 + nH N n 2]) := by
        simp only [List.append_assoc]; rfl
      rw [e]; exact g6
  · rw [if_neg hh] at hQ
    rw [if_pos hh]
    simp (disch := first | exact is2I | exact is2R | omega) only [z_X1_printTo_153, true_and, Option.toList_some, Option.toList_none, List.cons_append, List.nil_append, is2IT, is2RT, if_true, if_false]
    exact hQ σ k cap (by rw [List.append_nil]; exact hb) Fb_rf
theorem c_printTo (h : CI σ 1 N) (hn : n < nM N) (hb : SB σ [] k cap) (hQ : ∀ σ' k' cap', SB σ' (lineS N n) k' cap' → Fb σ σ' → Q none σ') : Ca (d + 6) 21 [vR (nO 1 n) 2, vR 86 0, vI (nI n)] σ Q := by
  have h7 := CI_7 h
  have ss := NV_sv h.2.2.2 hn
  rw [ca_at (K := kX1_printTo) (ls := [vR (nO 1 n) 2, vR 86 0, vI (nI n)]) rfl rfl rfl]
  simp (disch := first | exact is2I | exact is2R | omega) only [z_X1_printTo_0, z_X1_printTo_1, z_X1_printTo_2, true_and, Option.toList_some, Option.toList_none, List.cons_append, List.nil_append, is2IT, is2RT, if_true, if_false]
  refine j_appI (d := d) hb (by decide) (show n < 10 by omega) (fun σ1 k1 c1 g1 f1 => ?_)
  simp (disch := first | exact is2I | exact is2R | omega) only [z_X1_printTo_5, z_X1_printTo_7, Option.toList_some, List.cons_append, List.nil_append, true_and, Option.toList_some, Option.toList_none, List.cons_append, List.nil_append, is2IT, is2RT, if_true, if_false]
  refine j_appC (d := d) (c := 47) g1 (show 1 < 60 by decide) (by decide) (fun σ2 k2 c2 g2 f2 => ?_)
  have m2 := CI_fb h (Fb_tr f1 f2)
  have e2 := (m2.2.2.1.2 n hn).1
  simp (disch := first | exact is2I | exact is2R | omega) only [z_X1_printTo_10, z_X1_printTo_11, z_X1_printTo_14, e2, Option.toList_some, List.cons_append, List.nil_append, true_and, Option.toList_some, Option.toList_none, List.cons_append, List.nil_append, is2IT, is2RT, if_true, if_false]
  refine j_appI (d := d) g2 (show 2 < 60 by decide) (show nS N n < 10 by omega) (fun σ3 k3 c3 g3 f3 => ?_)
  simp (disch := first | exact is2I | exact is2R | omega) only [z_X1_printTo_17, Option.toList_some, List.cons_append, List.nil_append, true_and, Option.toList_some, Option.toList_none, List.cons_append, List.nil_append, is2IT, is2RT, if_true, if_false]
  have m3 := CI_fb m2 f3
  have g3' : SB σ3 [48 + n, 47, 48 + nS N n] k3 c3 := g3
  have k6 := kind_6 (nK N n)
  have p3 := paL_3 (nP N n)
  have q2 := quL_2 (nQ N n)
  have o7 := foL_7 (nF1 N n)
  have b3 : [48 + n, 47, 48 + nS N n].length = 3 := rfl
  refine pr_kind (d := d) m3 hn g3' (by omega) (fun σ4 k4 c4 g4 f4 => ?_)
  have m4 := CI_fb m3 f4
  have b4 : ([48 + n, 47, 48 + nS N n] ++ kindL (nK N n)).length ≤ 9 := by rw [List.length_append]; omega
  refine pr_pa (d := d) m4 hn g4 (by omega) (fun σ5 k5 c5 g5 f5 => ?_)
  have m5 := CI_fb m4 f5
  have b5 : ([48 + n, 47, 48 + nS N n] ++ kindL (nK N n) ++ paL (nP N n)).length ≤ 12 := by rw [List.length_append]; omega
  refine pr_qu (d := d) m5 hn g5 (by omega) (fun σ6 k6' c6 g6 f6 => ?_)
  have m6 := CI_fb m5 f6
  have b6 : ([48 + n, 47, 48 + nS N n] ++ kindL (nK N n) ++ paL (nP N n) ++ quL (nQ N n)).length ≤ 14 := by rw [List.length_append]; omega
  refine pr_fo (d := d) m6 hn g6 (by omega) (fun σ7 k7 c7 g7 f7 => ?_)
  have m7 := CI_fb m6 f7
  have b7 : ([48 + n, 47, 48 + nS N n] ++ kindL (nK N n) ++ paL (nP N n) ++ quL (nQ N n) ++ foL (nF1 N n)).length ≤ 21 := by rw [List.length_append]; omega
  have o8 := doL_7 (nD N n)
  refine pr_do (d := d) m7 hn g7 (by omega) (fun σ8 k8 c8 g8 f8 => ?_)
  have m8 := CI_fb m7 f8
  have b8 : ([48 + n, 47, 48 + nS N n] ++ kindL (nK N n) ++ paL (nP N n) ++ quL (nQ N n) ++ foL (nF1 N n) ++ doL (nD N n)).length ≤ 28 := by rw [List.length_append]; omega
  refine pr_hi (d := d) m8 hn g8 (by omega) (fun σ9 k9 c9 g9 f9 => ?_)
  exact hQ σ9 k9 c9 g9 (Fb_tr f1 (Fb_tr f2 (Fb_tr f3 (Fb_tr f4 (Fb_tr f5 (Fb_tr f6 (Fb_tr f7 (Fb_tr f8 f9))))))))
end PR
theorem line_8 {N : Net} (h : NV N) {n : Nat} (hn : n < nM N) : ∀ c, c ∈ lineS N n → c < 256 := by
  have h7 := h.1
  have ss := NV_sv h hn
  obtain ⟨-, -, a3, a4, -, a6, a7, a8, -⟩ := h.2 n hn
  have spl : ∀ a b c x y, a < 256 → b < 256 → c < 256 → x < 256 → y < 256 → ∀ z, z ∈ splL a b c x y → z < 256 := by
    intro a b c x y h1 h2 h3 h4 h5 z hz
    unfold splL oneL at hz
    simp only [List.mem_append, List.mem_cons, List.not_mem_nil, or_false] at hz
    rcases hz with (q | q | q | q) | q | q
    · omega
    · omega
    · omega
    · omega
    · split at q
      · cases q
      · rw [List.mem_singleton] at q; omega
    · split at q
      · cases q
      · rw [List.mem_singleton] at q; omega
  have hi : ∀ r v, v + r ≤ 3 → ∀ z, z ∈ hiR N n r v → z < 256 := by
    intro r
    induction r with
    | zero => intro v _ z hz; cases hz
    | succ r ih =>
      intro v hv z hz
      have e : hiR N n (r + 1) v = (if v = 0 then [] else [58]) ++ [48 + nH N n v] ++ hiR N n r (v + 1) := rfl
      rw [e] at hz
      have := a8 v (by omega)
      rcases List.mem_append.mp hz with q | q
      · rcases List.mem_append.mp q with q | q
        · split at q
          · cases q
          · rw [List.mem_singleton] at q; omega
        · rw [List.mem_singleton] at q; omega
      · exact ih (v + 1) (by omega) z q
  intro c hc
  unfold lineS at hc
  rcases List.mem_append.mp hc with q | q
  · rcases List.mem_append.mp q with q | q
    · rcases List.mem_append.mp q with q | q
      · rcases List.mem_append.mp q with q | q
        · rcases List.mem_append.mp q with q | q
          · rcases List.mem_append.mp q with q | q
            · simp only [List.mem_cons, List.not_mem_nil, or_false] at q
              omega
            · unfold kindL at q
              split at q
              · exact spl _ _ _ _ _ (by decide) (by decide) (by decide) (by decide) (by decide) c q
              · split at q
                · exact spl _ _ _ _ _ (by decide) (by decide) (by decide) (by decide) (by decide) c q
                · split at q
                  · exact spl _ _ _ _ _ (by decide) (by decide) (by decide) (by decide) (by decide) c q
                  · cases q
          · cases e : nP N n with
            | none => rw [e] at q; cases q
            | some p =>
              rw [e] at q
              have := a3 p e
              unfold paL at q
              simp only [List.mem_cons, List.not_mem_nil, or_false] at q
              omega
        · cases e : nQ N n with
          | none => rw [e] at q; cases q
          | some p =>
            rw [e] at q
            have := (a4 p e).1
            unfold quL at q
            simp only [List.mem_cons, List.not_mem_nil, or_false] at q
            omega
      · cases e : nF1 N n with
        | none => rw [e] at q; cases q
        | some p =>
          rw [e] at q
          have := a6 p e
          unfold foL at q
          rcases List.mem_append.mp q with q | q
          · exact spl _ _ _ _ _ (by decide) (by decide) (by decide) (by decide) (by decide) c q
          · rw [List.mem_singleton] at q; omega
    · cases e : nD N n with
      | none => rw [e] at q; cases q
      | some p =>
        rw [e] at q
        have := a7 p e
        unfold doL at q
        rcases List.mem_append.mp q with q | q
        · exact spl _ _ _ _ _ (by decide) (by decide) (by decide) (by decide) (by decide) c q
        · rw [List.mem_singleton] at q; omega
  · unfold hiL at q
    split at q
    · rcases List.mem_append.mp q with q | q
      · exact spl _ _ _ _ _ (by decide) (by decide) (by decide) (by decide) (by decide) c q
      · exact hi _ _ (by omega) c q
    · cases q
theorem x_print {d : Nat} {Q : Option PV → St → Prop} {σ : St} {S : MSt} {n i : Int32} (h : XS σ S) (hb : SB0 σ) (hQ : ∀ σ', Fb σ σ' → SB0 σ' → Q (some (vI (printF S.1 n i))) σ') : Ca (d + 7) 83 [vR 0 8, vI n, vI i] σ Q := by
  have hC := h.1
  have h7 := CI_7 hC
  have hX := hC.1
  rw [ca_at (K := kX8_print) (ls := [vR 0 8, vI n, vI i]) rfl rfl rfl]
  unfold printF at hQ
  cases hp : pN (nM S.1) n with
  | none =>
    rw [hp] at hQ
    simp (disch := first | exact is2I | exact is2R | omega) only [z_X8_print_0, z_X8_print_1, z_X8_print_4, z_X8_print_5, z_X8_print_8, z_X8_print_11, z_X8_print_13, xf_r0_0 hX, c_has hC, b2_0, pN_none.mp hp, not_false_eq_true, true_and, Option.toList_some, Option.toList_none, List.cons_append, List.nil_append, is2IT, is2RT, if_true, if_false]
    exact hQ σ Fb_rf hb
  | some k =>
    rw [hp] at hQ
    obtain ⟨hk, rfl⟩ := (pN_some (by omega)).mp hp
    have hP : 0 ≤ nI k ∧ nI k < nI (nM S.1) := (lt_nI (by omega)).mpr ⟨k, hk, rfl⟩
    dsimp only at hQ
    simp (disch := first | exact is2I | exact is2R | omega) only [z_X8_print_0, z_X8_print_1, z_X8_print_4, z_X8_print_5, z_X8_print_8, z_X8_print_11, z_X8_print_13, z_X8_print_14, z_X8_print_15, z_X8_print_18, z_X8_print_19, xf_r0_0 hX, xf_r0_8 hX, c_has hC, b2_0, hP, and_self, not_true_eq_false, true_and, Option.toList_some, Option.toList_none, List.cons_append, List.nil_append, is2IT, is2RT, if_true, if_false]
    refine j_setLen (d := d + 1) hb (fun σ1 k1 c1 g1 f1 => ?_)
    have m1 := CI_fb hC f1
    have hX1 := m1.1
    simp (disch := first | exact is2I | exact is2R | omega) only [z_X8_print_22, z_X8_print_23, z_X8_print_26, z_X8_print_29, z_X8_print_30, z_X8_print_30s, z_X8_print_31, z_X8_print_32, z_X8_print_35, z_X8_print_36, xf_r0_0 hX1, xf_r0_8 hX1, xw_a hX1 Wk1, xw_n hX1 Wk1 (show k < 7 by omega), xs_a hX1 Wk1, kIn, kCl, Option.toList_none, List.nil_append, true_and, Option.toList_some, Option.toList_none, List.cons_append, List.nil_append, is2IT, is2RT, if_true, if_false]
    refine c_printTo (d := d) m1 hk g1 (fun σ2 k2 c2 g2 f2 => ?_)
    have m2 := CI_fb m1 f2
    have hX2 := m2.1
    have fin := hQ σ2 (Fb_tr f1 f2) (SB_0 g2)
    have kc := Kc_k g2.1
    have lc := g2.2.2.2.2.2.1
    simp (disch := first | exact is2I | exact is2R | omega) only [z_X8_print_39, z_X8_print_40, z_X8_print_41, Option.toList_none, List.nil_append, true_and, Option.toList_some, Option.toList_none, List.cons_append, List.nil_append, is2IT, is2RT, if_true, if_false]
    by_cases c1 : i = -1
    · rw [if_pos c1] at fin ⊢
      simp (disch := first | exact is2I | exact is2R | omega) only [z_X8_print_44, z_X8_print_45, z_X8_print_48, z_X8_print_51, xf_r0_8 hX2, j_sbLen g2, true_and, Option.toList_some, Option.toList_none, List.cons_append, List.nil_append, is2IT, is2RT, if_true, if_false]
      exact fin
    · rw [if_neg c1] at fin ⊢
      have bad : Q (some (vI (-1))) σ2 → At (d + 6) kX8_print 78 [vR 0 8, vI (nI k), vI i] [] σ2 Q := fun q => by
        simp (disch := first | exact is2I | exact is2R | omega) only [z_X8_print_78, z_X8_print_79, true_and, Option.toList_some, Option.toList_none, List.cons_append, List.nil_append, is2IT, is2RT, if_true, if_false]; exact q
      simp (disch := first | exact is2I | exact is2R | omega) only [z_X8_print_52, z_X8_print_53, ge0, true_and, Option.toList_some, Option.toList_none, List.cons_append, List.nil_append, is2IT, is2RT, if_true, if_false]
      cases hi : pN (lineS S.1 k).length i with
      | none =>
        rw [hi] at fin
        have hn := pN_none.mp hi
        by_cases c0 : 0 ≤ i
        · rw [if_neg (fun q => q c0)]
          simp (disch := first | exact is2I | exact is2R | omega) only [z_X8_print_56, z_X8_print_57, z_X8_print_58, z_X8_print_61, z_X8_print_64, xf_r0_8 hX2, j_sbLen g2, true_and, Option.toList_some, Option.toList_none, List.cons_append, List.nil_append, is2IT, is2RT, if_true, if_false]
          rw [if_pos (Int32.not_lt.mp (fun q => hn ⟨c0, q⟩))]
          exact bad fin
        · rw [if_pos c0]; exact bad fin
      | some x =>
        rw [hi] at fin
        obtain ⟨hx, rfl⟩ := (pN_some (by omega)).mp hi
        have i0 : 0 ≤ nI x := nI_pos' (by omega)
        have il : nI x < nI (lineS S.1 k).length := (nI_ltI (by omega) (by omega)).mpr hx
        have gd : (lineS S.1 k).getD x 0 = (lineS S.1 k)[x] := by rw [List.getD_eq_getElem?_getD, List.getElem?_eq_getElem hx]; rfl
        have c8 := line_8 hC.2.2.2 hk _ (List.getElem_mem hx)
        dsimp only at fin
        rw [gd] at fin
        rw [if_neg (fun q => q i0)]
        simp (disch := first | exact is2I | exact is2R | omega) only [z_X8_print_56, z_X8_print_57, z_X8_print_58, z_X8_print_61, z_X8_print_64, z_X8_print_67, z_X8_print_68, z_X8_print_71, z_X8_print_72, z_X8_print_75, z_X8_print_78, z_X8_print_79, xf_r0_8 hX2, j_sbLen g2, show ¬ (nI (lineS S.1 k).length ≤ nI x) from Int32.not_le.mpr il, j_sbChar g2 hx c8, true_and, Option.toList_some, Option.toList_none, List.cons_append, List.nil_append, is2IT, is2RT, if_true, if_false]
        exact fin
