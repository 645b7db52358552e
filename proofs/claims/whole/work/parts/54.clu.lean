/-! ===== clusters joined: the reference ===== -/
def addC (C : List Nat) (g : Nat) : List Nat := if (C.any fun x => dif g x == 0) = true then C else C ++ [g]
def CL (N : Net) : List Nat := (ordS N).foldl (fun C e => addC C e.2.2) []
theorem addC_le {C : List Nat} {g : Nat} : (addC C g).length ≤ C.length + 1 := by
  unfold addC
  split
  · omega
  · rw [List.length_append]; exact Nat.le_refl _
def CS9 (σ : St) (C : List Nat) : Prop := rI σ 97 28 = nI C.length ∧ C.length ≤ 7 ∧ ∀ j (h : j < C.length), rI σ 113 j = nI C[j] ∧ C[j] < 128 ∧ rI σ 114 j = -1
def ICL (a i : Nat) : Bool := a.beq 113 || (a.beq 114 || (a.beq 97 && i.beq 28))
theorem cl_in {d k : Nat} {Q : Option PV → St → Prop} {σ : St} {C : List Nat} {g : Nat} {l4 l5 l6 l7 : PV} (hF : MF σ) (hC : CS9 σ C) (hk : k < 7) (hg : g < 128) (hG : rI σ 112 k = nI g) : ∀ (r c : Nat) (b : Bool), c + r = C.length → (At d kX9_cluster 23 [vR 97 9, vI (nI k), vI (b2 (b = true)), vI (nI c), l4, l5, l6, l7] [] σ Q ↔ At d kX9_cluster 65 [vR 97 9, vI (nI k), vI (b2 ((b && !((C.drop c).any fun x => dif g x == 0)) = true)), vI (nI C.length), l4, l5, l6, l7] [] σ Q)
  | 0, c, b, hc => by
    have h7 := hC.2.1
    have : c = C.length := by omega
    subst this
    have e : (b && !((C.drop C.length).any fun x => dif g x == 0)) = b := by rw [List.drop_length]; simp
    rw [e]
    simp (disch := first | exact is2I | exact is2R | omega) only [z_X9_cluster_23, z_X9_cluster_24, z_X9_cluster_25, z_X9_cluster_28, hC.1, kLe, Nat.le_refl, true_and, Option.toList_some, Option.toList_none, List.cons_append, List.nil_append, is2IT, is2RT, if_true, if_false]
  | r + 1, c, b, hc => by
    have h7 := hC.2.1
    have hcl : c < C.length := by omega
    have cc : ¬ C.length ≤ c := by omega
    obtain ⟨x1, x2, _⟩ := hC.2.2 c hcl
    have hd := @dif_128 g C[c] hg
    rw [show C.drop c = C[c] :: C.drop (c + 1) from List.drop_eq_getElem_cons hcl, List.any_cons]
    have nx : ∀ b, (At d kX9_cluster 59 [vR 97 9, vI (nI k), vI (b2 (b = true)), vI (nI c), l4, l5, l6, l7] [] σ Q ↔ At d kX9_cluster 65 [vR 97 9, vI (nI k), vI (b2 ((b && !((C.drop (c + 1)).any fun x => dif g x == 0)) = true)), vI (nI C.length), l4, l5, l6, l7] [] σ Q) := fun b => by
      simp (disch := first | exact is2I | exact is2R | omega) only [z_X9_cluster_59, kAL, true_and, Option.toList_some, Option.toList_none, List.cons_append, List.nil_append, is2IT, is2RT, if_true, if_false]
      rw [z_X9_cluster_62, cl_in hF hC hk hg hG r (c + 1) b (by omega)]
    simp (disch := first | exact is2I | exact is2R | omega) only [z_X9_cluster_23, z_X9_cluster_24, z_X9_cluster_25, z_X9_cluster_28, z_X9_cluster_31, z_X9_cluster_32, z_X9_cluster_35, z_X9_cluster_36, z_X9_cluster_39, z_X9_cluster_40, z_X9_cluster_41, z_X9_cluster_42, z_X9_cluster_45, z_X9_cluster_46, z_X9_cluster_47, z_X9_cluster_48, z_X9_cluster_49, z_X9_cluster_50, z_X9_cluster_53, z_X9_cluster_54, z_X9_cluster_57, z_X9_cluster_58, mf_r1 hF, mf_r2 hF, mf_r3 hF, mf_r5 hF, mf_r10 hF, mf_r11 hF, mf_r13 hF, mf_r15 hF, mf_r16 hF, mf_r19 hF, mf_r21 hF, mf_r22 hF, mf_r23 hF, mf_r24 hF, mf_r25 hF, mf_r26 hF, mf_r27 hF, mf_r29 hF, mf_r30 hF, mf_r31 hF, mf_r32 hF, mf_s98 hF, mf_s99 hF, mf_s100 hF, mf_s101 hF, mf_s102 hF, mf_s103 hF, mf_s104 hF, mf_s105 hF, mf_s106 hF, mf_s107 hF, mf_s108 hF, mf_s109 hF, mf_s110 hF, mf_s111 hF, mf_s112 hF, mf_s113 hF, mf_s114 hF, mf_s115 hF, mf_s116 hF, mf_s117 hF, mf_s118 hF, hC.1, kLe, cc, b2_0, kIn, kCl, hG, x1, kDif, kEL, true_and, Option.toList_some, Option.toList_none, List.cons_append, List.nil_append, is2IT, is2RT, if_true, if_false]
    cases b with
    | false =>
      simp only [Bool.false_eq_true, not_false_eq_true, if_true, Bool.false_and]
      have s := nx false
      simp only [Bool.false_and] at s
      exact s
    | true =>
      simp only [not_true_eq_false, if_false, Bool.true_and]
      by_cases c1 : dif g C[c] = 0
      · rw [if_pos c1]
        have s := nx false
        simp only [Bool.false_and] at s
        have e : (dif g C[c] == 0) = true := by simp [c1]
        rw [e, Bool.true_or, Bool.not_true]
        exact s
      · rw [if_neg c1]
        have s := nx true
        simp only [Bool.true_and] at s
        have e : (dif g C[c] == 0) = false := by simp [c1]
        rw [e, Bool.false_or]
        exact s
theorem cl_l1 {d : Nat} {Q : Option PV → St → Prop} {N : Net} {σ0 : St} {L : List (Nat × Nat × Nat)} {CE : List Nat} {l4 l5 l6 l7 : PV} (h : MI σ0 N) (hO : OL σ0 L) (hB : OB (nM N) L) (hL : L.length = nM N) (hQ : ∀ σ' l1 l2 l3, Fm ICL noL σ0 σ' → CS9 σ' CE → At (d + 1) kX9_cluster 113 [vR 97 9, vI l1, l2, l3, l4, l5, l6, l7] [] σ' Q) : ∀ r k σ C l2 l3, k + r = nM N → C.length ≤ k → Fm ICL noL σ0 σ → CS9 σ C → (L.drop k).foldl (fun C e => addC C e.2.2) C = CE → is2 l2 = false → At (d + 1) kX9_cluster 11 [vR 97 9, vI (nI k), l2, l3, l4, l5, l6, l7] [] σ Q
  | 0, k, σ, C, l2, l3, hk, hCk, hf, hC, he, h2 => by
    have h7 := MI_7 h
    have m1 : MI σ N := MI_fm h hf (fun _ => rfl)
    have : k = nM N := by omega
    subst this
    rw [← hL, List.drop_length] at he
    have he' : C = CE := he
    subst he'
    simp (disch := first | exact is2I | exact is2R | omega) only [z_X9_cluster_11, z_X9_cluster_12, z_X9_cluster_13, z_X9_cluster_16, i_many m1, kLe, Nat.le_refl, true_and, Option.toList_some, Option.toList_none, List.cons_append, List.nil_append, is2IT, is2RT, if_true, if_false]
    exact hQ σ _ _ _ hf hC
  | r + 1, k, σ, C, l2, l3, hk, hCk, hf, hC, he, h2 => by
    have h7 := MI_7 h
    have m1 : MI σ N := MI_fm h hf (fun _ => rfl)
    have c : ¬ nM N ≤ k := by omega
    have hkl : k < L.length := by omega
    have hg := (hB _ (List.getElem_mem hkl)).2.2
    have hG : rI σ 112 k = nI L[k].2.2 := by rw [hf.1 112 k rfl]; exact (hO k hkl).2.2
    have ev : nI k + (1 : Int32) = nI (k + 1) := nI_add k 1
    rw [show L.drop k = L[k] :: L.drop (k + 1) from List.drop_eq_getElem_cons hkl, List.foldl_cons] at he
    have l := @cl_in (d + 1) k Q σ C _ l4 l5 l6 l7 m1.1 hC (by omega) hg hG C.length 0 true (by omega)
    have e1 : vI (b2 (true = true)) = vI 1 := rfl
    rw [e1, List.drop_zero, Bool.true_and] at l
    simp (disch := first | exact is2I | exact is2R | omega) only [z_X9_cluster_11, z_X9_cluster_12, z_X9_cluster_13, z_X9_cluster_16, z_X9_cluster_19, z_X9_cluster_20, z_X9_cluster_21, z_X9_cluster_22, i_many m1, kLe, c, true_and, Option.toList_some, Option.toList_none, List.cons_append, List.nil_append, is2IT, is2RT, if_true, if_false]
    refine l.mpr ?_
    have nx : ∀ σ1 C1 l2 l3, is2 l2 = false → C1.length ≤ k + 1 → Fm ICL noL σ0 σ1 → CS9 σ1 C1 → C1 = addC C L[k].2.2 → At (d + 1) kX9_cluster 107 [vR 97 9, vI (nI k), l2, l3, l4, l5, l6, l7] [] σ1 Q := fun σ1 C1 l2 l3 h2 hl1 q1 q2 q3 => by
      simp (disch := first | exact is2I | exact is2R | omega) only [z_X9_cluster_107, ev, true_and, Option.toList_some, Option.toList_none, List.cons_append, List.nil_append, is2IT, is2RT, if_true, if_false]
      rw [z_X9_cluster_110]
      exact cl_l1 h hO hB hL hQ r (k + 1) σ1 C1 l2 l3 (by omega) hl1 q1 q2 (by rw [q3]; exact he) h2
    simp (disch := first | exact is2I | exact is2R | omega) only [z_X9_cluster_65, z_X9_cluster_66, z_X9_cluster_69, b2_0, true_and, Option.toList_some, Option.toList_none, List.cons_append, List.nil_append, is2IT, is2RT, if_true, if_false]
    cases ca : (C.any fun x => dif L[k].2.2 x == 0) with
    | true =>
      simp only [Bool.not_true, Bool.false_eq_true, not_false_eq_true, if_true]
      exact nx σ C _ _ rfl (by omega) hf hC (by unfold addC; rw [if_pos ca])
    | false =>
      have h7c := hC.2.1
      have hCl : C.length < 7 := by omega
      have e28 : ¬ (97 = 113 ∧ 28 = C.length) := fun q => absurd q.1 (by decide)
      simp (disch := first | exact is2I | exact is2R | omega) only [z_X9_cluster_72, z_X9_cluster_73, z_X9_cluster_76, z_X9_cluster_77, z_X9_cluster_80, z_X9_cluster_81, z_X9_cluster_84, z_X9_cluster_85, z_X9_cluster_86, z_X9_cluster_87, z_X9_cluster_88, z_X9_cluster_91, z_X9_cluster_92, z_X9_cluster_95, z_X9_cluster_96, z_X9_cluster_97, z_X9_cluster_98, z_X9_cluster_99, z_X9_cluster_102, z_X9_cluster_103, z_X9_cluster_104, mf_r1 m1.1, mf_r2 m1.1, mf_r3 m1.1, mf_r5 m1.1, mf_r10 m1.1, mf_r11 m1.1, mf_r13 m1.1, mf_r15 m1.1, mf_r16 m1.1, mf_r19 m1.1, mf_r21 m1.1, mf_r22 m1.1, mf_r23 m1.1, mf_r24 m1.1, mf_r25 m1.1, mf_r26 m1.1, mf_r27 m1.1, mf_r29 m1.1, mf_r30 m1.1, mf_r31 m1.1, mf_r32 m1.1, mf_s98 m1.1, mf_s99 m1.1, mf_s100 m1.1, mf_s101 m1.1, mf_s102 m1.1, mf_s103 m1.1, mf_s104 m1.1, mf_s105 m1.1, mf_s106 m1.1, mf_s107 m1.1, mf_s108 m1.1, mf_s109 m1.1, mf_s110 m1.1, mf_s111 m1.1, mf_s112 m1.1, mf_s113 m1.1, mf_s114 m1.1, mf_s115 m1.1, mf_s116 m1.1, mf_s117 m1.1, mf_s118 m1.1, hC.1, hG, kIn, kCl, rR_wI, sh_wI, rI_wI, show ¬ (97 = 113) by decide, show ¬ (97 = 114) by decide, false_and, kAL, Bool.not_false, not_true_eq_false, true_and, Option.toList_some, Option.toList_none, List.cons_append, List.nil_append, is2IT, is2RT, if_true, if_false]
      refine nx _ (C ++ [L[k].2.2]) _ _ rfl (by rw [List.length_append]; show C.length + 1 ≤ k + 1; omega) (Fm_tr (Fm_tr (Fm_tr hf (Fm_wI rfl)) (Fm_wI rfl)) (Fm_wI rfl)) ⟨?_, ?_, fun j hj => ?_⟩ (by unfold addC; rw [if_neg (by rw [ca]; exact fun q => by cases q)])
      · rw [rI_wI, if_pos ⟨rfl, rfl⟩, List.length_append]; rfl
      · rw [List.length_append]; show C.length + 1 ≤ 7; omega
      · rw [List.length_append] at hj
        rw [rI_wI_n (by decide), rI_wI_n (by decide), rI_wI_n (show (114 : Nat) ≠ 97 by decide), rI_wI, rI_wI]
        by_cases cj : j = C.length
        · subst cj
          have g : (C ++ [L[k].2.2])[C.length] = L[k].2.2 := by simp
          rw [if_pos ⟨rfl, rfl⟩, if_pos ⟨rfl, rfl⟩, g]
          exact ⟨rfl, hg, rfl⟩
        · have hj2 : j < C.length := by
            have : [L[k].2.2].length = 1 := rfl
            omega
          rw [if_neg (fun q => cj q.2), if_neg (fun q => cj q.2), List.getElem_append_left hj2, rI_wI_n (by decide)]
          exact hC.2.2 j hj2
