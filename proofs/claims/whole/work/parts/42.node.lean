/-! ===== node of the reference, a node made ===== -/
def nodeS (N : Net) (s t p q : Int32) : Int32 × Net := if (2 ≤ s ∧ s < nI 4) ∧ (0 ≤ t ∧ t < nI 4) ∧ (p = -1 ∨ (0 ≤ p ∧ p < nI (nM N))) ∧ (q = -1 ∨ (0 ≤ q ∧ q < nI (nM N))) ∧ (q = -1 ∨ (¬ p = -1 ∧ ¬ p = q)) ∧ (t ≤ 0 ∨ ¬ p = -1) then
    (if nM N = 7 then (-4, N) else (nI (nM N), setN N s.toNatClampNeg t.toNatClampNeg (toO p) (toO q))) else (-2, N)
theorem MF_of {σ σ' : St} (h : MF σ) (hR : ∀ a b, rR σ' a b = rR σ a b) (hs : sS σ' = sS σ) : MF σ' := ⟨fun p hp => by rw [hR]; exact h.1 p hp, fun p hp => by unfold sh; rw [hs]; exact h.2 p hp⟩
def n0 (σ : St) (m : Nat) (s t p q : Int32) : St := wI (wI (wI (wI (wI (wI σ 98 (36 * m + 0) s) 98 (36 * m + 1) t) 98 (36 * m + 2) p) 98 (36 * m + 3) q) 98 (36 * m + 4) (-1)) 98 (36 * m + 5) (-1)
def n1 (σ : St) (m : Nat) (s t p q : Int32) : St := fI (n0 σ m s t p q) 98 (36 * m + 6) 3 (fun _ => 1)
def n2 (σ : St) (m u : Nat) (s t p q : Int32) : St := fI (n1 σ m s t p q) 98 (36 * m + 9) 27 (fun j => nI (tb0 u (j % 3)))
theorem n_good {d : Nat} {Q : Option PV → St → Prop} {σ : St} {N : Net} {s t p q : Int32} {u : Nat} (h : MI σ N) (hu : u = 2 ∨ u = 3) (es : s = nI u) (ho : okN (nM N) s t p q) (hm : nM N < 7) (hq : Q (some (vI (nI (nM N)))) (wI (n2 σ (nM N) u s t p q) 98 252 (nI (nM N + 1)))) : Ca (d + 4) 132 [vR 97 9, vI s, vI t, vI p, vI q] σ Q := by
  obtain ⟨hs, ht, hp, hq1, a, b⟩ := ho
  have hF := h.1
  have p1 := b2_t (show p = -1 ∨ (0 ≤ p ∧ p < nI (nM N)) from hp)
  have q1 := b2_t (show q = -1 ∨ (0 ≤ q ∧ q < nI (nM N)) from hq1)
  have n10 : ((1 : Int32) = 0) = False := eq_false (by decide)
  have c7 : (nI (nM N) = (7 : Int32)) = False := eq_false (fun w => by have := (nI_eq (b := 7) (show nM N < 2 ^ 31 by omega) (by decide)).mp w; omega)
  have k0 : (36 : Int32) * nI (nM N) = nI (36 * nM N) := pk_mul 36 (nM N)
  have j0 : nI (36 * nM N) + (0 : Int32) = nI (36 * nM N + 0) := nI_add _ 0
  have j1 : nI (36 * nM N) + (1 : Int32) = nI (36 * nM N + 1) := nI_add _ 1
  have j2 : nI (36 * nM N) + (2 : Int32) = nI (36 * nM N + 2) := nI_add _ 2
  have j3 : nI (36 * nM N) + (3 : Int32) = nI (36 * nM N + 3) := nI_add _ 3
  have j4 : nI (36 * nM N) + (4 : Int32) = nI (36 * nM N + 4) := nI_add _ 4
  have j5 : nI (36 * nM N) + (5 : Int32) = nI (36 * nM N + 5) := nI_add _ 5
  have ib : ∀ x, x < 36 → inB (nI (36 * nM N + x)) 253 = true := fun x hx => inB_nI (by omega) (by decide)
  have tb : ∀ x, x < 36 → (nI (36 * nM N + x)).toNatClampNeg = 36 * nM N + x := fun x hx => nI_clamp (by omega)
  rw [ca_at (K := kX9_node) (ls := [vR 97 9, vI s, vI t, vI p, vI q, vU, vU, vU]) rfl rfl rfl]
  simp only [z_X9_node_0, z_X9_node_1, z_X9_node_2, z_X9_node_5, z_X9_node_8, z_X9_node_11, z_X9_node_14, z_X9_node_15, z_X9_node_16, z_X9_node_17, z_X9_node_20, z_X9_node_23, z_X9_node_26, z_X9_node_27, z_X9_node_28, z_X9_node_31, z_X9_node_34, z_X9_node_35, z_X9_node_37, z_X9_node_40, m_in, i64_2, i64_3, i64_0, b2_0, hs, ht, and_self, not_true_eq_false, i_isParent h, p1, q1, n10, true_and, Option.toList_some, Option.toList_none, List.cons_append, List.nil_append, is2IT, is2RT, if_true, if_false]
  have rest : At (d + 3) kX9_node 72 [vR 97 9, vI s, vI t, vI p, vI q, vU, vU, vU] [] σ Q := by
    simp only [z_X9_node_72, z_X9_node_73, z_X9_node_76, z_X9_node_78, z_X9_node_81, z_X9_node_83, z_X9_node_84, z_X9_node_85, z_X9_node_88, z_X9_node_90, z_X9_node_92, z_X9_node_94, z_X9_node_95, z_X9_node_97, z_X9_node_98, z_X9_node_101, z_X9_node_103, z_X9_node_104, z_X9_node_105, z_X9_node_106, z_X9_node_107, z_X9_node_108, z_X9_node_111, z_X9_node_113, z_X9_node_114, z_X9_node_115, z_X9_node_116, z_X9_node_117, z_X9_node_118, z_X9_node_121, z_X9_node_123, z_X9_node_124, z_X9_node_125, z_X9_node_126, z_X9_node_127, z_X9_node_128, z_X9_node_131, z_X9_node_133, z_X9_node_134, z_X9_node_135, z_X9_node_137, z_X9_node_138, z_X9_node_139, z_X9_node_142, z_X9_node_144, z_X9_node_145, z_X9_node_146, z_X9_node_147, z_X9_node_148, z_X9_node_149, z_X9_node_152, z_X9_node_154, z_X9_node_155, z_X9_node_156, z_X9_node_157, z_X9_node_158, i_many h, c7, k0, j0, j1, j2, j3, j4, j5, ib 0 (by decide), ib 1 (by decide), ib 2 (by decide), ib 3 (by decide), ib 4 (by decide), ib 5 (by decide), tb 0 (by decide), tb 1 (by decide), tb 2 (by decide), tb 3 (by decide), tb 4 (by decide), tb 5 (by decide), mf_r1 hF, mf_r2 hF, mf_r3 hF, mf_r5 hF, mf_r10 hF, mf_r11 hF, mf_r13 hF, mf_r15 hF, mf_r16 hF, mf_r19 hF, mf_r21 hF, mf_r22 hF, mf_r23 hF, mf_r24 hF, mf_r25 hF, mf_r26 hF, mf_r27 hF, mf_r29 hF, mf_r30 hF, mf_r31 hF, mf_r32 hF, mf_s98 hF, mf_s99 hF, mf_s100 hF, mf_s101 hF, mf_s102 hF, mf_s103 hF, mf_s104 hF, mf_s105 hF, mf_s106 hF, mf_s107 hF, mf_s108 hF, mf_s109 hF, mf_s110 hF, mf_s111 hF, mf_s112 hF, mf_s113 hF, mf_s114 hF, mf_s115 hF, mf_s116 hF, mf_s117 hF, mf_s118 hF, rR_wI, sh_wI, true_and, Option.toList_some, Option.toList_none, List.cons_append, List.nil_append, is2IT, is2RT, if_true, if_false]
    rw [z_X9_node_159 rfl]
    have l1 := @node_l1 (d + 3) Q (n0 σ (nM N) s t p q) (vI s) (vI t) (vI p) (vI q) (vI (nI (nM N))) (36 * nM N) (MF_of hF (fun _ _ => rfl) rfl) (by omega) 3 0 rfl
    rw [fI_0] at l1
    refine l1.mpr ?_
    rw [z_X9_node_187, z_X9_node_188 rfl, es]
    have l2 := @node_l2 (d + 3) Q (n1 σ (nM N) s t p q) (vI t) (vI p) (vI q) (vI (nI (nM N))) (36 * nM N) u (MF_of hF (fun _ _ => rfl) rfl) (by omega) hu 27 0 rfl
    rw [fI_0] at l2
    rw [es] at l2 hq
    refine l2.mpr ?_
    have hF2 : MF (n2 σ (nM N) u (nI u) t p q) := MF_of hF (fun _ _ => rfl) rfl
    have r252 : rI (n2 σ (nM N) u (nI u) t p q) 98 252 = nI (nM N) := by
      show rI (fI (fI (n0 σ (nM N) (nI u) t p q) 98 (36 * nM N + 6) 3 (fun _ => 1)) 98 (36 * nM N + 9) 27 (fun j => nI (tb0 u (j % 3)))) 98 252 = _
      rw [rI_fI, if_neg (by omega), rI_fI, if_neg (by omega)]
      unfold n0
      rw [rI_wI, if_neg (by omega), rI_wI, if_neg (by omega), rI_wI, if_neg (by omega), rI_wI, if_neg (by omega), rI_wI, if_neg (by omega), rI_wI, if_neg (by omega)]
      exact MI_m h
    have e1 : nI (nM N) + (1 : Int32) = nI (nM N + 1) := nI_add _ 1
    have i252 : inB (252 : Int32) 253 = true := by decide
    have t252 : (252 : Int32).toNatClampNeg = 252 := by decide
    show At (d + 3) kX9_node 239 _ [] (n2 σ (nM N) u (nI u) t p q) Q
    simp only [z_X9_node_239, z_X9_node_240, z_X9_node_243, z_X9_node_246, z_X9_node_247, z_X9_node_248, z_X9_node_249, z_X9_node_250, z_X9_node_251, z_X9_node_253, mf_r1 hF2, mf_r2 hF2, mf_r3 hF2, mf_r5 hF2, mf_r10 hF2, mf_r11 hF2, mf_r13 hF2, mf_r15 hF2, mf_r16 hF2, mf_r19 hF2, mf_r21 hF2, mf_r22 hF2, mf_r23 hF2, mf_r24 hF2, mf_r25 hF2, mf_r26 hF2, mf_r27 hF2, mf_r29 hF2, mf_r30 hF2, mf_r31 hF2, mf_r32 hF2, mf_s98 hF2, mf_s99 hF2, mf_s100 hF2, mf_s101 hF2, mf_s102 hF2, mf_s103 hF2, mf_s104 hF2, mf_s105 hF2, mf_s106 hF2, mf_s107 hF2, mf_s108 hF2, mf_s109 hF2, mf_s110 hF2, mf_s111 hF2, mf_s112 hF2, mf_s113 hF2, mf_s114 hF2, mf_s115 hF2, mf_s116 hF2, mf_s117 hF2, mf_s118 hF2, r252, e1, i252, t252, true_and, Option.toList_some, Option.toList_none, List.cons_append, List.nil_append, is2IT, is2RT, if_true, if_false]
    exact hq
  simp only [z_X9_node_43, z_X9_node_45, z_X9_node_46, z_X9_node_49, z_X9_node_50, z_X9_node_51, z_X9_node_54, z_X9_node_55, z_X9_node_57, z_X9_node_60, z_X9_node_61, z_X9_node_64, z_X9_node_65, z_X9_node_66, true_and, Option.toList_some, Option.toList_none, List.cons_append, List.nil_append, is2IT, is2RT, if_true, if_false]
  by_cases a1 : q = -1
  · rw [if_pos a1]
    rcases b with b | b
    · rw [if_pos b]; exact rest
    · by_cases a2 : t ≤ 0
      · rw [if_pos a2]; exact rest
      · rw [if_neg a2, if_neg b]; exact rest
  · rw [if_neg a1]
    obtain ⟨a3, a4⟩ := a.resolve_left a1
    rw [if_neg a3, if_neg a4]
    by_cases a2 : t ≤ 0
    · rw [if_pos a2]; exact rest
    · rw [if_neg a2, if_neg a3]; exact rest
theorem n_full {d : Nat} {Q : Option PV → St → Prop} {σ : St} {N : Net} {s t p q : Int32} (h : MI σ N) (ho : okN (nM N) s t p q) (hm : nM N = 7) (hq : Q (some (vI (-4))) σ) : Ca (d + 4) 132 [vR 97 9, vI s, vI t, vI p, vI q] σ Q := by
  obtain ⟨hs, ht, hp, hq1, a, b⟩ := ho
  have p1 := b2_t (show p = -1 ∨ (0 ≤ p ∧ p < nI (nM N)) from hp)
  have q1 := b2_t (show q = -1 ∨ (0 ≤ q ∧ q < nI (nM N)) from hq1)
  have n10 : ((1 : Int32) = 0) = False := eq_false (by decide)
  have c7 : (nI (nM N) = (7 : Int32)) = True := eq_true (by rw [hm]; rfl)
  rw [ca_at (K := kX9_node) (ls := [vR 97 9, vI s, vI t, vI p, vI q, vU, vU, vU]) rfl rfl rfl]
  simp only [z_X9_node_0, z_X9_node_1, z_X9_node_2, z_X9_node_5, z_X9_node_8, z_X9_node_11, z_X9_node_14, z_X9_node_15, z_X9_node_16, z_X9_node_17, z_X9_node_20, z_X9_node_23, z_X9_node_26, z_X9_node_27, z_X9_node_28, z_X9_node_31, z_X9_node_34, z_X9_node_35, z_X9_node_37, z_X9_node_40, m_in, i64_2, i64_3, i64_0, b2_0, hs, ht, and_self, not_true_eq_false, i_isParent h, p1, q1, n10, true_and, Option.toList_some, Option.toList_none, List.cons_append, List.nil_append, is2IT, is2RT, if_true, if_false]
  have rest : At (d + 3) kX9_node 72 [vR 97 9, vI s, vI t, vI p, vI q, vU, vU, vU] [] σ Q := by
    simp only [z_X9_node_72, z_X9_node_73, z_X9_node_76, z_X9_node_78, z_X9_node_81, z_X9_node_83, i_many h, c7, true_and, Option.toList_some, Option.toList_none, List.cons_append, List.nil_append, is2IT, is2RT, if_true, if_false]
    exact hq
  simp only [z_X9_node_43, z_X9_node_45, z_X9_node_46, z_X9_node_49, z_X9_node_50, z_X9_node_51, z_X9_node_54, z_X9_node_55, z_X9_node_57, z_X9_node_60, z_X9_node_61, z_X9_node_64, z_X9_node_65, z_X9_node_66, true_and, Option.toList_some, Option.toList_none, List.cons_append, List.nil_append, is2IT, is2RT, if_true, if_false]
  by_cases a1 : q = -1
  · rw [if_pos a1]
    rcases b with b | b
    · rw [if_pos b]; exact rest
    · by_cases a2 : t ≤ 0
      · rw [if_pos a2]; exact rest
      · rw [if_neg a2, if_neg b]; exact rest
  · rw [if_neg a1]
    obtain ⟨a3, a4⟩ := a.resolve_left a1
    rw [if_neg a3, if_neg a4]
    by_cases a2 : t ≤ 0
    · rw [if_pos a2]; exact rest
    · rw [if_neg a2, if_neg a3]; exact rest
theorem m_node {d : Nat} {Q : Option PV → St → Prop} {σ : St} {S : MSt} {s t p q : Int32} (h : MS σ S) (hQ : ∀ σ', MS σ' ((nodeS S.1 s t p q).2, S.2) → Fw9 σ σ' → Q (some (vI (nodeS S.1 s t p q).1)) σ') : Ca (d + 4) 132 [vR 97 9, vI s, vI t, vI p, vI q] σ Q := by
  have hM := h.1
  have h7 := MI_7 hM
  by_cases ho : okN (nM S.1) s t p q
  · by_cases hm : nM S.1 = 7
    · have e : nodeS S.1 s t p q = (-4, S.1) := (if_pos ho).trans (if_pos hm)
      rw [e] at hQ
      exact n_full hM ho hm (hQ σ h Fw9_rf)
    · have e : nodeS S.1 s t p q = (nI (nM S.1), setN S.1 s.toNatClampNeg t.toNatClampNeg (toO p) (toO q)) := (if_pos ho).trans (if_neg hm)
      rw [e] at hQ
      have ho' := ho
      obtain ⟨hs, ht, hp, hq1, a, b⟩ := ho'
      have hm' : nM S.1 < 7 := by omega
      have ps := toO_oI (by omega) hp
      have qs := toO_oI (by omega) hq1
      obtain ⟨u, hu4, eu⟩ := (lt_nI (n := s) (m := 4) (by decide)).mp ⟨by
        have := hs.1
        rw [Int32.le_iff_toInt_le] at this ⊢
        have h2 : (2 : Int32).toInt = 2 := by decide
        have h0 : (0 : Int32).toInt = 0 := by decide
        omega, hs.2⟩
      have hu : u = 2 ∨ u = 3 := by
        have h2 := hs.1
        rw [eu] at h2
        have : ¬ (nI u < nI 2) := Int32.not_lt.mpr h2
        rw [nI_ltI (by omega) (by decide)] at this
        omega
      obtain ⟨w, hw4, ew⟩ := (lt_nI (by decide)).mp ht
      have cu : s.toNatClampNeg = u := by rw [eu]; exact nI_clamp (by omega)
      have cw : t.toNatClampNeg = w := by rw [ew]; exact nI_clamp (by omega)
      rw [cu, cw] at hQ
      refine n_good hM hu eu ho hm' (hQ _ (MS_web h ?_ (fun _ => rfl) (fun _ _ => rfl) rfl ?_ ?_) ?_)
      · intro x hx
        funext i
        show rI (wI (fI (fI (n0 σ (nM S.1) s t p q) 98 (36 * nM S.1 + 6) 3 (fun _ => 1)) 98 (36 * nM S.1 + 9) 27 (fun j => nI (tb0 u (j % 3)))) 98 252 (nI (nM S.1 + 1))) x i = _
        rw [rI_wI, if_neg (fun q => hx q.1), rI_fI, if_neg (fun q => hx q.1), rI_fI, if_neg (fun q => hx q.1)]
        unfold n0
        rw [rI_wI, if_neg (fun q => hx q.1), rI_wI, if_neg (fun q => hx q.1), rI_wI, if_neg (fun q => hx q.1), rI_wI, if_neg (fun q => hx q.1), rI_wI, if_neg (fun q => hx q.1), rI_wI, if_neg (fun q => hx q.1)]
      · have low : ∀ i, i < 36 * nM S.1 + 6 → rI (wI (n2 σ (nM S.1) u s t p q) 98 252 (nI (nM S.1 + 1))) 98 i = rI (n0 σ (nM S.1) s t p q) 98 i := fun i hi => by
          show rI (wI (fI (fI (n0 σ (nM S.1) s t p q) 98 (36 * nM S.1 + 6) 3 (fun _ => 1)) 98 (36 * nM S.1 + 9) 27 (fun j => nI (tb0 u (j % 3)))) 98 252 (nI (nM S.1 + 1))) 98 i = _
          rw [rI_wI, if_neg (by omega), rI_fI, if_neg (by omega), rI_fI, if_neg (by omega)]
        refine setN_MN hM.2.1 hm' (fun i hi => ?_) ?_ ?_ ?_ ?_ ?_ ?_ (fun v hv => ?_) (fun j hj => ?_) ?_
        · rw [low i (by omega)]
          unfold n0
          rw [rI_wI, if_neg (by omega), rI_wI, if_neg (by omega), rI_wI, if_neg (by omega), rI_wI, if_neg (by omega), rI_wI, if_neg (by omega), rI_wI, if_neg (by omega)]
        · rw [low _ (by omega)]
          unfold n0
          rw [rI_wI, if_neg (by omega), rI_wI, if_neg (by omega), rI_wI, if_neg (by omega), rI_wI, if_neg (by omega), rI_wI, if_neg (by omega), rI_wI, if_pos ⟨rfl, rfl⟩]
          exact eu
        · rw [low _ (by omega)]
          unfold n0
          rw [rI_wI, if_neg (by omega), rI_wI, if_neg (by omega), rI_wI, if_neg (by omega), rI_wI, if_neg (by omega), rI_wI, if_pos ⟨rfl, rfl⟩]
          exact ew
        · rw [low _ (by omega)]
          unfold n0
          rw [rI_wI, if_neg (by omega), rI_wI, if_neg (by omega), rI_wI, if_neg (by omega), rI_wI, if_pos ⟨rfl, rfl⟩]
          exact ps.1.symm
        · rw [low _ (by omega)]
          unfold n0
          rw [rI_wI, if_neg (by omega), rI_wI, if_neg (by omega), rI_wI, if_pos ⟨rfl, rfl⟩]
          exact qs.1.symm
        · rw [low _ (by omega)]
          unfold n0
          rw [rI_wI, if_neg (by omega), rI_wI, if_pos ⟨rfl, rfl⟩]
        · rw [low _ (by omega)]
          unfold n0
          rw [rI_wI, if_pos ⟨rfl, rfl⟩]
        · show rI (wI (fI (fI (n0 σ (nM S.1) s t p q) 98 (36 * nM S.1 + 6) 3 (fun _ => 1)) 98 (36 * nM S.1 + 9) 27 (fun j => nI (tb0 u (j % 3)))) 98 252 (nI (nM S.1 + 1))) 98 _ = _
          rw [rI_wI, if_neg (by omega), rI_fI, if_neg (by omega), rI_fI, if_pos ⟨rfl, by omega, by omega⟩]
        · show rI (wI (fI (fI (n0 σ (nM S.1) s t p q) 98 (36 * nM S.1 + 6) 3 (fun _ => 1)) 98 (36 * nM S.1 + 9) 27 (fun j => nI (tb0 u (j % 3)))) 98 252 (nI (nM S.1 + 1))) 98 _ = _
          rw [rI_wI, if_neg (by omega), rI_fI, if_pos ⟨rfl, by omega, by omega⟩, show 36 * nM S.1 + (9 + j) - (36 * nM S.1 + 9) = j by omega]
        · rw [rI_wI, if_pos ⟨rfl, rfl⟩]
      · refine setN_NV hM.2.2 hm' hu (by omega) ps.2 (fun j hj => ⟨qs.2 j hj, ?_⟩) (fun w0 => ?_)
        · have q1 : ¬ q = -1 := fun e => by
            unfold toO at hj; rw [if_pos e] at hj; cases hj
          obtain ⟨p1, pq⟩ := a.resolve_left q1
          refine ⟨p.toNatClampNeg, by unfold toO; rw [if_neg p1], fun e => pq ?_⟩
          have jq : oI (toO q) = nI j := by rw [hj]; rfl
          have jp : oI (toO p) = nI p.toNatClampNeg := by unfold toO; rw [if_neg p1]; rfl
          rw [← ps.1, ← qs.1, jq, jp, e]
        · have p1 : ¬ p = -1 := b.resolve_left (fun le => w0 (by
            rw [ew] at le
            have : ¬ (nI 0 < nI w) := Int32.not_lt.mpr le
            rw [nI_ltI (by decide) (by omega)] at this
            omega))
          intro e
          unfold toO at e
          rw [if_neg p1] at e
          cases e
      · refine ⟨fun x hx => ?_, fun _ _ => rfl, fun _ _ => rfl, rfl, rfl⟩
        funext i
        show rI (wI (fI (fI (n0 σ (nM S.1) s t p q) 98 (36 * nM S.1 + 6) 3 (fun _ => 1)) 98 (36 * nM S.1 + 9) 27 (fun j => nI (tb0 u (j % 3)))) 98 252 (nI (nM S.1 + 1))) x i = _
        have hx' : ¬ x = 98 := by omega
        rw [rI_wI, if_neg (fun q => hx' q.1), rI_fI, if_neg (fun q => hx' q.1), rI_fI, if_neg (fun q => hx' q.1)]
        unfold n0
        rw [rI_wI, if_neg (fun q => hx' q.1), rI_wI, if_neg (fun q => hx' q.1), rI_wI, if_neg (fun q => hx' q.1), rI_wI, if_neg (fun q => hx' q.1), rI_wI, if_neg (fun q => hx' q.1), rI_wI, if_neg (fun q => hx' q.1)]
  · have e : nodeS S.1 s t p q = (-2, S.1) := if_neg ho
    rw [e] at hQ
    exact n_bad hM ho (hQ σ h Fw9_rf)
