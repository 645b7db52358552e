/-! ===== feed of the reference ===== -/
theorem i64_255 (a : Int32) : a.toInt64 ≤ (255 : Int64) ↔ a < nI 256 := (i64_le a 255).trans (le_pred (n := a) (m := 256) (by decide))
def feedS (l : List Nat) (x : Int32) : Int32 × List Nat := match pN 256 x with
  | none => (-2, l)
  | some b => if l.length = 60 then (-4, l) else (nI (l.length + 1), l ++ [b])
theorem MS_tp {σ σ' : St} {S : MSt} {l : List Nat} (h : MS σ S) (hI : ∀ a i, a ≠ 101 → ¬ (a = 97 ∧ i = 6) → rI σ' a i = rI σ a i) (hL : ∀ a, rL σ' a = rL σ a) (hR : ∀ a b, rR σ' a b = rR σ a b) (hs : sS σ' = sS σ) (h1 : tpOf σ' l) : MS σ' (S.1, S.2.1, l, S.2.2.2) := by
  have hF : ∀ a, a ≠ 101 → a ≠ 97 → rI σ' a = rI σ a := fun a h1 h2 => funext (fun i => hI a i h1 (fun q => h2 q.1))
  obtain ⟨⟨a1, a2, a3⟩, b, c, d, e, f, g⟩ := h
  refine ⟨⟨⟨fun p hp => by rw [hR]; exact a1.1 p hp, fun p hp => by unfold sh; rw [hs]; exact a1.2 p hp⟩, ?_, a3⟩, ?_, fun K hK => ?_, h1, fun i hi => ?_, ?_, ?_⟩
  · unfold MN
    rw [hF 98 (by decide) (by decide)]; exact a2
  · rw [hI 97 4 (by decide) (by decide)]; exact b
  · obtain ⟨q1, q2⟩ := c K hK
    refine ⟨?_, q2⟩
    unfold MN
    rw [hF 99 (by decide) (by decide)]; exact q1
  · rw [hI 106 i (by decide) (fun q => absurd q.1 (by decide))]; exact e i hi
  · rw [hI 97 20 (by decide) (by decide)]; exact f
  · unfold shOf
    rw [hF 115 (by decide) (by decide), hF 116 (by decide) (by decide), hF 117 (by decide) (by decide), hL 118]; exact g
theorem tp_add {σ : St} {l : List Nat} (h : tpOf σ l) (hl : l.length ≠ 60) {b : Nat} (hb : b < 256) : tpOf (wI (wI σ 101 l.length (nI b)) 97 6 (nI (l.length + 1))) (l ++ [b]) := by
  obtain ⟨a1, a2, a3⟩ := h
  refine ⟨?_, ?_, fun i hi => ?_⟩
  · rw [rI_wI, if_pos ⟨rfl, rfl⟩, List.length_append]; rfl
  · rw [List.length_append]; show l.length + 1 ≤ 60; omega
  · rw [List.length_append] at hi
    have hi' : i < l.length + 1 := hi
    rw [rI_wI, if_neg (fun q => absurd q.1 (by decide)), rI_wI]
    by_cases e : i = l.length
    · subst e
      rw [if_pos ⟨rfl, rfl⟩]
      simp only [List.getElem_append_right (Nat.le_refl l.length), Nat.sub_self, List.getElem_cons_zero]
      exact ⟨trivial, hb⟩
    · rw [if_neg (fun q => e q.2), List.getElem_append_left (show i < l.length by omega)]
      exact a3 i (by omega)
theorem m_feed {d : Nat} {Q : Option PV → St → Prop} {σ : St} {S : MSt} {x : Int32} (h : MS σ S) (hQ : ∀ σ', MS σ' (S.1, S.2.1, (feedS S.2.2.1 x).2, S.2.2.2) → Fr9 σ σ' → Q (some (vI (feedS S.2.2.1 x).1)) σ') : Ca (d + 2) 141 [vR 97 9, vI x] σ Q := by
  have hM := h.1
  have ht := h.2.2.2.1
  rw [ca_at (K := kX9_feed) (ls := [vR 97 9, vI x]) rfl rfl rfl]
  cases hp : pN 256 x with
  | none =>
    have hP := pN_none.mp hp
    have e : feedS S.2.2.1 x = (-2, S.2.2.1) := by unfold feedS; rw [hp]
    rw [e] at hQ
    simp only [z_X9_feed_0, z_X9_feed_1, z_X9_feed_2, z_X9_feed_3, z_X9_feed_6, z_X9_feed_9, z_X9_feed_12, z_X9_feed_14, z_X9_feed_15, z_X9_feed_16, z_X9_feed_19, z_X9_feed_21, z_X9_feed_24, z_X9_feed_26, z_X9_feed_27, z_X9_feed_28, z_X9_feed_31, z_X9_feed_32, z_X9_feed_35, z_X9_feed_36, z_X9_feed_37, z_X9_feed_38, z_X9_feed_39, z_X9_feed_42, z_X9_feed_43, z_X9_feed_44, z_X9_feed_47, z_X9_feed_48, z_X9_feed_51, m_in, i64_0, i64_255, b2_0, hP, not_false_eq_true, true_and, Option.toList_some, Option.toList_none, List.cons_append, List.nil_append, is2IT, is2RT, if_true, if_false]
    exact hQ σ h Fr9_rf
  | some b =>
    obtain ⟨hb, rfl⟩ := (pN_some (by decide)).mp hp
    have hP : 0 ≤ nI b ∧ nI b < nI 256 := (lt_nI (by decide)).mpr ⟨b, hb, rfl⟩
    have l6 : rI σ 97 6 = nI S.2.2.1.length := ht.1
    have l60 := ht.2.1
    have c6 : (nI S.2.2.1.length = (60 : Int32)) = (S.2.2.1.length = 60) := propext (nI_eq (b := 60) (by omega) (by decide))
    by_cases hl : S.2.2.1.length = 60
    · have e : feedS S.2.2.1 (nI b) = (-4, S.2.2.1) := by unfold feedS; rw [hp]; exact if_pos hl
      rw [e] at hQ
      simp only [z_X9_feed_0, z_X9_feed_1, z_X9_feed_2, z_X9_feed_3, z_X9_feed_6, z_X9_feed_9, z_X9_feed_12, z_X9_feed_14, z_X9_feed_15, z_X9_feed_16, z_X9_feed_19, z_X9_feed_21, z_X9_feed_24, z_X9_feed_26, z_X9_feed_27, z_X9_feed_28, z_X9_feed_31, z_X9_feed_32, z_X9_feed_35, z_X9_feed_36, z_X9_feed_37, z_X9_feed_38, z_X9_feed_39, z_X9_feed_42, z_X9_feed_43, z_X9_feed_44, z_X9_feed_47, z_X9_feed_48, z_X9_feed_51, m_in, i64_0, i64_255, b2_0, hP, and_self, not_true_eq_false, l6, c6, hl, true_and, Option.toList_some, Option.toList_none, List.cons_append, List.nil_append, is2IT, is2RT, if_true, if_false]
      exact hQ σ h Fr9_rf
    · have e : feedS S.2.2.1 (nI b) = (nI (S.2.2.1.length + 1), S.2.2.1 ++ [b]) := by unfold feedS; rw [hp]; exact if_neg hl
      rw [e] at hQ
      have i0 : inB (nI S.2.2.1.length) 60 = true := inB_nI (by omega) (by decide)
      have t0 : (nI S.2.2.1.length).toNatClampNeg = S.2.2.1.length := nI_clamp (by omega)
      have e1 : nI S.2.2.1.length + (1 : Int32) = nI (S.2.2.1.length + 1) := nI_add _ 1
      have r1 : ∀ y, rI (wI σ 101 S.2.2.1.length y) 97 6 = nI S.2.2.1.length := fun y => by rw [rI_wI_n (by decide)]; exact l6
      have r2 : ∀ τ y, rI (wI τ 97 6 y) 97 6 = y := fun τ y => by rw [rI_wI, if_pos ⟨rfl, rfl⟩]
      simp only [z_X9_feed_0, z_X9_feed_1, z_X9_feed_2, z_X9_feed_3, z_X9_feed_6, z_X9_feed_9, z_X9_feed_12, z_X9_feed_14, z_X9_feed_15, z_X9_feed_16, z_X9_feed_19, z_X9_feed_21, z_X9_feed_24, z_X9_feed_26, z_X9_feed_27, z_X9_feed_28, z_X9_feed_31, z_X9_feed_32, z_X9_feed_35, z_X9_feed_36, z_X9_feed_37, z_X9_feed_38, z_X9_feed_39, z_X9_feed_42, z_X9_feed_43, z_X9_feed_44, z_X9_feed_47, z_X9_feed_48, z_X9_feed_51, m_in, i64_0, i64_255, b2_0, hP, and_self, not_true_eq_false, l6, c6, hl, true_and, Option.toList_some, Option.toList_none, List.cons_append, List.nil_append, is2IT, is2RT, if_true, if_false, mf_r1 hM.1, mf_r2 hM.1, mf_r3 hM.1, mf_r5 hM.1, mf_r10 hM.1, mf_r11 hM.1, mf_r13 hM.1, mf_r15 hM.1, mf_r16 hM.1, mf_r19 hM.1, mf_r21 hM.1, mf_r22 hM.1, mf_r23 hM.1, mf_r24 hM.1, mf_r25 hM.1, mf_r26 hM.1, mf_r27 hM.1, mf_r29 hM.1, mf_r30 hM.1, mf_r31 hM.1, mf_r32 hM.1, mf_s98 hM.1, mf_s99 hM.1, mf_s100 hM.1, mf_s101 hM.1, mf_s102 hM.1, mf_s103 hM.1, mf_s104 hM.1, mf_s105 hM.1, mf_s106 hM.1, mf_s107 hM.1, mf_s108 hM.1, mf_s109 hM.1, mf_s110 hM.1, mf_s111 hM.1, mf_s112 hM.1, mf_s113 hM.1, mf_s114 hM.1, mf_s115 hM.1, mf_s116 hM.1, mf_s117 hM.1, mf_s118 hM.1, rR_wI, sh_wI, i0, t0, r1, e1, r2]
      exact hQ _ (MS_tp h (fun a i h1 h2 => by rw [rI_wI, if_neg h2, rI_wI, if_neg (fun q => h1 q.1)]) (fun _ => rfl) (fun _ _ => rfl) rfl (tp_add ht hl hb)) (Fr9_tr (Fr9_wI (by decide)) (Fr9_wI (by decide)))
