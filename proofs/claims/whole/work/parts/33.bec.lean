/-! ===== told, done ===== -/
theorem m_bec {d w : Nat} {Q : Option PV → St → Prop} {σ : St} {S : MSt} {n v : Int32} (h : MS σ S) (hw : w = 4 ∨ w = 5) (hQ : ∀ σ', MS σ' ((becS S.1 w n v).2, S.2) → Fw9 σ σ' → Q (some (vI (becS S.1 w n v).1)) σ') : Ca (d + 3) 134 [vR 97 9, vI n, vI (nI w), vI v] σ Q := by
  have hM := h.1
  have h7 := MI_7 hM
  rw [ca_at (K := kX9_becomes) (ls := [vR 97 9, vI n, vI (nI w), vI v, vU]) rfl rfl rfl]
  cases hp : pN (nM S.1) n with
  | none =>
    have hP := pN_none.mp hp
    have e : becS S.1 w n v = (-2, S.1) := by unfold becS; rw [hp]
    rw [e] at hQ
    simp only [z_X9_becomes_0, z_X9_becomes_1, z_X9_becomes_2, z_X9_becomes_5, z_X9_becomes_8, z_X9_becomes_9, z_X9_becomes_10, z_X9_becomes_13, z_X9_becomes_14, z_X9_becomes_15, z_X9_becomes_16, z_X9_becomes_19, z_X9_becomes_22, z_X9_becomes_24, z_X9_becomes_25, z_X9_becomes_26, z_X9_becomes_27, z_X9_becomes_28, z_X9_becomes_31, z_X9_becomes_33, z_X9_becomes_34, z_X9_becomes_37, z_X9_becomes_39, z_X9_becomes_40, z_X9_becomes_41, z_X9_becomes_42, z_X9_becomes_43, z_X9_becomes_44, z_X9_becomes_45, z_X9_becomes_47, i_isNode hM, b2_0, hP, not_false_eq_true, true_and, Option.toList_some, Option.toList_none, List.cons_append, List.nil_append, is2IT, is2RT, if_true, if_false]
    exact hQ σ h Fw9_rf
  | some k =>
    obtain ⟨hk, rfl⟩ := (pN_some (by omega)).mp hp
    have hP : 0 ≤ nI k ∧ nI k < nI (nM S.1) := (lt_nI (by omega)).mpr ⟨k, hk, rfl⟩
    have hs := NV_s hM hk
    have e97 : (36 : Int32) * nI k + nI w = nI (36 * k + w) := by rw [show (36 : Int32) = nI 36 from rfl, pk_mul, nI_add]
    have hin : inB (nI (36 * k + w)) 253 = true := inB_nI (by omega) (by decide)
    have hcl : (nI (36 * k + w)).toNatClampNeg = 36 * k + w := nI_clamp (by omega)
    have fin : ∀ o, (∀ u, o = some u → u < nS S.1 k) → MS (wI σ 98 (36 * k + w) (oI o)) (setFD S.1 k w o, S.2) ∧ Fw9 σ (wI σ 98 (36 * k + w) (oI o)) := fun o ho =>
      ⟨MS_web h (fun a ha => rI_wI_n ha) (fun _ => rfl) (fun _ _ => rfl) rfl (setFD_MN hM.2.1 h7 hk hw) (setFD_NV hM.2.2 ho), Fw9_wI (by decide)⟩
    have hrd : rI σ 98 (36 * k + w) = oI (if w = 4 then nF1 S.1 k else nD S.1 k) := by
      rcases hw with rfl | rfl
      · exact (hM.2.1.2 k hk).2.2.2.2.1
      · exact (hM.2.1.2 k hk).2.2.2.2.2.1
    by_cases hv : v = -1
    · subst hv
      have e : becS S.1 w (nI k) (-1) = (oI (if w = 4 then nF1 S.1 k else nD S.1 k), setFD S.1 k w none) := by unfold becS; rw [hp]; simp only [if_true]
      rw [e] at hQ
      simp only [z_X9_becomes_0, z_X9_becomes_1, z_X9_becomes_2, z_X9_becomes_5, z_X9_becomes_8, z_X9_becomes_9, z_X9_becomes_10, z_X9_becomes_13, z_X9_becomes_14, z_X9_becomes_15, z_X9_becomes_16, z_X9_becomes_19, z_X9_becomes_22, z_X9_becomes_24, z_X9_becomes_25, z_X9_becomes_26, z_X9_becomes_27, z_X9_becomes_28, z_X9_becomes_31, z_X9_becomes_33, z_X9_becomes_34, z_X9_becomes_37, z_X9_becomes_39, z_X9_becomes_40, z_X9_becomes_41, z_X9_becomes_42, z_X9_becomes_43, z_X9_becomes_44, z_X9_becomes_45, z_X9_becomes_47, i_isNode hM, b2_0, hP, and_self, not_true_eq_false, true_and, Option.toList_some, Option.toList_none, List.cons_append, List.nil_append, is2IT, is2RT, if_true, if_false, m_is hM.1 (show 36 * k + w < 253 by omega), hrd, mf_r1 hM.1, mf_r2 hM.1, mf_r3 hM.1, mf_r5 hM.1, mf_r10 hM.1, mf_r11 hM.1, mf_r13 hM.1, mf_r15 hM.1, mf_r16 hM.1, mf_r19 hM.1, mf_r21 hM.1, mf_r22 hM.1, mf_r23 hM.1, mf_r24 hM.1, mf_r25 hM.1, mf_r26 hM.1, mf_r27 hM.1, mf_r29 hM.1, mf_r30 hM.1, mf_r31 hM.1, mf_r32 hM.1, mf_s98 hM.1, mf_s99 hM.1, mf_s100 hM.1, mf_s101 hM.1, mf_s102 hM.1, mf_s103 hM.1, mf_s104 hM.1, mf_s105 hM.1, mf_s106 hM.1, mf_s107 hM.1, mf_s108 hM.1, mf_s109 hM.1, mf_s110 hM.1, mf_s111 hM.1, mf_s112 hM.1, mf_s113 hM.1, mf_s114 hM.1, mf_s115 hM.1, mf_s116 hM.1, mf_s117 hM.1, mf_s118 hM.1, e97, hin, hcl]
      have f := fin none (fun u hu => by cases hu)
      rw [oI_nn] at f
      exact hQ _ f.1 f.2
    · cases hu : pN (nS S.1 k) v with
      | none =>
        have hV := pN_none.mp hu
        have e : becS S.1 w (nI k) v = (-2, S.1) := by unfold becS; rw [hp]; simp only [hv, if_false, hu]
        rw [e] at hQ
        simp only [z_X9_becomes_0, z_X9_becomes_1, z_X9_becomes_2, z_X9_becomes_5, z_X9_becomes_8, z_X9_becomes_9, z_X9_becomes_10, z_X9_becomes_13, z_X9_becomes_14, z_X9_becomes_15, z_X9_becomes_16, z_X9_becomes_19, z_X9_becomes_22, z_X9_becomes_24, z_X9_becomes_25, z_X9_becomes_26, z_X9_becomes_27, z_X9_becomes_28, z_X9_becomes_31, z_X9_becomes_33, z_X9_becomes_34, z_X9_becomes_37, z_X9_becomes_39, z_X9_becomes_40, z_X9_becomes_41, z_X9_becomes_42, z_X9_becomes_43, z_X9_becomes_44, z_X9_becomes_45, z_X9_becomes_47, i_isNode hM, i_isValue hM hk, b2_0, hP, hV, hv, and_self, not_true_eq_false, not_false_eq_true, true_and, Option.toList_some, Option.toList_none, List.cons_append, List.nil_append, is2IT, is2RT, if_true, if_false]
        exact hQ σ h Fw9_rf
      | some u =>
        obtain ⟨hu1, rfl⟩ := (pN_some (by omega)).mp hu
        have hV : 0 ≤ nI u ∧ nI u < nI (nS S.1 k) := (lt_nI (by omega)).mpr ⟨u, hu1, rfl⟩
        have e : becS S.1 w (nI k) (nI u) = (oI (if w = 4 then nF1 S.1 k else nD S.1 k), setFD S.1 k w (some u)) := by unfold becS; rw [hp]; simp only [hv, if_false, hu]
        rw [e] at hQ
        simp only [z_X9_becomes_0, z_X9_becomes_1, z_X9_becomes_2, z_X9_becomes_5, z_X9_becomes_8, z_X9_becomes_9, z_X9_becomes_10, z_X9_becomes_13, z_X9_becomes_14, z_X9_becomes_15, z_X9_becomes_16, z_X9_becomes_19, z_X9_becomes_22, z_X9_becomes_24, z_X9_becomes_25, z_X9_becomes_26, z_X9_becomes_27, z_X9_becomes_28, z_X9_becomes_31, z_X9_becomes_33, z_X9_becomes_34, z_X9_becomes_37, z_X9_becomes_39, z_X9_becomes_40, z_X9_becomes_41, z_X9_becomes_42, z_X9_becomes_43, z_X9_becomes_44, z_X9_becomes_45, z_X9_becomes_47, i_isNode hM, i_isValue hM hk, b2_0, hP, hV, hv, and_self, not_true_eq_false, true_and, Option.toList_some, Option.toList_none, List.cons_append, List.nil_append, is2IT, is2RT, if_true, if_false, m_is hM.1 (show 36 * k + w < 253 by omega), hrd, mf_r1 hM.1, mf_r2 hM.1, mf_r3 hM.1, mf_r5 hM.1, mf_r10 hM.1, mf_r11 hM.1, mf_r13 hM.1, mf_r15 hM.1, mf_r16 hM.1, mf_r19 hM.1, mf_r21 hM.1, mf_r22 hM.1, mf_r23 hM.1, mf_r24 hM.1, mf_r25 hM.1, mf_r26 hM.1, mf_r27 hM.1, mf_r29 hM.1, mf_r30 hM.1, mf_r31 hM.1, mf_r32 hM.1, mf_s98 hM.1, mf_s99 hM.1, mf_s100 hM.1, mf_s101 hM.1, mf_s102 hM.1, mf_s103 hM.1, mf_s104 hM.1, mf_s105 hM.1, mf_s106 hM.1, mf_s107 hM.1, mf_s108 hM.1, mf_s109 hM.1, mf_s110 hM.1, mf_s111 hM.1, mf_s112 hM.1, mf_s113 hM.1, mf_s114 hM.1, mf_s115 hM.1, mf_s116 hM.1, mf_s117 hM.1, mf_s118 hM.1, e97, hin, hcl]
        have f := fin (some u) (fun u2 hu2 => by cases hu2; exact hu1)
        rw [oI_ss] at f
        exact hQ _ f.1 f.2
theorem m_told {d : Nat} {Q : Option PV → St → Prop} {σ : St} {S : MSt} {n v : Int32} (h : MS σ S) (hQ : ∀ σ', MS σ' ((becS S.1 4 n v).2, S.2) → Fw9 σ σ' → Q (some (vI (becS S.1 4 n v).1)) σ') : Ca (d + 4) 135 [vR 97 9, vI n, vI v] σ Q := by
  rw [ca_at (K := kX9_told) (ls := [vR 97 9, vI n, vI v]) rfl rfl rfl]
  simp only [z_X9_told_0, z_X9_told_1, z_X9_told_2, z_X9_told_3, z_X9_told_4, z_X9_told_7, true_and, Option.toList_some, Option.toList_none, List.cons_append, List.nil_append, is2IT, is2RT, if_true, if_false]
  refine m_bec (w := 4) h (Or.inl rfl) (fun σ' h1 h2 => ?_)
  simp only [z_X9_told_0, z_X9_told_1, z_X9_told_2, z_X9_told_3, z_X9_told_4, z_X9_told_7, true_and, Option.toList_some, Option.toList_none, List.cons_append, List.nil_append, is2IT, is2RT, if_true, if_false]
  exact hQ σ' h1 h2
theorem m_done {d : Nat} {Q : Option PV → St → Prop} {σ : St} {S : MSt} {n v : Int32} (h : MS σ S) (hQ : ∀ σ', MS σ' ((becS S.1 5 n v).2, S.2) → Fw9 σ σ' → Q (some (vI (becS S.1 5 n v).1)) σ') : Ca (d + 4) 136 [vR 97 9, vI n, vI v] σ Q := by
  rw [ca_at (K := kX9_done) (ls := [vR 97 9, vI n, vI v]) rfl rfl rfl]
  simp only [z_X9_done_0, z_X9_done_1, z_X9_done_2, z_X9_done_3, z_X9_done_4, z_X9_done_7, true_and, Option.toList_some, Option.toList_none, List.cons_append, List.nil_append, is2IT, is2RT, if_true, if_false]
  refine m_bec (w := 5) h (Or.inr rfl) (fun σ' h1 h2 => ?_)
  simp only [z_X9_done_0, z_X9_done_1, z_X9_done_2, z_X9_done_3, z_X9_done_4, z_X9_done_7, true_and, Option.toList_some, Option.toList_none, List.cons_append, List.nil_append, is2IT, is2RT, if_true, if_false]
  exact hQ σ' h1 h2
