/-! ===== row of the reference ===== -/
theorem i64_12 (a : Int32) : a.toInt64 ≤ (12 : Int64) ↔ a < nI 13 := (i64_le a 12).trans (le_pred (n := a) (m := 13) (by decide))
theorem nI22 : (nI 2 = (2 : Int32)) = True := eq_true rfl
def setT (N : Net) (k i a b c : Nat) : Net := (N.1, N.2.1, N.2.2.1, fun j r v => if j = k ∧ r = i then (if v = 0 then a else if v = 1 then b else c) else nT N j r v)
def okRow (s : Nat) (a b c : Int32) : Bool := decide ((0 ≤ a ∧ a < nI 13) ∧ (0 ≤ b ∧ b < nI 13) ∧ (0 ≤ c ∧ c < nI 13) ∧ a + b + c = 12 ∧ ¬ (s = 2 ∧ ¬ c = 0))
def rowS (N : Net) (n r a b c : Int32) : Int32 × Net := match pN (nM N) n with
  | none => (-2, N)
  | some k => if nK N k = 0 then match pN (rowsN N k) r with
    | none => (-12, N)
    | some i => if okRow (nS N k) a b c = true then (1, setT N k i a.toNatClampNeg b.toNatClampNeg c.toNatClampNeg) else (-2, N)
    else (-13, N)
theorem setT_NV {N : Net} (h : NV N) {k i a b c : Nat} (hs : a + b + c = 12) (h2 : nS N k = 2 → c = 0) : NV (setT N k i a b c) := by
  refine ⟨h.1, fun j hj => ?_⟩
  obtain ⟨a1, a2, a3, a4, a5, a6, a7, a8, a9⟩ := h.2 j hj
  refine ⟨a1, a2, a3, a4, a5, a6, a7, a8, fun r hr => ?_⟩
  have e : ∀ v, nT (setT N k i a b c) j r v = if j = k ∧ r = i then (if v = 0 then a else if v = 1 then b else c) else nT N j r v := fun _ => rfl
  rw [e 0, e 1, e 2]
  by_cases q : j = k ∧ r = i
  · rw [if_pos q, if_pos q, if_pos q]
    exact ⟨hs, fun w => h2 (by rw [← q.1]; exact w)⟩
  · rw [if_neg q, if_neg q, if_neg q]
    exact a9 r hr
theorem setT_MN {σ : St} {x : Nat} {N : Net} (h : MN σ x N) {k i a b c : Nat} (hk : k < 7) (hi : i < 9) : MN (wI (wI (wI σ x (36 * k + 9 + 3 * i) (nI a)) x (36 * k + 9 + 3 * i + 1) (nI b)) x (36 * k + 9 + 3 * i + 2) (nI c)) x (setT N k i a b c) := by
  have hi' : ∀ p, p ≠ 36 * k + 9 + 3 * i → p ≠ 36 * k + 9 + 3 * i + 1 → p ≠ 36 * k + 9 + 3 * i + 2 → rI (wI (wI (wI σ x (36 * k + 9 + 3 * i) (nI a)) x (36 * k + 9 + 3 * i + 1) (nI b)) x (36 * k + 9 + 3 * i + 2) (nI c)) x p = rI σ x p := fun p h1 h2 h3 => by
    rw [rI_wI, if_neg (fun q => h3 q.2), rI_wI, if_neg (fun q => h2 q.2), rI_wI, if_neg (fun q => h1 q.2)]
  refine ⟨by rw [hi' _ (by omega) (by omega) (by omega)]; exact h.1, fun j hj => ?_⟩
  obtain ⟨a1, a2, a3, a4, a5, a6, a7, a8⟩ := h.2 j hj
  have f : ∀ y, y < 9 → rI (wI (wI (wI σ x (36 * k + 9 + 3 * i) (nI a)) x (36 * k + 9 + 3 * i + 1) (nI b)) x (36 * k + 9 + 3 * i + 2) (nI c)) x (36 * j + y) = rI σ x (36 * j + y) := fun y hy => hi' _ (by omega) (by omega) (by omega)
  refine ⟨by rw [f 0 (by omega)]; exact a1, by rw [f 1 (by omega)]; exact a2, by rw [f 2 (by omega)]; exact a3, by rw [f 3 (by omega)]; exact a4, by rw [f 4 (by omega)]; exact a5, by rw [f 5 (by omega)]; exact a6, fun v hv => by rw [f (6 + v) (by omega)]; exact a7 v hv, fun r hr v hv => ?_⟩
  show _ = nI (if j = k ∧ r = i then (if v = 0 then a else if v = 1 then b else c) else nT N j r v)
  by_cases e : j = k ∧ r = i
  · obtain ⟨rfl, rfl⟩ := e
    rw [if_pos ⟨rfl, rfl⟩, rI_wI, rI_wI, rI_wI]
    by_cases v0 : v = 0
    · subst v0; rw [if_neg (by omega), if_neg (by omega), if_pos (by omega), if_pos rfl]
    · by_cases v1 : v = 1
      · subst v1; rw [if_neg (by omega), if_pos (by omega), if_neg (by omega), if_pos rfl]
      · rw [if_pos (by omega), if_neg v0, if_neg v1]
  · rw [if_neg e, hi' _ (by omega) (by omega) (by omega)]
    exact a8 r hr v hv
theorem m_row {d : Nat} {Q : Option PV → St → Prop} {σ : St} {S : MSt} {n r a b c : Int32} (h : MS σ S) (hQ : ∀ σ', MS σ' ((rowS S.1 n r a b c).2, S.2) → Fw9 σ σ' → Q (some (vI (rowS S.1 n r a b c).1)) σ') : Ca (d + 3) 133 [vR 97 9, vI n, vI r, vI a, vI b, vI c] σ Q := by
  have hM := h.1
  have h7 := MI_7 hM
  rw [ca_at (K := kX9_row) (ls := [vR 97 9, vI n, vI r, vI a, vI b, vI c, vU]) rfl rfl rfl]
  cases hp : pN (nM S.1) n with
  | none =>
    have hP := pN_none.mp hp
    have e : rowS S.1 n r a b c = (-2, S.1) := by unfold rowS; rw [hp]
    rw [e] at hQ
    simp only [z_X9_row_0, z_X9_row_1, z_X9_row_2, z_X9_row_5, z_X9_row_8, z_X9_row_10, z_X9_row_11, z_X9_row_12, z_X9_row_13, z_X9_row_14, z_X9_row_17, z_X9_row_20, z_X9_row_22, z_X9_row_23, z_X9_row_24, z_X9_row_25, z_X9_row_26, z_X9_row_27, z_X9_row_28, z_X9_row_31, z_X9_row_32, z_X9_row_33, z_X9_row_34, z_X9_row_37, z_X9_row_40, z_X9_row_42, z_X9_row_43, z_X9_row_44, z_X9_row_45, z_X9_row_46, z_X9_row_49, z_X9_row_52, z_X9_row_55, z_X9_row_57, z_X9_row_58, z_X9_row_59, z_X9_row_62, z_X9_row_65, z_X9_row_68, z_X9_row_70, z_X9_row_71, z_X9_row_72, z_X9_row_75, z_X9_row_78, z_X9_row_81, z_X9_row_82, z_X9_row_84, z_X9_row_85, z_X9_row_87, z_X9_row_88, z_X9_row_90, z_X9_row_93, z_X9_row_94, z_X9_row_95, z_X9_row_96, z_X9_row_99, z_X9_row_100, z_X9_row_103, z_X9_row_105, z_X9_row_108, z_X9_row_110, z_X9_row_111, z_X9_row_113, z_X9_row_114, z_X9_row_115, z_X9_row_117, z_X9_row_118, z_X9_row_119, z_X9_row_120, z_X9_row_121, z_X9_row_122, z_X9_row_124, z_X9_row_125, z_X9_row_128, z_X9_row_130, z_X9_row_131, z_X9_row_132, z_X9_row_133, z_X9_row_136, z_X9_row_138, z_X9_row_139, z_X9_row_140, z_X9_row_142, z_X9_row_143, z_X9_row_144, z_X9_row_147, z_X9_row_149, z_X9_row_150, z_X9_row_151, z_X9_row_153, z_X9_row_154, z_X9_row_155, i_isNode hM, b2_0, hP, not_false_eq_true, true_and, Option.toList_some, Option.toList_none, List.cons_append, List.nil_append, is2IT, is2RT, if_true, if_false]
    exact hQ σ h Fw9_rf
  | some k =>
    obtain ⟨hk, rfl⟩ := (pN_some (by omega)).mp hp
    have hP : 0 ≤ nI k ∧ nI k < nI (nM S.1) := (lt_nI (by omega)).mpr ⟨k, hk, rfl⟩
    have hR := rowsN_9 hM hk
    have hs := NV_s hM hk
    have h3 := NV_k hM hk
    have e0 : (nI (nK S.1 k) = 0) = (nK S.1 k = 0) := propext (nI_eq (b := 0) (by omega) (by decide))
    have e2 : (nI (nS S.1 k) = 2) = (nS S.1 k = 2) := propext (nI_eq (b := 2) (by omega) (by decide))
    by_cases hK : nK S.1 k = 0
    · cases hr : pN (rowsN S.1 k) r with
      | none =>
        have hr' := pN_none.mp hr
        have e : rowS S.1 (nI k) r a b c = (-12, S.1) := by unfold rowS; simp only [hp, hK, if_true, hr]
        rw [e] at hQ
        simp only [z_X9_row_0, z_X9_row_1, z_X9_row_2, z_X9_row_5, z_X9_row_8, z_X9_row_10, z_X9_row_11, z_X9_row_12, z_X9_row_13, z_X9_row_14, z_X9_row_17, z_X9_row_20, z_X9_row_22, z_X9_row_23, z_X9_row_24, z_X9_row_25, z_X9_row_26, z_X9_row_27, z_X9_row_28, z_X9_row_31, z_X9_row_32, z_X9_row_33, z_X9_row_34, z_X9_row_37, z_X9_row_40, z_X9_row_42, z_X9_row_43, z_X9_row_44, z_X9_row_45, z_X9_row_46, z_X9_row_49, z_X9_row_52, z_X9_row_55, z_X9_row_57, z_X9_row_58, z_X9_row_59, z_X9_row_62, z_X9_row_65, z_X9_row_68, z_X9_row_70, z_X9_row_71, z_X9_row_72, z_X9_row_75, z_X9_row_78, z_X9_row_81, z_X9_row_82, z_X9_row_84, z_X9_row_85, z_X9_row_87, z_X9_row_88, z_X9_row_90, z_X9_row_93, z_X9_row_94, z_X9_row_95, z_X9_row_96, z_X9_row_99, z_X9_row_100, z_X9_row_103, z_X9_row_105, z_X9_row_108, z_X9_row_110, z_X9_row_111, z_X9_row_113, z_X9_row_114, z_X9_row_115, z_X9_row_117, z_X9_row_118, z_X9_row_119, z_X9_row_120, z_X9_row_121, z_X9_row_122, z_X9_row_124, z_X9_row_125, z_X9_row_128, z_X9_row_130, z_X9_row_131, z_X9_row_132, z_X9_row_133, z_X9_row_136, z_X9_row_138, z_X9_row_139, z_X9_row_140, z_X9_row_142, z_X9_row_143, z_X9_row_144, z_X9_row_147, z_X9_row_149, z_X9_row_150, z_X9_row_151, z_X9_row_153, z_X9_row_154, z_X9_row_155, i_isNode hM, b2_0, hP, and_self, not_true_eq_false, not_false_eq_true, i_is1 hM hk, e0, hK, nI00, m_in, i_rowsOf hM hk, i64_0, i64_le, le_pred (show rowsN S.1 k < 2 ^ 30 by omega), hr', true_and, Option.toList_some, Option.toList_none, List.cons_append, List.nil_append, is2IT, is2RT, if_true, if_false]
        exact hQ σ h Fw9_rf
      | some i =>
        obtain ⟨hi, rfl⟩ := (pN_some (by omega)).mp hr
        have hr' : 0 ≤ nI i ∧ nI i < nI (rowsN S.1 k) := (lt_nI (by omega)).mpr ⟨i, hi, rfl⟩
        have i9 : i < 9 := by omega
        by_cases ho : okRow (nS S.1 k) a b c = true
        · have e : rowS S.1 (nI k) (nI i) a b c = (1, setT S.1 k i a.toNatClampNeg b.toNatClampNeg c.toNatClampNeg) := by unfold rowS; simp only [hp, hK, if_true, hr, ho]
          rw [e] at hQ
          obtain ⟨ha, hb, hc, h12, h2⟩ := of_decide_eq_true ho
          have x0 : (36 : Int32) * nI k + 9 + 3 * nI i = nI (36 * k + 9 + 3 * i) := by rw [show (36 : Int32) = nI 36 from rfl, show (9 : Int32) = nI 9 from rfl, show (3 : Int32) = nI 3 from rfl, pk_mul, pk_mul, nI_add, nI_add]
          have x1 : nI (36 * k + 9 + 3 * i) + (1 : Int32) = nI (36 * k + 9 + 3 * i + 1) := nI_add _ 1
          have x2 : nI (36 * k + 9 + 3 * i) + (2 : Int32) = nI (36 * k + 9 + 3 * i + 2) := nI_add _ 2
          have i0 : inB (nI (36 * k + 9 + 3 * i)) 253 = true := inB_nI (by omega) (by decide)
          have i1 : inB (nI (36 * k + 9 + 3 * i + 1)) 253 = true := inB_nI (by omega) (by decide)
          have i2 : inB (nI (36 * k + 9 + 3 * i + 2)) 253 = true := inB_nI (by omega) (by decide)
          have t0 : (nI (36 * k + 9 + 3 * i)).toNatClampNeg = 36 * k + 9 + 3 * i := nI_clamp (by omega)
          have t1 : (nI (36 * k + 9 + 3 * i + 1)).toNatClampNeg = 36 * k + 9 + 3 * i + 1 := nI_clamp (by omega)
          have t2 : (nI (36 * k + 9 + 3 * i + 2)).toNatClampNeg = 36 * k + 9 + 3 * i + 2 := nI_clamp (by omega)
          have fin : Q (some (vI 1)) (wI (wI (wI σ 98 (36 * k + 9 + 3 * i) a) 98 (36 * k + 9 + 3 * i + 1) b) 98 (36 * k + 9 + 3 * i + 2) c) := by
            obtain ⟨x, hx, rfl⟩ := (lt_nI (by decide)).mp ha
            obtain ⟨y, hy, rfl⟩ := (lt_nI (by decide)).mp hb
            obtain ⟨z, hz, rfl⟩ := (lt_nI (by decide)).mp hc
            rw [nI_clamp (by omega), nI_clamp (by omega), nI_clamp (by omega)] at hQ
            have hsum : x + y + z = 12 := by
              rw [nI_add, nI_add] at h12
              exact (nI_eq (b := 12) (by omega) (by decide)).mp h12
            have hz0 : nS S.1 k = 2 → z = 0 := fun w => by
              by_cases q : z = 0
              · exact q
              · exact absurd ⟨w, fun v => q ((nI_eq (b := 0) (by omega) (by decide)).mp v)⟩ h2
            exact hQ _ (MS_web h (fun a ha => by rw [rI_wI_n ha, rI_wI_n ha, rI_wI_n ha]) (fun _ => rfl) (fun _ _ => rfl) rfl (setT_MN hM.2.1 (by omega) i9) (setT_NV hM.2.2 hsum hz0)) (Fw9_tr (Fw9_tr (Fw9_wI (by decide)) (Fw9_wI (by decide))) (Fw9_wI (by decide)))
          by_cases hS : nS S.1 k = 2
          · have c0 : c = 0 := Decidable.byContradiction (fun q => h2 ⟨hS, q⟩)
            simp only [z_X9_row_0, z_X9_row_1, z_X9_row_2, z_X9_row_5, z_X9_row_8, z_X9_row_10, z_X9_row_11, z_X9_row_12, z_X9_row_13, z_X9_row_14, z_X9_row_17, z_X9_row_20, z_X9_row_22, z_X9_row_23, z_X9_row_24, z_X9_row_25, z_X9_row_26, z_X9_row_27, z_X9_row_28, z_X9_row_31, z_X9_row_32, z_X9_row_33, z_X9_row_34, z_X9_row_37, z_X9_row_40, z_X9_row_42, z_X9_row_43, z_X9_row_44, z_X9_row_45, z_X9_row_46, z_X9_row_49, z_X9_row_52, z_X9_row_55, z_X9_row_57, z_X9_row_58, z_X9_row_59, z_X9_row_62, z_X9_row_65, z_X9_row_68, z_X9_row_70, z_X9_row_71, z_X9_row_72, z_X9_row_75, z_X9_row_78, z_X9_row_81, z_X9_row_82, z_X9_row_84, z_X9_row_85, z_X9_row_87, z_X9_row_88, z_X9_row_90, z_X9_row_93, z_X9_row_94, z_X9_row_95, z_X9_row_96, z_X9_row_99, z_X9_row_100, z_X9_row_103, z_X9_row_105, z_X9_row_108, z_X9_row_110, z_X9_row_111, z_X9_row_113, z_X9_row_114, z_X9_row_115, z_X9_row_117, z_X9_row_118, z_X9_row_119, z_X9_row_120, z_X9_row_121, z_X9_row_122, z_X9_row_124, z_X9_row_125, z_X9_row_128, z_X9_row_130, z_X9_row_131, z_X9_row_132, z_X9_row_133, z_X9_row_136, z_X9_row_138, z_X9_row_139, z_X9_row_140, z_X9_row_142, z_X9_row_143, z_X9_row_144, z_X9_row_147, z_X9_row_149, z_X9_row_150, z_X9_row_151, z_X9_row_153, z_X9_row_154, z_X9_row_155, i_isNode hM, b2_0, hP, and_self, not_true_eq_false, not_false_eq_true, i_is1 hM hk, e0, hK, nI00, m_in, i_rowsOf hM hk, i64_0, i64_le, i64_12, le_pred (show rowsN S.1 k < 2 ^ 30 by omega), hr', ha, hb, hc, h12, i_is0 hM hk, e2, hS, nI22, true_and, Option.toList_some, Option.toList_none, List.cons_append, List.nil_append, is2IT, is2RT, if_true, if_false, mf_r1 hM.1, mf_r2 hM.1, mf_r3 hM.1, mf_r5 hM.1, mf_r10 hM.1, mf_r11 hM.1, mf_r13 hM.1, mf_r15 hM.1, mf_r16 hM.1, mf_r19 hM.1, mf_r21 hM.1, mf_r22 hM.1, mf_r23 hM.1, mf_r24 hM.1, mf_r25 hM.1, mf_r26 hM.1, mf_r27 hM.1, mf_r29 hM.1, mf_r30 hM.1, mf_r31 hM.1, mf_r32 hM.1, mf_s98 hM.1, mf_s99 hM.1, mf_s100 hM.1, mf_s101 hM.1, mf_s102 hM.1, mf_s103 hM.1, mf_s104 hM.1, mf_s105 hM.1, mf_s106 hM.1, mf_s107 hM.1, mf_s108 hM.1, mf_s109 hM.1, mf_s110 hM.1, mf_s111 hM.1, mf_s112 hM.1, mf_s113 hM.1, mf_s114 hM.1, mf_s115 hM.1, mf_s116 hM.1, mf_s117 hM.1, mf_s118 hM.1, rR_wI, sh_wI, x0, x1, x2, i0, i1, i2, t0, t1, t2]
            rw [if_pos c0]
            exact fin
          · simp only [z_X9_row_0, z_X9_row_1, z_X9_row_2, z_X9_row_5, z_X9_row_8, z_X9_row_10, z_X9_row_11, z_X9_row_12, z_X9_row_13, z_X9_row_14, z_X9_row_17, z_X9_row_20, z_X9_row_22, z_X9_row_23, z_X9_row_24, z_X9_row_25, z_X9_row_26, z_X9_row_27, z_X9_row_28, z_X9_row_31, z_X9_row_32, z_X9_row_33, z_X9_row_34, z_X9_row_37, z_X9_row_40, z_X9_row_42, z_X9_row_43, z_X9_row_44, z_X9_row_45, z_X9_row_46, z_X9_row_49, z_X9_row_52, z_X9_row_55, z_X9_row_57, z_X9_row_58, z_X9_row_59, z_X9_row_62, z_X9_row_65, z_X9_row_68, z_X9_row_70, z_X9_row_71, z_X9_row_72, z_X9_row_75, z_X9_row_78, z_X9_row_81, z_X9_row_82, z_X9_row_84, z_X9_row_85, z_X9_row_87, z_X9_row_88, z_X9_row_90, z_X9_row_93, z_X9_row_94, z_X9_row_95, z_X9_row_96, z_X9_row_99, z_X9_row_100, z_X9_row_103, z_X9_row_105, z_X9_row_108, z_X9_row_110, z_X9_row_111, z_X9_row_113, z_X9_row_114, z_X9_row_115, z_X9_row_117, z_X9_row_118, z_X9_row_119, z_X9_row_120, z_X9_row_121, z_X9_row_122, z_X9_row_124, z_X9_row_125, z_X9_row_128, z_X9_row_130, z_X9_row_131, z_X9_row_132, z_X9_row_133, z_X9_row_136, z_X9_row_138, z_X9_row_139, z_X9_row_140, z_X9_row_142, z_X9_row_143, z_X9_row_144, z_X9_row_147, z_X9_row_149, z_X9_row_150, z_X9_row_151, z_X9_row_153, z_X9_row_154, z_X9_row_155, i_isNode hM, b2_0, hP, and_self, not_true_eq_false, not_false_eq_true, i_is1 hM hk, e0, hK, nI00, m_in, i_rowsOf hM hk, i64_0, i64_le, i64_12, le_pred (show rowsN S.1 k < 2 ^ 30 by omega), hr', ha, hb, hc, h12, i_is0 hM hk, e2, hS, true_and, Option.toList_some, Option.toList_none, List.cons_append, List.nil_append, is2IT, is2RT, if_true, if_false, mf_r1 hM.1, mf_r2 hM.1, mf_r3 hM.1, mf_r5 hM.1, mf_r10 hM.1, mf_r11 hM.1, mf_r13 hM.1, mf_r15 hM.1, mf_r16 hM.1, mf_r19 hM.1, mf_r21 hM.1, mf_r22 hM.1, mf_r23 hM.1, mf_r24 hM.1, mf_r25 hM.1, mf_r26 hM.1, mf_r27 hM.1, mf_r29 hM.1, mf_r30 hM.1, mf_r31 hM.1, mf_r32 hM.1, mf_s98 hM.1, mf_s99 hM.1, mf_s100 hM.1, mf_s101 hM.1, mf_s102 hM.1, mf_s103 hM.1, mf_s104 hM.1, mf_s105 hM.1, mf_s106 hM.1, mf_s107 hM.1, mf_s108 hM.1, mf_s109 hM.1, mf_s110 hM.1, mf_s111 hM.1, mf_s112 hM.1, mf_s113 hM.1, mf_s114 hM.1, mf_s115 hM.1, mf_s116 hM.1, mf_s117 hM.1, mf_s118 hM.1, rR_wI, sh_wI, x0, x1, x2, i0, i1, i2, t0, t1, t2]
            exact fin
        · have e : rowS S.1 (nI k) (nI i) a b c = (-2, S.1) := by unfold rowS; simp only [hp, hK, if_true, hr, ho, if_false]; rfl
          rw [e] at hQ
          have hno := fun q => ho (decide_eq_true q)
          have fin := hQ σ h Fw9_rf
          by_cases ha : 0 ≤ a ∧ a < nI 13
          · by_cases hb : 0 ≤ b ∧ b < nI 13
            · by_cases hc : 0 ≤ c ∧ c < nI 13
              · by_cases h12 : a + b + c = 12
                · have hS : nS S.1 k = 2 := Decidable.byContradiction (fun q => hno ⟨ha, hb, hc, h12, fun w => q w.1⟩)
                  have c0 : ¬ c = 0 := fun q => hno ⟨ha, hb, hc, h12, fun w => w.2 q⟩
                  simp only [z_X9_row_0, z_X9_row_1, z_X9_row_2, z_X9_row_5, z_X9_row_8, z_X9_row_10, z_X9_row_11, z_X9_row_12, z_X9_row_13, z_X9_row_14, z_X9_row_17, z_X9_row_20, z_X9_row_22, z_X9_row_23, z_X9_row_24, z_X9_row_25, z_X9_row_26, z_X9_row_27, z_X9_row_28, z_X9_row_31, z_X9_row_32, z_X9_row_33, z_X9_row_34, z_X9_row_37, z_X9_row_40, z_X9_row_42, z_X9_row_43, z_X9_row_44, z_X9_row_45, z_X9_row_46, z_X9_row_49, z_X9_row_52, z_X9_row_55, z_X9_row_57, z_X9_row_58, z_X9_row_59, z_X9_row_62, z_X9_row_65, z_X9_row_68, z_X9_row_70, z_X9_row_71, z_X9_row_72, z_X9_row_75, z_X9_row_78, z_X9_row_81, z_X9_row_82, z_X9_row_84, z_X9_row_85, z_X9_row_87, z_X9_row_88, z_X9_row_90, z_X9_row_93, z_X9_row_94, z_X9_row_95, z_X9_row_96, z_X9_row_99, z_X9_row_100, z_X9_row_103, z_X9_row_105, z_X9_row_108, z_X9_row_110, z_X9_row_111, z_X9_row_113, z_X9_row_114, z_X9_row_115, z_X9_row_117, z_X9_row_118, z_X9_row_119, z_X9_row_120, z_X9_row_121, z_X9_row_122, z_X9_row_124, z_X9_row_125, z_X9_row_128, z_X9_row_130, z_X9_row_131, z_X9_row_132, z_X9_row_133, z_X9_row_136, z_X9_row_138, z_X9_row_139, z_X9_row_140, z_X9_row_142, z_X9_row_143, z_X9_row_144, z_X9_row_147, z_X9_row_149, z_X9_row_150, z_X9_row_151, z_X9_row_153, z_X9_row_154, z_X9_row_155, i_isNode hM, b2_0, hP, and_self, not_true_eq_false, not_false_eq_true, i_is1 hM hk, e0, hK, nI00, m_in, i_rowsOf hM hk, i64_0, i64_le, i64_12, le_pred (show rowsN S.1 k < 2 ^ 30 by omega), hr', ha, hb, hc, h12, i_is0 hM hk, e2, hS, nI22, c0, true_and, Option.toList_some, Option.toList_none, List.cons_append, List.nil_append, is2IT, is2RT, if_true, if_false]
                  exact fin
                · simp only [z_X9_row_0, z_X9_row_1, z_X9_row_2, z_X9_row_5, z_X9_row_8, z_X9_row_10, z_X9_row_11, z_X9_row_12, z_X9_row_13, z_X9_row_14, z_X9_row_17, z_X9_row_20, z_X9_row_22, z_X9_row_23, z_X9_row_24, z_X9_row_25, z_X9_row_26, z_X9_row_27, z_X9_row_28, z_X9_row_31, z_X9_row_32, z_X9_row_33, z_X9_row_34, z_X9_row_37, z_X9_row_40, z_X9_row_42, z_X9_row_43, z_X9_row_44, z_X9_row_45, z_X9_row_46, z_X9_row_49, z_X9_row_52, z_X9_row_55, z_X9_row_57, z_X9_row_58, z_X9_row_59, z_X9_row_62, z_X9_row_65, z_X9_row_68, z_X9_row_70, z_X9_row_71, z_X9_row_72, z_X9_row_75, z_X9_row_78, z_X9_row_81, z_X9_row_82, z_X9_row_84, z_X9_row_85, z_X9_row_87, z_X9_row_88, z_X9_row_90, z_X9_row_93, z_X9_row_94, z_X9_row_95, z_X9_row_96, z_X9_row_99, z_X9_row_100, z_X9_row_103, z_X9_row_105, z_X9_row_108, z_X9_row_110, z_X9_row_111, z_X9_row_113, z_X9_row_114, z_X9_row_115, z_X9_row_117, z_X9_row_118, z_X9_row_119, z_X9_row_120, z_X9_row_121, z_X9_row_122, z_X9_row_124, z_X9_row_125, z_X9_row_128, z_X9_row_130, z_X9_row_131, z_X9_row_132, z_X9_row_133, z_X9_row_136, z_X9_row_138, z_X9_row_139, z_X9_row_140, z_X9_row_142, z_X9_row_143, z_X9_row_144, z_X9_row_147, z_X9_row_149, z_X9_row_150, z_X9_row_151, z_X9_row_153, z_X9_row_154, z_X9_row_155, i_isNode hM, b2_0, hP, and_self, not_true_eq_false, not_false_eq_true, i_is1 hM hk, e0, hK, nI00, m_in, i_rowsOf hM hk, i64_0, i64_le, i64_12, le_pred (show rowsN S.1 k < 2 ^ 30 by omega), hr', ha, hb, hc, h12, true_and, Option.toList_some, Option.toList_none, List.cons_append, List.nil_append, is2IT, is2RT, if_true, if_false]
                  exact fin
              · simp only [z_X9_row_0, z_X9_row_1, z_X9_row_2, z_X9_row_5, z_X9_row_8, z_X9_row_10, z_X9_row_11, z_X9_row_12, z_X9_row_13, z_X9_row_14, z_X9_row_17, z_X9_row_20, z_X9_row_22, z_X9_row_23, z_X9_row_24, z_X9_row_25, z_X9_row_26, z_X9_row_27, z_X9_row_28, z_X9_row_31, z_X9_row_32, z_X9_row_33, z_X9_row_34, z_X9_row_37, z_X9_row_40, z_X9_row_42, z_X9_row_43, z_X9_row_44, z_X9_row_45, z_X9_row_46, z_X9_row_49, z_X9_row_52, z_X9_row_55, z_X9_row_57, z_X9_row_58, z_X9_row_59, z_X9_row_62, z_X9_row_65, z_X9_row_68, z_X9_row_70, z_X9_row_71, z_X9_row_72, z_X9_row_75, z_X9_row_78, z_X9_row_81, z_X9_row_82, z_X9_row_84, z_X9_row_85, z_X9_row_87, z_X9_row_88, z_X9_row_90, z_X9_row_93, z_X9_row_94, z_X9_row_95, z_X9_row_96, z_X9_row_99, z_X9_row_100, z_X9_row_103, z_X9_row_105, z_X9_row_108, z_X9_row_110, z_X9_row_111, z_X9_row_113, z_X9_row_114, z_X9_row_115, z_X9_row_117, z_X9_row_118, z_X9_row_119, z_X9_row_120, z_X9_row_121, z_X9_row_122, z_X9_row_124, z_X9_row_125, z_X9_row_128, z_X9_row_130, z_X9_row_131, z_X9_row_132, z_X9_row_133, z_X9_row_136, z_X9_row_138, z_X9_row_139, z_X9_row_140, z_X9_row_142, z_X9_row_143, z_X9_row_144, z_X9_row_147, z_X9_row_149, z_X9_row_150, z_X9_row_151, z_X9_row_153, z_X9_row_154, z_X9_row_155, i_isNode hM, b2_0, hP, and_self, not_true_eq_false, not_false_eq_true, i_is1 hM hk, e0, hK, nI00, m_in, i_rowsOf hM hk, i64_0, i64_le, i64_12, le_pred (show rowsN S.1 k < 2 ^ 30 by omega), hr', ha, hb, hc, true_and, Option.toList_some, Option.toList_none, List.cons_append, List.nil_append, is2IT, is2RT, if_true, if_false]
                exact fin
            · simp only [z_X9_row_0, z_X9_row_1, z_X9_row_2, z_X9_row_5, z_X9_row_8, z_X9_row_10, z_X9_row_11, z_X9_row_12, z_X9_row_13, z_X9_row_14, z_X9_row_17, z_X9_row_20, z_X9_row_22, z_X9_row_23, z_X9_row_24, z_X9_row_25, z_X9_row_26, z_X9_row_27, z_X9_row_28, z_X9_row_31, z_X9_row_32, z_X9_row_33, z_X9_row_34, z_X9_row_37, z_X9_row_40, z_X9_row_42, z_X9_row_43, z_X9_row_44, z_X9_row_45, z_X9_row_46, z_X9_row_49, z_X9_row_52, z_X9_row_55, z_X9_row_57, z_X9_row_58, z_X9_row_59, z_X9_row_62, z_X9_row_65, z_X9_row_68, z_X9_row_70, z_X9_row_71, z_X9_row_72, z_X9_row_75, z_X9_row_78, z_X9_row_81, z_X9_row_82, z_X9_row_84, z_X9_row_85, z_X9_row_87, z_X9_row_88, z_X9_row_90, z_X9_row_93, z_X9_row_94, z_X9_row_95, z_X9_row_96, z_X9_row_99, z_X9_row_100, z_X9_row_103, z_X9_row_105, z_X9_row_108, z_X9_row_110, z_X9_row_111, z_X9_row_113, z_X9_row_114, z_X9_row_115, z_X9_row_117, z_X9_row_118, z_X9_row_119, z_X9_row_120, z_X9_row_121, z_X9_row_122, z_X9_row_124, z_X9_row_125, z_X9_row_128, z_X9_row_130, z_X9_row_131, z_X9_row_132, z_X9_row_133, z_X9_row_136, z_X9_row_138, z_X9_row_139, z_X9_row_140, z_X9_row_142, z_X9_row_143, z_X9_row_144, z_X9_row_147, z_X9_row_149, z_X9_row_150, z_X9_row_151, z_X9_row_153, z_X9_row_154, z_X9_row_155, i_isNode hM, b2_0, hP, and_self, not_true_eq_false, not_false_eq_true, i_is1 hM hk, e0, hK, nI00, m_in, i_rowsOf hM hk, i64_0, i64_le, i64_12, le_pred (show rowsN S.1 k < 2 ^ 30 by omega), hr', ha, hb, true_and, Option.toList_some, Option.toList_none, List.cons_append, List.nil_append, is2IT, is2RT, if_true, if_false]
              exact fin
          · simp only [z_X9_row_0, z_X9_row_1, z_X9_row_2, z_X9_row_5, z_X9_row_8, z_X9_row_10, z_X9_row_11, z_X9_row_12, z_X9_row_13, z_X9_row_14, z_X9_row_17, z_X9_row_20, z_X9_row_22, z_X9_row_23, z_X9_row_24, z_X9_row_25, z_X9_row_26, z_X9_row_27, z_X9_row_28, z_X9_row_31, z_X9_row_32, z_X9_row_33, z_X9_row_34, z_X9_row_37, z_X9_row_40, z_X9_row_42, z_X9_row_43, z_X9_row_44, z_X9_row_45, z_X9_row_46, z_X9_row_49, z_X9_row_52, z_X9_row_55, z_X9_row_57, z_X9_row_58, z_X9_row_59, z_X9_row_62, z_X9_row_65, z_X9_row_68, z_X9_row_70, z_X9_row_71, z_X9_row_72, z_X9_row_75, z_X9_row_78, z_X9_row_81, z_X9_row_82, z_X9_row_84, z_X9_row_85, z_X9_row_87, z_X9_row_88, z_X9_row_90, z_X9_row_93, z_X9_row_94, z_X9_row_95, z_X9_row_96, z_X9_row_99, z_X9_row_100, z_X9_row_103, z_X9_row_105, z_X9_row_108, z_X9_row_110, z_X9_row_111, z_X9_row_113, z_X9_row_114, z_X9_row_115, z_X9_row_117, z_X9_row_118, z_X9_row_119, z_X9_row_120, z_X9_row_121, z_X9_row_122, z_X9_row_124, z_X9_row_125, z_X9_row_128, z_X9_row_130, z_X9_row_131, z_X9_row_132, z_X9_row_133, z_X9_row_136, z_X9_row_138, z_X9_row_139, z_X9_row_140, z_X9_row_142, z_X9_row_143, z_X9_row_144, z_X9_row_147, z_X9_row_149, z_X9_row_150, z_X9_row_151, z_X9_row_153, z_X9_row_154, z_X9_row_155, i_isNode hM, b2_0, hP, and_self, not_true_eq_false, not_false_eq_true, i_is1 hM hk, e0, hK, nI00, m_in, i_rowsOf hM hk, i64_0, i64_le, i64_12, le_pred (show rowsN S.1 k < 2 ^ 30 by omega), hr', ha, true_and, Option.toList_some, Option.toList_none, List.cons_append, List.nil_append, is2IT, is2RT, if_true, if_false]
            exact fin
    · have e : rowS S.1 (nI k) r a b c = (-13, S.1) := by unfold rowS; simp only [hp, hK, if_false]
      rw [e] at hQ
      simp only [z_X9_row_0, z_X9_row_1, z_X9_row_2, z_X9_row_5, z_X9_row_8, z_X9_row_10, z_X9_row_11, z_X9_row_12, z_X9_row_13, z_X9_row_14, z_X9_row_17, z_X9_row_20, z_X9_row_22, z_X9_row_23, z_X9_row_24, z_X9_row_25, z_X9_row_26, z_X9_row_27, z_X9_row_28, z_X9_row_31, z_X9_row_32, z_X9_row_33, z_X9_row_34, z_X9_row_37, z_X9_row_40, z_X9_row_42, z_X9_row_43, z_X9_row_44, z_X9_row_45, z_X9_row_46, z_X9_row_49, z_X9_row_52, z_X9_row_55, z_X9_row_57, z_X9_row_58, z_X9_row_59, z_X9_row_62, z_X9_row_65, z_X9_row_68, z_X9_row_70, z_X9_row_71, z_X9_row_72, z_X9_row_75, z_X9_row_78, z_X9_row_81, z_X9_row_82, z_X9_row_84, z_X9_row_85, z_X9_row_87, z_X9_row_88, z_X9_row_90, z_X9_row_93, z_X9_row_94, z_X9_row_95, z_X9_row_96, z_X9_row_99, z_X9_row_100, z_X9_row_103, z_X9_row_105, z_X9_row_108, z_X9_row_110, z_X9_row_111, z_X9_row_113, z_X9_row_114, z_X9_row_115, z_X9_row_117, z_X9_row_118, z_X9_row_119, z_X9_row_120, z_X9_row_121, z_X9_row_122, z_X9_row_124, z_X9_row_125, z_X9_row_128, z_X9_row_130, z_X9_row_131, z_X9_row_132, z_X9_row_133, z_X9_row_136, z_X9_row_138, z_X9_row_139, z_X9_row_140, z_X9_row_142, z_X9_row_143, z_X9_row_144, z_X9_row_147, z_X9_row_149, z_X9_row_150, z_X9_row_151, z_X9_row_153, z_X9_row_154, z_X9_row_155, i_isNode hM, b2_0, hP, and_self, not_true_eq_false, not_false_eq_true, i_is1 hM hk, e0, hK, true_and, Option.toList_some, Option.toList_none, List.cons_append, List.nil_append, is2IT, is2RT, if_true, if_false]
      exact hQ σ h Fw9_rf
