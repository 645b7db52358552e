/-! ===== of, feed of the reference ===== -/
def isF (N : Net) (k j : Nat) : Int32 := if j = 0 then nI (nS N k) else if j = 1 then nI (nK N k) else if j = 2 then oI (nP N k) else if j = 3 then oI (nQ N k) else if j = 4 then oI (nF1 N k) else oI (nD N k)
theorem i_isF {d : Nat} {Q : Option PV → St → Prop} {σ : St} {N : Net} {k j : Nat} (h : MI σ N) (hk : k < nM N) (hj : j < 6) : Ca (d + 1) 127 [vR 97 9, vI (nI k), vI (nI j)] σ Q ↔ Q (some (vI (isF N k j))) σ := by
  rcases (show j = 0 ∨ j = 1 ∨ j = 2 ∨ j = 3 ∨ j = 4 ∨ j = 5 by omega) with rfl | rfl | rfl | rfl | rfl | rfl
  · exact i_is0 h hk
  · exact i_is1 h hk
  · exact i_is2 h hk
  · exact i_is3 h hk
  · exact i_is4 h hk
  · exact i_is5 h hk
def ofS (N : Net) (n w : Int32) : Int32 := match pN (nM N) n with
  | none => -2
  | some k => match pN 8 w with
    | none => -2
    | some j => if j < 6 then isF N k j else if j = 6 then b2 (hinN N k) else if nK N k = 0 then nI (rowsN N k) else 0
theorem i64_7 (a : Int32) : a.toInt64 ≤ (7 : Int64) ↔ a < nI 8 := (i64_le a 7).trans (le_pred (n := a) (m := 8) (by decide))
theorem m_of {d : Nat} {Q : Option PV → St → Prop} {σ : St} {N : Net} {n w : Int32} (h : MI σ N) : Ca (d + 3) 139 [vR 97 9, vI n, vI w] σ Q ↔ Q (some (vI (ofS N n w))) σ := by
  have h7 := MI_7 h
  rw [ca_at (K := kX9_of) (ls := [vR 97 9, vI n, vI w]) rfl rfl rfl]
  unfold ofS
  cases hp : pN (nM N) n with
  | none =>
    have hP := pN_none.mp hp
    simp only [z_X9_of_0, z_X9_of_1, z_X9_of_2, z_X9_of_5, z_X9_of_8, z_X9_of_9, z_X9_of_10, z_X9_of_11, z_X9_of_14, z_X9_of_17, z_X9_of_20, z_X9_of_22, z_X9_of_23, z_X9_of_24, z_X9_of_26, z_X9_of_29, z_X9_of_30, z_X9_of_31, z_X9_of_32, z_X9_of_35, z_X9_of_36, z_X9_of_37, z_X9_of_39, z_X9_of_42, z_X9_of_43, z_X9_of_44, z_X9_of_47, z_X9_of_50, z_X9_of_51, z_X9_of_54, z_X9_of_55, z_X9_of_56, z_X9_of_57, z_X9_of_58, z_X9_of_59, z_X9_of_62, z_X9_of_65, z_X9_of_66, z_X9_of_67, z_X9_of_70, z_X9_of_73, z_X9_of_74, i_isNode h, b2_0, hP, not_false_eq_true, true_and, Option.toList_some, Option.toList_none, List.cons_append, List.nil_append, is2IT, is2RT, if_true, if_false]
  | some k =>
    obtain ⟨hk, rfl⟩ := (pN_some (by omega)).mp hp
    have hP : 0 ≤ nI k ∧ nI k < nI (nM N) := (lt_nI (by omega)).mpr ⟨k, hk, rfl⟩
    have h3 := NV_k h hk
    have e0 : (nI (nK N k) = 0) = (nK N k = 0) := propext (nI_eq (b := 0) (by omega) (by decide))
    cases hw : pN 8 w with
    | none =>
      have hW := pN_none.mp hw
      simp only [z_X9_of_0, z_X9_of_1, z_X9_of_2, z_X9_of_5, z_X9_of_8, z_X9_of_9, z_X9_of_10, z_X9_of_11, z_X9_of_14, z_X9_of_17, z_X9_of_20, z_X9_of_22, z_X9_of_23, z_X9_of_24, z_X9_of_26, z_X9_of_29, z_X9_of_30, z_X9_of_31, z_X9_of_32, z_X9_of_35, z_X9_of_36, z_X9_of_37, z_X9_of_39, z_X9_of_42, z_X9_of_43, z_X9_of_44, z_X9_of_47, z_X9_of_50, z_X9_of_51, z_X9_of_54, z_X9_of_55, z_X9_of_56, z_X9_of_57, z_X9_of_58, z_X9_of_59, z_X9_of_62, z_X9_of_65, z_X9_of_66, z_X9_of_67, z_X9_of_70, z_X9_of_73, z_X9_of_74, i_isNode h, b2_0, hP, and_self, not_true_eq_false, not_false_eq_true, m_in, i64_0, i64_7, hW, true_and, Option.toList_some, Option.toList_none, List.cons_append, List.nil_append, is2IT, is2RT, if_true, if_false]
    | some j =>
      obtain ⟨hj, rfl⟩ := (pN_some (by decide)).mp hw
      have hW : 0 ≤ nI j ∧ nI j < nI 8 := (lt_nI (by decide)).mpr ⟨j, hj, rfl⟩
      have c6 : (nI j < (6 : Int32)) = (j < 6) := propext (nI_ltI (b := 6) (by omega) (by decide))
      have d6 : (nI j = (6 : Int32)) = (j = 6) := propext (nI_eq (b := 6) (by omega) (by decide))
      have c6' : ((6 : Int32) ≤ nI j) = (6 ≤ j) := propext ((Int32.not_lt (a := nI j) (b := 6)).symm.trans ((not_congr (nI_ltI (b := 6) (by omega) (by decide))).trans Nat.not_lt))
      by_cases h6 : j < 6
      · have h6' : ¬ 6 ≤ j := by omega
        simp only [z_X9_of_0, z_X9_of_1, z_X9_of_2, z_X9_of_5, z_X9_of_8, z_X9_of_9, z_X9_of_10, z_X9_of_11, z_X9_of_14, z_X9_of_17, z_X9_of_20, z_X9_of_22, z_X9_of_23, z_X9_of_24, z_X9_of_26, z_X9_of_29, z_X9_of_30, z_X9_of_31, z_X9_of_32, z_X9_of_35, z_X9_of_36, z_X9_of_37, z_X9_of_39, z_X9_of_42, z_X9_of_43, z_X9_of_44, z_X9_of_47, z_X9_of_50, z_X9_of_51, z_X9_of_54, z_X9_of_55, z_X9_of_56, z_X9_of_57, z_X9_of_58, z_X9_of_59, z_X9_of_62, z_X9_of_65, z_X9_of_66, z_X9_of_67, z_X9_of_70, z_X9_of_73, z_X9_of_74, i_isNode h, b2_0, hP, and_self, not_true_eq_false, not_false_eq_true, m_in, i64_0, i64_7, hW, c6, c6', h6, h6', i_isF h hk h6, true_and, Option.toList_some, Option.toList_none, List.cons_append, List.nil_append, is2IT, is2RT, if_true, if_false]
      · have h6' : 6 ≤ j := by omega
        by_cases h8 : j = 6
        · subst h8
          have x1 : ((6 : Int32) ≤ nI 6) = True := eq_true (by decide)
          have x2 : (nI 6 = (6 : Int32)) = True := eq_true rfl
          by_cases hh : hinN N k
          · simp only [z_X9_of_0, z_X9_of_1, z_X9_of_2, z_X9_of_5, z_X9_of_8, z_X9_of_9, z_X9_of_10, z_X9_of_11, z_X9_of_14, z_X9_of_17, z_X9_of_20, z_X9_of_22, z_X9_of_23, z_X9_of_24, z_X9_of_26, z_X9_of_29, z_X9_of_30, z_X9_of_31, z_X9_of_32, z_X9_of_35, z_X9_of_36, z_X9_of_37, z_X9_of_39, z_X9_of_42, z_X9_of_43, z_X9_of_44, z_X9_of_47, z_X9_of_50, z_X9_of_51, z_X9_of_54, z_X9_of_55, z_X9_of_56, z_X9_of_57, z_X9_of_58, z_X9_of_59, z_X9_of_62, z_X9_of_65, z_X9_of_66, z_X9_of_67, z_X9_of_70, z_X9_of_73, z_X9_of_74, i_isNode h, b2_0, hP, and_self, not_true_eq_false, not_false_eq_true, m_in, i64_0, i64_7, hW, x1, x2, Nat.lt_irrefl, i_isHinted h hk, true_and, Option.toList_some, Option.toList_none, List.cons_append, List.nil_append, is2IT, is2RT, if_true, if_false]
            rw [if_neg (show ¬ ¬ hinN N k from fun q => q hh), b2_t hh]
          · simp only [z_X9_of_0, z_X9_of_1, z_X9_of_2, z_X9_of_5, z_X9_of_8, z_X9_of_9, z_X9_of_10, z_X9_of_11, z_X9_of_14, z_X9_of_17, z_X9_of_20, z_X9_of_22, z_X9_of_23, z_X9_of_24, z_X9_of_26, z_X9_of_29, z_X9_of_30, z_X9_of_31, z_X9_of_32, z_X9_of_35, z_X9_of_36, z_X9_of_37, z_X9_of_39, z_X9_of_42, z_X9_of_43, z_X9_of_44, z_X9_of_47, z_X9_of_50, z_X9_of_51, z_X9_of_54, z_X9_of_55, z_X9_of_56, z_X9_of_57, z_X9_of_58, z_X9_of_59, z_X9_of_62, z_X9_of_65, z_X9_of_66, z_X9_of_67, z_X9_of_70, z_X9_of_73, z_X9_of_74, i_isNode h, b2_0, hP, and_self, not_true_eq_false, not_false_eq_true, m_in, i64_0, i64_7, hW, x1, x2, Nat.lt_irrefl, i_isHinted h hk, true_and, Option.toList_some, Option.toList_none, List.cons_append, List.nil_append, is2IT, is2RT, if_true, if_false]
            rw [if_pos hh, b2_f hh]
        · by_cases hK : nK N k = 0
          · simp only [z_X9_of_0, z_X9_of_1, z_X9_of_2, z_X9_of_5, z_X9_of_8, z_X9_of_9, z_X9_of_10, z_X9_of_11, z_X9_of_14, z_X9_of_17, z_X9_of_20, z_X9_of_22, z_X9_of_23, z_X9_of_24, z_X9_of_26, z_X9_of_29, z_X9_of_30, z_X9_of_31, z_X9_of_32, z_X9_of_35, z_X9_of_36, z_X9_of_37, z_X9_of_39, z_X9_of_42, z_X9_of_43, z_X9_of_44, z_X9_of_47, z_X9_of_50, z_X9_of_51, z_X9_of_54, z_X9_of_55, z_X9_of_56, z_X9_of_57, z_X9_of_58, z_X9_of_59, z_X9_of_62, z_X9_of_65, z_X9_of_66, z_X9_of_67, z_X9_of_70, z_X9_of_73, z_X9_of_74, i_isNode h, b2_0, hP, and_self, not_true_eq_false, not_false_eq_true, m_in, i64_0, i64_7, hW, c6, c6', d6, h6, h6', h8, i_is1 h hk, e0, hK, nI00, i_rowsOf h hk, true_and, Option.toList_some, Option.toList_none, List.cons_append, List.nil_append, is2IT, is2RT, if_true, if_false]
          · simp only [z_X9_of_0, z_X9_of_1, z_X9_of_2, z_X9_of_5, z_X9_of_8, z_X9_of_9, z_X9_of_10, z_X9_of_11, z_X9_of_14, z_X9_of_17, z_X9_of_20, z_X9_of_22, z_X9_of_23, z_X9_of_24, z_X9_of_26, z_X9_of_29, z_X9_of_30, z_X9_of_31, z_X9_of_32, z_X9_of_35, z_X9_of_36, z_X9_of_37, z_X9_of_39, z_X9_of_42, z_X9_of_43, z_X9_of_44, z_X9_of_47, z_X9_of_50, z_X9_of_51, z_X9_of_54, z_X9_of_55, z_X9_of_56, z_X9_of_57, z_X9_of_58, z_X9_of_59, z_X9_of_62, z_X9_of_65, z_X9_of_66, z_X9_of_67, z_X9_of_70, z_X9_of_73, z_X9_of_74, i_isNode h, b2_0, hP, and_self, not_true_eq_false, not_false_eq_true, m_in, i64_0, i64_7, hW, c6, c6', d6, h6, h6', h8, i_is1 h hk, e0, hK, true_and, Option.toList_some, Option.toList_none, List.cons_append, List.nil_append, is2IT, is2RT, if_true, if_false]
