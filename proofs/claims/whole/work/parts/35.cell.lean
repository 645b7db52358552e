/-! ===== cell, of, feed of the reference ===== -/
theorem rowsN_9 {σ : St} {N : Net} {k : Nat} (h : MI σ N) (hk : k < nM N) : 1 ≤ rowsN N k ∧ rowsN N k ≤ 9 := by
  have a : ∀ o : Option Nat, (∀ j, o = some j → j < nM N) → 1 ≤ (match o with | none => 1 | some j => nS N j) ∧ (match o with | none => 1 | some j => nS N j) ≤ 3 := fun o ho => by
    cases o with
    | none => exact ⟨Nat.le_refl 1, show 1 ≤ 3 by decide⟩
    | some j =>
      have := NV_s h (ho j rfl)
      exact ⟨by show 1 ≤ nS N j; omega, by show nS N j ≤ 3; omega⟩
  have p := a (nP N k) (fun j hj => Nat.lt_trans (NV_p h hk hj) hk)
  have q := a (nQ N k) (fun j hj => Nat.lt_trans (NV_q h hk hj) hk)
  exact ⟨Nat.mul_le_mul p.1 q.1, Nat.mul_le_mul p.2 q.2⟩
theorem NV_k {σ : St} {N : Net} {k : Nat} (h : MI σ N) (hk : k < nM N) : nK N k ≤ 3 := (h.2.2.2 k hk).2.1
theorem i_isT {d : Nat} {Q : Option PV → St → Prop} {σ : St} {N : Net} {k r v : Nat} (h : MI σ N) (hk : k < nM N) (hr : r < 9) (hv : v < 3) : Ca (d + 1) 127 [vR 97 9, vI (nI k), vI (nI (9 + (3 * r + v)))] σ Q ↔ Q (some (vI (nI (nT N k r v)))) σ := by
  have := MI_7 h
  rw [m_is h.1 (by omega), (h.2.1.2 k hk).2.2.2.2.2.2.2 r hr v hv]
theorem nI00 : (nI 0 = (0 : Int32)) = True := eq_true rfl
def cellS (N : Net) (n r v : Int32) : Int32 := match pN (nM N) n with
  | none => -2
  | some k => if nK N k = 0 then match pN (rowsN N k) r with
    | none => -12
    | some i => match pN (nS N k) v with
      | none => -2
      | some u => nI (nT N k i u)
    else -13
theorem m_cell {d : Nat} {Q : Option PV → St → Prop} {σ : St} {N : Net} {n r v : Int32} (h : MI σ N) : Ca (d + 3) 140 [vR 97 9, vI n, vI r, vI v] σ Q ↔ Q (some (vI (cellS N n r v))) σ := by
  have h7 := MI_7 h
  rw [ca_at (K := kX9_cell) (ls := [vR 97 9, vI n, vI r, vI v]) rfl rfl rfl]
  unfold cellS
  cases hp : pN (nM N) n with
  | none =>
    have hP := pN_none.mp hp
    simp only [z_X9_cell_0, z_X9_cell_1, z_X9_cell_2, z_X9_cell_5, z_X9_cell_8, z_X9_cell_10, z_X9_cell_11, z_X9_cell_12, z_X9_cell_13, z_X9_cell_14, z_X9_cell_17, z_X9_cell_20, z_X9_cell_22, z_X9_cell_23, z_X9_cell_24, z_X9_cell_25, z_X9_cell_26, z_X9_cell_27, z_X9_cell_28, z_X9_cell_31, z_X9_cell_32, z_X9_cell_33, z_X9_cell_34, z_X9_cell_37, z_X9_cell_40, z_X9_cell_42, z_X9_cell_43, z_X9_cell_44, z_X9_cell_45, z_X9_cell_46, z_X9_cell_49, z_X9_cell_52, z_X9_cell_53, z_X9_cell_54, z_X9_cell_56, z_X9_cell_57, z_X9_cell_58, z_X9_cell_59, z_X9_cell_60, z_X9_cell_61, z_X9_cell_62, z_X9_cell_65, z_X9_cell_68, z_X9_cell_70, i_isNode h, b2_0, hP, not_false_eq_true, true_and, Option.toList_some, Option.toList_none, List.cons_append, List.nil_append, is2IT, is2RT, if_true, if_false]
  | some k =>
    obtain ⟨hk, rfl⟩ := (pN_some (by omega)).mp hp
    have hP : 0 ≤ nI k ∧ nI k < nI (nM N) := (lt_nI (by omega)).mpr ⟨k, hk, rfl⟩
    have hR := rowsN_9 h hk
    have hs := NV_s h hk
    have h3 := NV_k h hk
    have e0 : (nI (nK N k) = 0) = (nK N k = 0) := propext (nI_eq (b := 0) (by omega) (by decide))
    by_cases hK : nK N k = 0
    · cases hr : pN (rowsN N k) r with
      | none =>
        have hr' := pN_none.mp hr
        simp only [z_X9_cell_0, z_X9_cell_1, z_X9_cell_2, z_X9_cell_5, z_X9_cell_8, z_X9_cell_10, z_X9_cell_11, z_X9_cell_12, z_X9_cell_13, z_X9_cell_14, z_X9_cell_17, z_X9_cell_20, z_X9_cell_22, z_X9_cell_23, z_X9_cell_24, z_X9_cell_25, z_X9_cell_26, z_X9_cell_27, z_X9_cell_28, z_X9_cell_31, z_X9_cell_32, z_X9_cell_33, z_X9_cell_34, z_X9_cell_37, z_X9_cell_40, z_X9_cell_42, z_X9_cell_43, z_X9_cell_44, z_X9_cell_45, z_X9_cell_46, z_X9_cell_49, z_X9_cell_52, z_X9_cell_53, z_X9_cell_54, z_X9_cell_56, z_X9_cell_57, z_X9_cell_58, z_X9_cell_59, z_X9_cell_60, z_X9_cell_61, z_X9_cell_62, z_X9_cell_65, z_X9_cell_68, z_X9_cell_70, i_isNode h, b2_0, hP, and_self, not_true_eq_false, not_false_eq_true, i_is1 h hk, e0, hK, nI00, m_in, i_rowsOf h hk, i64_0, i64_le, le_pred (show rowsN N k < 2 ^ 30 by omega), hr', hr, true_and, Option.toList_some, Option.toList_none, List.cons_append, List.nil_append, is2IT, is2RT, if_true, if_false]
      | some i =>
        obtain ⟨hi, rfl⟩ := (pN_some (by omega)).mp hr
        have hr' : 0 ≤ nI i ∧ nI i < nI (rowsN N k) := (lt_nI (by omega)).mpr ⟨i, hi, rfl⟩
        cases hv : pN (nS N k) v with
        | none =>
          have hv' := pN_none.mp hv
          simp only [z_X9_cell_0, z_X9_cell_1, z_X9_cell_2, z_X9_cell_5, z_X9_cell_8, z_X9_cell_10, z_X9_cell_11, z_X9_cell_12, z_X9_cell_13, z_X9_cell_14, z_X9_cell_17, z_X9_cell_20, z_X9_cell_22, z_X9_cell_23, z_X9_cell_24, z_X9_cell_25, z_X9_cell_26, z_X9_cell_27, z_X9_cell_28, z_X9_cell_31, z_X9_cell_32, z_X9_cell_33, z_X9_cell_34, z_X9_cell_37, z_X9_cell_40, z_X9_cell_42, z_X9_cell_43, z_X9_cell_44, z_X9_cell_45, z_X9_cell_46, z_X9_cell_49, z_X9_cell_52, z_X9_cell_53, z_X9_cell_54, z_X9_cell_56, z_X9_cell_57, z_X9_cell_58, z_X9_cell_59, z_X9_cell_60, z_X9_cell_61, z_X9_cell_62, z_X9_cell_65, z_X9_cell_68, z_X9_cell_70, i_isNode h, b2_0, hP, and_self, not_true_eq_false, not_false_eq_true, i_is1 h hk, e0, hK, nI00, m_in, i_rowsOf h hk, i64_0, i64_le, le_pred (show rowsN N k < 2 ^ 30 by omega), hr', hr, i_isValue h hk, hv', hv, true_and, Option.toList_some, Option.toList_none, List.cons_append, List.nil_append, is2IT, is2RT, if_true, if_false]
        | some u =>
          obtain ⟨hu, rfl⟩ := (pN_some (by omega)).mp hv
          have hv' : 0 ≤ nI u ∧ nI u < nI (nS N k) := (lt_nI (by omega)).mpr ⟨u, hu, rfl⟩
          have e9 : (9 : Int32) + 3 * nI i + nI u = nI (9 + (3 * i + u)) := by rw [show (9 : Int32) = nI 9 from rfl, show (3 : Int32) = nI 3 from rfl, pk_mul, nI_add, nI_add, Nat.add_assoc]
          simp only [z_X9_cell_0, z_X9_cell_1, z_X9_cell_2, z_X9_cell_5, z_X9_cell_8, z_X9_cell_10, z_X9_cell_11, z_X9_cell_12, z_X9_cell_13, z_X9_cell_14, z_X9_cell_17, z_X9_cell_20, z_X9_cell_22, z_X9_cell_23, z_X9_cell_24, z_X9_cell_25, z_X9_cell_26, z_X9_cell_27, z_X9_cell_28, z_X9_cell_31, z_X9_cell_32, z_X9_cell_33, z_X9_cell_34, z_X9_cell_37, z_X9_cell_40, z_X9_cell_42, z_X9_cell_43, z_X9_cell_44, z_X9_cell_45, z_X9_cell_46, z_X9_cell_49, z_X9_cell_52, z_X9_cell_53, z_X9_cell_54, z_X9_cell_56, z_X9_cell_57, z_X9_cell_58, z_X9_cell_59, z_X9_cell_60, z_X9_cell_61, z_X9_cell_62, z_X9_cell_65, z_X9_cell_68, z_X9_cell_70, i_isNode h, b2_0, hP, and_self, not_true_eq_false, not_false_eq_true, i_is1 h hk, e0, hK, nI00, m_in, i_rowsOf h hk, i64_0, i64_le, le_pred (show rowsN N k < 2 ^ 30 by omega), hr', hr, i_isValue h hk, hv', hv, e9, i_isT h hk (show i < 9 by omega) (show u < 3 by omega), true_and, Option.toList_some, Option.toList_none, List.cons_append, List.nil_append, is2IT, is2RT, if_true, if_false]
    · simp only [z_X9_cell_0, z_X9_cell_1, z_X9_cell_2, z_X9_cell_5, z_X9_cell_8, z_X9_cell_10, z_X9_cell_11, z_X9_cell_12, z_X9_cell_13, z_X9_cell_14, z_X9_cell_17, z_X9_cell_20, z_X9_cell_22, z_X9_cell_23, z_X9_cell_24, z_X9_cell_25, z_X9_cell_26, z_X9_cell_27, z_X9_cell_28, z_X9_cell_31, z_X9_cell_32, z_X9_cell_33, z_X9_cell_34, z_X9_cell_37, z_X9_cell_40, z_X9_cell_42, z_X9_cell_43, z_X9_cell_44, z_X9_cell_45, z_X9_cell_46, z_X9_cell_49, z_X9_cell_52, z_X9_cell_53, z_X9_cell_54, z_X9_cell_56, z_X9_cell_57, z_X9_cell_58, z_X9_cell_59, z_X9_cell_60, z_X9_cell_61, z_X9_cell_62, z_X9_cell_65, z_X9_cell_68, z_X9_cell_70, i_isNode h, b2_0, hP, and_self, not_true_eq_false, not_false_eq_true, i_is1 h hk, e0, hK, nI00, true_and, Option.toList_some, Option.toList_none, List.cons_append, List.nil_append, is2IT, is2RT, if_true, if_false]
