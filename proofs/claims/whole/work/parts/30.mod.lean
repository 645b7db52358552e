/-! ===== the reference's methods ===== -/
theorem is2IT {x : Int32} : (is2 (vI x) = false) = True := eq_true rfl
theorem is2RT {o : Option Nat} {t : Nat} : (is2 (vO o t) = false) = True := eq_true rfl
def b2 (p : Prop) [Decidable p] : Int32 := if p then 1 else 0
theorem rI_wI {σ : St} {k i a b : Nat} {x : Int32} : rI (wI σ k i x) a b = if a = k ∧ b = i then x else rI σ a b := rfl
theorem rL_wI {σ : St} {k i : Nat} {x : Int32} {a b : Nat} : rL (wI σ k i x) a b = rL σ a b := rfl
theorem rR_wI {σ : St} {k i : Nat} {x : Int32} {a b : Nat} : rR (wI σ k i x) a b = rR σ a b := rfl
theorem sh_wI {σ : St} {k i : Nat} {x : Int32} {a : Nat} : sh (wI σ k i x) a = sh σ a := rfl
theorem rI_wL {σ : St} {k i : Nat} {x : Int64} {a b : Nat} : rI (wL σ k i x) a b = rI σ a b := rfl
theorem rR_wL {σ : St} {k i : Nat} {x : Int64} {a b : Nat} : rR (wL σ k i x) a b = rR σ a b := rfl
theorem sh_wL {σ : St} {k i : Nat} {x : Int64} {a : Nat} : sh (wL σ k i x) a = sh σ a := rfl
theorem rL_wL {σ : St} {k i a b : Nat} {x : Int64} : rL (wL σ k i x) a b = if a = k ∧ b = i then x else rL σ a b := rfl
set_option maxHeartbeats 1000000 in
theorem m_in {d : Nat} {Q : Option PV → St → Prop} {σ : St} {v a b : Int64} : Ca (d + 1) 121 [vL v, vL a, vL b] σ Q ↔ Q (some (vI (b2 (a ≤ v ∧ v ≤ b)))) σ := by
  rw [ca_at (K := kX9_in) (ls := [vL v, vU, vL a, vU, vL b, vU]) rfl rfl rfl]
  simp only [z_X9_in_0, z_X9_in_1, z_X9_in_2, z_X9_in_3, z_X9_in_6, z_X9_in_7, z_X9_in_9, z_X9_in_10, z_X9_in_13, z_X9_in_14, z_X9_in_17, z_X9_in_18, lg_cmp_lt, lg_cmp_gt]
  unfold b2
  by_cases h1 : a ≤ v
  · by_cases h2 : v ≤ b
    · simp [h1, h2, Int64.not_lt.mpr h1, Int64.not_lt.mpr h2, retOK]
    · simp [h1, h2, Int64.not_lt.mpr h1, Int64.not_le.mp h2, retOK]
  · simp [h1, Int64.not_le.mp h1, retOK]
theorem i64_le (a b : Int32) : a.toInt64 ≤ b.toInt64 ↔ a ≤ b := by
  rw [Int64.le_iff_toInt_le, Int32.le_iff_toInt_le, Int32.toInt_toInt64, Int32.toInt_toInt64]
theorem i64_0 (a : Int32) : (0 : Int64) ≤ a.toInt64 ↔ 0 ≤ a := i64_le 0 a
theorem inB_nI {n N : Nat} (h : n < N) (hN : N < 2 ^ 31) : inB (nI n) N = true := by
  unfold inB
  simp only [Bool.and_eq_true, Bool.not_eq_true', decide_eq_false_iff_not, decide_eq_true_eq]
  exact ⟨nI_pos (by omega), by rw [nI_clamp (by omega)]; exact h⟩
theorem le_pred {n : Int32} {m : Nat} (hm : m < 2 ^ 30) : n ≤ nI m - 1 ↔ n < nI m := by
  have h1 : (nI m - 1).toInt = (m : Int) - 1 := pk_sub_toInt (b := 1) (by omega) (by decide)
  rw [Int32.le_iff_toInt_le, Int32.lt_iff_toInt_lt, h1, nI_toInt (by omega)]; omega
theorem m_many {d : Nat} {Q : Option PV → St → Prop} {σ : St} (h : MF σ) : Ca (d + 1) 126 [vR 97 9] σ Q ↔ Q (some (vI (rI σ 98 252))) σ := by
  rw [ca_at (K := kX9_many) (ls := [vR 97 9]) rfl rfl rfl]
  simp only [z_X9_many_0, z_X9_many_1, z_X9_many_4, z_X9_many_7, z_X9_many_8, mf_r1 h, mf_r2 h, mf_r3 h, mf_r5 h, mf_r10 h, mf_r11 h, mf_r13 h, mf_r15 h, mf_r16 h, mf_r19 h, mf_r21 h, mf_r22 h, mf_r23 h, mf_r24 h, mf_r25 h, mf_r26 h, mf_r27 h, mf_r29 h, mf_r30 h, mf_r31 h, mf_r32 h, mf_s98 h, mf_s99 h, mf_s100 h, mf_s101 h, mf_s102 h, mf_s103 h, mf_s104 h, mf_s105 h, mf_s106 h, mf_s107 h, mf_s108 h, mf_s109 h, mf_s110 h, mf_s111 h, mf_s112 h, mf_s113 h, mf_s114 h, mf_s115 h, mf_s116 h, mf_s117 h, mf_s118 h, true_and]
  rw [show inB (252 : Int32) 253 = true by decide]
  simp only [true_and]; rfl
theorem m_is {d : Nat} {Q : Option PV → St → Prop} {σ : St} (h : MF σ) {k w : Nat} (hk : 36 * k + w < 253) : Ca (d + 1) 127 [vR 97 9, vI (nI k), vI (nI w)] σ Q ↔ Q (some (vI (rI σ 98 (36 * k + w)))) σ := by
  rw [ca_at (K := kX9_is) (ls := [vR 97 9, vI (nI k), vI (nI w)]) rfl rfl rfl]
  simp only [z_X9_is_0, z_X9_is_1, z_X9_is_4, z_X9_is_6, z_X9_is_7, z_X9_is_8, z_X9_is_9, z_X9_is_10, z_X9_is_11, mf_r1 h, mf_r2 h, mf_r3 h, mf_r5 h, mf_r10 h, mf_r11 h, mf_r13 h, mf_r15 h, mf_r16 h, mf_r19 h, mf_r21 h, mf_r22 h, mf_r23 h, mf_r24 h, mf_r25 h, mf_r26 h, mf_r27 h, mf_r29 h, mf_r30 h, mf_r31 h, mf_r32 h, mf_s98 h, mf_s99 h, mf_s100 h, mf_s101 h, mf_s102 h, mf_s103 h, mf_s104 h, mf_s105 h, mf_s106 h, mf_s107 h, mf_s108 h, mf_s109 h, mf_s110 h, mf_s111 h, mf_s112 h, mf_s113 h, mf_s114 h, mf_s115 h, mf_s116 h, mf_s117 h, mf_s118 h, true_and]
  have e : (36 : Int32) * nI k + nI w = nI (36 * k + w) := by
    rw [show (36 : Int32) = nI 36 from rfl, pk_mul, nI_add]
  rw [e, inB_nI hk (by decide), nI_clamp (by omega)]
  simp only [true_and]
theorem m_isNode {d : Nat} {Q : Option PV → St → Prop} {σ : St} (h : MF σ) {m : Nat} (hm : rI σ 98 252 = nI m) (hm7 : m ≤ 7) {n : Int32} : Ca (d + 2) 128 [vR 97 9, vI n] σ Q ↔ Q (some (vI (b2 (0 ≤ n ∧ n < nI m)))) σ := by
  rw [ca_at (K := kX9_isNode) (ls := [vR 97 9, vI n]) rfl rfl rfl]
  simp only [z_X9_isNode_0, z_X9_isNode_1, z_X9_isNode_2, z_X9_isNode_3, z_X9_isNode_4, z_X9_isNode_7, z_X9_isNode_8, z_X9_isNode_9, z_X9_isNode_10, z_X9_isNode_13, mf_r1 h, mf_r2 h, mf_r3 h, mf_r5 h, mf_r10 h, mf_r11 h, mf_r13 h, mf_r15 h, mf_r16 h, mf_r19 h, mf_r21 h, mf_r22 h, mf_r23 h, mf_r24 h, mf_r25 h, mf_r26 h, mf_r27 h, mf_r29 h, mf_r30 h, mf_r31 h, mf_r32 h, mf_s98 h, mf_s99 h, mf_s100 h, mf_s101 h, mf_s102 h, mf_s103 h, mf_s104 h, mf_s105 h, mf_s106 h, mf_s107 h, mf_s108 h, mf_s109 h, mf_s110 h, mf_s111 h, mf_s112 h, mf_s113 h, mf_s114 h, mf_s115 h, mf_s116 h, mf_s117 h, mf_s118 h, true_and, m_many h, m_in, hm, Option.toList_some, List.cons_append, List.nil_append]
  simp only [i64_0, i64_le, le_pred (show m < 2 ^ 30 by omega)]
  have : retOK (some .boolean) (b2 (0 ≤ n ∧ n < nI m)) = true := by unfold b2; split <;> rfl
  simp only [this, true_and]
