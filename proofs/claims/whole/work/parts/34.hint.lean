/-! ===== hint, of, cell of the reference ===== -/
theorem rk_b0 : (retOK (some .boolean) 0 = true) = True := eq_true rfl
theorem rk_b1 : (retOK (some .boolean) 1 = true) = True := eq_true rfl
theorem b2_t {p : Prop} [Decidable p] (h : p) : b2 p = 1 := if_pos h
theorem b2_f {p : Prop} [Decidable p] (h : ¬ p) : b2 p = 0 := if_neg h
def hinB (N : Net) (k : Nat) : Bool := decide (nH N k 0 ≠ nH N k 1 ∨ nS N k = 3 ∧ nH N k 0 ≠ nH N k 2)
abbrev hinN (N : Net) (k : Nat) : Prop := hinB N k = true
theorem NV_h {σ : St} {N : Net} {k : Nat} (h : MI σ N) (hk : k < nM N) {v : Nat} (hv : v < 3) : nH N k v ≤ 9 := (h.2.2.2 k hk).2.2.2.2.2.2.2.1 v hv
theorem i_isHinted {d : Nat} {Q : Option PV → St → Prop} {σ : St} {N : Net} {k : Nat} (h : MI σ N) (hk : k < nM N) : Ca (d + 2) 137 [vR 97 9, vI (nI k)] σ Q ↔ Q (some (vI (b2 (hinN N k)))) σ := by
  have a0 := NV_h h hk (v := 0) (by decide)
  have a1 := NV_h h hk (v := 1) (by decide)
  have a2 := NV_h h hk (v := 2) (by decide)
  have hs := NV_s h hk
  have e3 : (3 : Int32) = nI 3 := rfl
  rw [ca_at (K := kX9_isHinted) (ls := [vR 97 9, vI (nI k)]) rfl rfl rfl]
  simp only [z_X9_isHinted_0, z_X9_isHinted_1, z_X9_isHinted_2, z_X9_isHinted_4, z_X9_isHinted_7, z_X9_isHinted_8, z_X9_isHinted_9, z_X9_isHinted_11, z_X9_isHinted_14, z_X9_isHinted_17, z_X9_isHinted_18, z_X9_isHinted_19, z_X9_isHinted_20, z_X9_isHinted_23, z_X9_isHinted_24, z_X9_isHinted_27, z_X9_isHinted_28, z_X9_isHinted_29, z_X9_isHinted_31, z_X9_isHinted_34, z_X9_isHinted_35, z_X9_isHinted_36, z_X9_isHinted_38, z_X9_isHinted_41, z_X9_isHinted_44, z_X9_isHinted_45, z_X9_isHinted_48, z_X9_isHinted_49, i_is6 h hk, i_is7 h hk, i_is8 h hk, i_is0 h hk, e3, rk_b0, rk_b1, true_and, Option.toList_some, Option.toList_none, List.cons_append, List.nil_append, is2IT, is2RT, if_true, if_false]
  simp only [nI_eq (show nH N k 0 < 2 ^ 31 by omega) (show nH N k 1 < 2 ^ 31 by omega), nI_eq (show nH N k 0 < 2 ^ 31 by omega) (show nH N k 2 < 2 ^ 31 by omega), nI_eq (show nS N k < 2 ^ 31 by omega) (show 3 < 2 ^ 31 by decide)]
  by_cases c1 : nH N k 0 = nH N k 1
  · by_cases c2 : nS N k = 3
    · by_cases c3 : nH N k 0 = nH N k 2
      · rw [if_pos c1, if_pos c2, if_pos c3, b2_f (fun q => (of_decide_eq_true q).elim (fun w => w c1) (fun w => w.2 c3))]
      · rw [if_pos c1, if_pos c2, if_neg c3, b2_t (show hinN N k from decide_eq_true (Or.inr ⟨c2, c3⟩))]
    · rw [if_pos c1, if_neg c2, b2_f (fun q => (of_decide_eq_true q).elim (fun w => w c1) (fun w => c2 w.1))]
  · rw [if_neg c1, b2_t (show hinN N k from decide_eq_true (Or.inl c1))]
theorem i64_9 (a : Int32) : a.toInt64 ≤ (9 : Int64) ↔ a < nI 10 := (i64_le a 9).trans (le_pred (n := a) (m := 10) (by decide))
def setH (N : Net) (k a b c : Nat) : Net := (N.1, N.2.1, fun j v => if j = k then (if v = 0 then a else if v = 1 then b else c) else nH N j v, N.2.2.2)
def hintS (N : Net) (n a b c : Int32) : Int32 × Net := match pN (nM N) n with
  | none => (-2, N)
  | some k => if (0 ≤ a ∧ a < nI 10) ∧ (0 ≤ b ∧ b < nI 10) ∧ 0 ≤ c ∧ c < nI 10 then (b2 (hinN N k), setH N k a.toNatClampNeg b.toNatClampNeg c.toNatClampNeg) else (-2, N)
theorem setH_NV {N : Net} (h : NV N) {k a b c : Nat} (ha : a < 10) (hb : b < 10) (hc : c < 10) : NV (setH N k a b c) := by
  refine ⟨h.1, fun j hj => ?_⟩
  obtain ⟨a1, a2, a3, a4, a5, a6, a7, a8, a9⟩ := h.2 j hj
  refine ⟨a1, a2, a3, a4, a5, a6, a7, fun v hv => ?_, a9⟩
  show (if j = k then (if v = 0 then a else if v = 1 then b else c) else nH N j v) ≤ 9
  have := a8 v hv
  split
  · split
    · omega
    · split <;> omega
  · exact this
theorem setH_MN {σ : St} {x : Nat} {N : Net} (h : MN σ x N) {k a b c : Nat} : MN (wI (wI (wI σ x (36 * k + 6) (nI a)) x (36 * k + 7) (nI b)) x (36 * k + 8) (nI c)) x (setH N k a b c) := by
  have hi : ∀ i, i ≠ 36 * k + 6 → i ≠ 36 * k + 7 → i ≠ 36 * k + 8 → rI (wI (wI (wI σ x (36 * k + 6) (nI a)) x (36 * k + 7) (nI b)) x (36 * k + 8) (nI c)) x i = rI σ x i := fun i h1 h2 h3 => by
    rw [rI_wI, if_neg (fun q => h3 q.2), rI_wI, if_neg (fun q => h2 q.2), rI_wI, if_neg (fun q => h1 q.2)]
  refine ⟨?_, fun j hj => ?_⟩
  · by_cases hk : k < 7
    · rw [hi _ (by omega) (by omega) (by omega)]; exact h.1
    · rw [hi _ (by omega) (by omega) (by omega)]; exact h.1
  obtain ⟨a1, a2, a3, a4, a5, a6, a7, a8⟩ := h.2 j hj
  refine ⟨by rw [hi _ (by omega) (by omega) (by omega)]; exact a1, by rw [hi _ (by omega) (by omega) (by omega)]; exact a2, by rw [hi _ (by omega) (by omega) (by omega)]; exact a3, by rw [hi _ (by omega) (by omega) (by omega)]; exact a4, by rw [hi _ (by omega) (by omega) (by omega)]; exact a5, by rw [hi _ (by omega) (by omega) (by omega)]; exact a6, fun v hv => ?_, fun r hr v hv => by rw [hi _ (by omega) (by omega) (by omega)]; exact a8 r hr v hv⟩
  show _ = nI (if j = k then (if v = 0 then a else if v = 1 then b else c) else nH N j v)
  by_cases e : j = k
  · subst e
    rw [if_pos rfl, rI_wI, rI_wI, rI_wI]
    by_cases v0 : v = 0
    · subst v0; rw [if_neg (by omega), if_neg (by omega), if_pos (by omega), if_pos rfl]
    · by_cases v1 : v = 1
      · subst v1; rw [if_neg (by omega), if_pos (by omega), if_neg (by omega), if_pos rfl]
      · rw [if_pos (by omega), if_neg v0, if_neg v1]
  · rw [if_neg e, hi _ (by omega) (by omega) (by omega)]
    exact a7 v hv
theorem m_hint {d : Nat} {Q : Option PV → St → Prop} {σ : St} {S : MSt} {n a b c : Int32} (h : MS σ S) (hQ : ∀ σ', MS σ' ((hintS S.1 n a b c).2, S.2) → Fw9 σ σ' → Q (some (vI (hintS S.1 n a b c).1)) σ') : Ca (d + 3) 138 [vR 97 9, vI n, vI a, vI b, vI c] σ Q := by
  have hM := h.1
  have h7 := MI_7 hM
  rw [ca_at (K := kX9_hint) (ls := [vR 97 9, vI n, vI a, vI b, vI c, vU, vU]) rfl rfl rfl]
  cases hp : pN (nM S.1) n with
  | none =>
    have hP := pN_none.mp hp
    have e : hintS S.1 n a b c = (-2, S.1) := by unfold hintS; rw [hp]
    rw [e] at hQ
    simp only [z_X9_hint_0, z_X9_hint_1, z_X9_hint_2, z_X9_hint_5, z_X9_hint_8, z_X9_hint_9, z_X9_hint_10, z_X9_hint_11, z_X9_hint_14, z_X9_hint_17, z_X9_hint_20, z_X9_hint_21, z_X9_hint_22, z_X9_hint_23, z_X9_hint_26, z_X9_hint_29, z_X9_hint_32, z_X9_hint_34, z_X9_hint_35, z_X9_hint_36, z_X9_hint_39, z_X9_hint_42, z_X9_hint_45, z_X9_hint_47, z_X9_hint_48, z_X9_hint_49, z_X9_hint_50, z_X9_hint_53, z_X9_hint_56, z_X9_hint_57, z_X9_hint_60, z_X9_hint_61, z_X9_hint_63, z_X9_hint_65, z_X9_hint_66, z_X9_hint_67, z_X9_hint_69, z_X9_hint_70, z_X9_hint_72, z_X9_hint_73, z_X9_hint_76, z_X9_hint_78, z_X9_hint_79, z_X9_hint_80, z_X9_hint_81, z_X9_hint_84, z_X9_hint_86, z_X9_hint_87, z_X9_hint_88, z_X9_hint_89, z_X9_hint_90, z_X9_hint_91, z_X9_hint_94, z_X9_hint_96, z_X9_hint_97, z_X9_hint_98, z_X9_hint_100, z_X9_hint_101, z_X9_hint_103, i_isNode hM, b2_0, hP, not_false_eq_true, true_and, Option.toList_some, Option.toList_none, List.cons_append, List.nil_append, is2IT, is2RT, if_true, if_false]
    exact hQ σ h Fw9_rf
  | some k =>
    obtain ⟨hk, rfl⟩ := (pN_some (by omega)).mp hp
    have hP : 0 ≤ nI k ∧ nI k < nI (nM S.1) := (lt_nI (by omega)).mpr ⟨k, hk, rfl⟩
    by_cases ho : (0 ≤ a ∧ a < nI 10) ∧ (0 ≤ b ∧ b < nI 10) ∧ 0 ≤ c ∧ c < nI 10
    · have e : hintS S.1 (nI k) a b c = (b2 (hinN S.1 k), setH S.1 k a.toNatClampNeg b.toNatClampNeg c.toNatClampNeg) := by unfold hintS; rw [hp]; exact if_pos ho
      rw [e] at hQ
      obtain ⟨ha, hb, hc⟩ := ho
      have e0 : (36 : Int32) * nI k + 6 = nI (36 * k + 6) := by rw [show (36 : Int32) = nI 36 from rfl, show (6 : Int32) = nI 6 from rfl, pk_mul, nI_add]
      have e1 : nI (36 * k + 6) + (1 : Int32) = nI (36 * k + 7) := nI_add (36 * k + 6) 1
      have e2 : nI (36 * k + 6) + (2 : Int32) = nI (36 * k + 8) := nI_add (36 * k + 6) 2
      have i0 : inB (nI (36 * k + 6)) 253 = true := inB_nI (by omega) (by decide)
      have i1 : inB (nI (36 * k + 7)) 253 = true := inB_nI (by omega) (by decide)
      have i2 : inB (nI (36 * k + 8)) 253 = true := inB_nI (by omega) (by decide)
      have t0 : (nI (36 * k + 6)).toNatClampNeg = 36 * k + 6 := nI_clamp (by omega)
      have t1 : (nI (36 * k + 7)).toNatClampNeg = 36 * k + 7 := nI_clamp (by omega)
      have t2 : (nI (36 * k + 8)).toNatClampNeg = 36 * k + 8 := nI_clamp (by omega)
      have fin : Q (some (vI (b2 (hinN S.1 k)))) (wI (wI (wI σ 98 (36 * k + 6) a) 98 (36 * k + 7) b) 98 (36 * k + 8) c) := by
        obtain ⟨x, hx, rfl⟩ := (lt_nI (by decide)).mp ha
        obtain ⟨y, hy, rfl⟩ := (lt_nI (by decide)).mp hb
        obtain ⟨z, hz, rfl⟩ := (lt_nI (by decide)).mp hc
        rw [nI_clamp (by omega), nI_clamp (by omega), nI_clamp (by omega)] at hQ
        exact hQ _ (MS_web h (fun a ha => by rw [rI_wI_n ha, rI_wI_n ha, rI_wI_n ha]) (fun _ => rfl) (fun _ _ => rfl) rfl (setH_MN hM.2.1) (setH_NV hM.2.2 hx hy hz)) (Fw9_tr (Fw9_tr (Fw9_wI (by decide)) (Fw9_wI (by decide))) (Fw9_wI (by decide)))
      by_cases hh : hinN S.1 k
      · rw [b2_t hh] at fin
        simp only [z_X9_hint_0, z_X9_hint_1, z_X9_hint_2, z_X9_hint_5, z_X9_hint_8, z_X9_hint_9, z_X9_hint_10, z_X9_hint_11, z_X9_hint_14, z_X9_hint_17, z_X9_hint_20, z_X9_hint_21, z_X9_hint_22, z_X9_hint_23, z_X9_hint_26, z_X9_hint_29, z_X9_hint_32, z_X9_hint_34, z_X9_hint_35, z_X9_hint_36, z_X9_hint_39, z_X9_hint_42, z_X9_hint_45, z_X9_hint_47, z_X9_hint_48, z_X9_hint_49, z_X9_hint_50, z_X9_hint_53, z_X9_hint_56, z_X9_hint_57, z_X9_hint_60, z_X9_hint_61, z_X9_hint_63, z_X9_hint_65, z_X9_hint_66, z_X9_hint_67, z_X9_hint_69, z_X9_hint_70, z_X9_hint_72, z_X9_hint_73, z_X9_hint_76, z_X9_hint_78, z_X9_hint_79, z_X9_hint_80, z_X9_hint_81, z_X9_hint_84, z_X9_hint_86, z_X9_hint_87, z_X9_hint_88, z_X9_hint_89, z_X9_hint_90, z_X9_hint_91, z_X9_hint_94, z_X9_hint_96, z_X9_hint_97, z_X9_hint_98, z_X9_hint_100, z_X9_hint_101, z_X9_hint_103, i_isNode hM, b2_0, hP, m_in, i64_0, i64_9, ha, hb, hc, and_self, i_isHinted hM hk, not_true_eq_false, not_false_eq_true, true_and, Option.toList_some, Option.toList_none, List.cons_append, List.nil_append, is2IT, is2RT, if_true, if_false, mf_r1 hM.1, mf_r2 hM.1, mf_r3 hM.1, mf_r5 hM.1, mf_r10 hM.1, mf_r11 hM.1, mf_r13 hM.1, mf_r15 hM.1, mf_r16 hM.1, mf_r19 hM.1, mf_r21 hM.1, mf_r22 hM.1, mf_r23 hM.1, mf_r24 hM.1, mf_r25 hM.1, mf_r26 hM.1, mf_r27 hM.1, mf_r29 hM.1, mf_r30 hM.1, mf_r31 hM.1, mf_r32 hM.1, mf_s98 hM.1, mf_s99 hM.1, mf_s100 hM.1, mf_s101 hM.1, mf_s102 hM.1, mf_s103 hM.1, mf_s104 hM.1, mf_s105 hM.1, mf_s106 hM.1, mf_s107 hM.1, mf_s108 hM.1, mf_s109 hM.1, mf_s110 hM.1, mf_s111 hM.1, mf_s112 hM.1, mf_s113 hM.1, mf_s114 hM.1, mf_s115 hM.1, mf_s116 hM.1, mf_s117 hM.1, mf_s118 hM.1, rR_wI, sh_wI, e0, e1, e2, i0, i1, i2, t0, t1, t2]
        rw [if_neg (fun q => q hh)]
        exact fin
      · rw [b2_f hh] at fin
        simp only [z_X9_hint_0, z_X9_hint_1, z_X9_hint_2, z_X9_hint_5, z_X9_hint_8, z_X9_hint_9, z_X9_hint_10, z_X9_hint_11, z_X9_hint_14, z_X9_hint_17, z_X9_hint_20, z_X9_hint_21, z_X9_hint_22, z_X9_hint_23, z_X9_hint_26, z_X9_hint_29, z_X9_hint_32, z_X9_hint_34, z_X9_hint_35, z_X9_hint_36, z_X9_hint_39, z_X9_hint_42, z_X9_hint_45, z_X9_hint_47, z_X9_hint_48, z_X9_hint_49, z_X9_hint_50, z_X9_hint_53, z_X9_hint_56, z_X9_hint_57, z_X9_hint_60, z_X9_hint_61, z_X9_hint_63, z_X9_hint_65, z_X9_hint_66, z_X9_hint_67, z_X9_hint_69, z_X9_hint_70, z_X9_hint_72, z_X9_hint_73, z_X9_hint_76, z_X9_hint_78, z_X9_hint_79, z_X9_hint_80, z_X9_hint_81, z_X9_hint_84, z_X9_hint_86, z_X9_hint_87, z_X9_hint_88, z_X9_hint_89, z_X9_hint_90, z_X9_hint_91, z_X9_hint_94, z_X9_hint_96, z_X9_hint_97, z_X9_hint_98, z_X9_hint_100, z_X9_hint_101, z_X9_hint_103, i_isNode hM, b2_0, hP, m_in, i64_0, i64_9, ha, hb, hc, and_self, i_isHinted hM hk, not_true_eq_false, not_false_eq_true, true_and, Option.toList_some, Option.toList_none, List.cons_append, List.nil_append, is2IT, is2RT, if_true, if_false, mf_r1 hM.1, mf_r2 hM.1, mf_r3 hM.1, mf_r5 hM.1, mf_r10 hM.1, mf_r11 hM.1, mf_r13 hM.1, mf_r15 hM.1, mf_r16 hM.1, mf_r19 hM.1, mf_r21 hM.1, mf_r22 hM.1, mf_r23 hM.1, mf_r24 hM.1, mf_r25 hM.1, mf_r26 hM.1, mf_r27 hM.1, mf_r29 hM.1, mf_r30 hM.1, mf_r31 hM.1, mf_r32 hM.1, mf_s98 hM.1, mf_s99 hM.1, mf_s100 hM.1, mf_s101 hM.1, mf_s102 hM.1, mf_s103 hM.1, mf_s104 hM.1, mf_s105 hM.1, mf_s106 hM.1, mf_s107 hM.1, mf_s108 hM.1, mf_s109 hM.1, mf_s110 hM.1, mf_s111 hM.1, mf_s112 hM.1, mf_s113 hM.1, mf_s114 hM.1, mf_s115 hM.1, mf_s116 hM.1, mf_s117 hM.1, mf_s118 hM.1, rR_wI, sh_wI, e0, e1, e2, i0, i1, i2, t0, t1, t2]
        rw [if_pos hh]
        exact fin
    · have e : hintS S.1 (nI k) a b c = (-2, S.1) := by unfold hintS; rw [hp]; exact if_neg ho
      rw [e] at hQ
      by_cases ha : 0 ≤ a ∧ a < nI 10
      · by_cases hb : 0 ≤ b ∧ b < nI 10
        · have hc : ¬ (0 ≤ c ∧ c < nI 10) := fun hc => ho ⟨ha, hb, hc⟩
          simp only [z_X9_hint_0, z_X9_hint_1, z_X9_hint_2, z_X9_hint_5, z_X9_hint_8, z_X9_hint_9, z_X9_hint_10, z_X9_hint_11, z_X9_hint_14, z_X9_hint_17, z_X9_hint_20, z_X9_hint_21, z_X9_hint_22, z_X9_hint_23, z_X9_hint_26, z_X9_hint_29, z_X9_hint_32, z_X9_hint_34, z_X9_hint_35, z_X9_hint_36, z_X9_hint_39, z_X9_hint_42, z_X9_hint_45, z_X9_hint_47, z_X9_hint_48, z_X9_hint_49, z_X9_hint_50, z_X9_hint_53, z_X9_hint_56, z_X9_hint_57, z_X9_hint_60, z_X9_hint_61, z_X9_hint_63, z_X9_hint_65, z_X9_hint_66, z_X9_hint_67, z_X9_hint_69, z_X9_hint_70, z_X9_hint_72, z_X9_hint_73, z_X9_hint_76, z_X9_hint_78, z_X9_hint_79, z_X9_hint_80, z_X9_hint_81, z_X9_hint_84, z_X9_hint_86, z_X9_hint_87, z_X9_hint_88, z_X9_hint_89, z_X9_hint_90, z_X9_hint_91, z_X9_hint_94, z_X9_hint_96, z_X9_hint_97, z_X9_hint_98, z_X9_hint_100, z_X9_hint_101, z_X9_hint_103, i_isNode hM, b2_0, hP, m_in, i64_0, i64_9, ha, hb, hc, and_self, not_true_eq_false, not_false_eq_true, true_and, Option.toList_some, Option.toList_none, List.cons_append, List.nil_append, is2IT, is2RT, if_true, if_false]
          exact hQ σ h Fw9_rf
        · simp only [z_X9_hint_0, z_X9_hint_1, z_X9_hint_2, z_X9_hint_5, z_X9_hint_8, z_X9_hint_9, z_X9_hint_10, z_X9_hint_11, z_X9_hint_14, z_X9_hint_17, z_X9_hint_20, z_X9_hint_21, z_X9_hint_22, z_X9_hint_23, z_X9_hint_26, z_X9_hint_29, z_X9_hint_32, z_X9_hint_34, z_X9_hint_35, z_X9_hint_36, z_X9_hint_39, z_X9_hint_42, z_X9_hint_45, z_X9_hint_47, z_X9_hint_48, z_X9_hint_49, z_X9_hint_50, z_X9_hint_53, z_X9_hint_56, z_X9_hint_57, z_X9_hint_60, z_X9_hint_61, z_X9_hint_63, z_X9_hint_65, z_X9_hint_66, z_X9_hint_67, z_X9_hint_69, z_X9_hint_70, z_X9_hint_72, z_X9_hint_73, z_X9_hint_76, z_X9_hint_78, z_X9_hint_79, z_X9_hint_80, z_X9_hint_81, z_X9_hint_84, z_X9_hint_86, z_X9_hint_87, z_X9_hint_88, z_X9_hint_89, z_X9_hint_90, z_X9_hint_91, z_X9_hint_94, z_X9_hint_96, z_X9_hint_97, z_X9_hint_98, z_X9_hint_100, z_X9_hint_101, z_X9_hint_103, i_isNode hM, b2_0, hP, m_in, i64_0, i64_9, ha, hb, and_self, not_true_eq_false, not_false_eq_true, true_and, Option.toList_some, Option.toList_none, List.cons_append, List.nil_append, is2IT, is2RT, if_true, if_false]
          exact hQ σ h Fw9_rf
      · simp only [z_X9_hint_0, z_X9_hint_1, z_X9_hint_2, z_X9_hint_5, z_X9_hint_8, z_X9_hint_9, z_X9_hint_10, z_X9_hint_11, z_X9_hint_14, z_X9_hint_17, z_X9_hint_20, z_X9_hint_21, z_X9_hint_22, z_X9_hint_23, z_X9_hint_26, z_X9_hint_29, z_X9_hint_32, z_X9_hint_34, z_X9_hint_35, z_X9_hint_36, z_X9_hint_39, z_X9_hint_42, z_X9_hint_45, z_X9_hint_47, z_X9_hint_48, z_X9_hint_49, z_X9_hint_50, z_X9_hint_53, z_X9_hint_56, z_X9_hint_57, z_X9_hint_60, z_X9_hint_61, z_X9_hint_63, z_X9_hint_65, z_X9_hint_66, z_X9_hint_67, z_X9_hint_69, z_X9_hint_70, z_X9_hint_72, z_X9_hint_73, z_X9_hint_76, z_X9_hint_78, z_X9_hint_79, z_X9_hint_80, z_X9_hint_81, z_X9_hint_84, z_X9_hint_86, z_X9_hint_87, z_X9_hint_88, z_X9_hint_89, z_X9_hint_90, z_X9_hint_91, z_X9_hint_94, z_X9_hint_96, z_X9_hint_97, z_X9_hint_98, z_X9_hint_100, z_X9_hint_101, z_X9_hint_103, i_isNode hM, b2_0, hP, m_in, i64_0, i64_9, ha, and_self, not_true_eq_false, not_false_eq_true, true_and, Option.toList_some, Option.toList_none, List.cons_append, List.nil_append, is2IT, is2RT, if_true, if_false]
        exact hQ σ h Fw9_rf
