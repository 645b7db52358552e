/-! ===== the class: odds ===== -/
theorem gd_l {d : Nat} {Q : Option PV → St → Prop} {σ : St} {l0 l2 : PV} : ∀ m i a b l9 l10, b < 2 ^ m → a < 2 ^ 63 → b < 2 ^ 63 → i + 2 * m ≤ 900 → Q (some (vL (lN (Nat.gcd a b)))) σ → At d kX8_greatestDivisor 9 [l0, vU, l2, vU, vL (lN a), vU, vL (lN b), vU, vI (nI i), l9, l10] [] σ Q
  | 0, i, a, b, l9, l10, hm, ha, hb, hi, hQ => by
    have b0 : b = 0 := by
      have : b < 1 := hm
      omega
    subst b0
    rw [Nat.gcd_zero_right] at hQ
    have c : ¬ 1000 ≤ i := by omega
    simp (disch := first | exact is2I | exact is2R | omega) only [z_X8_greatestDivisor_9, z_X8_greatestDivisor_11, z_X8_greatestDivisor_14, z_X8_greatestDivisor_17, z_X8_greatestDivisor_19, z_X8_greatestDivisor_20, z_X8_greatestDivisor_21, kLLe, c, lg_cmp_eq, show lN 0 = (0 : Int64) from rfl, z_X8_greatestDivisor_45, z_X8_greatestDivisor_47, true_and, Option.toList_some, Option.toList_none, List.cons_append, List.nil_append, is2IT, is2RT, if_true, if_false]
    exact hQ
  | m + 1, i, a, b, l9, l10, hm, ha, hb, hi, hQ => by
    have c : ¬ 1000 ≤ i := by omega
    have e0 : (lN b = 0) = (b = 0) := propext (pk_lEQ (b := 0) hb (by decide))
    have nz : ∀ y : Nat, y < 2 ^ 63 → ¬ y = 0 → ((!(decide (lN y = 0))) = true) = True := fun y hy q => eq_true (by rw [decide_eq_false (show ¬ (lN y = 0) from fun z => q ((pk_lEQ (b := 0) hy (by decide)).mp z))]; rfl)
    have ev : ∀ i : Nat, nI i + (1 : Int32) = nI (i + 1) := fun i => nI_add i 1
    simp (disch := first | exact is2I | exact is2R | omega) only [z_X8_greatestDivisor_9, z_X8_greatestDivisor_11, z_X8_greatestDivisor_14, z_X8_greatestDivisor_17, z_X8_greatestDivisor_19, z_X8_greatestDivisor_20, z_X8_greatestDivisor_21, kLLe, c, lg_cmp_eq, e0, true_and, Option.toList_some, Option.toList_none, List.cons_append, List.nil_append, is2IT, is2RT, if_true, if_false]
    by_cases cb : b = 0
    · rw [if_pos cb]
      subst cb
      rw [Nat.gcd_zero_right] at hQ
      simp (disch := first | exact is2I | exact is2R | omega) only [z_X8_greatestDivisor_45, z_X8_greatestDivisor_47, true_and, Option.toList_some, Option.toList_none, List.cons_append, List.nil_append, is2IT, is2RT, if_true, if_false]
      exact hQ
    · rw [if_neg cb]
      have hm1 : a % b < b := Nat.mod_lt _ (by omega)
      have g1 : Nat.gcd a b = Nat.gcd b (a % b) := by rw [Nat.gcd_comm b (a % b), ← Nat.gcd_rec, Nat.gcd_comm b a]
      rw [g1] at hQ
      simp (disch := first | exact is2I | exact is2R | omega) only [z_X8_greatestDivisor_24, z_X8_greatestDivisor_26, z_X8_greatestDivisor_28, z_X8_greatestDivisor_29, z_X8_greatestDivisor_31, z_X8_greatestDivisor_33, z_X8_greatestDivisor_35, z_X8_greatestDivisor_37, z_X8_greatestDivisor_39, nz b hb cb, lN_rem ha hb cb, ev, true_and, Option.toList_some, Option.toList_none, List.cons_append, List.nil_append, is2IT, is2RT, if_true, if_false]
      rw [z_X8_greatestDivisor_42]
      have c2 : ¬ 1000 ≤ i + 1 := by omega
      have e02 : (lN (a % b) = 0) = (a % b = 0) := propext (pk_lEQ (b := 0) (by omega) (by decide))
      simp (disch := first | exact is2I | exact is2R | omega) only [z_X8_greatestDivisor_9, z_X8_greatestDivisor_11, z_X8_greatestDivisor_14, z_X8_greatestDivisor_17, z_X8_greatestDivisor_19, z_X8_greatestDivisor_20, z_X8_greatestDivisor_21, kLLe, c2, lg_cmp_eq, e02, true_and, Option.toList_some, Option.toList_none, List.cons_append, List.nil_append, is2IT, is2RT, if_true, if_false]
      by_cases cr : a % b = 0
      · rw [if_pos cr]
        rw [cr, Nat.gcd_zero_right] at hQ
        simp (disch := first | exact is2I | exact is2R | omega) only [z_X8_greatestDivisor_45, z_X8_greatestDivisor_47, true_and, Option.toList_some, Option.toList_none, List.cons_append, List.nil_append, is2IT, is2RT, if_true, if_false]
        exact hQ
      · rw [if_neg cr]
        have hm2 : b % (a % b) < a % b := Nat.mod_lt _ (by omega)
        have g2 : Nat.gcd b (a % b) = Nat.gcd (a % b) (b % (a % b)) := by rw [Nat.gcd_comm (a % b) (b % (a % b)), ← Nat.gcd_rec, Nat.gcd_comm (a % b) b]
        rw [g2] at hQ
        have half : 2 * (b % (a % b)) < b := by
          have dm := Nat.div_add_mod b (a % b)
          have q1 : 1 ≤ b / (a % b) := (Nat.le_div_iff_mul_le (by omega)).mpr (by omega)
          have q2 : (a % b) * 1 ≤ (a % b) * (b / (a % b)) := Nat.mul_le_mul (Nat.le_refl _) q1
          omega
        have pw : 2 ^ (m + 1) = 2 ^ m * 2 := Nat.pow_succ 2 m
        simp (disch := first | exact is2I | exact is2R | omega) only [z_X8_greatestDivisor_24, z_X8_greatestDivisor_26, z_X8_greatestDivisor_28, z_X8_greatestDivisor_29, z_X8_greatestDivisor_31, z_X8_greatestDivisor_33, z_X8_greatestDivisor_35, z_X8_greatestDivisor_37, z_X8_greatestDivisor_39, nz (a % b) (by omega) cr, lN_rem hb (show a % b < 2 ^ 63 by omega) cr, ev, true_and, Option.toList_some, Option.toList_none, List.cons_append, List.nil_append, is2IT, is2RT, if_true, if_false]
        rw [z_X8_greatestDivisor_42]
        exact gd_l m (i + 1 + 1) (a % b) (b % (a % b)) _ _ (by omega) (by omega) (by omega) (by omega) hQ
theorem c_gcd {d : Nat} {Q : Option PV → St → Prop} {σ : St} {a b : Nat} (ha : a < 2 ^ 63) (hb : b < 2 ^ 63) (hQ : Q (some (vL (lN (Nat.gcd a b)))) σ) : Ca (d + 1) 115 [vL (lN a), vL (lN b)] σ Q := by
  rw [ca_at (K := kX8_greatestDivisor) (ls := [vL (lN a), vU, vL (lN b), vU, vU, vU, vU, vU, vU, vU, vU]) rfl rfl rfl]
  simp (disch := first | exact is2I | exact is2R | omega) only [z_X8_greatestDivisor_0, z_X8_greatestDivisor_1, z_X8_greatestDivisor_3, z_X8_greatestDivisor_4, z_X8_greatestDivisor_6, z_X8_greatestDivisor_7, true_and, Option.toList_some, Option.toList_none, List.cons_append, List.nil_append, is2IT, is2RT, if_true, if_false]
  exact gd_l 63 0 a b vU vU hb ha hb (by decide) hQ
theorem c_frac {d : Nat} {Q : Option PV → St → Prop} {σ : St} {a b : Nat} {l : Int32} (ha : a < 2 ^ 63) (hb : b < 2 ^ 63) (hQ : Q (some (vL (oddS a b l))) σ) : Ca (d + 2) 114 [vL (lN a), vL (lN b), vI l] σ Q := by
  rw [ca_at (K := kX8_fraction) (ls := [vL (lN a), vU, vL (lN b), vU, vI l, vU, vU]) rfl rfl rfl]
  have e0 : (lN b = 0) = (b = 0) := propext (pk_lEQ (b := 0) hb (by decide))
  unfold oddS at hQ
  simp (disch := first | exact is2I | exact is2R | omega) only [z_X8_fraction_0, z_X8_fraction_1, z_X8_fraction_2, z_X8_fraction_3, lg_cmp_eq, e0, true_and, Option.toList_some, Option.toList_none, List.cons_append, List.nil_append, is2IT, is2RT, if_true, if_false]
  by_cases cb : b = 0
  · rw [if_pos cb] at hQ ⊢
    simp only [z_X8_fraction_6, z_X8_fraction_9, true_and, Option.toList_some, Option.toList_none, List.cons_append, List.nil_append, is2IT, is2RT, if_true, if_false]
    exact hQ
  · rw [if_neg cb] at hQ ⊢
    have g0 : 0 < Nat.gcd a b := Nat.gcd_pos_of_pos_right a (by omega)
    have gb : Nat.gcd a b ≤ b := Nat.gcd_le_right a (by omega)
    have e1 : (lN (Nat.gcd a b) = 0) = False := eq_false (fun q => by have := (pk_lEQ (b := 0) (show Nat.gcd a b < 2 ^ 63 by omega) (by decide)).mp q; omega)
    simp (disch := first | exact is2I | exact is2R | omega) only [z_X8_fraction_10, z_X8_fraction_11, z_X8_fraction_12, true_and, Option.toList_some, Option.toList_none, List.cons_append, List.nil_append, is2IT, is2RT, if_true, if_false]
    refine c_gcd (d := d) ha hb ?_
    unfold lowS at hQ
    simp (disch := first | exact is2I | exact is2R | omega) only [z_X8_fraction_15, z_X8_fraction_17, z_X8_fraction_19, z_X8_fraction_20, z_X8_fraction_21, z_X8_fraction_24, z_X8_fraction_27, z_X8_fraction_28, z_X8_fraction_30, lg_cmp_eq, e1, Option.toList_some, List.cons_append, List.nil_append, true_and, Option.toList_some, Option.toList_none, List.cons_append, List.nil_append, is2IT, is2RT, if_true, if_false]
    by_cases c : l = 0
    · rw [if_pos c] at hQ ⊢
      simp (disch := first | exact is2I | exact is2R | omega) only [z_X8_fraction_33, z_X8_fraction_34, z_X8_fraction_37, z_X8_fraction_38, z_X8_fraction_40, z_X8_fraction_41, e1, decide_false, Bool.not_false, pk_lDiv ha g0 (show Nat.gcd a b < 2 ^ 63 by omega), true_and, Option.toList_some, Option.toList_none, List.cons_append, List.nil_append, is2IT, is2RT, if_true, if_false]
      exact hQ
    · rw [if_neg c] at hQ ⊢
      simp (disch := first | exact is2I | exact is2R | omega) only [z_X8_fraction_37, z_X8_fraction_38, z_X8_fraction_40, z_X8_fraction_41, e1, decide_false, Bool.not_false, pk_lDiv hb g0 (show Nat.gcd a b < 2 ^ 63 by omega), true_and, Option.toList_some, Option.toList_none, List.cons_append, List.nil_append, is2IT, is2RT, if_true, if_false]
      exact hQ
theorem Iwc_X {σ σ' : St} (h : Fm Iwc noL σ σ') : Xc σ σ' := Fm_mono h (fun a i q => by have := of_decide_eq_true q; exact decide_eq_true (by omega)) noL_t
theorem IwL_X {σ σ' : St} (h : Fm Iwc Lwc σ σ') : Xc σ σ' := Fm_mono h (fun a i q => by have := of_decide_eq_true q; exact decide_eq_true (by omega)) (fun a q => by have := Nat.eq_of_beq_eq_true q; exact decide_eq_true (by omega))
theorem CI_x {σ σ' : St} {N : Net} (h : CI σ 1 N) (hf : Xc σ σ') : CI σ' 1 N := ⟨XF_fm h.1 hf, h.2.1, WB_fm h.2.2.1 h.2.2.2.1 hf (fun a i q1 q2 => decide_eq_false (by omega)), h.2.2.2⟩
theorem mu2_1 {k u : Nat} : mu2 k u k u = mu1 k u := funext fun i => by
  unfold mu2 mu1
  by_cases c : i = k
  · rw [if_pos c, if_pos c]
  · rw [if_neg c, if_neg c]
theorem bthN_1 {N : Net} {k u : Nat} : bthN N k u k u = WT N (mu1 k u) := by
  unfold bthN
  rw [if_neg (fun q => q.2 rfl), mu2_1]
theorem bthN_63 {N : Net} (h : NV N) {k u j x : Nat} : bthN N k u j x < 2 ^ 63 := Nat.lt_of_le_of_lt (bthN_le h) (by decide)
theorem c_oddsIn {d w k u : Nat} {Q : Option PV → St → Prop} {σ : St} {N : Net} {l : Int32} (h : CI σ w N) (hk : k < nM N) (hu : u < nS N k) (hQ : ∀ σ', Fm Iwc noL σ σ' → Q (some (vL (oddS (WT N (mu1 k u)) (WT N no1) l))) σ') : Ca (d + 13) 116 [vR 0 8, vR w 6, vI (nI k), vI (nI u), vI l] σ Q := by
  have hX := h.1
  rw [ca_at (K := kX8_oddsIn) (ls := [vR 0 8, vR w 6, vI (nI k), vI (nI u), vI l]) rfl rfl rfl]
  simp (disch := first | exact is2I | exact is2R | omega) only [z_X8_oddsIn_0, z_X8_oddsIn_1, z_X8_oddsIn_4, z_X8_oddsIn_5, z_X8_oddsIn_6, z_X8_oddsIn_7, z_X8_oddsIn_8, z_X8_oddsIn_9, xf_r0_4 hX, true_and, Option.toList_some, Option.toList_none, List.cons_append, List.nil_append, is2IT, is2RT, if_true, if_false]
  refine c_weighBoth (d := d) h hk hu hk hu (fun σ1 q1 => ?_)
  have h1 := CI_fm h q1 (fun a i ha => decide_eq_false (by omega))
  simp (disch := first | exact is2I | exact is2R | omega) only [z_X8_oddsIn_12, z_X8_oddsIn_13, z_X8_oddsIn_16, z_X8_oddsIn_17, xf_r0_4 h1.1, Option.toList_some, List.cons_append, List.nil_append, true_and, Option.toList_some, Option.toList_none, List.cons_append, List.nil_append, is2IT, is2RT, if_true, if_false]
  refine c_weighAll (d := d) h1 (fun σ2 q2 => ?_)
  simp (disch := first | exact is2I | exact is2R | omega) only [z_X8_oddsIn_20, z_X8_oddsIn_22, Option.toList_some, List.cons_append, List.nil_append, true_and, Option.toList_some, Option.toList_none, List.cons_append, List.nil_append, is2IT, is2RT, if_true, if_false]
  rw [bthN_1]
  refine c_frac (d := d + 10) (WT_63 h.2.2.2) (WT_63 h.2.2.2) ?_
  simp (disch := first | exact is2I | exact is2R | omega) only [z_X8_oddsIn_25, Option.toList_some, List.cons_append, List.nil_append, true_and, Option.toList_some, Option.toList_none, List.cons_append, List.nil_append, is2IT, is2RT, if_true, if_false]
  exact hQ σ2 (Fm_tr q1 q2)
theorem x_weight {d : Nat} {Q : Option PV → St → Prop} {σ : St} {S : MSt} (h : XS σ S) (hQ : ∀ σ', Xc σ σ' → Q (some (vL (lN (WT S.1 no1)))) σ') : Ca (d + 13) 84 [vR 0 8] σ Q := by
  have hC := h.1
  have hX := hC.1
  rw [ca_at (K := kX8_weight) (ls := [vR 0 8]) rfl rfl rfl]
  simp (disch := first | exact is2I | exact is2R | omega) only [z_X8_weight_0, z_X8_weight_1, z_X8_weight_4, z_X8_weight_5, z_X8_weight_8, xf_r0_0 hX, xf_r0_4 hX, true_and, Option.toList_some, Option.toList_none, List.cons_append, List.nil_append, is2IT, is2RT, if_true, if_false]
  refine c_weighAll (d := d) hC (fun σ1 q1 => ?_)
  simp (disch := first | exact is2I | exact is2R | omega) only [z_X8_weight_11, Option.toList_some, List.cons_append, List.nil_append, true_and, Option.toList_some, Option.toList_none, List.cons_append, List.nil_append, is2IT, is2RT, if_true, if_false]
  exact hQ σ1 (Iwc_X q1)
theorem xpow_l {d m w : Nat} {Q : Option PV → St → Prop} {σ : St} (hm : m < 10) (hw : w < 2 ^ 63) (o : Option Nat) (hQ : Q (some (vL (match o with | none => NOl | some v => lN v))) σ) : ∀ f i v, i + f = m → v < 2 ^ 63 → powG w f v = o → At d kX8_power 32 [vR 0 8, vI (nI m), vL (lN w), vU, vL (lN v), vU, vI (nI i)] [] σ Q
  | 0, i, v, hi, hv, ho => by
    have : i = m := by omega
    subst this
    have ho' : o = some v := by rw [← ho]; rfl
    subst ho'
    simp (disch := first | exact is2I | exact is2R | omega) only [z_X8_power_32, z_X8_power_34, z_X8_power_35, z_X8_power_71, z_X8_power_73, kLe, Nat.le_refl, true_and, Option.toList_some, Option.toList_none, List.cons_append, List.nil_append, is2IT, is2RT, if_true, if_false]
    exact hQ
  | f + 1, i, v, hi, hv, ho => by
    have c : ¬ (m ≤ i) := by omega
    have e0 : (lN w = 0) = (w = 0) := propext (pk_lEQ (b := 0) hw (by decide))
    have l0 : (lN w ≤ 0) = (w ≤ 0) := propext (pk_lLE (b := 0) hw (by decide))
    have ev : nI i + (1 : Int32) = nI (i + 1) := nI_add i 1
    unfold powG at ho
    simp (disch := first | exact is2I | exact is2R | omega) only [z_X8_power_32, z_X8_power_34, z_X8_power_35, z_X8_power_38, z_X8_power_39, z_X8_power_40, z_X8_power_41, kLe, c, lg_cmp_le, l0, true_and, Option.toList_some, Option.toList_none, List.cons_append, List.nil_append, is2IT, is2RT, if_true, if_false]
    by_cases cw : w = 0
    · rw [if_pos (show w ≤ 0 by omega)]
      rw [if_neg (fun q => q.1 cw)] at ho
      subst cw
      simp (disch := first | exact is2I | exact is2R | omega) only [z_X8_power_59, z_X8_power_61, z_X8_power_62, z_X8_power_63, z_X8_power_65, lN_mul, ev, true_and, Option.toList_some, Option.toList_none, List.cons_append, List.nil_append, is2IT, is2RT, if_true, if_false]
      rw [z_X8_power_68]
      exact xpow_l hm hw o hQ f (i + 1) _ (by omega) (by rw [Nat.mul_zero]; decide) ho
    · rw [if_neg (show ¬ w ≤ 0 by omega)]
      have eM : (9223372036854775807 : Int64) = lN 9223372036854775807 := rfl
      have ed : (9223372036854775807 : Int64) / lN w = lN (9223372036854775807 / w) := by
        rw [eM]; exact pk_lDiv (by decide) (by omega) hw
      have hd : 9223372036854775807 / w ≤ 9223372036854775807 := Nat.div_le_self _ _
      have el : (lN v ≤ lN (9223372036854775807 / w)) = (v ≤ 9223372036854775807 / w) := propext (pk_lLE hv (by omega))
      simp (disch := first | exact is2I | exact is2R | omega) only [z_X8_power_44, z_X8_power_46, z_X8_power_49, z_X8_power_50, z_X8_power_51, z_X8_power_52, e0, cw, decide_false, Bool.not_false, ed, lg_cmp_le, el, true_and, Option.toList_some, Option.toList_none, List.cons_append, List.nil_append, is2IT, is2RT, if_true, if_false]
      by_cases cv : v ≤ 9223372036854775807 / w
      · rw [if_pos cv]
        rw [if_neg (fun q => absurd q.2 (Nat.not_lt.mpr cv))] at ho
        have hb : v * w ≤ 9223372036854775807 := (Nat.le_div_iff_mul_le (by omega)).mp cv
        simp (disch := first | exact is2I | exact is2R | omega) only [z_X8_power_59, z_X8_power_61, z_X8_power_62, z_X8_power_63, z_X8_power_65, lN_mul, ev, true_and, Option.toList_some, Option.toList_none, List.cons_append, List.nil_append, is2IT, is2RT, if_true, if_false]
        rw [z_X8_power_68]
        exact xpow_l hm hw o hQ f (i + 1) _ (by omega) (by omega) ho
      · rw [if_neg cv]
        rw [if_pos ⟨cw, Nat.lt_of_not_le cv⟩] at ho
        subst ho
        simp only [z_X8_power_55, z_X8_power_58, true_and, Option.toList_some, Option.toList_none, List.cons_append, List.nil_append, is2IT, is2RT, if_true, if_false]
        exact hQ
theorem x_power {d : Nat} {Q : Option PV → St → Prop} {σ : St} {S : MSt} {n : Int32} (h : XS σ S) (hQ : ∀ σ', Xc σ σ' → Q (some (vL (powF S.1 n))) σ') : Ca (d + 13) 85 [vR 0 8, vI n] σ Q := by
  have hC := h.1
  have hX := hC.1
  rw [ca_at (K := kX8_power) (ls := [vR 0 8, vI n, vU, vU, vU, vU, vU]) rfl rfl rfl]
  unfold powF at hQ
  have g9 : (n ≤ (9 : Int32)) = (n < nI 10) := propext ((Int32.not_lt (a := 9) (b := n)).symm.trans ((not_congr (Iff.of_eq (gtN (x := n) (n := 9) (by decide)))).trans Decidable.not_not))
  cases hp : pN 10 n with
  | none =>
    rw [hp] at hQ
    have hP := pN_none.mp hp
    have bad : At (d + 12) kX8_power 10 [vR 0 8, vI n, vU, vU, vU, vU, vU] [] σ Q := by
      simp only [z_X8_power_10, z_X8_power_13, true_and, Option.toList_some, Option.toList_none, List.cons_append, List.nil_append, is2IT, is2RT, if_true, if_false]
      exact hQ σ Fm_rf
    simp (disch := first | exact is2I | exact is2R | omega) only [z_X8_power_0, z_X8_power_1, ge0, true_and, Option.toList_some, Option.toList_none, List.cons_append, List.nil_append, is2IT, is2RT, if_true, if_false]
    by_cases c0 : 0 ≤ n
    · rw [if_neg (fun q => q c0)]
      simp (disch := first | exact is2I | exact is2R | omega) only [z_X8_power_4, z_X8_power_5, z_X8_power_7, g9, true_and, Option.toList_some, Option.toList_none, List.cons_append, List.nil_append, is2IT, is2RT, if_true, if_false]
      rw [if_neg (fun q => hP ⟨c0, q⟩)]
      exact bad
    · rw [if_pos c0]; exact bad
  | some m =>
    rw [hp] at hQ
    obtain ⟨hm, rfl⟩ := (pN_some (by decide)).mp hp
    have n0 : 0 ≤ nI m := nI_pos' (by omega)
    have n1 : nI m < nI 10 := (nI_ltI (by omega) (by decide)).mpr hm
    simp (disch := first | exact is2I | exact is2R | omega) only [z_X8_power_0, z_X8_power_1, z_X8_power_4, z_X8_power_5, z_X8_power_7, z_X8_power_10, z_X8_power_13, z_X8_power_14, z_X8_power_15, z_X8_power_18, z_X8_power_19, z_X8_power_22, ge0, g9, n0, n1, not_true_eq_false, xf_r0_0 hX, xf_r0_4 hX, true_and, Option.toList_some, Option.toList_none, List.cons_append, List.nil_append, is2IT, is2RT, if_true, if_false]
    refine c_weighAll (d := d) hC (fun σ1 q1 => ?_)
    simp (disch := first | exact is2I | exact is2R | omega) only [z_X8_power_25, z_X8_power_26, z_X8_power_27, z_X8_power_29, z_X8_power_30, Option.toList_some, List.cons_append, List.nil_append, true_and, Option.toList_some, Option.toList_none, List.cons_append, List.nil_append, is2IT, is2RT, if_true, if_false]
    exact xpow_l hm (WT_63 hC.2.2.2) _ (hQ σ1 (Iwc_X q1)) m 0 1 (by omega) (by decide) rfl
theorem x_odds {d : Nat} {Q : Option PV → St → Prop} {σ : St} {S : MSt} {n v l : Int32} (h : XS σ S) (hQ : ∀ σ', Xc σ σ' → Q (some (vL (oddsF S.1 n v l))) σ') : Ca (d + 14) 86 [vR 0 8, vI n, vI v, vI l] σ Q := by
  have hC := h.1
  have hX := hC.1
  rw [ca_at (K := kX8_odds) (ls := [vR 0 8, vI n, vI v, vI l]) rfl rfl rfl]
  unfold oddsF at hQ
  simp (disch := first | exact is2I | exact is2R | omega) only [z_X8_odds_0, z_X8_odds_1, z_X8_odds_4, z_X8_odds_5, z_X8_odds_6, z_X8_odds_9, xf_r0_0 hX, c_hasV hC, b2_0, true_and, Option.toList_some, Option.toList_none, List.cons_append, List.nil_append, is2IT, is2RT, if_true, if_false]
  have bad : (∀ σ', Xc σ σ' → Q (some (vL NOl)) σ') → At (d + 13) kX8_odds 19 [vR 0 8, vI n, vI v, vI l] [] σ Q := fun q => by
    simp only [z_X8_odds_19, z_X8_odds_22, true_and, Option.toList_some, Option.toList_none, List.cons_append, List.nil_append, is2IT, is2RT, if_true, if_false]
    exact q σ Fm_rf
  cases ha : askP S.1 n v with
  | none =>
    rw [ha] at hQ
    rw [if_pos (fun q => by cases q)]
    exact bad hQ
  | some p =>
    obtain ⟨k, u⟩ := p
    rw [ha] at hQ
    obtain ⟨hk, hu, rfl, rfl⟩ := (askP_some hC.2.2.2).mp ha
    dsimp only at hQ
    rw [if_neg (fun q => q rfl)]
    simp (disch := first | exact is2I | exact is2R | omega) only [z_X8_odds_12, z_X8_odds_13, z_X8_odds_16, c_isLine, b2_0, true_and, Option.toList_some, Option.toList_none, List.cons_append, List.nil_append, is2IT, is2RT, if_true, if_false]
    by_cases hl : 0 ≤ l ∧ l < nI 2
    · rw [if_pos hl] at hQ
      rw [if_neg (fun q => q hl)]
      simp (disch := first | exact is2I | exact is2R | omega) only [z_X8_odds_23, z_X8_odds_24, z_X8_odds_25, z_X8_odds_28, z_X8_odds_29, z_X8_odds_30, z_X8_odds_31, xf_r0_0 hX, true_and, Option.toList_some, Option.toList_none, List.cons_append, List.nil_append, is2IT, is2RT, if_true, if_false]
      refine c_oddsIn (d := d) hC hk hu (fun σ1 q1 => ?_)
      simp (disch := first | exact is2I | exact is2R | omega) only [z_X8_odds_34, Option.toList_some, List.cons_append, List.nil_append, true_and, Option.toList_some, Option.toList_none, List.cons_append, List.nil_append, is2IT, is2RT, if_true, if_false]
      exact hQ σ1 (Iwc_X q1)
    · rw [if_neg hl] at hQ
      rw [if_pos hl]
      exact bad hQ
theorem x_both {d : Nat} {Q : Option PV → St → Prop} {σ : St} {S : MSt} {n v o w l : Int32} (h : XS σ S) (hQ : ∀ σ', Xc σ σ' → Q (some (vL (bothF S.1 n v o w l))) σ') : Ca (d + 13) 87 [vR 0 8, vI n, vI v, vI o, vI w, vI l] σ Q := by
  have hC := h.1
  have hX := hC.1
  rw [ca_at (K := kX8_both) (ls := [vR 0 8, vI n, vI v, vI o, vI w, vI l]) rfl rfl rfl]
  unfold bothF at hQ
  simp (disch := first | exact is2I | exact is2R | omega) only [z_X8_both_0, z_X8_both_1, z_X8_both_4, z_X8_both_5, z_X8_both_6, z_X8_both_9, xf_r0_0 hX, c_hasV hC, b2_0, true_and, Option.toList_some, Option.toList_none, List.cons_append, List.nil_append, is2IT, is2RT, if_true, if_false]
  have bad : (∀ σ', Xc σ σ' → Q (some (vL NOl)) σ') → At (d + 12) kX8_both 33 [vR 0 8, vI n, vI v, vI o, vI w, vI l] [] σ Q := fun q => by
    simp only [z_X8_both_33, z_X8_both_36, true_and, Option.toList_some, Option.toList_none, List.cons_append, List.nil_append, is2IT, is2RT, if_true, if_false]
    exact q σ Fm_rf
  cases ha : askP S.1 n v with
  | none =>
    rw [ha] at hQ
    rw [if_pos (fun q => by cases q)]
    exact bad hQ
  | some p =>
    obtain ⟨k, u⟩ := p
    rw [ha] at hQ
    obtain ⟨hk, hu, rfl, rfl⟩ := (askP_some hC.2.2.2).mp ha
    dsimp only at hQ
    rw [if_neg (fun q => q rfl)]
    simp (disch := first | exact is2I | exact is2R | omega) only [z_X8_both_12, z_X8_both_13, z_X8_both_16, z_X8_both_17, z_X8_both_19, z_X8_both_22, xf_r0_0 hX, c_hasV hC, b2_0, true_and, Option.toList_some, Option.toList_none, List.cons_append, List.nil_append, is2IT, is2RT, if_true, if_false]
    cases hb : askP S.1 o w with
    | none =>
      rw [hb] at hQ
      rw [if_pos (fun q => by cases q)]
      exact bad hQ
    | some p =>
      obtain ⟨j, x⟩ := p
      rw [hb] at hQ
      obtain ⟨hj, hx, rfl, rfl⟩ := (askP_some hC.2.2.2).mp hb
      dsimp only at hQ
      rw [if_neg (fun q => q rfl)]
      simp (disch := first | exact is2I | exact is2R | omega) only [z_X8_both_25, z_X8_both_27, z_X8_both_30, c_isLine, b2_0, true_and, Option.toList_some, Option.toList_none, List.cons_append, List.nil_append, is2IT, is2RT, if_true, if_false]
      by_cases hl : 0 ≤ l ∧ l < nI 2
      · rw [if_pos hl] at hQ
        rw [if_neg (fun q => q hl)]
        simp (disch := first | exact is2I | exact is2R | omega) only [z_X8_both_37, z_X8_both_38, z_X8_both_41, z_X8_both_42, z_X8_both_45, z_X8_both_46, z_X8_both_47, z_X8_both_48, z_X8_both_50, xf_r0_0 hX, xf_r0_4 hX, true_and, Option.toList_some, Option.toList_none, List.cons_append, List.nil_append, is2IT, is2RT, if_true, if_false]
        refine c_weighBoth (d := d) hC hk hu hj hx (fun σ1 q1 => ?_)
        have h1 := CI_fm hC q1 (fun a i ha => decide_eq_false (by omega))
        simp (disch := first | exact is2I | exact is2R | omega) only [z_X8_both_53, z_X8_both_54, z_X8_both_57, z_X8_both_58, z_X8_both_61, xf_r0_0 h1.1, xf_r0_4 h1.1, Option.toList_some, List.cons_append, List.nil_append, true_and, Option.toList_some, Option.toList_none, List.cons_append, List.nil_append, is2IT, is2RT, if_true, if_false]
        refine c_weighAll (d := d) h1 (fun σ2 q2 => ?_)
        simp (disch := first | exact is2I | exact is2R | omega) only [z_X8_both_64, z_X8_both_66, Option.toList_some, List.cons_append, List.nil_append, true_and, Option.toList_some, Option.toList_none, List.cons_append, List.nil_append, is2IT, is2RT, if_true, if_false]
        refine c_frac (d := d + 10) (bthN_63 hC.2.2.2) (WT_63 hC.2.2.2) ?_
        simp (disch := first | exact is2I | exact is2R | omega) only [z_X8_both_69, Option.toList_some, List.cons_append, List.nil_append, true_and, Option.toList_some, Option.toList_none, List.cons_append, List.nil_append, is2IT, is2RT, if_true, if_false]
        have fin := hQ σ2 (Iwc_X (Fm_tr q1 q2))
        have e : oddS (bthN S.1 k u j x) (WT S.1 no1) l = if k = j ∧ ¬ u = x then (if WT S.1 no1 = 0 then -3 else l.toInt64) else oddS (WT S.1 (mu2 k u j x)) (WT S.1 no1) l := by
          unfold bthN
          by_cases c : k = j ∧ ¬ u = x
          · rw [if_pos c, if_pos c]
            unfold oddS lowS
            by_cases c0 : WT S.1 no1 = 0
            · rw [if_pos c0, if_pos c0]
            · rw [if_neg c0, if_neg c0, Nat.gcd_zero_left]
              rcases (okL_iff (l := l)).mp hl with rfl | rfl
              · rw [if_pos rfl, Nat.zero_div]; rfl
              · rw [if_neg (by decide), Nat.div_self (by omega)]; rfl
          · rw [if_neg c, if_neg c]
        rw [e]; exact fin
      · rw [if_neg hl] at hQ
        rw [if_pos hl]
        exact bad hQ
theorem X47 {σ σ' : St} (h : Fm (Iwb 47) noL σ σ') : Xc σ σ' := Fm_mono h (fun a i q => by have := of_decide_eq_true q; exact decide_eq_true (by omega)) noL_t
theorem x_would {d : Nat} {Q : Option PV → St → Prop} {σ : St} {S : MSt} {o w n v l : Int32} (h : XS σ S) (hQ : ∀ σ', Xc σ σ' → Q (some (vL (wouldF S.1 o w n v l))) σ') : Ca (d + 14) 89 [vR 0 8, vI o, vI w, vI n, vI v, vI l] σ Q := by
  have hC := h.1
  have hX := hC.1
  have h7 := CI_7 hC
  rw [ca_at (K := kX8_would) (ls := [vR 0 8, vI o, vI w, vI n, vI v, vI l]) rfl rfl rfl]
  unfold wouldF at hQ
  simp (disch := first | exact is2I | exact is2R | omega) only [z_X8_would_0, z_X8_would_1, z_X8_would_4, z_X8_would_5, z_X8_would_6, z_X8_would_9, xf_r0_0 hX, c_hasV hC, b2_0, true_and, Option.toList_some, Option.toList_none, List.cons_append, List.nil_append, is2IT, is2RT, if_true, if_false]
  have bad : (∀ σ', Xc σ σ' → Q (some (vL NOl)) σ') → At (d + 13) kX8_would 33 [vR 0 8, vI o, vI w, vI n, vI v, vI l] [] σ Q := fun q => by
    simp only [z_X8_would_33, z_X8_would_36, true_and, Option.toList_some, Option.toList_none, List.cons_append, List.nil_append, is2IT, is2RT, if_true, if_false]
    exact q σ Fm_rf
  cases ha : askP S.1 o w with
  | none =>
    rw [ha] at hQ
    rw [if_pos (fun q => by cases q)]
    exact bad hQ
  | some p =>
    obtain ⟨j, x⟩ := p
    rw [ha] at hQ
    obtain ⟨hj, hx, rfl, rfl⟩ := (askP_some hC.2.2.2).mp ha
    dsimp only at hQ
    rw [if_neg (fun q => q rfl)]
    simp (disch := first | exact is2I | exact is2R | omega) only [z_X8_would_12, z_X8_would_13, z_X8_would_16, z_X8_would_17, z_X8_would_19, z_X8_would_22, xf_r0_0 hX, c_hasV hC, b2_0, true_and, Option.toList_some, Option.toList_none, List.cons_append, List.nil_append, is2IT, is2RT, if_true, if_false]
    cases hb : askP S.1 n v with
    | none =>
      rw [hb, if_neg (fun q => q.2 rfl)] at hQ
      rw [if_pos (fun q => by cases q)]
      exact bad hQ
    | some p =>
      obtain ⟨k, u⟩ := p
      rw [hb] at hQ
      obtain ⟨hk, hu, rfl, rfl⟩ := (askP_some hC.2.2.2).mp hb
      rw [if_neg (fun q => q rfl)]
      simp (disch := first | exact is2I | exact is2R | omega) only [z_X8_would_25, z_X8_would_27, z_X8_would_30, c_isLine, b2_0, true_and, Option.toList_some, Option.toList_none, List.cons_append, List.nil_append, is2IT, is2RT, if_true, if_false]
      by_cases hl : 0 ≤ l ∧ l < nI 2
      · rw [if_pos ⟨hl, fun q => by cases q⟩] at hQ
        rw [if_neg (fun q => q hl)]
        simp (disch := first | exact is2I | exact is2R | omega) only [z_X8_would_37, z_X8_would_38, z_X8_would_41, z_X8_would_42, z_X8_would_45, xf_r0_0 hX, xf_r0_2 hX, true_and, Option.toList_some, Option.toList_none, List.cons_append, List.nil_append, is2IT, is2RT, if_true, if_false]
        refine c_wbecome (d := d + 11) hC Wk47 (by decide) (fun σ1 q1 h1 => ?_)
        have hX1 := h1.1
        simp (disch := first | exact is2I | exact is2R | omega) only [z_X8_would_48, z_X8_would_49, z_X8_would_52, z_X8_would_55, z_X8_would_56, z_X8_would_56s, z_X8_would_57, z_X8_would_58, z_X8_would_61, z_X8_would_62, z_X8_would_63, z_X8_would_66, z_X8_would_67, z_X8_would_69, z_X8_would_71, xf_r0_2 hX1, xw_a hX1 Wk47, xw_n hX1 Wk47 (show j < 7 by omega), xs_a hX1 Wk47, kIn, kCl, rR_wI, Option.toList_none, List.nil_append, true_and, Option.toList_some, Option.toList_none, List.cons_append, List.nil_append, is2IT, is2RT, if_true, if_false]
        have F2 : Fm (Iwb 47) noL σ (wI σ1 (nO 47 j) 9 (nI x)) := Fm_tr q1 (Fm_wI (Iwb_n (by omega)))
        have hN2 := setFD_NV (w := 5) (o := some x) h1.2.2.2 (fun v q => by cases q; exact hx)
        have h2 : CI (wI σ1 (nO 47 j) 9 (nI x)) 47 (setFD S.1 j 5 (some x)) := ⟨XF_fm hX F2, Wk47, WB_FD (o := some x) h1.2.2.1 h1.2.2.2 (Or.inr ⟨rfl, rfl⟩), hN2⟩
        have es : nS (setFD S.1 j 5 (some x)) k = nS S.1 k := ((@Sm_FD S.1 j 5 (some x)).2.1 k).1
        refine c_oddsIn (d := d) h2 hk (by rw [es]; exact hu) (fun σ3 q3 => ?_)
        simp (disch := first | exact is2I | exact is2R | omega) only [z_X8_would_74, Option.toList_some, List.cons_append, List.nil_append, true_and, Option.toList_some, Option.toList_none, List.cons_append, List.nil_append, is2IT, is2RT, if_true, if_false]
        have fin := hQ σ3 (Fm_tr (X47 F2) (Iwc_X q3))
        have ea : askP (setFD S.1 j 5 (some x)) (nI k) (nI u) = some (k, u) := (askP_some hN2).mpr ⟨hk, by rw [es]; exact hu, rfl, rfl⟩
        unfold oddsF at fin
        rw [ea] at fin
        dsimp only at fin
        rw [if_pos hl] at fin
        exact fin
      · rw [if_neg (fun q => hl q.1)] at hQ
        rw [if_pos hl]
        exact bad hQ
theorem x_without {d : Nat} {Q : Option PV → St → Prop} {σ : St} {S : MSt} {o n v l : Int32} (h : XS σ S) (hQ : ∀ σ', Xc σ σ' → Q (some (vL (withoutF S.1 o n v l))) σ') : Ca (d + 14) 90 [vR 0 8, vI o, vI n, vI v, vI l] σ Q := by
  have hC := h.1
  have hX := hC.1
  have h7 := CI_7 hC
  rw [ca_at (K := kX8_without) (ls := [vR 0 8, vI o, vI n, vI v, vI l, vU]) rfl rfl rfl]
  unfold withoutF at hQ
  simp (disch := first | exact is2I | exact is2R | omega) only [z_X8_without_0, z_X8_without_1, z_X8_without_4, z_X8_without_5, z_X8_without_8, xf_r0_0 hX, c_has hC, b2_0, true_and, Option.toList_some, Option.toList_none, List.cons_append, List.nil_append, is2IT, is2RT, if_true, if_false]
  have bad : (∀ σ', Xc σ σ' → Q (some (vL NOl)) σ') → At (d + 13) kX8_without 31 [vR 0 8, vI o, vI n, vI v, vI l, vU] [] σ Q := fun q => by
    simp only [z_X8_without_31, z_X8_without_34, true_and, Option.toList_some, Option.toList_none, List.cons_append, List.nil_append, is2IT, is2RT, if_true, if_false]
    exact q σ Fm_rf
  cases ha : pN (nM S.1) o with
  | none =>
    rw [ha] at hQ
    rw [if_pos (pN_none.mp ha)]
    exact bad hQ
  | some j =>
    rw [ha] at hQ
    obtain ⟨hj, rfl⟩ := (pN_some (by omega)).mp ha
    have hP : 0 ≤ nI j ∧ nI j < nI (nM S.1) := (lt_nI (by omega)).mpr ⟨j, hj, rfl⟩
    dsimp only at hQ
    rw [if_neg (fun q => q hP)]
    simp (disch := first | exact is2I | exact is2R | omega) only [z_X8_without_11, z_X8_without_12, z_X8_without_15, z_X8_without_16, z_X8_without_17, z_X8_without_20, xf_r0_0 hX, c_hasV hC, b2_0, true_and, Option.toList_some, Option.toList_none, List.cons_append, List.nil_append, is2IT, is2RT, if_true, if_false]
    cases hb : askP S.1 n v with
    | none =>
      rw [hb, if_neg (fun q => q.2 rfl)] at hQ
      rw [if_pos (fun q => by cases q)]
      exact bad hQ
    | some p =>
      obtain ⟨k, u⟩ := p
      rw [hb] at hQ
      obtain ⟨hk, hu, rfl, rfl⟩ := (askP_some hC.2.2.2).mp hb
      rw [if_neg (fun q => q rfl)]
      simp (disch := first | exact is2I | exact is2R | omega) only [z_X8_without_23, z_X8_without_25, z_X8_without_28, c_isLine, b2_0, true_and, Option.toList_some, Option.toList_none, List.cons_append, List.nil_append, is2IT, is2RT, if_true, if_false]
      by_cases hl : 0 ≤ l ∧ l < nI 2
      · rw [if_pos ⟨hl, fun q => by cases q⟩] at hQ
        rw [if_neg (fun q => q hl)]
        simp (disch := first | exact is2I | exact is2R | omega) only [z_X8_without_35, z_X8_without_36, z_X8_without_39, z_X8_without_40, z_X8_without_43, xf_r0_0 hX, xf_r0_2 hX, true_and, Option.toList_some, Option.toList_none, List.cons_append, List.nil_append, is2IT, is2RT, if_true, if_false]
        refine c_wbecome (d := d + 11) hC Wk47 (by decide) (fun σ1 q1 h1 => ?_)
        have hX1 := h1.1
        have F2 : Fm (Iwb 47) noL σ (wI σ1 (nO 47 j) 8 (oI none)) := Fm_tr q1 (Fm_wI (Iwb_n (by omega)))
        have hN2 := setFD_NV (w := 4) (o := none) h1.2.2.2 (k := j) (fun v q => by cases q)
        have h2 : CI (wI σ1 (nO 47 j) 8 (oI none)) 47 (setFD S.1 j 4 none) := ⟨XF_fm hX F2, Wk47, WB_FD (o := none) h1.2.2.1 h1.2.2.2 (Or.inl ⟨rfl, rfl⟩), hN2⟩
        rw [oI_nn] at h2 F2
        have es : nS (setFD S.1 j 4 none) k = nS S.1 k := ((@Sm_FD S.1 j 4 none).2.1 k).1
        simp (disch := first | exact is2I | exact is2R | omega) only [z_X8_without_46, z_X8_without_47, z_X8_without_50, z_X8_without_53, z_X8_without_54, z_X8_without_54s, z_X8_without_55, z_X8_without_57, z_X8_without_59, z_X8_without_60, z_X8_without_63, z_X8_without_65, z_X8_without_68, xf_r0_2 hX1, xw_a hX1 Wk47, xw_n hX1 Wk47 (show j < 7 by omega), xs_a hX1 Wk47, kIn, kCl, rR_wI, c_hinted h2 (show j < nM (setFD S.1 j 4 none) from hj), b2_0, Option.toList_none, List.nil_append, true_and, Option.toList_some, Option.toList_none, List.cons_append, List.nil_append, is2IT, is2RT, if_true, if_false]
        have fin : ∀ (σ2 : St) (N2 : Net), Fm (Iwb 47) noL σ σ2 → CI σ2 47 N2 → nM N2 = nM S.1 → nS N2 k = nS S.1 k → (∀ σ', Xc σ σ' → Q (some (vL (oddsF N2 (nI k) (nI u) l))) σ') → At (d + 13) kX8_without 79 [vR 0 8, vI (nI j), vI (nI k), vI (nI u), vI l, vR (nO 47 j) 2] [] σ2 Q := fun σ2 N2 g1 g2 g3 g4 g5 => by
          simp (disch := first | exact is2I | exact is2R | omega) only [z_X8_without_79, z_X8_without_80, z_X8_without_81, z_X8_without_84, z_X8_without_85, z_X8_without_86, z_X8_without_88, xf_r0_2 g2.1, true_and, Option.toList_some, Option.toList_none, List.cons_append, List.nil_append, is2IT, is2RT, if_true, if_false]
          have hk2 : k < nM N2 := by rw [g3]; exact hk
          have hu2 : u < nS N2 k := by rw [g4]; exact hu
          refine c_oddsIn (d := d) g2 hk2 hu2 (fun σ3 q3 => ?_)
          simp (disch := first | exact is2I | exact is2R | omega) only [z_X8_without_91, Option.toList_some, List.cons_append, List.nil_append, true_and, Option.toList_some, Option.toList_none, List.cons_append, List.nil_append, is2IT, is2RT, if_true, if_false]
          have f := g5 σ3 (Fm_tr (X47 g1) (Iwc_X q3))
          have ea : askP N2 (nI k) (nI u) = some (k, u) := (askP_some g2.2.2.2).mpr ⟨hk2, hu2, rfl, rfl⟩
          unfold oddsF at f
          rw [ea] at f
          dsimp only at f
          rw [if_pos hl] at f
          exact f
        by_cases hh : hinB (setFD S.1 j 4 none) j = true
        · rw [if_pos (show hinN (setFD S.1 j 4 none) j from hh)] at hQ
          rw [if_neg (fun q => q hh)]
          simp (disch := first | exact is2I | exact is2R | omega) only [z_X8_without_71, z_X8_without_73, z_X8_without_74, z_X8_without_75, z_X8_without_76, c_setHints h2.1 Wk47 (show j < 7 by omega), Option.toList_none, List.nil_append, true_and, Option.toList_some, Option.toList_none, List.cons_append, List.nil_append, is2IT, is2RT, if_true, if_false]
          have F3 : Fm (Iwb 47) noL σ (wI (wI (wI (wI σ1 (nO 47 j) 8 (-1)) (hO 47 j) 0 1) (hO 47 j) 1 1) (hO 47 j) 2 1) := Fm_tr (Fm_tr (Fm_tr F2 (Fm_wI (Iwb_h (by omega)))) (Fm_wI (Iwb_h (by omega)))) (Fm_wI (Iwb_h (by omega)))
          exact fin _ _ F3 ⟨XF_fm hX F3, Wk47, WB_H (a := 1) (b := 1) (c := 1) h2.2.2.1 h2.2.2.2, setH_NV h2.2.2.2 (by decide) (by decide) (by decide)⟩ rfl es hQ
        · rw [if_neg (show ¬ hinN (setFD S.1 j 4 none) j from hh)] at hQ
          rw [if_pos hh]
          exact fin _ _ F2 h2 rfl es hQ
      · rw [if_neg (fun q => hl q.1)] at hQ
        rw [if_pos hl]
        exact bad hQ
