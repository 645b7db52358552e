/-! ===== the class: what a sheet tells: shown, lay, film ===== -/
theorem tv_in2 {s : Nat} (hs : s < 100) {v : Int64} : (¬ v < -1 ∧ v < lN s) ↔ (tv s v).isSome = true := by
  have e2 : ((nI s - 1).toInt64).toInt = (s : Int) - 1 := by
    rw [Int32.toInt_toInt64]
    exact pk_sub_toInt (b := 1) (by omega) (by decide)
  have e4 := pk_lT (show s < 2 ^ 63 by omega)
  rw [← tv_in hs, Int64.not_lt, Int64.lt_iff_toInt_lt, e4, Int64.le_iff_toInt_le (x := v), e2]
  exact and_congr Iff.rfl (by omega)
section TV
variable {d : Nat} {Q : Option PV → St → Prop} {σ : St}
theorem c_tellsV {j t n : Nat} {g : Nat → Int64} {N : Net} (h : CI σ 1 N) (hj : j < 4) (hs : shAC σ j (some (t, n, g))) : Ca (d + 1) 117 [vR 0 8, vR (89 + 2 * j) 3] σ Q ↔ Q (some (vI (b2 (tldB N n g = true)))) σ := by
  have h7 := CI_7 h
  have hX := h.1
  obtain ⟨x1, x2, x3⟩ := xs_r hX hj
  obtain ⟨a1, a2, a3, a4, a5⟩ := hs
  rw [ca_at (K := kX8_tellsValues) (ls := [vR 0 8, vR (89 + 2 * j) 3, vU]) rfl rfl rfl]
  unfold tldB
  simp (disch := first | exact is2I | exact is2R | omega) only [z_X8_tellsValues_0, z_X8_tellsValues_1, z_X8_tellsValues_4, z_X8_tellsValues_5, z_X8_tellsValues_8, z_X8_tellsValues_11, z_X8_tellsValues_14, z_X8_tellsValues_15, xf_r0_0 hX, h.2.2.1.1, a3, kEq, rk_b0, true_and, Option.toList_some, Option.toList_none, List.cons_append, List.nil_append, is2IT, is2RT, if_true, if_false]
  by_cases cn : n = nM N
  · rw [if_pos cn, decide_eq_true cn, Bool.true_and]
    have loop : ∀ r k, k + r = nM N → (At d kX8_tellsValues 18 [vR 0 8, vR (89 + 2 * j) 3, vI (nI k)] [] σ Q ↔ Q (some (vI (b2 (((List.range' k r).all fun k => (tv (nS N k) (g k)).isSome) = true)))) σ) := by
      intro r
      induction r with
      | zero =>
        intro k hk
        have hk' : k = nM N := by omega
        subst hk'
        simp (disch := first | exact is2I | exact is2R | omega) only [z_X8_tellsValues_18, z_X8_tellsValues_19, z_X8_tellsValues_20, z_X8_tellsValues_23, z_X8_tellsValues_26, z_X8_tellsValues_73, z_X8_tellsValues_74, xf_r0_0 hX, h.2.2.1.1, kLe, Nat.le_refl, rk_b1, true_and, Option.toList_some, Option.toList_none, List.cons_append, List.nil_append, is2IT, is2RT, if_true, if_false]
        exact Iff.rfl
      | succ r ih =>
        intro k hk
        have hk1 : k < nM N := by omega
        have c : ¬ nM N ≤ k := by omega
        have ek := a5 k (by omega)
        have ss := NV_sv h.2.2.2 hk1
        have e2 := (h.2.2.1.2 k hk1).1
        have ev : nI k + (1 : Int32) = nI (k + 1) := nI_add k 1
        have ti := tv_in2 (s := nS N k) (by omega) (v := g k)
        rw [List.range'_succ, List.all_cons]
        have bad : (tv (nS N k) (g k)).isSome = false → (At d kX8_tellsValues 65 [vR 0 8, vR (89 + 2 * j) 3, vI (nI k)] [] σ Q ↔ Q (some (vI (b2 (((tv (nS N k) (g k)).isSome && (List.range' (k + 1) r).all fun k => (tv (nS N k) (g k)).isSome) = true)))) σ) := fun q => by
          rw [q, Bool.false_and]
          simp only [z_X8_tellsValues_65, z_X8_tellsValues_66, rk_b0, true_and, Option.toList_some, Option.toList_none, List.cons_append, List.nil_append, is2IT, is2RT, if_true, if_false]
          exact Iff.rfl
        simp (disch := first | exact is2I | exact is2R | omega) only [z_X8_tellsValues_18, z_X8_tellsValues_19, z_X8_tellsValues_20, z_X8_tellsValues_23, z_X8_tellsValues_26, z_X8_tellsValues_29, z_X8_tellsValues_30, z_X8_tellsValues_33, z_X8_tellsValues_34, z_X8_tellsValues_35, z_X8_tellsValues_38, z_X8_tellsValues_39, xf_r0_0 hX, h.2.2.1.1, kLe, c, x2, x3, kIn, kCl, ek, lg_cmp_lt, true_and, Option.toList_some, Option.toList_none, List.cons_append, List.nil_append, is2IT, is2RT, if_true, if_false]
        by_cases c1 : g k < -1
        · rw [if_pos c1]
          exact bad (by rw [← Bool.not_eq_true]; exact fun q => (ti.mpr q).1 c1)
        · rw [if_neg c1]
          simp (disch := first | exact is2I | exact is2R | omega) only [z_X8_tellsValues_42, z_X8_tellsValues_43, z_X8_tellsValues_46, z_X8_tellsValues_47, z_X8_tellsValues_48, z_X8_tellsValues_49, z_X8_tellsValues_52, z_X8_tellsValues_55, z_X8_tellsValues_56, z_X8_tellsValues_56s, z_X8_tellsValues_57, z_X8_tellsValues_60, z_X8_tellsValues_61, z_X8_tellsValues_62, xf_r0_0 hX, x2, x3, xw_a hX Wk1, xw_n hX Wk1 (show k < 7 by omega), xs_a hX Wk1, kIn, kCl, ek, e2, lg_cmp_lt, nI_l, true_and, Option.toList_some, Option.toList_none, List.cons_append, List.nil_append, is2IT, is2RT, if_true, if_false]
          by_cases c2 : g k < lN (nS N k)
          · rw [if_pos c2, ti.mp ⟨c1, c2⟩, Bool.true_and]
            simp (disch := first | exact is2I | exact is2R | omega) only [z_X8_tellsValues_67, ev, true_and, Option.toList_some, Option.toList_none, List.cons_append, List.nil_append, is2IT, is2RT, if_true, if_false]
            rw [z_X8_tellsValues_70]
            exact ih (k + 1) (by omega)
          · rw [if_neg c2]
            exact bad (by rw [← Bool.not_eq_true]; exact fun q => c2 (ti.mpr q).2)
    have l := loop (nM N) 0 (by omega)
    simp (disch := first | exact is2I | exact is2R | omega) only [z_X8_tellsValues_16, z_X8_tellsValues_17, true_and, Option.toList_some, Option.toList_none, List.cons_append, List.nil_append, is2IT, is2RT, if_true, if_false]
    exact l
  · rw [if_neg cn, decide_eq_false cn, Bool.false_and]
    exact Iff.rfl
end TV
/-- weighAll, with what is wanted behind it -/
theorem c_weighAll2 {d w : Nat} {Q : Option PV → St → Prop} {σ : St} {N : Net} (h : CI σ w N) (hQ : ∀ σ', Fm Iwc noL σ σ' → (∀ i, i < 7 → rI σ' 72 i = -1) → Q (some (vL (lN (WT N no1)))) σ') : Ca (d + 12) 63 [vR 70 7, vR w 6] σ Q := by
  have h7 := CI_7 h
  have hX := h.1
  rw [ca_at (K := kX7_weighAll) (ls := [vR 70 7, vR w 6]) rfl rfl rfl]
  simp (disch := first | exact is2I | exact is2R | omega) only [z_X7_weighAll_0, z_X7_weighAll_1, z_X7_weighAll_4, z_X7_weighAll_5, xf_r70_1 hX, true_and, Option.toList_some, Option.toList_none, List.cons_append, List.nil_append, is2IT, is2RT, if_true, if_false]
  refine (m_fill (d := d + 10) (xf_s72 hX) (by decide)).mpr ?_
  have f1 : Fm Iwc noL σ (fI σ 72 0 7 (fun _ => -1)) := Fm_fI (fun _ _ _ => rfl)
  simp (disch := first | exact is2I | exact is2R | omega) only [z_X7_weighAll_8, z_X7_weighAll_9, z_X7_weighAll_10, z_X7_weighAll_11, true_and, Option.toList_some, Option.toList_none, List.cons_append, List.nil_append, is2IT, is2RT, if_true, if_false]
  rw [show d + 11 = d + 7 - nM N + nM N + 4 by omega]
  refine m_weighFrom (mu := no1) (fun i v q => by cases q) (nM N) 0 (by omega) _ _ _ w0 (CI_fm h f1 (fun a i ha => decide_eq_false (by omega))) (fun i hi => ?_) (fun i hi => absurd hi (Nat.not_lt_zero i)) (fun σ' q1 q2 => ?_)
  · rw [rI_fI, if_pos ⟨rfl, by omega, by omega⟩]; rfl
  · simp only [z_X7_weighAll_14, true_and, Option.toList_some, Option.toList_none, List.cons_append, List.nil_append, is2IT, is2RT, if_true, if_false]
    exact hQ σ' (Fm_tr f1 (Fm_mono q1 (fun a i => I71_c) (fun _ q => q))) (fun i hi => by rw [q1.1 72 i rfl, rI_fI, if_pos ⟨rfl, by omega, by omega⟩])
theorem xsw_l {d j : Nat} {Q : Option PV → St → Prop} {σ : St} {N : Net} {n : Nat} {g : Nat → Int64} {l : Int32} {w : Int64} (h : CI σ 1 N) (hj : j < 4) (hg : ∀ i, i < nM N → rL σ (90 + 2 * j) i = g i) (ht : tldB N n g = true) : ∀ r k, k + r = nM N → (At d kX8_shown 60 [vR 0 8, vI (nI j), vI l, vR (89 + 2 * j) 3, vL w, vU, vI (nI k)] [] (fI σ 72 0 k (fun i => oI (muT N g i))) Q ↔ At d kX8_shown 96 [vR 0 8, vI (nI j), vI l, vR (89 + 2 * j) 3, vL w, vU, vI (nI (nM N))] [] (fI σ 72 0 (nM N) (fun i => oI (muT N g i))) Q)
  | 0, k, hk => by
    have h7 := CI_7 h
    have hX := h.1
    have : k = nM N := by omega
    subst this
    have hX1 := XF_fI (a := 72) (b := 0) (n := nM N) (f := fun i => oI (muT N g i)) hX
    have e1 : rI (fI σ 72 0 (nM N) (fun i => oI (muT N g i))) 1 1 = nI (nM N) := by rw [fI_out (by decide)]; exact h.2.2.1.1
    simp (disch := first | exact is2I | exact is2R | omega) only [z_X8_shown_60, z_X8_shown_62, z_X8_shown_63, z_X8_shown_66, z_X8_shown_69, xf_r0_0 hX1, e1, kLe, Nat.le_refl, true_and, Option.toList_some, Option.toList_none, List.cons_append, List.nil_append, is2IT, is2RT, if_true, if_false]
  | r + 1, k, hk => by
    have h7 := CI_7 h
    have hX := h.1
    have c : ¬ nM N ≤ k := by omega
    obtain ⟨x1, x2, x3⟩ := xs_r hX hj
    have hX1 := XF_fI (a := 72) (b := 0) (n := k) (f := fun i => oI (muT N g i)) hX
    obtain ⟨y1, y2, y3⟩ := xs_r hX1 hj
    have e1 : rI (fI σ 72 0 k (fun i => oI (muT N g i))) 1 1 = nI (nM N) := by rw [fI_out (by decide)]; exact h.2.2.1.1
    have eg : rL (fI σ 72 0 k (fun i => oI (muT N g i))) (90 + 2 * j) k = g k := hg k (by omega)
    have em := (muT_i h.2.2.2 ht (show k < nM N by omega)).1
    have ev : nI k + (1 : Int32) = nI (k + 1) := nI_add k 1
    simp (disch := first | exact is2I | exact is2R | omega) only [z_X8_shown_60, z_X8_shown_62, z_X8_shown_63, z_X8_shown_66, z_X8_shown_69, z_X8_shown_72, z_X8_shown_73, z_X8_shown_76, z_X8_shown_79, z_X8_shown_81, z_X8_shown_82, z_X8_shown_85, z_X8_shown_87, z_X8_shown_88, z_X8_shown_89, z_X8_shown_90, xf_r0_0 hX1, xf_r0_4 hX1, xf_r70_1 hX1, xf_s72 hX1, e1, kLe, c, y2, y3, kIn, kCl, eg, em, ev, true_and, Option.toList_some, Option.toList_none, List.cons_append, List.nil_append, is2IT, is2RT, if_true, if_false]
    rw [z_X8_shown_93, fI_s0 (f := fun i => oI (muT N g i)) rfl]
    exact xsw_l h hj hg ht r (k + 1) (by omega)
theorem x_shown {d : Nat} {Q : Option PV → St → Prop} {σ : St} {S : MSt} {s l : Int32} (h : XS σ S) (hQ : ∀ σ', Xc σ σ' → Q (some (vL (shownF S.1 S.2.2.2 s l))) σ') : Ca (d + 13) 88 [vR 0 8, vI s, vI l] σ Q := by
  have hC := h.1
  have h7 := CI_7 hC
  have hX := hC.1
  rw [ca_at (K := kX8_shown) (ls := [vR 0 8, vI s, vI l, vU, vU, vU, vU]) rfl rfl rfl]
  unfold shownF at hQ
  have bad : (∀ σ', Xc σ σ' → Q (some (vL NOl)) σ') → At (d + 12) kX8_shown 14 [vR 0 8, vI s, vI l, vU, vU, vU, vU] [] σ Q := fun q => by
    simp only [z_X8_shown_14, z_X8_shown_17, true_and, Option.toList_some, Option.toList_none, List.cons_append, List.nil_append, is2IT, is2RT, if_true, if_false]
    exact q σ Fm_rf
  simp (disch := first | exact is2I | exact is2R | omega) only [z_X8_shown_0, z_X8_shown_1, z_X8_shown_4, c_isSheet, b2_0, true_and, Option.toList_some, Option.toList_none, List.cons_append, List.nil_append, is2IT, is2RT, if_true, if_false]
  cases hp : pN 4 s with
  | none =>
    rw [hp] at hQ
    rw [if_pos (pN_none.mp hp)]
    exact bad hQ
  | some j =>
    rw [hp] at hQ
    obtain ⟨hj, rfl⟩ := (pN_some (by decide)).mp hp
    rw [if_neg (fun q => q ((lt_nI (by decide)).mpr ⟨j, hj, rfl⟩))]
    dsimp only at hQ
    simp (disch := first | exact is2I | exact is2R | omega) only [z_X8_shown_7, z_X8_shown_8, z_X8_shown_11, c_isLine, b2_0, true_and, Option.toList_some, Option.toList_none, List.cons_append, List.nil_append, is2IT, is2RT, if_true, if_false]
    by_cases hl : 0 ≤ l ∧ l < nI 2
    · rw [if_pos hl] at hQ
      rw [if_neg (fun q => q hl)]
      obtain ⟨x1, x2, x3⟩ := xs_r hX hj
      have ha := h.2.2.2.2 j hj
      have em := miss_n ha
      have bad2 : (∀ σ', Xc σ σ' → Q (some (vL NOl)) σ') → At (d + 12) kX8_shown 40 [vR 0 8, vI (nI j), vI l, vR (89 + 2 * j) 3, vU, vU, vU] [] σ Q := fun q => by
        simp only [z_X8_shown_40, z_X8_shown_43, true_and, Option.toList_some, Option.toList_none, List.cons_append, List.nil_append, is2IT, is2RT, if_true, if_false]
        exact q σ Fm_rf
      simp (disch := first | exact is2I | exact is2R | omega) only [z_X8_shown_18, z_X8_shown_19, z_X8_shown_22, z_X8_shown_23, z_X8_shown_23s, z_X8_shown_24, z_X8_shown_25, z_X8_shown_26, z_X8_shown_29, xf_r0_9 hX, xf_s88 hX, x1, kIn, kCl, c_isMiss, b2_0, em, true_and, Option.toList_some, Option.toList_none, List.cons_append, List.nil_append, is2IT, is2RT, if_true, if_false]
      cases hf : S.2.2.2 j with
      | none =>
        rw [hf] at hQ
        rw [if_neg (fun q => q rfl)]
        exact bad2 hQ
      | some e =>
        obtain ⟨t, n, g⟩ := e
        rw [hf] at hQ ha
        rw [if_pos (fun q => by cases q)]
        dsimp only at hQ
        simp (disch := first | exact is2I | exact is2R | omega) only [z_X8_shown_32, z_X8_shown_33, z_X8_shown_34, z_X8_shown_37, c_tellsV hC hj ha, b2_0, true_and, Option.toList_some, Option.toList_none, List.cons_append, List.nil_append, is2IT, is2RT, if_true, if_false]
        obtain ⟨a1, a2, a3, a4, a5⟩ := ha
        by_cases ct : tldB S.1 n g = true
        · rw [if_pos ct] at hQ
          rw [if_neg (fun q => q ct)]
          have en := tldB_n ct
          simp (disch := first | exact is2I | exact is2R | omega) only [z_X8_shown_44, z_X8_shown_45, z_X8_shown_48, z_X8_shown_49, z_X8_shown_52, xf_r0_0 hX, xf_r0_4 hX, true_and, Option.toList_some, Option.toList_none, List.cons_append, List.nil_append, is2IT, is2RT, if_true, if_false]
          refine c_weighAll2 (d := d) hC (fun σ1 q1 q2 => ?_)
          have m1 := CI_x hC (Iwc_X q1)
          simp (disch := first | exact is2I | exact is2R | omega) only [z_X8_shown_55, z_X8_shown_57, z_X8_shown_58, Option.toList_some, List.cons_append, List.nil_append, true_and, Option.toList_some, Option.toList_none, List.cons_append, List.nil_append, is2IT, is2RT, if_true, if_false]
          have lp := @xsw_l (d + 12) j Q σ1 S.1 n g l (lN (WT S.1 no1)) m1 hj (fun i hi => by rw [q1.2.1 _ _ rfl]; exact a5 i (by omega)) ct (nM S.1) 0 (by omega)
          rw [fI_0] at lp
          refine lp.mpr ?_
          have F2 : Fm Iwc noL σ (fI σ1 72 0 (nM S.1) (fun i => oI (muT S.1 g i))) := Fm_tr q1 (Fm_fI (fun _ _ _ => rfl))
          have m2 := CI_x hC (Iwc_X F2)
          simp (disch := first | exact is2I | exact is2R | omega) only [z_X8_shown_96, z_X8_shown_97, z_X8_shown_100, z_X8_shown_101, z_X8_shown_104, xf_r0_0 m2.1, xf_r0_4 m2.1, true_and, Option.toList_some, Option.toList_none, List.cons_append, List.nil_append, is2IT, is2RT, if_true, if_false]
          refine c_weighWanted (d := d) (mu := muT S.1 g) (muT_3 hC.2.2.2) m2 (fun i hi => ?_) (fun σ3 q3 => ?_)
          · rw [rI_fI]
            by_cases ci : i < nM S.1
            · rw [if_pos ⟨rfl, Nat.zero_le _, by omega⟩]; rfl
            · rw [if_neg (fun q => ci (by omega)), q2 i hi]
              unfold muT
              rw [if_neg ci]; rfl
          · simp (disch := first | exact is2I | exact is2R | omega) only [z_X8_shown_107, z_X8_shown_109, z_X8_shown_110, Option.toList_some, List.cons_append, List.nil_append, true_and, Option.toList_some, Option.toList_none, List.cons_append, List.nil_append, is2IT, is2RT, if_true, if_false]
            refine c_frac (d := d + 10) (WT_63 hC.2.2.2) (WT_63 hC.2.2.2) ?_
            simp (disch := first | exact is2I | exact is2R | omega) only [z_X8_shown_113, Option.toList_some, List.cons_append, List.nil_append, true_and, Option.toList_some, Option.toList_none, List.cons_append, List.nil_append, is2IT, is2RT, if_true, if_false]
            exact hQ σ3 (Iwc_X (Fm_tr F2 q3))
        · rw [if_neg ct] at hQ
          rw [if_pos ct]
          exact bad2 hQ
    · rw [if_neg hl] at hQ
      rw [if_pos hl]
      exact bad hQ
/-! lay -/
def lyX (σ : St) (o : Nat → Int32) (n : Nat) : St := (fun a i => if i = 8 ∧ (3 ≤ a ∧ a % 3 = 0 ∧ (a - 3) / 3 < n) then o ((a - 3) / 3) else rI σ a i, σ.2)
theorem lyX_0 {σ : St} {o : Nat → Int32} : lyX σ o 0 = σ := by
  have e : (fun a i => if i = 8 ∧ (3 ≤ a ∧ a % 3 = 0 ∧ (a - 3) / 3 < 0) then o ((a - 3) / 3) else rI σ a i) = σ.1 := funext fun a => funext fun i => if_neg (fun q => absurd q.2.2.2 (Nat.not_lt_zero _))
  show ((fun a i => if i = 8 ∧ (3 ≤ a ∧ a % 3 = 0 ∧ (a - 3) / 3 < 0) then o ((a - 3) / 3) else rI σ a i), σ.2) = σ
  rw [e]
theorem lyX_s {σ : St} {o : Nat → Int32} {n : Nat} {x : Int32} (hx : x = o n) : wI (lyX σ o n) (nO 1 n) 8 x = lyX σ o (n + 1) := by
  subst hx
  have e : (fun a i => if a = nO 1 n ∧ i = 8 then o n else (if i = 8 ∧ (3 ≤ a ∧ a % 3 = 0 ∧ (a - 3) / 3 < n) then o ((a - 3) / 3) else rI σ a i)) = (fun a i => if i = 8 ∧ (3 ≤ a ∧ a % 3 = 0 ∧ (a - 3) / 3 < n + 1) then o ((a - 3) / 3) else rI σ a i) := funext fun a => funext fun i => by
    unfold nO
    by_cases h1 : a = 1 + 2 + 3 * n ∧ i = 8
    · have e1 : (a - 3) / 3 = n := by omega
      rw [if_pos h1, if_pos ⟨h1.2, by omega, by omega, by omega⟩, e1]
    · rw [if_neg h1]
      by_cases h2 : i = 8 ∧ (3 ≤ a ∧ a % 3 = 0 ∧ (a - 3) / 3 < n)
      · rw [if_pos h2, if_pos ⟨h2.1, h2.2.1, h2.2.2.1, by omega⟩]
      · rw [if_neg h2, if_neg (fun q => by
          by_cases e2 : (a - 3) / 3 = n
          · exact h1 ⟨by omega, q.1⟩
          · exact h2 ⟨q.1, q.2.1, q.2.2.1, by omega⟩)]
  show ((fun a i => if a = nO 1 n ∧ i = 8 then o n else (if i = 8 ∧ (3 ≤ a ∧ a % 3 = 0 ∧ (a - 3) / 3 < n) then o ((a - 3) / 3) else rI σ a i)), σ.2) = _
  rw [e]
  rfl
theorem rI_lyX {σ : St} {o : Nat → Int32} {n a i : Nat} : rI (lyX σ o n) a i = if i = 8 ∧ (3 ≤ a ∧ a % 3 = 0 ∧ (a - 3) / 3 < n) then o ((a - 3) / 3) else rI σ a i := rfl
theorem Fm_lyX {σ : St} {o : Nat → Int32} {n : Nat} (hn : n ≤ 7) : Fm (Iwb 1) noL σ (lyX σ o n) := ⟨fun a i q => by
  rw [rI_lyX, if_neg (fun z => by rw [show Iwb 1 a i = true from decide_eq_true (by omega)] at q; cases q)], fun _ _ _ => rfl, fun _ _ => rfl, rfl, rfl⟩
theorem WB_lyX {σ : St} {N : Net} (h : WB σ 1 N) (h7 : nM N ≤ 7) {o : Nat → Option Nat} : WB (lyX σ (fun k => oI (o k)) (nM N)) 1 (setF N o) := by
  refine ⟨by rw [rI_lyX, if_neg (by omega)]; exact h.1, fun k hk => ?_⟩
  have hk' : k < nM N := hk
  obtain ⟨a1, a2, a3, a4, a5, a6, a7, a8, a9, a10⟩ := h.2 k hk'
  have n : ∀ i, i ≠ 8 → rI (lyX σ (fun k => oI (o k)) (nM N)) (nO 1 k) i = rI σ (nO 1 k) i := fun i hi => by rw [rI_lyX, if_neg (fun q => hi q.1)]
  have hh : ∀ i, rI (lyX σ (fun k => oI (o k)) (nM N)) (hO 1 k) i = rI σ (hO 1 k) i := fun i => by rw [rI_lyX, if_neg (fun q => by unfold hO at q; omega)]
  have hc : ∀ i, rI (lyX σ (fun k => oI (o k)) (nM N)) (cO 1 k) i = rI σ (cO 1 k) i := fun i => by rw [rI_lyX, if_neg (fun q => by unfold cO at q; omega)]
  refine ⟨by rw [n 2 (by decide)]; exact a1, by rw [n 3 (by decide)]; exact a2, by rw [n 4 (by decide)]; exact a3, by rw [n 5 (by decide)]; exact a4, by rw [n 6 (by decide)]; exact a5, by rw [n 7 (by decide)]; exact a6, ?_, by rw [n 9 (by decide)]; exact a8, fun v hv => by rw [hh]; exact a9 v hv, fun r hr v hv => by rw [hc]; exact a10 r hr v hv⟩
  have e : (nO 1 k - 3) / 3 = k := by unfold nO; omega
  rw [rI_lyX, if_pos ⟨rfl, by unfold nO; omega, by unfold nO; omega, by omega⟩, e]
  rfl
theorem xly_l {d j : Nat} {Q : Option PV → St → Prop} {σ : St} {N : Net} {n : Nat} {g : Nat → Int64} {l : Int32} (h : CI σ 1 N) (hj : j < 4) (hg : ∀ i, i < nM N → rL σ (90 + 2 * j) i = g i) (ht : tldB N n g = true) : ∀ r k, k + r = nM N → (At d kX8_lay 66 [vR 0 8, vI (nI j), vI l, vR (89 + 2 * j) 3, vI (nI k)] [] (lyX σ (fun i => oI (muT N g i)) k) Q ↔ At d kX8_lay 105 [vR 0 8, vI (nI j), vI l, vR (89 + 2 * j) 3, vI (nI (nM N))] [] (lyX σ (fun i => oI (muT N g i)) (nM N)) Q)
  | 0, k, hk => by
    have h7 := CI_7 h
    have : k = nM N := by omega
    subst this
    have hX1 : XF (lyX σ (fun i => oI (muT N g i)) (nM N)) := ⟨fun p hp => h.1.1 p hp, fun p hp => h.1.2 p hp⟩
    have e1 : rI (lyX σ (fun i => oI (muT N g i)) (nM N)) 1 1 = nI (nM N) := by rw [rI_lyX, if_neg (by omega)]; exact h.2.2.1.1
    simp (disch := first | exact is2I | exact is2R | omega) only [z_X8_lay_66, z_X8_lay_68, z_X8_lay_69, z_X8_lay_72, z_X8_lay_75, xf_r0_0 hX1, e1, kLe, Nat.le_refl, true_and, Option.toList_some, Option.toList_none, List.cons_append, List.nil_append, is2IT, is2RT, if_true, if_false]
  | r + 1, k, hk => by
    have h7 := CI_7 h
    have c : ¬ nM N ≤ k := by omega
    have hX1 : XF (lyX σ (fun i => oI (muT N g i)) k) := ⟨fun p hp => h.1.1 p hp, fun p hp => h.1.2 p hp⟩
    obtain ⟨y1, y2, y3⟩ := xs_r hX1 hj
    have e1 : rI (lyX σ (fun i => oI (muT N g i)) k) 1 1 = nI (nM N) := by rw [rI_lyX, if_neg (by omega)]; exact h.2.2.1.1
    have eg : rL (lyX σ (fun i => oI (muT N g i)) k) (90 + 2 * j) k = g k := hg k (by omega)
    have em := (muT_i h.2.2.2 ht (show k < nM N by omega)).1
    have ev : nI k + (1 : Int32) = nI (k + 1) := nI_add k 1
    simp (disch := first | exact is2I | exact is2R | omega) only [z_X8_lay_66, z_X8_lay_68, z_X8_lay_69, z_X8_lay_72, z_X8_lay_75, z_X8_lay_78, z_X8_lay_79, z_X8_lay_82, z_X8_lay_85, z_X8_lay_87, z_X8_lay_87s, z_X8_lay_88, z_X8_lay_89, z_X8_lay_92, z_X8_lay_94, z_X8_lay_95, z_X8_lay_96, z_X8_lay_99, xf_r0_0 hX1, e1, kLe, c, xw_a hX1 Wk1, xw_n hX1 Wk1 (show k < 7 by omega), xs_a hX1 Wk1, y2, y3, kIn, kCl, eg, em, ev, true_and, Option.toList_some, Option.toList_none, List.cons_append, List.nil_append, is2IT, is2RT, if_true, if_false]
    rw [z_X8_lay_102, lyX_s (o := fun i => oI (muT N g i)) rfl]
    exact xly_l h hj hg ht r (k + 1) (by omega)
theorem x_lay {d : Nat} {Q : Option PV → St → Prop} {σ : St} {S : MSt} {s t : Int32} (h : XS σ S) (hQ : ∀ σ', XS σ' ((layF S.1 S.2.2.2 s t).2, S.2) → Fc σ σ' → Q (some (vI (layF S.1 S.2.2.2 s t).1)) σ') : Ca (d + 2) 101 [vR 0 8, vI s, vI t] σ Q := by
  have hC := h.1
  have h7 := CI_7 hC
  have hX := hC.1
  rw [ca_at (K := kX8_lay) (ls := [vR 0 8, vI s, vI t, vU, vU]) rfl rfl rfl]
  unfold layF at hQ
  have bad : (∀ σ', XS σ' (S.1, S.2) → Fc σ σ' → Q (some (vI (-2))) σ') → At (d + 1) kX8_lay 14 [vR 0 8, vI s, vI t, vU, vU] [] σ Q := fun q => by
    simp (disch := first | exact is2I | exact is2R | omega) only [z_X8_lay_14, z_X8_lay_16, true_and, Option.toList_some, Option.toList_none, List.cons_append, List.nil_append, is2IT, is2RT, if_true, if_false]
    exact q σ h Fm_rf
  simp (disch := first | exact is2I | exact is2R | omega) only [z_X8_lay_0, z_X8_lay_1, z_X8_lay_4, c_isSheet, b2_0, true_and, Option.toList_some, Option.toList_none, List.cons_append, List.nil_append, is2IT, is2RT, if_true, if_false]
  cases hp : pN 4 s with
  | none =>
    rw [hp] at hQ
    rw [if_pos (pN_none.mp hp)]
    exact bad hQ
  | some j =>
    rw [hp] at hQ
    obtain ⟨hj, rfl⟩ := (pN_some (by decide)).mp hp
    rw [if_neg (fun q => q ((lt_nI (by decide)).mpr ⟨j, hj, rfl⟩))]
    dsimp only at hQ
    simp (disch := first | exact is2I | exact is2R | omega) only [z_X8_lay_7, z_X8_lay_8, z_X8_lay_11, c_isSort, b2_0, true_and, Option.toList_some, Option.toList_none, List.cons_append, List.nil_append, is2IT, is2RT, if_true, if_false]
    cases ht : pN 3 t with
    | none =>
      rw [ht] at hQ
      rw [if_pos (pN_none.mp ht)]
      exact bad hQ
    | some u =>
      rw [ht] at hQ
      obtain ⟨hu, rfl⟩ := (pN_some (by decide)).mp ht
      rw [if_neg (fun q => q ((lt_nI (by decide)).mpr ⟨u, hu, rfl⟩))]
      dsimp only at hQ
      obtain ⟨x1, x2, x3⟩ := xs_r hX hj
      have ha := h.2.2.2.2 j hj
      have em := miss_n ha
      simp (disch := first | exact is2I | exact is2R | omega) only [z_X8_lay_17, z_X8_lay_18, z_X8_lay_21, z_X8_lay_22, z_X8_lay_22s, z_X8_lay_23, z_X8_lay_24, z_X8_lay_25, z_X8_lay_28, xf_r0_9 hX, xf_s88 hX, x1, kIn, kCl, c_isMiss, b2_0, em, true_and, Option.toList_some, Option.toList_none, List.cons_append, List.nil_append, is2IT, is2RT, if_true, if_false]
      cases hf : S.2.2.2 j with
      | none =>
        rw [hf] at hQ em
        rw [if_neg (fun q => q rfl)]
        simp (disch := first | exact is2I | exact is2R | omega) only [z_X8_lay_42, z_X8_lay_43, z_X8_lay_46, z_X8_lay_49, z_X8_lay_51, c_isMiss, b2_0, em, not_true_eq_false, true_and, Option.toList_some, Option.toList_none, List.cons_append, List.nil_append, is2IT, is2RT, if_true, if_false]
        exact hQ σ h Fm_rf
      | some e =>
        obtain ⟨tt, n, g⟩ := e
        rw [hf] at hQ ha em
        have nn : (some (tt, n, g) = (none : Option (Nat × Nat × (Nat → Int64)))) = False := eq_false (fun q => by cases q)
        rw [if_pos (fun q => by cases q)]
        dsimp only at hQ
        have ha' := ha
        obtain ⟨a1, a2, a3, a4, a5⟩ := ha
        simp (disch := first | exact is2I | exact is2R | omega) only [z_X8_lay_31, z_X8_lay_32, z_X8_lay_35, z_X8_lay_36, a2, kEq, true_and, Option.toList_some, Option.toList_none, List.cons_append, List.nil_append, is2IT, is2RT, if_true, if_false]
        by_cases ctu : tt = u
        · rw [if_pos ctu] at hQ
          rw [if_pos ctu]
          simp (disch := first | exact is2I | exact is2R | omega) only [z_X8_lay_42, z_X8_lay_43, z_X8_lay_46, z_X8_lay_49, z_X8_lay_51, z_X8_lay_52, z_X8_lay_53, z_X8_lay_54, z_X8_lay_57, c_isMiss, b2_0, em, nn, not_false_eq_true, c_tellsV hC hj ha', true_and, Option.toList_some, Option.toList_none, List.cons_append, List.nil_append, is2IT, is2RT, if_true, if_false]
          by_cases ct : tldB S.1 n g = true
          · rw [if_pos ct] at hQ
            rw [if_neg (fun q => q ct)]
            have en := tldB_n ct
            simp (disch := first | exact is2I | exact is2R | omega) only [z_X8_lay_63, z_X8_lay_64, true_and, Option.toList_some, Option.toList_none, List.cons_append, List.nil_append, is2IT, is2RT, if_true, if_false]
            have lp := @xly_l (d + 1) j Q σ S.1 n g (nI u) hC hj (fun i hi => a5 i (by omega)) ct (nM S.1) 0 (by omega)
            rw [lyX_0] at lp
            refine lp.mpr ?_
            have F := @Fm_lyX σ (fun i => oI (muT S.1 g i)) (nM S.1) h7
            have hN2 := setF_NV hC.2.2.2 (o := muT S.1 g) (fun k hk v q => (muT_i hC.2.2.2 ct hk).2 v q)
            have m2 : CI (lyX σ (fun i => oI (muT S.1 g i)) (nM S.1)) 1 (setF S.1 (muT S.1 g)) := ⟨XF_fm hX F, Wk1, WB_lyX hC.2.2.1 h7, hN2⟩
            simp (disch := first | exact is2I | exact is2R | omega) only [z_X8_lay_105, z_X8_lay_106, z_X8_lay_109, z_X8_lay_112, xf_r0_0 m2.1, c_cntF m2, true_and, Option.toList_some, Option.toList_none, List.cons_append, List.nil_append, is2IT, is2RT, if_true, if_false]
            exact hQ _ (XS_web h F m2.2.2.1 hN2) (Fm_mono F (fun a i => Iwb_ICc) noL_t)
          · rw [if_neg ct] at hQ
            rw [if_pos ct]
            simp (disch := first | exact is2I | exact is2R | omega) only [z_X8_lay_60, z_X8_lay_62, true_and, Option.toList_some, Option.toList_none, List.cons_append, List.nil_append, is2IT, is2RT, if_true, if_false]
            exact hQ σ h Fm_rf
        · rw [if_neg ctu] at hQ
          rw [if_neg ctu]
          simp (disch := first | exact is2I | exact is2R | omega) only [z_X8_lay_39, z_X8_lay_41, true_and, Option.toList_some, Option.toList_none, List.cons_append, List.nil_append, is2IT, is2RT, if_true, if_false]
          exact hQ σ h Fm_rf
/-! film -/
theorem xfi_l {d j : Nat} {Q : Option PV → St → Prop} {σ : St} {N : Net} (h : CI σ 1 N) (hj : j < 4) (h1 : rI σ (89 + 2 * j) 1 = nI 1) (hb : ∀ i, i < nM N → rI σ 73 i = nI ((bst N).2 i)) : ∀ r k, k + r = nM N → (At (d + 1) kX8_film 48 [vR 0 8, vI (nI j), vR (89 + 2 * j) 3, vI (nI k)] [] (fL σ (90 + 2 * j) k (fun i => lN ((bst N).2 i))) Q ↔ Q (some (vI (nI (nM N)))) (fL σ (90 + 2 * j) (nM N) (fun i => lN ((bst N).2 i))))
  | 0, k, hk => by
    have h7 := CI_7 h
    have : k = nM N := by omega
    subst this
    have hX1 : XF (fL σ (90 + 2 * j) (nM N) (fun i => lN ((bst N).2 i))) := ⟨fun p hp => h.1.1 p hp, fun p hp => h.1.2 p hp⟩
    have e1 : rI (fL σ (90 + 2 * j) (nM N) (fun i => lN ((bst N).2 i))) 1 1 = nI (nM N) := h.2.2.1.1
    simp (disch := first | exact is2I | exact is2R | omega) only [z_X8_film_48, z_X8_film_49, z_X8_film_50, z_X8_film_53, z_X8_film_56, z_X8_film_80, z_X8_film_81, z_X8_film_84, z_X8_film_87, xf_r0_0 hX1, e1, kLe, Nat.le_refl, true_and, Option.toList_some, Option.toList_none, List.cons_append, List.nil_append, is2IT, is2RT, if_true, if_false]
  | r + 1, k, hk => by
    have h7 := CI_7 h
    have c : ¬ nM N ≤ k := by omega
    have hX1 : XF (fL σ (90 + 2 * j) k (fun i => lN ((bst N).2 i))) := ⟨fun p hp => h.1.1 p hp, fun p hp => h.1.2 p hp⟩
    have e1 : rI (fL σ (90 + 2 * j) k (fun i => lN ((bst N).2 i))) 1 1 = nI (nM N) := h.2.2.1.1
    have eb : rI (fL σ (90 + 2 * j) k (fun i => lN ((bst N).2 i))) 73 k = nI ((bst N).2 k) := hb k (by omega)
    have es : rI (fL σ (90 + 2 * j) k (fun i => lN ((bst N).2 i))) (89 + 2 * j) 1 = nI 1 := h1
    have ss := NV_sv h.2.2.2 (show k < nM N by omega)
    have bl := bst_lt h.2.2.2 k (by omega)
    have ev : nI k + (1 : Int32) = nI (k + 1) := nI_add k 1
    have en : nar 1 (lN ((bst N).2 k)) = lN ((bst N).2 k) := by
      show (lN ((bst N).2 k)).toInt32.toInt64 = _
      rw [lN_i, nI_l (by omega)]
    simp (disch := first | exact is2I | exact is2R | omega) only [z_X8_film_48, z_X8_film_49, z_X8_film_50, z_X8_film_53, z_X8_film_56, z_X8_film_59, z_X8_film_60, z_X8_film_61, z_X8_film_62, z_X8_film_65, z_X8_film_68, z_X8_film_69, z_X8_film_70, z_X8_film_71, xf_r0_0 hX1, xf_r0_4 hX1, xf_r70_2 hX1, xf_s73 hX1, e1, kLe, c, kIn, kCl, eb, nI_l, c_sset hX1 hj (show 1 ≤ 2 by decide) es (show k < 40 by omega), en, z_X8_film_74, ev, Option.toList_none, List.nil_append, true_and, Option.toList_some, Option.toList_none, List.cons_append, List.nil_append, is2IT, is2RT, if_true, if_false]
    rw [z_X8_film_77, fL_s (f := fun i => lN ((bst N).2 i)) rfl]
    exact xfi_l h hj h1 hb r (k + 1) (by omega)
theorem x_film {d : Nat} {Q : Option PV → St → Prop} {σ : St} {S : MSt} {s : Int32} (h : XS σ S) (hQ : ∀ σ', XS σ' (S.1, S.2.1, S.2.2.1, (filmF S.1 S.2.2.2 s).2) → Fc σ σ' → Q (some (vI (filmF S.1 S.2.2.2 s).1)) σ') : Ca (d + 13) 100 [vR 0 8, vI s] σ Q := by
  have hC := h.1
  have h7 := CI_7 hC
  have hX := hC.1
  rw [ca_at (K := kX8_film) (ls := [vR 0 8, vI s, vU, vU]) rfl rfl rfl]
  unfold filmF at hQ
  simp (disch := first | exact is2I | exact is2R | omega) only [z_X8_film_0, z_X8_film_1, z_X8_film_4, c_isSheet, b2_0, true_and, Option.toList_some, Option.toList_none, List.cons_append, List.nil_append, is2IT, is2RT, if_true, if_false]
  cases hp : pN 4 s with
  | none =>
    rw [hp] at hQ
    rw [if_pos (pN_none.mp hp)]
    simp (disch := first | exact is2I | exact is2R | omega) only [z_X8_film_7, z_X8_film_9, true_and, Option.toList_some, Option.toList_none, List.cons_append, List.nil_append, is2IT, is2RT, if_true, if_false]
    exact hQ σ h Fm_rf
  | some j =>
    rw [hp] at hQ
    obtain ⟨hj, rfl⟩ := (pN_some (by decide)).mp hp
    rw [if_neg (fun q => q ((lt_nI (by decide)).mpr ⟨j, hj, rfl⟩))]
    dsimp only at hQ
    simp (disch := first | exact is2I | exact is2R | omega) only [z_X8_film_10, z_X8_film_11, z_X8_film_14, z_X8_film_15, z_X8_film_18, xf_r0_0 hX, xf_r0_4 hX, true_and, Option.toList_some, Option.toList_none, List.cons_append, List.nil_append, is2IT, is2RT, if_true, if_false]
    refine c_findL (d := d) hC (fun σ1 q1 q2 => ?_)
    have X1 := IwL_X q1
    have h1 := XS_sc h X1
    have m1 := h1.1
    have hX1 := m1.1
    simp (disch := first | exact is2I | exact is2R | omega) only [z_X8_film_21, b2_0, Option.toList_some, List.cons_append, List.nil_append, true_and, Option.toList_some, Option.toList_none, List.cons_append, List.nil_append, is2IT, is2RT, if_true, if_false]
    by_cases c : WT S.1 no1 = 0
    · rw [if_pos c] at hQ
      rw [if_pos (fun q => q c)]
      simp (disch := first | exact is2I | exact is2R | omega) only [z_X8_film_24, z_X8_film_26, true_and, Option.toList_some, Option.toList_none, List.cons_append, List.nil_append, is2IT, is2RT, if_true, if_false]
      exact hQ σ1 h1 (Xc_Fc X1)
    · rw [if_neg c] at hQ
      rw [if_neg (fun q => q c)]
      obtain ⟨x1, x2, x3⟩ := xs_r hX1 hj
      have F : Fm Ish2 Lsh2 σ1 (fL (wI (wI σ1 (89 + 2 * j) 1 1) (89 + 2 * j) 2 (nI (nM S.1))) (90 + 2 * j) 40 (fun _ => 0)) := Fm_tr (Fm_tr (Fm_wI (decide_eq_true (by omega))) (Fm_wI (decide_eq_true (by omega)))) (Fm_fL (decide_eq_true (by omega)))
      simp (disch := first | exact is2I | exact is2R | omega) only [z_X8_film_27, z_X8_film_28, z_X8_film_31, z_X8_film_32, z_X8_film_32s, z_X8_film_33, z_X8_film_34, z_X8_film_35, z_X8_film_36, z_X8_film_37, z_X8_film_40, z_X8_film_43, z_X8_film_46, z_X8_film_47, xf_r0_0 hX1, xf_r0_9 hX1, xf_s88 hX1, x1, m1.2.2.1.1, kIn, kCl, c_sbecome hX1 hj, Option.toList_none, List.nil_append, true_and, Option.toList_some, Option.toList_none, List.cons_append, List.nil_append, is2IT, is2RT, if_true, if_false]
      have m2 : CI (fL (wI (wI σ1 (89 + 2 * j) 1 1) (89 + 2 * j) 2 (nI (nM S.1))) (90 + 2 * j) 40 (fun _ => 0)) 1 S.1 := ⟨XF_fm hX1 F, Wk1, WB_fm m1.2.2.1 h7 F (fun a i z1 z2 => decide_eq_false (by omega)), m1.2.2.2⟩
      have lp := @xfi_l (d + 11) j Q _ S.1 m2 hj (by rw [rI_fL, rI_wI, if_neg (fun q => absurd q.2 (by decide)), rI_wI, if_pos ⟨rfl, rfl⟩]; rfl) (fun i hi => by rw [rI_fL, rI_wI_n (by omega), rI_wI_n (by omega)]; exact q2 c i hi) (nM S.1) 0 (by omega)
      rw [fL_0] at lp
      refine lp.mpr ?_
      have F2 : Fm Ish2 Lsh2 σ1 (fL (fL (wI (wI σ1 (89 + 2 * j) 1 1) (89 + 2 * j) 2 (nI (nM S.1))) (90 + 2 * j) 40 (fun _ => 0)) (90 + 2 * j) (nM S.1) (fun i => lN ((bst S.1).2 i))) := Fm_tr F (Fm_fL (decide_eq_true (by omega)))
      refine hQ _ (XS_shn h1 F2 (shC_set h1.2.2.2.2 ⟨by decide, ?_, ?_, by omega, fun i hi => ?_⟩ (fun a i ha => by rw [rI_fL, rI_fL, rI_wI_n ha, rI_wI_n ha]) (fun a i ha => by rw [rL_fL, if_neg (fun q => ha q.1), rL_fL, if_neg (fun q => ha q.1)]; rfl))) (Fm_tr (Xc_Fc X1) (Fm_mono F2 (fun a i => Ish2_ICc) Lsh2_LCc))
      · rw [rI_fL, rI_fL, rI_wI, if_neg (fun q => absurd q.2 (by decide)), rI_wI, if_pos ⟨rfl, rfl⟩]; rfl
      · rw [rI_fL, rI_fL, rI_wI, if_pos ⟨rfl, rfl⟩]
      · rw [rL_fL, if_pos ⟨rfl, hi⟩]
