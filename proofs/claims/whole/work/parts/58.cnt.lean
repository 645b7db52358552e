/-! ===== chance, counts, the image: the reference ===== -/
def asf (N : Net) (ω : Wd) (n : Nat) : Bool := decide (nF1 N n = none ∨ nF1 N n = some (ω n))
def asfA (N : Net) (ω : Wd) : Bool := (List.range' 0 (nM N)).all (asf N ω)
theorem m_isAsFound {d : Nat} {Q : Option PV → St → Prop} {N : Net} {σ : St} {ω : Wd} (h : MI σ N) (hw : Wld σ 105 N ω (nM N)) : Ca (d + 2) 201 [vR 97 9] σ Q ↔ Q (some (vI (b2 (asfA N ω = true)))) σ := by
  have h7 := MI_7 h
  have hF := h.1
  rw [ca_at (K := kX9_isAsFound) (ls := [vR 97 9, vU]) rfl rfl rfl]
  have loop : ∀ r n, n + r = nM N → (At (d + 1) kX9_isAsFound 2 [vR 97 9, vI (nI n)] [] σ Q ↔ Q (some (vI (b2 (((List.range' n r).all (asf N ω)) = true)))) σ) := by
    intro r
    induction r with
    | zero =>
      intro n hn
      have hn' : n = nM N := by omega
      subst hn'
      simp (disch := first | exact is2I | exact is2R | omega) only [z_X9_isAsFound_2, z_X9_isAsFound_3, z_X9_isAsFound_4, z_X9_isAsFound_7, z_X9_isAsFound_43, z_X9_isAsFound_44, i_many h, kLe, Nat.le_refl, rk_b1, true_and, Option.toList_some, Option.toList_none, List.cons_append, List.nil_append, is2IT, is2RT, if_true, if_false]
      exact Iff.rfl
    | succ r ih =>
      intro n hn
      have hn1 : n < nM N := by omega
      have c : ¬ nM N ≤ n := by omega
      obtain ⟨w1, w2⟩ := hw n hn1
      have hs := NV_s h hn1
      have e1 := oI_none' (NV_f h.2.2 hn1)
      have e2 := oI_eq (p := ω n) (NV_f h.2.2 hn1) (by omega)
      rw [List.range'_succ, List.all_cons]
      simp (disch := first | exact is2I | exact is2R | omega) only [z_X9_isAsFound_2, z_X9_isAsFound_3, z_X9_isAsFound_4, z_X9_isAsFound_7, z_X9_isAsFound_10, z_X9_isAsFound_11, z_X9_isAsFound_12, z_X9_isAsFound_13, z_X9_isAsFound_16, z_X9_isAsFound_17, z_X9_isAsFound_20, z_X9_isAsFound_21, z_X9_isAsFound_22, z_X9_isAsFound_23, z_X9_isAsFound_26, z_X9_isAsFound_27, z_X9_isAsFound_30, z_X9_isAsFound_31, z_X9_isAsFound_32, z_X9_isAsFound_35, z_X9_isAsFound_36, z_X9_isAsFound_37, i_many h, kLe, c, i_is4 h hn1, e1, e2, mf_r1 hF, mf_r2 hF, mf_r3 hF, mf_r5 hF, mf_r10 hF, mf_r11 hF, mf_r13 hF, mf_r15 hF, mf_r16 hF, mf_r19 hF, mf_r21 hF, mf_r22 hF, mf_r23 hF, mf_r24 hF, mf_r25 hF, mf_r26 hF, mf_r27 hF, mf_r29 hF, mf_r30 hF, mf_r31 hF, mf_r32 hF, mf_s98 hF, mf_s99 hF, mf_s100 hF, mf_s101 hF, mf_s102 hF, mf_s103 hF, mf_s104 hF, mf_s105 hF, mf_s106 hF, mf_s107 hF, mf_s108 hF, mf_s109 hF, mf_s110 hF, mf_s111 hF, mf_s112 hF, mf_s113 hF, mf_s114 hF, mf_s115 hF, mf_s116 hF, mf_s117 hF, mf_s118 hF, kIn, kCl, w1, kAL, rk_b0, true_and, Option.toList_some, Option.toList_none, List.cons_append, List.nil_append, is2IT, is2RT, if_true, if_false]
      have nx := ih (n + 1) (by omega)
      by_cases c1 : nF1 N n = none
      · rw [if_pos c1, z_X9_isAsFound_40, nx, show asf N ω n = true from decide_eq_true (Or.inl c1), Bool.true_and]
      · rw [if_neg c1]
        by_cases c2 : nF1 N n = some (ω n)
        · rw [if_pos c2, z_X9_isAsFound_40, nx, show asf N ω n = true from decide_eq_true (Or.inr c2), Bool.true_and]
        · rw [if_neg c2, show asf N ω n = false from decide_eq_false (fun q => q.elim c1 c2), Bool.false_and]
          exact Iff.rfl
  have l := loop (nM N) 0 (by omega)
  simp only [z_X9_isAsFound_0, z_X9_isAsFound_1, true_and, Option.toList_some, Option.toList_none, List.cons_append, List.nil_append, is2IT, is2RT, if_true, if_false]
  exact l
def chR (N : Net) (s : Int32) (k v : Nat) : Nat → Nat → Nat × Nat → Nat × Nat
  | 0, _, p => p
  | r + 1, i, p => chR N s k v r (i + 1) (if asfA N (drS N (s + nI i)) = true then (p.1 + 1, if drS N (s + nI i) k = v then p.2 + 1 else p.2) else p)
def chanF (N : Net) (s m n v l : Int32) : Int32 := match pN 9 m with
  | none => -2
  | some M => if M = 0 then -2 else match askP N n v with
    | none => -2
    | some e => if 0 ≤ l ∧ l < nI 2 then (if (chR N s e.1 e.2 M 0 (0, 0)).1 = 0 then -3 else (lowS (chR N s e.1 e.2 M 0 (0, 0)).2 (chR N s e.1 e.2 M 0 (0, 0)).1 l).toInt32) else -2
theorem i64_8 (a : Int32) : a.toInt64 ≤ (8 : Int64) ↔ a < nI 9 := (i64_le a 8).trans (le_pred (n := a) (m := 9) (by decide))
theorem i64_1' (a : Int32) : (1 : Int64) ≤ a.toInt64 ↔ 1 ≤ a := i64_le 1 a
theorem ch_l {d k v M : Nat} {Q : Option PV → St → Prop} {N : Net} {σ0 : St} {s l : Int32} {pE : Nat × Nat} (h : MI σ0 N) (hk : k < nM N) (hv : v < 3) (hM : M < 9) (hQ : ∀ σ', Fm Iw noL σ0 σ' → pE.1 ≤ M → pE.2 ≤ M → At (d + 4) kX9_chance 90 [vR 97 9, vI s, vI (nI M), vI (nI k), vI (nI v), vI l, vI (nI pE.1), vI (nI pE.2), vI (nI M)] [] σ' Q) : ∀ r i σ p, i + r = M → p.1 ≤ i → p.2 ≤ i → Fm Iw noL σ0 σ → chR N s k v r i p = pE → At (d + 4) kX9_chance 36 [vR 97 9, vI s, vI (nI M), vI (nI k), vI (nI v), vI l, vI (nI p.1), vI (nI p.2), vI (nI i)] [] σ Q
  | 0, i, σ, p, hi, h1, h2, hf, he => by
    have : i = M := by omega
    subst this
    have he' : p = pE := he
    subst he'
    simp (disch := first | exact is2I | exact is2R | omega) only [z_X9_chance_36, z_X9_chance_38, z_X9_chance_39, kLe, Nat.le_refl, true_and, Option.toList_some, Option.toList_none, List.cons_append, List.nil_append, is2IT, is2RT, if_true, if_false]
    exact hQ σ hf h1 h2
  | r + 1, i, σ, p, hi, h1, h2, hf, he => by
    have h7 := MI_7 h
    have m1 : MI σ N := MI_fm h hf (fun _ => rfl)
    have c : ¬ M ≤ i := by omega
    have ev : nI i + (1 : Int32) = nI (i + 1) := nI_add i 1
    have hs := NV_s h hk
    have he' : chR N s k v r (i + 1) (if asfA N (drS N (s + nI i)) = true then (p.1 + 1, if drS N (s + nI i) k = v then p.2 + 1 else p.2) else p) = pE := he
    simp (disch := first | exact is2I | exact is2R | omega) only [z_X9_chance_36, z_X9_chance_38, z_X9_chance_39, z_X9_chance_42, z_X9_chance_43, z_X9_chance_44, z_X9_chance_46, z_X9_chance_47, kLe, c, true_and, Option.toList_some, Option.toList_none, List.cons_append, List.nil_append, is2IT, is2RT, if_true, if_false]
    refine m_draws (d := d) m1 (fun σ1 q1 q2 => ?_)
    have f1 := Fm_tr hf q1
    have m2 : MI σ1 N := MI_fm h f1 (fun _ => rfl)
    have nx : ∀ p2 : Nat × Nat, p2.1 ≤ i + 1 → p2.2 ≤ i + 1 → chR N s k v r (i + 1) p2 = pE → At (d + 4) kX9_chance 84 [vR 97 9, vI s, vI (nI M), vI (nI k), vI (nI v), vI l, vI (nI p2.1), vI (nI p2.2), vI (nI i)] [] σ1 Q := fun p2 g1 g2 g3 => by
      simp (disch := first | exact is2I | exact is2R | omega) only [z_X9_chance_84, ev, true_and, Option.toList_some, Option.toList_none, List.cons_append, List.nil_append, is2IT, is2RT, if_true, if_false]
      rw [z_X9_chance_87]
      exact ch_l h hk hv hM hQ r (i + 1) σ1 p2 (by omega) g1 g2 f1 g3
    obtain ⟨w1, w2⟩ := q2 k hk
    simp (disch := first | exact is2I | exact is2R | omega) only [z_X9_chance_50, z_X9_chance_51, z_X9_chance_54, z_X9_chance_57, m_isAsFound m2 q2, b2_0, true_and, Option.toList_some, Option.toList_none, List.cons_append, List.nil_append, is2IT, is2RT, if_true, if_false]
    cases ea : asfA N (drS N (s + nI i)) with
    | false =>
      rw [ea, if_neg (fun q => by cases q)] at he'
      simp only [Bool.false_eq_true, not_false_eq_true, if_true]
      exact nx p (by omega) (by omega) he'
    | true =>
      rw [ea, if_pos rfl] at he'
      have e1 : nI p.1 + (1 : Int32) = nI (p.1 + 1) := nI_add p.1 1
      simp (disch := first | exact is2I | exact is2R | omega) only [z_X9_chance_60, z_X9_chance_63, z_X9_chance_65, z_X9_chance_66, z_X9_chance_69, z_X9_chance_70, z_X9_chance_71, z_X9_chance_73, z_X9_chance_76, z_X9_chance_77, z_X9_chance_80, z_X9_chance_81, z_X9_chance_82, mf_r1 m2.1, mf_r2 m2.1, mf_r3 m2.1, mf_r5 m2.1, mf_r10 m2.1, mf_r11 m2.1, mf_r13 m2.1, mf_r15 m2.1, mf_r16 m2.1, mf_r19 m2.1, mf_r21 m2.1, mf_r22 m2.1, mf_r23 m2.1, mf_r24 m2.1, mf_r25 m2.1, mf_r26 m2.1, mf_r27 m2.1, mf_r29 m2.1, mf_r30 m2.1, mf_r31 m2.1, mf_r32 m2.1, mf_s98 m2.1, mf_s99 m2.1, mf_s100 m2.1, mf_s101 m2.1, mf_s102 m2.1, mf_s103 m2.1, mf_s104 m2.1, mf_s105 m2.1, mf_s106 m2.1, mf_s107 m2.1, mf_s108 m2.1, mf_s109 m2.1, mf_s110 m2.1, mf_s111 m2.1, mf_s112 m2.1, mf_s113 m2.1, mf_s114 m2.1, mf_s115 m2.1, mf_s116 m2.1, mf_s117 m2.1, mf_s118 m2.1, kIn, kCl, w1, kEq, e1, not_true_eq_false, true_and, Option.toList_some, Option.toList_none, List.cons_append, List.nil_append, is2IT, is2RT, if_true, if_false]
      by_cases cv : drS N (s + nI i) k = v
      · rw [if_pos cv] at he' ⊢
        simp (disch := first | exact is2I | exact is2R | omega) only [kAL]
        exact nx (p.1 + 1, p.2 + 1) (by show p.1 + 1 ≤ _; omega) (by show p.2 + 1 ≤ _; omega) he'
      · rw [if_neg cv] at he' ⊢
        have e0 : nI p.2 + (0 : Int32) = nI p.2 := nI_add p.2 0
        simp (disch := first | exact is2I | exact is2R | omega) only [e0]
        exact nx (p.1 + 1, p.2) (by show p.1 + 1 ≤ _; omega) (by show p.2 ≤ _; omega) he'
theorem m_chance {d : Nat} {Q : Option PV → St → Prop} {N : Net} {σ : St} {s m n v l : Int32} (h : MI σ N) (hQ : ∀ σ', Sc σ σ' → Q (some (vI (chanF N s m n v l))) σ') : Ca (d + 5) 202 [vR 97 9, vI s, vI m, vI n, vI v, vI l] σ Q := by
  have h7 := MI_7 h
  rw [ca_at (K := kX9_chance) (ls := [vR 97 9, vI s, vI m, vI n, vI v, vI l, vU, vU, vU]) rfl rfl rfl]
  unfold chanF at hQ
  simp (disch := first | exact is2I | exact is2R | omega) only [z_X9_chance_0, z_X9_chance_1, z_X9_chance_2, z_X9_chance_3, z_X9_chance_6, z_X9_chance_9, m_in, i64_1', i64_8, b2_0, true_and, Option.toList_some, Option.toList_none, List.cons_append, List.nil_append, is2IT, is2RT, if_true, if_false]
  have bad : Q (some (vI (-2))) σ → At (d + 4) kX9_chance 24 [vR 97 9, vI s, vI m, vI n, vI v, vI l, vU, vU, vU] [] σ Q := fun q => by simp only [z_X9_chance_24, z_X9_chance_26, true_and, Option.toList_some, Option.toList_none, List.cons_append, List.nil_append, is2IT, is2RT, if_true, if_false]; exact q
  cases hm : pN 9 m with
  | none =>
    rw [hm] at hQ
    have k1 : ¬ (1 ≤ m ∧ m < nI 9) := fun q => pN_none.mp hm ⟨by
      have q1 := q.1
      rw [Int32.le_iff_toInt_le] at q1 ⊢
      have e1 : (1 : Int32).toInt = 1 := by decide
      have e2 : (0 : Int32).toInt = 0 := by decide
      omega, q.2⟩
    rw [if_pos k1]
    exact bad (hQ σ Fm_rf)
  | some M =>
    rw [hm] at hQ
    obtain ⟨hM, rfl⟩ := (pN_some (by decide)).mp hm
    dsimp only at hQ
    by_cases c0 : M = 0
    · rw [if_pos c0] at hQ
      subst c0
      rw [if_pos (show ¬ ((1 : Int32) ≤ nI 0 ∧ nI 0 < nI 9) by decide)]
      exact bad (hQ σ Fm_rf)
    · rw [if_neg c0] at hQ
      have k1 : (1 : Int32) ≤ nI M ∧ nI M < nI 9 := ⟨(nI_leI (a := 1) (by decide) (by omega)).mpr (by omega), (nI_ltI (by omega) (by decide)).mpr hM⟩
      rw [if_neg (fun q => q k1)]
      simp (disch := first | exact is2I | exact is2R | omega) only [z_X9_chance_12, z_X9_chance_13, z_X9_chance_14, z_X9_chance_16, z_X9_chance_18, z_X9_chance_21, m_isAsked h, b2_0, true_and, Option.toList_some, Option.toList_none, List.cons_append, List.nil_append, is2IT, is2RT, if_true, if_false]
      cases ha : askP N n v with
      | none =>
        rw [ha] at hQ
        rw [if_pos (askY_n ha)]
        exact bad (hQ σ Fm_rf)
      | some e =>
        obtain ⟨k, u⟩ := e
        obtain ⟨hk, hu, rfl, rfl⟩ := (askP_some h.2.2).mp ha
        have hs := NV_s h hk
        rw [ha] at hQ
        dsimp only at hQ
        by_cases hl : 0 ≤ l ∧ l < nI 2
        · rw [if_pos hl] at hQ
          rw [if_neg (fun q => q (askY_y ha hl))]
          simp (disch := first | exact is2I | exact is2R | omega) only [z_X9_chance_27, z_X9_chance_28, z_X9_chance_30, z_X9_chance_31, z_X9_chance_33, z_X9_chance_34, true_and, Option.toList_some, Option.toList_none, List.cons_append, List.nil_append, is2IT, is2RT, if_true, if_false]
          refine ch_l (d := d) (pE := chR N s k u M 0 (0, 0)) h hk (by omega) hM (fun σ' q1 q2 q3 => ?_) M 0 σ (0, 0) (by omega) (Nat.le_refl 0) (Nat.le_refl 0) Fm_rf rfl
          have fin := hQ σ' (Sc_iw q1)
          generalize chR N s k u M 0 (0, 0) = p at q2 q3 fin
          simp (disch := first | exact is2I | exact is2R | omega) only [z_X9_chance_90, z_X9_chance_92, kEL, true_and, Option.toList_some, Option.toList_none, List.cons_append, List.nil_append, is2IT, is2RT, if_true, if_false]
          by_cases cp : p.1 = 0
          · rw [if_pos cp] at fin ⊢
            simp only [z_X9_chance_95, z_X9_chance_97, z_X9_chance_112, true_and, Option.toList_some, Option.toList_none, List.cons_append, List.nil_append, is2IT, is2RT, if_true, if_false]
            exact fin
          · rw [if_neg cp] at fin ⊢
            simp (disch := first | exact is2I | exact is2R | omega) only [z_X9_chance_100, z_X9_chance_102, z_X9_chance_103, z_X9_chance_105, z_X9_chance_106, z_X9_chance_108, nI_l, true_and, Option.toList_some, Option.toList_none, List.cons_append, List.nil_append, is2IT, is2RT, if_true, if_false]
            refine m_lowest (d := d + 3) (by omega) (by omega) cp ?_
            simp only [z_X9_chance_111, z_X9_chance_112, true_and, Option.toList_some, Option.toList_none, List.cons_append, List.nil_append, is2IT, is2RT, if_true, if_false]
            exact fin
        · rw [if_neg hl] at hQ
          rw [if_pos (askY_l hl)]
          exact bad (hQ σ Fm_rf)
/-! counts -/
def cntR (P : Nat → Bool) : Nat → Nat → Nat → Nat
  | 0, _, v => v
  | r + 1, n, v => cntR P r (n + 1) (if P n = true then v + 1 else v)
def fndP (N : Net) (n : Nat) : Bool := decide (¬ nF1 N n = none)
def dneP (N : Net) (n : Nat) : Bool := decide (¬ nD N n = none)
theorem m_founds {d : Nat} {Q : Option PV → St → Prop} {N : Net} {σ : St} (h : MI σ N) : Ca (d + 2) 204 [vR 97 9] σ Q ↔ Q (some (vI (nI (cntR (fndP N) (nM N) 0 0)))) σ := by
  have h7 := MI_7 h
  rw [ca_at (K := kX9_founds) (ls := [vR 97 9, vU, vU]) rfl rfl rfl]
  have loop : ∀ r n v, n + r = nM N → (At (d + 1) kX9_founds 4 [vR 97 9, vI (nI v), vI (nI n)] [] σ Q ↔ Q (some (vI (nI (cntR (fndP N) r n v)))) σ) := by
    intro r
    induction r with
    | zero =>
      intro n v hn
      have hn' : n = nM N := by omega
      subst hn'
      simp (disch := first | exact is2I | exact is2R | omega) only [z_X9_founds_4, z_X9_founds_5, z_X9_founds_6, z_X9_founds_9, z_X9_founds_36, z_X9_founds_37, i_many h, kLe, Nat.le_refl, cntR, true_and, Option.toList_some, Option.toList_none, List.cons_append, List.nil_append, is2IT, is2RT, if_true, if_false]
    | succ r ih =>
      intro n v hn
      have hn1 : n < nM N := by omega
      have c : ¬ nM N ≤ n := by omega
      have e1 := oI_none' (NV_f h.2.2 hn1)
      have z0 : nI v + (0 : Int32) = nI v := nI_add v 0
      simp (disch := first | exact is2I | exact is2R | omega) only [z_X9_founds_4, z_X9_founds_5, z_X9_founds_6, z_X9_founds_9, z_X9_founds_12, z_X9_founds_13, z_X9_founds_14, z_X9_founds_15, z_X9_founds_16, z_X9_founds_19, z_X9_founds_20, z_X9_founds_23, z_X9_founds_24, z_X9_founds_27, z_X9_founds_28, z_X9_founds_29, z_X9_founds_30, i_many h, kLe, c, i_is4 h hn1, e1, kAL, Nat.add_zero, cntR, true_and, Option.toList_some, Option.toList_none, List.cons_append, List.nil_append, is2IT, is2RT, if_true, if_false]
      by_cases c1 : nF1 N n = none
      · rw [if_pos c1, z_X9_founds_33, ih (n + 1) v (by omega), if_neg (show ¬ fndP N n = true by unfold fndP; simp [c1])]
      · rw [if_neg c1, z_X9_founds_33, ih (n + 1) (v + 1) (by omega), if_pos (show fndP N n = true by unfold fndP; simp [c1])]
  have l := loop (nM N) 0 0 (by omega)
  simp only [z_X9_founds_0, z_X9_founds_1, z_X9_founds_2, z_X9_founds_3, true_and, Option.toList_some, Option.toList_none, List.cons_append, List.nil_append, is2IT, is2RT, if_true, if_false]
  exact l
theorem m_countsOf {d w : Nat} {Q : Option PV → St → Prop} {N : Net} {σ : St} (h : MI σ N) (hw : w = 2 ∨ w = 3) : Ca (d + 3) 208 [vR 97 9, vI (nI w)] σ Q ↔ Q (some (vI (nI (cntR (if w = 2 then dneP N else hinB N) (nM N) 0 0)))) σ := by
  have h7 := MI_7 h
  rw [ca_at (K := kX9_countsOf) (ls := [vR 97 9, vI (nI w), vU, vU, vU]) rfl rfl rfl]
  have loop : ∀ r n v l4, n + r = nM N → (At (d + 2) kX9_countsOf 4 [vR 97 9, vI (nI w), vI (nI v), vI (nI n), l4] [] σ Q ↔ Q (some (vI (nI (cntR (if w = 2 then dneP N else hinB N) r n v)))) σ) := by
    intro r
    induction r with
    | zero =>
      intro n v l4 hn
      have hn' : n = nM N := by omega
      subst hn'
      simp (disch := first | exact is2I | exact is2R | omega) only [z_X9_countsOf_4, z_X9_countsOf_5, z_X9_countsOf_6, z_X9_countsOf_9, z_X9_countsOf_61, z_X9_countsOf_62, i_many h, kLe, Nat.le_refl, cntR, true_and, Option.toList_some, Option.toList_none, List.cons_append, List.nil_append, is2IT, is2RT, if_true, if_false]
    | succ r ih =>
      intro n v l4 hn
      have hn1 : n < nM N := by omega
      have c : ¬ nM N ≤ n := by omega
      have e1 := oI_none' (NV_d h.2.2 hn1)
      have n10 : ((1 : Int32) = 0) = False := eq_false (by decide)
      rcases hw with rfl | rfl
      · simp (disch := first | exact is2I | exact is2R | omega) only [z_X9_countsOf_4, z_X9_countsOf_5, z_X9_countsOf_6, z_X9_countsOf_9, z_X9_countsOf_12, z_X9_countsOf_13, z_X9_countsOf_14, z_X9_countsOf_17, z_X9_countsOf_18, z_X9_countsOf_19, z_X9_countsOf_20, z_X9_countsOf_23, z_X9_countsOf_24, z_X9_countsOf_27, z_X9_countsOf_28, z_X9_countsOf_31, z_X9_countsOf_32, z_X9_countsOf_35, z_X9_countsOf_36, z_X9_countsOf_37, z_X9_countsOf_40, z_X9_countsOf_42, z_X9_countsOf_43, z_X9_countsOf_45, z_X9_countsOf_48, z_X9_countsOf_49, z_X9_countsOf_52, z_X9_countsOf_53, z_X9_countsOf_54, z_X9_countsOf_55, i_many h, kLe, c, kEL, i_is5 h hn1, e1, kAL, Nat.add_zero, n10, cntR, true_and, Option.toList_some, Option.toList_none, List.cons_append, List.nil_append, is2IT, is2RT, if_true, if_false]
        by_cases c1 : nD N n = none
        · rw [if_pos c1, z_X9_countsOf_58, ih (n + 1) v _ (by omega), if_neg (show ¬ dneP N n = true by unfold dneP; simp [c1])]; rfl
        · rw [if_neg c1, z_X9_countsOf_58, ih (n + 1) (v + 1) _ (by omega), if_pos (show dneP N n = true by unfold dneP; simp [c1])]; rfl
      · have z3 : ¬ (3 = 2) := by decide
        simp (disch := first | exact is2I | exact is2R | omega) only [z_X9_countsOf_4, z_X9_countsOf_5, z_X9_countsOf_6, z_X9_countsOf_9, z_X9_countsOf_12, z_X9_countsOf_13, z_X9_countsOf_14, z_X9_countsOf_17, z_X9_countsOf_18, z_X9_countsOf_19, z_X9_countsOf_20, z_X9_countsOf_23, z_X9_countsOf_24, z_X9_countsOf_27, z_X9_countsOf_28, z_X9_countsOf_31, z_X9_countsOf_32, z_X9_countsOf_35, z_X9_countsOf_36, z_X9_countsOf_37, z_X9_countsOf_40, z_X9_countsOf_42, z_X9_countsOf_43, z_X9_countsOf_45, z_X9_countsOf_48, z_X9_countsOf_49, z_X9_countsOf_52, z_X9_countsOf_53, z_X9_countsOf_54, z_X9_countsOf_55, i_many h, kLe, c, kEL, z3, i_isHinted h hn1, b2_0, kAL, Nat.add_zero, cntR, true_and, Option.toList_some, Option.toList_none, List.cons_append, List.nil_append, is2IT, is2RT, if_true, if_false]
        have ih' := ih
        simp only [z3, if_false] at ih'
        by_cases c1 : hinB N n = true
        · rw [if_neg (fun q => q c1), z_X9_countsOf_58, ih' (n + 1) (v + 1) _ (by omega), if_pos c1]
        · rw [if_pos c1, z_X9_countsOf_58, ih' (n + 1) v _ (by omega), if_neg c1]
  have l := loop (nM N) 0 0 vU (by omega)
  simp only [z_X9_countsOf_0, z_X9_countsOf_1, z_X9_countsOf_2, z_X9_countsOf_3, true_and, Option.toList_some, Option.toList_none, List.cons_append, List.nil_append, is2IT, is2RT, if_true, if_false]
  exact l
def wldR (N : Net) : Nat → Nat → Nat → Nat
  | 0, _, v => v
  | r + 1, n, v => wldR N r (n + 1) (v * nS N n)
theorem m_worlds {d : Nat} {Q : Option PV → St → Prop} {N : Net} {σ : St} (h : MI σ N) : Ca (d + 2) 209 [vR 97 9] σ Q ↔ Q (some (vI (nI (wldR N (nM N) 0 1)))) σ := by
  have h7 := MI_7 h
  rw [ca_at (K := kX9_worlds) (ls := [vR 97 9, vU, vU]) rfl rfl rfl]
  have loop : ∀ r n v, n + r = nM N → (At (d + 1) kX9_worlds 4 [vR 97 9, vI (nI v), vI (nI n)] [] σ Q ↔ Q (some (vI (nI (wldR N r n v)))) σ) := by
    intro r
    induction r with
    | zero =>
      intro n v hn
      have hn' : n = nM N := by omega
      subst hn'
      simp (disch := first | exact is2I | exact is2R | omega) only [z_X9_worlds_4, z_X9_worlds_5, z_X9_worlds_6, z_X9_worlds_9, z_X9_worlds_27, z_X9_worlds_28, i_many h, kLe, Nat.le_refl, wldR, true_and, Option.toList_some, Option.toList_none, List.cons_append, List.nil_append, is2IT, is2RT, if_true, if_false]
    | succ r ih =>
      intro n v hn
      have hn1 : n < nM N := by omega
      have c : ¬ nM N ≤ n := by omega
      simp (disch := first | exact is2I | exact is2R | omega) only [z_X9_worlds_4, z_X9_worlds_5, z_X9_worlds_6, z_X9_worlds_9, z_X9_worlds_12, z_X9_worlds_13, z_X9_worlds_14, z_X9_worlds_15, z_X9_worlds_16, z_X9_worlds_19, z_X9_worlds_20, z_X9_worlds_21, i_many h, kLe, c, i_is0 h hn1, pk_mul, kAL, wldR, true_and, Option.toList_some, Option.toList_none, List.cons_append, List.nil_append, is2IT, is2RT, if_true, if_false]
      rw [z_X9_worlds_24, ih (n + 1) (v * nS N n) (by omega)]
  have l := loop (nM N) 0 1 (by omega)
  simp only [z_X9_worlds_0, z_X9_worlds_1, z_X9_worlds_2, z_X9_worlds_3, true_and, Option.toList_some, Option.toList_none, List.cons_append, List.nil_append, is2IT, is2RT, if_true, if_false]
  exact l
