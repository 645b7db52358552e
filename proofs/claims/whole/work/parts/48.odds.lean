/-! ===== copies, would, without, power, likely ===== -/
set_option maxRecDepth 4000 in
theorem cop_l {d a b : Nat} {Q : Option PV → St → Prop} {σ : St} {g : Nat → Int32} (ha : sh σ a = (20, 253)) (hb : sh σ b = (20, 253)) (hg : ∀ i, rI σ a i = g i) (hab : a ≠ b) : ∀ f n, n + f = 253 → (At d kX9_copies 2 [vR a 20, vR b 20, vI (nI n)] [] (fI σ b 0 n g) Q ↔ Q none (fI σ b 0 253 g))
  | 0, n, hn => by
    have : n = 253 := by omega
    subst this
    simp (disch := first | exact is2I | exact is2R | omega) only [z_X9_copies_2, z_X9_copies_3, z_X9_copies_6, z_X9_copies_21, kLLe, Nat.le_refl, true_and, Option.toList_some, Option.toList_none, List.cons_append, List.nil_append, is2IT, is2RT, if_true, if_false]
  | f + 1, n, hn => by
    have c : ¬ (253 ≤ n) := by omega
    have hr : rI (fI σ b 0 n g) a n = g n := by rw [rI_fI_n hab]; exact hg n
    simp (disch := first | exact is2I | exact is2R | omega) only [z_X9_copies_2, z_X9_copies_3, z_X9_copies_6, z_X9_copies_9, z_X9_copies_10, z_X9_copies_11, z_X9_copies_12, z_X9_copies_13, z_X9_copies_14, z_X9_copies_15, sh_fI, ha, hb, kLLe, c, kIn, kCl, kAL, hr, true_and, Option.toList_some, Option.toList_none, List.cons_append, List.nil_append, is2IT, is2RT, if_true, if_false]
    rw [z_X9_copies_18, fI_s0 rfl, cop_l ha hb hg hab f (n + 1) (by omega)]
theorem m_copies {d a b : Nat} {Q : Option PV → St → Prop} {σ : St} (ha : sh σ a = (20, 253)) (hb : sh σ b = (20, 253)) (hab : a ≠ b) : Ca (d + 1) 125 [vR a 20, vR b 20] σ Q ↔ Q none (fI σ b 0 253 (rI σ a)) := by
  rw [ca_at (K := kX9_copies) (ls := [vR a 20, vR b 20, vU]) rfl rfl rfl]
  have l := @cop_l d a b Q σ (rI σ a) ha hb (fun _ => rfl) hab 253 0 rfl
  rw [fI_0] at l
  simp only [z_X9_copies_0, z_X9_copies_1, true_and, Option.toList_some, Option.toList_none, List.cons_append, List.nil_append, is2IT, is2RT, if_true, if_false]
  exact l
theorem MN_fI {σ : St} {a b : Nat} {N : Net} (h7 : nM N ≤ 7) (h : MN σ a N) : MN (fI σ b 0 253 (rI σ a)) b N := by
  have e : ∀ i, i < 253 → rI (fI σ b 0 253 (rI σ a)) b i = rI σ a i := fun i hi => by rw [rI_fI, if_pos ⟨rfl, by omega, by omega⟩, Nat.sub_zero]
  refine ⟨by rw [e 252 (by decide)]; exact h.1, fun k hk => ?_⟩
  obtain ⟨a1, a2, a3, a4, a5, a6, a7, a8⟩ := h.2 k hk
  exact ⟨by rw [e _ (by omega)]; exact a1, by rw [e _ (by omega)]; exact a2, by rw [e _ (by omega)]; exact a3, by rw [e _ (by omega)]; exact a4, by rw [e _ (by omega)]; exact a5, by rw [e _ (by omega)]; exact a6, fun v hv => by rw [e _ (by omega)]; exact a7 v hv, fun r hr v hv => by rw [e _ (by omega)]; exact a8 r hr v hv⟩
/-- the web is changed, in thought, and is back -/
def I98 (a i : Nat) : Bool := I9a a i || (a.beq 98 && Nat.blt i 253)
theorem I98_a {a i : Nat} (h : I9a a i = true) : I98 a i = true := by unfold I98; rw [h]; rfl
theorem I98_c {a i : Nat} (h : I9 a i = true) : I98 a i = true := I98_a (by unfold I9a; rw [h]; rfl)
theorem I98_100 {i : Nat} : I98 100 i = true := I98_a (by unfold I9a; exact Bool.or_true _)
theorem I98_98 {i : Nat} (hi : i < 253) : I98 98 i = true := by unfold I98; rw [show Nat.beq 98 98 = true from rfl, show Nat.blt i 253 = true from Nat.ble_eq.mpr (by omega)]; exact Bool.or_true _
theorem Sa_back {σ σ2 : St} (hk : Fm I98 L9 σ σ2) (h3 : ∀ i, i < 253 → rI σ2 100 i = rI σ 98 i) : Sa σ (fI σ2 98 0 253 (rI σ2 100)) := by
  refine ⟨fun a i q => ?_, hk.2.1, hk.2.2.1, hk.2.2.2.1, hk.2.2.2.2⟩
  rw [rI_fI]
  by_cases c : a = 98 ∧ 0 ≤ i ∧ i < 0 + 253
  · rw [if_pos c, Nat.sub_zero, h3 i (by omega), c.1]
  · rw [if_neg c]
    refine hk.1 a i ?_
    unfold I98
    rw [q]
    cases e : a.beq 98 with
    | false => rfl
    | true =>
      cases e2 : Nat.blt i 253 with
      | false => rfl
      | true => exact absurd ⟨Nat.eq_of_beq_eq_true e, Nat.zero_le _, by have := Nat.le_of_ble_eq_true e2; omega⟩ c
def wouldF (N : Net) (o w n v l : Int32) : Int64 := match askP N o w with
  | none => NOl
  | some (j, x) => if (0 ≤ l ∧ l < nI 2) ∧ ¬ askP N n v = none then oddsF (setFD N j 5 (some x)) n v l else NOl
theorem m_would {d : Nat} {Q : Option PV → St → Prop} {σ : St} {N : Net} {n v o w l : Int32} (h : RQ σ N) (hQ : ∀ σ', Sa σ σ' → Q (some (vL (wouldF N o w n v l))) σ') : Ca (d + 17) 175 [vR 97 9, vI o, vI w, vI n, vI v, vI l] σ Q := by
  have hM := h.1
  have h7 := MI_7 hM
  rw [ca_at (K := kX9_would) (ls := [vR 97 9, vI o, vI w, vI n, vI v, vI l, vU, vU]) rfl rfl rfl]
  simp (disch := first | exact is2I | exact is2R | omega) only [z_X9_would_0, z_X9_would_1, z_X9_would_2, z_X9_would_3, z_X9_would_5, z_X9_would_8, z_X9_would_11, z_X9_would_12, z_X9_would_13, z_X9_would_15, z_X9_would_17, z_X9_would_20, m_isAsked hM, b2_0, true_and, Option.toList_some, Option.toList_none, List.cons_append, List.nil_append, is2IT, is2RT, if_true, if_false]
  have no : wouldF N o w n v l = NOl → At (d + 16) kX9_would 23 [vR 97 9, vI o, vI w, vI n, vI v, vI l, vU, vU] [] σ Q := fun e => by
    rw [e] at hQ
    simp only [z_X9_would_23, z_X9_would_26, true_and, Option.toList_some, Option.toList_none, List.cons_append, List.nil_append, is2IT, is2RT, if_true, if_false]
    exact hQ σ Fm_rf
  cases ha : askP N o w with
  | none =>
    rw [if_pos (askY_n ha)]
    exact no (by unfold wouldF; rw [ha])
  | some p =>
    obtain ⟨j, x⟩ := p
    obtain ⟨hj, hx, rfl, rfl⟩ := (askP_some hM.2.2).mp ha
    by_cases hl : 0 ≤ l ∧ l < nI 2
    · rw [if_neg (fun q => q (askY_y ha hl))]
      cases hb : askP N n v with
      | none =>
        rw [if_pos (askY_n hb)]
        exact no (by unfold wouldF; rw [ha]; dsimp only; rw [if_neg (fun q => q.2 hb)])
      | some p2 =>
        have hs := NV_s hM hj
        rw [if_neg (fun q => q (askY_y hb hl))]
        have e : wouldF N (nI j) (nI x) n v l = oddsF (setFD N j 5 (some x)) n v l := by unfold wouldF; rw [ha]; dsimp only; rw [if_pos ⟨hl, fun q => by rw [hb] at q; cases q⟩]
        rw [e] at hQ
        simp (disch := first | exact is2I | exact is2R | omega) only [z_X9_would_27, z_X9_would_28, z_X9_would_31, z_X9_would_32, z_X9_would_35, mf_r1 hM.1, mf_r2 hM.1, mf_r3 hM.1, mf_r5 hM.1, mf_r10 hM.1, mf_r11 hM.1, mf_r13 hM.1, mf_r15 hM.1, mf_r16 hM.1, mf_r19 hM.1, mf_r21 hM.1, mf_r22 hM.1, mf_r23 hM.1, mf_r24 hM.1, mf_r25 hM.1, mf_r26 hM.1, mf_r27 hM.1, mf_r29 hM.1, mf_r30 hM.1, mf_r31 hM.1, mf_r32 hM.1, mf_s98 hM.1, mf_s99 hM.1, mf_s100 hM.1, mf_s101 hM.1, mf_s102 hM.1, mf_s103 hM.1, mf_s104 hM.1, mf_s105 hM.1, mf_s106 hM.1, mf_s107 hM.1, mf_s108 hM.1, mf_s109 hM.1, mf_s110 hM.1, mf_s111 hM.1, mf_s112 hM.1, mf_s113 hM.1, mf_s114 hM.1, mf_s115 hM.1, mf_s116 hM.1, mf_s117 hM.1, mf_s118 hM.1, true_and, Option.toList_some, Option.toList_none, List.cons_append, List.nil_append, is2IT, is2RT, if_true, if_false]
        refine (m_copies (d := d + 15) (mf_s98 hM.1) (mf_s100 hM.1) (by decide)).mpr ?_
        have hF1 : MF (fI σ 100 0 253 (rI σ 98)) := MF_of hM.1 (fun _ _ => rfl) rfl
        simp (disch := first | exact is2I | exact is2R | omega) only [z_X9_would_38, z_X9_would_39, z_X9_would_42, z_X9_would_44, z_X9_would_45, z_X9_would_46, z_X9_would_47, z_X9_would_48, z_X9_would_49, z_X9_would_50, z_X9_would_51, z_X9_would_52, z_X9_would_54, z_X9_would_56, mf_r1 hF1, mf_r2 hF1, mf_r3 hF1, mf_r5 hF1, mf_r10 hF1, mf_r11 hF1, mf_r13 hF1, mf_r15 hF1, mf_r16 hF1, mf_r19 hF1, mf_r21 hF1, mf_r22 hF1, mf_r23 hF1, mf_r24 hF1, mf_r25 hF1, mf_r26 hF1, mf_r27 hF1, mf_r29 hF1, mf_r30 hF1, mf_r31 hF1, mf_r32 hF1, mf_s98 hF1, mf_s99 hF1, mf_s100 hF1, mf_s101 hF1, mf_s102 hF1, mf_s103 hF1, mf_s104 hF1, mf_s105 hF1, mf_s106 hF1, mf_s107 hF1, mf_s108 hF1, mf_s109 hF1, mf_s110 hF1, mf_s111 hF1, mf_s112 hF1, mf_s113 hF1, mf_s114 hF1, mf_s115 hF1, mf_s116 hF1, mf_s117 hF1, mf_s118 hF1, kIn, kCl, kAL, kLM, true_and, Option.toList_some, Option.toList_none, List.cons_append, List.nil_append, is2IT, is2RT, if_true, if_false]
        have m1 : MI (fI σ 100 0 253 (rI σ 98)) N := MI_fI hM (by decide)
        have m2 : MI (wI (fI σ 100 0 253 (rI σ 98)) 98 (36 * j + 5) (nI x)) (setFD N j 5 (some x)) := ⟨hF1, setFD_MN m1.2.1 h7 hj (Or.inr rfl) (o := some x), setFD_NV hM.2.2 (fun u q => by cases q; exact hx)⟩
        refine m_odds (d := d) ⟨m2, fun i hi => by rw [rI_wI_n (by decide), rI_fI_n (by decide)]; exact h.2.1 i hi, by rw [rI_wI_n (by decide), rI_fI_n (by decide)]; exact h.2.2⟩ (fun σ' q => ?_)
        have hF2 : MF σ' := MF_of hF1 q.2.2.1 q.2.2.2.1
        simp (disch := first | exact is2I | exact is2R | omega) only [z_X9_would_59, z_X9_would_61, z_X9_would_62, z_X9_would_65, z_X9_would_66, z_X9_would_69, mf_r1 hF2, mf_r2 hF2, mf_r3 hF2, mf_r5 hF2, mf_r10 hF2, mf_r11 hF2, mf_r13 hF2, mf_r15 hF2, mf_r16 hF2, mf_r19 hF2, mf_r21 hF2, mf_r22 hF2, mf_r23 hF2, mf_r24 hF2, mf_r25 hF2, mf_r26 hF2, mf_r27 hF2, mf_r29 hF2, mf_r30 hF2, mf_r31 hF2, mf_r32 hF2, mf_s98 hF2, mf_s99 hF2, mf_s100 hF2, mf_s101 hF2, mf_s102 hF2, mf_s103 hF2, mf_s104 hF2, mf_s105 hF2, mf_s106 hF2, mf_s107 hF2, mf_s108 hF2, mf_s109 hF2, mf_s110 hF2, mf_s111 hF2, mf_s112 hF2, mf_s113 hF2, mf_s114 hF2, mf_s115 hF2, mf_s116 hF2, mf_s117 hF2, mf_s118 hF2, true_and, Option.toList_some, Option.toList_none, List.cons_append, List.nil_append, is2IT, is2RT, if_true, if_false]
        refine (m_copies (d := d + 15) (mf_s100 hF2) (mf_s98 hF2) (by decide)).mpr ?_
        simp (disch := first | exact is2I | exact is2R | omega) only [z_X9_would_72, z_X9_would_74, true_and, Option.toList_some, Option.toList_none, List.cons_append, List.nil_append, is2IT, is2RT, if_true, if_false]
        refine hQ _ (Sa_back ?_ (fun i hi => ?_))
        · exact Fm_tr (Fm_tr (Fm_fI (fun i _ _ => I98_100)) (Fm_wI (I98_98 (by omega)))) (Fm_mono q (fun a i => I98_c) (fun _ q => q))
        · rw [q.1 100 i rfl, rI_wI_n (by decide), rI_fI, if_pos ⟨rfl, by omega, by omega⟩, Nat.sub_zero]
    · rw [if_pos (askY_l hl)]
      exact no (by unfold wouldF; rw [ha]; dsimp only; rw [if_neg (fun q => hl q.1)])
def withoutF (N : Net) (o n v l : Int32) : Int64 := match pN (nM N) o with
  | none => NOl
  | some j => if (0 ≤ l ∧ l < nI 2) ∧ ¬ askP N n v = none then oddsF (if hinN (setFD N j 4 none) j then setH (setFD N j 4 none) j 1 1 1 else setFD N j 4 none) n v l else NOl
theorem m_without {d : Nat} {Q : Option PV → St → Prop} {σ : St} {N : Net} {n v o l : Int32} (h : RQ σ N) (hQ : ∀ σ', Sa σ σ' → Q (some (vL (withoutF N o n v l))) σ') : Ca (d + 17) 176 [vR 97 9, vI o, vI n, vI v, vI l] σ Q := by
  have hM := h.1
  have h7 := MI_7 hM
  rw [ca_at (K := kX9_without) (ls := [vR 97 9, vI o, vI n, vI v, vI l, vU, vU, vU]) rfl rfl rfl]
  have no : withoutF N o n v l = NOl → At (d + 16) kX9_without 19 [vR 97 9, vI o, vI n, vI v, vI l, vU, vU, vU] [] σ Q := fun e => by
    rw [e] at hQ
    simp only [z_X9_without_19, z_X9_without_22, true_and, Option.toList_some, Option.toList_none, List.cons_append, List.nil_append, is2IT, is2RT, if_true, if_false]
    exact hQ σ Fm_rf
  cases hp : pN (nM N) o with
  | none =>
    have hP := pN_none.mp hp
    simp (disch := first | exact is2I | exact is2R | omega) only [z_X9_without_0, z_X9_without_1, z_X9_without_2, z_X9_without_5, i_isNode hM, b2_0, hP, not_false_eq_true, true_and, Option.toList_some, Option.toList_none, List.cons_append, List.nil_append, is2IT, is2RT, if_true, if_false]
    exact no (by unfold withoutF; rw [hp])
  | some j =>
    obtain ⟨hj, rfl⟩ := (pN_some (by omega)).mp hp
    have hP : 0 ≤ nI j ∧ nI j < nI (nM N) := (lt_nI (by omega)).mpr ⟨j, hj, rfl⟩
    simp (disch := first | exact is2I | exact is2R | omega) only [z_X9_without_0, z_X9_without_1, z_X9_without_2, z_X9_without_5, z_X9_without_8, z_X9_without_9, z_X9_without_10, z_X9_without_11, z_X9_without_13, z_X9_without_16, i_isNode hM, m_isAsked hM, b2_0, hP, and_self, not_true_eq_false, true_and, Option.toList_some, Option.toList_none, List.cons_append, List.nil_append, is2IT, is2RT, if_true, if_false]
    by_cases hl : 0 ≤ l ∧ l < nI 2
    · cases hb : askP N n v with
      | none =>
        rw [if_pos (askY_n hb)]
        exact no (by unfold withoutF; rw [hp]; dsimp only; rw [if_neg (fun q => q.2 hb)])
      | some p2 =>
        have hs := NV_s hM hj
        rw [if_neg (fun q => q (askY_y hb hl))]
        have e : withoutF N (nI j) n v l = oddsF (if hinN (setFD N j 4 none) j then setH (setFD N j 4 none) j 1 1 1 else setFD N j 4 none) n v l := by unfold withoutF; rw [hp]; dsimp only; rw [if_pos ⟨hl, fun q => by rw [hb] at q; cases q⟩]
        rw [e] at hQ
        simp (disch := first | exact is2I | exact is2R | omega) only [z_X9_without_23, z_X9_without_24, z_X9_without_27, z_X9_without_28, z_X9_without_31, mf_r1 hM.1, mf_r2 hM.1, mf_r3 hM.1, mf_r5 hM.1, mf_r10 hM.1, mf_r11 hM.1, mf_r13 hM.1, mf_r15 hM.1, mf_r16 hM.1, mf_r19 hM.1, mf_r21 hM.1, mf_r22 hM.1, mf_r23 hM.1, mf_r24 hM.1, mf_r25 hM.1, mf_r26 hM.1, mf_r27 hM.1, mf_r29 hM.1, mf_r30 hM.1, mf_r31 hM.1, mf_r32 hM.1, mf_s98 hM.1, mf_s99 hM.1, mf_s100 hM.1, mf_s101 hM.1, mf_s102 hM.1, mf_s103 hM.1, mf_s104 hM.1, mf_s105 hM.1, mf_s106 hM.1, mf_s107 hM.1, mf_s108 hM.1, mf_s109 hM.1, mf_s110 hM.1, mf_s111 hM.1, mf_s112 hM.1, mf_s113 hM.1, mf_s114 hM.1, mf_s115 hM.1, mf_s116 hM.1, mf_s117 hM.1, mf_s118 hM.1, true_and, Option.toList_some, Option.toList_none, List.cons_append, List.nil_append, is2IT, is2RT, if_true, if_false]
        refine (m_copies (d := d + 15) (mf_s98 hM.1) (mf_s100 hM.1) (by decide)).mpr ?_
        have hF1 : MF (fI σ 100 0 253 (rI σ 98)) := MF_of hM.1 (fun _ _ => rfl) rfl
        have hG1 : MF (wI (fI σ 100 0 253 (rI σ 98)) 98 (36 * j + 4) (-1)) := hF1
        have m1 : MI (fI σ 100 0 253 (rI σ 98)) N := MI_fI hM (by decide)
        have m2 : MI (wI (fI σ 100 0 253 (rI σ 98)) 98 (36 * j + 4) (-1)) (setFD N j 4 none) := ⟨hF1, setFD_MN m1.2.1 h7 hj (Or.inl rfl) (o := none), setFD_NV hM.2.2 (fun u q => by cases q)⟩
        simp (disch := first | exact is2I | exact is2R | omega) only [z_X9_without_34, z_X9_without_35, z_X9_without_38, z_X9_without_40, z_X9_without_41, z_X9_without_42, z_X9_without_43, z_X9_without_44, z_X9_without_45, z_X9_without_46, z_X9_without_47, z_X9_without_48, z_X9_without_51, z_X9_without_53, z_X9_without_54, mf_r1 hF1, mf_r2 hF1, mf_r3 hF1, mf_r5 hF1, mf_r10 hF1, mf_r11 hF1, mf_r13 hF1, mf_r15 hF1, mf_r16 hF1, mf_r19 hF1, mf_r21 hF1, mf_r22 hF1, mf_r23 hF1, mf_r24 hF1, mf_r25 hF1, mf_r26 hF1, mf_r27 hF1, mf_r29 hF1, mf_r30 hF1, mf_r31 hF1, mf_r32 hF1, mf_s98 hF1, mf_s99 hF1, mf_s100 hF1, mf_s101 hF1, mf_s102 hF1, mf_s103 hF1, mf_s104 hF1, mf_s105 hF1, mf_s106 hF1, mf_s107 hF1, mf_s108 hF1, mf_s109 hF1, mf_s110 hF1, mf_s111 hF1, mf_s112 hF1, mf_s113 hF1, mf_s114 hF1, mf_s115 hF1, mf_s116 hF1, mf_s117 hF1, mf_s118 hF1, kIn, kCl, kAL, kLM, i_isHinted m2 (show j < nM (setFD N j 4 none) from hj), true_and, Option.toList_some, Option.toList_none, List.cons_append, List.nil_append, is2IT, is2RT, if_true, if_false]
        have fin : ∀ (σ3 : St) (N3 : Net) (l7 : Int32), MI σ3 N3 → N3 = (if hinN (setFD N j 4 none) j then setH (setFD N j 4 none) j 1 1 1 else setFD N j 4 none) → Fm I98 L9 σ σ3 → (∀ i, rI σ3 106 i = rI σ 106 i) → (∀ i, i < 253 → rI σ3 100 i = rI σ 98 i) → ∀ l5 : Int32, At (d + 16) kX9_without 89 [vR 97 9, vI (nI j), vI n, vI v, vI l, vI l5, vI l7, vU] [] σ3 Q := by
          intro σ3 N3 l7 m3 e3 f3 g3 c3 l5
          rw [← e3] at hQ
          simp (disch := first | exact is2I | exact is2R | omega) only [z_X9_without_89, z_X9_without_90, z_X9_without_91, z_X9_without_92, z_X9_without_94, true_and, Option.toList_some, Option.toList_none, List.cons_append, List.nil_append, is2IT, is2RT, if_true, if_false]
          refine m_odds (d := d) ⟨m3, fun i hi => by rw [g3 i]; exact h.2.1 i hi, by rw [f3.1 97 20 rfl]; exact h.2.2⟩ (fun σ' q => ?_)
          have hF2 : MF σ' := MF_of m3.1 q.2.2.1 q.2.2.2.1
          simp (disch := first | exact is2I | exact is2R | omega) only [z_X9_without_97, z_X9_without_99, z_X9_without_100, z_X9_without_103, z_X9_without_104, z_X9_without_107, mf_r1 hF2, mf_r2 hF2, mf_r3 hF2, mf_r5 hF2, mf_r10 hF2, mf_r11 hF2, mf_r13 hF2, mf_r15 hF2, mf_r16 hF2, mf_r19 hF2, mf_r21 hF2, mf_r22 hF2, mf_r23 hF2, mf_r24 hF2, mf_r25 hF2, mf_r26 hF2, mf_r27 hF2, mf_r29 hF2, mf_r30 hF2, mf_r31 hF2, mf_r32 hF2, mf_s98 hF2, mf_s99 hF2, mf_s100 hF2, mf_s101 hF2, mf_s102 hF2, mf_s103 hF2, mf_s104 hF2, mf_s105 hF2, mf_s106 hF2, mf_s107 hF2, mf_s108 hF2, mf_s109 hF2, mf_s110 hF2, mf_s111 hF2, mf_s112 hF2, mf_s113 hF2, mf_s114 hF2, mf_s115 hF2, mf_s116 hF2, mf_s117 hF2, mf_s118 hF2, true_and, Option.toList_some, Option.toList_none, List.cons_append, List.nil_append, is2IT, is2RT, if_true, if_false]
          refine (m_copies (d := d + 15) (mf_s100 hF2) (mf_s98 hF2) (by decide)).mpr ?_
          simp (disch := first | exact is2I | exact is2R | omega) only [z_X9_without_110, z_X9_without_112, true_and, Option.toList_some, Option.toList_none, List.cons_append, List.nil_append, is2IT, is2RT, if_true, if_false]
          exact hQ _ (Sa_back (Fm_tr f3 (Fm_mono q (fun a i => I98_c) (fun _ q => q))) (fun i hi => by rw [q.1 100 i rfl]; exact c3 i hi))
        have f2 : Fm I98 L9 σ (wI (fI σ 100 0 253 (rI σ 98)) 98 (36 * j + 4) (-1)) := Fm_tr (Fm_fI (fun i _ _ => I98_100)) (Fm_wI (I98_98 (by omega)))
        have c2 : ∀ i, i < 253 → rI (wI (fI σ 100 0 253 (rI σ 98)) 98 (36 * j + 4) (-1)) 100 i = rI σ 98 i := fun i hi => by rw [rI_wI_n (by decide), rI_fI, if_pos ⟨rfl, by omega, by omega⟩, Nat.sub_zero]
        have n03 : ¬ ((3 : Int32) ≤ 0) := by decide
        by_cases ch : hinN (setFD N j 4 none) j
        · rw [b2_t ch]
          rw [if_pos ch] at fin
          have hF3 : MF (wI (wI (fI σ 100 0 253 (rI σ 98)) 98 (36 * j + 4) (-1)) 98 (36 * j + 6) 1) := hF1
          have hF4 : MF (wI (wI (wI (fI σ 100 0 253 (rI σ 98)) 98 (36 * j + 4) (-1)) 98 (36 * j + 6) 1) 98 (36 * j + 7) 1) := hF1
          have hF5 : MF (wI (wI (wI (wI (fI σ 100 0 253 (rI σ 98)) 98 (36 * j + 4) (-1)) 98 (36 * j + 6) 1) 98 (36 * j + 7) 1) 98 (36 * j + 8) 1) := hF1
          have t1 : (0 : Int32) + 1 = 1 := by decide
          have t2 : (1 : Int32) + 1 = 2 := by decide
          have t3 : (2 : Int32) + 1 = 3 := by decide
          have z0 : nI (36 * j) + (6 : Int32) + 0 = nI (36 * j + 6) := by rw [show (6 : Int32) = nI 6 from rfl, show (0 : Int32) = nI 0 from rfl, nI_add, nI_add]
          have z1 : nI (36 * j) + (6 : Int32) + 1 = nI (36 * j + 7) := by rw [show (6 : Int32) = nI 6 from rfl, show (1 : Int32) = nI 1 from rfl, nI_add, nI_add]
          have z2 : nI (36 * j) + (6 : Int32) + 2 = nI (36 * j + 8) := by rw [show (6 : Int32) = nI 6 from rfl, show (2 : Int32) = nI 2 from rfl, nI_add, nI_add]
          have n13 : ¬ ((3 : Int32) ≤ 1) := by decide
          have n23 : ¬ ((3 : Int32) ≤ 2) := by decide
          have n33 : ((3 : Int32) ≤ 3) := by decide
          have n10 : ¬ ((1 : Int32) = 0) := by decide
          simp (disch := first | exact is2I | exact is2R | omega) only [z_X9_without_56, z_X9_without_58, z_X9_without_59, z_X9_without_62, z_X9_without_64, z_X9_without_67, z_X9_without_68, z_X9_without_71, z_X9_without_73, z_X9_without_74, z_X9_without_75, z_X9_without_77, z_X9_without_78, z_X9_without_80, z_X9_without_81, z_X9_without_82, z_X9_without_83, z_X9_without_86, n03, n13, n23, n33, n10, t1, t2, t3, mf_r1 hG1, mf_r2 hG1, mf_r3 hG1, mf_r5 hG1, mf_r10 hG1, mf_r11 hG1, mf_r13 hG1, mf_r15 hG1, mf_r16 hG1, mf_r19 hG1, mf_r21 hG1, mf_r22 hG1, mf_r23 hG1, mf_r24 hG1, mf_r25 hG1, mf_r26 hG1, mf_r27 hG1, mf_r29 hG1, mf_r30 hG1, mf_r31 hG1, mf_r32 hG1, mf_s98 hG1, mf_s99 hG1, mf_s100 hG1, mf_s101 hG1, mf_s102 hG1, mf_s103 hG1, mf_s104 hG1, mf_s105 hG1, mf_s106 hG1, mf_s107 hG1, mf_s108 hG1, mf_s109 hG1, mf_s110 hG1, mf_s111 hG1, mf_s112 hG1, mf_s113 hG1, mf_s114 hG1, mf_s115 hG1, mf_s116 hG1, mf_s117 hG1, mf_s118 hG1, mf_r1 hF3, mf_r2 hF3, mf_r3 hF3, mf_r5 hF3, mf_r10 hF3, mf_r11 hF3, mf_r13 hF3, mf_r15 hF3, mf_r16 hF3, mf_r19 hF3, mf_r21 hF3, mf_r22 hF3, mf_r23 hF3, mf_r24 hF3, mf_r25 hF3, mf_r26 hF3, mf_r27 hF3, mf_r29 hF3, mf_r30 hF3, mf_r31 hF3, mf_r32 hF3, mf_s98 hF3, mf_s99 hF3, mf_s100 hF3, mf_s101 hF3, mf_s102 hF3, mf_s103 hF3, mf_s104 hF3, mf_s105 hF3, mf_s106 hF3, mf_s107 hF3, mf_s108 hF3, mf_s109 hF3, mf_s110 hF3, mf_s111 hF3, mf_s112 hF3, mf_s113 hF3, mf_s114 hF3, mf_s115 hF3, mf_s116 hF3, mf_s117 hF3, mf_s118 hF3, mf_r1 hF4, mf_r2 hF4, mf_r3 hF4, mf_r5 hF4, mf_r10 hF4, mf_r11 hF4, mf_r13 hF4, mf_r15 hF4, mf_r16 hF4, mf_r19 hF4, mf_r21 hF4, mf_r22 hF4, mf_r23 hF4, mf_r24 hF4, mf_r25 hF4, mf_r26 hF4, mf_r27 hF4, mf_r29 hF4, mf_r30 hF4, mf_r31 hF4, mf_r32 hF4, mf_s98 hF4, mf_s99 hF4, mf_s100 hF4, mf_s101 hF4, mf_s102 hF4, mf_s103 hF4, mf_s104 hF4, mf_s105 hF4, mf_s106 hF4, mf_s107 hF4, mf_s108 hF4, mf_s109 hF4, mf_s110 hF4, mf_s111 hF4, mf_s112 hF4, mf_s113 hF4, mf_s114 hF4, mf_s115 hF4, mf_s116 hF4, mf_s117 hF4, mf_s118 hF4, mf_r1 hF5, mf_r2 hF5, mf_r3 hF5, mf_r5 hF5, mf_r10 hF5, mf_r11 hF5, mf_r13 hF5, mf_r15 hF5, mf_r16 hF5, mf_r19 hF5, mf_r21 hF5, mf_r22 hF5, mf_r23 hF5, mf_r24 hF5, mf_r25 hF5, mf_r26 hF5, mf_r27 hF5, mf_r29 hF5, mf_r30 hF5, mf_r31 hF5, mf_r32 hF5, mf_s98 hF5, mf_s99 hF5, mf_s100 hF5, mf_s101 hF5, mf_s102 hF5, mf_s103 hF5, mf_s104 hF5, mf_s105 hF5, mf_s106 hF5, mf_s107 hF5, mf_s108 hF5, mf_s109 hF5, mf_s110 hF5, mf_s111 hF5, mf_s112 hF5, mf_s113 hF5, mf_s114 hF5, mf_s115 hF5, mf_s116 hF5, mf_s117 hF5, mf_s118 hF5, kLM, z0, z1, z2, kIn, kCl, true_and, Option.toList_some, Option.toList_none, List.cons_append, List.nil_append, is2IT, is2RT, if_true, if_false]
          have m3 := setH_MN (a := 1) (b := 1) (c := 1) (k := j) m2.2.1
          refine fin _ (setH (setFD N j 4 none) j 1 1 1) 3 ⟨hF5, m3, setH_NV m2.2.2 (by decide) (by decide) (by decide)⟩ rfl (Fm_tr (Fm_tr (Fm_tr f2 (Fm_wI (I98_98 (by omega)))) (Fm_wI (I98_98 (by omega)))) (Fm_wI (I98_98 (by omega)))) (fun i => ?_) (fun i hi => ?_) 1
          · rw [rI_wI_n (by decide), rI_wI_n (by decide), rI_wI_n (by decide), rI_wI_n (by decide), rI_fI_n (by decide)]
          · rw [rI_wI_n (by decide), rI_wI_n (by decide), rI_wI_n (by decide)]; exact c2 i hi
        · rw [b2_f ch]
          rw [if_neg ch] at fin
          simp (disch := first | exact is2I | exact is2R | omega) only [z_X9_without_56, z_X9_without_58, z_X9_without_59, z_X9_without_62, z_X9_without_64, n03, true_and, Option.toList_some, Option.toList_none, List.cons_append, List.nil_append, is2IT, is2RT, if_true, if_false]
          exact fin _ (setFD N j 4 none) 0 m2 rfl f2 (fun i => by rw [rI_wI_n (by decide), rI_fI_n (by decide)]) c2 0
    · rw [if_pos (askY_l hl)]
      exact no (by unfold withoutF; rw [hp]; dsimp only; rw [if_neg (fun q => hl q.1)])
/-- the weight, multiplied j times more -/
def powG (w : Nat) : Nat → Nat → Option Nat
  | 0, v => some v
  | j + 1, v => if ¬ w = 0 ∧ 9223372036854775807 / w < v then none else powG w j (v * w)
def powF (N : Net) (n : Int32) : Int64 := match pN 10 n with
  | none => NOl
  | some m => match powG (WT N no1) m 1 with
    | none => NOl
    | some v => lN v
theorem i64_9' (a : Int32) : a.toInt64 ≤ (9 : Int64) ↔ a < nI 10 := i64_9 a
theorem pow_l {d m w : Nat} {Q : Option PV → St → Prop} {σ : St} (hm : m < 10) (hw : w < 2 ^ 63) (o : Option Nat) (hQ : Q (some (vL (match o with | none => NOl | some v => lN v))) σ) : ∀ f i v, i + f = m → v < 2 ^ 63 → powG w f v = o → At d kX9_power 27 [vR 97 9, vI (nI m), vL (lN w), vU, vL (lN v), vU, vI (nI i)] [] σ Q
  | 0, i, v, hi, hv, ho => by
    have : i = m := by omega
    subst this
    have ho' : o = some v := by rw [← ho]; rfl
    subst ho'
    simp (disch := first | exact is2I | exact is2R | omega) only [z_X9_power_27, z_X9_power_29, z_X9_power_30, z_X9_power_66, z_X9_power_68, kLe, Nat.le_refl, true_and, Option.toList_some, Option.toList_none, List.cons_append, List.nil_append, is2IT, is2RT, if_true, if_false]
    exact hQ
  | f + 1, i, v, hi, hv, ho => by
    have c : ¬ (m ≤ i) := by omega
    have e0 : (lN w = 0) = (w = 0) := propext (pk_lEQ (b := 0) hw (by decide))
    have ev : nI i + (1 : Int32) = nI (i + 1) := nI_add i 1
    unfold powG at ho
    simp (disch := first | exact is2I | exact is2R | omega) only [z_X9_power_27, z_X9_power_29, z_X9_power_30, z_X9_power_33, z_X9_power_34, z_X9_power_35, z_X9_power_36, kLe, c, lg_cmp_eq, e0, true_and, Option.toList_some, Option.toList_none, List.cons_append, List.nil_append, is2IT, is2RT, if_true, if_false]
    by_cases cw : w = 0
    · rw [if_pos cw]
      rw [if_neg (fun q => q.1 cw)] at ho
      subst cw
      simp (disch := first | exact is2I | exact is2R | omega) only [z_X9_power_54, z_X9_power_56, z_X9_power_57, z_X9_power_58, z_X9_power_60, lN_mul, ev, true_and, Option.toList_some, Option.toList_none, List.cons_append, List.nil_append, is2IT, is2RT, if_true, if_false]
      rw [z_X9_power_63]
      exact pow_l hm hw o hQ f (i + 1) _ (by omega) (by rw [Nat.mul_zero]; decide) ho
    · rw [if_neg cw]
      have eM : (9223372036854775807 : Int64) = lN 9223372036854775807 := rfl
      have ed : (9223372036854775807 : Int64) / lN w = lN (9223372036854775807 / w) := by
        rw [eM]; exact pk_lDiv (by decide) (by omega) hw
      have hd : 9223372036854775807 / w ≤ 9223372036854775807 := Nat.div_le_self _ _
      have el : (lN v ≤ lN (9223372036854775807 / w)) = (v ≤ 9223372036854775807 / w) := propext (pk_lLE hv (by omega))
      simp (disch := first | exact is2I | exact is2R | omega) only [z_X9_power_39, z_X9_power_41, z_X9_power_44, z_X9_power_45, z_X9_power_46, z_X9_power_47, e0, cw, decide_false, Bool.not_false, ed, lg_cmp_le, el, true_and, Option.toList_some, Option.toList_none, List.cons_append, List.nil_append, is2IT, is2RT, if_true, if_false]
      by_cases cv : v ≤ 9223372036854775807 / w
      · rw [if_pos cv]
        rw [if_neg (fun q => absurd q.2 (Nat.not_lt.mpr cv))] at ho
        have hb : v * w ≤ 9223372036854775807 := (Nat.le_div_iff_mul_le (by omega)).mp cv
        simp (disch := first | exact is2I | exact is2R | omega) only [z_X9_power_54, z_X9_power_56, z_X9_power_57, z_X9_power_58, z_X9_power_60, lN_mul, ev, true_and, Option.toList_some, Option.toList_none, List.cons_append, List.nil_append, is2IT, is2RT, if_true, if_false]
        rw [z_X9_power_63]
        exact pow_l hm hw o hQ f (i + 1) _ (by omega) (by omega) ho
      · rw [if_neg cv]
        rw [if_pos ⟨cw, Nat.lt_of_not_le cv⟩] at ho
        subst ho
        simp only [z_X9_power_50, z_X9_power_53, true_and, Option.toList_some, Option.toList_none, List.cons_append, List.nil_append, is2IT, is2RT, if_true, if_false]
        exact hQ
theorem m_power {d : Nat} {Q : Option PV → St → Prop} {σ : St} {N : Net} {n : Int32} (h : RQ σ N) (hQ : ∀ σ', Sc σ σ' → Q (some (vL (powF N n))) σ') : Ca (d + 15) 167 [vR 97 9, vI n] σ Q := by
  rw [ca_at (K := kX9_power) (ls := [vR 97 9, vI n, vU, vU, vU, vU, vU]) rfl rfl rfl]
  unfold powF at hQ
  simp (disch := first | exact is2I | exact is2R | omega) only [z_X9_power_0, z_X9_power_1, z_X9_power_2, z_X9_power_3, z_X9_power_6, z_X9_power_9, m_in, i64_0, i64_9, b2_0, true_and, Option.toList_some, Option.toList_none, List.cons_append, List.nil_append, is2IT, is2RT, if_true, if_false]
  cases hp : pN 10 n with
  | none =>
    rw [hp] at hQ
    have hP := pN_none.mp hp
    rw [if_pos hP]
    simp only [z_X9_power_12, z_X9_power_15, true_and, Option.toList_some, Option.toList_none, List.cons_append, List.nil_append, is2IT, is2RT, if_true, if_false]
    exact hQ σ Fm_rf
  | some m =>
    rw [hp] at hQ
    obtain ⟨hm, rfl⟩ := (pN_some (by decide)).mp hp
    have hP : 0 ≤ nI m ∧ nI m < nI 10 := (lt_nI (by decide)).mpr ⟨m, hm, rfl⟩
    rw [if_neg (fun q => q hP)]
    simp only [z_X9_power_16, z_X9_power_17, true_and, Option.toList_some, Option.toList_none, List.cons_append, List.nil_append, is2IT, is2RT, if_true, if_false]
    refine m_all0 h (fun σ' q => ?_)
    simp only [z_X9_power_20, z_X9_power_21, z_X9_power_22, z_X9_power_24, z_X9_power_25, true_and, Option.toList_some, Option.toList_none, List.cons_append, List.nil_append, is2IT, is2RT, if_true, if_false]
    exact pow_l hm (WT_63 h.1.2.2) _ (hQ σ' q) m 0 1 (by omega) (by decide) rfl
