/-! ===== a text done: the reference ===== -/
def parR (T : List Nat) : Nat → Nat → List Clz → Nat ⊕ List Clz
  | 0, _, C => Sum.inr C
  | f + 1, p, C => match clauR T p with
    | Sum.inl e => Sum.inl e
    | Sum.inr e => if T[e.2]? = some 59 then parR T f (e.2 + 1) (C ++ [e.1]) else if e.2 < T.length then Sum.inl e.2 else Sum.inr (C ++ [e.1])
def exS (a : Nat × Net) (c : Clz) : Nat × Net := (if (doC a.2 c).1 = true then a.1 + 1 else a.1, (doC a.2 c).2)
def textF (N : Net) (T : List Nat) : Int32 × Net := match parR T 61 0 [] with
  | Sum.inl f => (-100 - nI f, N)
  | Sum.inr C => (nI (C.foldl exS (0, N)).1, (C.foldl exS (0, N)).2)
theorem Icl_Sc {σ σ' : St} (h : Fm Icl noL σ σ') : Sc σ σ' := Fm_mono h (fun a i q => by
  unfold Icl I789 at q
  simp only [Bool.or_eq_true, Bool.and_eq_true] at q
  unfold I9
  rcases q with ⟨q1, q2⟩ | q | q | ⟨q1, q2⟩
  · have h1 := Nat.eq_of_beq_eq_true q1
    rcases q2 with q2 | q2 | q2
    · have h2 := Nat.eq_of_beq_eq_true q2; exact decide_eq_true (by omega)
    · have h2 := Nat.eq_of_beq_eq_true q2; exact decide_eq_true (by omega)
    · have h2 := Nat.eq_of_beq_eq_true q2; exact decide_eq_true (by omega)
  · have h1 := Nat.eq_of_beq_eq_true q; exact decide_eq_true (by omega)
  · have h1 := Nat.eq_of_beq_eq_true q; exact decide_eq_true (by omega)
  · have h1 := Nat.eq_of_beq_eq_true q1
    have h2 := Nat.eq_of_beq_eq_true q2
    exact decide_eq_true (by omega)) (fun a q => by cases q)
/-- behind the clauses: what is wrong, or what stands -/
def TX (σ0 σ : St) (E : Nat ⊕ List Clz) : Prop := Fm Icl noL σ0 σ ∧ match E with
  | Sum.inl f => rI σ 97 8 = 1 ∧ rI σ 97 9 = nI f
  | Sum.inr C => rI σ 97 8 = 0 ∧ CLs σ C ∧ C.length < 20
theorem tx_l {d : Nat} {Q : Option PV → St → Prop} {σ0 : St} {T : List Nat} {E : Nat ⊕ List Clz} (h : TPs σ0 T) (hQ : ∀ σ', TX σ0 σ' E → At (d + 6) kX9_text 82 [vR 97 9, vU, vU] [] σ' Q) : ∀ f p σ C, T.length < p + f → p ≤ T.length → Fm Icl noL σ0 σ → rI σ 97 8 = 0 → rI σ 97 7 = nI p → CLs σ C → 6 * C.length ≤ p → parR T f p C = E → Ca (d + 6) 150 [vR 97 9] σ (fun r σ1 => At (d + 6) kX9_text 19 [vR 97 9, vU, vU] (r.toList ++ []) σ1 Q)
  | 0, p, σ, C, hf, hp, hm, h8, h7, hC, hb, he => by omega
  | f + 1, p, σ, C, hf, hp, hm, h8, h7, hC, hb, he => by
    have hT := TPs_fm h hm rfl (fun _ => rfl)
    have h60 := hT.2.2.1
    have he' : (match clauR T p with
      | Sum.inl e => Sum.inl e
      | Sum.inr e => if T[e.2]? = some 59 then parR T f (e.2 + 1) (C ++ [e.1]) else if e.2 < T.length then Sum.inl e.2 else Sum.inr (C ++ [e.1])) = E := he
    have n10 : ((1 : Int32) = 0) = False := eq_false (by decide)
    refine m_clause (d := d) hT hp h7 h8 hC hb (fun σ1 e ee q1 q2 q3 q4 => ?_) (fun σ1 e ee q1 q2 q3 => ?_)
    · have cl := clauR_le hp ee
      have f1 := Fm_tr hm q1
      have hT1 := TPs_fm h f1 rfl (fun _ => rfl)
      rw [ee] at he'
      dsimp only at he'
      have e59 := btI_n (p := e.2) (tp_b h) (c := 59) (by decide)
      have e59' : (btI T e.2 = (59 : Int32)) = (T[e.2]? = some 59) := e59
      simp (disch := first | exact is2I | exact is2R | omega) only [z_X9_text_19, z_X9_text_20, z_X9_text_23, z_X9_text_26, z_X9_text_27, z_X9_text_28, z_X9_text_31, z_X9_text_34, z_X9_text_36, q2, q3, m_byteAt hT1 (show e.2 < 1000 by omega), e59', Option.toList_none, List.nil_append, true_and, Option.toList_some, Option.toList_none, List.cons_append, List.nil_append, is2IT, is2RT, if_true, if_false]
      by_cases c : T[e.2]? = some 59
      · rw [if_pos c] at he' ⊢
        have hpl := (List.getElem?_eq_some_iff.mp c).1
        simp (disch := first | exact is2I | exact is2R | omega) only [z_X9_text_39, z_X9_text_40, z_X9_text_41, z_X9_text_44, z_X9_text_45, z_X9_text_46, z_X9_text_49, z_X9_text_50, q3, kAL, true_and, Option.toList_some, Option.toList_none, List.cons_append, List.nil_append, is2IT, is2RT, if_true, if_false]
        have nx := tx_l h hQ f (e.2 + 1) (wI σ1 97 7 (nI (e.2 + 1))) (C ++ [e.1]) (by omega) (by omega) (Fm_tr f1 (Fm_wI rfl)) (by rw [rI_wI, if_neg (by decide)]; exact q2) (by rw [rI_wI, if_pos ⟨rfl, rfl⟩]) ⟨by rw [rI_wI, if_neg (by decide)]; exact q4.1, fun k hk => by
          obtain ⟨a1, a2, a3, a4⟩ := q4.2 k hk
          exact ⟨by rw [rI_wI_n (by decide)]; exact a1, a2, a3, fun i hi => by rw [rI_wI_n (by decide)]; exact a4 i hi⟩⟩ (by rw [List.length_append]; simp only [List.length_cons, List.length_nil]; omega) he'
        refine ca_mono nx (fun r σ2 q => ?_)
        simp only [List.append_nil] at q
        cases r with
        | none =>
          have q' : At (d + 6) kX9_text 19 [vR 97 9, vU, vU] [] σ2 Q := q
          simp only [Option.toList_none, List.nil_append]
          rw [z_X9_text_53]
          exact q'
        | some v =>
          have q' : At (d + 6) kX9_text 19 [vR 97 9, vU, vU] [v] σ2 Q := q
          show At (d + 6) kX9_text 53 [vR 97 9, vU, vU] [v] σ2 Q
          rw [z_X9_text_53]
          exact q'
      · rw [if_neg c] at he' ⊢
        have h6 := hT1.2.1
        simp (disch := first | exact is2I | exact is2R | omega) only [z_X9_text_56, z_X9_text_57, z_X9_text_60, z_X9_text_63, z_X9_text_64, z_X9_text_67, z_X9_text_68, z_X9_text_71, q2, q3, h6, kLe, true_and, Option.toList_some, Option.toList_none, List.cons_append, List.nil_append, is2IT, is2RT, if_true, if_false]
        by_cases c2 : e.2 < T.length
        · rw [if_pos c2] at he'
          rw [if_neg (by omega)]
          simp (disch := first | exact is2I | exact is2R | omega) only [z_X9_text_74, z_X9_text_75, z_X9_text_76, z_X9_text_79, q3, true_and, Option.toList_some, Option.toList_none, List.cons_append, List.nil_append, is2IT, is2RT, if_true, if_false]
          refine m_wrong (d := d + 5) q2 (fun σ2 q5 q6 q7 => ?_)
          subst he'
          simp only [Option.toList_none, List.nil_append]
          exact hQ σ2 ⟨Fm_tr f1 (Fm_mono q5 (fun a i q => Icl_c (I789_89 q)) (fun _ q => q)), q6, q7⟩
        · rw [if_neg c2] at he'
          rw [if_pos (by omega)]
          subst he'
          exact hQ σ1 ⟨f1, q2, q4, by rw [List.length_append]; simp only [List.length_cons, List.length_nil]; omega⟩
    · rw [ee] at he'
      have he2 : Sum.inl e = E := he'
      subst he2
      simp (disch := first | exact is2I | exact is2R | omega) only [z_X9_text_19, z_X9_text_20, z_X9_text_23, z_X9_text_56, z_X9_text_57, z_X9_text_60, q2, n10, Option.toList_none, List.nil_append, true_and, Option.toList_some, Option.toList_none, List.cons_append, List.nil_append, is2IT, is2RT, if_true, if_false]
      exact hQ σ1 ⟨Fm_tr hm q1, q2, q3⟩
theorem CLs_fw {σ σ' : St} {C : List Clz} (h : CLs σ C) (hf : Fw9 σ σ') : CLs σ' C := ⟨by rw [hf.1 97 (by decide)]; exact h.1, fun k hk => by
  obtain ⟨a1, a2, a3, a4⟩ := h.2 k hk
  exact ⟨by rw [hf.1 102 (by decide)]; exact a1, a2, a3, fun i hi => by rw [hf.1 103 (by decide)]; exact a4 i hi⟩⟩
theorem ex_l {d : Nat} {Q : Option PV → St → Prop} {σ0 : St} {Y : Option Net × List Nat × Shs} {C : List Clz} {E : Nat × Net} (h20 : C.length < 20) (hQ : ∀ σ', MS σ' (E.2, Y) → Fw9 σ0 σ' → Q (some (vI (nI E.1))) σ') : ∀ r k σ (a : Nat × Net), k + r = C.length → MS σ (a.2, Y) → CLs σ C → Fw9 σ0 σ → (C.drop k).foldl exS a = E → At (d + 5) kX9_text 106 [vR 97 9, vI (nI a.1), vI (nI k)] [] σ Q
  | 0, k, σ, a, hk, hS, hC, hf, he => by
    have : k = C.length := by omega
    subst this
    rw [List.drop_length] at he
    have he' : a = E := he
    subst he'
    simp (disch := first | exact is2I | exact is2R | omega) only [z_X9_text_106, z_X9_text_107, z_X9_text_108, z_X9_text_111, z_X9_text_131, z_X9_text_132, hC.1, kLe, Nat.le_refl, true_and, Option.toList_some, Option.toList_none, List.cons_append, List.nil_append, is2IT, is2RT, if_true, if_false]
    exact hQ σ hS hf
  | r + 1, k, σ, a, hk, hS, hC, hf, he => by
    have hkl : k < C.length := by omega
    have cc : ¬ C.length ≤ k := by omega
    have ev : nI k + (1 : Int32) = nI (k + 1) := nI_add k 1
    have ea : nI a.1 + (1 : Int32) = nI (a.1 + 1) := nI_add a.1 1
    rw [show C.drop k = C[k] :: C.drop (k + 1) from List.drop_eq_getElem_cons hkl, List.foldl_cons] at he
    simp (disch := first | exact is2I | exact is2R | omega) only [z_X9_text_106, z_X9_text_107, z_X9_text_108, z_X9_text_111, z_X9_text_114, z_X9_text_115, z_X9_text_116, hC.1, kLe, cc, true_and, Option.toList_some, Option.toList_none, List.cons_append, List.nil_append, is2IT, is2RT, if_true, if_false]
    refine m_isDone (d := d) hS hC hkl (by omega) (fun σ' q1 q2 => ?_)
    have nx := ex_l (d := d) h20 hQ r (k + 1) σ' (exS a C[k]) (by omega) q1 (CLs_fw hC q2) (Fw9_tr hf q2) he
    unfold exS at nx
    dsimp only at nx
    simp (disch := first | exact is2I | exact is2R | omega) only [z_X9_text_119, z_X9_text_122, z_X9_text_125, b2_0, ea, ev, true_and, Option.toList_some, Option.toList_none, List.cons_append, List.nil_append, is2IT, is2RT, if_true, if_false]
    by_cases cx : (doC a.2 C[k]).1 = true
    · rw [if_neg (fun q => q cx), z_X9_text_128]
      rw [if_pos cx] at nx
      exact nx
    · rw [if_pos cx, z_X9_text_128]
      rw [if_neg cx] at nx
      exact nx
theorem m_text {d : Nat} {Q : Option PV → St → Prop} {σ : St} {S : MSt} (h : MS σ S) (hQ : ∀ σ', MS σ' ((textF S.1 S.2.2.1).2, S.2.1, [], S.2.2.2) → Fr9 σ σ' → Q (some (vI (textF S.1 S.2.2.1).1)) σ') : Ca (d + 7) 153 [vR 97 9] σ Q := by
  have hF := h.1.1
  have hT0 : TPs σ S.2.2.1 := ⟨hF, h.2.2.2.1⟩
  have h60 := hT0.2.2.1
  unfold textF at hQ
  rw [ca_at (K := kX9_text) (ls := [vR 97 9, vU, vU]) rfl rfl rfl]
  have nk : narOK 2 0 = true := rfl
  simp (disch := first | exact is2I | exact is2R | omega) only [z_X9_text_0, z_X9_text_1, z_X9_text_2, z_X9_text_5, z_X9_text_6, z_X9_text_7, z_X9_text_10, z_X9_text_11, z_X9_text_12, z_X9_text_15, z_X9_text_16, nk, true_and, Option.toList_some, Option.toList_none, List.cons_append, List.nil_append, is2IT, is2RT, if_true, if_false]
  have f0 : Fm Icl noL σ (wI (wI (wI σ 97 7 0) 97 8 0) 97 12 0) := Fm_tr (Fm_tr (Fm_wI rfl) (Fm_wI rfl)) (Fm_wI rfl)
  refine tx_l (d := d) (E := parR S.2.2.1 61 0 []) hT0 (fun σ1 q => ?_) 61 0 _ [] (by omega) (Nat.zero_le _) f0 ?_ ?_ ⟨?_, fun k hk => absurd hk (Nat.not_lt_zero k)⟩ (Nat.le_refl 0) rfl
  · obtain ⟨q1, q2⟩ := q
    have s1 := Icl_Sc q1
    have h1 := Sc_MS h s1
    have tp0 : MS (wI σ1 97 6 0) (S.1, S.2.1, [], S.2.2.2) := MS_tp h1 (fun a i ha hb => by rw [rI_wI, if_neg hb]) (fun _ => rfl) (fun _ _ => rfl) rfl ⟨by rw [rI_wI, if_pos ⟨rfl, rfl⟩]; rfl, Nat.zero_le _, fun i hi => absurd hi (Nat.not_lt_zero i)⟩
    have fr : Fr9 σ (wI σ1 97 6 0) := Fr9_tr (Sc_Fr9 s1) (Fr9_wI (by decide))
    cases ep : parR S.2.2.1 61 0 [] with
    | inl f =>
      rw [ep] at q2 hQ
      obtain ⟨a1, a2⟩ := q2
      have n10 : ((1 : Int32) = 0) = False := eq_false (by decide)
      have r8 : rI (wI σ1 97 6 0) 97 8 = 1 := by rw [rI_wI, if_neg (by decide)]; exact a1
      have r9 : rI (wI σ1 97 6 0) 97 9 = nI f := by rw [rI_wI, if_neg (by decide)]; exact a2
      simp (disch := first | exact is2I | exact is2R | omega) only [z_X9_text_82, z_X9_text_83, z_X9_text_84, z_X9_text_87, z_X9_text_88, z_X9_text_91, z_X9_text_94, z_X9_text_96, z_X9_text_97, z_X9_text_100, z_X9_text_101, r8, r9, n10, true_and, Option.toList_some, Option.toList_none, List.cons_append, List.nil_append, is2IT, is2RT, if_true, if_false]
      exact hQ _ tp0 fr
    | inr C =>
      rw [ep] at q2 hQ
      obtain ⟨a1, a2, a3⟩ := q2
      have r8 : rI (wI σ1 97 6 0) 97 8 = 0 := by rw [rI_wI, if_neg (by decide)]; exact a1
      simp (disch := first | exact is2I | exact is2R | omega) only [z_X9_text_82, z_X9_text_83, z_X9_text_84, z_X9_text_87, z_X9_text_88, z_X9_text_91, z_X9_text_102, z_X9_text_103, z_X9_text_104, z_X9_text_105, r8, true_and, Option.toList_some, Option.toList_none, List.cons_append, List.nil_append, is2IT, is2RT, if_true, if_false]
      have hC : CLs (wI σ1 97 6 0) C := ⟨by rw [rI_wI, if_neg (by decide)]; exact a2.1, fun k hk => by
        obtain ⟨b1, b2, b3, b4⟩ := a2.2 k hk
        exact ⟨by rw [rI_wI_n (by decide)]; exact b1, b2, b3, fun i hi => by rw [rI_wI_n (by decide)]; exact b4 i hi⟩⟩
      refine ex_l (d := d + 1) (Y := (S.2.1, [], S.2.2.2)) (E := C.foldl exS (0, S.1)) a3 (fun σ2 q3 q4 => hQ σ2 q3 (Fr9_tr fr (Fw9_Fr9 q4))) C.length 0 _ (0, S.1) (by omega) tp0 hC Fw9_rf rfl
  · rw [rI_wI, if_neg (by decide), rI_wI, if_pos ⟨rfl, rfl⟩]
  · rw [rI_wI, if_neg (by decide), rI_wI, if_neg (by decide), rI_wI, if_pos ⟨rfl, rfl⟩]; rfl
  · rw [rI_wI, if_pos ⟨rfl, rfl⟩]; rfl
