/-! ===== a clause, a text: the reference ===== -/
def nedN (w : Nat) : Nat := if w < 4 then 3 else if w = 4 then 5 else if w = 7 then 4 else 2
theorem nedN_5 (w : Nat) : 2 ≤ nedN w ∧ nedN w ≤ 5 := by unfold nedN; split; decide; split; decide; split <;> decide
theorem m_needed {d w : Nat} {Q : Option PV → St → Prop} {σ : St} (hw : w < 8) : Ca (d + 1) 149 [vI (nI w)] σ Q ↔ Q (some (vI (nI (nedN w)))) σ := by
  rw [ca_at (K := kX9_needed) (ls := [vI (nI w)]) rfl rfl rfl]
  simp (disch := first | exact is2I | exact is2R | omega) only [z_X9_needed_0, z_X9_needed_1, z_X9_needed_2, z_X9_needed_5, z_X9_needed_6, z_X9_needed_9, z_X9_needed_10, z_X9_needed_11, z_X9_needed_14, z_X9_needed_15, z_X9_needed_18, z_X9_needed_19, z_X9_needed_21, z_X9_needed_24, z_X9_needed_25, z_X9_needed_28, z_X9_needed_29, kLLe, kEL, true_and, Option.toList_some, Option.toList_none, List.cons_append, List.nil_append, is2IT, is2RT, if_true, if_false]
  unfold nedN
  by_cases c1 : w < 4
  · rw [if_neg (by omega), if_pos c1]; exact Iff.rfl
  · rw [if_pos (by omega), if_neg c1]
    by_cases c2 : w = 4
    · rw [if_pos c2, if_pos c2]; exact Iff.rfl
    · rw [if_neg c2, if_neg c2]
      by_cases c3 : w = 7
      · rw [if_pos c3, if_pos c3]; exact Iff.rfl
      · rw [if_neg c3, if_neg c3]; exact Iff.rfl
def okN2 (T : List Nat) (p : Nat) : Bool := decide (skp T p < dgs T (skp T p) ∧ dgs T (skp T p) ≤ skp T p + 2)
def numsR (T : List Nat) : Nat → Nat → List Nat → Nat ⊕ (List Nat × Nat)
  | 0, p, L => Sum.inr (L, p)
  | n + 1, p, L => if okN2 T p = true then numsR T n (dgs T (skp T p)) (L ++ [numV T (skp T p)]) else Sum.inl (skp T p)
abbrev Clz : Type := Nat × List Nat
def clauR (T : List Nat) (p : Nat) : Nat ⊕ (Clz × Nat) := match wcR T (skp T p) (lts T (skp T p)) with
  | none => Sum.inl (skp T p)
  | some w => match numsR T (nedN w) (lts T (skp T p)) [] with
    | Sum.inl f => Sum.inl f
    | Sum.inr e => Sum.inr ((w, e.1), skp T e.2)
theorem skp_le {T : List Nat} {p : Nat} (h : p ≤ T.length) : p ≤ skp T p ∧ skp T p ≤ T.length := runT_le 61 p h
theorem lts_le {T : List Nat} {p : Nat} (h : p ≤ T.length) : p ≤ lts T p ∧ lts T p ≤ T.length := runT_le 61 p h
theorem dgs_le {T : List Nat} {p : Nat} (h : p ≤ T.length) : p ≤ dgs T p ∧ dgs T p ≤ T.length := runT_le 61 p h
theorem isW_3 {T : List Nat} {a b l0 l1 l2 l3 l4 : Nat} (h2 : l2 ≠ 0) (h : isW T a b l0 l1 l2 l3 l4 = true) : a + 3 ≤ b := by
  unfold isW at h
  simp only [Bool.and_eq_true] at h
  have := h.2.2.2.1
  unfold ltAt at this
  rw [if_neg h2] at this
  have := (of_decide_eq_true this).1
  omega
theorem wcR_3 {T : List Nat} {a b w : Nat} (h : wcR T a b = some w) : a + 3 ≤ b ∧ w < 8 := by
  unfold wcR at h
  split at h
  · rename_i c; cases h; exact ⟨isW_3 (by decide) c, by decide⟩
  split at h
  · rename_i c; cases h; exact ⟨isW_3 (by decide) c, by decide⟩
  split at h
  · rename_i c; cases h; exact ⟨isW_3 (by decide) c, by decide⟩
  split at h
  · rename_i c; cases h; exact ⟨isW_3 (by decide) c, by decide⟩
  split at h
  · rename_i c; cases h; exact ⟨isW_3 (by decide) c, by decide⟩
  split at h
  · rename_i c; cases h; exact ⟨isW_3 (by decide) c, by decide⟩
  split at h
  · rename_i c; cases h; exact ⟨isW_3 (by decide) c, by decide⟩
  split at h
  · rename_i c; cases h; exact ⟨isW_3 (by decide) c, by decide⟩
  cases h
theorem numsR_le {T : List Nat} : ∀ n p L e, p ≤ T.length → numsR T n p L = Sum.inr e → p + n ≤ e.2 ∧ e.2 ≤ T.length ∧ e.1.length = L.length + n
  | 0, p, L, e, hp, h => by cases h; exact ⟨Nat.le_refl _, hp, rfl⟩
  | n + 1, p, L, e, hp, h => by
    have h' : (if okN2 T p = true then numsR T n (dgs T (skp T p)) (L ++ [numV T (skp T p)]) else Sum.inl (skp T p)) = Sum.inr e := h
    by_cases c : okN2 T p = true
    · rw [if_pos c] at h'
      have hc := of_decide_eq_true c
      have s := skp_le hp
      have g := dgs_le s.2
      have := numsR_le n _ _ e g.2 h'
      rw [List.length_append] at this
      simp only [List.length_cons, List.length_nil] at this
      omega
    · rw [if_neg c] at h'; cases h'
theorem clauR_le {T : List Nat} {p : Nat} {e : Clz × Nat} (hp : p ≤ T.length) (h : clauR T p = Sum.inr e) : p + 5 ≤ e.2 ∧ e.2 ≤ T.length ∧ e.1.1 < 8 ∧ e.1.2.length = nedN e.1.1 := by
  unfold clauR at h
  have s := skp_le hp
  have l := lts_le s.2
  cases ew : wcR T (skp T p) (lts T (skp T p)) with
  | none => rw [ew] at h; cases h
  | some w =>
    rw [ew] at h
    dsimp only at h
    have w3 := wcR_3 ew
    cases en : numsR T (nedN w) (lts T (skp T p)) [] with
    | inl f => rw [en] at h; cases h
    | inr e2 =>
      rw [en] at h
      cases h
      have n := numsR_le _ _ _ _ l.2 en
      have s2 := skp_le n.2.1
      have g := nedN_5 w
      simp only [List.length_nil, Nat.zero_add] at n
      exact ⟨by show p + 5 ≤ skp T e2.2; omega, s2.2, w3.2, n.2.2⟩
def CLs (σ : St) (C : List Clz) : Prop := rI σ 97 12 = nI C.length ∧ ∀ k (h : k < C.length), rI σ 102 k = nI C[k].1 ∧ C[k].1 < 8 ∧ C[k].2.length = nedN C[k].1 ∧ ∀ i (h2 : i < C[k].2.length), rI σ 103 (5 * k + i) = nI C[k].2[i]
def Icl (a i : Nat) : Bool := I789 a i || (a.beq 102 || (a.beq 103 || (a.beq 97 && i.beq 12)))
theorem Icl_c {a i : Nat} (h : I789 a i = true) : Icl a i = true := by unfold Icl; rw [h]; rfl
theorem Icl_7 {a i : Nat} (h : I7 a i = true) : Icl a i = true := Icl_c (I789_7 h)
/-- the numbers of a clause, c clauses stand -/
theorem cn_l {d c w : Nat} {Q : Option PV → St → Prop} {σ0 : St} {T : List Nat} {E : Nat ⊕ (List Nat × Nat)} (h : TPs σ0 T) (hw : w < 8) (hc : c < 11)
    (hQ : ∀ σ' e, E = Sum.inr e → Fm Icl noL σ0 σ' → rI σ' 97 8 = 0 → rI σ' 97 7 = nI e.2 → (∀ x, x < 5 * c → rI σ' 103 x = rI σ0 103 x) → rI σ' 97 12 = nI c → (∀ x, rI σ' 102 x = rI σ0 102 x) → (∀ i (h : i < e.1.length), rI σ' 103 (5 * c + i) = nI e.1[i]) → e.2 ≤ T.length → At (d + 5) kX9_clause 63 [vR 97 9, vI (nI w), vI (nI (nedN w))] [] σ' Q)
    (hN : ∀ σ' f q n, E = Sum.inl f → Fm Icl noL σ0 σ' → rI σ' 97 8 = 1 → rI σ' 97 9 = nI f → rI σ' 97 7 = nI q → q ≤ T.length → rI σ' 97 12 = nI c → At (d + 5) kX9_clause 63 [vR 97 9, vI (nI w), vI (nI n)] [] σ' Q) :
    ∀ r k p σ L, k + r = nedN w → L.length = k → p ≤ T.length → Fm Icl noL σ0 σ → rI σ 97 8 = 0 → rI σ 97 7 = nI p → (∀ x, x < 5 * c → rI σ 103 x = rI σ0 103 x) → rI σ 97 12 = nI c → (∀ x, rI σ 102 x = rI σ0 102 x) → (∀ i (h : i < L.length), rI σ 103 (5 * c + i) = nI L[i]) → numsR T r p L = E → At (d + 5) kX9_clause 25 [vR 97 9, vI (nI w), vI (nI k)] [] σ Q
  | 0, k, p, σ, L, hk, hL, hp, hf, h8, h7, hx, h12, h102, hl, he => by
    have n5 := nedN_5 w
    have hk' : k = nedN w := by omega
    subst hk'
    simp (disch := first | exact is2I | exact is2R | omega) only [z_X9_clause_25, z_X9_clause_26, z_X9_clause_27, z_X9_clause_30, m_needed hw, kLe, Nat.le_refl, true_and, Option.toList_some, Option.toList_none, List.cons_append, List.nil_append, is2IT, is2RT, if_true, if_false]
    exact hQ σ (L, p) he.symm hf h8 h7 hx h12 h102 hl hp
  | r + 1, k, p, σ, L, hk, hL, hp, hf, h8, h7, hx, h12, h102, hl, he => by
    have n5 := nedN_5 w
    have hT := TPs_fm h hf rfl (fun _ => rfl)
    have hF := hT.1
    have cc : ¬ nedN w ≤ k := by omega
    have ek : nI k + (1 : Int32) = nI (k + 1) := nI_add k 1
    have he' : (if okN2 T p = true then numsR T r (dgs T (skp T p)) (L ++ [numV T (skp T p)]) else Sum.inl (skp T p)) = E := he
    have s := skp_le hp
    have g := dgs_le s.2
    simp (disch := first | exact is2I | exact is2R | omega) only [z_X9_clause_25, z_X9_clause_26, z_X9_clause_27, z_X9_clause_30, z_X9_clause_33, z_X9_clause_34, z_X9_clause_37, z_X9_clause_40, z_X9_clause_41, z_X9_clause_44, z_X9_clause_45, z_X9_clause_46, z_X9_clause_49, z_X9_clause_50, z_X9_clause_51, z_X9_clause_52, z_X9_clause_53, mf_r1 hF, mf_r2 hF, mf_r3 hF, mf_r5 hF, mf_r10 hF, mf_r11 hF, mf_r13 hF, mf_r15 hF, mf_r16 hF, mf_r19 hF, mf_r21 hF, mf_r22 hF, mf_r23 hF, mf_r24 hF, mf_r25 hF, mf_r26 hF, mf_r27 hF, mf_r29 hF, mf_r30 hF, mf_r31 hF, mf_r32 hF, mf_s98 hF, mf_s99 hF, mf_s100 hF, mf_s101 hF, mf_s102 hF, mf_s103 hF, mf_s104 hF, mf_s105 hF, mf_s106 hF, mf_s107 hF, mf_s108 hF, mf_s109 hF, mf_s110 hF, mf_s111 hF, mf_s112 hF, mf_s113 hF, mf_s114 hF, mf_s115 hF, mf_s116 hF, mf_s117 hF, mf_s118 hF, m_needed hw, kLe, cc, h8, h12, kLM, nI_add, true_and, Option.toList_some, Option.toList_none, List.cons_append, List.nil_append, is2IT, is2RT, if_true, if_false]
    refine m_number (d := d + 1) hT hp h7 h8 (fun ok σ1 q1 q2 => ?_) (fun ok σ1 v q1 q2 q3 q4 => ?_)
    · have okb : okN2 T p = true := decide_eq_true ok
      rw [if_pos okb] at he'
      have hF1 := (TPs_fm hT q1 rfl (fun _ => rfl)).1
      simp (disch := first | exact is2I | exact is2R | omega) only [z_X9_clause_56, z_X9_clause_57, mf_s103 hF1, kIn, kCl, ek, true_and, Option.toList_some, Option.toList_none, List.cons_append, List.nil_append, is2IT, is2RT, if_true, if_false]
      rw [z_X9_clause_60]
      have fr : Fm Icl noL σ (wI σ1 103 (5 * c + k) (nI (numV T (skp T p)))) := Fm_tr (Fm_mono q1 (fun a i => Icl_7) (fun _ q => q)) (Fm_wI rfl)
      refine cn_l h hw hc hQ hN r (k + 1) _ _ (L ++ [numV T (skp T p)]) (by omega) (by rw [List.length_append, hL]; rfl) g.2 (Fm_tr hf fr) ?_ ?_ (fun x hx1 => ?_) ?_ (fun x => ?_) (fun i hi => ?_) he'
      · rw [rI_wI_n (by decide), q1.1 97 8 rfl]; exact h8
      · rw [rI_wI_n (by decide)]; exact q2
      · rw [rI_wI, if_neg (fun q => by omega), q1.1 103 x rfl]; exact hx x hx1
      · rw [rI_wI_n (by decide), q1.1 97 12 rfl]; exact h12
      · rw [rI_wI_n (by decide), q1.1 102 x rfl]; exact h102 x
      · rw [List.length_append] at hi
        simp only [List.length_cons, List.length_nil] at hi
        rw [rI_wI]
        by_cases ci : i = L.length
        · subst ci
          rw [if_pos ⟨rfl, by omega⟩]; simp
        · rw [if_neg (fun q => ci (by omega)), List.getElem_append_left (by omega), q1.1 103 _ rfl]
          exact hl i (by omega)
    · have okb : ¬ okN2 T p = true := fun q => ok (of_decide_eq_true q)
      rw [if_neg okb] at he'
      have hF1 := (TPs_fm hT q1 rfl (fun _ => rfl)).1
      simp (disch := first | exact is2I | exact is2R | omega) only [z_X9_clause_56, z_X9_clause_57, mf_s103 hF1, kIn, kCl, ek, true_and, Option.toList_some, Option.toList_none, List.cons_append, List.nil_append, is2IT, is2RT, if_true, if_false]
      rw [z_X9_clause_60]
      have fr : Fm Icl noL σ0 (wI σ1 103 (5 * c + k) v) := Fm_tr hf (Fm_tr (Fm_mono q1 (fun a i => Icl_c) (fun _ q => q)) (Fm_wI rfl))
      have e8 : rI (wI σ1 103 (5 * c + k) v) 97 8 = 1 := by rw [rI_wI_n (by decide)]; exact q2
      have n10 : ((1 : Int32) = 0) = False := eq_false (by decide)
      have fin := hN (wI σ1 103 (5 * c + k) v) (skp T p) (dgs T (skp T p)) (k + 1) he'.symm fr e8 (by rw [rI_wI_n (by decide)]; exact q3) (by rw [rI_wI_n (by decide)]; exact q4) g.2 (by rw [rI_wI_n (by decide), q1.1 97 12 rfl]; exact h12)
      simp (disch := first | exact is2I | exact is2R | omega) only [z_X9_clause_25, z_X9_clause_26, z_X9_clause_27, z_X9_clause_30, z_X9_clause_33, z_X9_clause_34, z_X9_clause_37, m_needed hw, kLe, e8, n10, true_and, Option.toList_some, Option.toList_none, List.cons_append, List.nil_append, is2IT, is2RT, if_true, if_false]
      split <;> exact fin
theorem m_clause {d p : Nat} {Q : Option PV → St → Prop} {σ : St} {T : List Nat} {C : List Clz} (h : TPs σ T) (hp : p ≤ T.length) (ha : rI σ 97 7 = nI p) (h8 : rI σ 97 8 = 0) (hC : CLs σ C) (hb : 6 * C.length ≤ p)
    (hQ : ∀ σ' e, clauR T p = Sum.inr e → Fm Icl noL σ σ' → rI σ' 97 8 = 0 → rI σ' 97 7 = nI e.2 → CLs σ' (C ++ [e.1]) → Q none σ')
    (hN : ∀ σ' f, clauR T p = Sum.inl f → Fm Icl noL σ σ' → rI σ' 97 8 = 1 → rI σ' 97 9 = nI f → Q none σ') : Ca (d + 6) 150 [vR 97 9] σ Q := by
  have h60 := h.2.2.1
  have n10 : ((1 : Int32) = 0) = False := eq_false (by decide)
  rw [ca_at (K := kX9_clause) (ls := [vR 97 9, vU, vU]) rfl rfl rfl]
  simp only [z_X9_clause_0, z_X9_clause_1, true_and, Option.toList_some, Option.toList_none, List.cons_append, List.nil_append, is2IT, is2RT, if_true, if_false]
  refine m_word (d := d + 1) h hp ha h8 (fun σ1 w e1 q1 q2 => ?_) (fun e1 σ1 q1 q2 q3 => ?_)
  · have hT1 := TPs_fm h q1 rfl (fun _ => rfl)
    have hF1 := hT1.1
    have w3 := wcR_3 e1
    have s := skp_le hp
    have l := lts_le s.2
    have z8 : rI σ1 97 8 = 0 := by rw [q1.1 97 8 rfl]; exact h8
    have z12 : rI σ1 97 12 = nI C.length := by rw [q1.1 97 12 rfl]; exact hC.1
    simp (disch := first | exact is2I | exact is2R | omega) only [z_X9_clause_4, z_X9_clause_5, z_X9_clause_6, z_X9_clause_9, z_X9_clause_12, z_X9_clause_13, z_X9_clause_14, z_X9_clause_17, z_X9_clause_18, z_X9_clause_21, z_X9_clause_22, z_X9_clause_23, z_X9_clause_24, z8, z12, mf_r1 hF1, mf_r2 hF1, mf_r3 hF1, mf_r5 hF1, mf_r10 hF1, mf_r11 hF1, mf_r13 hF1, mf_r15 hF1, mf_r16 hF1, mf_r19 hF1, mf_r21 hF1, mf_r22 hF1, mf_r23 hF1, mf_r24 hF1, mf_r25 hF1, mf_r26 hF1, mf_r27 hF1, mf_r29 hF1, mf_r30 hF1, mf_r31 hF1, mf_r32 hF1, mf_s98 hF1, mf_s99 hF1, mf_s100 hF1, mf_s101 hF1, mf_s102 hF1, mf_s103 hF1, mf_s104 hF1, mf_s105 hF1, mf_s106 hF1, mf_s107 hF1, mf_s108 hF1, mf_s109 hF1, mf_s110 hF1, mf_s111 hF1, mf_s112 hF1, mf_s113 hF1, mf_s114 hF1, mf_s115 hF1, mf_s116 hF1, mf_s117 hF1, mf_s118 hF1, kIn, kCl, true_and, Option.toList_some, Option.toList_none, List.cons_append, List.nil_append, is2IT, is2RT, if_true, if_false]
    have fr0 : Fm Icl noL σ (wI σ1 102 C.length (nI w)) := Fm_tr (Fm_mono q1 (fun a i => Icl_7) (fun _ q => q)) (Fm_wI rfl)
    have hT2 : TPs (wI σ1 102 C.length (nI w)) T := TPs_fm h fr0 rfl (fun _ => rfl)
    refine cn_l (d := d) (c := C.length) (E := numsR T (nedN w) (lts T (skp T p)) []) hT2 w3.2 (by omega) (fun σ2 e ee g1 g2 g3 g4 g5 g6 g7 g8 => ?_) (fun σ2 f q n ee g1 g2 g3 g4 g5 g6 => ?_) (nedN w) 0 (lts T (skp T p)) _ [] (by omega) rfl l.2 Fm_rf ?_ ?_ (fun _ _ => rfl) ?_ (fun _ => rfl) (fun i hi => absurd hi (Nat.not_lt_zero i)) rfl
    · have ec : clauR T p = Sum.inr ((w, e.1), skp T e.2) := by unfold clauR; rw [e1]; dsimp only; rw [ee]
      have fr2 := Fm_tr fr0 g1
      have hT3 : TPs (wI σ2 97 12 (nI (C.length + 1))) T := TPs_fm h (Fm_tr fr2 (Fm_wI (I := Icl) (k := 97) (i := 12) rfl)) rfl (fun _ => rfl)
      simp (disch := first | exact is2I | exact is2R | omega) only [z_X9_clause_63, z_X9_clause_64, z_X9_clause_65, z_X9_clause_68, z_X9_clause_69, z_X9_clause_70, z_X9_clause_73, z_X9_clause_74, g5, kAL, true_and, Option.toList_some, Option.toList_none, List.cons_append, List.nil_append, is2IT, is2RT, if_true, if_false]
      refine m_blanks (d := d + 3) hT3 g8 (by rw [rI_wI, if_neg (by decide)]; exact g3) (fun σ3 q5 q6 => ?_)
      simp only [z_X9_clause_77, true_and, Option.toList_some, Option.toList_none, List.cons_append, List.nil_append, is2IT, is2RT, if_true, if_false]
      refine hQ σ3 _ ec (Fm_tr fr2 (Fm_tr (Fm_wI rfl) (Fm_mono q5 (fun a i => Icl_7) (fun _ q => q)))) ?_ q6 ⟨?_, fun k hk => ?_⟩
      · rw [q5.1 97 8 rfl, rI_wI, if_neg (by decide)]; exact g2
      · rw [q5.1 97 12 rfl, rI_wI, if_pos ⟨rfl, rfl⟩, List.length_append]; rfl
      · have en := numsR_le _ _ _ e l.2 ee
        rw [List.length_append] at hk
        simp only [List.length_cons, List.length_nil] at hk
        by_cases ck : k = C.length
        · subst ck
          have eg : (C ++ [(w, e.1)])[C.length] = (w, e.1) := by simp
          have en3 : e.1.length = nedN w := by have := en.2.2; simpa using this
          simp only [eg]
          refine ⟨?_, w3.2, en3, fun i hi => ?_⟩
          · rw [q5.1 102 _ rfl, rI_wI_n (by decide), g6, rI_wI, if_pos ⟨rfl, rfl⟩]
          · rw [q5.1 103 _ rfl, rI_wI_n (by decide)]; exact g7 i hi
        · have hk2 : k < C.length := by omega
          have eg : (C ++ [(w, e.1)])[k] = C[k] := List.getElem_append_left hk2
          obtain ⟨c1, c2, c3, c4⟩ := hC.2 k hk2
          have n5 := nedN_5 C[k].1
          simp only [eg]
          refine ⟨?_, c2, c3, fun i hi => ?_⟩
          · rw [q5.1 102 _ rfl, rI_wI_n (by decide), g6, rI_wI, if_neg (fun q => ck q.2), q1.1 102 _ rfl]; exact c1
          · rw [q5.1 103 _ rfl, rI_wI_n (by decide), g4 _ (by omega), rI_wI_n (by decide), q1.1 103 _ rfl]; exact c4 i hi
    · have ec : clauR T p = Sum.inl f := by unfold clauR; rw [e1]; dsimp only; rw [ee]
      have fr2 := Fm_tr fr0 g1
      have hT3 : TPs (wI σ2 97 12 (nI (C.length + 1))) T := TPs_fm h (Fm_tr fr2 (Fm_wI (I := Icl) (k := 97) (i := 12) rfl)) rfl (fun _ => rfl)
      simp (disch := first | exact is2I | exact is2R | omega) only [z_X9_clause_63, z_X9_clause_64, z_X9_clause_65, z_X9_clause_68, z_X9_clause_69, z_X9_clause_70, z_X9_clause_73, z_X9_clause_74, g6, kAL, true_and, Option.toList_some, Option.toList_none, List.cons_append, List.nil_append, is2IT, is2RT, if_true, if_false]
      refine m_blanks (d := d + 3) hT3 g5 (by rw [rI_wI, if_neg (by decide)]; exact g4) (fun σ3 q5 q6 => ?_)
      simp only [z_X9_clause_77, true_and, Option.toList_some, Option.toList_none, List.cons_append, List.nil_append, is2IT, is2RT, if_true, if_false]
      refine hN σ3 f ec (Fm_tr fr2 (Fm_tr (Fm_wI rfl) (Fm_mono q5 (fun a i => Icl_7) (fun _ q => q)))) ?_ ?_
      · rw [q5.1 97 8 rfl, rI_wI, if_neg (by decide)]; exact g2
      · rw [q5.1 97 9 rfl, rI_wI, if_neg (by decide)]; exact g3
    · rw [rI_wI_n (by decide)]; exact z8
    · rw [rI_wI_n (by decide)]; exact q2
    · rw [rI_wI_n (by decide)]; exact z12
  · have ec : clauR T p = Sum.inl (skp T p) := by unfold clauR; rw [e1]
    simp only [z_X9_clause_4, z_X9_clause_5, z_X9_clause_6, z_X9_clause_9, z_X9_clause_12, q2, n10, true_and, Option.toList_some, Option.toList_none, List.cons_append, List.nil_append, is2IT, is2RT, if_true, if_false]
    exact hN σ1 _ ec (Fm_mono q1 (fun a i => Icl_c) (fun _ q => q)) q2 q3
def orN (x : Int32) : Int32 := if x = 9 then -1 else x
theorem m_orNone {d : Nat} {Q : Option PV → St → Prop} {σ : St} {x : Int32} : Ca (d + 1) 151 [vI x] σ Q ↔ Q (some (vI (orN x))) σ := by
  rw [ca_at (K := kX9_orNone) (ls := [vI x]) rfl rfl rfl]
  simp only [z_X9_orNone_0, z_X9_orNone_1, z_X9_orNone_3, z_X9_orNone_6, z_X9_orNone_7, z_X9_orNone_10, z_X9_orNone_11, true_and, Option.toList_some, Option.toList_none, List.cons_append, List.nil_append, is2IT, is2RT, if_true, if_false]
  unfold orN
  split <;> exact Iff.rfl
def doC (N : Net) (c : Clz) : Bool × Net :=
  let x := fun i => nI (c.2.getD i 0)
  if c.1 = 4 then (decide (¬ (rowS N (x 0) (x 1) (x 2) (x 3) (x 4)).1 < 0), (rowS N (x 0) (x 1) (x 2) (x 3) (x 4)).2)
  else if c.1 = 5 then (decide (¬ (becS N 4 (x 0) (orN (x 1))).1 = -2), (becS N 4 (x 0) (orN (x 1))).2)
  else if c.1 = 6 then (decide (¬ (becS N 5 (x 0) (orN (x 1))).1 = -2), (becS N 5 (x 0) (orN (x 1))).2)
  else if c.1 = 7 then (decide (¬ (hintS N (x 0) (x 1) (x 2) (x 3)).1 < 0), (hintS N (x 0) (x 1) (x 2) (x 3)).2)
  else (decide (¬ (nodeS N (x 0) (nI c.1) (orN (x 1)) (orN (x 2))).1 < 0), (nodeS N (x 0) (nI c.1) (orN (x 1)) (orN (x 2))).2)
theorem rd_num {σ : St} {C : List Clz} (h : CLs σ C) {k i : Nat} (hk : k < C.length) (hi : i < nedN C[k].1) : rI σ 103 (5 * k + i) = nI (C[k].2.getD i 0) := by
  obtain ⟨c1, c2, c3, c4⟩ := h.2 k hk
  rw [List.getD_eq_getElem?_getD, List.getElem?_eq_getElem (by omega)]
  exact c4 i (by omega)
set_option maxHeartbeats 1000000 in
theorem m_isDone {d k : Nat} {Q : Option PV → St → Prop} {σ : St} {S : MSt} {C : List Clz} (h : MS σ S) (hC : CLs σ C) (hk : k < C.length) (hk30 : k < 20) (hQ : ∀ σ', MS σ' ((doC S.1 C[k]).2, S.2) → Fw9 σ σ' → Q (some (vI (b2 ((doC S.1 C[k]).1 = true)))) σ') : Ca (d + 5) 152 [vR 97 9, vI (nI k)] σ Q := by
  have hF := h.1.1
  obtain ⟨c1, c2, c3, c4⟩ := hC.2 k hk
  have r := fun i (hi : i < nedN C[k].1) => rd_num hC hk hi
  rw [ca_at (K := kX9_isDone) (ls := [vR 97 9, vI (nI k), vU, vU, vU, vU]) rfl rfl rfl]
  have pre : ∀ x0 x1 x2 x3 : Int32, rI σ 103 (5 * k) = x0 → rI σ 103 (5 * k + 1) = x1 → rI σ 103 (5 * k + 2) = x2 → rI σ 103 (5 * k + 3) = x3 → At (d + 4) kX9_isDone 50 [vR 97 9, vI (nI k), vI x0, vI x1, vI x2, vI x3] [vI (nI C[k].1)] σ Q → At (d + 4) kX9_isDone 0 [vR 97 9, vI (nI k), vU, vU, vU, vU] [] σ Q := fun x0 x1 x2 x3 e0 e1 e2 e3 q => by
    simp (disch := first | exact is2I | exact is2R | omega) only [z_X9_isDone_0, z_X9_isDone_1, z_X9_isDone_4, z_X9_isDone_5, z_X9_isDone_6, z_X9_isDone_7, z_X9_isDone_8, z_X9_isDone_9, z_X9_isDone_10, z_X9_isDone_13, z_X9_isDone_14, z_X9_isDone_15, z_X9_isDone_16, z_X9_isDone_17, z_X9_isDone_18, z_X9_isDone_19, z_X9_isDone_20, z_X9_isDone_21, z_X9_isDone_24, z_X9_isDone_25, z_X9_isDone_26, z_X9_isDone_27, z_X9_isDone_28, z_X9_isDone_29, z_X9_isDone_30, z_X9_isDone_32, z_X9_isDone_33, z_X9_isDone_36, z_X9_isDone_37, z_X9_isDone_38, z_X9_isDone_39, z_X9_isDone_40, z_X9_isDone_41, z_X9_isDone_42, z_X9_isDone_44, z_X9_isDone_45, z_X9_isDone_48, z_X9_isDone_49, mf_r1 hF, mf_r2 hF, mf_r3 hF, mf_r5 hF, mf_r10 hF, mf_r11 hF, mf_r13 hF, mf_r15 hF, mf_r16 hF, mf_r19 hF, mf_r21 hF, mf_r22 hF, mf_r23 hF, mf_r24 hF, mf_r25 hF, mf_r26 hF, mf_r27 hF, mf_r29 hF, mf_r30 hF, mf_r31 hF, mf_r32 hF, mf_s98 hF, mf_s99 hF, mf_s100 hF, mf_s101 hF, mf_s102 hF, mf_s103 hF, mf_s104 hF, mf_s105 hF, mf_s106 hF, mf_s107 hF, mf_s108 hF, mf_s109 hF, mf_s110 hF, mf_s111 hF, mf_s112 hF, mf_s113 hF, mf_s114 hF, mf_s115 hF, mf_s116 hF, mf_s117 hF, mf_s118 hF, kLM, kAL, kIn, kCl, e0, e1, e2, e3, c1, true_and, Option.toList_some, Option.toList_none, List.cons_append, List.nil_append, is2IT, is2RT, if_true, if_false]
    exact q
  have r0 := r 0
  have r1 := r 1
  have r2 := r 2
  have r3 := r 3
  have r4 := r 4
  rw [Nat.add_zero] at r0
  have dd : ∀ c, c = C[k] → doC S.1 c = doC S.1 C[k] := fun c q => by rw [q]
  generalize C[k] = c at c1 c2 c3 c4 r0 r1 r2 r3 r4 pre hQ dd
  obtain ⟨w, l⟩ := c
  dsimp only at c1 c2 c3 r0 r1 r2 r3 r4 pre
  have lt : ∀ (x : Int32) (a b : Nat), (if x < 0 then At (d + 4) kX9_isDone a [vR 97 9, vI (nI k), vI (nI (l.getD 0 0)), vI (nI (l.getD 1 0)), vI (nI (l.getD 2 0)), vI (nI (l.getD 3 0))] [] σ Q else At (d + 4) kX9_isDone b [vR 97 9, vI (nI k), vI (nI (l.getD 0 0)), vI (nI (l.getD 1 0)), vI (nI (l.getD 2 0)), vI (nI (l.getD 3 0))] [] σ Q) = (if x < 0 then At (d + 4) kX9_isDone a [vR 97 9, vI (nI k), vI (nI (l.getD 0 0)), vI (nI (l.getD 1 0)), vI (nI (l.getD 2 0)), vI (nI (l.getD 3 0))] [] σ Q else At (d + 4) kX9_isDone b [vR 97 9, vI (nI k), vI (nI (l.getD 0 0)), vI (nI (l.getD 1 0)), vI (nI (l.getD 2 0)), vI (nI (l.getD 3 0))] [] σ Q) := fun _ _ _ => rfl
  clear lt
  rcases (show w < 4 ∨ w = 4 ∨ w = 5 ∨ w = 6 ∨ w = 7 by omega) with w0 | w0 | w0 | w0 | w0
  · have n3 : nedN w = 3 := if_pos w0
    have e : doC S.1 (w, l) = (decide (¬ (nodeS S.1 (nI (l.getD 0 0)) (nI w) (orN (nI (l.getD 1 0))) (orN (nI (l.getD 2 0)))).1 < 0), (nodeS S.1 (nI (l.getD 0 0)) (nI w) (orN (nI (l.getD 1 0))) (orN (nI (l.getD 2 0)))).2) := by
      unfold doC
      dsimp only
      rw [if_neg (by omega), if_neg (by omega), if_neg (by omega), if_neg (by omega)]
    rw [e] at hQ
    refine pre _ _ _ _ (r0 (by omega)) (r1 (by omega)) (r2 (by omega)) rfl ?_
    have sw : At (d + 4) kX9_isDone 50 [vR 97 9, vI (nI k), vI (nI (l.getD 0 0)), vI (nI (l.getD 1 0)), vI (nI (l.getD 2 0)), vI (rI σ 103 (5 * k + 3))] [vI (nI w)] σ Q ↔ At (d + 4) kX9_isDone 168 [vR 97 9, vI (nI k), vI (nI (l.getD 0 0)), vI (nI (l.getD 1 0)), vI (nI (l.getD 2 0)), vI (rI σ 103 (5 * k + 3))] [] σ Q := by
      rcases (show w = 0 ∨ w = 1 ∨ w = 2 ∨ w = 3 by omega) with rfl | rfl | rfl | rfl
      · exact z_X9_isDone_50_0
      · exact z_X9_isDone_50_1
      · exact z_X9_isDone_50_2
      · exact z_X9_isDone_50_3
    refine sw.mpr ?_
    simp (disch := first | exact is2I | exact is2R | omega) only [z_X9_isDone_168, z_X9_isDone_169, z_X9_isDone_170, z_X9_isDone_171, z_X9_isDone_174, z_X9_isDone_175, z_X9_isDone_176, z_X9_isDone_177, z_X9_isDone_180, z_X9_isDone_182, z_X9_isDone_185, mf_r1 hF, mf_r2 hF, mf_r3 hF, mf_r5 hF, mf_r10 hF, mf_r11 hF, mf_r13 hF, mf_r15 hF, mf_r16 hF, mf_r19 hF, mf_r21 hF, mf_r22 hF, mf_r23 hF, mf_r24 hF, mf_r25 hF, mf_r26 hF, mf_r27 hF, mf_r29 hF, mf_r30 hF, mf_r31 hF, mf_r32 hF, mf_s98 hF, mf_s99 hF, mf_s100 hF, mf_s101 hF, mf_s102 hF, mf_s103 hF, mf_s104 hF, mf_s105 hF, mf_s106 hF, mf_s107 hF, mf_s108 hF, mf_s109 hF, mf_s110 hF, mf_s111 hF, mf_s112 hF, mf_s113 hF, mf_s114 hF, mf_s115 hF, mf_s116 hF, mf_s117 hF, mf_s118 hF, kIn, kCl, c1, m_orNone, true_and, Option.toList_some, Option.toList_none, List.cons_append, List.nil_append, is2IT, is2RT, if_true, if_false]
    refine m_node (d := d) h (fun σ' q1 q2 => ?_)
    have fin := hQ σ' q1 q2
    simp (disch := first | exact is2I | exact is2R | omega) only [z_X9_isDone_188, z_X9_isDone_191, z_X9_isDone_192, z_X9_isDone_195, z_X9_isDone_196, rk_b0, rk_b1, true_and, Option.toList_some, Option.toList_none, List.cons_append, List.nil_append, is2IT, is2RT, if_true, if_false]
    by_cases cx : (nodeS S.1 (nI (l.getD 0 0)) (nI w) (orN (nI (l.getD 1 0))) (orN (nI (l.getD 2 0)))).1 < 0
    · rw [if_pos cx]
      rw [b2_f (fun q => (of_decide_eq_true q) cx)] at fin
      exact fin
    · rw [if_neg cx]
      rw [b2_t (decide_eq_true cx)] at fin
      exact fin
  · subst w0
    have e : doC S.1 (4, l) = (decide (¬ (rowS S.1 (nI (l.getD 0 0)) (nI (l.getD 1 0)) (nI (l.getD 2 0)) (nI (l.getD 3 0)) (nI (l.getD 4 0))).1 < 0), (rowS S.1 (nI (l.getD 0 0)) (nI (l.getD 1 0)) (nI (l.getD 2 0)) (nI (l.getD 3 0)) (nI (l.getD 4 0))).2) := rfl
    rw [e] at hQ
    refine pre _ _ _ _ (r0 (by decide)) (r1 (by decide)) (r2 (by decide)) (r3 (by decide)) (z_X9_isDone_50_4.mpr ?_)
    simp (disch := first | exact is2I | exact is2R | omega) only [z_X9_isDone_80, z_X9_isDone_81, z_X9_isDone_82, z_X9_isDone_83, z_X9_isDone_85, z_X9_isDone_87, z_X9_isDone_88, z_X9_isDone_91, z_X9_isDone_92, z_X9_isDone_93, z_X9_isDone_94, z_X9_isDone_95, z_X9_isDone_96, z_X9_isDone_97, mf_r1 hF, mf_r2 hF, mf_r3 hF, mf_r5 hF, mf_r10 hF, mf_r11 hF, mf_r13 hF, mf_r15 hF, mf_r16 hF, mf_r19 hF, mf_r21 hF, mf_r22 hF, mf_r23 hF, mf_r24 hF, mf_r25 hF, mf_r26 hF, mf_r27 hF, mf_r29 hF, mf_r30 hF, mf_r31 hF, mf_r32 hF, mf_s98 hF, mf_s99 hF, mf_s100 hF, mf_s101 hF, mf_s102 hF, mf_s103 hF, mf_s104 hF, mf_s105 hF, mf_s106 hF, mf_s107 hF, mf_s108 hF, mf_s109 hF, mf_s110 hF, mf_s111 hF, mf_s112 hF, mf_s113 hF, mf_s114 hF, mf_s115 hF, mf_s116 hF, mf_s117 hF, mf_s118 hF, kLM, kAL, kIn, kCl, r4 (by decide), true_and, Option.toList_some, Option.toList_none, List.cons_append, List.nil_append, is2IT, is2RT, if_true, if_false]
    refine m_row (d := d + 1) h (fun σ' q1 q2 => ?_)
    have fin := hQ σ' q1 q2
    simp (disch := first | exact is2I | exact is2R | omega) only [z_X9_isDone_100, z_X9_isDone_103, z_X9_isDone_104, z_X9_isDone_107, z_X9_isDone_108, rk_b0, rk_b1, true_and, Option.toList_some, Option.toList_none, List.cons_append, List.nil_append, is2IT, is2RT, if_true, if_false]
    by_cases cx : (rowS S.1 (nI (l.getD 0 0)) (nI (l.getD 1 0)) (nI (l.getD 2 0)) (nI (l.getD 3 0)) (nI (l.getD 4 0))).1 < 0
    · rw [if_pos cx]
      rw [b2_f (fun q => (of_decide_eq_true q) cx)] at fin
      exact fin
    · rw [if_neg cx]
      rw [b2_t (decide_eq_true cx)] at fin
      exact fin
  · subst w0
    have e : doC S.1 (5, l) = (decide (¬ (becS S.1 4 (nI (l.getD 0 0)) (orN (nI (l.getD 1 0)))).1 = -2), (becS S.1 4 (nI (l.getD 0 0)) (orN (nI (l.getD 1 0)))).2) := rfl
    rw [e] at hQ
    refine pre _ _ _ _ (r0 (by decide)) (r1 (by decide)) rfl rfl (z_X9_isDone_50_5.mpr ?_)
    simp (disch := first | exact is2I | exact is2R | omega) only [z_X9_isDone_109, z_X9_isDone_110, z_X9_isDone_111, z_X9_isDone_112, z_X9_isDone_115, m_orNone, true_and, Option.toList_some, Option.toList_none, List.cons_append, List.nil_append, is2IT, is2RT, if_true, if_false]
    refine m_told (d := d) h (fun σ' q1 q2 => ?_)
    have fin := hQ σ' q1 q2
    simp (disch := first | exact is2I | exact is2R | omega) only [z_X9_isDone_118, z_X9_isDone_120, z_X9_isDone_123, z_X9_isDone_124, z_X9_isDone_127, z_X9_isDone_128, rk_b0, rk_b1, true_and, Option.toList_some, Option.toList_none, List.cons_append, List.nil_append, is2IT, is2RT, if_true, if_false]
    by_cases cx : (becS S.1 4 (nI (l.getD 0 0)) (orN (nI (l.getD 1 0)))).1 = -2
    · rw [if_pos cx]
      rw [b2_f (fun q => (of_decide_eq_true q) cx)] at fin
      exact fin
    · rw [if_neg cx]
      rw [b2_t (decide_eq_true cx)] at fin
      exact fin
  · subst w0
    have e : doC S.1 (6, l) = (decide (¬ (becS S.1 5 (nI (l.getD 0 0)) (orN (nI (l.getD 1 0)))).1 = -2), (becS S.1 5 (nI (l.getD 0 0)) (orN (nI (l.getD 1 0)))).2) := rfl
    rw [e] at hQ
    refine pre _ _ _ _ (r0 (by decide)) (r1 (by decide)) rfl rfl (z_X9_isDone_50_6.mpr ?_)
    simp (disch := first | exact is2I | exact is2R | omega) only [z_X9_isDone_129, z_X9_isDone_130, z_X9_isDone_131, z_X9_isDone_132, z_X9_isDone_135, m_orNone, true_and, Option.toList_some, Option.toList_none, List.cons_append, List.nil_append, is2IT, is2RT, if_true, if_false]
    refine m_done (d := d) h (fun σ' q1 q2 => ?_)
    have fin := hQ σ' q1 q2
    simp (disch := first | exact is2I | exact is2R | omega) only [z_X9_isDone_138, z_X9_isDone_140, z_X9_isDone_143, z_X9_isDone_144, z_X9_isDone_147, z_X9_isDone_148, rk_b0, rk_b1, true_and, Option.toList_some, Option.toList_none, List.cons_append, List.nil_append, is2IT, is2RT, if_true, if_false]
    by_cases cx : (becS S.1 5 (nI (l.getD 0 0)) (orN (nI (l.getD 1 0)))).1 = -2
    · rw [if_pos cx]
      rw [b2_f (fun q => (of_decide_eq_true q) cx)] at fin
      exact fin
    · rw [if_neg cx]
      rw [b2_t (decide_eq_true cx)] at fin
      exact fin
  · subst w0
    have e : doC S.1 (7, l) = (decide (¬ (hintS S.1 (nI (l.getD 0 0)) (nI (l.getD 1 0)) (nI (l.getD 2 0)) (nI (l.getD 3 0))).1 < 0), (hintS S.1 (nI (l.getD 0 0)) (nI (l.getD 1 0)) (nI (l.getD 2 0)) (nI (l.getD 3 0))).2) := rfl
    rw [e] at hQ
    refine pre _ _ _ _ (r0 (by decide)) (r1 (by decide)) (r2 (by decide)) (r3 (by decide)) (z_X9_isDone_50_7.mpr ?_)
    simp (disch := first | exact is2I | exact is2R | omega) only [z_X9_isDone_149, z_X9_isDone_150, z_X9_isDone_151, z_X9_isDone_152, z_X9_isDone_154, z_X9_isDone_156, true_and, Option.toList_some, Option.toList_none, List.cons_append, List.nil_append, is2IT, is2RT, if_true, if_false]
    refine m_hint (d := d + 1) h (fun σ' q1 q2 => ?_)
    have fin := hQ σ' q1 q2
    simp (disch := first | exact is2I | exact is2R | omega) only [z_X9_isDone_159, z_X9_isDone_162, z_X9_isDone_163, z_X9_isDone_166, z_X9_isDone_167, rk_b0, rk_b1, true_and, Option.toList_some, Option.toList_none, List.cons_append, List.nil_append, is2IT, is2RT, if_true, if_false]
    by_cases cx : (hintS S.1 (nI (l.getD 0 0)) (nI (l.getD 1 0)) (nI (l.getD 2 0)) (nI (l.getD 3 0))).1 < 0
    · rw [if_pos cx]
      rw [b2_f (fun q => (of_decide_eq_true q) cx)] at fin
      exact fin
    · rw [if_neg cx]
      rw [b2_t (decide_eq_true cx)] at fin
      exact fin
