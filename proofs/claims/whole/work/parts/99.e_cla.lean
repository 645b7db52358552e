/-! ===== the tape: faults and clauses, the class ===== -/
def ffR (T : List Nat) : Nat → Option Nat → Nat → Option Nat
  | 0, _, _ => none
  | f + 1, none, p => match wcR T (skp T p) (lts T (skp T p)) with
    | none => some (skp T p)
    | some w => ffR T f (some (nedN w)) (lts T (skp T p))
  | f + 1, some (n + 1), p => if okN2 T p = true then ffR T f (some n) (dgs T (skp T p)) else some (skp T p)
  | f + 1, some 0, p => if T[skp T p]? = some 59 then ffR T f none (skp T p + 1) else if skp T p < T.length then some (skp T p) else none
theorem ff_num {T : List Nat} : ∀ n f p L, T.length < f + p → p ≤ T.length → ffR T f (some n) p = (match numsR T n p L with | Sum.inl x => some x | Sum.inr e => ffR T (f - n) (some 0) e.2)
  | 0, f, p, L, hf, hp => rfl
  | n + 1, 0, p, L, hf, hp => by omega
  | n + 1, f + 1, p, L, hf, hp => by
    have e1 : ffR T (f + 1) (some (n + 1)) p = if okN2 T p = true then ffR T f (some n) (dgs T (skp T p)) else some (skp T p) := rfl
    have e2 : numsR T (n + 1) p L = if okN2 T p = true then numsR T n (dgs T (skp T p)) (L ++ [numV T (skp T p)]) else Sum.inl (skp T p) := rfl
    rw [e1, e2]
    by_cases c : okN2 T p = true
    · rw [if_pos c, if_pos c]
      have o := of_decide_eq_true c
      have s := skp_le hp
      have g := dgs_le s.2
      rw [ff_num n f _ (L ++ [numV T (skp T p)]) (by omega) g.2, show f + 1 - (n + 1) = f - n by omega]
    · rw [if_neg c, if_neg c]
theorem ff_par {T : List Nat} : ∀ g f p C, T.length < p + g → T.length < f + p → p ≤ T.length → ffR T f none p = (match parR T g p C with | Sum.inl x => some x | Sum.inr _ => none)
  | 0, f, p, C, hg, hf, hp => by omega
  | g + 1, 0, p, C, hg, hf, hp => by omega
  | g + 1, f + 1, p, C, hg, hf, hp => by
    have e1 : ffR T (f + 1) none p = (match wcR T (skp T p) (lts T (skp T p)) with
      | none => some (skp T p)
      | some w => ffR T f (some (nedN w)) (lts T (skp T p))) := rfl
    have e2 : parR T (g + 1) p C = (match clauR T p with
      | Sum.inl e => Sum.inl e
      | Sum.inr e => if T[e.2]? = some 59 then parR T g (e.2 + 1) (C ++ [e.1]) else if e.2 < T.length then Sum.inl e.2 else Sum.inr (C ++ [e.1])) := rfl
    rw [e1, e2]
    unfold clauR
    have s := skp_le hp
    have l := lts_le s.2
    cases ew : wcR T (skp T p) (lts T (skp T p)) with
    | none => rfl
    | some w =>
      have w3 := wcR_3 ew
      dsimp only
      rw [ff_num (nedN w) f (lts T (skp T p)) [] (by omega) l.2]
      cases en : numsR T (nedN w) (lts T (skp T p)) [] with
      | inl x => rfl
      | inr e =>
        have nl := numsR_le _ _ _ _ l.2 en
        dsimp only
        have s2 := skp_le nl.2.1
        obtain ⟨f', hf'⟩ : ∃ f', f - nedN w = f' + 1 := ⟨f - nedN w - 1, by omega⟩
        rw [hf']
        have e3 : ffR T (f' + 1) (some 0) e.2 = if T[skp T e.2]? = some 59 then ffR T f' none (skp T e.2 + 1) else if skp T e.2 < T.length then some (skp T e.2) else none := rfl
        rw [e3]
        by_cases c1 : T[skp T e.2]? = some 59
        · rw [if_pos c1, if_pos c1]
          have hl : skp T e.2 < T.length := (List.getElem?_eq_some_iff.mp c1).1
          exact ff_par g f' (skp T e.2 + 1) _ (by omega) (by omega) (by omega)
        · rw [if_neg c1, if_neg c1]
          by_cases c2 : skp T e.2 < T.length
          · rw [if_pos c2, if_pos c2]
          · rw [if_neg c2, if_neg c2]
theorem ned_at : ∀ w, w < 8 → ([3, 3, 3, 3, 5, 2, 2, 4] : List Int32).getD w 0 = nI (nedN w) := by decide
def stW (st : Option Nat) : Int32 := match st with | none => 1 | some _ => 0
def stN (st : Option Nat) : Nat := match st with | none => 0 | some n => n
theorem ff_l {d : Nat} {Q : Option PV → St → Prop} {σ0 : St} {T : List Nat} {FE : Option Nat} (hX0 : XF σ0) (hT0 : tpC σ0 T) (hQ : ∀ σ', Fm Itk noL σ0 σ' → Q (some (vI (oI FE))) σ') : ∀ f st p i σ, f + i = T.length + 1 → i ≤ p → p ≤ T.length → stN st ≤ 5 → Fm Itk noL σ0 σ → rI σ 83 2 = nI p → ffR T f st p = FE → At (d + 8) kX3_findFault 11 [vR 83 4, vI (stW st), vI (nI (stN st)), vI (nI i)] [] σ Q := by
  intro f
  induction f with
  | zero => intro st p i σ h1 h2 h3; omega
  | succ f ih =>
    intro st p i σ hf hi hp h5 hm ha he
    have hX := XF_tk hX0 hm
    have hT := tpC_tk hT0 hm
    have t60 := hT.2.1
    have c : ¬ T.length < i := by omega
    have sk := skp_le hp
    simp (disch := first | exact is2I | exact is2R | omega) only [z_X3_findFault_11, z_X3_findFault_12, z_X3_findFault_13, z_X3_findFault_16, z_X3_findFault_19, z_X3_findFault_20, hT.1, kLt, c, true_and, Option.toList_some, Option.toList_none, List.cons_append, List.nil_append, is2IT, is2RT, if_true, if_false]
    refine c_tok (d := d) hX hT hp ha (fun σ1 f1 a1 b1 k1 w1 n1 => ?_)
    have m1 := Fm_tr hm f1
    have hX1 := XF_tk hX f1
    have ev : nI i + (1 : Int32) = nI (i + 1) := nI_add i 1
    have k5 : tokK T (skp T p) ≤ 4 := by
      unfold tokK
      split
      · omega
      · split
        · split <;> omega
        · split
          · split <;> omega
          · split <;> omega
    have nx : ∀ st' p', ffR T f st' p' = FE → i < p' → p' ≤ T.length → stN st' ≤ 5 → rI σ1 83 2 = nI p' → At (d + 8) kX3_findFault 101 [vR 83 4, vI (stW st'), vI (nI (stN st')), vI (nI i)] [] σ1 Q := fun st' p' g1 g2 g3 g4 g5 => by
      simp (disch := first | exact is2I | exact is2R | omega) only [z_X3_findFault_101, ev, true_and, Option.toList_some, Option.toList_none, List.cons_append, List.nil_append, is2IT, is2RT, if_true, if_false]
      rw [z_X3_findFault_104]
      exact ih st' p' (i + 1) σ1 (by omega) (by omega) g3 g4 m1 g5 g1
    have bad : FE = some (skp T p) → Q (some (vI (rI σ1 83 3))) σ1 := fun q => by
      rw [b1]
      have := hQ σ1 m1
      rw [q] at this
      exact this
    cases st with
    | none =>
      have e1 : ffR T (f + 1) none p = (match wcR T (skp T p) (lts T (skp T p)) with
        | none => some (skp T p)
        | some w => ffR T f (some (nedN w)) (lts T (skp T p))) := rfl
      rw [e1] at he
      have n10 : ((1 : Int32) = 0) = False := eq_false (by decide)
      show At (d + 8) kX3_findFault 23 [vR 83 4, vI 1, vI (nI 0), vI (nI i)] ((none : Option PV).toList ++ []) σ1 Q
      simp (disch := first | exact is2I | exact is2R | omega) only [z_X3_findFault_23, z_X3_findFault_24, z_X3_findFault_27, z_X3_findFault_28, z_X3_findFault_31, z_X3_findFault_32, n10, k1, kEL, Option.toList_none, List.nil_append, true_and, Option.toList_some, Option.toList_none, List.cons_append, List.nil_append, is2IT, is2RT, if_true, if_false]
      cases ew : wcR T (skp T p) (lts T (skp T p)) with
      | none =>
        rw [ew] at he
        have nk : ¬ tokK T (skp T p) = 1 := fun q => by
          have := tk_1.mp q
          rw [ew] at this; cases this
        rw [if_neg nk]
        simp (disch := first | exact is2I | exact is2R | omega) only [z_X3_findFault_35, z_X3_findFault_36, z_X3_findFault_39, true_and, Option.toList_some, Option.toList_none, List.cons_append, List.nil_append, is2IT, is2RT, if_true, if_false]
        exact bad he.symm
      | some w =>
        rw [ew] at he
        have kk : tokK T (skp T p) = 1 := tk_1.mpr (by rw [ew]; rfl)
        have w8 := (wcR_3 ew).2
        have w5 := w1 w kk ew
        have te := te_1 kk
        have nd := nedN_5 w
        rw [if_pos kk]
        simp (disch := first | exact is2I | exact is2R | omega) only [z_X3_findFault_40, z_X3_findFault_41, z_X3_findFault_42, z_X3_findFault_45, z_X3_findFault_46, z_X3_findFault_49x, z_X3_findFault_50, z_X3_findFault_51, w5, kIn, kCl, ned_at w w8, true_and, Option.toList_some, Option.toList_none, List.cons_append, List.nil_append, is2IT, is2RT, if_true, if_false]
        exact nx (some (nedN w)) (lts T (skp T p)) he (by omega) te.2.2 (by show nedN w ≤ 5; omega) (by rw [a1, te.1])
    | some n =>
      show At (d + 8) kX3_findFault 23 [vR 83 4, vI 0, vI (nI n), vI (nI i)] ((none : Option PV).toList ++ []) σ1 Q
      have h5' : n ≤ 5 := h5
      cases n with
      | zero =>
        have e1 : ffR T (f + 1) (some 0) p = if T[skp T p]? = some 59 then ffR T f none (skp T p + 1) else if skp T p < T.length then some (skp T p) else none := rfl
        rw [e1] at he
        have z0 : (nI 0 ≤ (0 : Int32)) = True := eq_true (by decide)
        simp (disch := first | exact is2I | exact is2R | omega) only [z_X3_findFault_23, z_X3_findFault_24, z_X3_findFault_54, z_X3_findFault_55, z_X3_findFault_77, z_X3_findFault_78, z_X3_findFault_81, z0, k1, kEL, Option.toList_none, List.nil_append, true_and, Option.toList_some, Option.toList_none, List.cons_append, List.nil_append, is2IT, is2RT, if_true, if_false]
        by_cases c0 : T.length ≤ skp T p
        · have kk := tk_0.mpr c0
          rw [if_pos kk]
          rw [if_neg (fun q => by rw [List.getElem?_eq_none c0] at q; cases q), if_neg (by omega)] at he
          simp (disch := first | exact is2I | exact is2R | omega) only [z_X3_findFault_84, z_X3_findFault_85, true_and, Option.toList_some, Option.toList_none, List.cons_append, List.nil_append, is2IT, is2RT, if_true, if_false]
          have := hQ σ1 m1
          rw [← he] at this
          exact this
        · rw [if_neg (fun q => c0 (tk_0.mp q))]
          simp (disch := first | exact is2I | exact is2R | omega) only [z_X3_findFault_86, z_X3_findFault_87, z_X3_findFault_90, z_X3_findFault_91, k1, kEL, true_and, Option.toList_some, Option.toList_none, List.cons_append, List.nil_append, is2IT, is2RT, if_true, if_false]
          by_cases c3 : T[skp T p]? = some 59
          · have kk := tk_3.mpr c3
            have te := te_3 kk
            rw [if_pos kk]
            rw [if_pos c3] at he
            simp (disch := first | exact is2I | exact is2R | omega) only [z_X3_findFault_99, z_X3_findFault_100, true_and, Option.toList_some, Option.toList_none, List.cons_append, List.nil_append, is2IT, is2RT, if_true, if_false]
            exact nx none (skp T p + 1) he (by omega) (by omega) (by decide) (by rw [a1, te.1])
          · rw [if_neg (fun q => c3 (tk_3.mp q))]
            rw [if_neg c3, if_pos (by omega)] at he
            simp (disch := first | exact is2I | exact is2R | omega) only [z_X3_findFault_94, z_X3_findFault_95, z_X3_findFault_98, true_and, Option.toList_some, Option.toList_none, List.cons_append, List.nil_append, is2IT, is2RT, if_true, if_false]
            exact bad he.symm
      | succ n =>
        have e1 : ffR T (f + 1) (some (n + 1)) p = if okN2 T p = true then ffR T f (some n) (dgs T (skp T p)) else some (skp T p) := rfl
        rw [e1] at he
        have z0 : ¬ (nI (n + 1) ≤ (0 : Int32)) := fun q => by
          have := (nI_leI (a := n + 1) (b := 0) (by omega) (by decide)).mp q
          omega
        simp (disch := first | exact is2I | exact is2R | omega) only [z_X3_findFault_23, z_X3_findFault_24, z_X3_findFault_54, z_X3_findFault_55, z_X3_findFault_58, z_X3_findFault_59, z_X3_findFault_62, z_X3_findFault_63, z0, k1, kEL, Option.toList_none, List.nil_append, true_and, Option.toList_some, Option.toList_none, List.cons_append, List.nil_append, is2IT, is2RT, if_true, if_false]
        by_cases c2 : okN2 T p = true
        · have kk := tk_2.mpr c2
          have te := te_2 kk
          rw [if_pos kk]
          rw [if_pos c2] at he
          have es : nI (n + 1) + (-1 : Int32) = nI n := by
            rw [show nI (n + 1) = nI n + 1 from (nI_add n 1).symm, Int32.add_assoc, show (1 : Int32) + -1 = 0 by decide, Int32.add_zero]
          simp (disch := first | exact is2I | exact is2R | omega) only [z_X3_findFault_71, z_X3_findFault_74, es, true_and, Option.toList_some, Option.toList_none, List.cons_append, List.nil_append, is2IT, is2RT, if_true, if_false]
          exact nx (some n) (dgs T (skp T p)) he (by omega) te.2.2.1 (by show n ≤ 5; omega) (by rw [a1, te.1])
        · rw [if_neg (fun q => c2 (tk_2.mp q))]
          rw [if_neg c2] at he
          simp (disch := first | exact is2I | exact is2R | omega) only [z_X3_findFault_66, z_X3_findFault_67, z_X3_findFault_70, true_and, Option.toList_some, Option.toList_none, List.cons_append, List.nil_append, is2IT, is2RT, if_true, if_false]
          exact bad he.symm
theorem c_findFault {d : Nat} {Q : Option PV → St → Prop} {σ : St} {T : List Nat} (hX : XF σ) (hT : tpC σ T) (hQ : ∀ σ', Fm Itk noL σ σ' → Q (some (vI (oI (match parR T 61 0 [] with | Sum.inl x => some x | Sum.inr _ => none)))) σ') : Ca (d + 9) 30 [vR 83 4] σ Q := by
  have t60 := hT.2.1
  rw [ca_at (K := kX3_findFault) (ls := [vR 83 4, vU, vU, vU]) rfl rfl rfl]
  simp (disch := first | exact is2I | exact is2R | omega) only [z_X3_findFault_0, z_X3_findFault_1, z_X3_findFault_2, z_X3_findFault_3, z_X3_findFault_4, z_X3_findFault_5, z_X3_findFault_6, z_X3_findFault_9, z_X3_findFault_10, true_and, Option.toList_some, Option.toList_none, List.cons_append, List.nil_append, is2IT, is2RT, if_true, if_false]
  exact ff_l (d := d) (FE := match parR T 61 0 [] with | Sum.inl x => some x | Sum.inr _ => none) hX hT hQ (T.length + 1) none 0 0 _ (by omega) (Nat.le_refl 0) (Nat.zero_le _) (by decide) (Fm_wI (decide_eq_true (by omega))) (by rw [rI_wI, if_pos ⟨rfl, rfl⟩]; rfl) (ff_par 61 (T.length + 1) 0 [] (by omega) (by omega) (Nat.zero_le _))
/-! clauses -/
def Icz (a i : Nat) : Bool := decide ((a = 83 ∧ 2 ≤ i ∧ i ≤ 6) ∨ a = 85)
theorem Itk_cz {a i : Nat} (h : Itk a i = true) : Icz a i = true := by have := of_decide_eq_true h; exact decide_eq_true (by omega)
theorem tpC_cz {σ σ' : St} {T : List Nat} (h : tpC σ T) (hf : Fm Icz noL σ σ') : tpC σ' T := tpC_fm h hf (decide_eq_false (by omega)) (fun i => decide_eq_false (by omega))
theorem Fm_cz {σ σ' : St} (h : Fm Itk noL σ σ') : Fm Icz noL σ σ' := Fm_mono h (fun a i => Itk_cz) (fun _ q => q)
theorem rn_c {d w : Nat} {Q : Option PV → St → Prop} {σ0 : St} {T : List Nat} {E : List Nat × Nat} (hX0 : XF σ0) (hT0 : tpC σ0 T) (hw : w < 8) (hQ : ∀ σ', Fm Icz noL σ0 σ' → rI σ' 83 6 = nI w → (∀ i (h : i < E.1.length), rI σ' 85 i = nI E.1[i]) → rI σ' 83 2 = nI E.2 → At (d + 8) kX3_readClause 56 [vR 83 4, vI (nI (nedN w))] [] σ' Q) : ∀ n k p L σ, k + n = nedN w → L.length = k → p ≤ T.length → Fm Icz noL σ0 σ → rI σ 83 6 = nI w → (∀ i (h : i < L.length), rI σ 85 i = nI L[i]) → rI σ 83 2 = nI p → numsR T n p L = Sum.inr E → At (d + 8) kX3_readClause 24 [vR 83 4, vI (nI k)] [] σ Q
  | 0, k, p, L, σ, hk, hL, hp, hm, h6, h85, ha, he => by
    have nd := nedN_5 w
    have : k = nedN w := by omega
    subst this
    have he' : (Sum.inr (L, p) : Nat ⊕ (List Nat × Nat)) = Sum.inr E := he
    cases he'
    simp (disch := first | exact is2I | exact is2R | omega) only [z_X3_readClause_24, z_X3_readClause_25, z_X3_readClause_28, z_X3_readClause_29, z_X3_readClause_32x, z_X3_readClause_33, h6, kIn, kCl, ned_at w hw, kLe, Nat.le_refl, true_and, Option.toList_some, Option.toList_none, List.cons_append, List.nil_append, is2IT, is2RT, if_true, if_false]
    exact hQ σ hm h6 h85 ha
  | n + 1, k, p, L, σ, hk, hL, hp, hm, h6, h85, ha, he => by
    have nd := nedN_5 w
    have c : ¬ nedN w ≤ k := by omega
    have hX := XF_fm hX0 hm
    have hT := tpC_cz hT0 hm
    have sk := skp_le hp
    have e2 : numsR T (n + 1) p L = if okN2 T p = true then numsR T n (dgs T (skp T p)) (L ++ [numV T (skp T p)]) else Sum.inl (skp T p) := rfl
    rw [e2] at he
    by_cases c2 : okN2 T p = true
    · rw [if_pos c2] at he
      have kk := tk_2.mpr c2
      have te := te_2 kk
      have ev : nI k + (1 : Int32) = nI (k + 1) := nI_add k 1
      simp (disch := first | exact is2I | exact is2R | omega) only [z_X3_readClause_24, z_X3_readClause_25, z_X3_readClause_28, z_X3_readClause_29, z_X3_readClause_32x, z_X3_readClause_33, z_X3_readClause_36, z_X3_readClause_37, h6, kIn, kCl, ned_at w hw, kLe, c, true_and, Option.toList_some, Option.toList_none, List.cons_append, List.nil_append, is2IT, is2RT, if_true, if_false]
      refine c_tok (d := d) hX hT hp ha (fun σ1 f1 a1 b1 k1 w1 n1 => ?_)
      have hX1 := XF_tk hX f1
      have v5 := n1 kk
      have g1 := Fm_cz f1
      have h6' : rI σ1 83 6 = nI w := by rw [f1.1 83 6 (decide_eq_false (by omega))]; exact h6
      simp (disch := first | exact is2I | exact is2R | omega) only [z_X3_readClause_40, z_X3_readClause_41, z_X3_readClause_44, z_X3_readClause_45, z_X3_readClause_46, z_X3_readClause_49, z_X3_readClause_50, xf_r83_7 hX1, xf_s85 hX1, v5, kIn, kCl, ev, Option.toList_none, List.nil_append, true_and, Option.toList_some, Option.toList_none, List.cons_append, List.nil_append, is2IT, is2RT, if_true, if_false]
      rw [z_X3_readClause_53]
      refine rn_c hX0 hT0 hw hQ n (k + 1) (dgs T (skp T p)) (L ++ [numV T (skp T p)]) _ (by omega) (by rw [List.length_append, hL]; rfl) te.2.2.1 (Fm_tr (Fm_tr hm g1) (Fm_wI (decide_eq_true (by omega)))) (by rw [rI_wI_n (by decide)]; exact h6') (fun i hi => ?_) (by rw [rI_wI_n (by decide), a1, te.1]) he
      have el : (L ++ [numV T (skp T p)]).length = L.length + 1 := List.length_append
      rw [rI_wI]
      by_cases e : i = k
      · have g : (L ++ [numV T (skp T p)])[i] = numV T (skp T p) := by simp [e, ← hL]
        rw [if_pos ⟨rfl, e⟩, g]
      · have hi2 : i < L.length := by omega
        rw [if_neg (fun q => e q.2), List.getElem_append_left hi2, f1.1 85 i (decide_eq_false (by omega))]
        exact h85 i hi2
    · rw [if_neg c2] at he; cases he
theorem c_readClause {d p : Nat} {Q : Option PV → St → Prop} {σ : St} {T : List Nat} {e : Clz × Nat} (hX : XF σ) (hT : tpC σ T) (hp : p ≤ T.length) (ha : rI σ 83 2 = nI p) (he : clauR T p = Sum.inr e) (hQ : ∀ σ', Fm Icz noL σ σ' → rI σ' 83 6 = nI e.1.1 → (∀ i (h : i < e.1.2.length), rI σ' 85 i = nI e.1.2[i]) → (T[e.2]? = some 59 → rI σ' 83 2 = nI (e.2 + 1)) → (T.length ≤ e.2 → rI σ' 83 2 = nI e.2) → Q (some (vI 1)) σ') : Ca (d + 9) 31 [vR 83 4] σ Q := by
  have sk := skp_le hp
  have l := lts_le sk.2
  rw [ca_at (K := kX3_readClause) (ls := [vR 83 4, vU]) rfl rfl rfl]
  unfold clauR at he
  cases ew : wcR T (skp T p) (lts T (skp T p)) with
  | none => rw [ew] at he; cases he
  | some w =>
    rw [ew] at he
    dsimp only at he
    have w8 := (wcR_3 ew).2
    have nd := nedN_5 w
    have kk : tokK T (skp T p) = 1 := tk_1.mpr (by rw [ew]; rfl)
    have te := te_1 kk
    cases en : numsR T (nedN w) (lts T (skp T p)) [] with
    | inl f => rw [en] at he; cases he
    | inr E =>
      rw [en] at he
      cases he
      have nl := numsR_le _ _ _ _ l.2 en
      simp (disch := first | exact is2I | exact is2R | omega) only [z_X3_readClause_0, z_X3_readClause_1, true_and, Option.toList_some, Option.toList_none, List.cons_append, List.nil_append, is2IT, is2RT, if_true, if_false]
      refine c_tok (d := d) hX hT hp ha (fun σ1 f1 a1 b1 k1 w1 n1 => ?_)
      have w5 := w1 w kk ew
      rw [kk] at k1
      simp (disch := first | exact is2I | exact is2R | omega) only [z_X3_readClause_4, z_X3_readClause_5, z_X3_readClause_8, z_X3_readClause_9, z_X3_readClause_12, z_X3_readClause_13, z_X3_readClause_14, z_X3_readClause_15, z_X3_readClause_16, z_X3_readClause_19, z_X3_readClause_22, z_X3_readClause_23, k1, show (nI 1 = (1 : Int32)) = True from eq_true rfl, w5, Option.toList_none, List.nil_append, true_and, Option.toList_some, Option.toList_none, List.cons_append, List.nil_append, is2IT, is2RT, if_true, if_false]
      have g1 : Fm Icz noL σ (wI σ1 83 6 (nI w)) := Fm_tr (Fm_cz f1) (Fm_wI (decide_eq_true (by omega)))
      refine rn_c (d := d) (E := E) hX hT w8 (fun σ2 g2 h6 h85 a2 => ?_) (nedN w) 0 (lts T (skp T p)) [] _ (by omega) rfl l.2 g1 (by rw [rI_wI, if_pos ⟨rfl, rfl⟩]) (fun i hi => absurd hi (Nat.not_lt_zero i)) (by rw [rI_wI, if_neg (fun q => absurd q.2 (by decide)), a1, te.1]) en
      have hX2 := XF_fm hX g2
      have hT2 := tpC_cz hT g2
      have sk2 := skp_le nl.2.1
      simp (disch := first | exact is2I | exact is2R | omega) only [z_X3_readClause_56, z_X3_readClause_57, true_and, Option.toList_some, Option.toList_none, List.cons_append, List.nil_append, is2IT, is2RT, if_true, if_false]
      refine c_tok (d := d) hX2 hT2 nl.2.1 a2 (fun σ3 f3 a3 b3 k3 w3 n3 => ?_)
      simp (disch := first | exact is2I | exact is2R | omega) only [z_X3_readClause_60, z_X3_readClause_61, rk_b1, Option.toList_none, List.nil_append, true_and, Option.toList_some, Option.toList_none, List.cons_append, List.nil_append, is2IT, is2RT, if_true, if_false]
      refine hQ σ3 (Fm_tr g2 (Fm_cz f3)) (by rw [f3.1 83 6 (decide_eq_false (by omega))]; exact h6) (fun i hi => by rw [f3.1 85 i (decide_eq_false (by omega))]; exact h85 i hi) (fun q => ?_) (fun q => ?_)
      · rw [a3, (te_3 (tk_3.mpr q)).1]
      · rw [a3]
        have : tokE T (skp T E.2) = skp T E.2 := if_pos q
        rw [this]
theorem c_clauseEnd {d p : Nat} {Q : Option PV → St → Prop} {σ : St} {T : List Nat} (hX : XF σ) (hT : tpC σ T) (hp : p = T.length) (ha : rI σ 83 2 = nI p) (hQ : ∀ σ', Fm Icz noL σ σ' → Q (some (vI 0)) σ') : Ca (d + 9) 31 [vR 83 4] σ Q := by
  have hp' : p ≤ T.length := by omega
  have sk := skp_le hp'
  have k0 : tokK T (skp T p) = 0 := tk_0.mpr (by omega)
  rw [ca_at (K := kX3_readClause) (ls := [vR 83 4, vU]) rfl rfl rfl]
  simp (disch := first | exact is2I | exact is2R | omega) only [z_X3_readClause_0, z_X3_readClause_1, true_and, Option.toList_some, Option.toList_none, List.cons_append, List.nil_append, is2IT, is2RT, if_true, if_false]
  refine c_tok (d := d) hX hT hp' ha (fun σ1 f1 a1 b1 k1 w1 n1 => ?_)
  rw [k0] at k1
  simp (disch := first | exact is2I | exact is2R | omega) only [z_X3_readClause_4, z_X3_readClause_5, z_X3_readClause_8, z_X3_readClause_9, z_X3_readClause_12, z_X3_readClause_13, k1, show (nI 0 = (1 : Int32)) = False from eq_false (by decide), rk_b0, Option.toList_none, List.nil_append, true_and, Option.toList_some, Option.toList_none, List.cons_append, List.nil_append, is2IT, is2RT, if_true, if_false]
  exact hQ σ1 (Fm_cz f1)
