/-! ===== the tape read: the reference ===== -/
def btI (T : List Nat) (i : Nat) : Int32 := match T[i]? with
  | none => -1
  | some b => nI b
/-- the tape stands -/
def TPs (σ : St) (T : List Nat) : Prop := MF σ ∧ tpOf σ T
theorem m_byteAt {d i : Nat} {Q : Option PV → St → Prop} {σ : St} {T : List Nat} (h : TPs σ T) (hi : i < 1000) : Ca (d + 1) 142 [vR 97 9, vI (nI i)] σ Q ↔ Q (some (vI (btI T i))) σ := by
  obtain ⟨hF, h1, h2, h3⟩ := h
  rw [ca_at (K := kX9_byteAt) (ls := [vR 97 9, vI (nI i)]) rfl rfl rfl]
  simp (disch := first | exact is2I | exact is2R | omega) only [z_X9_byteAt_0, z_X9_byteAt_1, z_X9_byteAt_2, z_X9_byteAt_5, h1, kLe, true_and, Option.toList_some, Option.toList_none, List.cons_append, List.nil_append, is2IT, is2RT, if_true, if_false]
  unfold btI
  by_cases c : T.length ≤ i
  · rw [if_pos c, List.getElem?_eq_none c]
    simp only [z_X9_byteAt_17, z_X9_byteAt_18, true_and, Option.toList_some, Option.toList_none, List.cons_append, List.nil_append, is2IT, is2RT, if_true, if_false]
  · rw [if_neg c, List.getElem?_eq_getElem (by omega)]
    simp (disch := first | exact is2I | exact is2R | omega) only [z_X9_byteAt_8, z_X9_byteAt_9, z_X9_byteAt_12, z_X9_byteAt_13, z_X9_byteAt_14, z_X9_byteAt_17, z_X9_byteAt_18, mf_r1 hF, mf_r2 hF, mf_r3 hF, mf_r5 hF, mf_r10 hF, mf_r11 hF, mf_r13 hF, mf_r15 hF, mf_r16 hF, mf_r19 hF, mf_r21 hF, mf_r22 hF, mf_r23 hF, mf_r24 hF, mf_r25 hF, mf_r26 hF, mf_r27 hF, mf_r29 hF, mf_r30 hF, mf_r31 hF, mf_r32 hF, mf_s98 hF, mf_s99 hF, mf_s100 hF, mf_s101 hF, mf_s102 hF, mf_s103 hF, mf_s104 hF, mf_s105 hF, mf_s106 hF, mf_s107 hF, mf_s108 hF, mf_s109 hF, mf_s110 hF, mf_s111 hF, mf_s112 hF, mf_s113 hF, mf_s114 hF, mf_s115 hF, mf_s116 hF, mf_s117 hF, mf_s118 hF, kIn, kCl, (h3 i (by omega)).1, true_and, Option.toList_some, Option.toList_none, List.cons_append, List.nil_append, is2IT, is2RT, if_true, if_false]
/-- the place behind a run of bytes -/
def runT (P : Nat → Bool) (T : List Nat) : Nat → Nat → Nat
  | 0, p => p
  | f + 1, p => match T[p]? with
    | none => p
    | some b => if P b = true then runT P T f (p + 1) else p
def isBl (b : Nat) : Bool := decide (b = 32)
def isLt (b : Nat) : Bool := decide (97 ≤ b ∧ b ≤ 122)
def isDg (b : Nat) : Bool := decide (48 ≤ b ∧ b ≤ 57)
def skp (T : List Nat) (p : Nat) : Nat := runT isBl T 61 p
def lts (T : List Nat) (p : Nat) : Nat := runT isLt T 61 p
def dgs (T : List Nat) (p : Nat) : Nat := runT isDg T 61 p
theorem runT_le {P : Nat → Bool} {T : List Nat} : ∀ f p, p ≤ T.length → p ≤ runT P T f p ∧ runT P T f p ≤ T.length
  | 0, p, h => ⟨Nat.le_refl _, h⟩
  | f + 1, p, h => by
    show p ≤ (match T[p]? with | none => p | some b => if P b = true then runT P T f (p + 1) else p) ∧ (match T[p]? with | none => p | some b => if P b = true then runT P T f (p + 1) else p) ≤ T.length
    cases e : T[p]? with
    | none => exact ⟨Nat.le_refl _, h⟩
    | some b =>
      have hp := (List.getElem?_eq_some_iff.mp e).1
      dsimp only
      split
      · have := runT_le (P := P) (T := T) f (p + 1) (by omega)
        omega
      · exact ⟨Nat.le_refl _, h⟩
/-- the tape's places in the reference: at (7), isWrong (8), fault (9) -/
def I7 (a i : Nat) : Bool := a.beq 97 && i.beq 7
theorem TPs_fm {I : Nat → Nat → Bool} {σ σ' : St} {T : List Nat} (h : TPs σ T) (hf : Fm I noL σ σ') (h6 : I 97 6 = false) (h1 : ∀ i, I 101 i = false) : TPs σ' T := by
  obtain ⟨hF, a, b, c⟩ := h
  exact ⟨MF_of hF hf.2.2.1 hf.2.2.2.1, by rw [hf.1 97 6 h6]; exact a, b, fun i hi => by rw [hf.1 101 i (h1 i)]; exact c i hi⟩
theorem btI_n {T : List Nat} {p : Nat} (hT : ∀ i (h : i < T.length), T[i] < 256) {c : Nat} (hc : c < 256) : (btI T p = nI c) = (T[p]? = some c) := by
  unfold btI
  cases e : T[p]? with
  | none => exact propext ⟨fun q => (Eq.mp (nI_m1 (by omega)) q.symm).elim, fun q => by cases q⟩
  | some b =>
    have hp := List.getElem?_eq_some_iff.mp e
    have hb := hT p hp.1
    rw [hp.2] at hb
    dsimp only
    rw [propext (nI_eq (show b < 2 ^ 31 by omega) (show c < 2 ^ 31 by omega))]
    exact propext ⟨fun q => by rw [q], fun q => by cases q; rfl⟩
theorem tp_b {σ : St} {T : List Nat} (h : TPs σ T) : ∀ i (hi : i < T.length), T[i] < 256 := fun i hi => (h.2.2.2 i hi).2
theorem bl_l {d : Nat} {Q : Option PV → St → Prop} {σ0 : St} {T : List Nat} {E : Nat} (h : TPs σ0 T) (hQ : ∀ σ', Fm I7 noL σ0 σ' → rI σ' 97 7 = nI E → Q none σ') : ∀ f p σ, T.length ≤ p + f → p ≤ T.length → Fm I7 noL σ0 σ → rI σ 97 7 = nI p → runT isBl T f p = E → At (d + 1) kX9_blanks 0 [vR 97 9] [] σ Q := by
  intro f
  induction f with
  | zero =>
    intro p σ hf hp hm ha he
    have hT := TPs_fm h hm rfl (fun _ => rfl)
    have h60 := hT.2.2.1
    have hn : T[p]? = none := List.getElem?_eq_none (by omega)
    have e32 := btI_n (p := p) (tp_b h) (c := 32) (by decide)
    have e32' : (btI T p = (32 : Int32)) = False := by rw [show (32 : Int32) = nI 32 from rfl, e32, hn]; exact eq_false (fun q => by cases q)
    have he' : p = E := he
    simp (disch := first | exact is2I | exact is2R | omega) only [z_X9_blanks_0, z_X9_blanks_1, z_X9_blanks_2, z_X9_blanks_5, z_X9_blanks_8, z_X9_blanks_10, z_X9_blanks_26, ha, m_byteAt hT (show p < 1000 by omega), e32', true_and, Option.toList_some, Option.toList_none, List.cons_append, List.nil_append, is2IT, is2RT, if_true, if_false]
    exact hQ σ hm (by rw [ha, he'])
  | succ f ih =>
    intro p σ hf hp hm ha he
    have hT := TPs_fm h hm rfl (fun _ => rfl)
    have h60 := hT.2.2.1
    have e32 := btI_n (p := p) (tp_b h) (c := 32) (by decide)
    have e32' : (btI T p = (32 : Int32)) = (T[p]? = some 32) := e32
    have he' : (match T[p]? with | none => p | some b => if isBl b = true then runT isBl T f (p + 1) else p) = E := he
    simp (disch := first | exact is2I | exact is2R | omega) only [z_X9_blanks_0, z_X9_blanks_1, z_X9_blanks_2, z_X9_blanks_5, z_X9_blanks_8, z_X9_blanks_10, ha, m_byteAt hT (show p < 1000 by omega), e32', true_and, Option.toList_some, Option.toList_none, List.cons_append, List.nil_append, is2IT, is2RT, if_true, if_false]
    by_cases c : T[p]? = some 32
    · rw [if_pos c]
      rw [c] at he'
      have hpl := (List.getElem?_eq_some_iff.mp c).1
      simp (disch := first | exact is2I | exact is2R | omega) only [z_X9_blanks_13, z_X9_blanks_14, z_X9_blanks_15, z_X9_blanks_18, z_X9_blanks_19, z_X9_blanks_20, ha, kAL, true_and, Option.toList_some, Option.toList_none, List.cons_append, List.nil_append, is2IT, is2RT, if_true, if_false]
      rw [z_X9_blanks_23]
      exact ih (p + 1) _ (by omega) (by omega) (Fm_tr hm (Fm_wI rfl)) (by rw [rI_wI, if_pos ⟨rfl, rfl⟩]) he'
    · rw [if_neg c]
      simp only [z_X9_blanks_26, true_and, Option.toList_some, Option.toList_none, List.cons_append, List.nil_append, is2IT, is2RT, if_true, if_false]
      refine hQ σ hm ?_
      rw [ha, ← he']
      cases e : T[p]? with
      | none => rfl
      | some b =>
        dsimp only
        rw [if_neg (fun q => c (by rw [e, of_decide_eq_true q]))]
theorem m_blanks {d p : Nat} {Q : Option PV → St → Prop} {σ : St} {T : List Nat} (h : TPs σ T) (hp : p ≤ T.length) (ha : rI σ 97 7 = nI p) (hQ : ∀ σ', Fm I7 noL σ σ' → rI σ' 97 7 = nI (skp T p) → Q none σ') : Ca (d + 2) 143 [vR 97 9] σ Q := by
  rw [ca_at (K := kX9_blanks) (ls := [vR 97 9]) rfl rfl rfl]
  exact bl_l (d := d) h hQ 61 p σ (by have := h.2.2.1; omega) hp Fm_rf ha rfl
def I89 (a i : Nat) : Bool := a.beq 97 && (i.beq 8 || i.beq 9)
theorem m_wrong {d a : Nat} {Q : Option PV → St → Prop} {σ : St} (h : rI σ 97 8 = 0) (hQ : ∀ σ', Fm I89 noL σ σ' → rI σ' 97 8 = 1 → rI σ' 97 9 = nI a → Q none σ') : Ca (d + 1) 144 [vR 97 9, vI (nI a)] σ Q := by
  rw [ca_at (K := kX9_wrong) (ls := [vR 97 9, vI (nI a)]) rfl rfl rfl]
  have nk : narOK 2 1 = true := rfl
  simp (disch := first | exact is2I | exact is2R | omega) only [z_X9_wrong_0, z_X9_wrong_1, z_X9_wrong_4, z_X9_wrong_7, z_X9_wrong_8, z_X9_wrong_9, z_X9_wrong_10, z_X9_wrong_13, z_X9_wrong_14, z_X9_wrong_15, z_X9_wrong_18, h, nk, true_and, Option.toList_some, Option.toList_none, List.cons_append, List.nil_append, is2IT, is2RT, if_true, if_false]
  exact hQ _ (Fm_tr (Fm_wI rfl) (Fm_wI rfl)) (by rw [rI_wI, if_neg (by decide), rI_wI, if_pos ⟨rfl, rfl⟩]) (by rw [rI_wI, if_pos ⟨rfl, rfl⟩])
/-- letter i of a word from a to b is l (0: there is none) -/
def ltAt (T : List Nat) (a b i l : Nat) : Bool := if l = 0 then decide (b ≤ a + i) else decide (a + i < b ∧ T[a + i]? = some l)
theorem m_isLetter {d a b i l : Nat} {Q : Option PV → St → Prop} {σ : St} {T : List Nat} (h : TPs σ T) (hb : rI σ 97 7 = nI b) (ha : a ≤ 60) (hb6 : b ≤ 60) (hi : i < 10) (hl : l < 256) : Ca (d + 2) 145 [vR 97 9, vI (nI a), vI (nI i), vI (nI l)] σ Q ↔ Q (some (vI (b2 (ltAt T a b i l = true)))) σ := by
  have el := btI_n (p := a + i) (tp_b h) hl
  rw [ca_at (K := kX9_isLetter) (ls := [vR 97 9, vI (nI a), vI (nI i), vI (nI l)]) rfl rfl rfl]
  unfold ltAt
  by_cases c0 : l = 0
  · subst c0
    simp (disch := first | exact is2I | exact is2R | omega) only [z_X9_isLetter_0, z_X9_isLetter_1, z_X9_isLetter_4, z_X9_isLetter_5, z_X9_isLetter_6, z_X9_isLetter_7, z_X9_isLetter_8, z_X9_isLetter_11, z_X9_isLetter_14, z_X9_isLetter_15, z_X9_isLetter_18, z_X9_isLetter_19, z_X9_isLetter_22, z_X9_isLetter_23, z_X9_isLetter_24, z_X9_isLetter_25, z_X9_isLetter_26, z_X9_isLetter_29, z_X9_isLetter_32, z_X9_isLetter_33, z_X9_isLetter_34, z_X9_isLetter_35, z_X9_isLetter_36, z_X9_isLetter_39, z_X9_isLetter_40, z_X9_isLetter_43, z_X9_isLetter_44, z_X9_isLetter_47, z_X9_isLetter_48, kEL, hb, nI_add, kLt, rk_b0, rk_b1, true_and, Option.toList_some, Option.toList_none, List.cons_append, List.nil_append, is2IT, is2RT, if_true, if_false]
    by_cases c : a + i < b
    · rw [if_pos c, b2_f (fun q => absurd (of_decide_eq_true q) (Nat.not_le.mpr c))]
    · rw [if_neg c, b2_t (decide_eq_true (Nat.le_of_not_lt c))]
  · simp (disch := first | exact is2I | exact is2R | omega) only [z_X9_isLetter_0, z_X9_isLetter_1, z_X9_isLetter_4, z_X9_isLetter_5, z_X9_isLetter_6, z_X9_isLetter_7, z_X9_isLetter_8, z_X9_isLetter_11, z_X9_isLetter_14, z_X9_isLetter_15, z_X9_isLetter_18, z_X9_isLetter_19, z_X9_isLetter_22, z_X9_isLetter_23, z_X9_isLetter_24, z_X9_isLetter_25, z_X9_isLetter_26, z_X9_isLetter_29, z_X9_isLetter_32, z_X9_isLetter_33, z_X9_isLetter_34, z_X9_isLetter_35, z_X9_isLetter_36, z_X9_isLetter_39, z_X9_isLetter_40, z_X9_isLetter_43, z_X9_isLetter_44, z_X9_isLetter_47, z_X9_isLetter_48, kEL, c0, hb, nI_add, kLe, m_byteAt h (show a + i < 1000 by omega), el, rk_b0, rk_b1, true_and, Option.toList_some, Option.toList_none, List.cons_append, List.nil_append, is2IT, is2RT, if_true, if_false]
    by_cases c : b ≤ a + i
    · rw [if_pos c, b2_f (fun q => by have := (of_decide_eq_true q).1; omega)]
    · rw [if_neg c]
      by_cases c2 : T[a + i]? = some l
      · rw [if_pos c2, b2_t (decide_eq_true ⟨by omega, c2⟩)]
      · rw [if_neg c2, b2_f (fun q => c2 (of_decide_eq_true q).2)]
def isW (T : List Nat) (a b l0 l1 l2 l3 l4 : Nat) : Bool := decide (b - a ≤ 5) && (ltAt T a b 0 l0 && (ltAt T a b 1 l1 && (ltAt T a b 2 l2 && (ltAt T a b 3 l3 && ltAt T a b 4 l4))))
theorem m_isWord {d a b l0 l1 l2 l3 l4 : Nat} {Q : Option PV → St → Prop} {σ : St} {T : List Nat} (h : TPs σ T) (hb : rI σ 97 7 = nI b) (hab : a ≤ b) (hb6 : b ≤ 60) (h0 : l0 < 256) (h1 : l1 < 256) (h2 : l2 < 256) (h3 : l3 < 256) (h4 : l4 < 256) : Ca (d + 3) 146 [vR 97 9, vI (nI a), vI (nI l0), vI (nI l1), vI (nI l2), vI (nI l3), vI (nI l4)] σ Q ↔ Q (some (vI (b2 (isW T a b l0 l1 l2 l3 l4 = true)))) σ := by
  have ml := fun (i l : Nat) (hi : i < 10) (hl : l < 256) => fun Q => @m_isLetter d a b i l Q σ T h hb (by omega) hb6 hi hl
  rw [ca_at (K := kX9_isWord) (ls := [vR 97 9, vI (nI a), vI (nI l0), vI (nI l1), vI (nI l2), vI (nI l3), vI (nI l4)]) rfl rfl rfl]
  have es : nI b - nI a = nI (b - a) := pk_sub hab
  have m0 : ∀ Q, Ca (d + 2) 145 [vR 97 9, vI (nI a), vI 0, vI (nI l0)] σ Q ↔ Q (some (vI (b2 (ltAt T a b 0 l0 = true)))) σ := ml 0 l0 (by decide) h0
  have m1 : ∀ Q, Ca (d + 2) 145 [vR 97 9, vI (nI a), vI 1, vI (nI l1)] σ Q ↔ Q (some (vI (b2 (ltAt T a b 1 l1 = true)))) σ := ml 1 l1 (by decide) h1
  have m2 : ∀ Q, Ca (d + 2) 145 [vR 97 9, vI (nI a), vI 2, vI (nI l2)] σ Q ↔ Q (some (vI (b2 (ltAt T a b 2 l2 = true)))) σ := ml 2 l2 (by decide) h2
  have m3 : ∀ Q, Ca (d + 2) 145 [vR 97 9, vI (nI a), vI 3, vI (nI l3)] σ Q ↔ Q (some (vI (b2 (ltAt T a b 3 l3 = true)))) σ := ml 3 l3 (by decide) h3
  have m4 : ∀ Q, Ca (d + 2) 145 [vR 97 9, vI (nI a), vI 4, vI (nI l4)] σ Q ↔ Q (some (vI (b2 (ltAt T a b 4 l4 = true)))) σ := ml 4 l4 (by decide) h4
  unfold isW
  simp (disch := first | exact is2I | exact is2R | omega) only [z_X9_isWord_0, z_X9_isWord_1, z_X9_isWord_4, z_X9_isWord_5, z_X9_isWord_6, z_X9_isWord_7, z_X9_isWord_10, z_X9_isWord_11, z_X9_isWord_12, z_X9_isWord_13, z_X9_isWord_14, z_X9_isWord_17, z_X9_isWord_20, z_X9_isWord_21, z_X9_isWord_22, z_X9_isWord_23, z_X9_isWord_24, z_X9_isWord_27, z_X9_isWord_30, z_X9_isWord_31, z_X9_isWord_32, z_X9_isWord_33, z_X9_isWord_35, z_X9_isWord_38, z_X9_isWord_41, z_X9_isWord_42, z_X9_isWord_43, z_X9_isWord_44, z_X9_isWord_46, z_X9_isWord_49, z_X9_isWord_52, z_X9_isWord_53, z_X9_isWord_54, z_X9_isWord_55, z_X9_isWord_57, z_X9_isWord_60, z_X9_isWord_63, z_X9_isWord_64, z_X9_isWord_67, z_X9_isWord_68, hb, es, kLLt, m0, m1, m2, m3, m4, b2_0, rk_b0, rk_b1, true_and, Option.toList_some, Option.toList_none, List.cons_append, List.nil_append, is2IT, is2RT, if_true, if_false]
  by_cases c : 5 < b - a
  · rw [if_pos c, decide_eq_false (show ¬ b - a ≤ 5 by omega), Bool.false_and]; rfl
  · rw [if_neg c, decide_eq_true (show b - a ≤ 5 by omega), Bool.true_and]
    cases ltAt T a b 0 l0 with
    | false => simp only [Bool.false_eq_true, not_false_eq_true, if_true, Bool.false_and]; exact Iff.rfl
    | true =>
      cases ltAt T a b 1 l1 with
      | false => simp only [Bool.false_eq_true, not_false_eq_true, not_true_eq_false, if_true, if_false, Bool.false_and, Bool.and_false]; exact Iff.rfl
      | true =>
        cases ltAt T a b 2 l2 with
        | false => simp only [Bool.false_eq_true, not_false_eq_true, not_true_eq_false, if_true, if_false, Bool.false_and, Bool.and_false]; exact Iff.rfl
        | true =>
          cases ltAt T a b 3 l3 with
          | false => simp only [Bool.false_eq_true, not_false_eq_true, not_true_eq_false, if_true, if_false, Bool.false_and, Bool.and_false]; exact Iff.rfl
          | true =>
            cases ltAt T a b 4 l4 with
            | false => simp only [Bool.false_eq_true, not_false_eq_true, not_true_eq_false, if_true, if_false, Bool.and_false]; exact Iff.rfl
            | true => simp only [not_true_eq_false, if_false, Bool.and_self]; exact Iff.rfl
