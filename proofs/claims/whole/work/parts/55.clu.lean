/-! ===== clusters come into the tree: the reference ===== -/
abbrev Jst : Type := Option (Nat × Nat × Nat)
def cmn (C : List Nat) (a b : Nat) : Nat := pop7 (C.getD a 0 &&& C.getD b 0)
def jst1 (C : List Nat) (t a b : Nat) (s : Jst) : Jst := if (!t.testBit a && t.testBit b) = true then (match s with
  | none => some (a, cmn C a b, b)
  | some e => if cmn C a b ≤ e.2.1 then some e else some (a, cmn C a b, b)) else s
def jsI (C : List Nat) (t a : Nat) : Nat → Nat → Jst → Jst
  | 0, _, s => s
  | r + 1, b, s => jsI C t a r (b + 1) (jst1 C t a b s)
def jsO (C : List Nat) (t : Nat) : Nat → Nat → Jst → Jst
  | 0, _, s => s
  | r + 1, a, s => jsO C t r (a + 1) (jsI C t a C.length 0 s)
def jsS (C : List Nat) (t : Nat) : Jst := jsO C t C.length 0 none
def groR (C : List Nat) : Nat → Nat → (Nat → Option Nat) → (Nat → Option Nat)
  | 0, _, J => J
  | r + 1, t, J => match jsS C t with
    | none => J
    | some e => groR C r (t ||| 2 ^ e.1) (fun i => if i = e.1 then some e.2.2 else J i)
def JN (C : List Nat) : Nat → Option Nat := groR C (C.length - 1) 1 (fun _ => none)
def I114 (a _i : Nat) : Bool := a.beq 114
def jOne (s : Jst) : Int32 := match s with
  | none => -1
  | some e => nI e.1
def jMost (s : Jst) : Int32 := match s with
  | none => -1
  | some e => nI e.2.1
/-- what is known while a tree t grows: of nodes in it their join; of the one chosen its -/
def JI (σ0 σ : St) (C : List Nat) (t : Nat) (s : Jst) : Prop := Fm I114 noL σ0 σ ∧ (∀ x, t.testBit x = true → rI σ 114 x = rI σ0 114 x) ∧ ∀ e, s = some e → e.1 < C.length ∧ e.2.1 ≤ 7 ∧ e.2.2 < C.length ∧ t.testBit e.1 = false ∧ rI σ 114 e.1 = nI e.2.2
theorem and128 {x y : Nat} (hx : x < 128) : x &&& y < 128 := Nat.lt_of_le_of_lt Nat.and_le_left hx
theorem CS9_fm {σ σ' : St} {C : List Nat} (h : rI σ 97 28 = nI C.length ∧ C.length ≤ 7 ∧ ∀ j (h : j < C.length), rI σ 113 j = nI C[j] ∧ C[j] < 128) (hf : Fm I114 noL σ σ') : rI σ' 97 28 = nI C.length ∧ C.length ≤ 7 ∧ ∀ j (h : j < C.length), rI σ' 113 j = nI C[j] ∧ C[j] < 128 := ⟨by rw [hf.1 97 28 rfl]; exact h.1, h.2.1, fun j hj => by rw [hf.1 113 j rfl]; exact h.2.2 j hj⟩
theorem jn_l1 {d t a : Nat} {Q : Option PV → St → Prop} {σ0 : St} {C : List Nat} {l2 : PV} {sE : Jst} (hF0 : MF σ0) (hC0 : rI σ0 97 28 = nI C.length ∧ C.length ≤ 7 ∧ ∀ j (h : j < C.length), rI σ0 113 j = nI C[j] ∧ C[j] < 128) (ht : t < 128) (ha : a < C.length)
    (hQ : ∀ σ' l7, JI σ0 σ' C t sE → At (d + 1) kX9_cluster 224 [vR 97 9, vI (nI t), l2, vI (jOne sE), vI (jMost sE), vI (nI a), vI (nI C.length), l7] [] σ' Q) : ∀ r b σ s l7, b + r = C.length → JI σ0 σ C t s → jsI C t a r b s = sE → is2 l2 = false → At (d + 1) kX9_cluster 145 [vR 97 9, vI (nI t), l2, vI (jOne s), vI (jMost s), vI (nI a), vI (nI b), l7] [] σ Q
  | 0, b, σ, s, l7, hb, hJ, he, h2 => by
    have hC := CS9_fm hC0 hJ.1
    have hF := MF_of hF0 hJ.1.2.2.1 hJ.1.2.2.2.1
    have h7 := hC.2.1
    have : b = C.length := by omega
    subst this
    have he' : s = sE := he
    subst he'
    simp (disch := first | exact is2I | exact is2R | omega) only [z_X9_cluster_145, z_X9_cluster_147, z_X9_cluster_148, z_X9_cluster_151, hC.1, kLe, Nat.le_refl, true_and, Option.toList_some, Option.toList_none, List.cons_append, List.nil_append, is2IT, is2RT, if_true, if_false]
    exact hQ σ l7 hJ
  | r + 1, b, σ, s, l7, hb, hJ, he, h2 => by
    have hC := CS9_fm hC0 hJ.1
    have hF := MF_of hF0 hJ.1.2.2.1 hJ.1.2.2.2.1
    have h7 := hC.2.1
    have hbl : b < C.length := by omega
    have c : ¬ C.length ≤ b := by omega
    obtain ⟨x1, x2⟩ := hC.2.2 a ha
    obtain ⟨y1, y2⟩ := hC.2.2 b hbl
    have ev : nI b + (1 : Int32) = nI (b + 1) := nI_add b 1
    have hcm : cmn C a b = pop7 (C[a] &&& C[b]) := by
      unfold cmn
      rw [List.getD_eq_getElem?_getD, List.getD_eq_getElem?_getD, List.getElem?_eq_getElem ha, List.getElem?_eq_getElem hbl]; rfl
    have hp := pop7_le _ (and128 (y := C[b]) x2)
    have he' : jsI C t a r (b + 1) (jst1 C t a b s) = sE := he
    have nx : ∀ σ1 l7, JI σ0 σ1 C t (jst1 C t a b s) → At (d + 1) kX9_cluster 218 [vR 97 9, vI (nI t), l2, vI (jOne (jst1 C t a b s)), vI (jMost (jst1 C t a b s)), vI (nI a), vI (nI b), l7] [] σ1 Q := fun σ1 l7 q => by
      simp (disch := first | exact is2I | exact is2R | omega) only [z_X9_cluster_218, ev, true_and, Option.toList_some, Option.toList_none, List.cons_append, List.nil_append, is2IT, is2RT, if_true, if_false]
      rw [z_X9_cluster_221]
      exact jn_l1 hF0 hC0 ht ha hQ r (b + 1) σ1 _ l7 (by omega) q he' h2
    have same : jst1 C t a b s = s → ∀ l7, At (d + 1) kX9_cluster 218 [vR 97 9, vI (nI t), l2, vI (jOne s), vI (jMost s), vI (nI a), vI (nI b), l7] [] σ Q := fun q l7 => by
      rw [q] at nx
      exact nx σ l7 hJ
    simp (disch := first | exact is2I | exact is2R | omega) only [z_X9_cluster_145, z_X9_cluster_147, z_X9_cluster_148, z_X9_cluster_151, z_X9_cluster_154, z_X9_cluster_155, z_X9_cluster_158, z_X9_cluster_160, z_X9_cluster_161, z_X9_cluster_162, z_X9_cluster_165, z_X9_cluster_167, z_X9_cluster_168, z_X9_cluster_169, z_X9_cluster_172, z_X9_cluster_174, z_X9_cluster_175, z_X9_cluster_177, z_X9_cluster_180, z_X9_cluster_183, z_X9_cluster_184, z_X9_cluster_186, z_X9_cluster_189, mf_r1 hF, mf_r2 hF, mf_r3 hF, mf_r5 hF, mf_r10 hF, mf_r11 hF, mf_r13 hF, mf_r15 hF, mf_r16 hF, mf_r19 hF, mf_r21 hF, mf_r22 hF, mf_r23 hF, mf_r24 hF, mf_r25 hF, mf_r26 hF, mf_r27 hF, mf_r29 hF, mf_r30 hF, mf_r31 hF, mf_r32 hF, mf_s98 hF, mf_s99 hF, mf_s100 hF, mf_s101 hF, mf_s102 hF, mf_s103 hF, mf_s104 hF, mf_s105 hF, mf_s106 hF, mf_s107 hF, mf_s108 hF, mf_s109 hF, mf_s110 hF, mf_s111 hF, mf_s112 hF, mf_s113 hF, mf_s114 hF, mf_s115 hF, mf_s116 hF, mf_s117 hF, mf_s118 hF, hC.1, kLe, c, kIn, kCl, x1, y1, kAnd, m_bits (and128 (y := C[b]) x2), m_has (show t < 2 ^ 31 by omega) (show a < 31 by omega), m_has (show t < 2 ^ 31 by omega) (show b < 31 by omega), b2_0, true_and, Option.toList_some, Option.toList_none, List.cons_append, List.nil_append, is2IT, is2RT, if_true, if_false]
    cases e1 : t.testBit a with
    | true =>
      simp only [not_true_eq_false, if_false]
      exact same (by unfold jst1; rw [e1, if_neg (fun q => by cases q)]) _
    | false =>
      simp only [Bool.false_eq_true, not_false_eq_true, if_true]
      cases e2 : t.testBit b with
      | false =>
        simp only [Bool.false_eq_true, not_false_eq_true, if_true]
        exact same (by unfold jst1; rw [e1, e2, if_neg (fun q => by cases q)]) _
      | true =>
        simp only [not_true_eq_false, if_false]
        have take : jst1 C t a b s = some (a, cmn C a b, b) → At (d + 1) kX9_cluster 202 [vR 97 9, vI (nI t), l2, vI (jOne s), vI (jMost s), vI (nI a), vI (nI b), vI (nI (pop7 (C[a] &&& C[b])))] [] σ Q := fun q => by
          rw [q] at nx
          simp (disch := first | exact h2 | exact is2I | omega) only [z_X9_cluster_202, z_X9_cluster_204, z_X9_cluster_205, z_X9_cluster_207, z_X9_cluster_209, z_X9_cluster_210, z_X9_cluster_213, z_X9_cluster_215, z_X9_cluster_217, mf_r1 hF, mf_r2 hF, mf_r3 hF, mf_r5 hF, mf_r10 hF, mf_r11 hF, mf_r13 hF, mf_r15 hF, mf_r16 hF, mf_r19 hF, mf_r21 hF, mf_r22 hF, mf_r23 hF, mf_r24 hF, mf_r25 hF, mf_r26 hF, mf_r27 hF, mf_r29 hF, mf_r30 hF, mf_r31 hF, mf_r32 hF, mf_s98 hF, mf_s99 hF, mf_s100 hF, mf_s101 hF, mf_s102 hF, mf_s103 hF, mf_s104 hF, mf_s105 hF, mf_s106 hF, mf_s107 hF, mf_s108 hF, mf_s109 hF, mf_s110 hF, mf_s111 hF, mf_s112 hF, mf_s113 hF, mf_s114 hF, mf_s115 hF, mf_s116 hF, mf_s117 hF, mf_s118 hF, kIn, kCl, true_and, Option.toList_some, Option.toList_none, List.cons_append, List.nil_append, is2IT, is2RT, if_true, if_false]
          have n2 := nx (wI σ 114 a (nI b)) (vI (nI (pop7 (C[a] &&& C[b])))) ⟨Fm_tr hJ.1 (Fm_wI rfl), fun x hx => ?_, fun e q => ?_⟩
          · have n3 : At (d + 1) kX9_cluster 218 [vR 97 9, vI (nI t), l2, vI (nI a), vI (nI (cmn C a b)), vI (nI a), vI (nI b), vI (nI (pop7 (C[a] &&& C[b])))] [] (wI σ 114 a (nI b)) Q := n2
            rw [hcm] at n3
            exact n3
          · rw [rI_wI, if_neg (fun q => by rw [q.2, e1] at hx; cases hx)]
            exact hJ.2.1 x hx
          · cases q
            exact ⟨ha, by rw [hcm]; exact hp, hbl, e1, by rw [rI_wI, if_pos ⟨rfl, rfl⟩]⟩
        cases s with
        | none =>
          have k1 : ¬ (nI (pop7 (C[a] &&& C[b])) ≤ (-1 : Int32)) := fun q => by
            rw [Int32.le_iff_toInt_le, nI_toInt (by omega)] at q
            have : (-1 : Int32).toInt = -1 := by decide
            omega
          have k2 : ((-1 : Int32) < nI (pop7 (C[a] &&& C[b]))) := Int32.not_le.mp k1
          have tk := take (by unfold jst1; rw [e1, e2, if_pos (show (!false && true) = true from rfl)])
          have tk' : At (d + 1) kX9_cluster 202 [vR 97 9, vI (nI t), l2, vI (-1), vI (-1), vI (nI a), vI (nI b), vI (nI (pop7 (C[a] &&& C[b])))] [] σ Q := tk
          show At (d + 1) kX9_cluster 192 [vR 97 9, vI (nI t), l2, vI (-1), vI (-1), vI (nI a), vI (nI b), vI (nI (pop7 (C[a] &&& C[b])))] [] σ Q
          simp (disch := first | exact is2I | exact is2R | omega) only [z_X9_cluster_192, z_X9_cluster_194, z_X9_cluster_196, k2, true_and, Option.toList_some, Option.toList_none, List.cons_append, List.nil_append, is2IT, is2RT, if_true, if_false]
          exact tk'
        | some e =>
          have hb7 := (hJ.2.2 e rfl).2.1
          show At (d + 1) kX9_cluster 192 [vR 97 9, vI (nI t), l2, vI (nI e.1), vI (nI e.2.1), vI (nI a), vI (nI b), vI (nI (pop7 (C[a] &&& C[b])))] [] σ Q
          simp (disch := first | exact is2I | exact is2R | omega) only [z_X9_cluster_192, z_X9_cluster_194, z_X9_cluster_196, z_X9_cluster_199, kLt, true_and, Option.toList_some, Option.toList_none, List.cons_append, List.nil_append, is2IT, is2RT, if_true, if_false]
          by_cases c3 : e.2.1 < pop7 (C[a] &&& C[b])
          · rw [if_pos c3]
            exact take (by unfold jst1; rw [e1, e2, if_pos (show (!false && true) = true from rfl)]; dsimp only; rw [if_neg (by rw [hcm]; omega)])
          · rw [if_neg c3]
            exact same (by unfold jst1; rw [e1, e2, if_pos (show (!false && true) = true from rfl)]; dsimp only; rw [if_pos (by rw [hcm]; omega)]) _
theorem jn_l2 {d t : Nat} {Q : Option PV → St → Prop} {σ0 : St} {C : List Nat} {l2 : PV} {sE : Jst} (hF0 : MF σ0) (hC0 : rI σ0 97 28 = nI C.length ∧ C.length ≤ 7 ∧ ∀ j (h : j < C.length), rI σ0 113 j = nI C[j] ∧ C[j] < 128) (ht : t < 128)
    (hQ : ∀ σ' l6 l7, JI σ0 σ' C t sE → At (d + 1) kX9_cluster 230 [vR 97 9, vI (nI t), l2, vI (jOne sE), vI (jMost sE), vI (nI C.length), l6, l7] [] σ' Q) : ∀ r a σ s l6 l7, a + r = C.length → JI σ0 σ C t s → jsO C t r a s = sE → is2 l2 = false → At (d + 1) kX9_cluster 133 [vR 97 9, vI (nI t), l2, vI (jOne s), vI (jMost s), vI (nI a), l6, l7] [] σ Q
  | 0, a, σ, s, l6, l7, hb, hJ, he, h2 => by
    have hC := CS9_fm hC0 hJ.1
    have h7 := hC.2.1
    have : a = C.length := by omega
    subst this
    have he' : s = sE := he
    subst he'
    simp (disch := first | exact is2I | exact is2R | omega) only [z_X9_cluster_133, z_X9_cluster_135, z_X9_cluster_136, z_X9_cluster_139, hC.1, kLe, Nat.le_refl, true_and, Option.toList_some, Option.toList_none, List.cons_append, List.nil_append, is2IT, is2RT, if_true, if_false]
    exact hQ σ l6 l7 hJ
  | r + 1, a, σ, s, l6, l7, hb, hJ, he, h2 => by
    have hC := CS9_fm hC0 hJ.1
    have h7 := hC.2.1
    have c : ¬ C.length ≤ a := by omega
    have ev : nI a + (1 : Int32) = nI (a + 1) := nI_add a 1
    have he' : jsO C t r (a + 1) (jsI C t a C.length 0 s) = sE := he
    simp (disch := first | exact is2I | exact is2R | omega) only [z_X9_cluster_133, z_X9_cluster_135, z_X9_cluster_136, z_X9_cluster_139, z_X9_cluster_142, z_X9_cluster_143, hC.1, kLe, c, true_and, Option.toList_some, Option.toList_none, List.cons_append, List.nil_append, is2IT, is2RT, if_true, if_false]
    refine jn_l1 (sE := jsI C t a C.length 0 s) hF0 hC0 ht (by omega) (fun σ' l7 q => ?_) C.length 0 σ s l7 (by omega) hJ rfl h2
    simp (disch := first | exact is2I | exact is2R | omega) only [z_X9_cluster_224, ev, true_and, Option.toList_some, Option.toList_none, List.cons_append, List.nil_append, is2IT, is2RT, if_true, if_false]
    rw [z_X9_cluster_227]
    exact jn_l2 hF0 hC0 ht hQ r (a + 1) σ' _ _ l7 (by omega) q he' h2
theorem jst1_s {C : List Nat} {t a b : Nat} {s : Jst} (h : s ≠ none) : jst1 C t a b s ≠ none := by
  unfold jst1
  split
  · split
    · exact fun q => by cases q
    · split <;> exact fun q => by cases q
  · exact h
theorem jsI_s {C : List Nat} {t a : Nat} : ∀ r b s, s ≠ none → jsI C t a r b s ≠ none
  | 0, _, _, h => h
  | r + 1, b, s, h => jsI_s r (b + 1) _ (jst1_s h)
theorem jsO_s {C : List Nat} {t : Nat} : ∀ r a s, s ≠ none → jsO C t r a s ≠ none
  | 0, _, _, h => h
  | r + 1, a, s, h => jsO_s r (a + 1) _ (jsI_s _ _ _ h)
theorem jsI_x {C : List Nat} {t a b0 : Nat} (h1 : t.testBit a = false) (h2 : t.testBit b0 = true) : ∀ r b s, b ≤ b0 → b0 < b + r → jsI C t a r b s ≠ none
  | 0, b, _, h, h3 => by omega
  | r + 1, b, s, h, h3 => by
    by_cases c : b = b0
    · refine jsI_s r (b + 1) _ ?_
      unfold jst1
      rw [c, h1, h2, if_pos (show (!false && true) = true from rfl)]
      split
      · exact fun q => by cases q
      · split <;> exact fun q => by cases q
    · exact jsI_x h1 h2 r (b + 1) _ (by omega) (by omega)
theorem jsO_x {C : List Nat} {t a0 b0 : Nat} (h1 : t.testBit a0 = false) (h2 : t.testBit b0 = true) (hb : b0 < C.length) : ∀ r a s, a ≤ a0 → a0 < a + r → jsO C t r a s ≠ none
  | 0, a, _, h, h3 => by omega
  | r + 1, a, s, h, h3 => by
    by_cases c : a = a0
    · refine jsO_s r (a + 1) _ ?_
      rw [c]
      exact jsI_x h1 h2 C.length 0 s (Nat.zero_le _) (by omega)
    · exact jsO_x h1 h2 hb r (a + 1) _ (by omega) (by omega)
theorem unseen_1' : ∀ m, m < 8 → 0 < m → unseen 1 m = m - 1 := by decide
def CJ (σ : St) (C : List Nat) (t : Nat) (J : Nat → Option Nat) : Prop := (rI σ 97 28 = nI C.length ∧ C.length ≤ 7 ∧ ∀ j (h : j < C.length), rI σ 113 j = nI C[j] ∧ C[j] < 128) ∧ ∀ x, x < C.length → (t.testBit x = true → rI σ 114 x = oI (J x) ∧ ∀ b, J x = some b → b < C.length)
theorem gr_l {d : Nat} {Q : Option PV → St → Prop} {σ0 : St} {C : List Nat} {JE : Nat → Option Nat} (hF0 : MF σ0) (h0 : 0 < C.length)
    (hQ : ∀ σ', Fm I114 noL σ0 σ' → (∀ x, x < C.length → rI σ' 114 x = oI (JE x) ∧ ∀ b, JE x = some b → b < C.length) → (∀ j (h : j < C.length), rI σ' 113 j = nI C[j] ∧ C[j] < 128) → Q none σ') : ∀ r k σ t J l3 l4 l5 l6 l7, k + r = C.length → unseen t C.length = r → t < 128 → t.testBit 0 = true → Fm I114 noL σ0 σ → CJ σ C t J → groR C r t J = JE → At (d + 1) kX9_cluster 117 [vR 97 9, vI (nI t), vI (nI k), l3, l4, l5, l6, l7] [] σ Q
  | 0, k, σ, t, J, l3, l4, l5, l6, l7, hk, hu, ht, ht0, hf, hC, he => by
    have h7 := hC.1.2.1
    have : k = C.length := by omega
    subst this
    have he' : J = JE := he
    subst he'
    simp (disch := first | exact is2I | exact is2R | omega) only [z_X9_cluster_117, z_X9_cluster_118, z_X9_cluster_119, z_X9_cluster_122, z_X9_cluster_242, hC.1.1, kLe, Nat.le_refl, true_and, Option.toList_some, Option.toList_none, List.cons_append, List.nil_append, is2IT, is2RT, if_true, if_false]
    refine hQ σ hf (fun x hx => hC.2 x hx ?_) hC.1.2.2
    cases e : t.testBit x with
    | true => rfl
    | false =>
      have hm : x ∈ (List.range' 0 C.length).filter fun y => !t.testBit y := List.mem_filter.mpr ⟨List.mem_range'_1.mpr ⟨Nat.zero_le _, by omega⟩, by rw [e]; rfl⟩
      have := List.length_pos_of_mem hm
      unfold unseen at hu
      omega
  | r + 1, k, σ, t, J, l3, l4, l5, l6, l7, hk, hu, ht, ht0, hf, hC, he => by
    have h7 := hC.1.2.1
    have c : ¬ C.length ≤ k := by omega
    have ev : nI k + (1 : Int32) = nI (k + 1) := nI_add k 1
    obtain ⟨x, x1, x2⟩ := unseen_ex (g := t) (m := C.length) (by omega)
    have hne := jsO_x (C := C) x2 ht0 h0 C.length 0 none (Nat.zero_le _) (by omega)
    have hF := MF_of hF0 hf.2.2.1 hf.2.2.2.1
    cases ej : jsS C t with
    | none => exact absurd ej hne
    | some e =>
      have he' : groR C r (t ||| 2 ^ e.1) (fun i => if i = e.1 then some e.2.2 else J i) = JE := by
        have : groR C (r + 1) t J = groR C r (t ||| 2 ^ e.1) (fun i => if i = e.1 then some e.2.2 else J i) := by
          show (match jsS C t with | none => J | some e => groR C r (t ||| 2 ^ e.1) (fun i => if i = e.1 then some e.2.2 else J i)) = _
          rw [ej]
        rw [← this]; exact he
      simp (disch := first | exact is2I | exact is2R | omega) only [z_X9_cluster_117, z_X9_cluster_118, z_X9_cluster_119, z_X9_cluster_122, z_X9_cluster_125, z_X9_cluster_126, z_X9_cluster_127, z_X9_cluster_128, z_X9_cluster_130, z_X9_cluster_131, hC.1.1, kLe, c, true_and, Option.toList_some, Option.toList_none, List.cons_append, List.nil_append, is2IT, is2RT, if_true, if_false]
      refine jn_l2 (sE := jsS C t) hF hC.1 ht (fun σ' l6 l7 q => ?_) C.length 0 σ none l6 l7 (by omega) ⟨Fm_rf, fun _ _ => rfl, fun e q => by cases q⟩ rfl rfl
      rw [ej] at q
      obtain ⟨q1, q2, q3⟩ := q
      obtain ⟨e1, e2, e3, e4, e5⟩ := q3 e rfl
      rw [ej]
      show At (d + 1) kX9_cluster 230 [vR 97 9, vI (nI t), vI (nI k), vI (nI e.1), vI (nI e.2.1), vI (nI C.length), l6, l7] [] σ' Q
      simp (disch := first | exact is2I | exact is2R | omega) only [z_X9_cluster_230, z_X9_cluster_231, z_X9_cluster_232, z_X9_cluster_233, z_X9_cluster_234, z_X9_cluster_235, z_X9_cluster_236, kShl _ (show e.1 < 31 by omega), kOr, ev, true_and, Option.toList_some, Option.toList_none, List.cons_append, List.nil_append, is2IT, is2RT, if_true, if_false]
      rw [z_X9_cluster_239]
      have hu2 := unseen_d C.length (by omega) t ht e.1 e1 e4
      have tb : ∀ x, (t ||| 2 ^ e.1).testBit x = (t.testBit x || decide (e.1 = x)) := fun x => by rw [Nat.testBit_or, Nat.testBit_two_pow]
      refine gr_l hF0 h0 hQ r (k + 1) σ' _ _ _ _ _ l6 l7 (by omega) (by omega) (or128 ht (by omega)) (by rw [tb, ht0]; rfl) (Fm_tr hf q1) ⟨CS9_fm hC.1 q1, fun x hx hb => ?_⟩ he'
      by_cases cx : x = e.1
      · rw [if_pos cx, cx, e5]
        exact ⟨rfl, fun b q => by cases q; exact e3⟩
      · rw [if_neg cx]
        rw [tb, decide_eq_false (fun q => cx q.symm), Bool.or_false] at hb
        rw [q2 x hb]
        exact hC.2 x hx hb
theorem m_clusters {d : Nat} {Q : Option PV → St → Prop} {N : Net} {σ : St} (h : MI σ N) (hQ : ∀ σ', Sc σ σ' → rI σ' 97 28 = nI (CL N).length → (CL N).length ≤ 7 → (∀ j (h : j < (CL N).length), rI σ' 113 j = nI (CL N)[j] ∧ (CL N)[j] < 128) → (∀ x, x < (CL N).length → rI σ' 114 x = oI (JN (CL N) x) ∧ ∀ b, JN (CL N) x = some b → b < (CL N).length) → Q none σ') : Ca (d + 5) 194 [vR 97 9] σ Q := by
  have h7 := MI_7 h
  rw [ca_at (K := kX9_cluster) (ls := [vR 97 9, vU, vU, vU, vU, vU, vU, vU]) rfl rfl rfl]
  simp only [z_X9_cluster_0, z_X9_cluster_1, true_and, Option.toList_some, Option.toList_none, List.cons_append, List.nil_append, is2IT, is2RT, if_true, if_false]
  refine m_order (d := d) h (fun σ1 q1 q2 q3 q4 => ?_)
  have m1 : MI σ1 N := MI_fm h q1 (fun _ => rfl)
  simp (disch := first | exact is2I | exact is2R | omega) only [z_X9_cluster_4, z_X9_cluster_5, z_X9_cluster_6, z_X9_cluster_9, z_X9_cluster_10, true_and, Option.toList_some, Option.toList_none, List.cons_append, List.nil_append, is2IT, is2RT, if_true, if_false]
  have m2 : MI (wI σ1 97 28 0) N := MI_wI m1 (by decide)
  refine cl_l1 (d := d + 3) (CE := CL N) (L := ordS N) m2 (fun j hj => by rw [rI_wI_n (by decide), rI_wI_n (by decide), rI_wI_n (by decide)]; exact q2 j hj) q3 q4 (fun σ2 l1 l2 l3 q5 q6 => ?_) (nM N) 0 _ [] vU vU (by omega) (Nat.le_refl 0) Fm_rf ⟨by rw [rI_wI, if_pos ⟨rfl, rfl⟩]; rfl, Nat.zero_le _, fun j hj => absurd hj (Nat.not_lt_zero j)⟩ rfl rfl
  have fI : Fm ICL noL σ1 σ2 := Fm_tr (Fm_wI rfl) q5
  have s2 : Sc σ σ2 := Fm_tr (Sc_ilv q1) (Fm_mono fI (fun a i q => by
    unfold ICL at q
    simp only [Bool.or_eq_true, Bool.and_eq_true] at q
    unfold I9
    rcases q with q | q | q
    · have := Nat.eq_of_beq_eq_true q; exact decide_eq_true (by omega)
    · have := Nat.eq_of_beq_eq_true q; exact decide_eq_true (by omega)
    · have := Nat.eq_of_beq_eq_true q.1
      have := Nat.eq_of_beq_eq_true q.2
      exact decide_eq_true (by omega)) (fun a q => by cases q))
  obtain ⟨c1, c2, c3⟩ := q6
  have C0 : rI σ2 97 28 = nI (CL N).length ∧ (CL N).length ≤ 7 ∧ ∀ j (h : j < (CL N).length), rI σ2 113 j = nI (CL N)[j] ∧ (CL N)[j] < 128 := ⟨c1, c2, fun j hj => ⟨(c3 j hj).1, (c3 j hj).2.1⟩⟩
  simp (disch := first | exact is2I | exact is2R | omega) only [z_X9_cluster_113, z_X9_cluster_114, true_and, Option.toList_some, Option.toList_none, List.cons_append, List.nil_append, is2IT, is2RT, if_true, if_false]
  by_cases h0 : (CL N).length = 0
  · have e0 : rI σ2 97 28 = 0 := by rw [c1, h0]; rfl
    have k1 : (0 : Int32) ≤ 1 := by decide
    simp (disch := first | exact is2I | exact is2R | omega) only [z_X9_cluster_115, z_X9_cluster_116, z_X9_cluster_117, z_X9_cluster_118, z_X9_cluster_119, z_X9_cluster_122, z_X9_cluster_242, e0, k1, true_and, Option.toList_some, Option.toList_none, List.cons_append, List.nil_append, is2IT, is2RT, if_true, if_false]
    exact hQ σ2 s2 c1 c2 (fun j hj => by omega) (fun x hx => by omega)
  · simp (disch := first | exact is2I | exact is2R | omega) only [z_X9_cluster_115, z_X9_cluster_116, true_and, Option.toList_some, Option.toList_none, List.cons_append, List.nil_append, is2IT, is2RT, if_true, if_false]
    have hb1 : ∀ x, Nat.testBit 1 x = true → x = 0 := fun x q => by
      rw [show (1 : Nat) = 2 ^ 0 from rfl, Nat.testBit_two_pow] at q
      exact (of_decide_eq_true q).symm
    refine gr_l (d := d + 3) (JE := JN (CL N)) (C := CL N) (σ0 := σ2) (MF_of m2.1 q5.2.2.1 q5.2.2.2.1) (by omega) (fun σ3 q7 q8 q9 => hQ σ3 (Fm_tr s2 (Fm_mono q7 (fun a i q => by
      have := Nat.eq_of_beq_eq_true q
      unfold I9
      exact decide_eq_true (by omega)) (fun a q => by cases q))) (by rw [q7.1 97 28 rfl]; exact c1) c2 q9 q8) ((CL N).length - 1) 1 σ2 1 (fun _ => none) l3 _ _ _ _ (by omega) (unseen_1' _ (by omega) (by omega)) (by decide) rfl Fm_rf ⟨C0, fun x hx hb => ?_⟩ rfl
    exact ⟨by rw [(c3 x hx).2.2]; rfl, fun b q => by cases q⟩
def clusF (N : Net) (k w : Int32) : Int32 := match pN 3 w with
  | none => -2
  | some j => if k = -1 then nI (CL N).length else match pN (CL N).length k with
    | none => -12
    | some i => if j = 0 then nI ((CL N).getD i 0) else if j = 1 then oI (JN (CL N) i) else match JN (CL N) i with
      | none => 0
      | some b => nI ((CL N).getD i 0 &&& (CL N).getD b 0)
theorem i64_2' (a : Int32) : a.toInt64 ≤ (2 : Int64) ↔ a < nI 3 := (i64_le a 2).trans (le_pred (n := a) (m := 3) (by decide))
theorem m_cluster {d : Nat} {Q : Option PV → St → Prop} {N : Net} {σ : St} {k w : Int32} (h : MI σ N) (hQ : ∀ σ', Sc σ σ' → Q (some (vI (clusF N k w))) σ') : Ca (d + 6) 195 [vR 97 9, vI k, vI w] σ Q := by
  have h7 := MI_7 h
  rw [ca_at (K := kX9_cluster_) (ls := [vR 97 9, vI k, vI w]) rfl rfl rfl]
  unfold clusF at hQ
  simp (disch := first | exact is2I | exact is2R | omega) only [z_X9_cluster__0, z_X9_cluster__1, z_X9_cluster__2, z_X9_cluster__3, z_X9_cluster__6, z_X9_cluster__9, m_in, i64_0, i64_2', b2_0, true_and, Option.toList_some, Option.toList_none, List.cons_append, List.nil_append, is2IT, is2RT, if_true, if_false]
  cases hw : pN 3 w with
  | none =>
    rw [hw] at hQ
    rw [if_pos (pN_none.mp hw)]
    simp only [z_X9_cluster__12, z_X9_cluster__14, true_and, Option.toList_some, Option.toList_none, List.cons_append, List.nil_append, is2IT, is2RT, if_true, if_false]
    exact hQ σ Fm_rf
  | some j =>
    rw [hw] at hQ
    obtain ⟨hj, rfl⟩ := (pN_some (by decide)).mp hw
    have hW : 0 ≤ nI j ∧ nI j < nI 3 := (lt_nI (by decide)).mpr ⟨j, hj, rfl⟩
    rw [if_neg (fun q => q hW)]
    simp (disch := first | exact is2I | exact is2R | omega) only [z_X9_cluster__15, z_X9_cluster__16, true_and, Option.toList_some, Option.toList_none, List.cons_append, List.nil_append, is2IT, is2RT, if_true, if_false]
    refine m_clusters (d := d) h (fun σ' q1 q2 q3 q4 q5 => ?_)
    have fin := hQ σ' q1
    have hF := (MI_fm h q1 (fun _ => rfl)).1
    dsimp only at fin
    simp (disch := first | exact is2I | exact is2R | omega) only [z_X9_cluster__19, z_X9_cluster__20, z_X9_cluster__21, z_X9_cluster__24, z_X9_cluster__25, z_X9_cluster__28, q2, true_and, Option.toList_some, Option.toList_none, List.cons_append, List.nil_append, is2IT, is2RT, if_true, if_false]
    by_cases ck : k = -1
    · rw [if_pos ck] at fin ⊢
      exact fin
    · rw [if_neg ck] at fin ⊢
      simp (disch := first | exact is2I | exact is2R | omega) only [z_X9_cluster__29, z_X9_cluster__30, z_X9_cluster__31, z_X9_cluster__32, z_X9_cluster__33, z_X9_cluster__36, z_X9_cluster__37, z_X9_cluster__38, z_X9_cluster__39, z_X9_cluster__42, q2, m_in, i64_0, i64_le, le_pred (show (CL N).length < 2 ^ 30 by omega), b2_0, true_and, Option.toList_some, Option.toList_none, List.cons_append, List.nil_append, is2IT, is2RT, if_true, if_false]
      cases hk : pN (CL N).length k with
      | none =>
        rw [hk] at fin
        rw [if_pos (pN_none.mp hk)]
        simp only [z_X9_cluster__45, z_X9_cluster__47, true_and, Option.toList_some, Option.toList_none, List.cons_append, List.nil_append, is2IT, is2RT, if_true, if_false]
        exact fin
      | some i =>
        rw [hk] at fin
        obtain ⟨hi, rfl⟩ := (pN_some (by omega)).mp hk
        have hK : 0 ≤ nI i ∧ nI i < nI (CL N).length := (lt_nI (by omega)).mpr ⟨i, hi, rfl⟩
        rw [if_neg (fun q => q hK)]
        have gd : ∀ x, (hx : x < (CL N).length) → (CL N).getD x 0 = (CL N)[x] := fun x hx => by rw [List.getD_eq_getElem?_getD, List.getElem?_eq_getElem hx]; rfl
        dsimp only at fin
        rw [gd i hi] at fin
        obtain ⟨a1, a2⟩ := q4 i hi
        obtain ⟨b1, b2⟩ := q5 i hi
        rcases (show j = 0 ∨ j = 1 ∨ j = 2 by omega) with rfl | rfl | rfl
        · have z1 : ¬ (2 ≤ 0) := by decide
          simp (disch := first | exact is2I | exact is2R | omega) only [z_X9_cluster__48, z_X9_cluster__49, z_X9_cluster__50, z_X9_cluster__53, z_X9_cluster__54, z_X9_cluster__57, z_X9_cluster__58, z_X9_cluster__61, z_X9_cluster__62, z_X9_cluster__63, z_X9_cluster__72, mf_r1 hF, mf_r2 hF, mf_r3 hF, mf_r5 hF, mf_r10 hF, mf_r11 hF, mf_r13 hF, mf_r15 hF, mf_r16 hF, mf_r19 hF, mf_r21 hF, mf_r22 hF, mf_r23 hF, mf_r24 hF, mf_r25 hF, mf_r26 hF, mf_r27 hF, mf_r29 hF, mf_r30 hF, mf_r31 hF, mf_r32 hF, mf_s98 hF, mf_s99 hF, mf_s100 hF, mf_s101 hF, mf_s102 hF, mf_s103 hF, mf_s104 hF, mf_s105 hF, mf_s106 hF, mf_s107 hF, mf_s108 hF, mf_s109 hF, mf_s110 hF, mf_s111 hF, mf_s112 hF, mf_s113 hF, mf_s114 hF, mf_s115 hF, mf_s116 hF, mf_s117 hF, mf_s118 hF, kLLe, kEL, z1, kIn, kCl, a1, true_and, Option.toList_some, Option.toList_none, List.cons_append, List.nil_append, is2IT, is2RT, if_true, if_false]
          exact fin
        · have z1 : ¬ (2 ≤ 1) := by decide
          have z2 : ¬ (1 = 0) := by decide
          simp (disch := first | exact is2I | exact is2R | omega) only [z_X9_cluster__48, z_X9_cluster__49, z_X9_cluster__50, z_X9_cluster__53, z_X9_cluster__54, z_X9_cluster__66, z_X9_cluster__67, z_X9_cluster__70, z_X9_cluster__71, z_X9_cluster__72, mf_r1 hF, mf_r2 hF, mf_r3 hF, mf_r5 hF, mf_r10 hF, mf_r11 hF, mf_r13 hF, mf_r15 hF, mf_r16 hF, mf_r19 hF, mf_r21 hF, mf_r22 hF, mf_r23 hF, mf_r24 hF, mf_r25 hF, mf_r26 hF, mf_r27 hF, mf_r29 hF, mf_r30 hF, mf_r31 hF, mf_r32 hF, mf_s98 hF, mf_s99 hF, mf_s100 hF, mf_s101 hF, mf_s102 hF, mf_s103 hF, mf_s104 hF, mf_s105 hF, mf_s106 hF, mf_s107 hF, mf_s108 hF, mf_s109 hF, mf_s110 hF, mf_s111 hF, mf_s112 hF, mf_s113 hF, mf_s114 hF, mf_s115 hF, mf_s116 hF, mf_s117 hF, mf_s118 hF, kLLe, kEL, z1, z2, kIn, kCl, b1, true_and, Option.toList_some, Option.toList_none, List.cons_append, List.nil_append, is2IT, is2RT, if_true, if_false]
          exact fin
        · have z3 : ((2 : Int32) ≤ nI 2) = True := eq_true (by decide)
          cases ej : JN (CL N) i with
          | none =>
            rw [ej, oI_nn] at b1
            rw [ej] at fin
            simp (disch := first | exact is2I | exact is2R | omega) only [z_X9_cluster__48, z_X9_cluster__49, z_X9_cluster__50, z_X9_cluster__73, z_X9_cluster__74, z_X9_cluster__77, z_X9_cluster__78, z_X9_cluster__79, z_X9_cluster__80, z_X9_cluster__83, z_X9_cluster__84, z_X9_cluster__105, mf_r1 hF, mf_r2 hF, mf_r3 hF, mf_r5 hF, mf_r10 hF, mf_r11 hF, mf_r13 hF, mf_r15 hF, mf_r16 hF, mf_r19 hF, mf_r21 hF, mf_r22 hF, mf_r23 hF, mf_r24 hF, mf_r25 hF, mf_r26 hF, mf_r27 hF, mf_r29 hF, mf_r30 hF, mf_r31 hF, mf_r32 hF, mf_s98 hF, mf_s99 hF, mf_s100 hF, mf_s101 hF, mf_s102 hF, mf_s103 hF, mf_s104 hF, mf_s105 hF, mf_s106 hF, mf_s107 hF, mf_s108 hF, mf_s109 hF, mf_s110 hF, mf_s111 hF, mf_s112 hF, mf_s113 hF, mf_s114 hF, mf_s115 hF, mf_s116 hF, mf_s117 hF, mf_s118 hF, z3, kIn, kCl, b1, true_and, Option.toList_some, Option.toList_none, List.cons_append, List.nil_append, is2IT, is2RT, if_true, if_false]
            exact fin
          | some b =>
            have hb := b2 b ej
            obtain ⟨c1, c2⟩ := q4 b hb
            rw [ej, oI_ss] at b1
            rw [ej] at fin
            have fin2 : Q (some (vI (nI ((CL N)[i] &&& (CL N).getD b 0)))) σ' := fin
            rw [gd b hb] at fin2
            simp (disch := first | exact is2I | exact is2R | omega) only [z_X9_cluster__48, z_X9_cluster__49, z_X9_cluster__50, z_X9_cluster__73, z_X9_cluster__74, z_X9_cluster__77, z_X9_cluster__78, z_X9_cluster__79, z_X9_cluster__80, z_X9_cluster__87, z_X9_cluster__88, z_X9_cluster__91, z_X9_cluster__92, z_X9_cluster__93, z_X9_cluster__94, z_X9_cluster__97, z_X9_cluster__98, z_X9_cluster__101, z_X9_cluster__102, z_X9_cluster__103, z_X9_cluster__104, z_X9_cluster__105, mf_r1 hF, mf_r2 hF, mf_r3 hF, mf_r5 hF, mf_r10 hF, mf_r11 hF, mf_r13 hF, mf_r15 hF, mf_r16 hF, mf_r19 hF, mf_r21 hF, mf_r22 hF, mf_r23 hF, mf_r24 hF, mf_r25 hF, mf_r26 hF, mf_r27 hF, mf_r29 hF, mf_r30 hF, mf_r31 hF, mf_r32 hF, mf_s98 hF, mf_s99 hF, mf_s100 hF, mf_s101 hF, mf_s102 hF, mf_s103 hF, mf_s104 hF, mf_s105 hF, mf_s106 hF, mf_s107 hF, mf_s108 hF, mf_s109 hF, mf_s110 hF, mf_s111 hF, mf_s112 hF, mf_s113 hF, mf_s114 hF, mf_s115 hF, mf_s116 hF, mf_s117 hF, mf_s118 hF, z3, kIn, kCl, b1, a1, c1, kM1, kAnd, true_and, Option.toList_some, Option.toList_none, List.cons_append, List.nil_append, is2IT, is2RT, if_true, if_false]
            exact fin2
theorem m_nearPairs {d : Nat} {Q : Option PV → St → Prop} {N : Net} {σ : St} {nr : Nat → Nat} (h : MI σ N) (hN : NR σ nr) : Ca (d + 2) 189 [vR 97 9] σ Q ↔ Q (some (vI (nI (((List.range' 0 (nM N)).map fun a => pop7 (nr a)).sum / 2)))) σ := by
  have h7 := MI_7 h
  rw [ca_at (K := kX9_nearPairs) (ls := [vR 97 9, vU, vU]) rfl rfl rfl]
  have loop : ∀ r a v, a + r = nM N → v ≤ 7 * a → (At (d + 1) kX9_nearPairs 4 [vR 97 9, vI (nI v), vI (nI a)] [] σ Q ↔ Q (some (vI (nI ((v + ((List.range' a r).map fun a => pop7 (nr a)).sum) / 2)))) σ) := by
    intro r
    induction r with
    | zero =>
      intro a v ha hv
      have ha' : a = nM N := by omega
      subst ha'
      have z2 : (!(decide ((2 : Int32) = 0))) = true := by decide
      have dv : nI v / (2 : Int32) = nI (v / 2) := pk_div (d := 2) (by omega) (by decide) (by decide)
      simp (disch := first | exact is2I | exact is2R | omega) only [z_X9_nearPairs_4, z_X9_nearPairs_5, z_X9_nearPairs_6, z_X9_nearPairs_9, z_X9_nearPairs_30, z_X9_nearPairs_31, z_X9_nearPairs_32, z_X9_nearPairs_33, i_many h, kLe, Nat.le_refl, z2, dv, true_and, Option.toList_some, Option.toList_none, List.cons_append, List.nil_append, is2IT, is2RT, if_true, if_false]
      exact Iff.rfl
    | succ r ih =>
      intro a v ha hv
      have c : ¬ nM N ≤ a := by omega
      obtain ⟨x1, x2⟩ := hN a (by omega)
      have hp := pop7_le _ x2
      simp (disch := first | exact is2I | exact is2R | omega) only [z_X9_nearPairs_4, z_X9_nearPairs_5, z_X9_nearPairs_6, z_X9_nearPairs_9, z_X9_nearPairs_12, z_X9_nearPairs_13, z_X9_nearPairs_14, z_X9_nearPairs_17, z_X9_nearPairs_18, z_X9_nearPairs_19, z_X9_nearPairs_22, z_X9_nearPairs_23, z_X9_nearPairs_24, mf_r1 h.1, mf_r2 h.1, mf_r3 h.1, mf_r5 h.1, mf_r10 h.1, mf_r11 h.1, mf_r13 h.1, mf_r15 h.1, mf_r16 h.1, mf_r19 h.1, mf_r21 h.1, mf_r22 h.1, mf_r23 h.1, mf_r24 h.1, mf_r25 h.1, mf_r26 h.1, mf_r27 h.1, mf_r29 h.1, mf_r30 h.1, mf_r31 h.1, mf_r32 h.1, mf_s98 h.1, mf_s99 h.1, mf_s100 h.1, mf_s101 h.1, mf_s102 h.1, mf_s103 h.1, mf_s104 h.1, mf_s105 h.1, mf_s106 h.1, mf_s107 h.1, mf_s108 h.1, mf_s109 h.1, mf_s110 h.1, mf_s111 h.1, mf_s112 h.1, mf_s113 h.1, mf_s114 h.1, mf_s115 h.1, mf_s116 h.1, mf_s117 h.1, mf_s118 h.1, i_many h, kLe, c, kIn, kCl, x1, m_bits x2, nI_add, kAL, true_and, Option.toList_some, Option.toList_none, List.cons_append, List.nil_append, is2IT, is2RT, if_true, if_false]
      rw [z_X9_nearPairs_27, ih (a + 1) (v + pop7 (nr a)) (by omega) (by omega), List.range'_succ, List.map_cons, List.sum_cons, Nat.add_assoc]
  have l := loop (nM N) 0 0 (by omega) (Nat.le_refl 0)
  rw [Nat.zero_add] at l
  simp only [z_X9_nearPairs_0, z_X9_nearPairs_1, z_X9_nearPairs_2, z_X9_nearPairs_3, true_and, Option.toList_some, Option.toList_none, List.cons_append, List.nil_append, is2IT, is2RT, if_true, if_false]
  exact l
