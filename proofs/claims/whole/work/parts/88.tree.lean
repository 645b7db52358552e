/-! ===== the class: clusters join the tree ===== -/
def jTo (s : Jst) : Int32 := match s with
  | none => -1
  | some e => nI e.2.2
def JK (C : List Nat) (t : Nat) (s : Jst) : Prop := ∀ e, s = some e → e.1 < C.length ∧ e.2.1 ≤ 7 ∧ e.2.2 < C.length ∧ t.testBit e.1 = false
theorem jsI_in {C : List Nat} {t a : Nat} (h : t.testBit a = true) : ∀ r b s, jsI C t a r b s = s
  | 0, _, _ => rfl
  | r + 1, b, s => by
    show jsI C t a r (b + 1) (jst1 C t a b s) = s
    rw [show jst1 C t a b s = s by unfold jst1; rw [h]; exact if_neg (fun q => by cases q)]
    exact jsI_in h r (b + 1) s
theorem jc_l1 {d t a : Nat} {Q : Option PV → St → Prop} {σ : St} {C : List Nat} {sE : Jst} (hX : XF σ) (hC : TC σ C) (hT : rI σ 79 4 = nI t) (ht : t < 128) (ha : a < C.length) (hna : t.testBit a = false)
    (hQ : ∀ l6, JK C t sE → At (d + 1) kX4_joinNext 104 [vR 79 5, vI (jOne sE), vI (jTo sE), vI (jMost sE), vI (nI a), vI (nI C.length), l6] [] σ Q) : ∀ r b s l6, b + r = C.length → JK C t s → jsI C t a r b s = sE → At (d + 1) kX4_joinNext 36 [vR 79 5, vI (jOne s), vI (jTo s), vI (jMost s), vI (nI a), vI (nI b), l6] [] σ Q
  | 0, b, s, l6, hb, hJ, he => by
    have h7 := hC.2.1
    have : b = C.length := by omega
    subst this
    have he' : s = sE := he
    subst he'
    simp (disch := first | exact is2I | exact is2R | omega) only [z_X4_joinNext_36, z_X4_joinNext_38, z_X4_joinNext_39, z_X4_joinNext_42, hC.1, kLe, Nat.le_refl, true_and, Option.toList_some, Option.toList_none, List.cons_append, List.nil_append, is2IT, is2RT, if_true, if_false]
    exact hQ l6 hJ
  | r + 1, b, s, l6, hb, hJ, he => by
    have h7 := hC.2.1
    have hbl : b < C.length := by omega
    have c : ¬ C.length ≤ b := by omega
    obtain ⟨x1, x2⟩ := hC.2.2 a ha
    obtain ⟨y1, y2⟩ := hC.2.2 b hbl
    have ev : nI b + (1 : Int32) = nI (b + 1) := nI_add b 1
    have hcm : cmn C a b = pop7 (C[a] &&& C[b]) := by
      unfold cmn
      rw [List.getD_eq_getElem?_getD, List.getD_eq_getElem?_getD, List.getElem?_eq_getElem ha, List.getElem?_eq_getElem hbl]; rfl
    have hp := pop7_le _ (and128 (y := C[b]) x2)
    have he' : jsI C t a r (b + 1) (jst1 C t a b s) = sE := he
    have nx : ∀ l6, JK C t (jst1 C t a b s) → At (d + 1) kX4_joinNext 98 [vR 79 5, vI (jOne (jst1 C t a b s)), vI (jTo (jst1 C t a b s)), vI (jMost (jst1 C t a b s)), vI (nI a), vI (nI b), l6] [] σ Q := fun l6 q => by
      simp (disch := first | exact is2I | exact is2R | omega) only [z_X4_joinNext_98, ev, true_and, Option.toList_some, Option.toList_none, List.cons_append, List.nil_append, is2IT, is2RT, if_true, if_false]
      rw [z_X4_joinNext_101]
      exact jc_l1 hX hC hT ht ha hna hQ r (b + 1) _ l6 (by omega) q he'
    have same : jst1 C t a b s = s → ∀ l6, At (d + 1) kX4_joinNext 98 [vR 79 5, vI (jOne s), vI (jTo s), vI (jMost s), vI (nI a), vI (nI b), l6] [] σ Q := fun q l6 => by
      rw [q] at nx
      exact nx l6 hJ
    simp (disch := first | exact is2I | exact is2R | omega) only [z_X4_joinNext_36, z_X4_joinNext_38, z_X4_joinNext_39, z_X4_joinNext_42, z_X4_joinNext_45, z_X4_joinNext_46, z_X4_joinNext_49, z_X4_joinNext_51, z_X4_joinNext_52, z_X4_joinNext_53, z_X4_joinNext_54, hC.1, hT, kLe, c, kHas (show t < 2 ^ 31 by omega) (show b < 31 by omega), b2_0, true_and, Option.toList_some, Option.toList_none, List.cons_append, List.nil_append, is2IT, is2RT, if_true, if_false]
    cases e2 : t.testBit b with
    | false =>
      simp only [Bool.false_eq_true, not_false_eq_true, if_true]
      simp only [z_X4_joinNext_57, true_and, Option.toList_some, Option.toList_none, List.cons_append, List.nil_append, is2IT, is2RT, if_true, if_false]
      exact same (by unfold jst1; rw [hna, e2, if_neg (fun q => by cases q)]) _
    | true =>
      simp only [not_true_eq_false, if_false]
      have take : jst1 C t a b s = some (a, cmn C a b, b) → At (d + 1) kX4_joinNext 89 [vR 79 5, vI (jOne s), vI (jTo s), vI (jMost s), vI (nI a), vI (nI b), vI (nI (pop7 (C[a] &&& C[b])))] [] σ Q := fun q => by
        rw [q] at nx
        simp (disch := first | exact is2I | exact is2R | omega) only [z_X4_joinNext_89, z_X4_joinNext_91, z_X4_joinNext_92, z_X4_joinNext_94, z_X4_joinNext_95, z_X4_joinNext_97, true_and, Option.toList_some, Option.toList_none, List.cons_append, List.nil_append, is2IT, is2RT, if_true, if_false]
        have n2 := nx (vI (nI (pop7 (C[a] &&& C[b])))) (fun e q => by cases q; exact ⟨ha, by rw [hcm]; exact hp, hbl, hna⟩)
        have n3 : At (d + 1) kX4_joinNext 98 [vR 79 5, vI (nI a), vI (nI b), vI (nI (cmn C a b)), vI (nI a), vI (nI b), vI (nI (pop7 (C[a] &&& C[b])))] [] σ Q := n2
        rw [hcm] at n3
        exact n3
      simp (disch := first | exact is2I | exact is2R | omega) only [z_X4_joinNext_60, z_X4_joinNext_61, z_X4_joinNext_64, z_X4_joinNext_66, z_X4_joinNext_67, z_X4_joinNext_68, z_X4_joinNext_71, z_X4_joinNext_73, z_X4_joinNext_74, z_X4_joinNext_75, z_X4_joinNext_78, xf_r0_0 hX, xf_r0_1 hX, xf_r0_2 hX, xf_r0_4 hX, xf_r0_5 hX, xf_r0_6 hX, xf_r0_7 hX, xf_r0_8 hX, xf_r0_9 hX, xf_r70_0 hX, xf_r70_1 hX, xf_r70_2 hX, xf_r74_0 hX, xf_r74_1 hX, xf_r74_2 hX, xf_r74_3 hX, xf_r79_0 hX, xf_r79_1 hX, xf_r79_2 hX, xf_r83_0 hX, xf_r83_7 hX, xf_r88_0 hX, xf_r88_1 hX, xf_r88_2 hX, xf_r88_3 hX, xf_s0 hX, xf_s70 hX, xf_s71 hX, xf_s72 hX, xf_s73 hX, xf_s74 hX, xf_s75 hX, xf_s76 hX, xf_s77 hX, xf_s78 hX, xf_s79 hX, xf_s80 hX, xf_s81 hX, xf_s82 hX, xf_s83 hX, xf_s84 hX, xf_s85 hX, xf_s86 hX, xf_s88 hX, xf_s89 hX, xf_s90 hX, xf_s91 hX, xf_s92 hX, xf_s93 hX, xf_s94 hX, xf_s95 hX, xf_s96 hX, kIn, kCl, x1, y1, kAnd, m_bitc (and128 (y := C[b]) x2), true_and, Option.toList_some, Option.toList_none, List.cons_append, List.nil_append, is2IT, is2RT, if_true, if_false]
      cases s with
      | none =>
        have k1 : ¬ (nI (pop7 (C[a] &&& C[b])) ≤ (-1 : Int32)) := fun q => by
          rw [Int32.le_iff_toInt_le, nI_toInt (by omega)] at q
          have : (-1 : Int32).toInt = -1 := by decide
          omega
        have k2 : ((-1 : Int32) < nI (pop7 (C[a] &&& C[b]))) := Int32.not_le.mp k1
        have tk := take (by unfold jst1; rw [hna, e2, if_pos (show (!false && true) = true from rfl)])
        have tk' : At (d + 1) kX4_joinNext 89 [vR 79 5, vI (-1), vI (-1), vI (-1), vI (nI a), vI (nI b), vI (nI (pop7 (C[a] &&& C[b])))] [] σ Q := tk
        show At (d + 1) kX4_joinNext 80 [vR 79 5, vI (-1), vI (-1), vI (-1), vI (nI a), vI (nI b), vI (nI (pop7 (C[a] &&& C[b])))] [] σ Q
        simp (disch := first | exact is2I | exact is2R | omega) only [z_X4_joinNext_80, z_X4_joinNext_82, z_X4_joinNext_83, k2, true_and, Option.toList_some, Option.toList_none, List.cons_append, List.nil_append, is2IT, is2RT, if_true, if_false]
        exact tk'
      | some e =>
        have hb7 := (hJ e rfl).2.1
        show At (d + 1) kX4_joinNext 80 [vR 79 5, vI (nI e.1), vI (nI e.2.2), vI (nI e.2.1), vI (nI a), vI (nI b), vI (nI (pop7 (C[a] &&& C[b])))] [] σ Q
        simp (disch := first | exact is2I | exact is2R | omega) only [z_X4_joinNext_80, z_X4_joinNext_82, z_X4_joinNext_83, kLt, true_and, Option.toList_some, Option.toList_none, List.cons_append, List.nil_append, is2IT, is2RT, if_true, if_false]
        by_cases c3 : e.2.1 < pop7 (C[a] &&& C[b])
        · rw [if_pos c3]
          exact take (by unfold jst1; rw [hna, e2, if_pos (show (!false && true) = true from rfl)]; dsimp only; rw [if_neg (by rw [hcm]; omega)])
        · rw [if_neg c3]
          simp only [z_X4_joinNext_86, true_and, Option.toList_some, Option.toList_none, List.cons_append, List.nil_append, is2IT, is2RT, if_true, if_false]
          exact same (by unfold jst1; rw [hna, e2, if_pos (show (!false && true) = true from rfl)]; dsimp only; rw [if_pos (by rw [hcm]; omega)]) _
theorem jc_l2 {d t : Nat} {Q : Option PV → St → Prop} {σ : St} {C : List Nat} {sE : Jst} (hX : XF σ) (hC : TC σ C) (hT : rI σ 79 4 = nI t) (ht : t < 128)
    (hQ : ∀ l5 l6, JK C t sE → At (d + 1) kX4_joinNext 110 [vR 79 5, vI (jOne sE), vI (jTo sE), vI (jMost sE), vI (nI C.length), l5, l6] [] σ Q) : ∀ r a s l5 l6, a + r = C.length → JK C t s → jsO C t r a s = sE → At (d + 1) kX4_joinNext 9 [vR 79 5, vI (jOne s), vI (jTo s), vI (jMost s), vI (nI a), l5, l6] [] σ Q
  | 0, a, s, l5, l6, hb, hJ, he => by
    have h7 := hC.2.1
    have : a = C.length := by omega
    subst this
    have he' : s = sE := he
    subst he'
    simp (disch := first | exact is2I | exact is2R | omega) only [z_X4_joinNext_9, z_X4_joinNext_11, z_X4_joinNext_12, z_X4_joinNext_15, hC.1, kLe, Nat.le_refl, true_and, Option.toList_some, Option.toList_none, List.cons_append, List.nil_append, is2IT, is2RT, if_true, if_false]
    exact hQ l5 l6 hJ
  | r + 1, a, s, l5, l6, hb, hJ, he => by
    have h7 := hC.2.1
    have c : ¬ C.length ≤ a := by omega
    have ev : nI a + (1 : Int32) = nI (a + 1) := nI_add a 1
    have he' : jsO C t r (a + 1) (jsI C t a C.length 0 s) = sE := he
    have nx : ∀ l5 l6, JK C t (jsI C t a C.length 0 s) → At (d + 1) kX4_joinNext 104 [vR 79 5, vI (jOne (jsI C t a C.length 0 s)), vI (jTo (jsI C t a C.length 0 s)), vI (jMost (jsI C t a C.length 0 s)), vI (nI a), l5, l6] [] σ Q := fun l5 l6 q => by
      simp (disch := first | exact is2I | exact is2R | omega) only [z_X4_joinNext_104, ev, true_and, Option.toList_some, Option.toList_none, List.cons_append, List.nil_append, is2IT, is2RT, if_true, if_false]
      rw [z_X4_joinNext_107]
      exact jc_l2 hX hC hT ht hQ r (a + 1) _ l5 l6 (by omega) q he'
    simp (disch := first | exact is2I | exact is2R | omega) only [z_X4_joinNext_9, z_X4_joinNext_11, z_X4_joinNext_12, z_X4_joinNext_15, z_X4_joinNext_18, z_X4_joinNext_19, z_X4_joinNext_22, z_X4_joinNext_24, z_X4_joinNext_25, z_X4_joinNext_26, z_X4_joinNext_27, hC.1, hT, kLe, c, kHas (show t < 2 ^ 31 by omega) (show a < 31 by omega), b2_0, true_and, Option.toList_some, Option.toList_none, List.cons_append, List.nil_append, is2IT, is2RT, if_true, if_false]
    cases e1 : t.testBit a with
    | true =>
      simp only [not_true_eq_false, if_false]
      simp only [z_X4_joinNext_30, true_and, Option.toList_some, Option.toList_none, List.cons_append, List.nil_append, is2IT, is2RT, if_true, if_false]
      rw [jsI_in e1] at nx
      exact nx l5 l6 hJ
    | false =>
      simp only [Bool.false_eq_true, not_false_eq_true, if_true]
      simp (disch := first | exact is2I | exact is2R | omega) only [z_X4_joinNext_33, z_X4_joinNext_34, true_and, Option.toList_some, Option.toList_none, List.cons_append, List.nil_append, is2IT, is2RT, if_true, if_false]
      exact jc_l1 (sE := jsI C t a C.length 0 s) hX hC hT ht (by omega) e1 (fun l6 q => nx _ l6 q) C.length 0 s l6 (by omega) hJ rfl
/-- the tree t, and how its clusters are joined -/
def TJ (σ : St) (C : List Nat) (t : Nat) (J : Nat → Option Nat) : Prop := TC σ C ∧ rI σ 79 4 = nI t ∧ (∀ x, x < C.length → rI σ 81 x = oI (J x) ∧ rI σ 82 x = (match J x with | none => 0 | some b => nI (C.getD x 0 &&& C.getD b 0))) ∧ ∀ x b, J x = some b → b < C.length
theorem c_joinNext {d t : Nat} {Q : Option PV → St → Prop} {σ : St} {C : List Nat} {J : Nat → Option Nat} {e : Nat × Nat × Nat} (hX : XF σ) (hJ : TJ σ C t J) (ht : t < 128) (he : jsS C t = some e) (hQ : ∀ σ', Fm ITr noL σ σ' → TJ σ' C (t ||| 2 ^ e.1) (fun i => if i = e.1 then some e.2.2 else J i) → e.1 < C.length → t.testBit e.1 = false → Q none σ') : Ca (d + 2) 42 [vR 79 5] σ Q := by
  obtain ⟨hC, hT, hj, hb⟩ := hJ
  have h7 := hC.2.1
  rw [ca_at (K := kX4_joinNext) (ls := [vR 79 5, vU, vU, vU, vU, vU, vU]) rfl rfl rfl]
  simp (disch := first | exact is2I | exact is2R | omega) only [z_X4_joinNext_0, z_X4_joinNext_1, z_X4_joinNext_2, z_X4_joinNext_3, z_X4_joinNext_4, z_X4_joinNext_5, z_X4_joinNext_6, z_X4_joinNext_7, true_and, Option.toList_some, Option.toList_none, List.cons_append, List.nil_append, is2IT, is2RT, if_true, if_false]
  refine jc_l2 (d := d) (sE := jsS C t) hX hC hT ht (fun l5 l6 q => ?_) C.length 0 none vU vU (by omega) (fun e q => by cases q) rfl
  rw [he] at q ⊢
  obtain ⟨e1, e2, e3, e4⟩ := q e rfl
  obtain ⟨x1, x2⟩ := hC.2.2 e.1 e1
  obtain ⟨y1, y2⟩ := hC.2.2 e.2.2 e3
  show At (d + 1) kX4_joinNext 110 [vR 79 5, vI (nI e.1), vI (nI e.2.2), vI (nI e.2.1), vI (nI C.length), l5, l6] [] σ Q
  have x1' : rI (wI σ 81 e.1 (nI e.2.2)) 80 e.1 = nI C[e.1] := by rw [rI_wI_n (by decide)]; exact x1
  have y1' : rI (wI σ 81 e.1 (nI e.2.2)) 80 e.2.2 = nI C[e.2.2] := by rw [rI_wI_n (by decide)]; exact y1
  have t1 : rI (wI (wI σ 81 e.1 (nI e.2.2)) 82 e.1 (nI (C[e.1] &&& C[e.2.2]))) 79 4 = nI t := by rw [rI_wI_n (by decide), rI_wI_n (by decide)]; exact hT
  simp (disch := first | exact is2I | exact is2R | omega) only [z_X4_joinNext_110, z_X4_joinNext_111, z_X4_joinNext_112, z_X4_joinNext_115, z_X4_joinNext_116, z_X4_joinNext_117, z_X4_joinNext_120, z_X4_joinNext_121, z_X4_joinNext_122, z_X4_joinNext_123, z_X4_joinNext_124, z_X4_joinNext_127, z_X4_joinNext_128, z_X4_joinNext_129, z_X4_joinNext_132, z_X4_joinNext_133, z_X4_joinNext_134, z_X4_joinNext_135, z_X4_joinNext_138, z_X4_joinNext_139, z_X4_joinNext_140, z_X4_joinNext_141, z_X4_joinNext_142, z_X4_joinNext_143, z_X4_joinNext_144, z_X4_joinNext_147, z_X4_joinNext_148, z_X4_joinNext_149, z_X4_joinNext_150, z_X4_joinNext_151, z_X4_joinNext_154, xf_r0_0 hX, xf_r0_1 hX, xf_r0_2 hX, xf_r0_4 hX, xf_r0_5 hX, xf_r0_6 hX, xf_r0_7 hX, xf_r0_8 hX, xf_r0_9 hX, xf_r70_0 hX, xf_r70_1 hX, xf_r70_2 hX, xf_r74_0 hX, xf_r74_1 hX, xf_r74_2 hX, xf_r74_3 hX, xf_r79_0 hX, xf_r79_1 hX, xf_r79_2 hX, xf_r83_0 hX, xf_r83_7 hX, xf_r88_0 hX, xf_r88_1 hX, xf_r88_2 hX, xf_r88_3 hX, xf_s0 hX, xf_s70 hX, xf_s71 hX, xf_s72 hX, xf_s73 hX, xf_s74 hX, xf_s75 hX, xf_s76 hX, xf_s77 hX, xf_s78 hX, xf_s79 hX, xf_s80 hX, xf_s81 hX, xf_s82 hX, xf_s83 hX, xf_s84 hX, xf_s85 hX, xf_s86 hX, xf_s88 hX, xf_s89 hX, xf_s90 hX, xf_s91 hX, xf_s92 hX, xf_s93 hX, xf_s94 hX, xf_s95 hX, xf_s96 hX, rR_wI, sh_wI, kIn, kCl, kM1, x1', y1', kAnd, t1, kShl _ (show e.1 < 31 by omega), kOr, true_and, Option.toList_some, Option.toList_none, List.cons_append, List.nil_append, is2IT, is2RT, if_true, if_false]
  have g1 : C.getD e.1 0 = C[e.1] := by rw [List.getD_eq_getElem?_getD, List.getElem?_eq_getElem e1]; rfl
  have g2 : C.getD e.2.2 0 = C[e.2.2] := by rw [List.getD_eq_getElem?_getD, List.getElem?_eq_getElem e3]; rfl
  refine hQ _ (Fm_tr (Fm_tr (Fm_wI rfl) (Fm_wI rfl)) (Fm_wI rfl)) ⟨⟨?_, h7, fun j hj => ?_⟩, ?_, fun x hx => ?_, fun x b q => ?_⟩ e1 e4
  · rw [rI_wI, if_neg (fun q => absurd q.2 (by decide)), rI_wI_n (by decide), rI_wI_n (by decide)]; exact hC.1
  · rw [rI_wI_n (by decide), rI_wI_n (by decide), rI_wI_n (by decide)]; exact hC.2.2 j hj
  · rw [rI_wI, if_pos ⟨rfl, rfl⟩]
  · obtain ⟨p1, p2⟩ := hj x hx
    rw [rI_wI_n (by decide), rI_wI_n (show (81 : Nat) ≠ 82 by decide), rI_wI_n (show (82 : Nat) ≠ 79 by decide), rI_wI, rI_wI]
    have eJ : (fun i => if i = e.1 then some e.2.2 else J i) x = if x = e.1 then some e.2.2 else J x := rfl
    rw [eJ]
    by_cases c : x = e.1
    · rw [if_pos ⟨rfl, c⟩, if_pos c, if_pos ⟨rfl, c⟩, c, ← g1, ← g2]
      exact ⟨rfl, rfl⟩
    · rw [if_neg (fun q => c q.2), if_neg c, if_neg (fun q => c q.2), rI_wI_n (show (82 : Nat) ≠ 81 by decide)]
      exact ⟨p1, p2⟩
  · dsimp only at q
    by_cases c : x = e.1
    · rw [if_pos c] at q; cases q; exact e3
    · rw [if_neg c] at q; exact hb x b q
theorem gj_l {d : Nat} {Q : Option PV → St → Prop} {σ0 : St} {C : List Nat} {JE : Nat → Option Nat} {l1 : PV} {m : Int32} (hX0 : XF σ0) (h0 : 0 < C.length)
    (hQ : ∀ σ' t, Fm ITr noL σ0 σ' → TJ σ' C t JE → Q none σ') : ∀ r k σ t J, k + r = C.length → unseen t C.length = r → t < 128 → t.testBit 0 = true → Fm ITr noL σ0 σ → TJ σ C t J → groR C r t J = JE → At (d + 2) kX4_grow 82 [vR 79 5, l1, vI m, vI (nI k)] [] σ Q
  | 0, k, σ, t, J, hk, hu, ht, ht0, hf, hJ, he => by
    have h7 := hJ.1.2.1
    have : k = C.length := by omega
    subst this
    have he' : J = JE := he
    subst he'
    simp (disch := first | exact is2I | exact is2R | omega) only [z_X4_grow_82, z_X4_grow_83, z_X4_grow_84, z_X4_grow_87, z_X4_grow_100, hJ.1.1, kLe, Nat.le_refl, true_and, Option.toList_some, Option.toList_none, List.cons_append, List.nil_append, is2IT, is2RT, if_true, if_false]
    exact hQ σ t hf hJ
  | r + 1, k, σ, t, J, hk, hu, ht, ht0, hf, hJ, he => by
    have h7 := hJ.1.2.1
    have c : ¬ C.length ≤ k := by omega
    have ev : nI k + (1 : Int32) = nI (k + 1) := nI_add k 1
    obtain ⟨x, x1, x2⟩ := unseen_ex (g := t) (m := C.length) (by omega)
    have hne := jsO_x (C := C) x2 ht0 h0 C.length 0 none (Nat.zero_le _) (by omega)
    have hX := XF_fm hX0 hf
    cases ej : jsS C t with
    | none => exact absurd ej hne
    | some e =>
      have he' : groR C r (t ||| 2 ^ e.1) (fun i => if i = e.1 then some e.2.2 else J i) = JE := by
        have : groR C (r + 1) t J = groR C r (t ||| 2 ^ e.1) (fun i => if i = e.1 then some e.2.2 else J i) := by
          show (match jsS C t with | none => J | some e => groR C r (t ||| 2 ^ e.1) (fun i => if i = e.1 then some e.2.2 else J i)) = _
          rw [ej]
        rw [← this]; exact he
      simp (disch := first | exact is2I | exact is2R | omega) only [z_X4_grow_82, z_X4_grow_83, z_X4_grow_84, z_X4_grow_87, z_X4_grow_90, z_X4_grow_91, hJ.1.1, kLe, c, true_and, Option.toList_some, Option.toList_none, List.cons_append, List.nil_append, is2IT, is2RT, if_true, if_false]
      refine c_joinNext (d := d) hX hJ ht ej (fun σ' q1 q2 q3 q4 => ?_)
      have hu2 := unseen_d C.length (by omega) t ht e.1 q3 q4
      simp (disch := first | exact is2I | exact is2R | omega) only [z_X4_grow_94, ev, Option.toList_none, List.nil_append, true_and, Option.toList_some, Option.toList_none, List.cons_append, List.nil_append, is2IT, is2RT, if_true, if_false]
      rw [z_X4_grow_97]
      exact gj_l hX0 h0 hQ r (k + 1) σ' _ _ (by omega) (by omega) (or128 ht (by omega)) (by rw [Nat.testBit_or, ht0]; rfl) (Fm_tr hf q1) q2 he'
theorem fI_out {σ : St} {k b n x i : Nat} {f : Nat → Int32} (h : x ≠ k) : rI (fI σ k b n f) x i = rI σ x i := by rw [rI_fI, if_neg (fun q => h q.1)]
theorem c_grow {d m : Nat} {Q : Option PV → St → Prop} {σ : St} {L : List (Nat × Nat × Nat)} (hX : XF σ) (hm : m ≤ 7) (hO : OL0 σ L) (hB : OB m L) (hL : L.length = m) (hQ : ∀ σ' t, Fm ITr noL σ σ' → TJ σ' (L.foldl (fun C e => addC C e.2.2) []) t (JN (L.foldl (fun C e => addC C e.2.2) [])) → Q none σ') : Ca (d + 3) 40 [vR 79 5, vR 74 1, vI (nI m)] σ Q := by
  rw [ca_at (K := kX4_grow) (ls := [vR 79 5, vR 74 1, vI (nI m), vU]) rfl rfl rfl]
  have hX1 : XF (wI σ 79 3 0) := ⟨fun p hp => hX.1 p hp, fun p hp => hX.2 p hp⟩
  simp (disch := first | exact is2I | exact is2R | omega) only [z_X4_grow_0, z_X4_grow_1, z_X4_grow_2, z_X4_grow_5, z_X4_grow_6, true_and, Option.toList_some, Option.toList_none, List.cons_append, List.nil_append, is2IT, is2RT, if_true, if_false]
  generalize eC : L.foldl (fun C e => addC C e.2.2) [] = CE at hQ
  refine gro_l (d := d) (CE := CE) hX1 hm (fun j hj => by rw [rI_wI_n (by decide), rI_wI_n (by decide), rI_wI_n (by decide)]; exact hO j hj) hB hL (fun σ1 k q1 q2 => ?_) m 0 _ [] (by omega) (Nat.le_refl 0) Fm_rf ⟨by rw [rI_wI, if_pos ⟨rfl, rfl⟩]; rfl, Nat.zero_le _, fun j hj => absurd hj (Nat.not_lt_zero j)⟩ eC
  have hX2 := XF_fm hX1 q1
  have hX3 : XF (fI σ1 81 0 7 (fun _ => -1)) := XF_fm hX2 (Fm_fI (I := ITr) (L := noL) (fun _ _ _ => rfl))
  have h7 := q2.2.1
  simp (disch := first | exact is2I | exact is2R | omega) only [z_X4_grow_59, z_X4_grow_60, z_X4_grow_63, z_X4_grow_64, z_X4_grow_67, z_X4_grow_68, z_X4_grow_71, z_X4_grow_72, z_X4_grow_75, z_X4_grow_76, z_X4_grow_77, z_X4_grow_80, z_X4_grow_81, xf_r0_0 hX2, xf_r0_1 hX2, xf_r0_2 hX2, xf_r0_4 hX2, xf_r0_5 hX2, xf_r0_6 hX2, xf_r0_7 hX2, xf_r0_8 hX2, xf_r0_9 hX2, xf_r70_0 hX2, xf_r70_1 hX2, xf_r70_2 hX2, xf_r74_0 hX2, xf_r74_1 hX2, xf_r74_2 hX2, xf_r74_3 hX2, xf_r79_0 hX2, xf_r79_1 hX2, xf_r79_2 hX2, xf_r83_0 hX2, xf_r83_7 hX2, xf_r88_0 hX2, xf_r88_1 hX2, xf_r88_2 hX2, xf_r88_3 hX2, xf_s0 hX2, xf_s70 hX2, xf_s71 hX2, xf_s72 hX2, xf_s73 hX2, xf_s74 hX2, xf_s75 hX2, xf_s76 hX2, xf_s77 hX2, xf_s78 hX2, xf_s79 hX2, xf_s80 hX2, xf_s81 hX2, xf_s82 hX2, xf_s83 hX2, xf_s84 hX2, xf_s85 hX2, xf_s86 hX2, xf_s88 hX2, xf_s89 hX2, xf_s90 hX2, xf_s91 hX2, xf_s92 hX2, xf_s93 hX2, xf_s94 hX2, xf_s95 hX2, xf_s96 hX2, xf_r0_0 hX3, xf_r0_1 hX3, xf_r0_2 hX3, xf_r0_4 hX3, xf_r0_5 hX3, xf_r0_6 hX3, xf_r0_7 hX3, xf_r0_8 hX3, xf_r0_9 hX3, xf_r70_0 hX3, xf_r70_1 hX3, xf_r70_2 hX3, xf_r74_0 hX3, xf_r74_1 hX3, xf_r74_2 hX3, xf_r74_3 hX3, xf_r79_0 hX3, xf_r79_1 hX3, xf_r79_2 hX3, xf_r83_0 hX3, xf_r83_7 hX3, xf_r88_0 hX3, xf_r88_1 hX3, xf_r88_2 hX3, xf_r88_3 hX3, xf_s0 hX3, xf_s70 hX3, xf_s71 hX3, xf_s72 hX3, xf_s73 hX3, xf_s74 hX3, xf_s75 hX3, xf_s76 hX3, xf_s77 hX3, xf_s78 hX3, xf_s79 hX3, xf_s80 hX3, xf_s81 hX3, xf_s82 hX3, xf_s83 hX3, xf_s84 hX3, xf_s85 hX3, xf_s86 hX3, xf_s88 hX3, xf_s89 hX3, xf_s90 hX3, xf_s91 hX3, xf_s92 hX3, xf_s93 hX3, xf_s94 hX3, xf_s95 hX3, xf_s96 hX3, m_fill (show sh σ1 81 = (20, 7) from xf_s81 hX2) (show 7 < 100 by decide), m_fill (show sh (fI σ1 81 0 7 (fun _ => -1)) 82 = (20, 7) from xf_s82 hX3) (show 7 < 100 by decide), true_and, Option.toList_some, Option.toList_none, List.cons_append, List.nil_append, is2IT, is2RT, if_true, if_false]
  have f3 : Fm ITr noL σ (wI (fI (fI σ1 81 0 7 (fun _ => -1)) 82 0 7 (fun _ => 0)) 79 4 1) := Fm_tr (Fm_tr (Fm_tr (Fm_tr (Fm_wI rfl) q1) (Fm_fI (fun _ _ _ => rfl))) (Fm_fI (fun _ _ _ => rfl))) (Fm_wI rfl)
  have hX4 := XF_fm hX f3
  have C4 : TJ (wI (fI (fI σ1 81 0 7 (fun _ => -1)) 82 0 7 (fun _ => 0)) 79 4 1) CE 1 (fun _ => none) := ⟨⟨by rw [rI_wI, if_neg (fun q => absurd q.2 (by decide)), fI_out (by decide), fI_out (by decide)]; exact q2.1, h7, fun j hj => by rw [rI_wI_n (by decide), fI_out (by decide), fI_out (by decide)]; exact q2.2.2 j hj⟩, by rw [rI_wI, if_pos ⟨rfl, rfl⟩]; rfl, fun x hx => ⟨by rw [rI_wI_n (by decide), fI_out (by decide), rI_fI, if_pos ⟨rfl, by omega, by omega⟩]; rfl, by rw [rI_wI_n (by decide), rI_fI, if_pos ⟨rfl, by omega, by omega⟩]⟩, fun x b q => by cases q⟩
  by_cases h0 : CE.length = 0
  · have e3 := C4.1.1
    rw [h0] at e3
    have k1 : (nI 0 ≤ (1 : Int32)) := by decide
    simp (disch := first | exact is2I | exact is2R | omega) only [z_X4_grow_82, z_X4_grow_83, z_X4_grow_84, z_X4_grow_87, z_X4_grow_100, e3, k1, true_and, Option.toList_some, Option.toList_none, List.cons_append, List.nil_append, is2IT, is2RT, if_true, if_false]
    refine hQ _ 1 f3 ?_
    have : JN CE = fun _ => none := by unfold JN; rw [h0]; rfl
    rw [this]; exact C4
  · exact gj_l (d := d) (JE := JN CE) hX4 (by omega) (fun σ2 t q5 q6 => hQ σ2 t (Fm_tr f3 q5) q6) (CE.length - 1) 1 _ 1 (fun _ => none) (by omega) (unseen_1' _ (by omega) (by omega)) (by decide) rfl Fm_rf C4 rfl
