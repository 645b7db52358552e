/-! ===== likely; who is cut off ===== -/
def stB (A : Nat × Wd) (e : Wd × Nat) : Nat × Wd := if A.1 < e.2 then (e.2, e.1) else A
def bst (N : Net) : Nat × Wd := (LV N no1).foldl stB (0, w0)
theorem std_best {m : Nat} {ask : Option Nat} : ∀ (L : List (Wd × Nat)) (A : Acc), ((L.foldl (std m ask) A).2.1, (L.foldl (std m ask) A).2.2.1) = L.foldl stB (A.2.1, A.2.2.1)
  | [], A => rfl
  | e :: L, A => by
    rw [List.foldl_cons, List.foldl_cons, std_best L]
    congr 1
    unfold stB std
    dsimp only
    by_cases c : A.2.1 < e.2
    · rw [if_pos c, if_pos c, if_pos c]
    · rw [if_neg c, if_neg c, if_neg c]
theorem bst_pos : ∀ (L : List (Wd × Nat)) (A : Nat × Wd), A.1 ≤ (L.foldl stB A).1 ∧ (0 < sums L → 0 < (L.foldl stB A).1)
  | [], A => ⟨Nat.le_refl _, fun q => absurd q (Nat.lt_irrefl 0)⟩
  | e :: L, A => by
    rw [List.foldl_cons]
    obtain ⟨h1, h2⟩ := bst_pos L (stB A e)
    have h3 : A.1 ≤ (stB A e).1 ∧ e.2 ≤ (stB A e).1 := by
      unfold stB
      split
      · exact ⟨by omega, Nat.le_refl _⟩
      · exact ⟨Nat.le_refl _, by omega⟩
    refine ⟨by omega, fun q => ?_⟩
    have e1 : sums (e :: L) = e.2 + sums L := by unfold sums; rw [List.map_cons, List.sum_cons]
    rw [e1] at q
    by_cases c : 0 < sums L
    · exact h2 c
    · omega
def likF (N : Net) (n : Int32) : Int32 := match pN (nM N) n with
  | none => -2
  | some k => if WT N no1 = 0 then -3 else nI ((bst N).2 k)
/-- all, at rest, with the likeliest -/
theorem m_all1 {d : Nat} {Q : Option PV → St → Prop} {σ : St} {N : Net} (h : RQ σ N) (hQ : ∀ σ', Sc σ σ' → (¬ WT N no1 = 0 → ∀ i, i < nM N → rI σ' 107 i = nI ((bst N).2 i)) → Q (some (vL (lN (WT N no1)))) σ') : Ca (d + 14) 164 [vR 97 9] σ Q := by
  refine m_all (mu := no1) (ask := none) (T := fun _ => 0) (fun i v q => by cases q) (fun a q => by cases q) h.1 h.2.1 h.2.2 (fun a q => by cases q) (fun σ' q1 q2 => hQ σ' (Sc_w q1) (fun q i hi => ?_))
  have e := std_best (m := nM N) (ask := none) (LV N no1) (0, 0, w0, fun _ => 0)
  have hp := (bst_pos (LV N no1) (0, w0)).2 (by rw [LV_sum]; omega)
  have e1 := congrArg Prod.fst e
  have e2 := congrArg Prod.snd e
  dsimp only at e1 e2
  have := q2.2.2.2.1 (by rw [e1]; exact hp) i hi
  rw [e2] at this
  exact this
theorem m_likely {d : Nat} {Q : Option PV → St → Prop} {σ : St} {N : Net} {n : Int32} (h : RQ σ N) (hQ : ∀ σ', Sc σ σ' → Q (some (vI (likF N n))) σ') : Ca (d + 15) 177 [vR 97 9, vI n] σ Q := by
  have hM := h.1
  have h7 := MI_7 hM
  rw [ca_at (K := kX9_likely) (ls := [vR 97 9, vI n]) rfl rfl rfl]
  unfold likF at hQ
  cases hp : pN (nM N) n with
  | none =>
    rw [hp] at hQ
    have hP := pN_none.mp hp
    simp (disch := first | exact is2I | exact is2R | omega) only [z_X9_likely_0, z_X9_likely_1, z_X9_likely_2, z_X9_likely_5, z_X9_likely_8, z_X9_likely_10, i_isNode hM, b2_0, hP, not_false_eq_true, true_and, Option.toList_some, Option.toList_none, List.cons_append, List.nil_append, is2IT, is2RT, if_true, if_false]
    exact hQ σ Fm_rf
  | some k =>
    rw [hp] at hQ
    dsimp only at hQ
    obtain ⟨hk, rfl⟩ := (pN_some (by omega)).mp hp
    have hP : 0 ≤ nI k ∧ nI k < nI (nM N) := (lt_nI (by omega)).mpr ⟨k, hk, rfl⟩
    simp (disch := first | exact is2I | exact is2R | omega) only [z_X9_likely_0, z_X9_likely_1, z_X9_likely_2, z_X9_likely_5, z_X9_likely_8, z_X9_likely_10, z_X9_likely_11, z_X9_likely_12, i_isNode hM, b2_0, hP, and_self, not_true_eq_false, true_and, Option.toList_some, Option.toList_none, List.cons_append, List.nil_append, is2IT, is2RT, if_true, if_false]
    refine m_all1 h (fun σ' q q2 => ?_)
    have e0 : (lN (WT N no1) = 0) = (WT N no1 = 0) := propext (pk_lEQ (b := 0) (WT_63 hM.2.2) (by decide))
    simp (disch := first | exact is2I | exact is2R | omega) only [z_X9_likely_15, z_X9_likely_16, z_X9_likely_17, lg_cmp_eq, e0, true_and, Option.toList_some, Option.toList_none, List.cons_append, List.nil_append, is2IT, is2RT, if_true, if_false]
    have fin := hQ σ' q
    by_cases c : WT N no1 = 0
    · rw [if_pos c] at fin ⊢
      simp only [z_X9_likely_20, z_X9_likely_22, z_X9_likely_25, z_X9_likely_26, z_X9_likely_29, z_X9_likely_30, z_X9_likely_31, true_and, Option.toList_some, Option.toList_none, List.cons_append, List.nil_append, is2IT, is2RT, if_true, if_false]
      exact fin
    · rw [if_neg c] at fin ⊢
      have hF := MF_of hM.1 q.2.2.1 q.2.2.2.1
      simp (disch := first | exact is2I | exact is2R | omega) only [z_X9_likely_25, z_X9_likely_26, z_X9_likely_29, z_X9_likely_30, z_X9_likely_31, mf_r1 hF, mf_r2 hF, mf_r3 hF, mf_r5 hF, mf_r10 hF, mf_r11 hF, mf_r13 hF, mf_r15 hF, mf_r16 hF, mf_r19 hF, mf_r21 hF, mf_r22 hF, mf_r23 hF, mf_r24 hF, mf_r25 hF, mf_r26 hF, mf_r27 hF, mf_r29 hF, mf_r30 hF, mf_r31 hF, mf_r32 hF, mf_s98 hF, mf_s99 hF, mf_s100 hF, mf_s101 hF, mf_s102 hF, mf_s103 hF, mf_s104 hF, mf_s105 hF, mf_s106 hF, mf_s107 hF, mf_s108 hF, mf_s109 hF, mf_s110 hF, mf_s111 hF, mf_s112 hF, mf_s113 hF, mf_s114 hF, mf_s115 hF, mf_s116 hF, mf_s117 hF, mf_s118 hF, kIn, kCl, q2 c k hk, true_and, Option.toList_some, Option.toList_none, List.cons_append, List.nil_append, is2IT, is2RT, if_true, if_false]
      exact fin
def ovr (N : Net) (p n : Nat) : Bool := decide (nD N n = none ∧ (nP N n = some p ∨ nQ N n = some p))
theorem oI_eq {o : Option Nat} {p : Nat} (h : ∀ j, o = some j → j < 2 ^ 31) (hp : p < 2 ^ 31) : (oI o = nI p) = (o = some p) := by
  cases o with
  | none => exact propext ⟨fun q => (Eq.mp (nI_m1 hp) q.symm).elim, fun q => by cases q⟩
  | some j => rw [oI_ss, propext (nI_eq (h j rfl) hp)]; exact propext ⟨fun q => by rw [q], fun q => by cases q; rfl⟩
theorem oI_none' {o : Option Nat} (h : ∀ j, o = some j → j < 2 ^ 31) : (oI o = -1) = (o = none) := propext (oI_none o h)
theorem NV_f {N : Net} (h : NV N) {k : Nat} (hk : k < nM N) : ∀ j, nF1 N k = some j → j < 2 ^ 31 := fun j q => by have := (h.2 k hk).2.2.2.2.2.1 j q; have := NV_sv h hk; omega
theorem NV_d {N : Net} (h : NV N) {k : Nat} (hk : k < nM N) : ∀ j, nD N k = some j → j < 2 ^ 31 := fun j q => by have := (h.2 k hk).2.2.2.2.2.2.1 j q; have := NV_sv h hk; omega
theorem NV_p31 {N : Net} (h : NV N) {k : Nat} (hk : k < nM N) : ∀ j, nP N k = some j → j < 2 ^ 31 := fun j q => by have := (h.2 k hk).2.2.1 j q; have := h.1; omega
theorem NV_q31 {N : Net} (h : NV N) {k : Nat} (hk : k < nM N) : ∀ j, nQ N k = some j → j < 2 ^ 31 := fun j q => by have := ((h.2 k hk).2.2.2.1 j q).1; have := h.1; omega
theorem m_isOver {d : Nat} {Q : Option PV → St → Prop} {σ : St} {N : Net} {p n : Nat} (h : MI σ N) (hn : n < nM N) (hp : p < 31) : Ca (d + 2) 178 [vR 97 9, vI (nI p), vI (nI n)] σ Q ↔ Q (some (vI (b2 (ovr N p n = true)))) σ := by
  have eD := oI_none' (NV_d h.2.2 hn)
  have eP := oI_eq (p := p) (NV_p31 h.2.2 hn) (by omega)
  have eQ := oI_eq (p := p) (NV_q31 h.2.2 hn) (by omega)
  rw [ca_at (K := kX9_isOver) (ls := [vR 97 9, vI (nI p), vI (nI n)]) rfl rfl rfl]
  simp (disch := first | exact is2I | exact is2R | omega) only [z_X9_isOver_0, z_X9_isOver_1, z_X9_isOver_2, z_X9_isOver_3, z_X9_isOver_6, z_X9_isOver_7, z_X9_isOver_10, z_X9_isOver_11, z_X9_isOver_12, z_X9_isOver_13, z_X9_isOver_16, z_X9_isOver_17, z_X9_isOver_20, z_X9_isOver_21, z_X9_isOver_22, z_X9_isOver_23, z_X9_isOver_26, z_X9_isOver_27, z_X9_isOver_30, z_X9_isOver_31, z_X9_isOver_34, z_X9_isOver_35, i_is5 h hn, i_is2 h hn, i_is3 h hn, eD, eP, eQ, rk_b0, rk_b1, true_and, Option.toList_some, Option.toList_none, List.cons_append, List.nil_append, is2IT, is2RT, if_true, if_false]
  have e : b2 (ovr N p n = true) = b2 (nD N n = none ∧ (nP N n = some p ∨ nQ N n = some p)) := by
    unfold ovr b2
    simp only [decide_eq_true_eq]
  rw [e]
  by_cases c1 : nD N n = none
  · rw [if_pos c1]
    by_cases c2 : nP N n = some p
    · rw [if_pos c2, b2_t ⟨c1, Or.inl c2⟩]
    · rw [if_neg c2]
      by_cases c3 : nQ N n = some p
      · rw [if_pos c3, b2_t ⟨c1, Or.inr c3⟩]
      · rw [if_neg c3, b2_f (fun q => q.2.elim c2 c3)]
  · rw [if_neg c1, b2_f (fun q => c1 q.1)]
/-- evidence of a node, or below it -/
def hrd (N : Net) : Nat → Nat → Bool
  | 0, _ => false
  | f + 1, n => (nF1 N n).isSome || (hinB N n || (List.range' (n + 1) (nM N - (n + 1))).any fun c => ovr N n c && hrd N f c)
theorem hrd_s {N : Net} {f n : Nat} : hrd N (f + 1) n = ((nF1 N n).isSome || (hinB N n || (List.range' (n + 1) (nM N - (n + 1))).any fun c => ovr N n c && hrd N f c)) := rfl
theorem b2_o {a b : Bool} : b2 ((a || b) = true) = if a = true then 1 else b2 (b = true) := by cases a <;> rfl
theorem m_isHeard {N : Net} : ∀ f n, nM N ≤ n + f → n < nM N → ∀ (d : Nat) (Q : Option PV → St → Prop) (σ : St), MI σ N → (Ca (d + f + 3) 179 [vR 97 9, vI (nI n)] σ Q ↔ Q (some (vI (b2 (hrd N f n = true)))) σ) := by
  intro f
  induction f with
  | zero => intro n h1 h2; omega
  | succ f ih =>
    intro n h1 h2 d Q σ h
    have h7 := MI_7 h
    have eF := oI_none' (NV_f h.2.2 h2)
    rw [show d + (f + 1) + 3 = d + f + 3 + 1 by omega, ca_at (K := kX9_isHeard) (ls := [vR 97 9, vI (nI n), vU]) rfl rfl rfl]
    have loop : ∀ r c, c + r = nM N → n < c → (At (d + f + 3) kX9_isHeard 24 [vR 97 9, vI (nI n), vI (nI c)] [] σ Q ↔ Q (some (vI (b2 (((List.range' c r).any fun c => ovr N n c && hrd N f c) = true)))) σ) := by
      intro r
      induction r with
      | zero =>
        intro c hc _
        have hc' : c = nM N := by omega
        subst hc'
        simp (disch := first | exact is2I | exact is2R | omega) only [z_X9_isHeard_24, z_X9_isHeard_25, z_X9_isHeard_26, z_X9_isHeard_29, z_X9_isHeard_57, z_X9_isHeard_58, i_many h, kLe, Nat.le_refl, rk_b0, true_and, Option.toList_some, Option.toList_none, List.cons_append, List.nil_append, is2IT, is2RT, if_true, if_false]
        exact Iff.rfl
      | succ r ihr =>
        intro c hc hnc
        have cc : ¬ nM N ≤ c := by omega
        have i1 := ihr (c + 1) (by omega) (by omega)
        have i2 := fun Q => ih c (by omega) (by omega) d Q σ h
        simp (disch := first | exact is2I | exact is2R | omega) only [z_X9_isHeard_24, z_X9_isHeard_25, z_X9_isHeard_26, z_X9_isHeard_29, z_X9_isHeard_32, z_X9_isHeard_33, z_X9_isHeard_34, z_X9_isHeard_35, z_X9_isHeard_38, z_X9_isHeard_41, z_X9_isHeard_42, z_X9_isHeard_43, z_X9_isHeard_46, z_X9_isHeard_49, z_X9_isHeard_50, z_X9_isHeard_51, i_many h, kLe, cc, m_isOver h (show c < nM N by omega) (show n < 31 by omega), i2, b2_0, kAL, rk_b1, true_and, Option.toList_some, Option.toList_none, List.cons_append, List.nil_append, is2IT, is2RT, if_true, if_false]
        rw [z_X9_isHeard_54, i1, List.range'_succ, List.any_cons]
        cases ovr N n c with
        | false => simp only [Bool.false_and, Bool.false_or, Bool.false_eq_true, not_false_eq_true, if_true]
        | true =>
          cases hrd N f c with
          | false => simp only [Bool.true_and, Bool.false_or, Bool.false_eq_true, not_false_eq_true, not_true_eq_false, if_true, if_false]
          | true => simp only [Bool.true_and, Bool.true_or, not_true_eq_false, if_false]; rfl
    have l0 := loop (nM N - (n + 1)) (n + 1) (by omega) (by omega)
    simp (disch := first | exact is2I | exact is2R | omega) only [z_X9_isHeard_0, z_X9_isHeard_1, z_X9_isHeard_2, z_X9_isHeard_3, z_X9_isHeard_6, z_X9_isHeard_7, z_X9_isHeard_10, z_X9_isHeard_11, z_X9_isHeard_12, z_X9_isHeard_15, z_X9_isHeard_18, z_X9_isHeard_19, z_X9_isHeard_20, z_X9_isHeard_21, z_X9_isHeard_22, z_X9_isHeard_23, i_is4 h h2, eF, i_isHinted h h2, b2_0, kAL, l0, rk_b1, true_and, Option.toList_some, Option.toList_none, List.cons_append, List.nil_append, is2IT, is2RT, if_true, if_false]
    rw [hrd_s]
    cases nF1 N n with
    | some u => rw [if_neg (fun q => by cases q)]; exact Iff.rfl
    | none =>
      rw [if_pos rfl]
      unfold hinN
      cases hinB N n with
      | true => simp only [not_true_eq_false, if_false]; rfl
      | false => simp only [Bool.false_eq_true, not_false_eq_true, if_true, Option.isSome_none, Bool.false_or]
/-- whether a way may pass -/
def thr (N : Net) (a n b : Nat) : Bool := if (ovr N a n && ovr N b n) = true then hrd N 7 n else decide (nF1 N n = none)
theorem m_isThrough {d a n b : Nat} {Q : Option PV → St → Prop} {σ : St} {N : Net} (h : MI σ N) (hn : n < nM N) (ha : a < 31) (hb : b < 31) : Ca (d + 11) 180 [vR 97 9, vI (nI a), vI (nI n), vI (nI b)] σ Q ↔ Q (some (vI (b2 (thr N a n b = true)))) σ := by
  have h7 := MI_7 h
  have eF := oI_none' (NV_f h.2.2 hn)
  have ih := fun Q => m_isHeard 7 n (by omega) hn d Q σ h
  rw [ca_at (K := kX9_isThrough) (ls := [vR 97 9, vI (nI a), vI (nI n), vI (nI b)]) rfl rfl rfl]
  simp (disch := first | exact is2I | exact is2R | omega) only [z_X9_isThrough_0, z_X9_isThrough_1, z_X9_isThrough_2, z_X9_isThrough_3, z_X9_isThrough_6, z_X9_isThrough_9, z_X9_isThrough_10, z_X9_isThrough_11, z_X9_isThrough_12, z_X9_isThrough_15, z_X9_isThrough_18, z_X9_isThrough_19, z_X9_isThrough_20, z_X9_isThrough_23, z_X9_isThrough_26, z_X9_isThrough_27, z_X9_isThrough_28, z_X9_isThrough_29, z_X9_isThrough_32, z_X9_isThrough_33, z_X9_isThrough_36, z_X9_isThrough_37, z_X9_isThrough_40, z_X9_isThrough_41, m_isOver h hn ha, m_isOver h hn hb, ih, b2_0, b2_ok, i_is4 h hn, eF, rk_b0, rk_b1, true_and, Option.toList_some, Option.toList_none, List.cons_append, List.nil_append, is2IT, is2RT, if_true, if_false]
  unfold thr
  cases ovr N a n with
  | false =>
    simp only [Bool.false_and, Bool.false_eq_true, not_false_eq_true, if_true, if_false]
    by_cases c : nF1 N n = none
    · rw [if_pos c, b2_t (decide_eq_true c)]
    · rw [if_neg c, b2_f (fun q => c (of_decide_eq_true q))]
  | true =>
    cases ovr N b n with
    | false =>
      simp only [Bool.and_false, Bool.false_eq_true, not_false_eq_true, not_true_eq_false, if_true, if_false]
      by_cases c : nF1 N n = none
      · rw [if_pos c, b2_t (decide_eq_true c)]
      · rw [if_neg c, b2_f (fun q => c (of_decide_eq_true q))]
    | true => simp only [Bool.and_self, not_true_eq_false, if_true, if_false]
def unseen (g m : Nat) : Nat := ((List.range' 0 m).filter fun x => !g.testBit x).length
theorem unseen_le {l : List Nat} {g x : Nat} (hx : x ∈ l) (hg : g.testBit x = false) : (l.filter fun y => !(g ||| 2 ^ x).testBit y).length < (l.filter fun y => !g.testBit y).length := by
  induction l with
  | nil => cases hx
  | cons y l ih =>
    have hy : ∀ z, (g ||| 2 ^ x).testBit z = (g.testBit z || decide (x = z)) := fun z => by rw [Nat.testBit_or, Nat.testBit_two_pow]
    have le : (l.filter fun y => !(g ||| 2 ^ x).testBit y).length ≤ (l.filter fun y => !g.testBit y).length := by
      clear ih hx
      induction l with
      | nil => exact Nat.le_refl _
      | cons z l ih =>
        rw [List.filter_cons, List.filter_cons, hy z]
        cases e : g.testBit z with
        | true => simp only [Bool.true_or, Bool.not_true, Bool.false_eq_true, if_false]; exact ih
        | false =>
          by_cases e2 : x = z
          · simp only [e2, decide_true, Bool.false_or, Bool.not_true, Bool.not_false, Bool.false_eq_true, if_false, if_true, List.length_cons]; rw [← e2]; omega
          · simp only [e2, decide_false, Bool.false_or, Bool.not_false, if_true, List.length_cons]; omega
    rw [List.filter_cons, List.filter_cons, hy y]
    by_cases e2 : x = y
    · subst e2
      simp only [hg, decide_true, Bool.false_or, Bool.not_true, Bool.not_false, Bool.false_eq_true, if_false, if_true, List.length_cons]; omega
    · have hx2 : x ∈ l := by
        rcases List.mem_cons.mp hx with q | q
        · exact absurd q e2
        · exact q
      have := ih hx2
      cases e : g.testBit y with
      | true => simp only [Bool.true_or, Bool.not_true, Bool.false_eq_true, if_false]; exact this
      | false => simp only [e2, decide_false, Bool.false_or, Bool.not_false, if_true, List.length_cons]; omega
def gate (N : Net) (fr : Option Nat) (n x : Nat) : Bool := match fr with
  | none => true
  | some a => thr N a n x
/-- a way goes on -/
def way (N : Net) : Nat → Option Nat → Nat → Nat → Nat → Bool
  | 0, _, _, _, _ => false
  | f + 1, fr, n, e, g => decide (n = e) || (List.range' 0 (nM N)).any fun x => !g.testBit x && ((ovr N n x || ovr N x n) && (gate N fr n x && way N f (some n) x e (g ||| 2 ^ x)))
theorem way_s {N : Net} {f : Nat} {fr : Option Nat} {n e g : Nat} : way N (f + 1) fr n e g = (decide (n = e) || (List.range' 0 (nM N)).any fun x => !g.testBit x && ((ovr N n x || ovr N x n) && (gate N fr n x && way N f (some n) x e (g ||| 2 ^ x)))) := rfl
theorem m_has {d g k : Nat} {Q : Option PV → St → Prop} {σ : St} (hg : g < 2 ^ 31) (hk : k < 31) : Ca (d + 1) 122 [vI (nI g), vI (nI k)] σ Q ↔ Q (some (vI (b2 (g.testBit k = true)))) σ := by
  rw [ca_at (K := kX9_has) (ls := [vI (nI g), vI (nI k)]) rfl rfl rfl]
  simp (disch := first | exact is2I | exact is2R | omega) only [z_X9_has_0, z_X9_has_1, z_X9_has_2, z_X9_has_3, z_X9_has_4, z_X9_has_5, z_X9_has_6, z_X9_has_9, z_X9_has_10, z_X9_has_13, z_X9_has_14, kHas hg hk, b2_1, rk_b0, rk_b1, true_and, Option.toList_some, Option.toList_none, List.cons_append, List.nil_append, is2IT, is2RT, if_true, if_false]
  cases g.testBit k with
  | true => simp only [if_true]; rfl
  | false => simp only [Bool.false_eq_true, if_false]; rfl
set_option maxHeartbeats 1000000 in
theorem m_isWay {N : Net} {e : Nat} (he : e < nM N) : ∀ f (fr : Option Nat) n g, unseen g (nM N) < f → n < nM N → g < 128 → (∀ a, fr = some a → a < nM N) → ∀ (d : Nat) (Q : Option PV → St → Prop) (σ : St), MI σ N → (Ca (d + f + 12) 181 [vR 97 9, vI (oI fr), vI (nI n), vI (nI e), vI (nI g)] σ Q ↔ Q (some (vI (b2 (way N f fr n e g = true)))) σ) := by
  intro f
  induction f with
  | zero => intro fr n g h1; omega
  | succ f ih =>
    intro fr n g h1 h2 hg hfr d Q σ h
    have h7 := MI_7 h
    have efr := oI_none' (o := fr) (fun j q => by have := hfr j q; omega)
    rw [show d + (f + 1) + 12 = d + f + 12 + 1 by omega, ca_at (K := kX9_isWay) (ls := [vR 97 9, vI (oI fr), vI (nI n), vI (nI e), vI (nI g), vU]) rfl rfl rfl]
    rw [way_s]
    simp (disch := first | exact is2I | exact is2R | omega) only [z_X9_isWay_0, z_X9_isWay_1, z_X9_isWay_2, z_X9_isWay_5, z_X9_isWay_6, z_X9_isWay_7, z_X9_isWay_8, kEq, rk_b1, true_and, Option.toList_some, Option.toList_none, List.cons_append, List.nil_append, is2IT, is2RT, if_true, if_false]
    by_cases c : n = e
    · rw [if_pos c, decide_eq_true c]
      simp only [Bool.true_or]; exact Iff.rfl
    · rw [if_neg c, decide_eq_false c, Bool.false_or]
      have loop : ∀ r x, x + r = nM N → (At (d + f + 12) kX9_isWay 10 [vR 97 9, vI (oI fr), vI (nI n), vI (nI e), vI (nI g), vI (nI x)] [] σ Q ↔ Q (some (vI (b2 (((List.range' x r).any fun x => !g.testBit x && ((ovr N n x || ovr N x n) && (gate N fr n x && way N f (some n) x e (g ||| 2 ^ x)))) = true)))) σ) := by
        intro r
        induction r with
        | zero =>
          intro x hx
          have hx' : x = nM N := by omega
          subst hx'
          simp (disch := first | exact is2I | exact is2R | omega) only [z_X9_isWay_10, z_X9_isWay_12, z_X9_isWay_13, z_X9_isWay_16, z_X9_isWay_97, z_X9_isWay_98, i_many h, kLe, Nat.le_refl, rk_b0, true_and, Option.toList_some, Option.toList_none, List.cons_append, List.nil_append, is2IT, is2RT, if_true, if_false]
          exact Iff.rfl
        | succ r ihr =>
          intro x hx
          have cx : ¬ nM N ≤ x := by omega
          have i1 := ihr (x + 1) (by omega)
          rw [List.range'_succ, List.any_cons]
          cases cg : g.testBit x with
          | true =>
            simp (disch := first | exact is2I | exact is2R | omega) only [z_X9_isWay_10, z_X9_isWay_12, z_X9_isWay_13, z_X9_isWay_16, z_X9_isWay_19, z_X9_isWay_21, z_X9_isWay_23, z_X9_isWay_26, z_X9_isWay_91, i_many h, kLe, cx, m_has (show g < 2 ^ 31 by omega) (show x < 31 by omega), cg, b2_0, kAL, not_true_eq_false, Bool.not_true, Bool.false_and, Bool.false_or, true_and, Option.toList_some, Option.toList_none, List.cons_append, List.nil_append, is2IT, is2RT, if_true, if_false]
            rw [z_X9_isWay_94, i1]
          | false =>
            have cu : unseen (g ||| 2 ^ x) (nM N) < unseen g (nM N) := unseen_le (List.mem_range'_1.mpr ⟨by omega, by omega⟩) cg
            have hg2 : g ||| 2 ^ x < 128 := Nat.or_lt_two_pow (n := 7) hg (Nat.pow_lt_pow_right (by decide) (by omega))
            have i2 := fun Q => ih (some n) x (g ||| 2 ^ x) (by omega) (by omega) hg2 (fun a q => by cases q; exact h2) d Q σ h
            rw [oI_ss] at i2
            have tail : At (d + f + 12) kX9_isWay 71 [vR 97 9, vI (oI fr), vI (nI n), vI (nI e), vI (nI g), vI (nI x)] [] σ Q ↔ Q (some (vI (b2 ((way N f (some n) x e (g ||| 2 ^ x) || (List.range' (x + 1) r).any fun x => !g.testBit x && ((ovr N n x || ovr N x n) && (gate N fr n x && way N f (some n) x e (g ||| 2 ^ x)))) = true)))) σ := by
              simp (disch := first | exact is2I | exact is2R | omega) only [z_X9_isWay_71, z_X9_isWay_72, z_X9_isWay_73, z_X9_isWay_75, z_X9_isWay_76, z_X9_isWay_78, z_X9_isWay_79, z_X9_isWay_81, z_X9_isWay_82, z_X9_isWay_83, z_X9_isWay_86, z_X9_isWay_89, z_X9_isWay_90, z_X9_isWay_91, kShl x (by omega), kOr, i2, b2_0, kAL, rk_b1, true_and, Option.toList_some, Option.toList_none, List.cons_append, List.nil_append, is2IT, is2RT, if_true, if_false]
              rw [z_X9_isWay_94, i1]
              cases way N f (some n) x e (g ||| 2 ^ x) with
              | true => simp only [not_true_eq_false, if_false, Bool.true_or]; exact Iff.rfl
              | false => simp only [Bool.false_eq_true, not_false_eq_true, if_true, Bool.false_or]
            have t2 : At (d + f + 12) kX9_isWay 52 [vR 97 9, vI (oI fr), vI (nI n), vI (nI e), vI (nI g), vI (nI x)] [] σ Q ↔ Q (some (vI (b2 (((gate N fr n x && way N f (some n) x e (g ||| 2 ^ x)) || (List.range' (x + 1) r).any fun x => !g.testBit x && ((ovr N n x || ovr N x n) && (gate N fr n x && way N f (some n) x e (g ||| 2 ^ x)))) = true)))) σ := by
              cases fr with
              | none =>
                simp (disch := first | exact is2I | exact is2R | omega) only [z_X9_isWay_52, z_X9_isWay_53, z_X9_isWay_54, efr, oI_nn, true_and, Option.toList_some, Option.toList_none, List.cons_append, List.nil_append, is2IT, is2RT, if_true, if_false]
                rw [oI_nn] at tail
                rw [tail]
                simp only [gate, Bool.true_and]
              | some a =>
                have ha := hfr a rfl
                rw [oI_ss] at tail i1 ⊢
                simp (disch := first | exact is2I | exact is2R | omega) only [z_X9_isWay_52, z_X9_isWay_53, z_X9_isWay_54, z_X9_isWay_57, z_X9_isWay_58, z_X9_isWay_59, z_X9_isWay_60, z_X9_isWay_62, z_X9_isWay_65, z_X9_isWay_68, kM1, m_isThrough (d := d + f + 1) h h2 (show a < 31 by omega) (show x < 31 by omega), b2_0, true_and, Option.toList_some, Option.toList_none, List.cons_append, List.nil_append, is2IT, is2RT, if_true, if_false]
                rw [tail]
                show _ ↔ Q (some (vI (b2 (((thr N a n x && way N f (some n) x e (g ||| 2 ^ x)) || _) = true)))) σ
                cases thr N a n x with
                | true => simp only [not_true_eq_false, if_false, Bool.true_and]
                | false =>
                  simp (disch := first | exact is2I | exact is2R | omega) only [z_X9_isWay_91, Bool.false_eq_true, not_false_eq_true, if_true, Bool.false_and, Bool.false_or, kAL, true_and, Option.toList_some, Option.toList_none, List.cons_append, List.nil_append, is2IT, is2RT, if_true, if_false]
                  rw [z_X9_isWay_94, i1]
            simp (disch := first | exact is2I | exact is2R | omega) only [z_X9_isWay_10, z_X9_isWay_12, z_X9_isWay_13, z_X9_isWay_16, z_X9_isWay_19, z_X9_isWay_21, z_X9_isWay_23, z_X9_isWay_26, z_X9_isWay_29, z_X9_isWay_30, z_X9_isWay_31, z_X9_isWay_33, z_X9_isWay_36, z_X9_isWay_39, z_X9_isWay_40, z_X9_isWay_42, z_X9_isWay_43, z_X9_isWay_46, z_X9_isWay_49, i_many h, kLe, cx, m_has (show g < 2 ^ 31 by omega) (show x < 31 by omega), cg, m_isOver h (show x < nM N by omega) (show n < 31 by omega), m_isOver h h2 (show x < 31 by omega), b2_0, Bool.false_eq_true, not_false_eq_true, not_true_eq_false, Bool.not_false, Bool.true_and, t2, true_and, Option.toList_some, Option.toList_none, List.cons_append, List.nil_append, is2IT, is2RT, if_true, if_false]
            cases ovr N n x with
            | true => simp only [not_true_eq_false, if_false, Bool.true_or, Bool.true_and]
            | false =>
              simp only [Bool.false_eq_true, not_false_eq_true, if_true, Bool.false_or]
              cases ovr N x n with
              | true => simp only [not_true_eq_false, if_false, Bool.true_and]
              | false =>
                simp (disch := first | exact is2I | exact is2R | omega) only [z_X9_isWay_91, Bool.false_eq_true, not_false_eq_true, if_true, Bool.false_and, Bool.false_or, kAL, true_and, Option.toList_some, Option.toList_none, List.cons_append, List.nil_append, is2IT, is2RT, if_true, if_false]
                rw [z_X9_isWay_94, i1]
      exact loop (nM N) 0 (by omega)
def apF (N : Net) (n o : Int32) : Int32 := match pN (nM N) n with
  | none => -2
  | some k => match pN (nM N) o with
    | none => -2
    | some j => if k = j then -2 else if ¬ nF1 N k = none ∨ ¬ nF1 N j = none then 1 else if way N 7 none k j (2 ^ k) = true then 0 else 1
theorem unseen_1 : ∀ k, k < 7 → ∀ m, m ≤ 7 → unseen (2 ^ k) m < 7 := by decide
theorem m_apart {d : Nat} {Q : Option PV → St → Prop} {σ : St} {N : Net} {n o : Int32} (h : MI σ N) (hQ : Q (some (vI (apF N n o))) σ) : Ca (d + 20) 182 [vR 97 9, vI n, vI o] σ Q := by
  have h7 := MI_7 h
  rw [ca_at (K := kX9_apart) (ls := [vR 97 9, vI n, vI o]) rfl rfl rfl]
  unfold apF at hQ
  cases hp : pN (nM N) n with
  | none =>
    rw [hp] at hQ
    have hP := pN_none.mp hp
    simp (disch := first | exact is2I | exact is2R | omega) only [z_X9_apart_0, z_X9_apart_1, z_X9_apart_2, z_X9_apart_5, z_X9_apart_8, z_X9_apart_9, z_X9_apart_10, z_X9_apart_13, z_X9_apart_16, z_X9_apart_17, z_X9_apart_18, z_X9_apart_21, z_X9_apart_23, z_X9_apart_24, z_X9_apart_25, z_X9_apart_26, z_X9_apart_27, z_X9_apart_30, z_X9_apart_31, z_X9_apart_34, z_X9_apart_35, z_X9_apart_36, z_X9_apart_37, z_X9_apart_40, z_X9_apart_41, z_X9_apart_44, z_X9_apart_45, z_X9_apart_46, z_X9_apart_47, z_X9_apart_48, z_X9_apart_49, z_X9_apart_50, z_X9_apart_51, z_X9_apart_52, z_X9_apart_53, z_X9_apart_56, z_X9_apart_59, z_X9_apart_60, z_X9_apart_63, z_X9_apart_64, i_isNode h, b2_0, hP, not_false_eq_true, true_and, Option.toList_some, Option.toList_none, List.cons_append, List.nil_append, is2IT, is2RT, if_true, if_false]
    exact hQ
  | some k =>
    rw [hp] at hQ
    obtain ⟨hk, rfl⟩ := (pN_some (by omega)).mp hp
    have hP : 0 ≤ nI k ∧ nI k < nI (nM N) := (lt_nI (by omega)).mpr ⟨k, hk, rfl⟩
    cases hp2 : pN (nM N) o with
    | none =>
      rw [hp2] at hQ
      have hP2 := pN_none.mp hp2
      simp (disch := first | exact is2I | exact is2R | omega) only [z_X9_apart_0, z_X9_apart_1, z_X9_apart_2, z_X9_apart_5, z_X9_apart_8, z_X9_apart_9, z_X9_apart_10, z_X9_apart_13, z_X9_apart_16, z_X9_apart_17, z_X9_apart_18, z_X9_apart_21, z_X9_apart_23, z_X9_apart_24, z_X9_apart_25, z_X9_apart_26, z_X9_apart_27, z_X9_apart_30, z_X9_apart_31, z_X9_apart_34, z_X9_apart_35, z_X9_apart_36, z_X9_apart_37, z_X9_apart_40, z_X9_apart_41, z_X9_apart_44, z_X9_apart_45, z_X9_apart_46, z_X9_apart_47, z_X9_apart_48, z_X9_apart_49, z_X9_apart_50, z_X9_apart_51, z_X9_apart_52, z_X9_apart_53, z_X9_apart_56, z_X9_apart_59, z_X9_apart_60, z_X9_apart_63, z_X9_apart_64, i_isNode h, b2_0, hP, hP2, and_self, not_true_eq_false, not_false_eq_true, true_and, Option.toList_some, Option.toList_none, List.cons_append, List.nil_append, is2IT, is2RT, if_true, if_false]
      exact hQ
    | some j =>
      rw [hp2] at hQ
      dsimp only at hQ
      obtain ⟨hj, rfl⟩ := (pN_some (by omega)).mp hp2
      have hP2 : 0 ≤ nI j ∧ nI j < nI (nM N) := (lt_nI (by omega)).mpr ⟨j, hj, rfl⟩
      have e1 := oI_none' (NV_f h.2.2 hk)
      have e2 := oI_none' (NV_f h.2.2 hj)
      have hg : 2 ^ k < 128 := Nat.pow_lt_pow_right (n := 7) (by decide) (by omega)
      have iw := fun Q => m_isWay hj 7 none k (2 ^ k) (unseen_1 k (by omega) _ h7) hk hg (fun a q => by cases q) d Q σ h
      rw [oI_nn] at iw
      simp (disch := first | exact is2I | exact is2R | omega) only [z_X9_apart_0, z_X9_apart_1, z_X9_apart_2, z_X9_apart_5, z_X9_apart_8, z_X9_apart_9, z_X9_apart_10, z_X9_apart_13, z_X9_apart_16, z_X9_apart_17, z_X9_apart_18, i_isNode h, b2_0, hP, hP2, and_self, not_true_eq_false, kEq, true_and, Option.toList_some, Option.toList_none, List.cons_append, List.nil_append, is2IT, is2RT, if_true, if_false]
      by_cases c1 : k = j
      · rw [if_pos c1] at hQ ⊢
        simp only [z_X9_apart_21, z_X9_apart_23, true_and, Option.toList_some, Option.toList_none, List.cons_append, List.nil_append, is2IT, is2RT, if_true, if_false]
        exact hQ
      · rw [if_neg c1] at hQ ⊢
        simp (disch := first | exact is2I | exact is2R | omega) only [z_X9_apart_24, z_X9_apart_25, z_X9_apart_26, z_X9_apart_27, z_X9_apart_30, z_X9_apart_31, z_X9_apart_34, z_X9_apart_35, z_X9_apart_36, z_X9_apart_37, z_X9_apart_40, z_X9_apart_41, z_X9_apart_44, z_X9_apart_45, z_X9_apart_46, z_X9_apart_47, z_X9_apart_48, z_X9_apart_49, z_X9_apart_50, z_X9_apart_51, z_X9_apart_52, z_X9_apart_53, z_X9_apart_56, z_X9_apart_59, z_X9_apart_60, z_X9_apart_63, z_X9_apart_64, i_is4 h hk, i_is4 h hj, e1, e2, kShl k (by omega), iw, b2_0, true_and, Option.toList_some, Option.toList_none, List.cons_append, List.nil_append, is2IT, is2RT, if_true, if_false]
        by_cases c2 : nF1 N k = none
        · rw [if_pos c2]
          by_cases c3 : nF1 N j = none
          · rw [if_pos c3]
            rw [if_neg (fun q => q.elim (fun w => w c2) (fun w => w c3))] at hQ
            by_cases c4 : way N 7 none k j (2 ^ k) = true
            · rw [if_pos c4] at hQ
              rw [if_neg (fun q => q c4)]
              exact hQ
            · rw [if_neg c4] at hQ
              rw [if_pos c4]
              exact hQ
          · rw [if_neg c3]
            rw [if_pos (Or.inr c3)] at hQ
            exact hQ
        · rw [if_neg c2]
          rw [if_pos (Or.inl c2)] at hQ
          exact hQ
