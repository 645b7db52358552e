/-! ===== a word, a number: the reference ===== -/
def chP (P : Nat → Bool) (T : List Nat) (p : Nat) : Bool := match T[p]? with
  | none => false
  | some b => P b
theorem runT_s {P : Nat → Bool} {T : List Nat} {f p : Nat} : runT P T (f + 1) p = if chP P T p = true then runT P T f (p + 1) else p := by
  show (match T[p]? with | none => p | some b => if P b = true then runT P T f (p + 1) else p) = _
  unfold chP
  cases T[p]? with
  | none => rfl
  | some b => rfl
theorem chP_lt {P : Nat → Bool} {T : List Nat} {p : Nat} (h : chP P T p = true) : p < T.length := by
  unfold chP at h
  cases e : T[p]? with
  | none => rw [e] at h; cases h
  | some b => exact (List.getElem?_eq_some_iff.mp e).1
theorem chP_out {P : Nat → Bool} {T : List Nat} {p : Nat} (h : T.length ≤ p) : chP P T p = false := by
  unfold chP
  rw [List.getElem?_eq_none h]
theorem in_ch {T : List Nat} {p lo hi : Nat} (hT : ∀ i (h : i < T.length), T[i] < 256) (h1 : 0 < lo) (hlo : lo < 256) (hhi : hi < 256) : ((nI lo).toInt64 ≤ (btI T p).toInt64 ∧ (btI T p).toInt64 ≤ (nI hi).toInt64) = (chP (fun b => decide (lo ≤ b ∧ b ≤ hi)) T p = true) := by
  rw [i64_le, i64_le]
  unfold btI chP
  cases e : T[p]? with
  | none =>
    refine propext ⟨fun q => ?_, fun q => by cases q⟩
    have := q.1
    rw [Int32.le_iff_toInt_le, nI_toInt (by omega)] at this
    have e1 : (-1 : Int32).toInt = -1 := by decide
    dsimp only at this
    omega
  | some b =>
    have hp := List.getElem?_eq_some_iff.mp e
    have hb := hT p hp.1
    rw [hp.2] at hb
    dsimp only
    rw [propext (nI_leI (show lo < 2 ^ 31 by omega) (show b < 2 ^ 31 by omega)), propext (nI_leI (show b < 2 ^ 31 by omega) (show hi < 2 ^ 31 by omega))]
    exact propext ⟨fun q => decide_eq_true q, fun q => of_decide_eq_true q⟩
def wcR (T : List Nat) (a b : Nat) : Option Nat :=
  if isW T a b 110 111 100 101 0 = true then some 0 else if isW T a b 109 111 115 116 0 = true then some 1 else if isW T a b 108 101 97 115 116 = true then some 2 else if isW T a b 115 117 109 0 0 = true then some 3
  else if isW T a b 114 111 119 0 0 = true then some 4 else if isW T a b 116 111 108 100 0 = true then some 5 else if isW T a b 100 111 110 101 0 = true then some 6 else if isW T a b 104 105 110 116 0 = true then some 7 else none
def I789 (a i : Nat) : Bool := a.beq 97 && (i.beq 7 || (i.beq 8 || i.beq 9))
theorem I789_7 {a i : Nat} (h : I7 a i = true) : I789 a i = true := by
  unfold I7 at h
  unfold I789
  simp only [Bool.and_eq_true] at h
  rw [h.1, h.2]; rfl
theorem I789_89 {a i : Nat} (h : I89 a i = true) : I789 a i = true := by
  unfold I89 at h
  unfold I789
  simp only [Bool.and_eq_true] at h
  rw [h.1, h.2]
  exact Bool.or_true _
theorem wo_l {d a : Nat} {Q : Option PV → St → Prop} {σ0 : St} {T : List Nat} {E : Nat} (h : TPs σ0 T) (hQ : ∀ σ', Fm I7 noL σ0 σ' → rI σ' 97 7 = nI E → At (d + 3) kX9_word 43 [vR 97 9, vI (nI a)] [] σ' Q) : ∀ f p σ, T.length ≤ p + f → p ≤ T.length → Fm I7 noL σ0 σ → rI σ 97 7 = nI p → runT isLt T f p = E → At (d + 3) kX9_word 9 [vR 97 9, vI (nI a)] [] σ Q := by
  intro f
  induction f with
  | zero =>
    intro p σ hf hp hm ha he
    have hT := TPs_fm h hm rfl (fun _ => rfl)
    have h60 := hT.2.2.1
    have e := in_ch (T := T) (p := p) (lo := 97) (hi := 122) (tp_b h) (by decide) (by decide) (by decide)
    have e' : ((97 : Int64) ≤ (btI T p).toInt64 ∧ (btI T p).toInt64 ≤ (122 : Int64)) = False := by
      refine Eq.trans (show _ = ((nI 97).toInt64 ≤ (btI T p).toInt64 ∧ (btI T p).toInt64 ≤ (nI 122).toInt64) from rfl) (e.trans ?_)
      rw [chP_out (by omega)]
      exact eq_false (fun q => by cases q)
    have he' : p = E := he
    simp (disch := first | exact is2I | exact is2R | omega) only [z_X9_word_9, z_X9_word_10, z_X9_word_11, z_X9_word_14, z_X9_word_17, z_X9_word_18, z_X9_word_21, z_X9_word_24, z_X9_word_27, ha, m_byteAt hT (show p < 1000 by omega), m_in, e', b2_0, not_false_eq_true, true_and, Option.toList_some, Option.toList_none, List.cons_append, List.nil_append, is2IT, is2RT, if_true, if_false]
    exact hQ σ hm (by rw [ha, he'])
  | succ f ih =>
    intro p σ hf hp hm ha he
    have hT := TPs_fm h hm rfl (fun _ => rfl)
    have h60 := hT.2.2.1
    have e := in_ch (T := T) (p := p) (lo := 97) (hi := 122) (tp_b h) (by decide) (by decide) (by decide)
    have e' : ((97 : Int64) ≤ (btI T p).toInt64 ∧ (btI T p).toInt64 ≤ (122 : Int64)) = (chP isLt T p = true) := e
    rw [runT_s] at he
    simp (disch := first | exact is2I | exact is2R | omega) only [z_X9_word_9, z_X9_word_10, z_X9_word_11, z_X9_word_14, z_X9_word_17, z_X9_word_18, z_X9_word_21, z_X9_word_24, z_X9_word_27, ha, m_byteAt hT (show p < 1000 by omega), m_in, e', b2_0, true_and, Option.toList_some, Option.toList_none, List.cons_append, List.nil_append, is2IT, is2RT, if_true, if_false]
    by_cases c : chP isLt T p = true
    · rw [if_pos c] at he
      rw [if_neg (fun q => q c)]
      have hpl := chP_lt c
      simp (disch := first | exact is2I | exact is2R | omega) only [z_X9_word_30, z_X9_word_31, z_X9_word_32, z_X9_word_35, z_X9_word_36, z_X9_word_37, ha, kAL, true_and, Option.toList_some, Option.toList_none, List.cons_append, List.nil_append, is2IT, is2RT, if_true, if_false]
      rw [z_X9_word_40]
      exact ih (p + 1) _ (by omega) (by omega) (Fm_tr hm (Fm_wI rfl)) (by rw [rI_wI, if_pos ⟨rfl, rfl⟩]) he
    · rw [if_neg c] at he
      rw [if_pos c]
      exact hQ σ hm (by rw [ha, he])
theorem m_word {d p : Nat} {Q : Option PV → St → Prop} {σ : St} {T : List Nat} (h : TPs σ T) (hp : p ≤ T.length) (ha : rI σ 97 7 = nI p) (h8 : rI σ 97 8 = 0)
    (hQ : ∀ σ' w, wcR T (skp T p) (lts T (skp T p)) = some w → Fm I7 noL σ σ' → rI σ' 97 7 = nI (lts T (skp T p)) → Q (some (vI (nI w))) σ')
    (hN : wcR T (skp T p) (lts T (skp T p)) = none → ∀ σ', Fm I789 noL σ σ' → rI σ' 97 8 = 1 → rI σ' 97 9 = nI (skp T p) → Q (some (vI 0)) σ') : Ca (d + 4) 147 [vR 97 9] σ Q := by
  have h60 := h.2.2.1
  obtain ⟨s1, s2⟩ := runT_le (P := isBl) (T := T) 61 p hp
  obtain ⟨s3, s4⟩ := runT_le (P := isLt) (T := T) 61 (skp T p) s2
  rw [ca_at (K := kX9_word) (ls := [vR 97 9, vU]) rfl rfl rfl]
  simp only [z_X9_word_0, z_X9_word_1, true_and, Option.toList_some, Option.toList_none, List.cons_append, List.nil_append, is2IT, is2RT, if_true, if_false]
  refine m_blanks (d := d + 1) h hp ha (fun σ1 q1 q2 => ?_)
  have hT1 := TPs_fm h q1 rfl (fun _ => rfl)
  simp only [z_X9_word_4, z_X9_word_5, z_X9_word_8, q2, true_and, Option.toList_some, Option.toList_none, List.cons_append, List.nil_append, is2IT, is2RT, if_true, if_false]
  refine wo_l (d := d) (E := lts T (skp T p)) hT1 (fun σ2 q3 q4 => ?_) 61 (skp T p) σ1 (by omega) s2 Fm_rf q2 rfl
  have hT2 := TPs_fm hT1 q3 rfl (fun _ => rfl)
  have fr := Fm_tr q1 q3
  have hq := fun w e => hQ σ2 w e fr q4
  have mw := fun (l0 l1 l2 l3 l4 : Nat) (h0 : l0 < 256) (h1 : l1 < 256) (h2 : l2 < 256) (h3 : l3 < 256) (h4 : l4 < 256) => fun Q => @m_isWord d (skp T p) (lts T (skp T p)) l0 l1 l2 l3 l4 Q σ2 T hT2 q4 s3 (by show runT isLt T 61 (skp T p) ≤ 60; omega) h0 h1 h2 h3 h4
  have w0 : ∀ Q, Ca (d + 3) 146 [vR 97 9, vI (nI (skp T p)), vI 110, vI 111, vI 100, vI 101, vI 0] σ2 Q ↔ _ := mw 110 111 100 101 0 (by decide) (by decide) (by decide) (by decide) (by decide)
  have w1 : ∀ Q, Ca (d + 3) 146 [vR 97 9, vI (nI (skp T p)), vI 109, vI 111, vI 115, vI 116, vI 0] σ2 Q ↔ _ := mw 109 111 115 116 0 (by decide) (by decide) (by decide) (by decide) (by decide)
  have w2 : ∀ Q, Ca (d + 3) 146 [vR 97 9, vI (nI (skp T p)), vI 108, vI 101, vI 97, vI 115, vI 116] σ2 Q ↔ _ := mw 108 101 97 115 116 (by decide) (by decide) (by decide) (by decide) (by decide)
  have w3 : ∀ Q, Ca (d + 3) 146 [vR 97 9, vI (nI (skp T p)), vI 115, vI 117, vI 109, vI 0, vI 0] σ2 Q ↔ _ := mw 115 117 109 0 0 (by decide) (by decide) (by decide) (by decide) (by decide)
  have w4 : ∀ Q, Ca (d + 3) 146 [vR 97 9, vI (nI (skp T p)), vI 114, vI 111, vI 119, vI 0, vI 0] σ2 Q ↔ _ := mw 114 111 119 0 0 (by decide) (by decide) (by decide) (by decide) (by decide)
  have w5 : ∀ Q, Ca (d + 3) 146 [vR 97 9, vI (nI (skp T p)), vI 116, vI 111, vI 108, vI 100, vI 0] σ2 Q ↔ _ := mw 116 111 108 100 0 (by decide) (by decide) (by decide) (by decide) (by decide)
  have w6 : ∀ Q, Ca (d + 3) 146 [vR 97 9, vI (nI (skp T p)), vI 100, vI 111, vI 110, vI 101, vI 0] σ2 Q ↔ _ := mw 100 111 110 101 0 (by decide) (by decide) (by decide) (by decide) (by decide)
  have w7 : ∀ Q, Ca (d + 3) 146 [vR 97 9, vI (nI (skp T p)), vI 104, vI 105, vI 110, vI 116, vI 0] σ2 Q ↔ _ := mw 104 105 110 116 0 (by decide) (by decide) (by decide) (by decide) (by decide)
  simp only [z_X9_word_43, z_X9_word_44, z_X9_word_45, z_X9_word_47, z_X9_word_49, z_X9_word_51, z_X9_word_53, z_X9_word_54, z_X9_word_57, z_X9_word_60, z_X9_word_61, z_X9_word_62, z_X9_word_63, z_X9_word_64, z_X9_word_66, z_X9_word_68, z_X9_word_70, z_X9_word_72, z_X9_word_73, z_X9_word_76, z_X9_word_79, z_X9_word_80, z_X9_word_81, z_X9_word_82, z_X9_word_83, z_X9_word_85, z_X9_word_87, z_X9_word_89, z_X9_word_91, z_X9_word_93, z_X9_word_96, z_X9_word_99, z_X9_word_100, z_X9_word_101, z_X9_word_102, z_X9_word_103, z_X9_word_105, z_X9_word_107, z_X9_word_109, z_X9_word_110, z_X9_word_111, z_X9_word_114, z_X9_word_117, z_X9_word_118, z_X9_word_119, z_X9_word_120, z_X9_word_121, z_X9_word_123, z_X9_word_125, z_X9_word_127, z_X9_word_128, z_X9_word_129, z_X9_word_132, z_X9_word_135, z_X9_word_136, z_X9_word_137, z_X9_word_138, z_X9_word_139, z_X9_word_141, z_X9_word_143, z_X9_word_145, z_X9_word_147, z_X9_word_148, z_X9_word_151, z_X9_word_154, z_X9_word_155, z_X9_word_156, z_X9_word_157, z_X9_word_158, z_X9_word_160, z_X9_word_162, z_X9_word_164, z_X9_word_166, z_X9_word_167, z_X9_word_170, z_X9_word_173, z_X9_word_175, z_X9_word_176, z_X9_word_177, z_X9_word_178, z_X9_word_180, z_X9_word_182, z_X9_word_184, z_X9_word_186, z_X9_word_187, z_X9_word_190, z_X9_word_193, z_X9_word_195, w0, w1, w2, w3, w4, w5, w6, w7, b2_0, true_and, Option.toList_some, Option.toList_none, List.cons_append, List.nil_append, is2IT, is2RT, if_true, if_false]
  unfold wcR at hq hN
  by_cases c0 : isW T (skp T p) (lts T (skp T p)) 110 111 100 101 0 = true
  · rw [if_neg (fun q => q c0)]
    rw [if_pos c0] at hq
    exact hq 0 rfl
  rw [if_pos c0]
  rw [if_neg c0] at hq hN
  by_cases c1 : isW T (skp T p) (lts T (skp T p)) 109 111 115 116 0 = true
  · rw [if_neg (fun q => q c1)]
    rw [if_pos c1] at hq
    exact hq 1 rfl
  rw [if_pos c1]
  rw [if_neg c1] at hq hN
  by_cases c2 : isW T (skp T p) (lts T (skp T p)) 108 101 97 115 116 = true
  · rw [if_neg (fun q => q c2)]
    rw [if_pos c2] at hq
    exact hq 2 rfl
  rw [if_pos c2]
  rw [if_neg c2] at hq hN
  by_cases c3 : isW T (skp T p) (lts T (skp T p)) 115 117 109 0 0 = true
  · rw [if_neg (fun q => q c3)]
    rw [if_pos c3] at hq
    exact hq 3 rfl
  rw [if_pos c3]
  rw [if_neg c3] at hq hN
  by_cases c4 : isW T (skp T p) (lts T (skp T p)) 114 111 119 0 0 = true
  · rw [if_neg (fun q => q c4)]
    rw [if_pos c4] at hq
    exact hq 4 rfl
  rw [if_pos c4]
  rw [if_neg c4] at hq hN
  by_cases c5 : isW T (skp T p) (lts T (skp T p)) 116 111 108 100 0 = true
  · rw [if_neg (fun q => q c5)]
    rw [if_pos c5] at hq
    exact hq 5 rfl
  rw [if_pos c5]
  rw [if_neg c5] at hq hN
  by_cases c6 : isW T (skp T p) (lts T (skp T p)) 100 111 110 101 0 = true
  · rw [if_neg (fun q => q c6)]
    rw [if_pos c6] at hq
    exact hq 6 rfl
  rw [if_pos c6]
  rw [if_neg c6] at hq hN
  by_cases c7 : isW T (skp T p) (lts T (skp T p)) 104 105 110 116 0 = true
  · rw [if_neg (fun q => q c7)]
    rw [if_pos c7] at hq
    exact hq 7 rfl
  rw [if_pos c7]
  rw [if_neg c7] at hN
  simp only [z_X9_word_196, z_X9_word_197, z_X9_word_198, true_and, Option.toList_some, Option.toList_none, List.cons_append, List.nil_append, is2IT, is2RT, if_true, if_false]
  refine m_wrong (d := d + 2) (by rw [fr.1 97 8 rfl]; exact h8) (fun σ3 q5 q6 q7 => ?_)
  simp only [z_X9_word_201, z_X9_word_202, true_and, Option.toList_some, Option.toList_none, List.cons_append, List.nil_append, is2IT, is2RT, if_true, if_false]
  exact hN rfl σ3 (Fm_tr (Fm_mono fr (fun a i => I789_7) (fun _ q => q)) (Fm_mono q5 (fun a i => I789_89) (fun _ q => q))) q6 q7
/-- digits from p on: where they end, the number of the first two -/
def numT (T : List Nat) (a : Nat) : Nat → Nat → Nat → Nat
  | 0, _, v => v
  | f + 1, p, v => match T[p]? with
    | none => v
    | some b => if isDg b = true then numT T a f (p + 1) (if p - a < 2 then 10 * v + b - 48 else v) else v
def numV (T : List Nat) (a : Nat) : Nat := numT T a 61 a 0
theorem nu_l {d a : Nat} {Q : Option PV → St → Prop} {σ0 : St} {T : List Nat} {E V : Nat} (h : TPs σ0 T) (hQ : ∀ σ', Fm I7 noL σ0 σ' → rI σ' 97 7 = nI E → At (d + 3) kX9_number 77 [vR 97 9, vI (nI a), vI (nI V)] [] σ' Q) : ∀ f p v σ, T.length ≤ p + f → a ≤ p → p ≤ T.length → Fm I7 noL σ0 σ → rI σ 97 7 = nI p → runT isDg T f p = E → numT T a f p v = V → At (d + 3) kX9_number 11 [vR 97 9, vI (nI a), vI (nI v)] [] σ Q := by
  intro f
  induction f with
  | zero =>
    intro p v σ hf hap hp hm ha he hv
    have hT := TPs_fm h hm rfl (fun _ => rfl)
    have h60 := hT.2.2.1
    have e := in_ch (T := T) (p := p) (lo := 48) (hi := 57) (tp_b h) (by decide) (by decide) (by decide)
    have e' : ((48 : Int64) ≤ (btI T p).toInt64 ∧ (btI T p).toInt64 ≤ (57 : Int64)) = False := by
      refine Eq.trans (show _ = ((nI 48).toInt64 ≤ (btI T p).toInt64 ∧ (btI T p).toInt64 ≤ (nI 57).toInt64) from rfl) (e.trans ?_)
      rw [chP_out (by omega)]
      exact eq_false (fun q => by cases q)
    have he' : p = E := he
    have hv' : v = V := hv
    simp (disch := first | exact is2I | exact is2R | omega) only [z_X9_number_11, z_X9_number_12, z_X9_number_13, z_X9_number_16, z_X9_number_19, z_X9_number_20, z_X9_number_23, z_X9_number_26, z_X9_number_29, ha, m_byteAt hT (show p < 1000 by omega), m_in, e', b2_0, not_false_eq_true, true_and, Option.toList_some, Option.toList_none, List.cons_append, List.nil_append, is2IT, is2RT, if_true, if_false]
    rw [hv']
    exact hQ σ hm (by rw [ha, he'])
  | succ f ih =>
    intro p v σ hf hap hp hm ha he hv
    have hT := TPs_fm h hm rfl (fun _ => rfl)
    have hF := hT.1
    have h60 := hT.2.2.1
    have e := in_ch (T := T) (p := p) (lo := 48) (hi := 57) (tp_b h) (by decide) (by decide) (by decide)
    have e' : ((48 : Int64) ≤ (btI T p).toInt64 ∧ (btI T p).toInt64 ≤ (57 : Int64)) = (chP isDg T p = true) := e
    rw [runT_s] at he
    have hv' : (match T[p]? with | none => v | some b => if isDg b = true then numT T a f (p + 1) (if p - a < 2 then 10 * v + b - 48 else v) else v) = V := hv
    simp (disch := first | exact is2I | exact is2R | omega) only [z_X9_number_11, z_X9_number_12, z_X9_number_13, z_X9_number_16, z_X9_number_19, z_X9_number_20, z_X9_number_23, z_X9_number_26, z_X9_number_29, ha, m_byteAt hT (show p < 1000 by omega), m_in, e', b2_0, true_and, Option.toList_some, Option.toList_none, List.cons_append, List.nil_append, is2IT, is2RT, if_true, if_false]
    by_cases c : chP isDg T p = true
    · rw [if_pos c] at he
      rw [if_neg (fun q => q c)]
      have hpl := chP_lt c
      have eg : T[p]? = some T[p] := List.getElem?_eq_getElem hpl
      have cd : isDg T[p] = true := by
        unfold chP at c
        rw [eg] at c
        exact c
      rw [eg] at hv'
      dsimp only at hv'
      rw [if_pos cd] at hv'
      have hd := of_decide_eq_true cd
      have hr := (hT.2.2.2 p hpl).1
      have es : nI p - nI a = nI (p - a) := pk_sub hap
      have ep : nI p + (1 : Int32) = nI (p + 1) := nI_add p 1
      have nx : ∀ v2, numT T a f (p + 1) v2 = V → At (d + 3) kX9_number 63 [vR 97 9, vI (nI a), vI (nI v)] [vI (nI v2)] σ Q := fun v2 hv2 => by
        simp (disch := first | exact is2I | exact is2R | omega) only [z_X9_number_63, z_X9_number_64, z_X9_number_65, z_X9_number_66, z_X9_number_69, z_X9_number_70, z_X9_number_71, ha, ep, true_and, Option.toList_some, Option.toList_none, List.cons_append, List.nil_append, is2IT, is2RT, if_true, if_false]
        rw [z_X9_number_74]
        exact ih (p + 1) v2 _ (by omega) (by omega) (by omega) (Fm_tr hm (Fm_wI rfl)) (by rw [rI_wI, if_pos ⟨rfl, rfl⟩]) he hv2
      simp (disch := first | exact is2I | exact is2R | omega) only [z_X9_number_32, z_X9_number_33, z_X9_number_36, z_X9_number_37, z_X9_number_38, z_X9_number_39, ha, es, kLLe, true_and, Option.toList_some, Option.toList_none, List.cons_append, List.nil_append, is2IT, is2RT, if_true, if_false]
      by_cases c2 : p - a < 2
      · rw [if_pos c2] at hv'
        rw [if_neg (by omega)]
        simp (disch := first | exact is2I | exact is2R | omega) only [z_X9_number_42, z_X9_number_44, z_X9_number_45, z_X9_number_46, z_X9_number_47, z_X9_number_50, z_X9_number_51, z_X9_number_54, z_X9_number_55, z_X9_number_56, z_X9_number_58, z_X9_number_59, mf_r1 hF, mf_r2 hF, mf_r3 hF, mf_r5 hF, mf_r10 hF, mf_r11 hF, mf_r13 hF, mf_r15 hF, mf_r16 hF, mf_r19 hF, mf_r21 hF, mf_r22 hF, mf_r23 hF, mf_r24 hF, mf_r25 hF, mf_r26 hF, mf_r27 hF, mf_r29 hF, mf_r30 hF, mf_r31 hF, mf_r32 hF, mf_s98 hF, mf_s99 hF, mf_s100 hF, mf_s101 hF, mf_s102 hF, mf_s103 hF, mf_s104 hF, mf_s105 hF, mf_s106 hF, mf_s107 hF, mf_s108 hF, mf_s109 hF, mf_s110 hF, mf_s111 hF, mf_s112 hF, mf_s113 hF, mf_s114 hF, mf_s115 hF, mf_s116 hF, mf_s117 hF, mf_s118 hF, ha, kIn, kCl, hr, kLM, nI_add, kSL, true_and, Option.toList_some, Option.toList_none, List.cons_append, List.nil_append, is2IT, is2RT, if_true, if_false]
        exact nx _ hv'
      · rw [if_neg c2] at hv'
        rw [if_pos (by omega)]
        simp (disch := first | exact is2I | exact is2R | omega) only [z_X9_number_62, true_and, Option.toList_some, Option.toList_none, List.cons_append, List.nil_append, is2IT, is2RT, if_true, if_false]
        exact nx _ hv'
    · rw [if_neg c] at he
      rw [if_pos c]
      have : v = V := by
        rw [← hv']
        unfold chP at c
        cases eg : T[p]? with
        | none => rfl
        | some b => rw [eg] at c; dsimp only; rw [if_neg c]
      rw [this]
      exact hQ σ hm (by rw [ha, he])
theorem m_number {d p : Nat} {Q : Option PV → St → Prop} {σ : St} {T : List Nat} (h : TPs σ T) (hp : p ≤ T.length) (ha : rI σ 97 7 = nI p) (h8 : rI σ 97 8 = 0)
    (hQ : skp T p < dgs T (skp T p) ∧ dgs T (skp T p) ≤ skp T p + 2 → ∀ σ', Fm I7 noL σ σ' → rI σ' 97 7 = nI (dgs T (skp T p)) → Q (some (vI (nI (numV T (skp T p))))) σ')
    (hN : ¬ (skp T p < dgs T (skp T p) ∧ dgs T (skp T p) ≤ skp T p + 2) → ∀ σ' v, Fm I789 noL σ σ' → rI σ' 97 8 = 1 → rI σ' 97 9 = nI (skp T p) → rI σ' 97 7 = nI (dgs T (skp T p)) → Q (some (vI v)) σ') : Ca (d + 4) 148 [vR 97 9] σ Q := by
  have h60 := h.2.2.1
  obtain ⟨s1, s2⟩ := runT_le (P := isBl) (T := T) 61 p hp
  obtain ⟨s3, s4⟩ := runT_le (P := isDg) (T := T) 61 (skp T p) s2
  have s5 : skp T p ≤ 60 := by show runT isBl T 61 p ≤ 60; omega
  have s6 : dgs T (skp T p) ≤ 60 := by show runT isDg T 61 (skp T p) ≤ 60; omega
  have s7 : skp T p ≤ dgs T (skp T p) := s3
  rw [ca_at (K := kX9_number) (ls := [vR 97 9, vU, vU]) rfl rfl rfl]
  simp only [z_X9_number_0, z_X9_number_1, true_and, Option.toList_some, Option.toList_none, List.cons_append, List.nil_append, is2IT, is2RT, if_true, if_false]
  refine m_blanks (d := d + 1) h hp ha (fun σ1 q1 q2 => ?_)
  have hT1 := TPs_fm h q1 rfl (fun _ => rfl)
  simp only [z_X9_number_4, z_X9_number_5, z_X9_number_8, z_X9_number_9, z_X9_number_10, q2, true_and, Option.toList_some, Option.toList_none, List.cons_append, List.nil_append, is2IT, is2RT, if_true, if_false]
  refine nu_l (d := d) (E := dgs T (skp T p)) (V := numV T (skp T p)) hT1 (fun σ2 q3 q4 => ?_) 61 (skp T p) 0 σ1 (by omega) (Nat.le_refl _) s2 Fm_rf q2 rfl rfl
  have fr := Fm_tr q1 q3
  have es : nI (dgs T (skp T p)) - nI (skp T p) = nI (dgs T (skp T p) - skp T p) := pk_sub s7
  have bad : ¬ (skp T p < dgs T (skp T p) ∧ dgs T (skp T p) ≤ skp T p + 2) → At (d + 3) kX9_number 95 [vR 97 9, vI (nI (skp T p)), vI (nI (numV T (skp T p)))] [] σ2 Q := fun c => by
    simp only [z_X9_number_95, z_X9_number_96, z_X9_number_97, true_and, Option.toList_some, Option.toList_none, List.cons_append, List.nil_append, is2IT, is2RT, if_true, if_false]
    refine m_wrong (d := d + 2) (by rw [fr.1 97 8 rfl]; exact h8) (fun σ3 q5 q6 q7 => ?_)
    simp only [z_X9_number_100, z_X9_number_101, Option.toList_none, List.nil_append, true_and, Option.toList_some, Option.toList_none, List.cons_append, List.nil_append, is2IT, is2RT, if_true, if_false]
    exact hN c σ3 _ (Fm_tr (Fm_mono fr (fun a i => I789_7) (fun _ q => q)) (Fm_mono q5 (fun a i => I789_89) (fun _ q => q))) q6 q7 (by rw [q5.1 97 7 rfl]; exact q4)
  simp (disch := first | exact is2I | exact is2R | omega) only [z_X9_number_77, z_X9_number_78, z_X9_number_81, z_X9_number_82, z_X9_number_85, z_X9_number_86, z_X9_number_89, z_X9_number_90, z_X9_number_91, z_X9_number_92, q4, kEq, es, kLeL, true_and, Option.toList_some, Option.toList_none, List.cons_append, List.nil_append, is2IT, is2RT, if_true, if_false]
  by_cases c1 : dgs T (skp T p) = skp T p
  · rw [if_pos c1]
    exact bad (fun q => by omega)
  · rw [if_neg c1]
    by_cases c2 : dgs T (skp T p) - skp T p ≤ 2
    · rw [if_pos c2]
      simp only [z_X9_number_100, z_X9_number_101, true_and, Option.toList_some, Option.toList_none, List.cons_append, List.nil_append, is2IT, is2RT, if_true, if_false]
      exact hQ ⟨by omega, by omega⟩ σ2 fr q4
    · rw [if_neg c2]
      exact bad (fun q => by omega)
