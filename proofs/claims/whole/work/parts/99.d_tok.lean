/-! ===== the tape read token by token: the class ===== -/
def Itk (a i : Nat) : Bool := decide (a = 83 ∧ 2 ≤ i ∧ i ≤ 5)
theorem tpC_tk {σ σ' : St} {T : List Nat} (h : tpC σ T) (hf : Fm Itk noL σ σ') : tpC σ' T := tpC_fm h hf (decide_eq_false (by omega)) (fun i => decide_eq_false (by omega))
theorem lt_nd {T : List Nat} {b : Nat} (h : chP isLt T b = true) : chP isDg T b = false ∧ ¬ T[b]? = some 59 := by
  unfold chP at *
  cases e : T[b]? with
  | none => rw [e] at h; cases h
  | some c =>
    rw [e] at h
    have h' : 97 ≤ c ∧ c ≤ 122 := of_decide_eq_true h
    exact ⟨decide_eq_false (by omega), fun q => (by cases q; omega)⟩
theorem dg_ns {T : List Nat} {b : Nat} (h : chP isDg T b = true) : ¬ T[b]? = some 59 := by
  unfold chP at h
  intro q
  rw [q] at h
  exact absurd (of_decide_eq_true h) (by decide)
theorem run_0 {P : Nat → Bool} {T : List Nat} {b : Nat} (h : chP P T b = false) : runT P T 61 b = b := by
  rw [show (61 : Nat) = 60 + 1 from rfl, runT_s, if_neg (by rw [h]; exact fun q => by cases q)]
theorem run_1 {P : Nat → Bool} {T : List Nat} {b : Nat} (h : chP P T b = true) : b < runT P T 61 b ∧ runT P T 61 b ≤ T.length := by
  have hb := chP_lt h
  rw [show (61 : Nat) = 60 + 1 from rfl, runT_s, if_pos h]
  have := runT_le (P := P) (T := T) 60 (b + 1) (by omega)
  omega
def tokK (T : List Nat) (b : Nat) : Nat := if T.length ≤ b then 0 else if chP isLt T b = true then (if (wcR T b (lts T b)).isSome = true then 1 else 4) else if chP isDg T b = true then (if dgs T b ≤ b + 2 then 2 else 4) else if T[b]? = some 59 then 3 else 4
def tokE (T : List Nat) (b : Nat) : Nat := if T.length ≤ b then b else if chP isLt T b = true then lts T b else if chP isDg T b = true then dgs T b else b + 1
theorem tk_0 {T : List Nat} {b : Nat} : tokK T b = 0 ↔ T.length ≤ b := by
  unfold tokK
  by_cases c0 : T.length ≤ b
  · rw [if_pos c0]; exact ⟨fun _ => c0, fun _ => rfl⟩
  · rw [if_neg c0]
    refine ⟨fun q => ?_, fun q => absurd q c0⟩
    split at q
    · split at q <;> cases q
    · split at q
      · split at q <;> cases q
      · split at q <;> cases q
theorem tk_1 {T : List Nat} {b : Nat} : tokK T b = 1 ↔ (wcR T b (lts T b)).isSome = true := by
  unfold tokK
  by_cases c1 : chP isLt T b = true
  · rw [if_neg (by have := chP_lt c1; omega), if_pos c1]
    by_cases c2 : (wcR T b (lts T b)).isSome = true
    · rw [if_pos c2]; exact ⟨fun _ => c2, fun _ => rfl⟩
    · rw [if_neg c2]; exact ⟨fun q => (by cases q), fun q => absurd q c2⟩
  · have e : lts T b = b := run_0 (Bool.eq_false_iff.mpr c1)
    have n : ¬ (wcR T b (lts T b)).isSome = true := fun q => by
      obtain ⟨w, hw⟩ := Option.isSome_iff_exists.mp q
      have := (wcR_3 hw).1
      omega
    refine ⟨fun q => ?_, fun q => absurd q n⟩
    rw [if_neg c1] at q
    split at q
    · cases q
    · split at q
      · split at q <;> cases q
      · split at q <;> cases q
theorem tk_2 {T : List Nat} {p : Nat} : tokK T (skp T p) = 2 ↔ okN2 T p = true := by
  unfold tokK okN2
  rw [decide_eq_true_eq]
  generalize skp T p = b
  by_cases c2 : chP isDg T b = true
  · have c1 : ¬ chP isLt T b = true := fun q => by rw [(lt_nd q).1] at c2; cases c2
    have r := run_1 c2
    rw [if_neg (by have := chP_lt c2; omega), if_neg c1, if_pos c2]
    by_cases c3 : dgs T b ≤ b + 2
    · rw [if_pos c3]; exact ⟨fun _ => ⟨r.1, c3⟩, fun _ => rfl⟩
    · rw [if_neg c3]; exact ⟨fun q => (by cases q), fun q => absurd q.2 c3⟩
  · have e : dgs T b = b := run_0 (Bool.eq_false_iff.mpr c2)
    refine ⟨fun q => ?_, fun q => by omega⟩
    rw [if_neg c2] at q
    split at q
    · cases q
    · split at q
      · split at q <;> cases q
      · split at q <;> cases q
theorem tk_3 {T : List Nat} {b : Nat} : tokK T b = 3 ↔ T[b]? = some 59 := by
  unfold tokK
  by_cases c1 : chP isLt T b = true
  · rw [if_neg (by have := chP_lt c1; omega), if_pos c1]
    exact ⟨fun q => (by split at q <;> cases q), fun q => absurd q (lt_nd c1).2⟩
  · rw [if_neg c1]
    by_cases c2 : chP isDg T b = true
    · rw [if_neg (by have := chP_lt c2; omega), if_pos c2]
      exact ⟨fun q => (by split at q <;> cases q), fun q => absurd q (dg_ns c2)⟩
    · rw [if_neg c2]
      by_cases c0 : T.length ≤ b
      · rw [if_pos c0]
        exact ⟨fun q => (by cases q), fun q => by rw [List.getElem?_eq_none c0] at q; cases q⟩
      · rw [if_neg c0]
        by_cases c3 : T[b]? = some 59
        · rw [if_pos c3]; exact ⟨fun _ => c3, fun _ => rfl⟩
        · rw [if_neg c3]; exact ⟨fun q => (by cases q), fun q => absurd q c3⟩
theorem te_1 {T : List Nat} {b : Nat} (h : tokK T b = 1) : tokE T b = lts T b ∧ b < lts T b ∧ lts T b ≤ T.length := by
  obtain ⟨w, hw⟩ := Option.isSome_iff_exists.mp (tk_1.mp h)
  have w3 := (wcR_3 hw).1
  have c1 : chP isLt T b = true := by
    cases e : chP isLt T b with
    | true => rfl
    | false =>
      have : lts T b = b := run_0 e
      omega
  have r := run_1 c1
  unfold tokE
  rw [if_neg (by have := chP_lt c1; omega), if_pos c1]
  exact ⟨rfl, r⟩
theorem te_2 {T : List Nat} {p : Nat} (h : tokK T (skp T p) = 2) : tokE T (skp T p) = dgs T (skp T p) ∧ skp T p < dgs T (skp T p) ∧ dgs T (skp T p) ≤ T.length ∧ dgs T (skp T p) ≤ skp T p + 2 := by
  have o := of_decide_eq_true (tk_2.mp h)
  have c2 : chP isDg T (skp T p) = true := by
    cases e : chP isDg T (skp T p) with
    | true => rfl
    | false =>
      have : dgs T (skp T p) = skp T p := run_0 e
      omega
  have c1 : ¬ chP isLt T (skp T p) = true := fun q => by rw [(lt_nd q).1] at c2; cases c2
  have r := run_1 c2
  unfold tokE
  rw [if_neg (by have := chP_lt c2; omega), if_neg c1, if_pos c2]
  exact ⟨rfl, r.1, r.2, o.2⟩
theorem te_3 {T : List Nat} {b : Nat} (h : tokK T b = 3) : tokE T b = b + 1 ∧ b < T.length := by
  have q := tk_3.mp h
  have hb : b < T.length := (List.getElem?_eq_some_iff.mp q).1
  unfold tokE
  rw [if_neg (by omega), if_neg (fun z => (lt_nd z).2 q), if_neg (fun z => dg_ns z q)]
  exact ⟨rfl, hb⟩
theorem te_le {T : List Nat} {b : Nat} (hb : b ≤ T.length) : b ≤ tokE T b ∧ tokE T b ≤ T.length := by
  unfold tokE
  split
  · exact ⟨Nat.le_refl _, hb⟩
  · split
    · exact lts_le hb
    · split
      · exact dgs_le hb
      · omega
section TKN
variable {d : Nat} {Q : Option PV → St → Prop} {σ0 : St} {T : List Nat}
theorem XF_tk {σ : St} (h : XF σ0) (hf : Fm Itk noL σ0 σ) : XF σ := XF_fm h hf
theorem bk_l (hX0 : XF σ0) (hT0 : tpC σ0 T) {E : Nat} (hQ : ∀ σ', Fm Itk noL σ0 σ' → rI σ' 83 2 = nI E → At d kX3_readToken 38 [vR 83 4] [] σ' Q) : ∀ f p σ, T.length ≤ p + f → p ≤ T.length → Fm Itk noL σ0 σ → rI σ 83 2 = nI p → runT isBl T f p = E → At d kX3_readToken 0 [vR 83 4] [] σ Q := by
  intro f
  induction f with
  | zero =>
    intro p σ hf hp hm ha he
    have hT := tpC_tk hT0 hm
    have t60 := hT.2.1
    have c : T.length ≤ p := by omega
    have he' : p = E := he
    simp (disch := first | exact is2I | exact is2R | omega) only [z_X3_readToken_0, z_X3_readToken_1, z_X3_readToken_4, z_X3_readToken_5, z_X3_readToken_8, ha, hT.1, kLe, c, true_and, Option.toList_some, Option.toList_none, List.cons_append, List.nil_append, is2IT, is2RT, if_true, if_false]
    exact hQ σ hm (by rw [← he']; exact ha)
  | succ f ih =>
    intro p σ hf hp hm ha he
    have hT := tpC_tk hT0 hm
    have hX := XF_tk hX0 hm
    have t60 := hT.2.1
    rw [runT_s] at he
    simp (disch := first | exact is2I | exact is2R | omega) only [z_X3_readToken_0, z_X3_readToken_1, z_X3_readToken_4, z_X3_readToken_5, z_X3_readToken_8, ha, hT.1, kLe, true_and, Option.toList_some, Option.toList_none, List.cons_append, List.nil_append, is2IT, is2RT, if_true, if_false]
    by_cases c : T.length ≤ p
    · rw [if_pos c]
      rw [chP_out c, if_neg (fun q => by cases q)] at he
      exact hQ σ hm (by rw [← he]; exact ha)
    · rw [if_neg c]
      have hpl : p < T.length := by omega
      have t8 := (hT.2.2 p hpl).2
      have ec : chP isBl T p = decide (T[p] = 32) := by unfold chP; rw [List.getElem?_eq_getElem hpl]; rfl
      rw [ec] at he
      simp (disch := first | exact is2I | exact is2R | omega) only [z_X3_readToken_11, z_X3_readToken_12, z_X3_readToken_15, z_X3_readToken_16, z_X3_readToken_19, z_X3_readToken_19x, z_X3_readToken_20, z_X3_readToken_22, xf_r83_0 hX, xf_s84 hX, ha, kIn, kCl, tp_at hT hpl, kEL, true_and, Option.toList_some, Option.toList_none, List.cons_append, List.nil_append, is2IT, is2RT, if_true, if_false]
      by_cases c2 : T[p] = 32
      · rw [if_pos c2]
        rw [if_pos (decide_eq_true c2)] at he
        have ev : nI p + (1 : Int32) = nI (p + 1) := nI_add p 1
        simp (disch := first | exact is2I | exact is2R | omega) only [z_X3_readToken_25, z_X3_readToken_26, z_X3_readToken_27, z_X3_readToken_30, z_X3_readToken_31, z_X3_readToken_32, ha, ev, true_and, Option.toList_some, Option.toList_none, List.cons_append, List.nil_append, is2IT, is2RT, if_true, if_false]
        rw [z_X3_readToken_35]
        exact ih (p + 1) _ (by omega) (by omega) (Fm_tr hm (Fm_wI (decide_eq_true (by omega)))) (by rw [rI_wI, if_pos ⟨rfl, rfl⟩]) he
      · rw [if_neg c2]
        rw [if_neg (fun q => c2 (of_decide_eq_true q))] at he
        exact hQ σ hm (by rw [← he]; exact ha)
theorem lr_l (hX0 : XF σ0) (hT0 : tpC σ0 T) {E : Nat} (hQ : ∀ σ', Fm Itk noL σ0 σ' → rI σ' 83 2 = nI E → rI σ' 83 3 = rI σ0 83 3 → At (d + 1) kX3_readToken 119 [vR 83 4] [] σ' Q) : ∀ f p σ, T.length ≤ p + f → p ≤ T.length → Fm Itk noL σ0 σ → rI σ 83 3 = rI σ0 83 3 → rI σ 83 2 = nI p → runT isLt T f p = E → At (d + 1) kX3_readToken 80 [vR 83 4] [] σ Q := by
  intro f
  induction f with
  | zero =>
    intro p σ hf hp hm h3 ha he
    have hT := tpC_tk hT0 hm
    have t60 := hT.2.1
    have c : T.length ≤ p := by omega
    have he' : p = E := he
    simp (disch := first | exact is2I | exact is2R | omega) only [z_X3_readToken_80, z_X3_readToken_81, z_X3_readToken_84, z_X3_readToken_85, z_X3_readToken_88, ha, hT.1, kLe, c, true_and, Option.toList_some, Option.toList_none, List.cons_append, List.nil_append, is2IT, is2RT, if_true, if_false]
    exact hQ σ hm (by rw [← he']; exact ha) h3
  | succ f ih =>
    intro p σ hf hp hm h3 ha he
    have hT := tpC_tk hT0 hm
    have hX := XF_tk hX0 hm
    have t60 := hT.2.1
    rw [runT_s] at he
    simp (disch := first | exact is2I | exact is2R | omega) only [z_X3_readToken_80, z_X3_readToken_81, z_X3_readToken_84, z_X3_readToken_85, z_X3_readToken_88, ha, hT.1, kLe, true_and, Option.toList_some, Option.toList_none, List.cons_append, List.nil_append, is2IT, is2RT, if_true, if_false]
    by_cases c : T.length ≤ p
    · rw [if_pos c]
      rw [chP_out c, if_neg (fun q => by cases q)] at he
      exact hQ σ hm (by rw [← he]; exact ha) h3
    · rw [if_neg c]
      have hpl : p < T.length := by omega
      have t8 := (hT.2.2 p hpl).2
      have ec : chP isLt T p = isLt T[p] := by unfold chP; rw [List.getElem?_eq_getElem hpl]
      rw [ec] at he
      simp (disch := first | exact is2I | exact is2R | omega) only [z_X3_readToken_91, z_X3_readToken_92, z_X3_readToken_95, z_X3_readToken_96, z_X3_readToken_99, z_X3_readToken_99x, z_X3_readToken_100, z_X3_readToken_103, xf_r83_0 hX, xf_s84 hX, ha, kIn, kCl, tp_at hT hpl, c_isLt t8, b2_0, true_and, Option.toList_some, Option.toList_none, List.cons_append, List.nil_append, is2IT, is2RT, if_true, if_false]
      by_cases c2 : isLt T[p] = true
      · rw [if_neg (fun q => q c2)]
        rw [if_pos c2] at he
        have ev : nI p + (1 : Int32) = nI (p + 1) := nI_add p 1
        simp (disch := first | exact is2I | exact is2R | omega) only [z_X3_readToken_106, z_X3_readToken_107, z_X3_readToken_108, z_X3_readToken_111, z_X3_readToken_112, z_X3_readToken_113, ha, ev, true_and, Option.toList_some, Option.toList_none, List.cons_append, List.nil_append, is2IT, is2RT, if_true, if_false]
        rw [z_X3_readToken_116]
        exact ih (p + 1) _ (by omega) (by omega) (Fm_tr hm (Fm_wI (decide_eq_true (by omega)))) (by rw [rI_wI, if_neg (fun q => absurd q.2 (by decide))]; exact h3) (by rw [rI_wI, if_pos ⟨rfl, rfl⟩]) he
      · rw [if_pos c2]
        rw [if_neg c2] at he
        exact hQ σ hm (by rw [← he]; exact ha) h3
theorem rn_l {a : Nat} (hX0 : XF σ0) (hT0 : tpC σ0 T) {E V : Nat} (hQ : ∀ σ', Fm Itk noL σ0 σ' → rI σ' 83 2 = nI E → rI σ' 83 3 = rI σ0 83 3 → (E ≤ a + 2 → rI σ' 83 5 = nI V) → Q none σ') : ∀ f p v σ, T.length ≤ p + f → a ≤ p → p ≤ T.length → Fm Itk noL σ0 σ → rI σ 83 3 = rI σ0 83 3 → rI σ 83 2 = nI p → (p ≤ a + 2 → rI σ 83 5 = nI v) → runT isDg T f p = E → numT T a f p v = V → At (d + 1) kX3_readNumber 5 [vR 83 4] [] σ Q := by
  intro f
  induction f with
  | zero =>
    intro p v σ hf hap hp hm h3 ha h5 he hv
    have hT := tpC_tk hT0 hm
    have t60 := hT.2.1
    have c : T.length ≤ p := by omega
    have he' : p = E := he
    have hv' : v = V := hv
    simp (disch := first | exact is2I | exact is2R | omega) only [z_X3_readNumber_5, z_X3_readNumber_6, z_X3_readNumber_9, z_X3_readNumber_10, z_X3_readNumber_13, z_X3_readNumber_68, ha, hT.1, kLe, c, true_and, Option.toList_some, Option.toList_none, List.cons_append, List.nil_append, is2IT, is2RT, if_true, if_false]
    exact hQ σ hm (by rw [← he']; exact ha) h3 (fun q => by rw [← hv']; exact h5 (by omega))
  | succ f ih =>
    intro p v σ hf hap hp hm h3 ha h5 he hv
    have hT := tpC_tk hT0 hm
    have hX := XF_tk hX0 hm
    have t60 := hT.2.1
    rw [runT_s] at he
    have nv : numT T a (f + 1) p v = (match T[p]? with
      | none => v
      | some b => if isDg b = true then numT T a f (p + 1) (if p - a < 2 then 10 * v + b - 48 else v) else v) := rfl
    rw [nv] at hv
    simp (disch := first | exact is2I | exact is2R | omega) only [z_X3_readNumber_5, z_X3_readNumber_6, z_X3_readNumber_9, z_X3_readNumber_10, z_X3_readNumber_13, ha, hT.1, kLe, true_and, Option.toList_some, Option.toList_none, List.cons_append, List.nil_append, is2IT, is2RT, if_true, if_false]
    by_cases c : T.length ≤ p
    · rw [if_pos c]
      rw [chP_out c, if_neg (fun q => by cases q)] at he
      rw [List.getElem?_eq_none c] at hv
      have hv' : v = V := hv
      simp (disch := first | exact is2I | exact is2R | omega) only [z_X3_readNumber_68, true_and, Option.toList_some, Option.toList_none, List.cons_append, List.nil_append, is2IT, is2RT, if_true, if_false]
      exact hQ σ hm (by rw [← he]; exact ha) h3 (fun q => by rw [← hv']; exact h5 (by omega))
    · rw [if_neg c]
      have hpl : p < T.length := by omega
      have t8 := (hT.2.2 p hpl).2
      have ec : chP isDg T p = isDg T[p] := by unfold chP; rw [List.getElem?_eq_getElem hpl]
      rw [ec] at he
      rw [List.getElem?_eq_getElem hpl] at hv
      dsimp only at hv
      simp (disch := first | exact is2I | exact is2R | omega) only [z_X3_readNumber_16, z_X3_readNumber_17, z_X3_readNumber_20, z_X3_readNumber_21, z_X3_readNumber_24, z_X3_readNumber_24x, z_X3_readNumber_25, z_X3_readNumber_28, xf_r83_0 hX, xf_s84 hX, ha, kIn, kCl, tp_at hT hpl, c_isDg t8, b2_0, true_and, Option.toList_some, Option.toList_none, List.cons_append, List.nil_append, is2IT, is2RT, if_true, if_false]
      by_cases c2 : isDg T[p] = true
      · rw [if_neg (fun q => q c2)]
        rw [if_pos c2] at he hv
        have hd : 48 ≤ T[p] ∧ T[p] ≤ 57 := of_decide_eq_true c2
        have ev : nI p + (1 : Int32) = nI (p + 1) := nI_add p 1
        have at2 : ∀ x, rI (wI σ 83 5 x) 83 2 = nI p := fun x => by rw [rI_wI, if_neg (fun q => absurd q.2 (by decide))]; exact ha
        simp (disch := first | exact is2I | exact is2R | omega) only [z_X3_readNumber_31, z_X3_readNumber_32, z_X3_readNumber_33, z_X3_readNumber_36, z_X3_readNumber_38, z_X3_readNumber_39, z_X3_readNumber_40, z_X3_readNumber_43, z_X3_readNumber_44, z_X3_readNumber_47, z_X3_readNumber_47x, z_X3_readNumber_48, z_X3_readNumber_49, z_X3_readNumber_51, z_X3_readNumber_52, z_X3_readNumber_55, z_X3_readNumber_56, z_X3_readNumber_57, z_X3_readNumber_60, z_X3_readNumber_61, z_X3_readNumber_62, xf_r83_0 hX, xf_s84 hX, ha, kIn, kCl, tp_at hT hpl, at2, ev, true_and, Option.toList_some, Option.toList_none, List.cons_append, List.nil_append, is2IT, is2RT, if_true, if_false]
        rw [z_X3_readNumber_65]
        refine ih (p + 1) _ _ (by omega) (by omega) (by omega) (Fm_tr (Fm_tr hm (Fm_wI (decide_eq_true (by omega)))) (Fm_wI (decide_eq_true (by omega)))) (by rw [rI_wI, if_neg (fun q => absurd q.2 (by decide)), rI_wI, if_neg (fun q => absurd q.2 (by decide))]; exact h3) (by rw [rI_wI, if_pos ⟨rfl, rfl⟩]) (fun q => ?_) he hv
        rw [rI_wI, if_neg (fun q => absurd q.2 (by decide)), rI_wI, if_pos ⟨rfl, rfl⟩, h5 (by omega), if_pos (show p - a < 2 by omega)]
        have e1 : nI v * (10 : Int32) = nI (v * 10) := pk_mul v 10
        rw [e1, nI_add, show (48 : Int32) = nI 48 from rfl, pk_sub (show 48 ≤ v * 10 + T[p] by omega), Nat.mul_comm]
      · rw [if_pos c2]
        rw [if_neg c2] at he hv
        simp (disch := first | exact is2I | exact is2R | omega) only [z_X3_readNumber_68, true_and, Option.toList_some, Option.toList_none, List.cons_append, List.nil_append, is2IT, is2RT, if_true, if_false]
        exact hQ σ hm (by rw [← he]; exact ha) h3 (fun q => by rw [← hv]; exact h5 (by omega))
theorem c_readNumber {σ : St} {a : Nat} (hX : XF σ) (hT : tpC σ T) (ha : a ≤ T.length) (h2 : rI σ 83 2 = nI a) (hQ : ∀ σ', Fm Itk noL σ σ' → rI σ' 83 2 = nI (dgs T a) → rI σ' 83 3 = rI σ 83 3 → (dgs T a ≤ a + 2 → rI σ' 83 5 = nI (numV T a)) → Q none σ') : Ca (d + 2) 33 [vR 83 4] σ Q := by
  have t60 := hT.2.1
  rw [ca_at (K := kX3_readNumber) (ls := [vR 83 4]) rfl rfl rfl]
  simp (disch := first | exact is2I | exact is2R | omega) only [z_X3_readNumber_0, z_X3_readNumber_1, z_X3_readNumber_2, true_and, Option.toList_some, Option.toList_none, List.cons_append, List.nil_append, is2IT, is2RT, if_true, if_false]
  exact rn_l (d := d) (a := a) (E := dgs T a) (V := numV T a) hX hT hQ 61 a 0 _ (by omega) (Nat.le_refl a) ha (Fm_wI (decide_eq_true (by omega))) (by rw [rI_wI, if_neg (fun q => absurd q.2 (by decide))]) (by rw [rI_wI, if_neg (fun q => absurd q.2 (by decide))]; exact h2) (fun _ => by rw [rI_wI, if_pos ⟨rfl, rfl⟩]; rfl) rfl rfl
theorem c_tok {σ : St} {p : Nat} (hX : XF σ) (hT : tpC σ T) (hp : p ≤ T.length) (h2 : rI σ 83 2 = nI p) (hQ : ∀ σ', Fm Itk noL σ σ' → rI σ' 83 2 = nI (tokE T (skp T p)) → rI σ' 83 3 = nI (skp T p) → rI σ' 83 4 = nI (tokK T (skp T p)) → (∀ w, tokK T (skp T p) = 1 → wcR T (skp T p) (lts T (skp T p)) = some w → rI σ' 83 5 = nI w) → (tokK T (skp T p) = 2 → rI σ' 83 5 = nI (numV T (skp T p))) → Q none σ') : Ca (d + 8) 32 [vR 83 4] σ Q := by
  have t60 := hT.2.1
  have sk := skp_le hp
  rw [ca_at (K := kX3_readToken) (ls := [vR 83 4]) rfl rfl rfl]
  refine bk_l (d := d + 7) (E := skp T p) hX hT (fun σ1 f1 a1 => ?_) 61 p σ (by omega) hp Fm_rf h2 rfl
  generalize skp T p = b at *
  have hX1 := XF_tk hX f1
  have hT1 := tpC_tk hT f1
  have f2 : Fm Itk noL σ (wI σ1 83 3 (nI b)) := Fm_tr f1 (Fm_wI (decide_eq_true (by omega)))
  have hX2 := XF_tk hX f2
  have hT2 := tpC_tk hT f2
  have a2 : rI (wI σ1 83 3 (nI b)) 83 2 = nI b := by rw [rI_wI, if_neg (fun q => absurd q.2 (by decide))]; exact a1
  have b2' : rI (wI σ1 83 3 (nI b)) 83 3 = nI b := by rw [rI_wI, if_pos ⟨rfl, rfl⟩]
  have s2 : rI (wI σ1 83 3 (nI b)) 83 1 = nI T.length := hT2.1
  simp (disch := first | exact is2I | exact is2R | omega) only [z_X3_readToken_38, z_X3_readToken_39, z_X3_readToken_40, z_X3_readToken_43, z_X3_readToken_46, z_X3_readToken_47, z_X3_readToken_50, z_X3_readToken_51, z_X3_readToken_54, a1, a2, s2, kLt, true_and, Option.toList_some, Option.toList_none, List.cons_append, List.nil_append, is2IT, is2RT, if_true, if_false]
  generalize wI σ1 83 3 (nI b) = σ2 at *
  by_cases c0 : T.length ≤ b
  · have k0 : tokK T b = 0 := if_pos c0
    have e0 : tokE T b = b := if_pos c0
    rw [k0, e0] at hQ
    rw [if_neg (by omega)]
    simp (disch := first | exact is2I | exact is2R | omega) only [z_X3_readToken_57, z_X3_readToken_58, z_X3_readToken_59, z_X3_readToken_62, z_X3_readToken_224, true_and, Option.toList_some, Option.toList_none, List.cons_append, List.nil_append, is2IT, is2RT, if_true, if_false]
    refine hQ _ (Fm_tr f2 (Fm_wI (decide_eq_true (by omega)))) (by rw [rI_wI, if_neg (fun q => absurd q.2 (by decide))]; exact a2) (by rw [rI_wI, if_neg (fun q => absurd q.2 (by decide))]; exact b2') (by rw [rI_wI, if_pos ⟨rfl, rfl⟩]; rfl) (fun w q => by cases q) (fun q => by cases q)
  · rw [if_pos (by omega)]
    have hbl : b < T.length := by omega
    have t8 := (hT2.2.2 b hbl).2
    simp (disch := first | exact is2I | exact is2R | omega) only [z_X3_readToken_65, z_X3_readToken_66, z_X3_readToken_69, z_X3_readToken_70, z_X3_readToken_73, z_X3_readToken_73x, z_X3_readToken_74, z_X3_readToken_77, xf_r83_0 hX2, xf_s84 hX2, a2, kIn, kCl, tp_at hT2 hbl, c_isLt t8, b2_0, true_and, Option.toList_some, Option.toList_none, List.cons_append, List.nil_append, is2IT, is2RT, if_true, if_false]
    have el : chP isLt T b = isLt T[b] := by unfold chP; rw [List.getElem?_eq_getElem hbl]
    have ed : chP isDg T b = isDg T[b] := by unfold chP; rw [List.getElem?_eq_getElem hbl]
    by_cases c1 : isLt T[b] = true
    · rw [if_neg (fun q => q c1)]
      have cl : chP isLt T b = true := by rw [el]; exact c1
      have e1 : tokE T b = lts T b := by unfold tokE; rw [if_neg c0, if_pos cl]
      have ll := lts_le (T := T) sk.2
      refine lr_l (d := d + 6) (E := lts T b) hX2 hT2 (fun σ3 f3 a3 b3 => ?_) 61 b σ2 (by omega) sk.2 Fm_rf rfl a2 rfl
      have hX3 := XF_tk hX2 f3
      have hT3 := tpC_tk hT2 f3
      have b3' := b3.trans b2'
      simp (disch := first | exact is2I | exact is2R | omega) only [z_X3_readToken_119, z_X3_readToken_120, z_X3_readToken_121, c_findWord hX3 hT3 a3 b3' ll.1 ll.2, true_and, Option.toList_some, Option.toList_none, List.cons_append, List.nil_append, is2IT, is2RT, if_true, if_false]
      have f4 : ∀ x y, Fm Itk noL σ (wI (wI σ3 83 5 x) 83 4 y) := fun x y => Fm_tr (Fm_tr (Fm_tr f2 f3) (Fm_wI (decide_eq_true (by omega)))) (Fm_wI (decide_eq_true (by omega)))
      cases ew : wcR T b (lts T b) with
      | none =>
        have k4 : tokK T b = 4 := by unfold tokK; rw [if_neg c0, if_pos cl, ew]; rfl
        rw [k4, e1] at hQ
        rw [oI_nn]
        have v5 : rI (wI σ3 83 5 (-1)) 83 5 = -1 := by rw [rI_wI, if_pos ⟨rfl, rfl⟩]
        simp (disch := first | exact is2I | exact is2R | omega) only [z_X3_readToken_124, z_X3_readToken_127, z_X3_readToken_128, z_X3_readToken_129, z_X3_readToken_132, z_X3_readToken_133, z_X3_readToken_136, z_X3_readToken_137, z_X3_readToken_140, z_X3_readToken_141, z_X3_readToken_144, z_X3_readToken_224, v5, true_and, Option.toList_some, Option.toList_none, List.cons_append, List.nil_append, is2IT, is2RT, if_true, if_false]
        exact hQ _ (f4 _ _) (by rw [rI_wI, if_neg (fun q => absurd q.2 (by decide)), rI_wI, if_neg (fun q => absurd q.2 (by decide))]; exact a3) (by rw [rI_wI, if_neg (fun q => absurd q.2 (by decide)), rI_wI, if_neg (fun q => absurd q.2 (by decide))]; exact b3') (by rw [rI_wI, if_pos ⟨rfl, rfl⟩]; rfl) (fun w q => by cases q) (fun q => by cases q)
      | some w =>
        have w8 := (wcR_3 ew).2
        have k1 : tokK T b = 1 := by unfold tokK; rw [if_neg c0, if_pos cl, ew]; rfl
        rw [k1, e1] at hQ
        rw [oI_ss]
        have v5 : rI (wI σ3 83 5 (nI w)) 83 5 = nI w := by rw [rI_wI, if_pos ⟨rfl, rfl⟩]
        simp (disch := first | exact is2I | exact is2R | omega) only [z_X3_readToken_124, z_X3_readToken_127, z_X3_readToken_128, z_X3_readToken_129, z_X3_readToken_132, z_X3_readToken_133, z_X3_readToken_136, z_X3_readToken_137, z_X3_readToken_140, z_X3_readToken_141, z_X3_readToken_144, z_X3_readToken_224, v5, kM1, true_and, Option.toList_some, Option.toList_none, List.cons_append, List.nil_append, is2IT, is2RT, if_true, if_false]
        exact hQ _ (f4 _ _) (by rw [rI_wI, if_neg (fun q => absurd q.2 (by decide)), rI_wI, if_neg (fun q => absurd q.2 (by decide))]; exact a3) (by rw [rI_wI, if_neg (fun q => absurd q.2 (by decide)), rI_wI, if_neg (fun q => absurd q.2 (by decide))]; exact b3') (by rw [rI_wI, if_pos ⟨rfl, rfl⟩]; rfl) (fun w' _ q => by rw [ew] at q; cases q; rw [rI_wI, if_neg (fun q => absurd q.2 (by decide)), rI_wI, if_pos ⟨rfl, rfl⟩]) (fun q => by cases q)
    · rw [if_pos c1]
      have ncl : ¬ chP isLt T b = true := by rw [el]; exact c1
      simp (disch := first | exact is2I | exact is2R | omega) only [z_X3_readToken_147, z_X3_readToken_148, z_X3_readToken_151, z_X3_readToken_152, z_X3_readToken_155, z_X3_readToken_155x, z_X3_readToken_156, z_X3_readToken_159, xf_r83_0 hX2, xf_s84 hX2, a2, kIn, kCl, tp_at hT2 hbl, c_isDg t8, b2_0, true_and, Option.toList_some, Option.toList_none, List.cons_append, List.nil_append, is2IT, is2RT, if_true, if_false]
      by_cases c2 : isDg T[b] = true
      · rw [if_neg (fun q => q c2)]
        have cd : chP isDg T b = true := by rw [ed]; exact c2
        have e2 : tokE T b = dgs T b := by unfold tokE; rw [if_neg c0, if_neg ncl, if_pos cd]
        have dl := dgs_le (T := T) sk.2
        simp (disch := first | exact is2I | exact is2R | omega) only [z_X3_readToken_162, z_X3_readToken_163, true_and, Option.toList_some, Option.toList_none, List.cons_append, List.nil_append, is2IT, is2RT, if_true, if_false]
        refine c_readNumber (d := d + 5) (a := b) hX2 hT2 sk.2 a2 (fun σ3 f3 a3 b3 v3 => ?_)
        have b3' := b3.trans b2'
        have es : nI (dgs T b) - nI b = nI (dgs T b - b) := pk_sub dl.1
        simp (disch := first | exact is2I | exact is2R | omega) only [z_X3_readToken_166, z_X3_readToken_167, z_X3_readToken_168, z_X3_readToken_171, z_X3_readToken_172, z_X3_readToken_175, z_X3_readToken_176, z_X3_readToken_177, a3, b3', es, kLeL, Option.toList_none, List.nil_append, true_and, Option.toList_some, Option.toList_none, List.cons_append, List.nil_append, is2IT, is2RT, if_true, if_false]
        by_cases c3 : dgs T b ≤ b + 2
        · have k2 : tokK T b = 2 := by unfold tokK; rw [if_neg c0, if_neg ncl, if_pos cd, if_pos c3]
          rw [k2, e2] at hQ
          rw [if_pos (by omega)]
          simp (disch := first | exact is2I | exact is2R | omega) only [z_X3_readToken_184, z_X3_readToken_185, z_X3_readToken_188, z_X3_readToken_224, true_and, Option.toList_some, Option.toList_none, List.cons_append, List.nil_append, is2IT, is2RT, if_true, if_false]
          exact hQ _ (Fm_tr (Fm_tr f2 f3) (Fm_wI (decide_eq_true (by omega)))) (by rw [rI_wI, if_neg (fun q => absurd q.2 (by decide))]; exact a3) (by rw [rI_wI, if_neg (fun q => absurd q.2 (by decide))]; exact b3') (by rw [rI_wI, if_pos ⟨rfl, rfl⟩]; rfl) (fun w q => by cases q) (fun _ => by rw [rI_wI, if_neg (fun q => absurd q.2 (by decide))]; exact v3 c3)
        · have k4 : tokK T b = 4 := by unfold tokK; rw [if_neg c0, if_neg ncl, if_pos cd, if_neg c3]
          rw [k4, e2] at hQ
          rw [if_neg (by omega)]
          simp (disch := first | exact is2I | exact is2R | omega) only [z_X3_readToken_180, z_X3_readToken_181, z_X3_readToken_184, z_X3_readToken_185, z_X3_readToken_188, z_X3_readToken_224, true_and, Option.toList_some, Option.toList_none, List.cons_append, List.nil_append, is2IT, is2RT, if_true, if_false]
          exact hQ _ (Fm_tr (Fm_tr f2 f3) (Fm_wI (decide_eq_true (by omega)))) (by rw [rI_wI, if_neg (fun q => absurd q.2 (by decide))]; exact a3) (by rw [rI_wI, if_neg (fun q => absurd q.2 (by decide))]; exact b3') (by rw [rI_wI, if_pos ⟨rfl, rfl⟩]; rfl) (fun w q => by cases q) (fun q => by cases q)
      · rw [if_pos c2]
        have ncd : ¬ chP isDg T b = true := by rw [ed]; exact c2
        have e3 : tokE T b = b + 1 := by unfold tokE; rw [if_neg c0, if_neg ncl, if_neg ncd]
        have ev : nI b + (1 : Int32) = nI (b + 1) := nI_add b 1
        have at2 : ∀ x, rI (wI σ2 83 4 x) 83 2 = nI b := fun x => by rw [rI_wI, if_neg (fun q => absurd q.2 (by decide))]; exact a2
        simp (disch := first | exact is2I | exact is2R | omega) only [z_X3_readToken_191, z_X3_readToken_192, z_X3_readToken_193, z_X3_readToken_196, z_X3_readToken_197, z_X3_readToken_200, z_X3_readToken_200x, z_X3_readToken_201, z_X3_readToken_203, xf_r83_0 hX2, xf_s84 hX2, a2, kIn, kCl, tp_at hT2 hbl, kEL, true_and, Option.toList_some, Option.toList_none, List.cons_append, List.nil_append, is2IT, is2RT, if_true, if_false]
        have fin : ∀ y : Nat, tokK T b = y → (¬ y = 1) → (¬ y = 2) → At (d + 7) kX3_readToken 211 [vR 83 4] [vI (nI y), vR 83 4] σ2 Q := fun y hy y1 y2 => by
          rw [hy, e3] at hQ
          simp (disch := first | exact is2I | exact is2R | omega) only [z_X3_readToken_211, z_X3_readToken_214, z_X3_readToken_215, z_X3_readToken_216, z_X3_readToken_219, z_X3_readToken_220, z_X3_readToken_221, z_X3_readToken_224, at2, ev, true_and, Option.toList_some, Option.toList_none, List.cons_append, List.nil_append, is2IT, is2RT, if_true, if_false]
          exact hQ _ (Fm_tr (Fm_tr f2 (Fm_wI (decide_eq_true (by omega)))) (Fm_wI (decide_eq_true (by omega)))) (by rw [rI_wI, if_pos ⟨rfl, rfl⟩]) (by rw [rI_wI, if_neg (fun q => absurd q.2 (by decide)), rI_wI, if_neg (fun q => absurd q.2 (by decide))]; exact b2') (by rw [rI_wI, if_neg (fun q => absurd q.2 (by decide)), rI_wI, if_pos ⟨rfl, rfl⟩]) (fun w q => absurd q y1) (fun q => absurd q y2)
        by_cases c3 : T[b] = 59
        · rw [if_pos c3]
          have q59 : T[b]? = some 59 := by rw [List.getElem?_eq_getElem hbl, c3]
          have f := fin 3 (tk_3.mpr q59) (by decide) (by decide)
          simp (disch := first | exact is2I | exact is2R | omega) only [z_X3_readToken_206, z_X3_readToken_207, true_and, Option.toList_some, Option.toList_none, List.cons_append, List.nil_append, is2IT, is2RT, if_true, if_false]
          exact f
        · rw [if_neg c3]
          have q59 : ¬ T[b]? = some 59 := by rw [List.getElem?_eq_getElem hbl]; exact fun q => c3 (Option.some.inj q)
          have f := fin 4 (by unfold tokK; rw [if_neg c0, if_neg ncl, if_neg ncd, if_neg q59]) (by decide) (by decide)
          simp (disch := first | exact is2I | exact is2R | omega) only [z_X3_readToken_210, true_and, Option.toList_some, Option.toList_none, List.cons_append, List.nil_append, is2IT, is2RT, if_true, if_false]
          exact f
end TKN
