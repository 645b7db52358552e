/-! ===== print: the reference ===== -/
def I104 (a i : Nat) : Bool := a.beq 104 || (a.beq 97 && i.beq 14)
def LN (σ0 σ : St) (L : List Nat) : Prop := Fm I104 noL σ0 σ ∧ rI σ 97 14 = nI L.length ∧ ∀ i (h : i < L.length), rI σ 104 i = nI L[i]
theorem LN_add {σ0 σ : St} {L : List Nat} {c : Nat} (h : LN σ0 σ L) (hl : L.length < 60) : LN σ0 (wI (wI σ 104 L.length (nI c)) 97 14 (nI (L.length + 1))) (L ++ [c]) := by
  obtain ⟨h1, h2, h3⟩ := h
  refine ⟨Fm_tr (Fm_tr h1 (Fm_wI rfl)) (Fm_wI rfl), ?_, fun i hi => ?_⟩
  · rw [rI_wI, if_pos ⟨rfl, rfl⟩, List.length_append]; rfl
  · rw [List.length_append] at hi
    rw [rI_wI_n (by decide), rI_wI]
    by_cases ci : i = L.length
    · subst ci
      rw [if_pos ⟨rfl, rfl⟩]; simp
    · have hi2 : i < L.length := by
        simp only [List.length_cons, List.length_nil] at hi
        omega
      rw [if_neg (fun q => ci q.2), List.getElem_append_left hi2]
      exact h3 i hi2
theorem m_puts {d c : Nat} {Q : Option PV → St → Prop} {σ0 σ : St} {N : Net} {L : List Nat} (h : MI σ0 N) (hL : LN σ0 σ L) (hl : L.length < 60) (hQ : ∀ σ', LN σ0 σ' (L ++ [c]) → Q none σ') : Ca (d + 1) 154 [vR 97 9, vI (nI c)] σ Q := by
  have m1 : MI σ N := MI_fm h hL.1 (fun _ => rfl)
  have hF := m1.1
  rw [ca_at (K := kX9_puts) (ls := [vR 97 9, vI (nI c)]) rfl rfl rfl]
  simp (disch := first | exact is2I | exact is2R | omega) only [z_X9_puts_0, z_X9_puts_1, z_X9_puts_4, z_X9_puts_5, z_X9_puts_8, z_X9_puts_9, z_X9_puts_10, z_X9_puts_11, z_X9_puts_12, z_X9_puts_15, z_X9_puts_16, z_X9_puts_17, z_X9_puts_20, mf_r1 hF, mf_r2 hF, mf_r3 hF, mf_r5 hF, mf_r10 hF, mf_r11 hF, mf_r13 hF, mf_r15 hF, mf_r16 hF, mf_r19 hF, mf_r21 hF, mf_r22 hF, mf_r23 hF, mf_r24 hF, mf_r25 hF, mf_r26 hF, mf_r27 hF, mf_r29 hF, mf_r30 hF, mf_r31 hF, mf_r32 hF, mf_s98 hF, mf_s99 hF, mf_s100 hF, mf_s101 hF, mf_s102 hF, mf_s103 hF, mf_s104 hF, mf_s105 hF, mf_s106 hF, mf_s107 hF, mf_s108 hF, mf_s109 hF, mf_s110 hF, mf_s111 hF, mf_s112 hF, mf_s113 hF, mf_s114 hF, mf_s115 hF, mf_s116 hF, mf_s117 hF, mf_s118 hF, hL.2.1, kIn, kCl, rI_wI, show ¬ (97 = 104) by decide, false_and, kAL, true_and, Option.toList_some, Option.toList_none, List.cons_append, List.nil_append, is2IT, is2RT, if_true, if_false]
  exact hQ _ (LN_add hL hl)
def oneL (c : Nat) : List Nat := if c = 0 then [] else [c]
def splL (a b c x y : Nat) : List Nat := [32, a, b, c] ++ (oneL x ++ oneL y)
theorem m_spells {d a b c x y : Nat} {Q : Option PV → St → Prop} {σ0 σ : St} {N : Net} {L : List Nat} (h : MI σ0 N) (hL : LN σ0 σ L) (hl : L.length < 50) (hx : x < 256) (hy : y < 256) (hQ : ∀ σ', LN σ0 σ' (L ++ splL a b c x y) → Q none σ') : Ca (d + 2) 155 [vR 97 9, vI (nI a), vI (nI b), vI (nI c), vI (nI x), vI (nI y)] σ Q := by
  rw [ca_at (K := kX9_spells) (ls := [vR 97 9, vI (nI a), vI (nI b), vI (nI c), vI (nI x), vI (nI y)]) rfl rfl rfl]
  simp only [z_X9_spells_0, z_X9_spells_1, z_X9_spells_3, true_and, Option.toList_some, Option.toList_none, List.cons_append, List.nil_append, is2IT, is2RT, if_true, if_false]
  refine m_puts (c := 32) h hL (by omega) (fun σ1 h1 => ?_)
  simp only [z_X9_spells_6, z_X9_spells_7, z_X9_spells_8, true_and, Option.toList_some, Option.toList_none, List.cons_append, List.nil_append, is2IT, is2RT, if_true, if_false]
  refine m_puts h h1 (by simp; omega) (fun σ2 h2 => ?_)
  simp only [z_X9_spells_11, z_X9_spells_12, z_X9_spells_13, true_and, Option.toList_some, Option.toList_none, List.cons_append, List.nil_append, is2IT, is2RT, if_true, if_false]
  refine m_puts h h2 (by simp; omega) (fun σ3 h3 => ?_)
  simp only [z_X9_spells_16, z_X9_spells_17, z_X9_spells_18, true_and, Option.toList_some, Option.toList_none, List.cons_append, List.nil_append, is2IT, is2RT, if_true, if_false]
  refine m_puts h h3 (by simp; omega) (fun σ4 h4 => ?_)
  have e4 : L ++ [32] ++ [a] ++ [b] ++ [c] = L ++ [32, a, b, c] := by simp
  rw [e4] at h4
  have last : ∀ σ5 M, LN σ0 σ5 (L ++ [32, a, b, c] ++ M) → M = oneL x → M.length ≤ 1 → At (d + 1) kX9_spells 32 [vR 97 9, vI (nI a), vI (nI b), vI (nI c), vI (nI x), vI (nI y)] [] σ5 Q := fun σ5 M h5 hM hM1 => by
    simp (disch := first | exact is2I | exact is2R | omega) only [z_X9_spells_32, z_X9_spells_34, kEL, true_and, Option.toList_some, Option.toList_none, List.cons_append, List.nil_append, is2IT, is2RT, if_true, if_false]
    by_cases cy : y = 0
    · rw [if_pos cy]
      simp only [z_X9_spells_43, true_and, Option.toList_some, Option.toList_none, List.cons_append, List.nil_append, is2IT, is2RT, if_true, if_false]
      refine hQ σ5 ?_
      unfold splL oneL
      rw [if_pos cy, List.append_nil]
      unfold oneL at hM
      rw [← hM, ← List.append_assoc]
      exact h5
    · rw [if_neg cy]
      simp only [z_X9_spells_37, z_X9_spells_38, z_X9_spells_40, true_and, Option.toList_some, Option.toList_none, List.cons_append, List.nil_append, is2IT, is2RT, if_true, if_false]
      refine m_puts h h5 (by simp; omega) (fun σ6 h6 => ?_)
      simp only [z_X9_spells_43, true_and, Option.toList_some, Option.toList_none, List.cons_append, List.nil_append, is2IT, is2RT, if_true, if_false]
      refine hQ σ6 ?_
      have : splL a b c x y = [32, a, b, c] ++ (M ++ [y]) := by
        unfold splL
        rw [hM, show oneL y = [y] from if_neg cy]
      rw [this, ← List.append_assoc, ← List.append_assoc]
      exact h6
  simp (disch := first | exact is2I | exact is2R | omega) only [z_X9_spells_21, z_X9_spells_23, kEL, true_and, Option.toList_some, Option.toList_none, List.cons_append, List.nil_append, is2IT, is2RT, if_true, if_false]
  by_cases cx : x = 0
  · rw [if_pos cx]
    exact last σ4 [] (by rw [List.append_nil]; exact h4) (by unfold oneL; rw [if_pos cx]) (Nat.zero_le _)
  · rw [if_neg cx]
    simp only [z_X9_spells_26, z_X9_spells_27, z_X9_spells_29, true_and, Option.toList_some, Option.toList_none, List.cons_append, List.nil_append, is2IT, is2RT, if_true, if_false]
    refine m_puts h h4 (by simp; omega) (fun σ5 h5 => ?_)
    simp only [Option.toList_none, List.nil_append]
    exact last σ5 [x] h5 (by unfold oneL; rw [if_neg cx]) (Nat.le_refl _)
def kindL (k : Nat) : List Nat := if k = 1 then splL 109 111 115 116 0 else if k = 2 then splL 108 101 97 115 116 else if k = 3 then splL 115 117 109 0 0 else []
def paL (o : Option Nat) : List Nat := match o with | none => [] | some p => [32, 60, 48 + p]
def quL (o : Option Nat) : List Nat := match o with | none => [] | some p => [44, 48 + p]
def foL (o : Option Nat) : List Nat := match o with | none => [] | some p => splL 116 111 108 100 61 ++ [48 + p]
def doL (o : Option Nat) : List Nat := match o with | none => [] | some p => splL 100 111 110 101 61 ++ [48 + p]
def hiR (N : Net) (n : Nat) : Nat → Nat → List Nat
  | 0, _ => []
  | r + 1, v => (if v = 0 then [] else [58]) ++ [48 + nH N n v] ++ hiR N n r (v + 1)
def hiL (N : Net) (n : Nat) : List Nat := if hinB N n = true then splL 104 105 110 116 32 ++ hiR N n (nS N n) 0 else []
def lineS (N : Net) (n : Nat) : List Nat := [48 + n, 47, 48 + nS N n] ++ kindL (nK N n) ++ paL (nP N n) ++ quL (nQ N n) ++ foL (nF1 N n) ++ doL (nD N n) ++ hiL N n
theorem kind_6 (k : Nat) : (kindL k).length ≤ 6 := by unfold kindL; split; decide; split; decide; split <;> decide
theorem paL_3 (o : Option Nat) : (paL o).length ≤ 3 := by cases o <;> simp [paL]
theorem quL_2 (o : Option Nat) : (quL o).length ≤ 2 := by cases o <;> simp [quL]
theorem foL_7 (o : Option Nat) : (foL o).length ≤ 7 := by cases o <;> simp [foL, splL, oneL]
theorem doL_7 (o : Option Nat) : (doL o).length ≤ 7 := by cases o <;> simp [doL, splL, oneL]
theorem hi_l {d n : Nat} {Q : Option PV → St → Prop} {σ0 : St} {N : Net} {E : List Nat} (h : MI σ0 N) (hn : n < nM N) (hQ : ∀ σ', LN σ0 σ' E → Q none σ') : ∀ r v σ L, v + r = nS N n → L.length + 2 * r < 60 → LN σ0 σ L → L ++ hiR N n r v = E → At (d + 2) kX9_prints 264 [vR 97 9, vI (nI n), vI (nI v)] [] σ Q
  | 0, v, σ, L, hv, hl, hL, he => by
    have hs := NV_s h hn
    have m1 : MI σ N := MI_fm h hL.1 (fun _ => rfl)
    have : v = nS N n := by omega
    subst this
    have he' : L = E := by rw [← he]; exact (List.append_nil L).symm
    subst he'
    simp (disch := first | exact is2I | exact is2R | omega) only [z_X9_prints_264, z_X9_prints_265, z_X9_prints_266, z_X9_prints_267, z_X9_prints_268, z_X9_prints_271, z_X9_prints_306, i_is0 m1 hn, kLe, Nat.le_refl, true_and, Option.toList_some, Option.toList_none, List.cons_append, List.nil_append, is2IT, is2RT, if_true, if_false]
    exact hQ σ hL
  | r + 1, v, σ, L, hv, hl, hL, he => by
    have hs := NV_s h hn
    have m1 : MI σ N := MI_fm h hL.1 (fun _ => rfl)
    have c : ¬ nS N n ≤ v := by omega
    have ev : nI v + (1 : Int32) = nI (v + 1) := nI_add v 1
    have put : ∀ σ1 L1, LN σ0 σ1 L1 → L1.length + 1 + 2 * r < 60 → L1 ++ [48 + nH N n v] ++ hiR N n r (v + 1) = E → At (d + 2) kX9_prints 284 [vR 97 9, vI (nI n), vI (nI v)] [] σ1 Q := fun σ1 L1 h1 h2 h3 => by
      have m2 : MI σ1 N := MI_fm h h1.1 (fun _ => rfl)
      simp (disch := first | exact is2I | exact is2R | omega) only [z_X9_prints_284, z_X9_prints_285, z_X9_prints_287, z_X9_prints_288, z_X9_prints_289, z_X9_prints_291, z_X9_prints_292, z_X9_prints_293, z_X9_prints_296, z_X9_prints_297, kLA, i_isH m2 hn (show v < 3 by omega), true_and, Option.toList_some, Option.toList_none, List.cons_append, List.nil_append, is2IT, is2RT, if_true, if_false]
      refine m_puts (d := d + 1) h h1 (by omega) (fun σ2 h4 => ?_)
      simp (disch := first | exact is2I | exact is2R | omega) only [z_X9_prints_300, ev, Option.toList_none, List.nil_append, true_and, Option.toList_some, Option.toList_none, List.cons_append, List.nil_append, is2IT, is2RT, if_true, if_false]
      rw [z_X9_prints_303]
      exact hi_l h hn hQ r (v + 1) σ2 _ (by omega) (by rw [List.length_append]; simp only [List.length_cons, List.length_nil]; omega) h4 h3
    have he' : L ++ ((if v = 0 then [] else [58]) ++ [48 + nH N n v] ++ hiR N n r (v + 1)) = E := he
    simp (disch := first | exact is2I | exact is2R | omega) only [z_X9_prints_264, z_X9_prints_265, z_X9_prints_266, z_X9_prints_267, z_X9_prints_268, z_X9_prints_271, z_X9_prints_274, z_X9_prints_275, i_is0 m1 hn, kLe, kLeL, c, true_and, Option.toList_some, Option.toList_none, List.cons_append, List.nil_append, is2IT, is2RT, if_true, if_false]
    by_cases c0 : v = 0
    · rw [if_pos (show v ≤ 0 by omega)]
      rw [if_pos c0, List.nil_append, ← List.append_assoc] at he'
      exact put σ L hL (by omega) he'
    · rw [if_neg (show ¬ v ≤ 0 by omega)]
      rw [if_neg c0] at he'
      simp (disch := first | exact is2I | exact is2R | omega) only [z_X9_prints_278, z_X9_prints_279, z_X9_prints_281, true_and, Option.toList_some, Option.toList_none, List.cons_append, List.nil_append, is2IT, is2RT, if_true, if_false]
      refine m_puts (d := d + 1) (c := 58) h hL (by omega) (fun σ2 h4 => ?_)
      simp only [Option.toList_none, List.nil_append]
      refine put σ2 _ h4 (by rw [List.length_append]; simp only [List.length_cons, List.length_nil]; omega) ?_
      rw [← he']; simp
theorem m_prints {d n : Nat} {Q : Option PV → St → Prop} {σ : St} {N : Net} (h : MI σ N) (hn : n < nM N) (hQ : ∀ σ', LN σ σ' (lineS N n) → (lineS N n).length < 60 → Q none σ') : Ca (d + 3) 156 [vR 97 9, vI (nI n)] σ Q := by
  have h7 := MI_7 h
  have hs := NV_s h hn
  have hK := NV_k h hn
  have g1 := kind_6 (nK N n)
  have g2 := paL_3 (nP N n)
  have g3 := quL_2 (nQ N n)
  have g4 := foL_7 (nF1 N n)
  have g5 := doL_7 (nD N n)
  have hlen : (lineS N n).length < 60 := by
    have g6 : (hiL N n).length ≤ 11 := by
      unfold hiL
      split
      · rcases hs with s | s <;> rw [s] <;> simp [splL, oneL, hiR]
      · simp
    unfold lineS
    simp only [List.length_append, List.length_cons, List.length_nil]
    omega
  rw [ca_at (K := kX9_prints) (ls := [vR 97 9, vI (nI n), vU]) rfl rfl rfl]
  have f0 : LN σ (wI σ 97 14 0) [] := ⟨Fm_wI rfl, by rw [rI_wI, if_pos ⟨rfl, rfl⟩]; rfl, fun i hi => absurd hi (Nat.not_lt_zero i)⟩
  simp (disch := first | exact is2I | exact is2R | omega) only [z_X9_prints_0, z_X9_prints_1, z_X9_prints_2, z_X9_prints_5, z_X9_prints_6, z_X9_prints_8, z_X9_prints_9, z_X9_prints_10, kLA, true_and, Option.toList_some, Option.toList_none, List.cons_append, List.nil_append, is2IT, is2RT, if_true, if_false]
  refine m_puts (d := d + 1) h f0 (by decide) (fun σ1 h1 => ?_)
  simp (disch := first | exact is2I | exact is2R | omega) only [z_X9_prints_13, z_X9_prints_14, z_X9_prints_16, Option.toList_none, List.nil_append, true_and, Option.toList_some, Option.toList_none, List.cons_append, List.nil_append, is2IT, is2RT, if_true, if_false]
  refine m_puts (d := d + 1) (c := 47) h h1 (by simp) (fun σ2 h2 => ?_)
  have m2 : MI σ2 N := MI_fm h h2.1 (fun _ => rfl)
  simp (disch := first | exact is2I | exact is2R | omega) only [z_X9_prints_19, z_X9_prints_20, z_X9_prints_22, z_X9_prints_23, z_X9_prints_24, z_X9_prints_25, z_X9_prints_28, z_X9_prints_29, i_is0 m2 hn, kLA, Option.toList_none, List.nil_append, true_and, Option.toList_some, Option.toList_none, List.cons_append, List.nil_append, is2IT, is2RT, if_true, if_false]
  refine m_puts (d := d + 1) h h2 (by simp) (fun σ3 h3 => ?_)
  have e3 : [] ++ [48 + n] ++ [47] ++ [48 + nS N n] = [48 + n, 47, 48 + nS N n] := rfl
  have h3 : LN σ σ3 [48 + n, 47, 48 + nS N n] := h3
  simp only [Option.toList_none, List.nil_append]
  -- the end: hints
  have p6 : ∀ σ6, LN σ σ6 ([48 + n, 47, 48 + nS N n] ++ kindL (nK N n) ++ paL (nP N n) ++ quL (nQ N n) ++ foL (nF1 N n) ++ doL (nD N n)) → At (d + 2) kX9_prints 239 [vR 97 9, vI (nI n), vU] [] σ6 Q := fun σ6 h6 => by
    have m6 : MI σ6 N := MI_fm h h6.1 (fun _ => rfl)
    simp (disch := first | exact is2I | exact is2R | omega) only [z_X9_prints_239, z_X9_prints_240, z_X9_prints_241, z_X9_prints_244, i_isHinted m6 hn, b2_0, true_and, Option.toList_some, Option.toList_none, List.cons_append, List.nil_append, is2IT, is2RT, if_true, if_false]
    have e : lineS N n = [48 + n, 47, 48 + nS N n] ++ kindL (nK N n) ++ paL (nP N n) ++ quL (nQ N n) ++ foL (nF1 N n) ++ doL (nD N n) ++ hiL N n := rfl
    by_cases ch : hinB N n = true
    · rw [if_neg (fun q => q ch)]
      have eh : hiL N n = splL 104 105 110 116 32 ++ hiR N n (nS N n) 0 := if_pos ch
      simp (disch := first | exact is2I | exact is2R | omega) only [z_X9_prints_248, z_X9_prints_249, z_X9_prints_251, z_X9_prints_253, z_X9_prints_255, z_X9_prints_257, z_X9_prints_259, true_and, Option.toList_some, Option.toList_none, List.cons_append, List.nil_append, is2IT, is2RT, if_true, if_false]
      refine m_spells (d := d) (a := 104) (b := 105) (c := 110) (x := 116) (y := 32) h h6 (by simp only [List.length_append, List.length_cons, List.length_nil]; omega) (by decide) (by decide) (fun σ7 h7' => ?_)
      simp (disch := first | exact is2I | exact is2R | omega) only [z_X9_prints_262, z_X9_prints_263, Option.toList_none, List.nil_append, true_and, Option.toList_some, Option.toList_none, List.cons_append, List.nil_append, is2IT, is2RT, if_true, if_false]
      refine hi_l (E := lineS N n) h hn (fun σ' q => hQ σ' q hlen) (nS N n) 0 σ7 _ (by omega) (by simp only [List.length_append, List.length_cons, List.length_nil, splL, oneL]; simp; omega) h7' ?_
      rw [e, eh, List.append_assoc]
    · rw [if_pos ch]
      have eh : hiL N n = [] := if_neg ch
      simp only [z_X9_prints_247, true_and, Option.toList_some, Option.toList_none, List.cons_append, List.nil_append, is2IT, is2RT, if_true, if_false]
      refine hQ σ6 ?_ hlen
      rw [e, eh, List.append_nil]; exact h6
  have p5 : ∀ σ5, LN σ σ5 ([48 + n, 47, 48 + nS N n] ++ kindL (nK N n) ++ paL (nP N n) ++ quL (nQ N n) ++ foL (nF1 N n)) → At (d + 2) kX9_prints 202 [vR 97 9, vI (nI n), vU] [] σ5 Q := fun σ5 h5 => by
    have m5 : MI σ5 N := MI_fm h h5.1 (fun _ => rfl)
    cases ed : nD N n with
    | none =>
      rw [ed] at p6
      simp (disch := first | exact is2I | exact is2R | omega) only [z_X9_prints_202, z_X9_prints_203, z_X9_prints_204, z_X9_prints_205, z_X9_prints_208, z_X9_prints_209, i_is5 m5 hn, ed, oI_nn, true_and, Option.toList_some, Option.toList_none, List.cons_append, List.nil_append, is2IT, is2RT, if_true, if_false]
      exact p6 σ5 (by show LN σ σ5 (_ ++ []); rw [List.append_nil]; exact h5)
    | some u =>
      have hu := (h.2.2.2 n hn).2.2.2.2.2.2.1 u ed
      rw [ed] at p6
      simp (disch := first | exact is2I | exact is2R | omega) only [z_X9_prints_202, z_X9_prints_203, z_X9_prints_204, z_X9_prints_205, z_X9_prints_208, z_X9_prints_209, z_X9_prints_212, z_X9_prints_213, z_X9_prints_215, z_X9_prints_217, z_X9_prints_219, z_X9_prints_221, z_X9_prints_223, i_is5 m5 hn, ed, oI_ss, kM1, true_and, Option.toList_some, Option.toList_none, List.cons_append, List.nil_append, is2IT, is2RT, if_true, if_false]
      refine m_spells (d := d) (a := 100) (b := 111) (c := 110) (x := 101) (y := 61) h h5 (by simp only [List.length_append, List.length_cons, List.length_nil]; omega) (by decide) (by decide) (fun σ7 h7' => ?_)
      have m7 : MI σ7 N := MI_fm h h7'.1 (fun _ => rfl)
      simp (disch := first | exact is2I | exact is2R | omega) only [z_X9_prints_226, z_X9_prints_227, z_X9_prints_229, z_X9_prints_230, z_X9_prints_231, z_X9_prints_232, z_X9_prints_235, z_X9_prints_236, i_is5 m7 hn, ed, oI_ss, kLA, Option.toList_none, List.nil_append, true_and, Option.toList_some, Option.toList_none, List.cons_append, List.nil_append, is2IT, is2RT, if_true, if_false]
      refine m_puts (d := d + 1) h h7' (by simp only [List.length_append, List.length_cons, List.length_nil, splL, oneL]; simp; omega) (fun σ8 h8 => ?_)
      simp only [Option.toList_none, List.nil_append]
      exact p6 σ8 (by show LN σ σ8 (_ ++ (splL 100 111 110 101 61 ++ [48 + u])); rw [← List.append_assoc]; exact h8)
  have p4 : ∀ σ5, LN σ σ5 ([48 + n, 47, 48 + nS N n] ++ kindL (nK N n) ++ paL (nP N n) ++ quL (nQ N n)) → At (d + 2) kX9_prints 165 [vR 97 9, vI (nI n), vU] [] σ5 Q := fun σ5 h5 => by
    have m5 : MI σ5 N := MI_fm h h5.1 (fun _ => rfl)
    cases ed : nF1 N n with
    | none =>
      rw [ed] at p5
      simp (disch := first | exact is2I | exact is2R | omega) only [z_X9_prints_165, z_X9_prints_166, z_X9_prints_167, z_X9_prints_168, z_X9_prints_171, z_X9_prints_172, i_is4 m5 hn, ed, oI_nn, true_and, Option.toList_some, Option.toList_none, List.cons_append, List.nil_append, is2IT, is2RT, if_true, if_false]
      exact p5 σ5 (by show LN σ σ5 (_ ++ []); rw [List.append_nil]; exact h5)
    | some u =>
      have hu := (h.2.2.2 n hn).2.2.2.2.2.1 u ed
      rw [ed] at p5
      simp (disch := first | exact is2I | exact is2R | omega) only [z_X9_prints_165, z_X9_prints_166, z_X9_prints_167, z_X9_prints_168, z_X9_prints_171, z_X9_prints_172, z_X9_prints_175, z_X9_prints_176, z_X9_prints_178, z_X9_prints_180, z_X9_prints_182, z_X9_prints_184, z_X9_prints_186, i_is4 m5 hn, ed, oI_ss, kM1, true_and, Option.toList_some, Option.toList_none, List.cons_append, List.nil_append, is2IT, is2RT, if_true, if_false]
      refine m_spells (d := d) (a := 116) (b := 111) (c := 108) (x := 100) (y := 61) h h5 (by simp only [List.length_append, List.length_cons, List.length_nil]; omega) (by decide) (by decide) (fun σ7 h7' => ?_)
      have m7 : MI σ7 N := MI_fm h h7'.1 (fun _ => rfl)
      simp (disch := first | exact is2I | exact is2R | omega) only [z_X9_prints_189, z_X9_prints_190, z_X9_prints_192, z_X9_prints_193, z_X9_prints_194, z_X9_prints_195, z_X9_prints_198, z_X9_prints_199, i_is4 m7 hn, ed, oI_ss, kLA, Option.toList_none, List.nil_append, true_and, Option.toList_some, Option.toList_none, List.cons_append, List.nil_append, is2IT, is2RT, if_true, if_false]
      refine m_puts (d := d + 1) h h7' (by simp only [List.length_append, List.length_cons, List.length_nil, splL, oneL]; simp; omega) (fun σ8 h8 => ?_)
      simp only [Option.toList_none, List.nil_append]
      exact p5 σ8 (by show LN σ σ8 (_ ++ (splL 116 111 108 100 61 ++ [48 + u])); rw [← List.append_assoc]; exact h8)
  have p3 : ∀ σ5, LN σ σ5 ([48 + n, 47, 48 + nS N n] ++ kindL (nK N n) ++ paL (nP N n)) → At (d + 2) kX9_prints 136 [vR 97 9, vI (nI n), vU] [] σ5 Q := fun σ5 h5 => by
    have m5 : MI σ5 N := MI_fm h h5.1 (fun _ => rfl)
    cases ed : nQ N n with
    | none =>
      rw [ed] at p4
      simp (disch := first | exact is2I | exact is2R | omega) only [z_X9_prints_136, z_X9_prints_137, z_X9_prints_138, z_X9_prints_139, z_X9_prints_142, z_X9_prints_143, i_is3 m5 hn, ed, oI_nn, true_and, Option.toList_some, Option.toList_none, List.cons_append, List.nil_append, is2IT, is2RT, if_true, if_false]
      exact p4 σ5 (by show LN σ σ5 (_ ++ []); rw [List.append_nil]; exact h5)
    | some u =>
      have hu := NV_q h hn ed
      rw [ed] at p4
      simp (disch := first | exact is2I | exact is2R | omega) only [z_X9_prints_136, z_X9_prints_137, z_X9_prints_138, z_X9_prints_139, z_X9_prints_142, z_X9_prints_143, z_X9_prints_146, z_X9_prints_147, z_X9_prints_149, i_is3 m5 hn, ed, oI_ss, kM1, true_and, Option.toList_some, Option.toList_none, List.cons_append, List.nil_append, is2IT, is2RT, if_true, if_false]
      refine m_puts (d := d + 1) (c := 44) h h5 (by simp only [List.length_append, List.length_cons, List.length_nil]; omega) (fun σ7 h7' => ?_)
      have m7 : MI σ7 N := MI_fm h h7'.1 (fun _ => rfl)
      simp (disch := first | exact is2I | exact is2R | omega) only [z_X9_prints_152, z_X9_prints_153, z_X9_prints_155, z_X9_prints_156, z_X9_prints_157, z_X9_prints_158, z_X9_prints_161, z_X9_prints_162, i_is3 m7 hn, ed, oI_ss, kLA, Option.toList_none, List.nil_append, true_and, Option.toList_some, Option.toList_none, List.cons_append, List.nil_append, is2IT, is2RT, if_true, if_false]
      refine m_puts (d := d + 1) h h7' (by simp only [List.length_append, List.length_cons, List.length_nil]; omega) (fun σ8 h8 => ?_)
      simp only [Option.toList_none, List.nil_append]
      exact p4 σ8 (by
        show LN σ σ8 (_ ++ [44, 48 + u])
        rw [List.append_assoc] at h8; exact h8)
  have p2 : ∀ σ5, LN σ σ5 ([48 + n, 47, 48 + nS N n] ++ kindL (nK N n)) → At (d + 2) kX9_prints 101 [vR 97 9, vI (nI n), vU] [] σ5 Q := fun σ5 h5 => by
    have m5 : MI σ5 N := MI_fm h h5.1 (fun _ => rfl)
    cases ed : nP N n with
    | none =>
      rw [ed] at p3
      simp (disch := first | exact is2I | exact is2R | omega) only [z_X9_prints_101, z_X9_prints_102, z_X9_prints_103, z_X9_prints_104, z_X9_prints_107, z_X9_prints_108, i_is2 m5 hn, ed, oI_nn, true_and, Option.toList_some, Option.toList_none, List.cons_append, List.nil_append, is2IT, is2RT, if_true, if_false]
      exact p3 σ5 (by show LN σ σ5 (_ ++ []); rw [List.append_nil]; exact h5)
    | some u =>
      have hu := NV_p h hn ed
      rw [ed] at p3
      simp (disch := first | exact is2I | exact is2R | omega) only [z_X9_prints_101, z_X9_prints_102, z_X9_prints_103, z_X9_prints_104, z_X9_prints_107, z_X9_prints_108, z_X9_prints_111, z_X9_prints_112, z_X9_prints_114, i_is2 m5 hn, ed, oI_ss, kM1, true_and, Option.toList_some, Option.toList_none, List.cons_append, List.nil_append, is2IT, is2RT, if_true, if_false]
      refine m_puts (d := d + 1) (c := 32) h h5 (by simp only [List.length_append, List.length_cons, List.length_nil]; omega) (fun σ7 h7' => ?_)
      simp (disch := first | exact is2I | exact is2R | omega) only [z_X9_prints_117, z_X9_prints_118, z_X9_prints_120, Option.toList_none, List.nil_append, true_and, Option.toList_some, Option.toList_none, List.cons_append, List.nil_append, is2IT, is2RT, if_true, if_false]
      refine m_puts (d := d + 1) (c := 60) h h7' (by simp only [List.length_append, List.length_cons, List.length_nil]; omega) (fun σ9 h9 => ?_)
      have m7 : MI σ9 N := MI_fm h h9.1 (fun _ => rfl)
      simp (disch := first | exact is2I | exact is2R | omega) only [z_X9_prints_123, z_X9_prints_124, z_X9_prints_126, z_X9_prints_127, z_X9_prints_128, z_X9_prints_129, z_X9_prints_132, z_X9_prints_133, i_is2 m7 hn, ed, oI_ss, kLA, Option.toList_none, List.nil_append, true_and, Option.toList_some, Option.toList_none, List.cons_append, List.nil_append, is2IT, is2RT, if_true, if_false]
      refine m_puts (d := d + 1) h h9 (by simp only [List.length_append, List.length_cons, List.length_nil]; omega) (fun σ8 h8 => ?_)
      simp only [Option.toList_none, List.nil_append]
      exact p3 σ8 (by
        show LN σ σ8 (_ ++ [32, 60, 48 + u])
        rw [List.append_assoc, List.append_assoc] at h8; exact h8)
  have m3 : MI σ3 N := MI_fm h h3.1 (fun _ => rfl)
  rcases (show nK N n = 0 ∨ nK N n = 1 ∨ nK N n = 2 ∨ nK N n = 3 by omega) with k0 | k0 | k0 | k0
  · rw [k0] at p2
    have z1 : ¬ (0 = 1) := by decide
    have z2 : ¬ (0 = 2) := by decide
    have z3 : ¬ (0 = 3) := by decide
    simp (disch := first | exact is2I | exact is2R | omega) only [z_X9_prints_32, z_X9_prints_33, z_X9_prints_34, z_X9_prints_35, z_X9_prints_38, z_X9_prints_39, z_X9_prints_55, z_X9_prints_56, z_X9_prints_57, z_X9_prints_58, z_X9_prints_61, z_X9_prints_62, z_X9_prints_79, z_X9_prints_80, z_X9_prints_81, z_X9_prints_82, z_X9_prints_85, z_X9_prints_86, i_is1 m3 hn, k0, kEL, z1, z2, z3, true_and, Option.toList_some, Option.toList_none, List.cons_append, List.nil_append, is2IT, is2RT, if_true, if_false]
    exact p2 σ3 (by show LN σ σ3 (_ ++ []); rw [List.append_nil]; exact h3)
  · rw [k0] at p2
    have z2 : ¬ (1 = 2) := by decide
    have z3 : ¬ (1 = 3) := by decide
    simp (disch := first | exact is2I | exact is2R | omega) only [z_X9_prints_32, z_X9_prints_33, z_X9_prints_34, z_X9_prints_35, z_X9_prints_38, z_X9_prints_39, z_X9_prints_42, z_X9_prints_43, z_X9_prints_45, z_X9_prints_47, z_X9_prints_49, z_X9_prints_51, z_X9_prints_52, i_is1 m3 hn, k0, kEL, true_and, Option.toList_some, Option.toList_none, List.cons_append, List.nil_append, is2IT, is2RT, if_true, if_false]
    refine m_spells (d := d) (a := 109) (b := 111) (c := 115) (x := 116) (y := 0) h h3 (by simp) (by decide) (by decide) (fun σ7 h7' => ?_)
    have m7 : MI σ7 N := MI_fm h h7'.1 (fun _ => rfl)
    simp (disch := first | exact is2I | exact is2R | omega) only [z_X9_prints_55, z_X9_prints_56, z_X9_prints_57, z_X9_prints_58, z_X9_prints_61, z_X9_prints_62, z_X9_prints_79, z_X9_prints_80, z_X9_prints_81, z_X9_prints_82, z_X9_prints_85, z_X9_prints_86, i_is1 m7 hn, k0, kEL, z2, z3, Option.toList_none, List.nil_append, true_and, Option.toList_some, Option.toList_none, List.cons_append, List.nil_append, is2IT, is2RT, if_true, if_false]
    exact p2 σ7 h7'
  · rw [k0] at p2
    have z1 : ¬ (2 = 1) := by decide
    have z3 : ¬ (2 = 3) := by decide
    simp (disch := first | exact is2I | exact is2R | omega) only [z_X9_prints_32, z_X9_prints_33, z_X9_prints_34, z_X9_prints_35, z_X9_prints_38, z_X9_prints_39, z_X9_prints_55, z_X9_prints_56, z_X9_prints_57, z_X9_prints_58, z_X9_prints_61, z_X9_prints_62, z_X9_prints_65, z_X9_prints_66, z_X9_prints_68, z_X9_prints_70, z_X9_prints_72, z_X9_prints_74, z_X9_prints_76, i_is1 m3 hn, k0, kEL, z1, true_and, Option.toList_some, Option.toList_none, List.cons_append, List.nil_append, is2IT, is2RT, if_true, if_false]
    refine m_spells (d := d) (a := 108) (b := 101) (c := 97) (x := 115) (y := 116) h h3 (by simp) (by decide) (by decide) (fun σ7 h7' => ?_)
    have m7 : MI σ7 N := MI_fm h h7'.1 (fun _ => rfl)
    simp (disch := first | exact is2I | exact is2R | omega) only [z_X9_prints_79, z_X9_prints_80, z_X9_prints_81, z_X9_prints_82, z_X9_prints_85, z_X9_prints_86, i_is1 m7 hn, k0, kEL, z3, Option.toList_none, List.nil_append, true_and, Option.toList_some, Option.toList_none, List.cons_append, List.nil_append, is2IT, is2RT, if_true, if_false]
    exact p2 σ7 h7'
  · rw [k0] at p2
    have z1 : ¬ (3 = 1) := by decide
    have z2 : ¬ (3 = 2) := by decide
    simp (disch := first | exact is2I | exact is2R | omega) only [z_X9_prints_32, z_X9_prints_33, z_X9_prints_34, z_X9_prints_35, z_X9_prints_38, z_X9_prints_39, z_X9_prints_55, z_X9_prints_56, z_X9_prints_57, z_X9_prints_58, z_X9_prints_61, z_X9_prints_62, z_X9_prints_79, z_X9_prints_80, z_X9_prints_81, z_X9_prints_82, z_X9_prints_85, z_X9_prints_86, z_X9_prints_89, z_X9_prints_90, z_X9_prints_92, z_X9_prints_94, z_X9_prints_96, z_X9_prints_97, z_X9_prints_98, i_is1 m3 hn, k0, kEL, z1, z2, true_and, Option.toList_some, Option.toList_none, List.cons_append, List.nil_append, is2IT, is2RT, if_true, if_false]
    refine m_spells (d := d) (a := 115) (b := 117) (c := 109) (x := 0) (y := 0) h h3 (by simp) (by decide) (by decide) (fun σ7 h7' => ?_)
    simp only [Option.toList_none, List.nil_append]
    exact p2 σ7 h7'
theorem Sc_104 {σ σ' : St} (h : Fm I104 noL σ σ') : Sc σ σ' := Fm_mono h (fun a i q => by
  unfold I104 at q
  simp only [Bool.or_eq_true, Bool.and_eq_true] at q
  unfold I9
  rcases q with q | q
  · have := Nat.eq_of_beq_eq_true q; exact decide_eq_true (by omega)
  · have := Nat.eq_of_beq_eq_true q.1
    have := Nat.eq_of_beq_eq_true q.2
    exact decide_eq_true (by omega)) (fun a q => by cases q)
def printF (N : Net) (n i : Int32) : Int32 := match pN (nM N) n with
  | none => -2
  | some k => if i = -1 then nI (lineS N k).length else match pN (lineS N k).length i with
    | none => -1
    | some x => nI ((lineS N k).getD x 0)
theorem m_print {d : Nat} {Q : Option PV → St → Prop} {σ : St} {N : Net} {n i : Int32} (h : MI σ N) (hQ : ∀ σ', Sc σ σ' → Q (some (vI (printF N n i))) σ') : Ca (d + 4) 157 [vR 97 9, vI n, vI i] σ Q := by
  have h7 := MI_7 h
  rw [ca_at (K := kX9_print) (ls := [vR 97 9, vI n, vI i]) rfl rfl rfl]
  unfold printF at hQ
  cases hp : pN (nM N) n with
  | none =>
    rw [hp] at hQ
    simp (disch := first | exact is2I | exact is2R | omega) only [z_X9_print_0, z_X9_print_1, z_X9_print_2, z_X9_print_5, z_X9_print_8, z_X9_print_10, i_isNode h, b2_0, pN_none.mp hp, not_false_eq_true, true_and, Option.toList_some, Option.toList_none, List.cons_append, List.nil_append, is2IT, is2RT, if_true, if_false]
    exact hQ σ Fm_rf
  | some k =>
    rw [hp] at hQ
    dsimp only at hQ
    obtain ⟨hk, rfl⟩ := (pN_some (by omega)).mp hp
    have hP : 0 ≤ nI k ∧ nI k < nI (nM N) := (lt_nI (by omega)).mpr ⟨k, hk, rfl⟩
    simp (disch := first | exact is2I | exact is2R | omega) only [z_X9_print_0, z_X9_print_1, z_X9_print_2, z_X9_print_5, z_X9_print_8, z_X9_print_10, z_X9_print_11, z_X9_print_12, z_X9_print_13, i_isNode h, b2_0, hP, and_self, not_true_eq_false, true_and, Option.toList_some, Option.toList_none, List.cons_append, List.nil_append, is2IT, is2RT, if_true, if_false]
    refine m_prints (d := d) h hk (fun σ' q hl => ?_)
    have fin := hQ σ' (Sc_104 q.1)
    have hF := (MI_fm h q.1 (fun _ => rfl)).1
    simp (disch := first | exact is2I | exact is2R | omega) only [z_X9_print_16, z_X9_print_17, z_X9_print_18, z_X9_print_21, z_X9_print_22, z_X9_print_25, q.2.1, true_and, Option.toList_some, Option.toList_none, List.cons_append, List.nil_append, is2IT, is2RT, if_true, if_false]
    by_cases ci : i = -1
    · rw [if_pos ci] at fin ⊢; exact fin
    · rw [if_neg ci] at fin ⊢
      simp (disch := first | exact is2I | exact is2R | omega) only [z_X9_print_26, z_X9_print_27, z_X9_print_28, z_X9_print_29, z_X9_print_30, z_X9_print_33, z_X9_print_34, z_X9_print_35, z_X9_print_36, z_X9_print_39, q.2.1, m_in, i64_0, i64_le, le_pred (show (lineS N k).length < 2 ^ 30 by omega), b2_0, true_and, Option.toList_some, Option.toList_none, List.cons_append, List.nil_append, is2IT, is2RT, if_true, if_false]
      cases hx : pN (lineS N k).length i with
      | none =>
        rw [hx] at fin
        rw [if_pos (pN_none.mp hx)]
        simp only [z_X9_print_51, z_X9_print_52, true_and, Option.toList_some, Option.toList_none, List.cons_append, List.nil_append, is2IT, is2RT, if_true, if_false]
        exact fin
      | some x =>
        rw [hx] at fin
        obtain ⟨hx1, rfl⟩ := (pN_some (by omega)).mp hx
        rw [if_neg (fun w => w ((lt_nI (by omega)).mpr ⟨x, hx1, rfl⟩))]
        have e : (lineS N k).getD x 0 = (lineS N k)[x] := by rw [List.getD_eq_getElem?_getD, List.getElem?_eq_getElem hx1]; rfl
        dsimp only at fin
        rw [e] at fin
        simp (disch := first | exact is2I | exact is2R | omega) only [z_X9_print_42, z_X9_print_43, z_X9_print_46, z_X9_print_47, z_X9_print_48, z_X9_print_51, z_X9_print_52, mf_r1 hF, mf_r2 hF, mf_r3 hF, mf_r5 hF, mf_r10 hF, mf_r11 hF, mf_r13 hF, mf_r15 hF, mf_r16 hF, mf_r19 hF, mf_r21 hF, mf_r22 hF, mf_r23 hF, mf_r24 hF, mf_r25 hF, mf_r26 hF, mf_r27 hF, mf_r29 hF, mf_r30 hF, mf_r31 hF, mf_r32 hF, mf_s98 hF, mf_s99 hF, mf_s100 hF, mf_s101 hF, mf_s102 hF, mf_s103 hF, mf_s104 hF, mf_s105 hF, mf_s106 hF, mf_s107 hF, mf_s108 hF, mf_s109 hF, mf_s110 hF, mf_s111 hF, mf_s112 hF, mf_s113 hF, mf_s114 hF, mf_s115 hF, mf_s116 hF, mf_s117 hF, mf_s118 hF, kIn, kCl, q.2.2 x hx1, true_and, Option.toList_some, Option.toList_none, List.cons_append, List.nil_append, is2IT, is2RT, if_true, if_false]
        exact fin
