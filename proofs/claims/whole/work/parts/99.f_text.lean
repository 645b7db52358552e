/-! ===== text: the class ===== -/
theorem c_noneIf {d : Nat} {Q : Option PV → St → Prop} {σ : St} {x : Int32} : Ca (d + 1) 120 [vI x] σ Q ↔ Q (some (vI (orN x))) σ := by
  rw [ca_at (K := kX8_noneIfNine) (ls := [vI x]) rfl rfl rfl]
  simp only [z_X8_noneIfNine_0, z_X8_noneIfNine_1, z_X8_noneIfNine_3, z_X8_noneIfNine_6, z_X8_noneIfNine_7, z_X8_noneIfNine_10, z_X8_noneIfNine_11, true_and, Option.toList_some, Option.toList_none, List.cons_append, List.nil_append, is2IT, is2RT, if_true, if_false]
  unfold orN
  split <;> exact Iff.rfl
theorem m1_nI {k : Nat} (hk : k < 2 ^ 31) : (-1 : Int32) ≤ nI k := by
  rw [Int32.le_iff_toInt_le, nI_toInt hk]
  have : (-1 : Int32).toInt = -1 := by decide
  omega
theorem node_r {N : Net} (h7 : nM N ≤ 7) {s t p q : Int32} : (-1 ≤ (nodeS N s t p q).1) ↔ ¬ (nodeS N s t p q).1 < 0 := by
  unfold nodeS
  split
  · split
    · dsimp only; decide
    · exact ⟨fun _ => nI_pos (by omega), fun _ => m1_nI (by omega)⟩
  · dsimp only; decide
theorem row_r {N : Net} {n r a b c : Int32} : (-1 ≤ (rowS N n r a b c).1) ↔ ¬ (rowS N n r a b c).1 < 0 := by
  unfold rowS
  split
  · dsimp only; decide
  · split
    · split
      · dsimp only; decide
      · split <;> (dsimp only; decide)
    · dsimp only; decide
theorem hint_r {N : Net} {n a b c : Int32} : (-1 ≤ (hintS N n a b c).1) ↔ ¬ (hintS N n a b c).1 < 0 := by
  unfold hintS
  split
  · dsimp only; decide
  · split
    · unfold b2
      split <;> (dsimp only; decide)
    · dsimp only; decide
theorem oI_r {o : Option Nat} (h : ∀ j, o = some j → j < 2 ^ 31) : (-1 ≤ oI o) ↔ ¬ oI o = -2 := by
  cases o with
  | none => decide
  | some j =>
    rw [oI_ss]
    refine ⟨fun _ q => ?_, fun _ => m1_nI (h j rfl)⟩
    have h1 := nI_toInt (h j rfl)
    rw [q] at h1
    have : (-2 : Int32).toInt = -2 := by decide
    omega
theorem bec_r {N : Net} (h : NV N) {w : Nat} {n v : Int32} : (-1 ≤ (becS N w n v).1) ↔ ¬ (becS N w n v).1 = -2 := by
  have h7 := h.1
  unfold becS
  cases hp : pN (nM N) n with
  | none => dsimp only; decide
  | some k =>
    obtain ⟨hk, rfl⟩ := (pN_some (by omega)).mp hp
    have o : (-1 ≤ oI (if w = 4 then nF1 N k else nD N k)) ↔ ¬ oI (if w = 4 then nF1 N k else nD N k) = -2 := oI_r (by
      split
      · exact NV_f h hk
      · exact NV_d h hk)
    dsimp only
    by_cases c : v = -1
    · rw [if_pos c]; exact o
    · rw [if_neg c]
      split
      · dsimp only; decide
      · exact o
theorem x_doC {d w : Nat} {Q : Option PV → St → Prop} {σ : St} {S : MSt} {L : List Nat} (h : XS σ S) (hw : w < 8) (hL : L.length = nedN w) (hn : ∀ i (h : i < L.length), rI σ 85 i = nI L[i]) (hQ : ∀ σ' r, XS σ' ((doC S.1 (w, L)).2, S.2) → Fm (Iwb 1) noL σ σ' → ((-1 ≤ r) ↔ (doC S.1 (w, L)).1 = true) → Q (some (vI r)) σ') : Ca (d + 6) 119 [vR 0 8, vI (nI w), vR 85 20] σ Q := by
  have hC := h.1
  have hX := hC.1
  have h7 := CI_7 hC
  have s85 := xf_s85 hX
  have rd : ∀ i, i < nedN w → rI σ 85 i = nI (L.getD i 0) := fun i hi => by
    have hi2 : i < L.length := by omega
    rw [hn i hi2, List.getD_eq_getElem?_getD, List.getElem?_eq_getElem hi2]; rfl
  have dec : ∀ p : Prop, [Decidable p] → (decide p = true ↔ p) := fun p _ => decide_eq_true_iff
  rw [ca_at (K := kX8_doClause) (ls := [vR 0 8, vI (nI w), vR 85 20]) rfl rfl rfl]
  rcases (show w = 0 ∨ w = 1 ∨ w = 2 ∨ w = 3 ∨ w = 4 ∨ w = 5 ∨ w = 6 ∨ w = 7 by omega) with rfl | rfl | rfl | rfl | rfl | rfl | rfl | rfl
  · have r0 := rd 0 (by decide); have r1 := rd 1 (by decide); have r2 := rd 2 (by decide)
    simp (disch := first | exact is2I | exact is2R | omega) only [z_X8_doClause_0, z_X8_doClause_1_0, z_X8_doClause_48, z_X8_doClause_49, z_X8_doClause_50, z_X8_doClause_51, z_X8_doClause_52, z_X8_doClause_53, z_X8_doClause_54, z_X8_doClause_55, z_X8_doClause_56, z_X8_doClause_59, z_X8_doClause_60, z_X8_doClause_61, z_X8_doClause_62, z_X8_doClause_65, s85, kInL, kClL, r0, r1, r2, c_noneIf, true_and, Option.toList_some, Option.toList_none, List.cons_append, List.nil_append, is2IT, is2RT, if_true, if_false]
    refine x_node (d := d) h (fun σ' f1 f2 => ?_)
    simp (disch := first | exact is2I | exact is2R | omega) only [z_X8_doClause_68, Option.toList_some, List.cons_append, List.nil_append, true_and, Option.toList_some, Option.toList_none, List.cons_append, List.nil_append, is2IT, is2RT, if_true, if_false]
    exact hQ σ' _ f1 f2 ((node_r h7).trans (dec _).symm)
  · have r0 := rd 0 (by decide); have r1 := rd 1 (by decide); have r2 := rd 2 (by decide)
    simp (disch := first | exact is2I | exact is2R | omega) only [z_X8_doClause_0, z_X8_doClause_1_1, z_X8_doClause_69, z_X8_doClause_70, z_X8_doClause_71, z_X8_doClause_72, z_X8_doClause_73, z_X8_doClause_74, z_X8_doClause_75, z_X8_doClause_76, z_X8_doClause_77, z_X8_doClause_80, z_X8_doClause_81, z_X8_doClause_82, z_X8_doClause_83, z_X8_doClause_86, s85, kInL, kClL, r0, r1, r2, c_noneIf, true_and, Option.toList_some, Option.toList_none, List.cons_append, List.nil_append, is2IT, is2RT, if_true, if_false]
    refine x_node (d := d) h (fun σ' f1 f2 => ?_)
    simp (disch := first | exact is2I | exact is2R | omega) only [z_X8_doClause_89, Option.toList_some, List.cons_append, List.nil_append, true_and, Option.toList_some, Option.toList_none, List.cons_append, List.nil_append, is2IT, is2RT, if_true, if_false]
    exact hQ σ' _ f1 f2 ((node_r h7).trans (dec _).symm)
  · have r0 := rd 0 (by decide); have r1 := rd 1 (by decide); have r2 := rd 2 (by decide)
    simp (disch := first | exact is2I | exact is2R | omega) only [z_X8_doClause_0, z_X8_doClause_1_2, z_X8_doClause_90, z_X8_doClause_91, z_X8_doClause_92, z_X8_doClause_93, z_X8_doClause_94, z_X8_doClause_95, z_X8_doClause_96, z_X8_doClause_97, z_X8_doClause_98, z_X8_doClause_101, z_X8_doClause_102, z_X8_doClause_103, z_X8_doClause_104, z_X8_doClause_107, s85, kInL, kClL, r0, r1, r2, c_noneIf, true_and, Option.toList_some, Option.toList_none, List.cons_append, List.nil_append, is2IT, is2RT, if_true, if_false]
    refine x_node (d := d) h (fun σ' f1 f2 => ?_)
    simp (disch := first | exact is2I | exact is2R | omega) only [z_X8_doClause_110, Option.toList_some, List.cons_append, List.nil_append, true_and, Option.toList_some, Option.toList_none, List.cons_append, List.nil_append, is2IT, is2RT, if_true, if_false]
    exact hQ σ' _ f1 f2 ((node_r h7).trans (dec _).symm)
  · have r0 := rd 0 (by decide); have r1 := rd 1 (by decide); have r2 := rd 2 (by decide)
    simp (disch := first | exact is2I | exact is2R | omega) only [z_X8_doClause_0, z_X8_doClause_1_3, z_X8_doClause_111, z_X8_doClause_112, z_X8_doClause_113, z_X8_doClause_114, z_X8_doClause_115, z_X8_doClause_116, z_X8_doClause_117, z_X8_doClause_118, z_X8_doClause_119, z_X8_doClause_122, z_X8_doClause_123, z_X8_doClause_124, z_X8_doClause_125, z_X8_doClause_128, s85, kInL, kClL, r0, r1, r2, c_noneIf, true_and, Option.toList_some, Option.toList_none, List.cons_append, List.nil_append, is2IT, is2RT, if_true, if_false]
    refine x_node (d := d) h (fun σ' f1 f2 => ?_)
    simp (disch := first | exact is2I | exact is2R | omega) only [z_X8_doClause_131, Option.toList_some, List.cons_append, List.nil_append, true_and, Option.toList_some, Option.toList_none, List.cons_append, List.nil_append, is2IT, is2RT, if_true, if_false]
    exact hQ σ' _ f1 f2 ((node_r h7).trans (dec _).symm)
  · have r0 := rd 0 (by decide); have r1 := rd 1 (by decide); have r2 := rd 2 (by decide); have r3 := rd 3 (by decide); have r4 := rd 4 (by decide)
    simp (disch := first | exact is2I | exact is2R | omega) only [z_X8_doClause_0, z_X8_doClause_1_4, z_X8_doClause_132, z_X8_doClause_133, z_X8_doClause_134, z_X8_doClause_135, z_X8_doClause_136, z_X8_doClause_137, z_X8_doClause_138, z_X8_doClause_139, z_X8_doClause_140, z_X8_doClause_141, z_X8_doClause_142, z_X8_doClause_143, z_X8_doClause_144, z_X8_doClause_145, z_X8_doClause_146, z_X8_doClause_147, z_X8_doClause_148, s85, kInL, kClL, r0, r1, r2, r3, r4, true_and, Option.toList_some, Option.toList_none, List.cons_append, List.nil_append, is2IT, is2RT, if_true, if_false]
    refine x_row (d := d + 2) h (fun σ' f1 f2 => ?_)
    simp (disch := first | exact is2I | exact is2R | omega) only [z_X8_doClause_151, Option.toList_some, List.cons_append, List.nil_append, true_and, Option.toList_some, Option.toList_none, List.cons_append, List.nil_append, is2IT, is2RT, if_true, if_false]
    exact hQ σ' _ f1 f2 (row_r.trans (dec _).symm)
  · have r0 := rd 0 (by decide); have r1 := rd 1 (by decide)
    simp (disch := first | exact is2I | exact is2R | omega) only [z_X8_doClause_0, z_X8_doClause_1_5, z_X8_doClause_152, z_X8_doClause_153, z_X8_doClause_154, z_X8_doClause_155, z_X8_doClause_156, z_X8_doClause_157, z_X8_doClause_158, z_X8_doClause_159, z_X8_doClause_162, s85, kInL, kClL, r0, r1, c_noneIf, true_and, Option.toList_some, Option.toList_none, List.cons_append, List.nil_append, is2IT, is2RT, if_true, if_false]
    refine x_told (d := d + 2) h (fun σ' f1 f2 => ?_)
    simp (disch := first | exact is2I | exact is2R | omega) only [z_X8_doClause_165, Option.toList_some, List.cons_append, List.nil_append, true_and, Option.toList_some, Option.toList_none, List.cons_append, List.nil_append, is2IT, is2RT, if_true, if_false]
    exact hQ σ' _ f1 f2 ((bec_r hC.2.2.2).trans (dec _).symm)
  · have r0 := rd 0 (by decide); have r1 := rd 1 (by decide)
    simp (disch := first | exact is2I | exact is2R | omega) only [z_X8_doClause_0, z_X8_doClause_1_6, z_X8_doClause_166, z_X8_doClause_167, z_X8_doClause_168, z_X8_doClause_169, z_X8_doClause_170, z_X8_doClause_171, z_X8_doClause_172, z_X8_doClause_173, z_X8_doClause_176, s85, kInL, kClL, r0, r1, c_noneIf, true_and, Option.toList_some, Option.toList_none, List.cons_append, List.nil_append, is2IT, is2RT, if_true, if_false]
    refine x_done (d := d + 2) h (fun σ' f1 f2 => ?_)
    simp (disch := first | exact is2I | exact is2R | omega) only [z_X8_doClause_179, Option.toList_some, List.cons_append, List.nil_append, true_and, Option.toList_some, Option.toList_none, List.cons_append, List.nil_append, is2IT, is2RT, if_true, if_false]
    exact hQ σ' _ f1 f2 ((bec_r hC.2.2.2).trans (dec _).symm)
  · have r0 := rd 0 (by decide); have r1 := rd 1 (by decide); have r2 := rd 2 (by decide); have r3 := rd 3 (by decide)
    simp (disch := first | exact is2I | exact is2R | omega) only [z_X8_doClause_0, z_X8_doClause_1_7, z_X8_doClause_180, z_X8_doClause_181, z_X8_doClause_182, z_X8_doClause_183, z_X8_doClause_184, z_X8_doClause_185, z_X8_doClause_186, z_X8_doClause_187, z_X8_doClause_188, z_X8_doClause_189, z_X8_doClause_190, z_X8_doClause_191, z_X8_doClause_192, z_X8_doClause_193, s85, kInL, kClL, r0, r1, r2, r3, true_and, Option.toList_some, Option.toList_none, List.cons_append, List.nil_append, is2IT, is2RT, if_true, if_false]
    refine x_hint (d := d + 2) h (fun σ' f1 f2 => ?_)
    simp (disch := first | exact is2I | exact is2R | omega) only [z_X8_doClause_196, Option.toList_some, List.cons_append, List.nil_append, true_and, Option.toList_some, Option.toList_none, List.cons_append, List.nil_append, is2IT, is2RT, if_true, if_false]
    exact hQ σ' _ f1 f2 (hint_r.trans (dec _).symm)
theorem par_pre {T : List Nat} : ∀ g p P C, parR T g p P = Sum.inr C → ∃ R, C = P ++ R
  | 0, p, P, C, h => by cases h; exact ⟨[], by rw [List.append_nil]⟩
  | g + 1, p, P, C, h => by
    have e2 : parR T (g + 1) p P = (match clauR T p with
      | Sum.inl e => Sum.inl e
      | Sum.inr e => if T[e.2]? = some 59 then parR T g (e.2 + 1) (P ++ [e.1]) else if e.2 < T.length then Sum.inl e.2 else Sum.inr (P ++ [e.1])) := rfl
    rw [e2] at h
    cases ec : clauR T p with
    | inl x => rw [ec] at h; cases h
    | inr e =>
      rw [ec] at h
      dsimp only at h
      split at h
      · obtain ⟨R, hR⟩ := par_pre g _ _ _ h
        exact ⟨e.1 :: R, by rw [hR, List.append_assoc]; rfl⟩
      · split at h
        · cases h
        · cases h; exact ⟨[e.1], rfl⟩
theorem nums_f {T : List Nat} : ∀ n p L x, p ≤ T.length → numsR T n p L = Sum.inl x → x ≤ T.length
  | 0, p, L, x, hp, h => by cases h
  | n + 1, p, L, x, hp, h => by
    have e2 : numsR T (n + 1) p L = if okN2 T p = true then numsR T n (dgs T (skp T p)) (L ++ [numV T (skp T p)]) else Sum.inl (skp T p) := rfl
    rw [e2] at h
    have s := skp_le hp
    split at h
    · exact nums_f n _ _ x (dgs_le s.2).2 h
    · cases h; exact s.2
theorem clau_f {T : List Nat} {p x : Nat} (hp : p ≤ T.length) (h : clauR T p = Sum.inl x) : x ≤ T.length := by
  unfold clauR at h
  have s := skp_le hp
  cases ew : wcR T (skp T p) (lts T (skp T p)) with
  | none => rw [ew] at h; cases h; exact s.2
  | some w =>
    rw [ew] at h
    dsimp only at h
    cases en : numsR T (nedN w) (lts T (skp T p)) [] with
    | inl y => rw [en] at h; cases h; exact nums_f _ _ _ _ (lts_le s.2).2 en
    | inr e => rw [en] at h; cases h
theorem par_f {T : List Nat} : ∀ g p P x, p ≤ T.length → parR T g p P = Sum.inl x → x ≤ T.length
  | 0, p, P, x, hp, h => by cases h
  | g + 1, p, P, x, hp, h => by
    have e2 : parR T (g + 1) p P = (match clauR T p with
      | Sum.inl e => Sum.inl e
      | Sum.inr e => if T[e.2]? = some 59 then parR T g (e.2 + 1) (P ++ [e.1]) else if e.2 < T.length then Sum.inl e.2 else Sum.inr (P ++ [e.1])) := rfl
    rw [e2] at h
    cases ec : clauR T p with
    | inl y => rw [ec] at h; cases h; exact clau_f hp ec
    | inr e =>
      rw [ec] at h
      dsimp only at h
      split at h
      · rename_i c
        have hl : e.2 < T.length := (List.getElem?_eq_some_iff.mp c).1
        exact par_f g _ _ x (by omega) h
      · split at h
        · cases h; omega
        · cases h
theorem Icz_tp {a i : Nat} (h : Icz a i = true) : Itp a i = true := by have := of_decide_eq_true h; exact decide_eq_true (by omega)
theorem XS_cz {σ σ' : St} {S : MSt} (h : XS σ S) (hf : Fm Icz noL σ σ') : XS σ' S := XS_tp h (Fm_mono hf (fun a i => Icz_tp) (fun _ q => q)) (fun a i q => decide_eq_false (by omega)) (tpC_cz h.2.2.2.1 hf)
theorem Fc_cz {σ σ' : St} (hf : Fm Icz noL σ σ') : Fc σ σ' := Fm_mono hf (fun a i q => Itp_ICc (Icz_tp q)) noL_t
theorem exS_le {a : Nat × Net} {c : Clz} : (exS a c).1 ≤ a.1 + 1 := by
  unfold exS
  dsimp only
  split <;> omega
theorem xtx_l {d : Nat} {Q : Option PV → St → Prop} {σ0 : St} {Y : Option Net × List Nat × Shs} {C : List Clz} {E : Nat × Net} (hQ : ∀ σ' l3, XS σ' (E.2, Y) → Fc σ0 σ' → At (d + 9) kX8_text 80 [vR 0 8, vI (nI E.1), vI (-1), vI l3] [] σ' Q) : ∀ g p P σ (a : Nat × Net) i, Y.2.1.length < p + g → p ≤ Y.2.1.length → i ≤ p → a.1 ≤ i → XS σ (a.2, Y) → Fc σ0 σ → rI σ 83 2 = nI p → parR Y.2.1 g p P = Sum.inr C → (C.drop P.length).foldl exS a = E → At (d + 9) kX8_text 33 [vR 0 8, vI (nI a.1), vI (-1), vI (nI i)] [] σ Q
  | 0, p, P, σ, a, i, hg, hp, hi, hai, hS, hf, ha, hpar, he => by omega
  | g + 1, p, P, σ, a, i, hg, hp, hi, hai, hS, hf, ha, hpar, he => by
    have hX := hS.1.1
    have hT := hS.2.2.2.1
    have t60 : Y.2.1.length ≤ 60 := hT.2.1
    have e2 : parR Y.2.1 (g + 1) p P = (match clauR Y.2.1 p with
      | Sum.inl e => Sum.inl e
      | Sum.inr e => if Y.2.1[e.2]? = some 59 then parR Y.2.1 g (e.2 + 1) (P ++ [e.1]) else if e.2 < Y.2.1.length then Sum.inl e.2 else Sum.inr (P ++ [e.1])) := rfl
    rw [e2] at hpar
    have c60 : ¬ 60 < i := by omega
    have ev : ∀ i : Nat, nI i + (1 : Int32) = nI (i + 1) := fun i => nI_add i 1
    cases ec : clauR Y.2.1 p with
    | inl x => rw [ec] at hpar; cases hpar
    | inr e =>
      rw [ec] at hpar
      dsimp only at hpar
      obtain ⟨l1, l2, l3, l4⟩ := clauR_le hp ec
      simp (disch := first | exact is2I | exact is2R | omega) only [z_X8_text_33, z_X8_text_34, z_X8_text_36, z_X8_text_39, z_X8_text_40, z_X8_text_43, kLLt, c60, xf_r0_7 hX, true_and, Option.toList_some, Option.toList_none, List.cons_append, List.nil_append, is2IT, is2RT, if_true, if_false]
      refine c_readClause (d := d) hX hT hp ha ec (fun σ1 g1 g2 g3 g4 g5 => ?_)
      have hS1 := XS_cz hS g1
      have hX1 := hS1.1.1
      have n10 : ((1 : Int32) = 0) = False := eq_false (by decide)
      simp (disch := first | exact is2I | exact is2R | omega) only [z_X8_text_46, z_X8_text_49, z_X8_text_50, z_X8_text_51, z_X8_text_54, z_X8_text_57, z_X8_text_58, z_X8_text_61, z_X8_text_64, n10, xf_r0_7 hX1, xf_r83_7 hX1, g2, Option.toList_some, List.cons_append, List.nil_append, true_and, Option.toList_some, Option.toList_none, List.cons_append, List.nil_append, is2IT, is2RT, if_true, if_false]
      refine x_doC (d := d + 3) hS1 l3 l4 g3 (fun σ2 r f1 f2 f3 => ?_)
      have f1' : XS σ2 ((exS a e.1).2, Y) := f1
      have a2 : rI σ2 83 2 = rI σ1 83 2 := f2.1 83 2 (decide_eq_false (by omega))
      have hc : Fc σ0 σ2 := Fm_tr (Fm_tr hf (Fc_cz g1)) (Fm_mono f2 (fun a i => Iwb_ICc) noL_t)
      have le1 := @exS_le a e.1
      simp (disch := first | exact is2I | exact is2R | omega) only [z_X8_text_67, z_X8_text_68, Option.toList_some, List.cons_append, List.nil_append, true_and, Option.toList_some, Option.toList_none, List.cons_append, List.nil_append, is2IT, is2RT, if_true, if_false]
      have tail : At (d + 9) kX8_text 74 [vR 0 8, vI (nI (exS a e.1).1), vI (-1), vI (nI i)] [] σ2 Q := by
        simp (disch := first | exact is2I | exact is2R | omega) only [z_X8_text_74, ev, true_and, Option.toList_some, Option.toList_none, List.cons_append, List.nil_append, is2IT, is2RT, if_true, if_false]
        rw [z_X8_text_77]
        by_cases c1 : Y.2.1[e.2]? = some 59
        · rw [if_pos c1] at hpar
          have hl : e.2 < Y.2.1.length := (List.getElem?_eq_some_iff.mp c1).1
          obtain ⟨R, hR⟩ := par_pre _ _ _ _ hpar
          have hd : C.drop P.length = e.1 :: R := by rw [hR, List.append_assoc, List.drop_left]; rfl
          have hd2 : C.drop (P ++ [e.1]).length = R := by rw [hR, List.drop_left]
          rw [hd, List.foldl_cons] at he
          exact xtx_l hQ g (e.2 + 1) (P ++ [e.1]) σ2 (exS a e.1) (i + 1) (by omega) (by omega) (by omega) (by omega) f1' hc (by rw [a2]; exact g4 c1) hpar (by rw [hd2]; exact he)
        · rw [if_neg c1] at hpar
          by_cases c2 : e.2 < Y.2.1.length
          · rw [if_pos c2] at hpar; cases hpar
          · rw [if_neg c2] at hpar
            cases hpar
            have hd : (P ++ [e.1]).drop P.length = [e.1] := by rw [List.drop_left]
            rw [hd] at he
            have he' : exS a e.1 = E := he
            rw [he'] at f1' ⊢
            have hX2 := f1'.1.1
            have ae : rI σ2 83 2 = nI e.2 := by rw [a2]; exact g5 (show Y.2.1.length ≤ e.2 by omega)
            simp (disch := first | exact is2I | exact is2R | omega) only [z_X8_text_33, z_X8_text_34, z_X8_text_36, kLLt, true_and, Option.toList_some, Option.toList_none, List.cons_append, List.nil_append, is2IT, is2RT, if_true, if_false]
            by_cases c6 : 60 < i + 1
            · rw [if_pos c6]
              exact hQ σ2 _ f1' hc
            · rw [if_neg c6]
              simp (disch := first | exact is2I | exact is2R | omega) only [z_X8_text_39, z_X8_text_40, z_X8_text_43, xf_r0_7 hX2, true_and, Option.toList_some, Option.toList_none, List.cons_append, List.nil_append, is2IT, is2RT, if_true, if_false]
              refine c_clauseEnd (d := d) (p := e.2) hX2 f1'.2.2.2.1 (by show e.2 = Y.2.1.length; omega) ae (fun σ3 g6 => ?_)
              simp (disch := first | exact is2I | exact is2R | omega) only [z_X8_text_46, Option.toList_some, List.cons_append, List.nil_append, true_and, Option.toList_some, Option.toList_none, List.cons_append, List.nil_append, is2IT, is2RT, if_true, if_false]
              exact hQ σ3 _ (XS_cz f1' g6) (Fm_tr hc (Fc_cz g6))
      have es : exS a e.1 = (if (doC a.2 e.1).1 = true then a.1 + 1 else a.1, (doC a.2 e.1).2) := rfl
      have f3' : (-1 ≤ r) ↔ (doC a.2 e.1).1 = true := f3
      by_cases cr : (doC a.2 e.1).1 = true
      · rw [if_neg (Int32.not_lt.mpr (f3'.mpr cr))]
        rw [es, if_pos cr] at tail
        simp (disch := first | exact is2I | exact is2R | omega) only [z_X8_text_71, ev, true_and, Option.toList_some, Option.toList_none, List.cons_append, List.nil_append, is2IT, is2RT, if_true, if_false]
        exact tail
      · rw [if_pos (Int32.not_le.mp (fun q => cr (f3'.mp q)))]
        rw [es, if_neg cr] at tail
        exact tail
theorem x_text {d : Nat} {Q : Option PV → St → Prop} {σ : St} {S : MSt} (h : XS σ S) (hQ : ∀ σ', XS σ' ((textF S.1 S.2.2.1).2, S.2.1, [], S.2.2.2) → Fc σ σ' → Q (some (vI (textF S.1 S.2.2.1).1)) σ') : Ca (d + 10) 80 [vR 0 8] σ Q := by
  have hX := h.1.1
  have hT := h.2.2.2.1
  have t60 := hT.2.1
  rw [ca_at (K := kX8_text) (ls := [vR 0 8, vU, vU, vU]) rfl rfl rfl]
  unfold textF at hQ
  simp (disch := first | exact is2I | exact is2R | omega) only [z_X8_text_0, z_X8_text_1, z_X8_text_2, z_X8_text_3, z_X8_text_6, xf_r0_7 hX, true_and, Option.toList_some, Option.toList_none, List.cons_append, List.nil_append, is2IT, is2RT, if_true, if_false]
  refine c_findFault (d := d) hX hT (fun σ1 f1 => ?_)
  have h1 := XS_cz h (Fm_cz f1)
  have hX1 := h1.1.1
  have fin : ∀ σ2 N2 x l2 l3, XS σ2 (N2, S.2) → Fc σ σ2 → (∀ σ', XS σ' (N2, S.2.1, [], S.2.2.2) → Fc σ σ' → Q (some (vI x)) σ') → At (d + 9) kX8_text 80 [vR 0 8, vI x, l2, l3] [] σ2 Q := fun σ2 N2 x l2 l3 g1 g2 g3 => by
    simp (disch := first | exact is2I | exact is2R | omega) only [z_X8_text_80, z_X8_text_81, z_X8_text_84, z_X8_text_85, z_X8_text_88, z_X8_text_89, xf_r0_7 g1.1.1, true_and, Option.toList_some, Option.toList_none, List.cons_append, List.nil_append, is2IT, is2RT, if_true, if_false]
    have F : Fm Itp noL σ2 (wI σ2 83 1 0) := Fm_wI rfl
    exact g3 _ (XS_tp g1 F (fun a i q => decide_eq_false (by omega)) ⟨by rw [rI_wI, if_pos ⟨rfl, rfl⟩]; rfl, Nat.zero_le _, fun i hi => absurd hi (Nat.not_lt_zero i)⟩) (Fm_tr g2 (Fm_mono F (fun a i => Itp_ICc) noL_t))
  cases ep : parR S.2.2.1 61 0 [] with
  | inl f =>
    rw [ep] at hQ
    show At (d + 9) kX8_text 9 [vR 0 8, vI 0, vU, vU] ((some (vI (nI f))).toList ++ []) σ1 Q
    have fl := par_f 61 0 [] f (Nat.zero_le _) ep
    simp (disch := first | exact is2I | exact is2R | omega) only [z_X8_text_9, z_X8_text_10, z_X8_text_11, z_X8_text_12, z_X8_text_15, z_X8_text_17, z_X8_text_18, z_X8_text_19, z_X8_text_20, kM1, Option.toList_some, List.cons_append, List.nil_append, true_and, Option.toList_some, Option.toList_none, List.cons_append, List.nil_append, is2IT, is2RT, if_true, if_false]
    exact fin σ1 S.1 _ _ _ h1 (Fc_cz (Fm_cz f1)) hQ
  | inr C =>
    rw [ep] at hQ
    show At (d + 9) kX8_text 9 [vR 0 8, vI 0, vU, vU] ((some (vI (-1))).toList ++ []) σ1 Q
    simp (disch := first | exact is2I | exact is2R | omega) only [z_X8_text_9, z_X8_text_10, z_X8_text_11, z_X8_text_12, z_X8_text_15, z_X8_text_17, z_X8_text_18, z_X8_text_19, z_X8_text_20, z_X8_text_23, z_X8_text_24, z_X8_text_27, z_X8_text_28, z_X8_text_31, z_X8_text_32, xf_r0_7 hX1, Option.toList_some, List.cons_append, List.nil_append, true_and, Option.toList_some, Option.toList_none, List.cons_append, List.nil_append, is2IT, is2RT, if_true, if_false]
    have F2 : Fm Itk noL σ1 (wI σ1 83 2 0) := Fm_wI (decide_eq_true (by omega))
    have h2 := XS_cz h1 (Fm_cz F2)
    exact xtx_l (d := d) (C := C) (E := C.foldl exS (0, S.1)) (Y := S.2) (fun σ' l3 g1 g2 => fin σ' _ _ _ _ g1 (Fm_tr (Fc_cz (Fm_cz f1)) g2) hQ) 61 0 [] _ (0, S.1) 0 (by omega) (Nat.zero_le _) (Nat.le_refl 0) (Nat.le_refl 0) h2 (Fc_cz (Fm_cz F2)) (by rw [rI_wI, if_pos ⟨rfl, rfl⟩]; rfl) ep rfl
