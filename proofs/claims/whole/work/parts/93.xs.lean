/-! ===== the class's whole state; calls that look at one node or change it ===== -/
def shAC (σ : St) (j : Nat) (o : Option (Nat × Nat × (Nat → Int64))) : Prop := match o with
  | none => rI σ (89 + 2 * j) 1 = -1
  | some (t, n, g) => t ≤ 2 ∧ rI σ (89 + 2 * j) 1 = nI t ∧ rI σ (89 + 2 * j) 2 = nI n ∧ n ≤ 40 ∧ ∀ i, i < n → rL σ (90 + 2 * j) i = g i
def shC (σ : St) (f : Shs) : Prop := ∀ j, j < 4 → shAC σ j (f j)
def tpC (σ : St) (l : List Nat) : Prop := rI σ 83 1 = nI l.length ∧ l.length ≤ 60 ∧ ∀ i (h : i < l.length), rI σ 84 i = nI l[i] ∧ l[i] < 256
def XS (σ : St) (S : MSt) : Prop := CI σ 1 S.1 ∧ (rI σ 0 3 = if S.2.1.isSome then 1 else 0) ∧ (∀ K, S.2.1 = some K → WB σ 24 K ∧ NV K) ∧ tpC σ S.2.2.1 ∧ shC σ S.2.2.2
/-- what any call of the class but print may change; what is but scratch -/
def ICc (a _i : Nat) : Bool := decide (a < 86 ∨ (88 ≤ a ∧ a < 97))
def LCc (a : Nat) : Bool := decide (a < 97)
def Isc (a _i : Nat) : Bool := decide (47 ≤ a ∧ a ≤ 82)
def Lsc (a : Nat) : Bool := decide (47 ≤ a ∧ a ≤ 82)
abbrev Xc (σ σ' : St) : Prop := Fm Isc Lsc σ σ'
abbrev Fc (σ σ' : St) : Prop := Fm ICc LCc σ σ'
theorem Xc_Fc {σ σ' : St} (h : Xc σ σ') : Fc σ σ' := Fm_mono h (fun a i q => by have := of_decide_eq_true q; exact decide_eq_true (by omega)) (fun a q => by have := of_decide_eq_true q; exact decide_eq_true (by omega))
theorem Wk1 : Wk 1 := Or.inl rfl
theorem Wk24 : Wk 24 := Or.inr (Or.inl rfl)
theorem Wk47 : Wk 47 := Or.inr (Or.inr rfl)
theorem tpC_fm {I : Nat → Nat → Bool} {L : Nat → Bool} {σ σ' : St} {l : List Nat} (h : tpC σ l) (hf : Fm I L σ σ') (h1 : I 83 1 = false) (h2 : ∀ i, I 84 i = false) : tpC σ' l := ⟨by rw [hf.1 83 1 h1]; exact h.1, h.2.1, fun i hi => by rw [hf.1 84 i (h2 i)]; exact h.2.2 i hi⟩
theorem shAC_fm {I : Nat → Nat → Bool} {L : Nat → Bool} {σ σ' : St} {j : Nat} {o : Option (Nat × Nat × (Nat → Int64))} (h : shAC σ j o) (hf : Fm I L σ σ') (h1 : ∀ i, I (89 + 2 * j) i = false) (h2 : L (90 + 2 * j) = false) : shAC σ' j o := by
  cases o with
  | none =>
    have h' : rI σ (89 + 2 * j) 1 = -1 := h
    show rI σ' (89 + 2 * j) 1 = -1
    rw [hf.1 _ _ (h1 1)]; exact h'
  | some e =>
    obtain ⟨t, n, g⟩ := e
    obtain ⟨a1, a2, a3, a4, a5⟩ := h
    exact ⟨a1, by rw [hf.1 _ _ (h1 1)]; exact a2, by rw [hf.1 _ _ (h1 2)]; exact a3, a4, fun i hi => by rw [hf.2.1 _ _ h2]; exact a5 i hi⟩
theorem XS_fm {I : Nat → Nat → Bool} {L : Nat → Bool} {σ σ' : St} {S : MSt} (h : XS σ S) (hf : Fm I L σ σ') (hI : ∀ a i, a < 47 ∨ (83 ≤ a ∧ a < 97 ∧ (a = 83 → i = 1)) → I a i = false) (hL : ∀ a, 83 ≤ a → a < 97 → L a = false) : XS σ' S := by
  obtain ⟨⟨h1, h2, h3, h4⟩, h5, h6, h7, h8⟩ := h
  refine ⟨⟨XF_fm h1 hf, h2, WB_fm h3 h4.1 hf (fun a i q1 q2 => hI a i (by omega)), h4⟩, by rw [hf.1 0 3 (hI 0 3 (by omega))]; exact h5, fun K hK => ⟨WB_fm (h6 K hK).1 (h6 K hK).2.1 hf (fun a i q1 q2 => hI a i (by omega)), (h6 K hK).2⟩, tpC_fm h7 hf (hI 83 1 (by omega)) (fun i => hI 84 i (by omega)), fun j hj => shAC_fm (h8 j hj) hf (fun i => hI _ i (by omega)) (hL _ (by omega) (by omega))⟩
theorem XS_sc {σ σ' : St} {S : MSt} (h : XS σ S) (hf : Xc σ σ') : XS σ' S := XS_fm h hf (fun a i q => decide_eq_false (by omega)) (fun a q1 q2 => decide_eq_false (by omega))
theorem Iwb_ICc {a i : Nat} (h : Iwb 1 a i = true) : ICc a i = true := by have := of_decide_eq_true h; exact decide_eq_true (by omega)
theorem noL_t {L : Nat → Bool} (a : Nat) (h : noL a = true) : L a = true := by cases h
theorem XS_web {σ σ' : St} {S : MSt} {N : Net} (h : XS σ S) (hf : Fm (Iwb 1) noL σ σ') (hB : WB σ' 1 N) (hN : NV N) : XS σ' (N, S.2) := by
  obtain ⟨⟨h1, h2, h3, h4⟩, h5, h6, h7, h8⟩ := h
  have hI : ∀ a i, a < 1 ∨ 23 < a → Iwb 1 a i = false := fun a i q => decide_eq_false (by omega)
  exact ⟨⟨XF_fm h1 hf, h2, hB, hN⟩, by rw [hf.1 0 3 (hI 0 3 (by omega))]; exact h5, fun K hK => ⟨WB_fm (h6 K hK).1 (h6 K hK).2.1 hf (fun a i q1 q2 => hI a i (by omega)), (h6 K hK).2⟩, tpC_fm h7 hf (hI 83 1 (by omega)) (fun i => hI 84 i (by omega)), fun j hj => shAC_fm (h8 j hj) hf (fun i => hI _ i (by omega)) rfl⟩
theorem gtN {x : Int32} {n : Nat} (hn : n + 1 < 2 ^ 31) : (nI n < x) = ¬ (x < nI (n + 1)) := propext (by
  rw [Int32.lt_iff_toInt_lt, Int32.lt_iff_toInt_lt, nI_toInt (by omega), nI_toInt (by omega)]; omega)
section RG
variable {d : Nat} {Q : Option PV → St → Prop} {σ : St} {x : Int32}
theorem ge0 : (x < 0) = ¬ (0 ≤ x) := propext (Int32.not_le).symm
theorem c_isHint : Ca (d + 1) 110 [vI x] σ Q ↔ Q (some (vI (b2 (0 ≤ x ∧ x < nI 10)))) σ := by
  have g : ((9 : Int32) < x) = ¬ (x < nI 10) := gtN (n := 9) (by decide)
  rw [ca_at (K := kX8_isHint) (ls := [vI x]) rfl rfl rfl]
  simp only [z_X8_isHint_0, z_X8_isHint_1, z_X8_isHint_4, z_X8_isHint_5, z_X8_isHint_7, z_X8_isHint_10, z_X8_isHint_11, z_X8_isHint_14, z_X8_isHint_15, ge0, g, rk_b0, rk_b1, true_and, Option.toList_some, Option.toList_none, List.cons_append, List.nil_append, is2IT, is2RT, if_true, if_false]
  by_cases c1 : 0 ≤ x
  · by_cases c2 : x < nI 10
    · rw [if_neg (fun q => q c1), if_neg (fun q => q c2), b2_t ⟨c1, c2⟩]
    · rw [if_neg (fun q => q c1), if_pos c2, b2_f (fun q => c2 q.2)]
  · rw [if_pos c1, b2_f (fun q => c1 q.1)]
theorem c_isTw : Ca (d + 1) 109 [vI x] σ Q ↔ Q (some (vI (b2 (0 ≤ x ∧ x < nI 13)))) σ := by
  have g : ((12 : Int32) < x) = ¬ (x < nI 13) := gtN (n := 12) (by decide)
  rw [ca_at (K := kX8_isTwelfths) (ls := [vI x]) rfl rfl rfl]
  simp only [z_X8_isTwelfths_0, z_X8_isTwelfths_1, z_X8_isTwelfths_4, z_X8_isTwelfths_5, z_X8_isTwelfths_7, z_X8_isTwelfths_10, z_X8_isTwelfths_11, z_X8_isTwelfths_14, z_X8_isTwelfths_15, ge0, g, rk_b0, rk_b1, true_and, Option.toList_some, Option.toList_none, List.cons_append, List.nil_append, is2IT, is2RT, if_true, if_false]
  by_cases c1 : 0 ≤ x
  · by_cases c2 : x < nI 13
    · rw [if_neg (fun q => q c1), if_neg (fun q => q c2), b2_t ⟨c1, c2⟩]
    · rw [if_neg (fun q => q c1), if_pos c2, b2_f (fun q => c2 q.2)]
  · rw [if_pos c1, b2_f (fun q => c1 q.1)]
theorem c_isSort : Ca (d + 1) 113 [vI x] σ Q ↔ Q (some (vI (b2 (0 ≤ x ∧ x < nI 3)))) σ := by
  have g : ((2 : Int32) < x) = ¬ (x < nI 3) := gtN (n := 2) (by decide)
  rw [ca_at (K := kX8_isSort) (ls := [vI x]) rfl rfl rfl]
  simp only [z_X8_isSort_0, z_X8_isSort_1, z_X8_isSort_4, z_X8_isSort_5, z_X8_isSort_6, z_X8_isSort_9, z_X8_isSort_10, z_X8_isSort_13, z_X8_isSort_14, ge0, g, rk_b0, rk_b1, true_and, Option.toList_some, Option.toList_none, List.cons_append, List.nil_append, is2IT, is2RT, if_true, if_false]
  by_cases c1 : 0 ≤ x
  · by_cases c2 : x < nI 3
    · rw [if_neg (fun q => q c1), if_neg (fun q => q c2), b2_t ⟨c1, c2⟩]
    · rw [if_neg (fun q => q c1), if_pos c2, b2_f (fun q => c2 q.2)]
  · rw [if_pos c1, b2_f (fun q => c1 q.1)]
theorem c_isSheet : Ca (d + 1) 112 [vI x] σ Q ↔ Q (some (vI (b2 (0 ≤ x ∧ x < nI 4)))) σ := by
  have g : ((4 : Int32) ≤ x) = ¬ (x < nI 4) := propext (Int32.not_lt (a := x) (b := nI 4)).symm
  rw [ca_at (K := kX8_isSheet) (ls := [vI x]) rfl rfl rfl]
  simp only [z_X8_isSheet_0, z_X8_isSheet_1, z_X8_isSheet_4, z_X8_isSheet_5, z_X8_isSheet_6, z_X8_isSheet_9, z_X8_isSheet_10, z_X8_isSheet_13, z_X8_isSheet_14, ge0, g, rk_b0, rk_b1, true_and, Option.toList_some, Option.toList_none, List.cons_append, List.nil_append, is2IT, is2RT, if_true, if_false]
  by_cases c1 : 0 ≤ x
  · by_cases c2 : x < nI 4
    · rw [if_neg (fun q => q c1), if_neg (fun q => q c2), b2_t ⟨c1, c2⟩]
    · rw [if_neg (fun q => q c1), if_pos c2, b2_f (fun q => c2 q.2)]
  · rw [if_pos c1, b2_f (fun q => c1 q.1)]
theorem c_isLine : Ca (d + 1) 111 [vI x] σ Q ↔ Q (some (vI (b2 (0 ≤ x ∧ x < nI 2)))) σ := by
  have e : (0 ≤ x ∧ x < nI 2) = (x = 0 ∨ x = 1) := propext (okL_iff (l := x))
  rw [ca_at (K := kX8_isLine) (ls := [vI x]) rfl rfl rfl]
  simp only [z_X8_isLine_0, z_X8_isLine_1, z_X8_isLine_4, z_X8_isLine_5, z_X8_isLine_6, z_X8_isLine_9, z_X8_isLine_10, z_X8_isLine_13, z_X8_isLine_14, rk_b0, rk_b1, true_and, Option.toList_some, Option.toList_none, List.cons_append, List.nil_append, is2IT, is2RT, if_true, if_false]
  by_cases c1 : x = 0
  · rw [if_pos c1, b2_t (by rw [e]; exact Or.inl c1)]
  · rw [if_neg c1]
    by_cases c2 : x = 1
    · rw [if_pos c2, b2_t (by rw [e]; exact Or.inr c2)]
    · rw [if_neg c2, b2_f (by rw [e]; exact fun q => q.elim c1 c2)]
end RG
theorem NV_kk {N : Net} (h : NV N) {k : Nat} (hk : k < nM N) : nK N k ≤ 3 := (h.2 k hk).2.1
theorem x_told {d : Nat} {Q : Option PV → St → Prop} {σ : St} {S : MSt} {n v : Int32} (h : XS σ S) (hQ : ∀ σ', XS σ' ((becS S.1 4 n v).2, S.2) → Fm (Iwb 1) noL σ σ' → Q (some (vI (becS S.1 4 n v).1)) σ') : Ca (d + 3) 76 [vR 0 8, vI n, vI v] σ Q := by
  have hC := h.1
  have h7 := CI_7 hC
  have hX := hC.1
  rw [ca_at (K := kX8_told) (ls := [vR 0 8, vI n, vI v, vU, vU]) rfl rfl rfl]
  unfold becS at hQ
  cases hp : pN (nM S.1) n with
  | none =>
    rw [hp] at hQ
    simp (disch := first | exact is2I | exact is2R | omega) only [z_X8_told_0, z_X8_told_1, z_X8_told_4, z_X8_told_5, z_X8_told_8, z_X8_told_11, z_X8_told_13, xf_r0_0 hX, c_has hC, b2_0, pN_none.mp hp, not_false_eq_true, true_and, Option.toList_some, Option.toList_none, List.cons_append, List.nil_append, is2IT, is2RT, if_true, if_false]
    exact hQ σ h Fm_rf
  | some k =>
    rw [hp] at hQ
    obtain ⟨hk, rfl⟩ := (pN_some (by omega)).mp hp
    have hP : 0 ≤ nI k ∧ nI k < nI (nM S.1) := (lt_nI (by omega)).mpr ⟨k, hk, rfl⟩
    have hs := NV_sv hC.2.2.2 hk
    have e8 := (hC.2.2.1.2 k hk).2.2.2.2.2.2.1
    dsimp only at hQ
    simp (disch := first | exact is2I | exact is2R | omega) only [z_X8_told_0, z_X8_told_1, z_X8_told_4, z_X8_told_5, z_X8_told_8, z_X8_told_11, z_X8_told_13, z_X8_told_14, z_X8_told_15, z_X8_told_18, z_X8_told_21, z_X8_told_22, z_X8_told_22s, z_X8_told_23, z_X8_told_24, z_X8_told_25, z_X8_told_26, z_X8_told_29, xf_r0_0 hX, c_has hC, b2_0, hP, and_self, not_true_eq_false, xw_a hX Wk1, xw_n hX Wk1 (show k < 7 by omega), xs_a hX Wk1, kIn, kCl, c_nhasN hC hk, true_and, Option.toList_some, Option.toList_none, List.cons_append, List.nil_append, is2IT, is2RT, if_true, if_false]
    have go : ∀ o : Option Nat, (∀ u, o = some u → u < nS S.1 k) → (∀ σ', XS σ' (setFD S.1 k 4 o, S.2) → Fm (Iwb 1) noL σ σ' → Q (some (vI (oI (nF1 S.1 k)))) σ') → At (d + 2) kX8_told 35 [vR 0 8, vI (nI k), vI (oI o), vR (nO 1 k) 2, vU] [] σ Q := fun o ho hq => by
      simp (disch := first | exact is2I | exact is2R | omega) only [z_X8_told_35, z_X8_told_36, z_X8_told_39, z_X8_told_41, z_X8_told_42, z_X8_told_43, z_X8_told_46, z_X8_told_48, e8, true_and, Option.toList_some, Option.toList_none, List.cons_append, List.nil_append, is2IT, is2RT, if_true, if_false]
      have F : Fm (Iwb 1) noL σ (wI σ (nO 1 k) 8 (oI o)) := Fm_wI (Iwb_n (by omega))
      exact hq _ (XS_web h F (WB_FD hC.2.2.1 hC.2.2.2 (Or.inl ⟨rfl, rfl⟩)) (setFD_NV hC.2.2.2 ho)) F
    by_cases c1 : v = -1
    · rw [if_pos c1] at hQ
      rw [if_neg (fun q => q (Or.inl c1)), c1]
      exact go none (fun u q => by cases q) hQ
    · rw [if_neg c1] at hQ
      cases hv : pN (nS S.1 k) v with
      | none =>
        rw [hv] at hQ
        rw [if_pos (fun q => q.elim c1 (pN_none.mp hv))]
        simp only [z_X8_told_32, z_X8_told_34, true_and, Option.toList_some, Option.toList_none, List.cons_append, List.nil_append, is2IT, is2RT, if_true, if_false]
        exact hQ σ h Fm_rf
      | some u =>
        rw [hv] at hQ
        obtain ⟨hu, rfl⟩ := (pN_some (by omega)).mp hv
        rw [if_neg (fun q => q (Or.inr ((lt_nI (by omega)).mpr ⟨u, hu, rfl⟩)))]
        exact go (some u) (fun x q => by cases q; exact hu) hQ
theorem x_done {d : Nat} {Q : Option PV → St → Prop} {σ : St} {S : MSt} {n v : Int32} (h : XS σ S) (hQ : ∀ σ', XS σ' ((becS S.1 5 n v).2, S.2) → Fm (Iwb 1) noL σ σ' → Q (some (vI (becS S.1 5 n v).1)) σ') : Ca (d + 3) 77 [vR 0 8, vI n, vI v] σ Q := by
  have hC := h.1
  have h7 := CI_7 hC
  have hX := hC.1
  rw [ca_at (K := kX8_done) (ls := [vR 0 8, vI n, vI v, vU, vU]) rfl rfl rfl]
  unfold becS at hQ
  cases hp : pN (nM S.1) n with
  | none =>
    rw [hp] at hQ
    simp (disch := first | exact is2I | exact is2R | omega) only [z_X8_done_0, z_X8_done_1, z_X8_done_4, z_X8_done_5, z_X8_done_8, z_X8_done_11, z_X8_done_13, xf_r0_0 hX, c_has hC, b2_0, pN_none.mp hp, not_false_eq_true, true_and, Option.toList_some, Option.toList_none, List.cons_append, List.nil_append, is2IT, is2RT, if_true, if_false]
    exact hQ σ h Fm_rf
  | some k =>
    rw [hp] at hQ
    obtain ⟨hk, rfl⟩ := (pN_some (by omega)).mp hp
    have hP : 0 ≤ nI k ∧ nI k < nI (nM S.1) := (lt_nI (by omega)).mpr ⟨k, hk, rfl⟩
    have hs := NV_sv hC.2.2.2 hk
    have e8 := (hC.2.2.1.2 k hk).2.2.2.2.2.2.2.1
    dsimp only at hQ
    simp (disch := first | exact is2I | exact is2R | omega) only [z_X8_done_0, z_X8_done_1, z_X8_done_4, z_X8_done_5, z_X8_done_8, z_X8_done_11, z_X8_done_13, z_X8_done_14, z_X8_done_15, z_X8_done_18, z_X8_done_21, z_X8_done_22, z_X8_done_22s, z_X8_done_23, z_X8_done_24, z_X8_done_25, z_X8_done_26, z_X8_done_29, xf_r0_0 hX, c_has hC, b2_0, hP, and_self, not_true_eq_false, xw_a hX Wk1, xw_n hX Wk1 (show k < 7 by omega), xs_a hX Wk1, kIn, kCl, c_nhasN hC hk, true_and, Option.toList_some, Option.toList_none, List.cons_append, List.nil_append, is2IT, is2RT, if_true, if_false]
    have go : ∀ o : Option Nat, (∀ u, o = some u → u < nS S.1 k) → (∀ σ', XS σ' (setFD S.1 k 5 o, S.2) → Fm (Iwb 1) noL σ σ' → Q (some (vI (oI (nD S.1 k)))) σ') → At (d + 2) kX8_done 35 [vR 0 8, vI (nI k), vI (oI o), vR (nO 1 k) 2, vU] [] σ Q := fun o ho hq => by
      simp (disch := first | exact is2I | exact is2R | omega) only [z_X8_done_35, z_X8_done_36, z_X8_done_39, z_X8_done_41, z_X8_done_42, z_X8_done_43, z_X8_done_46, z_X8_done_48, e8, true_and, Option.toList_some, Option.toList_none, List.cons_append, List.nil_append, is2IT, is2RT, if_true, if_false]
      have F : Fm (Iwb 1) noL σ (wI σ (nO 1 k) 9 (oI o)) := Fm_wI (Iwb_n (by omega))
      exact hq _ (XS_web h F (WB_FD hC.2.2.1 hC.2.2.2 (Or.inr ⟨rfl, rfl⟩)) (setFD_NV hC.2.2.2 ho)) F
    by_cases c1 : v = -1
    · rw [if_pos c1] at hQ
      rw [if_neg (fun q => q (Or.inl c1)), c1]
      exact go none (fun u q => by cases q) hQ
    · rw [if_neg c1] at hQ
      cases hv : pN (nS S.1 k) v with
      | none =>
        rw [hv] at hQ
        rw [if_pos (fun q => q.elim c1 (pN_none.mp hv))]
        simp only [z_X8_done_32, z_X8_done_34, true_and, Option.toList_some, Option.toList_none, List.cons_append, List.nil_append, is2IT, is2RT, if_true, if_false]
        exact hQ σ h Fm_rf
      | some u =>
        rw [hv] at hQ
        obtain ⟨hu, rfl⟩ := (pN_some (by omega)).mp hv
        rw [if_neg (fun q => q (Or.inr ((lt_nI (by omega)).mpr ⟨u, hu, rfl⟩)))]
        exact go (some u) (fun x q => by cases q; exact hu) hQ
theorem x_hint {d : Nat} {Q : Option PV → St → Prop} {σ : St} {S : MSt} {n a b c : Int32} (h : XS σ S) (hQ : ∀ σ', XS σ' ((hintS S.1 n a b c).2, S.2) → Fm (Iwb 1) noL σ σ' → Q (some (vI (hintS S.1 n a b c).1)) σ') : Ca (d + 3) 78 [vR 0 8, vI n, vI a, vI b, vI c] σ Q := by
  have hC := h.1
  have h7 := CI_7 hC
  have hX := hC.1
  rw [ca_at (K := kX8_hint) (ls := [vR 0 8, vI n, vI a, vI b, vI c, vU, vU]) rfl rfl rfl]
  unfold hintS at hQ
  cases hp : pN (nM S.1) n with
  | none =>
    rw [hp] at hQ
    simp (disch := first | exact is2I | exact is2R | omega) only [z_X8_hint_0, z_X8_hint_1, z_X8_hint_4, z_X8_hint_5, z_X8_hint_8, z_X8_hint_33, z_X8_hint_35, xf_r0_0 hX, c_has hC, b2_0, pN_none.mp hp, not_false_eq_true, true_and, Option.toList_some, Option.toList_none, List.cons_append, List.nil_append, is2IT, is2RT, if_true, if_false]
    exact hQ σ h Fm_rf
  | some k =>
    rw [hp] at hQ
    obtain ⟨hk, rfl⟩ := (pN_some (by omega)).mp hp
    have hP : 0 ≤ nI k ∧ nI k < nI (nM S.1) := (lt_nI (by omega)).mpr ⟨k, hk, rfl⟩
    dsimp only at hQ
    by_cases ho : (0 ≤ a ∧ a < nI 10) ∧ (0 ≤ b ∧ b < nI 10) ∧ 0 ≤ c ∧ c < nI 10
    · rw [if_pos ho] at hQ
      obtain ⟨ha, hb, hc⟩ := ho
      obtain ⟨x, hx, rfl⟩ := (lt_nI (by decide)).mp ha
      obtain ⟨y, hy, rfl⟩ := (lt_nI (by decide)).mp hb
      obtain ⟨z, hz, rfl⟩ := (lt_nI (by decide)).mp hc
      rw [nI_clamp (by omega), nI_clamp (by omega), nI_clamp (by omega)] at hQ
      have F : Fm (Iwb 1) noL σ (wI (wI (wI σ (hO 1 k) 0 (nI x)) (hO 1 k) 1 (nI y)) (hO 1 k) 2 (nI z)) := Fm_tr (Fm_tr (Fm_wI (Iwb_h (by omega))) (Fm_wI (Iwb_h (by omega)))) (Fm_wI (Iwb_h (by omega)))
      have fin := hQ _ (XS_web h F (WB_H hC.2.2.1 hC.2.2.2) (setH_NV hC.2.2.2 hx hy hz)) F
      simp (disch := first | exact is2I | exact is2R | omega) only [z_X8_hint_0, z_X8_hint_1, z_X8_hint_4, z_X8_hint_5, z_X8_hint_8, z_X8_hint_11, z_X8_hint_12, z_X8_hint_15, z_X8_hint_18, z_X8_hint_19, z_X8_hint_22, z_X8_hint_25, z_X8_hint_27, z_X8_hint_30, z_X8_hint_33, z_X8_hint_35, z_X8_hint_36, z_X8_hint_37, z_X8_hint_40, z_X8_hint_43, z_X8_hint_44, z_X8_hint_44s, z_X8_hint_45, z_X8_hint_47, z_X8_hint_49, z_X8_hint_52, xf_r0_0 hX, c_has hC, c_isHint, ha, hb, hc, b2_0, hP, and_self, not_true_eq_false, xw_a hX Wk1, xw_n hX Wk1 (show k < 7 by omega), xs_a hX Wk1, kIn, kCl, c_hinted hC hk, true_and, Option.toList_some, Option.toList_none, List.cons_append, List.nil_append, is2IT, is2RT, if_true, if_false]
      by_cases hh : hinB S.1 k = true
      · rw [b2_t hh] at fin
        rw [if_neg (fun q => q hh)]
        simp (disch := first | exact is2I | exact is2R | omega) only [z_X8_hint_55, z_X8_hint_56, z_X8_hint_59, z_X8_hint_60, z_X8_hint_62, z_X8_hint_64, z_X8_hint_65, z_X8_hint_66, z_X8_hint_68, z_X8_hint_71, z_X8_hint_73, c_setHints hX Wk1 (show k < 7 by omega), Option.toList_none, List.nil_append, true_and, Option.toList_some, Option.toList_none, List.cons_append, List.nil_append, is2IT, is2RT, if_true, if_false]
        exact fin
      · rw [b2_f hh] at fin
        rw [if_pos hh]
        simp (disch := first | exact is2I | exact is2R | omega) only [z_X8_hint_59, z_X8_hint_60, z_X8_hint_62, z_X8_hint_64, z_X8_hint_65, z_X8_hint_66, z_X8_hint_68, z_X8_hint_71, z_X8_hint_73, c_setHints hX Wk1 (show k < 7 by omega), Option.toList_none, List.nil_append, true_and, Option.toList_some, Option.toList_none, List.cons_append, List.nil_append, is2IT, is2RT, if_true, if_false]
        exact fin
    · rw [if_neg ho] at hQ
      have bad : At (d + 2) kX8_hint 33 [vR 0 8, vI (nI k), vI a, vI b, vI c, vU, vU] [] σ Q := by
        simp only [z_X8_hint_33, z_X8_hint_35, true_and, Option.toList_some, Option.toList_none, List.cons_append, List.nil_append, is2IT, is2RT, if_true, if_false]
        exact hQ σ h Fm_rf
      simp (disch := first | exact is2I | exact is2R | omega) only [z_X8_hint_0, z_X8_hint_1, z_X8_hint_4, z_X8_hint_5, z_X8_hint_8, z_X8_hint_11, z_X8_hint_12, z_X8_hint_15, xf_r0_0 hX, c_has hC, c_isHint, b2_0, hP, and_self, not_true_eq_false, true_and, Option.toList_some, Option.toList_none, List.cons_append, List.nil_append, is2IT, is2RT, if_true, if_false]
      by_cases ha : 0 ≤ a ∧ a < nI 10
      · rw [if_neg (fun q => q ha)]
        simp (disch := first | exact is2I | exact is2R | omega) only [z_X8_hint_18, z_X8_hint_19, z_X8_hint_22, c_isHint, b2_0, true_and, Option.toList_some, Option.toList_none, List.cons_append, List.nil_append, is2IT, is2RT, if_true, if_false]
        by_cases hb : 0 ≤ b ∧ b < nI 10
        · rw [if_neg (fun q => q hb)]
          simp (disch := first | exact is2I | exact is2R | omega) only [z_X8_hint_25, z_X8_hint_27, z_X8_hint_30, c_isHint, b2_0, true_and, Option.toList_some, Option.toList_none, List.cons_append, List.nil_append, is2IT, is2RT, if_true, if_false]
          rw [if_pos (fun q => ho ⟨ha, hb, q⟩)]
          exact bad
        · rw [if_pos hb]; exact bad
      · rw [if_pos ha]; exact bad
