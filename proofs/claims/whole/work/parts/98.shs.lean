/-! ===== the class: sheets ===== -/
def Ish2 (a _i : Nat) : Bool := decide (88 ≤ a ∧ a ≤ 96)
def Lsh2 (a : Nat) : Bool := decide (88 ≤ a ∧ a ≤ 96)
theorem Ish2_ICc {a i : Nat} (h : Ish2 a i = true) : ICc a i = true := by have := of_decide_eq_true h; exact decide_eq_true (by omega)
theorem Lsh2_LCc (a : Nat) (h : Lsh2 a = true) : LCc a = true := by have := of_decide_eq_true h; exact decide_eq_true (by omega)
theorem XS_shn {σ σ' : St} {S : MSt} {f : Shs} (h : XS σ S) (hf : Fm Ish2 Lsh2 σ σ') (hs : shC σ' f) : XS σ' (S.1, S.2.1, S.2.2.1, f) := by
  obtain ⟨⟨h1, h2, h3, h4⟩, h5, h6, h7, h8⟩ := h
  have hI : ∀ a i, a < 88 → Ish2 a i = false := fun a i q => decide_eq_false (by omega)
  exact ⟨⟨XF_fm h1 hf, h2, WB_fm h3 h4.1 hf (fun a i q1 q2 => hI a i (by omega)), h4⟩, by rw [hf.1 0 3 (hI 0 3 (by omega))]; exact h5, fun K hK => ⟨WB_fm (h6 K hK).1 (h6 K hK).2.1 hf (fun a i q1 q2 => hI a i (by omega)), (h6 K hK).2⟩, tpC_fm h7 hf (hI 83 1 (by omega)) (fun i => hI 84 i (by omega)), hs⟩
theorem shC_set {σ σ' : St} {f : Shs} {j : Nat} {e : Option (Nat × Nat × (Nat → Int64))} (h : shC σ f) (hj : shAC σ' j e) (hI : ∀ a i, a ≠ 89 + 2 * j → rI σ' a i = rI σ a i) (hL : ∀ a i, a ≠ 90 + 2 * j → rL σ' a i = rL σ a i) : shC σ' (fun y => if y = j then e else f y) := fun y hy => by
  show shAC σ' y (if y = j then e else f y)
  by_cases c : y = j
  · rw [if_pos c, c]; exact hj
  · rw [if_neg c]
    have q := h y hy
    cases hf : f y with
    | none =>
      rw [hf] at q
      have q' : rI σ (89 + 2 * y) 1 = -1 := q
      show rI σ' (89 + 2 * y) 1 = -1
      rw [hI _ _ (by omega)]; exact q'
    | some e =>
      obtain ⟨t, n, g⟩ := e
      rw [hf] at q
      obtain ⟨a1, a2, a3, a4, a5⟩ := q
      exact ⟨a1, by rw [hI _ _ (by omega)]; exact a2, by rw [hI _ _ (by omega)]; exact a3, a4, fun i hi => by rw [hL _ _ (by omega)]; exact a5 i hi⟩
section SH3
variable {d : Nat} {Q : Option PV → St → Prop} {σ : St}
theorem fill_ll {a n : Nat} {v : Int64} (ha : sh σ a = (21, n)) (hn : n < 100) : ∀ f i, i + f = n → (At d kJ7_fill_d0a16 6 [vR a 21, vL v, vU, vI (nI i), vI (nI n)] [] (fL σ a i (fun _ => v)) Q ↔ Q none (fL σ a n (fun _ => v)))
  | 0, i, hi => by
    have : i = n := by omega
    subst this
    simp (disch := first | exact is2I | exact is2R | omega) only [z_J7_fill_d0a16_6, z_J7_fill_d0a16_7, z_J7_fill_d0a16_9, z_J7_fill_d0a16_22, kLe, Nat.le_refl, true_and, Option.toList_some, Option.toList_none, List.cons_append, List.nil_append, is2IT, is2RT, if_true, if_false]
  | f + 1, i, hi => by
    have c : ¬ n ≤ i := by omega
    have hs : sh (fL σ a i (fun _ => v)) a = (21, n) := ha
    have ev : nI i + (1 : Int32) = nI (i + 1) := nI_add i 1
    simp (disch := first | exact is2I | exact is2R | omega) only [z_J7_fill_d0a16_6, z_J7_fill_d0a16_7, z_J7_fill_d0a16_9, z_J7_fill_d0a16_12, z_J7_fill_d0a16_13, z_J7_fill_d0a16_14, z_J7_fill_d0a16_15, z_J7_fill_d0a16_16, hs, kLe, c, kIn, kCl, ev, true_and, Option.toList_some, Option.toList_none, List.cons_append, List.nil_append, is2IT, is2RT, if_true, if_false]
    rw [z_J7_fill_d0a16_19, fL_s (f := fun _ => v) rfl, fill_ll ha hn f (i + 1) (by omega)]
theorem m_fillL {a n : Nat} {v : Int64} (ha : sh σ a = (21, n)) (hn : n < 100) : Ca (d + 1) 271 [vR a 21, vL v] σ Q ↔ Q none (fL σ a n (fun _ => v)) := by
  rw [ca_at (K := kJ7_fill_d0a16) (ls := [vR a 21, vL v, vU, vU, vU]) rfl rfl rfl]
  have l := @fill_ll d Q σ a n v ha hn n 0 (by omega)
  rw [fL_0] at l
  simp (disch := first | exact is2I | exact is2R | omega) only [z_J7_fill_d0a16_0, z_J7_fill_d0a16_1, z_J7_fill_d0a16_2, z_J7_fill_d0a16_4, z_fl3, ha, true_and, Option.toList_some, Option.toList_none, List.cons_append, List.nil_append, is2IT, is2RT, if_true, if_false]
  exact l
theorem c_shas {a n : Nat} {x : Int32} (h2 : rI σ a 2 = nI n) : Ca (d + 1) 24 [vR a 3, vI x] σ Q ↔ Q (some (vI (b2 (0 ≤ x ∧ x < nI n)))) σ := by
  have g : (nI n ≤ x) = ¬ (x < nI n) := propext (Int32.not_lt).symm
  rw [ca_at (K := kX2_has) (ls := [vR a 3, vI x]) rfl rfl rfl]
  simp only [z_X2_has_0, z_X2_has_1, z_X2_has_4, z_X2_has_5, z_X2_has_6, z_X2_has_9, z_X2_has_12, z_X2_has_13, z_X2_has_16, z_X2_has_17, h2, ge0, g, rk_b0, rk_b1, true_and, Option.toList_some, Option.toList_none, List.cons_append, List.nil_append, is2IT, is2RT, if_true, if_false]
  by_cases c1 : 0 ≤ x
  · by_cases c2 : x < nI n
    · rw [if_neg (fun q => q c1), if_neg (fun q => q c2), b2_t ⟨c1, c2⟩]
    · rw [if_neg (fun q => q c1), if_pos c2, b2_f (fun q => c2 q.2)]
  · rw [if_pos c1, b2_f (fun q => c1 q.1)]
def hrP (z : Nat) (i n : Int32) : Prop := ∃ I N, i = nI I ∧ n = nI N ∧ I + N ≤ z
theorem hr_iff {z : Nat} (hz : z ≤ 40) {i n : Int32} : (0 ≤ i ∧ i ≤ nI z ∧ 0 ≤ n ∧ n ≤ nI z - i) ↔ hrP z i n := by
  constructor
  · rintro ⟨h1, h2, h3, h4⟩
    obtain ⟨I, hI, rfl⟩ := nI_of (x := i) (by rw [Int32.not_lt]; exact h1)
    obtain ⟨N, hN, rfl⟩ := nI_of (x := n) (by rw [Int32.not_lt]; exact h3)
    have i2 := (nI_leI hI (by omega)).mp h2
    rw [pk_sub i2] at h4
    have i4 := (nI_leI hN (by omega)).mp h4
    exact ⟨I, N, rfl, rfl, by omega⟩
  · rintro ⟨I, N, rfl, rfl, h⟩
    refine ⟨nI_pos' (by omega), (nI_leI (by omega) (by omega)).mpr (by omega), nI_pos' (by omega), ?_⟩
    rw [pk_sub (show I ≤ z by omega)]
    exact (nI_leI (by omega) (by omega)).mpr (by omega)
theorem c_hasRun {a z : Nat} {i n : Int32} (h2 : rI σ a 2 = nI z) : Ca (d + 1) 25 [vR a 3, vI i, vI n] σ Q ↔ Q (some (vI (b2 (0 ≤ i ∧ i ≤ nI z ∧ 0 ≤ n ∧ n ≤ nI z - i)))) σ := by
  have g1 : (nI z < i) = ¬ (i ≤ nI z) := propext (Int32.not_le).symm
  have g2 : (nI z - i < n) = ¬ (n ≤ nI z - i) := propext (Int32.not_le).symm
  rw [ca_at (K := kX2_hasRun) (ls := [vR a 3, vI i, vI n]) rfl rfl rfl]
  simp only [z_X2_hasRun_0, z_X2_hasRun_1, z_X2_hasRun_4, z_X2_hasRun_5, z_X2_hasRun_6, z_X2_hasRun_9, z_X2_hasRun_12, z_X2_hasRun_13, z_X2_hasRun_16, z_X2_hasRun_17, z_X2_hasRun_18, z_X2_hasRun_21, z_X2_hasRun_22, z_X2_hasRun_23, z_X2_hasRun_26, z_X2_hasRun_27, z_X2_hasRun_30, z_X2_hasRun_31, h2, ge0, g1, g2, rk_b0, rk_b1, true_and, Option.toList_some, Option.toList_none, List.cons_append, List.nil_append, is2IT, is2RT, if_true, if_false]
  by_cases c1 : 0 ≤ i
  · rw [if_neg (fun q => q c1)]
    by_cases c2 : i ≤ nI z
    · rw [if_neg (fun q => q c2)]
      by_cases c3 : 0 ≤ n
      · rw [if_neg (fun q => q c3)]
        by_cases c4 : n ≤ nI z - i
        · rw [if_neg (fun q => q c4), b2_t ⟨c1, c2, c3, c4⟩]
        · rw [if_pos c4, b2_f (fun q => c4 q.2.2.2)]
      · rw [if_pos c3, b2_f (fun q => c3 q.2.2.1)]
    · rw [if_pos c2, b2_f (fun q => c2 q.2.1)]
  · rw [if_pos c1, b2_f (fun q => c1 q.1)]
theorem c_sbecome {j : Nat} {t n : Int32} (hX : XF σ) (hj : j < 4) : Ca (d + 2) 26 [vR (89 + 2 * j) 3, vI t, vI n] σ Q ↔ Q none (fL (wI (wI σ (89 + 2 * j) 1 t) (89 + 2 * j) 2 n) (90 + 2 * j) 40 (fun _ => 0)) := by
  obtain ⟨x1, x2, x3⟩ := xs_r hX hj
  rw [ca_at (K := kX2_become) (ls := [vR (89 + 2 * j) 3, vI t, vI n]) rfl rfl rfl]
  have hs : sh (wI (wI σ (89 + 2 * j) 1 t) (89 + 2 * j) 2 n) (90 + 2 * j) = (21, 40) := x3
  simp (disch := first | exact is2I | exact is2R | omega) only [z_X2_become_0, z_X2_become_1, z_X2_become_2, z_X2_become_5, z_X2_become_6, z_X2_become_7, z_X2_become_10, z_X2_become_11, z_X2_become_14, z_X2_become_15, z_X2_become_18, rR_wI, x2, m_fillL hs (show 40 < 100 by decide), Option.toList_none, List.nil_append, true_and, Option.toList_some, Option.toList_none, List.cons_append, List.nil_append, is2IT, is2RT, if_true, if_false]
theorem c_sset {j t i : Nat} {v : Int64} (hX : XF σ) (hj : j < 4) (ht : t ≤ 2) (h1 : rI σ (89 + 2 * j) 1 = nI t) (hi : i < 40) : Ca (d + 1) 27 [vR (89 + 2 * j) 3, vI (nI i), vL v] σ Q ↔ Q none (wL σ (90 + 2 * j) i (nar t v)) := by
  obtain ⟨x1, x2, x3⟩ := xs_r hX hj
  rw [ca_at (K := kX2_set) (ls := [vR (89 + 2 * j) 3, vI (nI i), vL v, vU]) rfl rfl rfl]
  rcases (show t = 0 ∨ t = 1 ∨ t = 2 by omega) with rfl | rfl | rfl
  · simp (disch := first | exact is2I | exact is2R | omega) only [z_X2_set_0, z_X2_set_1, z_X2_set_4, z_X2_set_5, z_X2_set_6, z_X2_set_9, z_X2_set_12, z_X2_set_13, z_X2_set_16, z_X2_set_17, z_X2_set_20, z_X2_set_21, z_X2_set_24, z_X2_set_25, z_X2_set_26, z_X2_set_27, z_X2_set_30, z_X2_set_31, z_X2_set_32, z_X2_set_33, z_X2_set_34, z_X2_set_35, x2, x3, h1, kEL, kIn, kCl, true_and, Option.toList_some, Option.toList_none, List.cons_append, List.nil_append, is2IT, is2RT, if_true, if_false]
    exact Iff.rfl
  · have n10 : ¬ (1 = 0) := by decide
    simp (disch := first | exact is2I | exact is2R | omega) only [z_X2_set_0, z_X2_set_1, z_X2_set_4, z_X2_set_5, z_X2_set_6, z_X2_set_9, z_X2_set_12, z_X2_set_13, z_X2_set_16, z_X2_set_17, z_X2_set_20, z_X2_set_21, z_X2_set_24, z_X2_set_25, z_X2_set_26, z_X2_set_27, z_X2_set_30, z_X2_set_31, z_X2_set_32, z_X2_set_33, z_X2_set_34, z_X2_set_35, x2, x3, h1, kEL, n10, kIn, kCl, true_and, Option.toList_some, Option.toList_none, List.cons_append, List.nil_append, is2IT, is2RT, if_true, if_false]
    exact Iff.rfl
  · have n20 : ¬ (2 = 0) := by decide
    have n21 : ¬ (2 = 1) := by decide
    simp (disch := first | exact is2I | exact is2R | omega) only [z_X2_set_0, z_X2_set_1, z_X2_set_4, z_X2_set_5, z_X2_set_6, z_X2_set_9, z_X2_set_12, z_X2_set_13, z_X2_set_16, z_X2_set_17, z_X2_set_20, z_X2_set_21, z_X2_set_24, z_X2_set_25, z_X2_set_26, z_X2_set_27, z_X2_set_30, z_X2_set_31, z_X2_set_32, z_X2_set_33, z_X2_set_34, z_X2_set_35, x2, x3, h1, kEL, n20, n21, kIn, kCl, true_and, Option.toList_some, Option.toList_none, List.cons_append, List.nil_append, is2IT, is2RT, if_true, if_false]
    exact Iff.rfl
end SH3
theorem x_item {d : Nat} {Q : Option PV → St → Prop} {σ : St} {S : MSt} {s i : Int32} (h : XS σ S) (hQ : Q (some (vL (itemF S.2.2.2 s i))) σ) : Ca (d + 2) 107 [vR 0 8, vI s, vI i] σ Q := by
  have hX := h.1.1
  rw [ca_at (K := kX8_item) (ls := [vR 0 8, vI s, vI i, vU]) rfl rfl rfl]
  unfold itemF at hQ
  simp (disch := first | exact is2I | exact is2R | omega) only [z_X8_item_0, z_X8_item_1, z_X8_item_4, c_isSheet, b2_0, true_and, Option.toList_some, Option.toList_none, List.cons_append, List.nil_append, is2IT, is2RT, if_true, if_false]
  cases hp : pN 4 s with
  | none =>
    rw [hp] at hQ
    rw [if_pos (pN_none.mp hp)]
    simp (disch := first | exact is2I | exact is2R | omega) only [z_X8_item_7, z_X8_item_10, true_and, Option.toList_some, Option.toList_none, List.cons_append, List.nil_append, is2IT, is2RT, if_true, if_false]
    exact hQ
  | some j =>
    rw [hp] at hQ
    obtain ⟨hj, rfl⟩ := (pN_some (by decide)).mp hp
    have hP : 0 ≤ nI j ∧ nI j < nI 4 := (lt_nI (by decide)).mpr ⟨j, hj, rfl⟩
    rw [if_neg (fun q => q hP)]
    dsimp only at hQ
    obtain ⟨x1, x2, x3⟩ := xs_r hX hj
    have ha := h.2.2.2.2 j hj
    have em := miss_n ha
    have bad : ∀ l3, Q (some (vL NOl)) σ → At (d + 1) kX8_item 42 [vR 0 8, vI (nI j), vI i, l3] [] σ Q := fun l3 q => by
      simp (disch := first | exact is2I | exact is2R | omega) only [z_X8_item_42, z_X8_item_45, true_and, Option.toList_some, Option.toList_none, List.cons_append, List.nil_append, is2IT, is2RT, if_true, if_false]; exact q
    simp (disch := first | exact is2I | exact is2R | omega) only [z_X8_item_11, z_X8_item_12, z_X8_item_15, z_X8_item_16, z_X8_item_16s, z_X8_item_17, z_X8_item_18, z_X8_item_19, z_X8_item_22, xf_r0_9 hX, xf_s88 hX, x1, kIn, kCl, c_isMiss, b2_0, em, true_and, Option.toList_some, Option.toList_none, List.cons_append, List.nil_append, is2IT, is2RT, if_true, if_false]
    cases hf : S.2.2.2 j with
    | none =>
      rw [hf] at hQ
      rw [if_neg (fun q => q rfl)]
      exact bad _ hQ
    | some e =>
      obtain ⟨t, n, g⟩ := e
      rw [hf] at hQ ha
      obtain ⟨a1, a2, a3, a4, a5⟩ := ha
      rw [if_pos (fun q => by cases q)]
      dsimp only at hQ
      simp (disch := first | exact is2I | exact is2R | omega) only [z_X8_item_25, z_X8_item_26, z_X8_item_27, z_X8_item_30, c_shas a3, b2_0, true_and, Option.toList_some, Option.toList_none, List.cons_append, List.nil_append, is2IT, is2RT, if_true, if_false]
      cases hi : pN n i with
      | none =>
        rw [hi] at hQ
        rw [if_pos (pN_none.mp hi)]
        exact bad _ hQ
      | some x =>
        rw [hi] at hQ
        obtain ⟨hx, rfl⟩ := (pN_some (by omega)).mp hi
        rw [if_neg (fun q => q ((lt_nI (by omega)).mpr ⟨x, hx, rfl⟩))]
        simp (disch := first | exact is2I | exact is2R | omega) only [z_X8_item_33, z_X8_item_34, z_X8_item_37, z_X8_item_38, z_X8_item_39, z_X8_item_42, z_X8_item_45, x2, x3, kIn, kCl, a5 x hx, true_and, Option.toList_some, Option.toList_none, List.cons_append, List.nil_append, is2IT, is2RT, if_true, if_false]
        exact hQ
theorem x_put {d : Nat} {Q : Option PV → St → Prop} {σ : St} {S : MSt} {s i : Int32} {v : Int64} (h : XS σ S) (hQ : ∀ σ', XS σ' (S.1, S.2.1, S.2.2.1, (putF S.2.2.2 s i v).2) → Fc σ σ' → Q (some (vI (putF S.2.2.2 s i v).1)) σ') : Ca (d + 2) 106 [vR 0 8, vI s, vI i, vL v] σ Q := by
  have hX := h.1.1
  rw [ca_at (K := kX8_put) (ls := [vR 0 8, vI s, vI i, vL v, vU, vU]) rfl rfl rfl]
  unfold putF at hQ
  simp (disch := first | exact is2I | exact is2R | omega) only [z_X8_put_0, z_X8_put_1, z_X8_put_4, c_isSheet, b2_0, true_and, Option.toList_some, Option.toList_none, List.cons_append, List.nil_append, is2IT, is2RT, if_true, if_false]
  cases hp : pN 4 s with
  | none =>
    rw [hp] at hQ
    rw [if_pos (pN_none.mp hp)]
    simp (disch := first | exact is2I | exact is2R | omega) only [z_X8_put_7, z_X8_put_9, true_and, Option.toList_some, Option.toList_none, List.cons_append, List.nil_append, is2IT, is2RT, if_true, if_false]
    exact hQ σ h Fm_rf
  | some j =>
    rw [hp] at hQ
    obtain ⟨hj, rfl⟩ := (pN_some (by decide)).mp hp
    have hP : 0 ≤ nI j ∧ nI j < nI 4 := (lt_nI (by decide)).mpr ⟨j, hj, rfl⟩
    rw [if_neg (fun q => q hP)]
    dsimp only at hQ
    obtain ⟨x1, x2, x3⟩ := xs_r hX hj
    have hsC := h.2.2.2.2
    have ha := h.2.2.2.2 j hj
    have em := miss_n ha
    simp (disch := first | exact is2I | exact is2R | omega) only [z_X8_put_10, z_X8_put_11, z_X8_put_14, z_X8_put_15, z_X8_put_15s, z_X8_put_16, z_X8_put_18, z_X8_put_20, z_X8_put_23, xf_r0_9 hX, xf_s88 hX, x1, kIn, kCl, c_isMiss, b2_0, em, true_and, Option.toList_some, Option.toList_none, List.cons_append, List.nil_append, is2IT, is2RT, if_true, if_false]
    cases hf : S.2.2.2 j with
    | none =>
      rw [hf] at hQ
      rw [if_neg (fun q => q rfl)]
      simp (disch := first | exact is2I | exact is2R | omega) only [z_X8_put_26, z_X8_put_28, true_and, Option.toList_some, Option.toList_none, List.cons_append, List.nil_append, is2IT, is2RT, if_true, if_false]
      exact hQ σ h Fm_rf
    | some e =>
      obtain ⟨t, n, g⟩ := e
      rw [hf] at hQ ha
      obtain ⟨a1, a2, a3, a4, a5⟩ := ha
      rw [if_pos (fun q => by cases q)]
      dsimp only at hQ
      simp (disch := first | exact is2I | exact is2R | omega) only [z_X8_put_29, z_X8_put_31, z_X8_put_32, z_X8_put_35, c_shas a3, b2_0, true_and, Option.toList_some, Option.toList_none, List.cons_append, List.nil_append, is2IT, is2RT, if_true, if_false]
      cases hi : pN n i with
      | none =>
        rw [hi] at hQ
        rw [if_pos (pN_none.mp hi)]
        simp (disch := first | exact is2I | exact is2R | omega) only [z_X8_put_38, z_X8_put_40, true_and, Option.toList_some, Option.toList_none, List.cons_append, List.nil_append, is2IT, is2RT, if_true, if_false]
        exact hQ σ h Fm_rf
      | some x =>
        rw [hi] at hQ
        obtain ⟨hx, rfl⟩ := (pN_some (by omega)).mp hi
        rw [if_neg (fun q => q ((lt_nI (by omega)).mpr ⟨x, hx, rfl⟩))]
        simp (disch := first | exact is2I | exact is2R | omega) only [z_X8_put_41, z_X8_put_43, z_X8_put_44, z_X8_put_45, z_X8_put_48, z_X8_put_49, c_sset hX hj a1 a2 (show x < 40 by omega), Option.toList_none, List.nil_append, true_and, Option.toList_some, Option.toList_none, List.cons_append, List.nil_append, is2IT, is2RT, if_true, if_false]
        have F : Fm Ish2 Lsh2 σ (wL σ (90 + 2 * j) x (nar t v)) := Fm_wL (decide_eq_true (by omega))
        refine hQ _ (XS_shn h F (shC_set hsC ⟨a1, a2, a3, a4, fun z hz => ?_⟩ (fun _ _ _ => rfl) (fun a y ha => by rw [rL_wL, if_neg (fun q => ha q.1)]))) (Fm_mono F (fun a i => Ish2_ICc) Lsh2_LCc)
        show rL (wL σ (90 + 2 * j) x (nar t v)) (90 + 2 * j) z = if z = x then nar t v else g z
        rw [rL_wL]
        by_cases c : z = x
        · rw [if_pos ⟨rfl, c⟩, if_pos c]
        · rw [if_neg (fun q => c q.2), if_neg c]; exact a5 z hz
theorem x_sheet {d : Nat} {Q : Option PV → St → Prop} {σ : St} {S : MSt} {s t n : Int32} (h : XS σ S) (hQ : ∀ σ', XS σ' (S.1, S.2.1, S.2.2.1, (sheetF S.2.2.2 s t n).2) → Fc σ σ' → Q (some (vI (sheetF S.2.2.2 s t n).1)) σ') : Ca (d + 3) 105 [vR 0 8, vI s, vI t, vI n] σ Q := by
  have hX := h.1.1
  have hsC := h.2.2.2.2
  rw [ca_at (K := kX8_sheet) (ls := [vR 0 8, vI s, vI t, vI n]) rfl rfl rfl]
  unfold sheetF at hQ
  have bad : (∀ σ', XS σ' (S.1, S.2.1, S.2.2.1, S.2.2.2) → Fc σ σ' → Q (some (vI (-2))) σ') → At (d + 2) kX8_sheet 19 [vR 0 8, vI s, vI t, vI n] [] σ Q := fun q => by
    simp (disch := first | exact is2I | exact is2R | omega) only [z_X8_sheet_19, z_X8_sheet_21, true_and, Option.toList_some, Option.toList_none, List.cons_append, List.nil_append, is2IT, is2RT, if_true, if_false]
    exact q σ h Fm_rf
  simp (disch := first | exact is2I | exact is2R | omega) only [z_X8_sheet_0, z_X8_sheet_1, z_X8_sheet_4, c_isSheet, b2_0, true_and, Option.toList_some, Option.toList_none, List.cons_append, List.nil_append, is2IT, is2RT, if_true, if_false]
  cases hp : pN 4 s with
  | none =>
    rw [hp] at hQ
    rw [if_pos (pN_none.mp hp)]
    exact bad hQ
  | some j =>
    rw [hp] at hQ
    obtain ⟨hj, rfl⟩ := (pN_some (by decide)).mp hp
    have hP : 0 ≤ nI j ∧ nI j < nI 4 := (lt_nI (by decide)).mpr ⟨j, hj, rfl⟩
    rw [if_neg (fun q => q hP)]
    dsimp only at hQ
    obtain ⟨x1, x2, x3⟩ := xs_r hX hj
    simp (disch := first | exact is2I | exact is2R | omega) only [z_X8_sheet_7, z_X8_sheet_8, z_X8_sheet_9, true_and, Option.toList_some, Option.toList_none, List.cons_append, List.nil_append, is2IT, is2RT, if_true, if_false]
    by_cases c1 : t = -1
    · rw [if_pos c1] at hQ
      subst c1
      have F : Fm Ish2 Lsh2 σ (fL (wI (wI σ (89 + 2 * j) 1 (-1)) (89 + 2 * j) 2 0) (90 + 2 * j) 40 (fun _ => 0)) := Fm_tr (Fm_tr (Fm_wI (decide_eq_true (by omega))) (Fm_wI (decide_eq_true (by omega)))) (Fm_fL (decide_eq_true (by omega)))
      simp (disch := first | exact is2I | exact is2R | omega) only [z_X8_sheet_22, z_X8_sheet_23, z_X8_sheet_24, z_X8_sheet_27, z_X8_sheet_28, z_X8_sheet_30, z_X8_sheet_33, z_X8_sheet_35, z_X8_sheet_36, z_X8_sheet_37, z_X8_sheet_38, z_X8_sheet_41, z_X8_sheet_42, z_X8_sheet_45, z_X8_sheet_47, z_X8_sheet_48, z_X8_sheet_49, z_X8_sheet_52, z_X8_sheet_53, z_X8_sheet_53s, z_X8_sheet_54, z_X8_sheet_55, z_X8_sheet_56, z_X8_sheet_57, z_X8_sheet_60, z_X8_sheet_61, z_X8_sheet_64, z_X8_sheet_65, z_X8_sheet_68, z_X8_sheet_69, xf_r0_9 hX, xf_s88 hX, x1, kIn, kCl, c_sbecome hX hj, Option.toList_none, List.nil_append, true_and, Option.toList_some, Option.toList_none, List.cons_append, List.nil_append, is2IT, is2RT, if_true, if_false]
      refine hQ _ (XS_shn h F (shC_set hsC (show shAC _ j none from ?_) (fun a i ha => by rw [rI_fL, rI_wI_n ha, rI_wI_n ha]) (fun a i ha => by rw [rL_fL, if_neg (fun q => ha q.1)]; rfl))) (Fm_mono F (fun a i => Ish2_ICc) Lsh2_LCc)
      show rI (fL (wI (wI σ (89 + 2 * j) 1 (-1)) (89 + 2 * j) 2 0) (90 + 2 * j) 40 (fun _ => 0)) (89 + 2 * j) 1 = -1
      rw [rI_fL, rI_wI, if_neg (fun q => absurd q.2 (by decide)), rI_wI, if_pos ⟨rfl, rfl⟩]
    · rw [if_neg c1] at hQ
      rw [if_neg c1]
      simp (disch := first | exact is2I | exact is2R | omega) only [z_X8_sheet_12, z_X8_sheet_13, z_X8_sheet_16, c_isSort, b2_0, true_and, Option.toList_some, Option.toList_none, List.cons_append, List.nil_append, is2IT, is2RT, if_true, if_false]
      cases ht : pN 3 t with
      | none =>
        rw [ht] at hQ
        rw [if_pos (pN_none.mp ht)]
        exact bad hQ
      | some u =>
        rw [ht] at hQ
        obtain ⟨hu, rfl⟩ := (pN_some (by decide)).mp ht
        rw [if_neg (fun q => q ((lt_nI (by omega)).mpr ⟨u, hu, rfl⟩))]
        dsimp only at hQ
        have g40 : (n ≤ (40 : Int32)) = ¬ (nI 40 < n) := propext (Int32.not_lt (a := nI 40) (b := n)).symm
        simp (disch := first | exact is2I | exact is2R | omega) only [z_X8_sheet_22, z_X8_sheet_23, z_X8_sheet_24, z_X8_sheet_27, z_X8_sheet_28, z_X8_sheet_30, kM1, g40, true_and, Option.toList_some, Option.toList_none, List.cons_append, List.nil_append, is2IT, is2RT, if_true, if_false]
        by_cases c40 : nI 40 < n
        · rw [if_pos c40] at hQ
          rw [if_neg (fun q => q c40)]
          simp (disch := first | exact is2I | exact is2R | omega) only [z_X8_sheet_33, z_X8_sheet_35, true_and, Option.toList_some, Option.toList_none, List.cons_append, List.nil_append, is2IT, is2RT, if_true, if_false]
          exact hQ σ h Fm_rf
        · rw [if_neg c40] at hQ
          rw [if_pos c40]
          simp (disch := first | exact is2I | exact is2R | omega) only [z_X8_sheet_36, z_X8_sheet_37, z_X8_sheet_38, z_X8_sheet_41, z_X8_sheet_42, kM1, true_and, Option.toList_some, Option.toList_none, List.cons_append, List.nil_append, is2IT, is2RT, if_true, if_false]
          have gn : (n < nI 41) := by
            have := (Int32.not_lt).mp c40
            rw [leN (n := 40) (by decide)] at this
            exact this
          cases hn : pN 41 n with
          | none =>
            rw [hn] at hQ
            have hn' : ¬ (0 ≤ n) := fun q => pN_none.mp hn ⟨q, gn⟩
            rw [if_neg hn']
            simp (disch := first | exact is2I | exact is2R | omega) only [z_X8_sheet_45, z_X8_sheet_47, true_and, Option.toList_some, Option.toList_none, List.cons_append, List.nil_append, is2IT, is2RT, if_true, if_false]
            exact hQ σ h Fm_rf
          | some x =>
            rw [hn] at hQ
            obtain ⟨hx, rfl⟩ := (pN_some (by omega)).mp hn
            rw [if_pos (nI_pos' (by omega))]
            dsimp only at hQ
            have F : Fm Ish2 Lsh2 σ (fL (wI (wI σ (89 + 2 * j) 1 (nI u)) (89 + 2 * j) 2 (nI x)) (90 + 2 * j) 40 (fun _ => 0)) := Fm_tr (Fm_tr (Fm_wI (decide_eq_true (by omega))) (Fm_wI (decide_eq_true (by omega)))) (Fm_fL (decide_eq_true (by omega)))
            simp (disch := first | exact is2I | exact is2R | omega) only [z_X8_sheet_48, z_X8_sheet_49, z_X8_sheet_52, z_X8_sheet_53, z_X8_sheet_53s, z_X8_sheet_54, z_X8_sheet_55, z_X8_sheet_56, z_X8_sheet_57, z_X8_sheet_60, z_X8_sheet_61, z_X8_sheet_64, z_X8_sheet_65, z_X8_sheet_68, z_X8_sheet_69, kM1, xf_r0_9 hX, xf_s88 hX, x1, kIn, kCl, c_sbecome hX hj, Option.toList_none, List.nil_append, true_and, Option.toList_some, Option.toList_none, List.cons_append, List.nil_append, is2IT, is2RT, if_true, if_false]
            refine hQ _ (XS_shn h F (shC_set hsC ⟨by omega, ?_, ?_, by omega, fun i hi => ?_⟩ (fun a i ha => by rw [rI_fL, rI_wI_n ha, rI_wI_n ha]) (fun a i ha => by rw [rL_fL, if_neg (fun q => ha q.1)]; rfl))) (Fm_mono F (fun a i => Ish2_ICc) Lsh2_LCc)
            · rw [rI_fL, rI_wI, if_neg (fun q => absurd q.2 (by decide)), rI_wI, if_pos ⟨rfl, rfl⟩]
            · rw [rI_fL, rI_wI, if_pos ⟨rfl, rfl⟩]
            · rw [rL_fL, if_pos ⟨rfl, by omega⟩]
theorem rL_cL {σ : St} {a s k d n x i : Nat} : rL (cL σ a s k d n) x i = if x = k ∧ d ≤ i ∧ i < d + n then rL σ a (s + (i - d)) else rL σ x i := rfl
theorem Fm_cL {I : Nat → Nat → Bool} {L : Nat → Bool} {σ : St} {a s k d n : Nat} (h : L k = true) : Fm I L σ (cL σ a s k d n) := ⟨fun _ _ _ => rfl, fun x j q => by
  rw [rL_cL, if_neg (fun z => by rw [z.1, h] at q; cases q)], fun _ _ => rfl, rfl, rfl⟩
theorem run_hr {a b : Nat} (ha : a ≤ 40) (hb : b ≤ 40) {i j n : Int32} : runP a b i j n = none ↔ ¬ (hrP a i n ∧ hrP b j n) := by
  constructor
  · rintro h ⟨⟨I, N, rfl, rfl, q1⟩, ⟨J, N2, rfl, e, q2⟩⟩
    have e2 := (nI_eq (a := N) (b := N2) (by omega) (by omega)).mp e
    subst e2
    have := (run_some (I := I) (J := J) (N := N) ha hb).mpr ⟨rfl, rfl, rfl, q1, q2⟩
    rw [h] at this; cases this
  · intro h
    cases e : runP a b i j n with
    | none => rfl
    | some r =>
      obtain ⟨I, J, N⟩ := r
      obtain ⟨e1, e2, e3, e4, e5⟩ := (run_some ha hb).mp e
      exact absurd ⟨⟨I, N, e2, e1, e4⟩, ⟨J, N, e3, e1, e5⟩⟩ h
theorem x_copy {d : Nat} {Q : Option PV → St → Prop} {σ : St} {S : MSt} {s i o j n : Int32} (h : XS σ S) (hQ : ∀ σ', XS σ' (S.1, S.2.1, S.2.2.1, (cpyF S.2.2.2 s i o j n).2) → Fc σ σ' → Q (some (vI (cpyF S.2.2.2 s i o j n).1)) σ') : Ca (d + 2) 108 [vR 0 8, vI s, vI i, vI o, vI j, vI n] σ Q := by
  have hX := h.1.1
  have hsC := h.2.2.2.2
  rw [ca_at (K := kX8_copy) (ls := [vR 0 8, vI s, vI i, vI o, vI j, vI n, vU, vU]) rfl rfl rfl]
  unfold cpyF at hQ
  have bad : (∀ σ', XS σ' (S.1, S.2.1, S.2.2.1, S.2.2.2) → Fc σ σ' → Q (some (vI (-2))) σ') → At (d + 1) kX8_copy 14 [vR 0 8, vI s, vI i, vI o, vI j, vI n, vU, vU] [] σ Q := fun q => by
    simp (disch := first | exact is2I | exact is2R | omega) only [z_X8_copy_14, z_X8_copy_16, true_and, Option.toList_some, Option.toList_none, List.cons_append, List.nil_append, is2IT, is2RT, if_true, if_false]
    exact q σ h Fm_rf
  simp (disch := first | exact is2I | exact is2R | omega) only [z_X8_copy_0, z_X8_copy_1, z_X8_copy_4, c_isSheet, b2_0, true_and, Option.toList_some, Option.toList_none, List.cons_append, List.nil_append, is2IT, is2RT, if_true, if_false]
  cases hp : pN 4 s with
  | none =>
    rw [hp] at hQ
    rw [if_pos (pN_none.mp hp)]
    exact bad hQ
  | some A =>
    rw [hp] at hQ
    obtain ⟨hA, rfl⟩ := (pN_some (by decide)).mp hp
    rw [if_neg (fun q => q ((lt_nI (by decide)).mpr ⟨A, hA, rfl⟩))]
    dsimp only at hQ
    simp (disch := first | exact is2I | exact is2R | omega) only [z_X8_copy_7, z_X8_copy_8, z_X8_copy_11, c_isSheet, b2_0, true_and, Option.toList_some, Option.toList_none, List.cons_append, List.nil_append, is2IT, is2RT, if_true, if_false]
    cases ho : pN 4 o with
    | none =>
      rw [ho] at hQ
      rw [if_pos (pN_none.mp ho)]
      exact bad hQ
    | some B =>
      rw [ho] at hQ
      obtain ⟨hB, rfl⟩ := (pN_some (by decide)).mp ho
      rw [if_neg (fun q => q ((lt_nI (by decide)).mpr ⟨B, hB, rfl⟩))]
      dsimp only at hQ
      obtain ⟨x1, x2, x3⟩ := xs_r hX hA
      obtain ⟨y1, y2, y3⟩ := xs_r hX hB
      have ha := hsC A hA
      have hb := hsC B hB
      have em := miss_n ha
      have en := miss_n hb
      have bad2 : (∀ σ', XS σ' (S.1, S.2.1, S.2.2.1, S.2.2.2) → Fc σ σ' → Q (some (vI (-11))) σ') → At (d + 1) kX8_copy 49 [vR 0 8, vI (nI A), vI i, vI (nI B), vI j, vI n, vR (89 + 2 * A) 3, vR (89 + 2 * B) 3] [] σ Q := fun q => by
        simp (disch := first | exact is2I | exact is2R | omega) only [z_X8_copy_49, z_X8_copy_51, true_and, Option.toList_some, Option.toList_none, List.cons_append, List.nil_append, is2IT, is2RT, if_true, if_false]
        exact q σ h Fm_rf
      simp (disch := first | exact is2I | exact is2R | omega) only [z_X8_copy_17, z_X8_copy_18, z_X8_copy_21, z_X8_copy_22, z_X8_copy_22s, z_X8_copy_23, z_X8_copy_25, z_X8_copy_26, z_X8_copy_29, z_X8_copy_30, z_X8_copy_30s, z_X8_copy_31, z_X8_copy_33, z_X8_copy_35, z_X8_copy_38, xf_r0_9 hX, xf_s88 hX, x1, y1, kIn, kCl, c_isMiss, b2_0, em, true_and, Option.toList_some, Option.toList_none, List.cons_append, List.nil_append, is2IT, is2RT, if_true, if_false]
      cases hf : S.2.2.2 A with
      | none =>
        rw [hf] at hQ
        rw [if_neg (fun q => q rfl)]
        exact bad2 hQ
      | some e =>
        obtain ⟨t, m, g⟩ := e
        rw [hf] at hQ ha
        rw [if_pos (fun q => by cases q)]
        dsimp only at hQ
        simp (disch := first | exact is2I | exact is2R | omega) only [z_X8_copy_41, z_X8_copy_43, z_X8_copy_46, c_isMiss, b2_0, en, true_and, Option.toList_some, Option.toList_none, List.cons_append, List.nil_append, is2IT, is2RT, if_true, if_false]
        cases hf2 : S.2.2.2 B with
        | none =>
          rw [hf2] at hQ
          rw [if_neg (fun q => q rfl)]
          exact bad2 hQ
        | some e2 =>
          obtain ⟨t2, m2, g2⟩ := e2
          rw [hf2] at hQ hb
          rw [if_pos (fun q => by cases q)]
          dsimp only at hQ
          obtain ⟨a1, a2, a3, a4, a5⟩ := ha
          obtain ⟨b1, b22, b3, b4, b5⟩ := hb
          simp (disch := first | exact is2I | exact is2R | omega) only [z_X8_copy_52, z_X8_copy_54, z_X8_copy_57, z_X8_copy_59, z_X8_copy_62, a2, b22, kEq, true_and, Option.toList_some, Option.toList_none, List.cons_append, List.nil_append, is2IT, is2RT, if_true, if_false]
          by_cases ct : t = t2
          · rw [if_pos ct] at hQ
            rw [if_pos ct]
            subst ct
            have bad3 : (∀ σ', XS σ' (S.1, S.2.1, S.2.2.1, S.2.2.2) → Fc σ σ' → Q (some (vI (-12))) σ') → At (d + 1) kX8_copy 91 [vR 0 8, vI (nI A), vI i, vI (nI B), vI j, vI n, vR (89 + 2 * A) 3, vR (89 + 2 * B) 3] [] σ Q := fun q => by
              simp (disch := first | exact is2I | exact is2R | omega) only [z_X8_copy_91, z_X8_copy_93, true_and, Option.toList_some, Option.toList_none, List.cons_append, List.nil_append, is2IT, is2RT, if_true, if_false]
              exact q σ h Fm_rf
            simp (disch := first | exact is2I | exact is2R | omega) only [z_X8_copy_68, z_X8_copy_70, z_X8_copy_71, z_X8_copy_73, z_X8_copy_76, c_hasRun a3, b2_0, true_and, Option.toList_some, Option.toList_none, List.cons_append, List.nil_append, is2IT, is2RT, if_true, if_false]
            cases hr : runP m m2 i j n with
            | none =>
              rw [hr] at hQ
              have nr := (run_hr a4 b4).mp hr
              by_cases c1 : hrP m i n
              · rw [if_neg (fun q => q ((hr_iff a4).mpr c1))]
                simp (disch := first | exact is2I | exact is2R | omega) only [z_X8_copy_79, z_X8_copy_81, z_X8_copy_83, z_X8_copy_85, z_X8_copy_88, c_hasRun b3, b2_0, true_and, Option.toList_some, Option.toList_none, List.cons_append, List.nil_append, is2IT, is2RT, if_true, if_false]
                rw [if_pos (fun q => nr ⟨c1, (hr_iff b4).mp q⟩)]
                exact bad3 hQ
              · rw [if_pos (fun q => c1 ((hr_iff a4).mp q))]; exact bad3 hQ
            | some r =>
              obtain ⟨I, J, N⟩ := r
              rw [hr] at hQ
              obtain ⟨rfl, rfl, rfl, q1, q2⟩ := (run_some a4 b4).mp hr
              rw [if_neg (fun q => q ((hr_iff a4).mpr ⟨I, N, rfl, rfl, q1⟩))]
              simp (disch := first | exact is2I | exact is2R | omega) only [z_X8_copy_79, z_X8_copy_81, z_X8_copy_83, z_X8_copy_85, z_X8_copy_88, c_hasRun b3, b2_0, true_and, Option.toList_some, Option.toList_none, List.cons_append, List.nil_append, is2IT, is2RT, if_true, if_false]
              rw [if_neg (fun q => q ((hr_iff b4).mpr ⟨J, N, rfl, rfl, q2⟩))]
              have gd : (!(decide (nI I < 0)) && (!(decide (nI J < 0)) && (!(decide (nI N < 0)) && (decide ((nI I).toNatClampNeg + (nI N).toNatClampNeg ≤ 40) && (decide ((nI J).toNatClampNeg + (nI N).toNatClampNeg ≤ 40) && true))))) = true := by
                rw [kDecNeg (show I < 2 ^ 31 by omega), kDecNeg (show J < 2 ^ 31 by omega), kDecNeg (show N < 2 ^ 31 by omega), kCl (show I < 2 ^ 31 by omega), kCl (show J < 2 ^ 31 by omega), kCl (show N < 2 ^ 31 by omega), kDecLe (show I + N ≤ 40 by omega), kDecLe (show J + N ≤ 40 by omega)]; rfl
              simp (disch := first | exact is2I | exact is2R | omega) only [z_X8_copy_94, z_X8_copy_96, z_X8_copy_99, z_X8_copy_100, z_X8_copy_102, z_X8_copy_105, z_X8_copy_107, z_X8_copy_109l, z_X8_copy_112, z_X8_copy_114, x2, y2, x3, y3, gd, true_and, Option.toList_some, Option.toList_none, List.cons_append, List.nil_append, is2IT, is2RT, if_true, if_false]
              rw [kCl (show I < 2 ^ 31 by omega), kCl (show J < 2 ^ 31 by omega), kCl (show N < 2 ^ 31 by omega)]
              have F : Fm Ish2 Lsh2 σ (cL σ (90 + 2 * A) I (90 + 2 * B) J N) := Fm_cL (decide_eq_true (by omega))
              refine hQ _ (XS_shn h F (shC_set hsC ⟨b1, b22, b3, b4, fun z hz => ?_⟩ (fun _ _ _ => rfl) (fun a y ha => by rw [rL_cL, if_neg (fun q => ha q.1)]))) (Fm_mono F (fun a i => Ish2_ICc) Lsh2_LCc)
              show rL (cL σ (90 + 2 * A) I (90 + 2 * B) J N) (90 + 2 * B) z = if J ≤ z ∧ z < J + N then g (I + (z - J)) else g2 z
              rw [rL_cL]
              by_cases c : J ≤ z ∧ z < J + N
              · rw [if_pos ⟨rfl, c⟩, if_pos c]; exact a5 _ (by omega)
              · rw [if_neg (fun q => c q.2), if_neg c]; exact b5 z hz
          · rw [if_neg ct] at hQ
            rw [if_neg ct]
            simp (disch := first | exact is2I | exact is2R | omega) only [z_X8_copy_65, z_X8_copy_67, true_and, Option.toList_some, Option.toList_none, List.cons_append, List.nil_append, is2IT, is2RT, if_true, if_false]
            exact hQ σ h Fm_rf
