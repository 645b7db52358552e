/-! ===== sheets: the reference ===== -/
abbrev Shs : Type := Nat → Option (Nat × Nat × (Nat → Int64))
theorem m_isSheet {d : Nat} {Q : Option PV → St → Prop} {σ : St} {s : Int32} : Ca (d + 2) 211 [vI s] σ Q ↔ Q (some (vI (b2 (0 ≤ s ∧ s < nI 4)))) σ := by
  rw [ca_at (K := kX9_isSheet) (ls := [vI s]) rfl rfl rfl]
  simp only [z_X9_isSheet_0, z_X9_isSheet_1, z_X9_isSheet_2, z_X9_isSheet_3, z_X9_isSheet_6, z_X9_isSheet_9, m_in, i64_0, i64_3, b2_ok, true_and, Option.toList_some, Option.toList_none, List.cons_append, List.nil_append, is2IT, is2RT, if_true, if_false]
theorem sh_none {σ : St} {f : Shs} {j : Nat} (h : shOf σ f) (hj : j < 4) (e : f j = none) : rI σ 115 j = 0 := by
  have := h j hj
  rw [e] at this
  exact this
theorem sh_some {σ : St} {f : Shs} {j t n : Nat} {g : Nat → Int64} (h : shOf σ f) (hj : j < 4) (e : f j = some (t, n, g)) : rI σ 115 j = 1 ∧ t ≤ 2 ∧ rI σ 116 j = nI t ∧ rI σ 117 j = nI n ∧ n ≤ 40 ∧ ∀ i, i < n → rL σ 118 (40 * j + i) = g i := by
  have := h j hj
  rw [e] at this
  exact this
def shAt (σ : St) (j : Nat) (o : Option (Nat × Nat × (Nat → Int64))) : Prop := match o with
  | none => rI σ 115 j = 0
  | some (t, n, g) => rI σ 115 j = 1 ∧ t ≤ 2 ∧ rI σ 116 j = nI t ∧ rI σ 117 j = nI n ∧ n ≤ 40 ∧ ∀ i, i < n → rL σ 118 (40 * j + i) = g i
theorem shOf_of {σ : St} {f : Shs} (h : ∀ j, j < 4 → shAt σ j (f j)) : shOf σ f := h
theorem sh_at {σ : St} {f : Shs} (h : shOf σ f) {j : Nat} (hj : j < 4) : shAt σ j (f j) := h j hj
theorem sh_keep {σ σ' : St} {j : Nat} {o : Option (Nat × Nat × (Nat → Int64))} (h : shAt σ j o) (h1 : rI σ' 115 j = rI σ 115 j) (h2 : rI σ' 116 j = rI σ 116 j) (h3 : rI σ' 117 j = rI σ 117 j) (h4 : ∀ i, i < 40 → rL σ' 118 (40 * j + i) = rL σ 118 (40 * j + i)) : shAt σ' j o := by
  cases o with
  | none => exact h1.trans h
  | some e =>
    obtain ⟨t, n, g⟩ := e
    obtain ⟨b1, b2, b3, b4, b5, b6⟩ := h
    exact ⟨h1.trans b1, b2, h2.trans b3, h3.trans b4, b5, fun i hi => (h4 i (by omega)).trans (b6 i hi)⟩
theorem sh_set {σ σ' : St} {f : Shs} {j : Nat} {e : Option (Nat × Nat × (Nat → Int64))} (h : shOf σ f) (hj : shAt σ' j e) (ho : ∀ y, y < 4 → y ≠ j → rI σ' 115 y = rI σ 115 y ∧ rI σ' 116 y = rI σ 116 y ∧ rI σ' 117 y = rI σ 117 y ∧ ∀ i, i < 40 → rL σ' 118 (40 * y + i) = rL σ 118 (40 * y + i)) : shOf σ' (fun y => if y = j then e else f y) := shOf_of fun y hy => by
  by_cases c : y = j
  · rw [if_pos c, c]; exact hj
  · rw [if_neg c]
    obtain ⟨a, b, c1, d⟩ := ho y hy c
    exact sh_keep (sh_at h hy) a b c1 d
theorem MS_sh {σ : St} {S : MSt} (h : MS σ S) : shOf σ S.2.2.2 := h.2.2.2.2.2.2
/-- a sheet changes -/
def ISh (a _i : Nat) : Bool := decide (115 ≤ a ∧ a ≤ 117)
def LSh (a : Nat) : Bool := a.beq 118
theorem MS_shn {σ σ' : St} {S : MSt} {f : Shs} (h : MS σ S) (hf : Fm ISh LSh σ σ') (hs : shOf σ' f) : MS σ' (S.1, S.2.1, S.2.2.1, f) := by
  obtain ⟨⟨a1, a2, a3⟩, b, c, d, e, g, _⟩ := h
  have k98 : rI σ' 98 = rI σ 98 := funext fun i => hf.1 98 i rfl
  have k99 : rI σ' 99 = rI σ 99 := funext fun i => hf.1 99 i rfl
  have k101 : rI σ' 101 = rI σ 101 := funext fun i => hf.1 101 i rfl
  have k106 : rI σ' 106 = rI σ 106 := funext fun i => hf.1 106 i rfl
  refine ⟨⟨MF_of a1 hf.2.2.1 hf.2.2.2.1, by unfold MN; rw [k98]; exact a2, a3⟩, by rw [hf.1 97 4 rfl]; exact b, fun K hK => ?_, ?_, fun i hi => by rw [k106]; exact e i hi, by rw [hf.1 97 20 rfl]; exact g, hs⟩
  · obtain ⟨q1, q2⟩ := c K hK
    exact ⟨by unfold MN; rw [k99]; exact q1, q2⟩
  · unfold tpOf
    rw [hf.1 97 6 rfl, k101]; exact d
theorem Fr9_sh {σ σ' : St} (h : Fm ISh LSh σ σ') : Fr9 σ σ' := ⟨fun a ha => funext fun i => h.1 a i (by unfold ISh; exact decide_eq_false (by omega)), fun a ha => funext fun i => h.2.1 a i (by unfold LSh; rw [← Bool.not_eq_true]; intro q; have := Nat.eq_of_beq_eq_true q; omega), h.2.2.1, h.2.2.2.1, h.2.2.2.2⟩
def itemF (f : Shs) (s i : Int32) : Int64 := match pN 4 s with
  | none => NOl
  | some j => match f j with
    | none => NOl
    | some e => match pN e.2.1 i with
      | none => NOl
      | some x => e.2.2 x
theorem m_item {d : Nat} {Q : Option PV → St → Prop} {σ : St} {S : MSt} {s i : Int32} (h : MS σ S) (hQ : Q (some (vL (itemF S.2.2.2 s i))) σ) : Ca (d + 3) 214 [vR 97 9, vI s, vI i] σ Q := by
  have hF := h.1.1
  have hS := MS_sh h
  rw [ca_at (K := kX9_item) (ls := [vR 97 9, vI s, vI i]) rfl rfl rfl]
  unfold itemF at hQ
  cases hp : pN 4 s with
  | none =>
    rw [hp] at hQ
    simp (disch := first | exact is2I | exact is2R | omega) only [z_X9_item_0, z_X9_item_1, z_X9_item_4, z_X9_item_48, z_X9_item_51, m_isSheet, b2_0, pN_none.mp hp, not_false_eq_true, true_and, Option.toList_some, Option.toList_none, List.cons_append, List.nil_append, is2IT, is2RT, if_true, if_false]
    exact hQ
  | some j =>
    rw [hp] at hQ
    obtain ⟨hj, rfl⟩ := (pN_some (by decide)).mp hp
    have hP : 0 ≤ nI j ∧ nI j < nI 4 := (lt_nI (by decide)).mpr ⟨j, hj, rfl⟩
    cases hf : S.2.2.2 j with
    | none =>
      dsimp only at hQ
      rw [hf] at hQ
      simp (disch := first | exact is2I | exact is2R | omega) only [z_X9_item_0, z_X9_item_1, z_X9_item_4, z_X9_item_7, z_X9_item_8, z_X9_item_11, z_X9_item_12, z_X9_item_13, z_X9_item_48, z_X9_item_51, m_isSheet, b2_0, hP, mf_r1 hF, mf_r2 hF, mf_r3 hF, mf_r5 hF, mf_r10 hF, mf_r11 hF, mf_r13 hF, mf_r15 hF, mf_r16 hF, mf_r19 hF, mf_r21 hF, mf_r22 hF, mf_r23 hF, mf_r24 hF, mf_r25 hF, mf_r26 hF, mf_r27 hF, mf_r29 hF, mf_r30 hF, mf_r31 hF, mf_r32 hF, mf_s98 hF, mf_s99 hF, mf_s100 hF, mf_s101 hF, mf_s102 hF, mf_s103 hF, mf_s104 hF, mf_s105 hF, mf_s106 hF, mf_s107 hF, mf_s108 hF, mf_s109 hF, mf_s110 hF, mf_s111 hF, mf_s112 hF, mf_s113 hF, mf_s114 hF, mf_s115 hF, mf_s116 hF, mf_s117 hF, mf_s118 hF, kIn, kCl, sh_none hS hj hf, and_self, not_true_eq_false, true_and, Option.toList_some, Option.toList_none, List.cons_append, List.nil_append, is2IT, is2RT, if_true, if_false]
      exact hQ
    | some e =>
      obtain ⟨t, n, g⟩ := e
      obtain ⟨a1, a2, a3, a4, a5, a6⟩ := sh_some hS hj hf
      have n10 : ((1 : Int32) = 0) = False := eq_false (by decide)
      dsimp only at hQ
      rw [hf] at hQ
      dsimp only at hQ
      simp (disch := first | exact is2I | exact is2R | omega) only [z_X9_item_0, z_X9_item_1, z_X9_item_4, z_X9_item_7, z_X9_item_8, z_X9_item_11, z_X9_item_12, z_X9_item_13, z_X9_item_16, z_X9_item_17, z_X9_item_18, z_X9_item_19, z_X9_item_20, z_X9_item_23, z_X9_item_24, z_X9_item_25, z_X9_item_26, z_X9_item_27, z_X9_item_28, z_X9_item_31, m_isSheet, b2_0, hP, mf_r1 hF, mf_r2 hF, mf_r3 hF, mf_r5 hF, mf_r10 hF, mf_r11 hF, mf_r13 hF, mf_r15 hF, mf_r16 hF, mf_r19 hF, mf_r21 hF, mf_r22 hF, mf_r23 hF, mf_r24 hF, mf_r25 hF, mf_r26 hF, mf_r27 hF, mf_r29 hF, mf_r30 hF, mf_r31 hF, mf_r32 hF, mf_s98 hF, mf_s99 hF, mf_s100 hF, mf_s101 hF, mf_s102 hF, mf_s103 hF, mf_s104 hF, mf_s105 hF, mf_s106 hF, mf_s107 hF, mf_s108 hF, mf_s109 hF, mf_s110 hF, mf_s111 hF, mf_s112 hF, mf_s113 hF, mf_s114 hF, mf_s115 hF, mf_s116 hF, mf_s117 hF, mf_s118 hF, kIn, kCl, a1, a4, n10, m_in, i64_0, i64_le, le_pred (show n < 2 ^ 30 by omega), and_self, not_true_eq_false, true_and, Option.toList_some, Option.toList_none, List.cons_append, List.nil_append, is2IT, is2RT, if_true, if_false]
      cases hi : pN n i with
      | none =>
        rw [hi] at hQ
        rw [if_pos (pN_none.mp hi)]
        simp only [z_X9_item_48, z_X9_item_51, true_and, Option.toList_some, Option.toList_none, List.cons_append, List.nil_append, is2IT, is2RT, if_true, if_false]
        exact hQ
      | some x =>
        rw [hi] at hQ
        obtain ⟨hx, rfl⟩ := (pN_some (by omega)).mp hi
        rw [if_neg (fun q => q ((lt_nI (by omega)).mpr ⟨x, hx, rfl⟩))]
        simp (disch := first | exact is2I | exact is2R | omega) only [z_X9_item_34, z_X9_item_35, z_X9_item_38, z_X9_item_40, z_X9_item_41, z_X9_item_42, z_X9_item_43, z_X9_item_44, z_X9_item_45, z_X9_item_48, z_X9_item_51, mf_r1 hF, mf_r2 hF, mf_r3 hF, mf_r5 hF, mf_r10 hF, mf_r11 hF, mf_r13 hF, mf_r15 hF, mf_r16 hF, mf_r19 hF, mf_r21 hF, mf_r22 hF, mf_r23 hF, mf_r24 hF, mf_r25 hF, mf_r26 hF, mf_r27 hF, mf_r29 hF, mf_r30 hF, mf_r31 hF, mf_r32 hF, mf_s98 hF, mf_s99 hF, mf_s100 hF, mf_s101 hF, mf_s102 hF, mf_s103 hF, mf_s104 hF, mf_s105 hF, mf_s106 hF, mf_s107 hF, mf_s108 hF, mf_s109 hF, mf_s110 hF, mf_s111 hF, mf_s112 hF, mf_s113 hF, mf_s114 hF, mf_s115 hF, mf_s116 hF, mf_s117 hF, mf_s118 hF, kLM, nI_add, kIn, kCl, a6 x hx, true_and, Option.toList_some, Option.toList_none, List.cons_append, List.nil_append, is2IT, is2RT, if_true, if_false]
        exact hQ
def nar (t : Nat) (v : Int64) : Int64 := if t = 0 then v else if t = 1 then v.toInt32.toInt64 else v.toInt32.toInt8.toInt32.toInt64
def putF (f : Shs) (s i : Int32) (v : Int64) : Int32 × Shs := match pN 4 s with
  | none => (-2, f)
  | some j => match f j with
    | none => (-11, f)
    | some e => match pN e.2.1 i with
      | none => (-12, f)
      | some x => (1, fun y => if y = j then some (e.1, e.2.1, fun z => if z = x then nar e.1 v else e.2.2 z) else f y)
theorem m_put {d : Nat} {Q : Option PV → St → Prop} {σ : St} {S : MSt} {s i : Int32} {v : Int64} (h : MS σ S) (hQ : ∀ σ', MS σ' (S.1, S.2.1, S.2.2.1, (putF S.2.2.2 s i v).2) → Fr9 σ σ' → Q (some (vI (putF S.2.2.2 s i v).1)) σ') : Ca (d + 3) 213 [vR 97 9, vI s, vI i, vL v] σ Q := by
  have hF := h.1.1
  have hS := MS_sh h
  rw [ca_at (K := kX9_put) (ls := [vR 97 9, vI s, vI i, vL v, vU]) rfl rfl rfl]
  unfold putF at hQ
  cases hp : pN 4 s with
  | none =>
    rw [hp] at hQ
    simp (disch := first | exact is2I | exact is2R | omega) only [z_X9_put_0, z_X9_put_1, z_X9_put_4, z_X9_put_7, z_X9_put_9, m_isSheet, b2_0, pN_none.mp hp, not_false_eq_true, true_and, Option.toList_some, Option.toList_none, List.cons_append, List.nil_append, is2IT, is2RT, if_true, if_false]
    exact hQ σ h Fr9_rf
  | some j =>
    rw [hp] at hQ
    obtain ⟨hj, rfl⟩ := (pN_some (by decide)).mp hp
    have hP : 0 ≤ nI j ∧ nI j < nI 4 := (lt_nI (by decide)).mpr ⟨j, hj, rfl⟩
    cases hf : S.2.2.2 j with
    | none =>
      dsimp only at hQ
      rw [hf] at hQ
      simp (disch := first | exact is2I | exact is2R | omega) only [z_X9_put_0, z_X9_put_1, z_X9_put_4, z_X9_put_7, z_X9_put_9, z_X9_put_10, z_X9_put_11, z_X9_put_14, z_X9_put_15, z_X9_put_16, z_X9_put_19, z_X9_put_21, m_isSheet, b2_0, hP, mf_r1 hF, mf_r2 hF, mf_r3 hF, mf_r5 hF, mf_r10 hF, mf_r11 hF, mf_r13 hF, mf_r15 hF, mf_r16 hF, mf_r19 hF, mf_r21 hF, mf_r22 hF, mf_r23 hF, mf_r24 hF, mf_r25 hF, mf_r26 hF, mf_r27 hF, mf_r29 hF, mf_r30 hF, mf_r31 hF, mf_r32 hF, mf_s98 hF, mf_s99 hF, mf_s100 hF, mf_s101 hF, mf_s102 hF, mf_s103 hF, mf_s104 hF, mf_s105 hF, mf_s106 hF, mf_s107 hF, mf_s108 hF, mf_s109 hF, mf_s110 hF, mf_s111 hF, mf_s112 hF, mf_s113 hF, mf_s114 hF, mf_s115 hF, mf_s116 hF, mf_s117 hF, mf_s118 hF, kIn, kCl, sh_none hS hj hf, and_self, not_true_eq_false, true_and, Option.toList_some, Option.toList_none, List.cons_append, List.nil_append, is2IT, is2RT, if_true, if_false]
      exact hQ σ h Fr9_rf
    | some e =>
      obtain ⟨t, n, g⟩ := e
      obtain ⟨a1, a2, a3, a4, a5, a6⟩ := sh_some hS hj hf
      have n10 : ((1 : Int32) = 0) = False := eq_false (by decide)
      dsimp only at hQ
      rw [hf] at hQ
      dsimp only at hQ
      simp (disch := first | exact is2I | exact is2R | omega) only [z_X9_put_0, z_X9_put_1, z_X9_put_4, z_X9_put_7, z_X9_put_9, z_X9_put_10, z_X9_put_11, z_X9_put_14, z_X9_put_15, z_X9_put_16, z_X9_put_19, z_X9_put_21, z_X9_put_22, z_X9_put_23, z_X9_put_24, z_X9_put_25, z_X9_put_26, z_X9_put_29, z_X9_put_30, z_X9_put_31, z_X9_put_32, z_X9_put_33, z_X9_put_34, z_X9_put_37, m_isSheet, b2_0, hP, mf_r1 hF, mf_r2 hF, mf_r3 hF, mf_r5 hF, mf_r10 hF, mf_r11 hF, mf_r13 hF, mf_r15 hF, mf_r16 hF, mf_r19 hF, mf_r21 hF, mf_r22 hF, mf_r23 hF, mf_r24 hF, mf_r25 hF, mf_r26 hF, mf_r27 hF, mf_r29 hF, mf_r30 hF, mf_r31 hF, mf_r32 hF, mf_s98 hF, mf_s99 hF, mf_s100 hF, mf_s101 hF, mf_s102 hF, mf_s103 hF, mf_s104 hF, mf_s105 hF, mf_s106 hF, mf_s107 hF, mf_s108 hF, mf_s109 hF, mf_s110 hF, mf_s111 hF, mf_s112 hF, mf_s113 hF, mf_s114 hF, mf_s115 hF, mf_s116 hF, mf_s117 hF, mf_s118 hF, kIn, kCl, a1, a4, n10, m_in, i64_0, i64_le, le_pred (show n < 2 ^ 30 by omega), and_self, not_true_eq_false, true_and, Option.toList_some, Option.toList_none, List.cons_append, List.nil_append, is2IT, is2RT, if_true, if_false]
      cases hi : pN n i with
      | none =>
        rw [hi] at hQ
        rw [if_pos (pN_none.mp hi)]
        simp only [z_X9_put_40, z_X9_put_42, true_and, Option.toList_some, Option.toList_none, List.cons_append, List.nil_append, is2IT, is2RT, if_true, if_false]
        exact hQ σ h Fr9_rf
      | some x =>
        rw [hi] at hQ
        obtain ⟨hx, rfl⟩ := (pN_some (by omega)).mp hi
        rw [if_neg (fun q => q ((lt_nI (by omega)).mpr ⟨x, hx, rfl⟩))]
        have fin : At (d + 2) kX9_put 86 [vR 97 9, vI (nI j), vI (nI x), vL v, vU] [vL (nar t v), vI (nI (40 * j + x)), vR 118 21] σ Q := by
          simp (disch := first | exact is2I | exact is2R | omega) only [z_X9_put_86, z_X9_put_87, z_X9_put_88, mf_r1 hF, mf_r2 hF, mf_r3 hF, mf_r5 hF, mf_r10 hF, mf_r11 hF, mf_r13 hF, mf_r15 hF, mf_r16 hF, mf_r19 hF, mf_r21 hF, mf_r22 hF, mf_r23 hF, mf_r24 hF, mf_r25 hF, mf_r26 hF, mf_r27 hF, mf_r29 hF, mf_r30 hF, mf_r31 hF, mf_r32 hF, mf_s98 hF, mf_s99 hF, mf_s100 hF, mf_s101 hF, mf_s102 hF, mf_s103 hF, mf_s104 hF, mf_s105 hF, mf_s106 hF, mf_s107 hF, mf_s108 hF, mf_s109 hF, mf_s110 hF, mf_s111 hF, mf_s112 hF, mf_s113 hF, mf_s114 hF, mf_s115 hF, mf_s116 hF, mf_s117 hF, mf_s118 hF, kIn, kCl, true_and, Option.toList_some, Option.toList_none, List.cons_append, List.nil_append, is2IT, is2RT, if_true, if_false]
          have fr : Fm ISh LSh σ (wL σ 118 (40 * j + x) (nar t v)) := Fm_wL rfl
          refine hQ _ (MS_shn h fr (sh_set hS (e := some (t, n, fun z => if z = x then nar t v else g z)) ⟨a1, a2, a3, a4, a5, fun z hz => ?_⟩ (fun y hy c => ⟨rfl, rfl, rfl, fun z hz => by rw [rL_wL, if_neg (fun q => by omega)]⟩))) (Fr9_sh fr)
          show rL (wL σ 118 (40 * j + x) (nar t v)) 118 (40 * j + z) = if z = x then nar t v else g z
          rw [rL_wL]
          by_cases cz : z = x
          · rw [if_pos ⟨rfl, by omega⟩, if_pos cz]
          · rw [if_neg (fun q => cz (by omega)), if_neg cz]; exact a6 z hz
        rcases (show t = 0 ∨ t = 1 ∨ t = 2 by omega) with rfl | rfl | rfl
        · simp (disch := first | exact is2I | exact is2R | omega) only [z_X9_put_43, z_X9_put_44, z_X9_put_47, z_X9_put_49, z_X9_put_50, z_X9_put_51, z_X9_put_52, z_X9_put_53, z_X9_put_54, z_X9_put_57, z_X9_put_58, z_X9_put_59, z_X9_put_62, z_X9_put_63, mf_r1 hF, mf_r2 hF, mf_r3 hF, mf_r5 hF, mf_r10 hF, mf_r11 hF, mf_r13 hF, mf_r15 hF, mf_r16 hF, mf_r19 hF, mf_r21 hF, mf_r22 hF, mf_r23 hF, mf_r24 hF, mf_r25 hF, mf_r26 hF, mf_r27 hF, mf_r29 hF, mf_r30 hF, mf_r31 hF, mf_r32 hF, mf_s98 hF, mf_s99 hF, mf_s100 hF, mf_s101 hF, mf_s102 hF, mf_s103 hF, mf_s104 hF, mf_s105 hF, mf_s106 hF, mf_s107 hF, mf_s108 hF, mf_s109 hF, mf_s110 hF, mf_s111 hF, mf_s112 hF, mf_s113 hF, mf_s114 hF, mf_s115 hF, mf_s116 hF, mf_s117 hF, mf_s118 hF, kLM, nI_add, kIn, kCl, kEL, a3, true_and, Option.toList_some, Option.toList_none, List.cons_append, List.nil_append, is2IT, is2RT, if_true, if_false]
          exact fin
        · have z1 : ¬ (1 = 0) := by decide
          simp (disch := first | exact is2I | exact is2R | omega) only [z_X9_put_43, z_X9_put_44, z_X9_put_47, z_X9_put_49, z_X9_put_50, z_X9_put_51, z_X9_put_52, z_X9_put_53, z_X9_put_54, z_X9_put_57, z_X9_put_58, z_X9_put_59, z_X9_put_62, z_X9_put_63, z_X9_put_66, z_X9_put_67, z_X9_put_70, z_X9_put_71, z_X9_put_72, z_X9_put_73, z_X9_put_76, z_X9_put_77, z_X9_put_78, z_X9_put_79, mf_r1 hF, mf_r2 hF, mf_r3 hF, mf_r5 hF, mf_r10 hF, mf_r11 hF, mf_r13 hF, mf_r15 hF, mf_r16 hF, mf_r19 hF, mf_r21 hF, mf_r22 hF, mf_r23 hF, mf_r24 hF, mf_r25 hF, mf_r26 hF, mf_r27 hF, mf_r29 hF, mf_r30 hF, mf_r31 hF, mf_r32 hF, mf_s98 hF, mf_s99 hF, mf_s100 hF, mf_s101 hF, mf_s102 hF, mf_s103 hF, mf_s104 hF, mf_s105 hF, mf_s106 hF, mf_s107 hF, mf_s108 hF, mf_s109 hF, mf_s110 hF, mf_s111 hF, mf_s112 hF, mf_s113 hF, mf_s114 hF, mf_s115 hF, mf_s116 hF, mf_s117 hF, mf_s118 hF, kLM, nI_add, kIn, kCl, kEL, a3, z1, true_and, Option.toList_some, Option.toList_none, List.cons_append, List.nil_append, is2IT, is2RT, if_true, if_false]
          exact fin
        · have z1 : ¬ (2 = 0) := by decide
          have z2 : ¬ (2 = 1) := by decide
          simp (disch := first | exact is2I | exact is2R | omega) only [z_X9_put_43, z_X9_put_44, z_X9_put_47, z_X9_put_49, z_X9_put_50, z_X9_put_51, z_X9_put_52, z_X9_put_53, z_X9_put_54, z_X9_put_57, z_X9_put_58, z_X9_put_59, z_X9_put_62, z_X9_put_63, z_X9_put_66, z_X9_put_67, z_X9_put_70, z_X9_put_71, z_X9_put_72, z_X9_put_73, z_X9_put_82, z_X9_put_83, z_X9_put_84, z_X9_put_85, mf_r1 hF, mf_r2 hF, mf_r3 hF, mf_r5 hF, mf_r10 hF, mf_r11 hF, mf_r13 hF, mf_r15 hF, mf_r16 hF, mf_r19 hF, mf_r21 hF, mf_r22 hF, mf_r23 hF, mf_r24 hF, mf_r25 hF, mf_r26 hF, mf_r27 hF, mf_r29 hF, mf_r30 hF, mf_r31 hF, mf_r32 hF, mf_s98 hF, mf_s99 hF, mf_s100 hF, mf_s101 hF, mf_s102 hF, mf_s103 hF, mf_s104 hF, mf_s105 hF, mf_s106 hF, mf_s107 hF, mf_s108 hF, mf_s109 hF, mf_s110 hF, mf_s111 hF, mf_s112 hF, mf_s113 hF, mf_s114 hF, mf_s115 hF, mf_s116 hF, mf_s117 hF, mf_s118 hF, kLM, nI_add, kIn, kCl, kEL, a3, z1, z2, true_and, Option.toList_some, Option.toList_none, List.cons_append, List.nil_append, is2IT, is2RT, if_true, if_false]
          exact fin
/-- a sheet made: s names it, t its sort (-1: none), n its length -/
def sheetF (f : Shs) (s t n : Int32) : Int32 × Shs := match pN 4 s with
  | none => (-2, f)
  | some j => if t = -1 then (1, fun y => if y = j then none else f y) else match pN 3 t with
    | none => (-2, f)
    | some u => if nI 40 < n then (-2, f) else match pN 41 n with
      | none => (-14, f)
      | some x => (1, fun y => if y = j then some (u, x, fun _ => 0) else f y)
def zL (σ : St) (b n : Nat) : St := (σ.1, fun a i => if a = 118 ∧ b ≤ i ∧ i < b + n then 0 else rL σ a i, σ.2.2)
theorem zL_0 {σ : St} {b : Nat} : zL σ b 0 = σ := by
  have e : (fun a i => if a = 118 ∧ b ≤ i ∧ i < b + 0 then 0 else rL σ a i) = σ.2.1 := funext fun a => funext fun i => if_neg (fun q => by omega)
  show (σ.1, (fun a i => if a = 118 ∧ b ≤ i ∧ i < b + 0 then 0 else rL σ a i), σ.2.2) = σ
  rw [e]
theorem zL_s {σ : St} {b n : Nat} : wL (zL σ b n) 118 (b + n) 0 = zL σ b (n + 1) := by
  have e : (fun a i => if a = 118 ∧ i = b + n then (0 : Int64) else (if a = 118 ∧ b ≤ i ∧ i < b + n then 0 else rL σ a i)) = (fun a i => if a = 118 ∧ b ≤ i ∧ i < b + (n + 1) then 0 else rL σ a i) := funext fun a => funext fun i => by
    by_cases h1 : a = 118 ∧ i = b + n
    · rw [if_pos h1, if_pos ⟨h1.1, by omega, by omega⟩]
    · rw [if_neg h1]
      by_cases h2 : a = 118 ∧ b ≤ i ∧ i < b + n
      · rw [if_pos h2, if_pos ⟨h2.1, h2.2.1, by omega⟩]
      · rw [if_neg h2, if_neg (fun q => h2 ⟨q.1, q.2.1, by
          have : i ≠ b + n := fun w => h1 ⟨q.1, w⟩
          omega⟩)]
  show (σ.1, (fun a i => if a = 118 ∧ i = b + n then (0 : Int64) else (if a = 118 ∧ b ≤ i ∧ i < b + n then 0 else rL σ a i)), σ.2.2) = _
  rw [e]
  rfl
theorem rL_zL {σ : St} {b n a i : Nat} : rL (zL σ b n) a i = if a = 118 ∧ b ≤ i ∧ i < b + n then 0 else rL σ a i := rfl
theorem st_l {d j : Nat} {Q : Option PV → St → Prop} {σ : St} {l2 : PV} {l3 : Int32} (hF : MF σ) (hj : j < 4) : ∀ f n, n + f = 40 → (At d kX9_sheet 89 [vR 97 9, vI (nI j), l2, vI l3, vI (nI n)] [] (zL σ (40 * j) n) Q ↔ Q (some (vI 1)) (zL σ (40 * j) 40))
  | 0, n, hn => by
    have : n = 40 := by omega
    subst this
    simp (disch := first | exact is2I | exact is2R | omega) only [z_X9_sheet_89, z_X9_sheet_91, z_X9_sheet_93, z_X9_sheet_115, z_X9_sheet_116, kLLe, Nat.le_refl, true_and, Option.toList_some, Option.toList_none, List.cons_append, List.nil_append, is2IT, is2RT, if_true, if_false]
  | f + 1, n, hn => by
    have hF2 : MF (zL σ (40 * j) n) := MF_of hF (fun _ _ => rfl) rfl
    have c : ¬ (40 ≤ n) := by omega
    have s1 := st_l (d := d) (Q := Q) (l2 := l2) (l3 := l3) hF hj f (n + 1) (by omega)
    rw [← zL_s] at s1
    simp (disch := first | exact is2I | exact is2R | omega) only [z_X9_sheet_89, z_X9_sheet_91, z_X9_sheet_93, z_X9_sheet_96, z_X9_sheet_97, z_X9_sheet_100, z_X9_sheet_102, z_X9_sheet_103, z_X9_sheet_104, z_X9_sheet_106, z_X9_sheet_107, z_X9_sheet_108, z_X9_sheet_109, mf_r1 hF2, mf_r2 hF2, mf_r3 hF2, mf_r5 hF2, mf_r10 hF2, mf_r11 hF2, mf_r13 hF2, mf_r15 hF2, mf_r16 hF2, mf_r19 hF2, mf_r21 hF2, mf_r22 hF2, mf_r23 hF2, mf_r24 hF2, mf_r25 hF2, mf_r26 hF2, mf_r27 hF2, mf_r29 hF2, mf_r30 hF2, mf_r31 hF2, mf_r32 hF2, mf_s98 hF2, mf_s99 hF2, mf_s100 hF2, mf_s101 hF2, mf_s102 hF2, mf_s103 hF2, mf_s104 hF2, mf_s105 hF2, mf_s106 hF2, mf_s107 hF2, mf_s108 hF2, mf_s109 hF2, mf_s110 hF2, mf_s111 hF2, mf_s112 hF2, mf_s113 hF2, mf_s114 hF2, mf_s115 hF2, mf_s116 hF2, mf_s117 hF2, mf_s118 hF2, kLLe, c, kIn, kCl, kAL, kLM, nI_add, true_and, Option.toList_some, Option.toList_none, List.cons_append, List.nil_append, is2IT, is2RT, if_true, if_false]
    rw [z_X9_sheet_112]
    exact s1
theorem i64_m1 (a : Int32) : (-1 : Int64) ≤ a.toInt64 ↔ -1 ≤ a := i64_le (-1) a
theorem vn_b0 : vp_nar .boolean 0 = 0 := by decide
theorem vn_b1 : vp_nar .boolean 1 = 1 := by decide
theorem zL_sh {σ : St} {j : Nat} (hj : j < 4) {y : Nat} (hy : y < 4) (c : y ≠ j) {i : Nat} (hi : i < 40) : rL (zL σ (40 * j) 40) 118 (40 * y + i) = rL σ 118 (40 * y + i) := by rw [rL_zL, if_neg (fun q => by omega)]
set_option maxHeartbeats 1000000 in
theorem m_sheet {d : Nat} {Q : Option PV → St → Prop} {σ : St} {S : MSt} {s t n : Int32} (h : MS σ S) (hQ : ∀ σ', Fm ISh LSh σ σ' → MS σ' (S.1, S.2.1, S.2.2.1, (sheetF S.2.2.2 s t n).2) → Q (some (vI (sheetF S.2.2.2 s t n).1)) σ') : Ca (d + 3) 212 [vR 97 9, vI s, vI t, vI n] σ Q := by
  have hF := h.1.1
  have hS := MS_sh h
  rw [ca_at (K := kX9_sheet) (ls := [vR 97 9, vI s, vI t, vI n, vU]) rfl rfl rfl]
  unfold sheetF at hQ
  have bad : ∀ x, (At (d + 2) kX9_sheet 32 [vR 97 9, vI s, vI t, vI n, x] [] σ Q ↔ Q (some (vI (-2))) σ) := fun x => by simp only [z_X9_sheet_32, z_X9_sheet_34, true_and, Option.toList_some, Option.toList_none, List.cons_append, List.nil_append, is2IT, is2RT, if_true, if_false]
  cases hp : pN 4 s with
  | none =>
    rw [hp] at hQ
    simp (disch := first | exact is2I | exact is2R | omega) only [z_X9_sheet_0, z_X9_sheet_1, z_X9_sheet_4, m_isSheet, b2_0, pN_none.mp hp, not_false_eq_true, bad, true_and, Option.toList_some, Option.toList_none, List.cons_append, List.nil_append, is2IT, is2RT, if_true, if_false]
    exact hQ σ Fm_rf h
  | some j =>
    rw [hp] at hQ
    obtain ⟨hj, rfl⟩ := (pN_some (by decide)).mp hp
    have hP : 0 ≤ nI j ∧ nI j < nI 4 := (lt_nI (by decide)).mpr ⟨j, hj, rfl⟩
    dsimp only at hQ
    simp (disch := first | exact is2I | exact is2R | omega) only [z_X9_sheet_0, z_X9_sheet_1, z_X9_sheet_4, z_X9_sheet_7, z_X9_sheet_8, z_X9_sheet_9, z_X9_sheet_12, z_X9_sheet_15, z_X9_sheet_18, m_isSheet, b2_0, hP, and_self, not_true_eq_false, m_in, i64_m1, i64_2', bad, true_and, Option.toList_some, Option.toList_none, List.cons_append, List.nil_append, is2IT, is2RT, if_true, if_false]
    have wr : ∀ (b c e : Int32) (o : Option (Nat × Nat × (Nat → Int64))), (b = 0 ∨ b = 1) → (o = none → b = 0) → (∀ u x g, o = some (u, x, g) → b = 1 ∧ u ≤ 2 ∧ c = nI u ∧ e = nI x ∧ x ≤ 40 ∧ g = fun _ => 0) → (∀ σ', Fm ISh LSh σ σ' → MS σ' (S.1, S.2.1, S.2.2.1, fun y => if y = j then o else S.2.2.2 y) → Q (some (vI 1)) σ') → Q (some (vI 1)) (zL (wI (wI (wI σ 115 j b) 116 j c) 117 j e) (40 * j) 40) := fun b c e o _ hb2 ho hq => by
      have fr : Fm ISh LSh σ (zL (wI (wI (wI σ 115 j b) 116 j c) 117 j e) (40 * j) 40) := Fm_tr (Fm_tr (Fm_tr (Fm_wI rfl) (Fm_wI rfl)) (Fm_wI rfl)) ⟨fun _ _ _ => rfl, fun a i q => by
        rw [rL_zL, if_neg (fun z => by rw [z.1] at q; cases q)], fun _ _ => rfl, rfl, rfl⟩
      have r5 : ∀ y, rI (zL (wI (wI (wI σ 115 j b) 116 j c) 117 j e) (40 * j) 40) 115 y = if y = j then b else rI σ 115 y := fun y => by
        show rI (wI (wI (wI σ 115 j b) 116 j c) 117 j e) 115 y = _
        rw [rI_wI_n (by decide), rI_wI_n (by decide), rI_wI]; simp
      have r6 : ∀ y, rI (zL (wI (wI (wI σ 115 j b) 116 j c) 117 j e) (40 * j) 40) 116 y = if y = j then c else rI σ 116 y := fun y => by
        show rI (wI (wI (wI σ 115 j b) 116 j c) 117 j e) 116 y = _
        rw [rI_wI_n (by decide), rI_wI]; simp [rI_wI]
      have r7 : ∀ y, rI (zL (wI (wI (wI σ 115 j b) 116 j c) 117 j e) (40 * j) 40) 117 y = if y = j then e else rI σ 117 y := fun y => by
        show rI (wI (wI (wI σ 115 j b) 116 j c) 117 j e) 117 y = _
        rw [rI_wI]; simp [rI_wI]
      refine hq _ fr (MS_shn h fr (sh_set hS ?_ (fun y hy cy => ⟨by rw [r5, if_neg cy], by rw [r6, if_neg cy], by rw [r7, if_neg cy], fun i hi => ?_⟩)))
      · cases o with
        | none => show rI _ 115 j = 0; rw [r5, if_pos rfl]; exact hb2 rfl
        | some p =>
          obtain ⟨u, x, g⟩ := p
          obtain ⟨a1, a2, a3, a4, a5, a6⟩ := ho u x g rfl
          refine ⟨by rw [r5, if_pos rfl]; exact a1, a2, by rw [r6, if_pos rfl]; exact a3, by rw [r7, if_pos rfl]; exact a4, a5, fun i hi => ?_⟩
          rw [rL_zL, if_pos ⟨rfl, by omega, by omega⟩, a6]
      · rw [zL_sh hj hy cy hi]; rfl
    by_cases ct : t = -1
    · rw [if_pos ct] at hQ
      subst ct
      have k1 : ((-1 : Int32) ≤ -1 ∧ (-1 : Int32) < nI 3) := ⟨by decide, by decide⟩
      simp (disch := first | exact is2I | exact is2R | omega) only [z_X9_sheet_21, z_X9_sheet_22, z_X9_sheet_23, z_X9_sheet_26, z_X9_sheet_27, z_X9_sheet_29, z_X9_sheet_32, z_X9_sheet_34, z_X9_sheet_35, z_X9_sheet_36, z_X9_sheet_37, z_X9_sheet_40, z_X9_sheet_41, z_X9_sheet_44, z_X9_sheet_46, z_X9_sheet_47, z_X9_sheet_48, z_X9_sheet_51, z_X9_sheet_52, z_X9_sheet_53, z_X9_sheet_54, z_X9_sheet_57, z_X9_sheet_58, z_X9_sheet_61, z_X9_sheet_62, z_X9_sheet_63, z_X9_sheet_64, z_X9_sheet_67, z_X9_sheet_68, z_X9_sheet_69, z_X9_sheet_70, z_X9_sheet_71, z_X9_sheet_74, z_X9_sheet_75, z_X9_sheet_76, z_X9_sheet_77, z_X9_sheet_80, z_X9_sheet_81, z_X9_sheet_84, z_X9_sheet_85, z_X9_sheet_86, z_X9_sheet_87, vn_b0, k1, and_self, not_true_eq_false, mf_r1 hF, mf_r2 hF, mf_r3 hF, mf_r5 hF, mf_r10 hF, mf_r11 hF, mf_r13 hF, mf_r15 hF, mf_r16 hF, mf_r19 hF, mf_r21 hF, mf_r22 hF, mf_r23 hF, mf_r24 hF, mf_r25 hF, mf_r26 hF, mf_r27 hF, mf_r29 hF, mf_r30 hF, mf_r31 hF, mf_r32 hF, mf_s98 hF, mf_s99 hF, mf_s100 hF, mf_s101 hF, mf_s102 hF, mf_s103 hF, mf_s104 hF, mf_s105 hF, mf_s106 hF, mf_s107 hF, mf_s108 hF, mf_s109 hF, mf_s110 hF, mf_s111 hF, mf_s112 hF, mf_s113 hF, mf_s114 hF, mf_s115 hF, mf_s116 hF, mf_s117 hF, mf_s118 hF, rR_wI, sh_wI, kIn, kCl, true_and, Option.toList_some, Option.toList_none, List.cons_append, List.nil_append, is2IT, is2RT, if_true, if_false]
      have l := @st_l (d + 2) j Q (wI (wI (wI σ 115 j 0) 116 j (-1)) 117 j 0) (vI (-1)) n hF hj 40 0 rfl
      rw [zL_0] at l
      exact l.mpr (wr 0 (-1) 0 none (Or.inl rfl) (fun _ => rfl) (fun u x g q => by cases q) hQ)
    · rw [if_neg ct] at hQ
      cases hu : pN 3 t with
      | none =>
        rw [hu] at hQ
        have k1 : ¬ (-1 ≤ t ∧ t < nI 3) := fun q => pN_none.mp hu ⟨by
          have q1 := q.1
          rw [Int32.le_iff_toInt_le] at q1 ⊢
          have e1 : (-1 : Int32).toInt = -1 := by decide
          have e2 : (0 : Int32).toInt = 0 := by decide
          have : t.toInt ≠ -1 := fun w => ct (Int32.toInt_inj.mp (by rw [w, e1]))
          omega, q.2⟩
        rw [if_pos k1]
        exact hQ σ Fm_rf h
      | some u =>
        rw [hu] at hQ
        obtain ⟨hu3, rfl⟩ := (pN_some (by decide)).mp hu
        have k1 : (-1 ≤ nI u ∧ nI u < nI 3) := ⟨by
          rw [Int32.le_iff_toInt_le, nI_toInt (by omega)]
          have e1 : (-1 : Int32).toInt = -1 := by decide
          omega, (nI_ltI (by omega) (by decide)).mpr hu3⟩
        dsimp only at hQ
        rw [if_neg (fun q => q k1)]
        simp (disch := first | exact is2I | exact is2R | omega) only [z_X9_sheet_21, z_X9_sheet_22, z_X9_sheet_23, z_X9_sheet_26, z_X9_sheet_27, z_X9_sheet_29, kM1, bad, true_and, Option.toList_some, Option.toList_none, List.cons_append, List.nil_append, is2IT, is2RT, if_true, if_false]
        by_cases cn : nI 40 < n
        · rw [if_pos cn] at hQ
          rw [if_neg (show ¬ n ≤ (40 : Int32) from fun q => absurd cn (Int32.not_lt.mpr q))]
          exact hQ σ Fm_rf h
        · rw [if_neg cn] at hQ
          rw [if_pos (show n ≤ (40 : Int32) from Int32.not_lt.mp cn)]
          simp (disch := first | exact is2I | exact is2R | omega) only [z_X9_sheet_35, z_X9_sheet_36, z_X9_sheet_37, z_X9_sheet_40, z_X9_sheet_41, kM1, true_and, Option.toList_some, Option.toList_none, List.cons_append, List.nil_append, is2IT, is2RT, if_true, if_false]
          cases hn : pN 41 n with
          | none =>
            rw [hn] at hQ
            have k2 : ¬ (0 ≤ n) := fun q => pN_none.mp hn ⟨q, by
              have q2 := Int32.not_lt.mp cn
              rw [Int32.le_iff_toInt_le, nI_toInt (by decide)] at q2
              rw [Int32.lt_iff_toInt_lt, nI_toInt (by decide)]
              omega⟩
            rw [if_neg k2]
            simp only [z_X9_sheet_44, z_X9_sheet_46, true_and, Option.toList_some, Option.toList_none, List.cons_append, List.nil_append, is2IT, is2RT, if_true, if_false]
            exact hQ σ Fm_rf h
          | some x =>
            rw [hn] at hQ
            obtain ⟨hx, rfl⟩ := (pN_some (by decide)).mp hn
            rw [if_pos (nI_pos' (by omega))]
            simp (disch := first | exact is2I | exact is2R | omega) only [z_X9_sheet_47, z_X9_sheet_48, z_X9_sheet_51, z_X9_sheet_52, z_X9_sheet_53, z_X9_sheet_54, z_X9_sheet_57, z_X9_sheet_58, z_X9_sheet_61, z_X9_sheet_62, z_X9_sheet_63, z_X9_sheet_64, z_X9_sheet_67, z_X9_sheet_68, z_X9_sheet_69, z_X9_sheet_70, z_X9_sheet_71, z_X9_sheet_74, z_X9_sheet_75, z_X9_sheet_76, z_X9_sheet_77, z_X9_sheet_80, z_X9_sheet_81, z_X9_sheet_84, z_X9_sheet_85, z_X9_sheet_86, z_X9_sheet_87, mf_r1 hF, mf_r2 hF, mf_r3 hF, mf_r5 hF, mf_r10 hF, mf_r11 hF, mf_r13 hF, mf_r15 hF, mf_r16 hF, mf_r19 hF, mf_r21 hF, mf_r22 hF, mf_r23 hF, mf_r24 hF, mf_r25 hF, mf_r26 hF, mf_r27 hF, mf_r29 hF, mf_r30 hF, mf_r31 hF, mf_r32 hF, mf_s98 hF, mf_s99 hF, mf_s100 hF, mf_s101 hF, mf_s102 hF, mf_s103 hF, mf_s104 hF, mf_s105 hF, mf_s106 hF, mf_s107 hF, mf_s108 hF, mf_s109 hF, mf_s110 hF, mf_s111 hF, mf_s112 hF, mf_s113 hF, mf_s114 hF, mf_s115 hF, mf_s116 hF, mf_s117 hF, mf_s118 hF, rR_wI, sh_wI, kIn, kCl, kM1, vn_b1, true_and, Option.toList_some, Option.toList_none, List.cons_append, List.nil_append, is2IT, is2RT, if_true, if_false]
            have l := @st_l (d + 2) j Q (wI (wI (wI σ 115 j 1) 116 j (nI u)) 117 j (nI x)) (vI (nI u)) (nI x) hF hj 40 0 rfl
            rw [zL_0] at l
            exact l.mpr (wr 1 (nI u) (nI x) (some (u, x, fun _ => 0)) (Or.inr rfl) (fun q => by cases q) (fun u2 x2 g2 q => by cases q; exact ⟨rfl, by omega, rfl, rfl, by omega, rfl⟩) hQ)
