/-! ===== power, odds, both, would, without, likely ===== -/
theorem i64_1 (a : Int32) : a.toInt64 ≤ (1 : Int64) ↔ a < nI 2 := (i64_le a 1).trans (le_pred (n := a) (m := 2) (by decide))
def okL (l : Int32) : Prop := 0 ≤ l ∧ l < nI 2
theorem okL_iff {l : Int32} : okL l ↔ l = 0 ∨ l = 1 := by
  constructor
  · intro h
    obtain ⟨k, hk, rfl⟩ := (lt_nI (by decide)).mp h
    rcases (show k = 0 ∨ k = 1 by omega) with rfl | rfl
    · exact Or.inl rfl
    · exact Or.inr rfl
  · rintro (rfl | rfl)
    · exact ⟨by decide, by decide⟩
    · exact ⟨by decide, by decide⟩
def NOl : Int64 := -4611686018427387904
/-- a node and a value of it -/
def askP (N : Net) (n v : Int32) : Option (Nat × Nat) := match pN (nM N) n with
  | none => none
  | some k => match pN (nS N k) v with
    | none => none
    | some u => some (k, u)
theorem askP_some {N : Net} (h : NV N) {n v : Int32} {k u : Nat} : askP N n v = some (k, u) ↔ k < nM N ∧ u < nS N k ∧ n = nI k ∧ v = nI u := by
  have h7 := h.1
  unfold askP
  constructor
  · intro e
    cases h1 : pN (nM N) n with
    | none => rw [h1] at e; cases e
    | some j =>
      rw [h1] at e
      dsimp only at e
      obtain ⟨a1, a2⟩ := (pN_some (by omega)).mp h1
      have hs := NV_sv h a1
      cases h2 : pN (nS N j) v with
      | none => rw [h2] at e; cases e
      | some x =>
        rw [h2] at e
        cases e
        obtain ⟨b1, b2⟩ := (pN_some (by omega)).mp h2
        exact ⟨a1, b1, a2, b2⟩
  · rintro ⟨a, b, rfl, rfl⟩
    have hs := NV_sv h a
    rw [(pN_some (by omega)).mpr ⟨a, rfl⟩]
    dsimp only
    rw [(pN_some (by omega)).mpr ⟨b, rfl⟩]
theorem askP_none {N : Net} {n v : Int32} (h : askP N n v = none) : ∀ k, pN (nM N) n = some k → pN (nS N k) v = none := by
  intro k hk
  unfold askP at h
  rw [hk] at h
  dsimp only at h
  cases e : pN (nS N k) v with
  | none => rfl
  | some u => rw [e] at h; cases h
def askY (N : Net) (n v l : Int32) : Bool := (askP N n v).isSome && decide (0 ≤ l ∧ l < nI 2)
theorem askY_n {N : Net} {n v l : Int32} (h : askP N n v = none) : ¬ askY N n v l = true := by unfold askY; rw [h]; exact fun q => by cases q
theorem askY_l {N : Net} {n v l : Int32} (h : ¬ (0 ≤ l ∧ l < nI 2)) : ¬ askY N n v l = true := by unfold askY; rw [decide_eq_false h, Bool.and_false]; exact fun q => by cases q
theorem askY_y {N : Net} {n v l : Int32} {p : Nat × Nat} (h : askP N n v = some p) (hl : 0 ≤ l ∧ l < nI 2) : askY N n v l = true := by unfold askY; rw [h, decide_eq_true hl]; rfl
theorem m_isAsked {d : Nat} {Q : Option PV → St → Prop} {σ : St} {N : Net} {n v l : Int32} (h : MI σ N) : Ca (d + 3) 170 [vR 97 9, vI n, vI v, vI l] σ Q ↔ Q (some (vI (b2 (askY N n v l = true)))) σ := by
  have h7 := MI_7 h
  rw [ca_at (K := kX9_isAsked) (ls := [vR 97 9, vI n, vI v, vI l]) rfl rfl rfl]
  cases hp : pN (nM N) n with
  | none =>
    have e : askP N n v = none := by unfold askP; rw [hp]
    have hP := pN_none.mp hp
    rw [b2_f (askY_n e)]
    simp (disch := first | exact is2I | exact is2R | omega) only [z_X9_isAsked_0, z_X9_isAsked_1, z_X9_isAsked_2, z_X9_isAsked_5, z_X9_isAsked_8, z_X9_isAsked_9, z_X9_isAsked_10, z_X9_isAsked_11, z_X9_isAsked_14, z_X9_isAsked_17, z_X9_isAsked_18, z_X9_isAsked_19, z_X9_isAsked_20, z_X9_isAsked_21, z_X9_isAsked_24, z_X9_isAsked_27, z_X9_isAsked_28, z_X9_isAsked_31, z_X9_isAsked_32, i_isNode h, b2_0, hP, not_false_eq_true, rk_b0, true_and, Option.toList_some, Option.toList_none, List.cons_append, List.nil_append, is2IT, is2RT, if_true, if_false]
  | some k =>
    obtain ⟨hk, rfl⟩ := (pN_some (by omega)).mp hp
    have hP : 0 ≤ nI k ∧ nI k < nI (nM N) := (lt_nI (by omega)).mpr ⟨k, hk, rfl⟩
    have hs := NV_s h hk
    cases hu : pN (nS N k) v with
    | none =>
      have e : askP N (nI k) v = none := by unfold askP; rw [hp]; dsimp only; rw [hu]
      have hV := pN_none.mp hu
      rw [b2_f (askY_n e)]
      simp (disch := first | exact is2I | exact is2R | omega) only [z_X9_isAsked_0, z_X9_isAsked_1, z_X9_isAsked_2, z_X9_isAsked_5, z_X9_isAsked_8, z_X9_isAsked_9, z_X9_isAsked_10, z_X9_isAsked_11, z_X9_isAsked_14, z_X9_isAsked_17, z_X9_isAsked_18, z_X9_isAsked_19, z_X9_isAsked_20, z_X9_isAsked_21, z_X9_isAsked_24, z_X9_isAsked_27, z_X9_isAsked_28, z_X9_isAsked_31, z_X9_isAsked_32, i_isNode h, i_isValue h hk, b2_0, hP, hV, and_self, not_true_eq_false, not_false_eq_true, rk_b0, true_and, Option.toList_some, Option.toList_none, List.cons_append, List.nil_append, is2IT, is2RT, if_true, if_false]
    | some u =>
      obtain ⟨hu1, rfl⟩ := (pN_some (by omega)).mp hu
      have hV : 0 ≤ nI u ∧ nI u < nI (nS N k) := (lt_nI (by omega)).mpr ⟨u, hu1, rfl⟩
      have e : askP N (nI k) (nI u) = some (k, u) := (askP_some h.2.2).mpr ⟨hk, hu1, rfl, rfl⟩
      by_cases hl : 0 ≤ l ∧ l < nI 2
      · rw [b2_t (askY_y e hl)]
        simp (disch := first | exact is2I | exact is2R | omega) only [z_X9_isAsked_0, z_X9_isAsked_1, z_X9_isAsked_2, z_X9_isAsked_5, z_X9_isAsked_8, z_X9_isAsked_9, z_X9_isAsked_10, z_X9_isAsked_11, z_X9_isAsked_14, z_X9_isAsked_17, z_X9_isAsked_18, z_X9_isAsked_19, z_X9_isAsked_20, z_X9_isAsked_21, z_X9_isAsked_24, z_X9_isAsked_27, z_X9_isAsked_28, z_X9_isAsked_31, z_X9_isAsked_32, i_isNode h, i_isValue h hk, m_in, i64_0, i64_1, b2_0, hP, hV, hl, and_self, not_true_eq_false, rk_b1, true_and, Option.toList_some, Option.toList_none, List.cons_append, List.nil_append, is2IT, is2RT, if_true, if_false]
      · rw [b2_f (askY_l hl)]
        simp (disch := first | exact is2I | exact is2R | omega) only [z_X9_isAsked_0, z_X9_isAsked_1, z_X9_isAsked_2, z_X9_isAsked_5, z_X9_isAsked_8, z_X9_isAsked_9, z_X9_isAsked_10, z_X9_isAsked_11, z_X9_isAsked_14, z_X9_isAsked_17, z_X9_isAsked_18, z_X9_isAsked_19, z_X9_isAsked_20, z_X9_isAsked_21, z_X9_isAsked_24, z_X9_isAsked_27, z_X9_isAsked_28, z_X9_isAsked_31, z_X9_isAsked_32, i_isNode h, i_isValue h hk, m_in, i64_0, i64_1, b2_0, hP, hV, hl, and_self, not_true_eq_false, not_false_eq_true, rk_b0, true_and, Option.toList_some, Option.toList_none, List.cons_append, List.nil_append, is2IT, is2RT, if_true, if_false]
def mu1 (k u : Nat) : Nat → Option Nat := fun i => if i = k then some u else none
def mu2 (k u j x : Nat) : Nat → Option Nat := fun i => if i = j then some x else if i = k then some u else none
def oddsF (N : Net) (n v l : Int32) : Int64 := match askP N n v with
  | none => NOl
  | some (k, u) => if 0 ≤ l ∧ l < nI 2 then oddS (WT N (mu1 k u)) (WT N no1) l else NOl
theorem mu1_3 {N : Net} (h : NV N) {k u : Nat} (hk : k < nM N) (hu : u < nS N k) : ∀ i v, mu1 k u i = some v → v < 3 := by
  intro i v e
  have hs := NV_sv h hk
  unfold mu1 at e
  split at e
  · cases e; omega
  · cases e
theorem mu2_3 {N : Net} (h : NV N) {k u j x : Nat} (hk : k < nM N) (hu : u < nS N k) (hj : j < nM N) (hx : x < nS N j) : ∀ i v, mu2 k u j x i = some v → v < 3 := by
  intro i v e
  have hs := NV_sv h hk
  have hs2 := NV_sv h hj
  unfold mu2 at e
  split at e
  · cases e; omega
  · split at e
    · cases e; omega
    · cases e
theorem m_odds {d : Nat} {Q : Option PV → St → Prop} {σ : St} {N : Net} {n v l : Int32} (h : RQ σ N) (hQ : ∀ σ', Sc σ σ' → Q (some (vL (oddsF N n v l))) σ') : Ca (d + 16) 171 [vR 97 9, vI n, vI v, vI l] σ Q := by
  have hM := h.1
  have h7 := MI_7 hM
  rw [ca_at (K := kX9_odds) (ls := [vR 97 9, vI n, vI v, vI l]) rfl rfl rfl]
  simp (disch := first | exact is2I | exact is2R | omega) only [z_X9_odds_0, z_X9_odds_1, z_X9_odds_2, z_X9_odds_3, z_X9_odds_4, z_X9_odds_7, m_isAsked hM, b2_0, true_and, Option.toList_some, Option.toList_none, List.cons_append, List.nil_append, is2IT, is2RT, if_true, if_false]
  cases ha : askP N n v with
  | none =>
    have e : oddsF N n v l = NOl := by unfold oddsF; rw [ha]
    rw [e] at hQ
    rw [if_pos (askY_n ha)]
    simp only [z_X9_odds_10, z_X9_odds_13, true_and, Option.toList_some, Option.toList_none, List.cons_append, List.nil_append, is2IT, is2RT, if_true, if_false]
    exact hQ σ Fm_rf
  | some p =>
    obtain ⟨k, u⟩ := p
    obtain ⟨hk, hu, rfl, rfl⟩ := (askP_some hM.2.2).mp ha
    have hs := NV_s hM hk
    have nn : ¬ (some (k, u) = none) := fun q => by cases q
    by_cases hl : 0 ≤ l ∧ l < nI 2
    · have e : oddsF N (nI k) (nI u) l = oddS (WT N (mu1 k u)) (WT N no1) l := by unfold oddsF; rw [ha]; dsimp only; rw [if_pos hl]
      rw [e] at hQ
      rw [if_neg (fun q => q (askY_y ha hl))]
      simp (disch := first | exact is2I | exact is2R | omega) only [z_X9_odds_14, z_X9_odds_15, z_X9_odds_18, z_X9_odds_19, z_X9_odds_20, z_X9_odds_21, z_X9_odds_22, z_X9_odds_23, mf_r1 hM.1, mf_r2 hM.1, mf_r3 hM.1, mf_r5 hM.1, mf_r10 hM.1, mf_r11 hM.1, mf_r13 hM.1, mf_r15 hM.1, mf_r16 hM.1, mf_r19 hM.1, mf_r21 hM.1, mf_r22 hM.1, mf_r23 hM.1, mf_r24 hM.1, mf_r25 hM.1, mf_r26 hM.1, mf_r27 hM.1, mf_r29 hM.1, mf_r30 hM.1, mf_r31 hM.1, mf_r32 hM.1, mf_s98 hM.1, mf_s99 hM.1, mf_s100 hM.1, mf_s101 hM.1, mf_s102 hM.1, mf_s103 hM.1, mf_s104 hM.1, mf_s105 hM.1, mf_s106 hM.1, mf_s107 hM.1, mf_s108 hM.1, mf_s109 hM.1, mf_s110 hM.1, mf_s111 hM.1, mf_s112 hM.1, mf_s113 hM.1, mf_s114 hM.1, mf_s115 hM.1, mf_s116 hM.1, mf_s117 hM.1, mf_s118 hM.1, kIn, kCl, true_and, Option.toList_some, Option.toList_none, List.cons_append, List.nil_append, is2IT, is2RT, if_true, if_false]
      refine m_oddsNow (mu := mu1 k u) (mu1_3 hM.2.2 hk hu) (MI_wI hM (by decide)) (fun i hi => ?_) h.2.2 (fun σ' q1 q2 => ?_)
      · rw [rI_wI]
        unfold mu1
        by_cases c : i = k
        · rw [if_pos ⟨rfl, c⟩, if_pos c]; rfl
        · rw [if_neg (fun q => c q.2), if_neg c]; exact h.2.1 i hi
      · simp only [z_X9_odds_26, true_and, Option.toList_some, Option.toList_none, List.cons_append, List.nil_append, is2IT, is2RT, if_true, if_false]
        exact hQ σ' (Sc_of (Fm_tr (Fm_wI (by unfold I9m; rw [show Nat.beq 106 106 = true from rfl, show Nat.blt k 7 = true from Nat.ble_eq.mpr (by omega)]; exact Bool.or_true _)) q1) h.2.1 q2)
    · have e : oddsF N (nI k) (nI u) l = NOl := by unfold oddsF; rw [ha]; dsimp only; rw [if_neg hl]
      rw [e] at hQ
      rw [if_pos (askY_l hl)]
      simp only [z_X9_odds_10, z_X9_odds_13, true_and, Option.toList_some, Option.toList_none, List.cons_append, List.nil_append, is2IT, is2RT, if_true, if_false]
      exact hQ σ Fm_rf
def bothF (N : Net) (n v o w l : Int32) : Int64 := match askP N n v with
  | none => NOl
  | some (k, u) => match askP N o w with
    | none => NOl
    | some (j, x) => if 0 ≤ l ∧ l < nI 2 then (if k = j ∧ ¬ u = x then (if WT N no1 = 0 then -3 else l.toInt64) else oddS (WT N (mu2 k u j x)) (WT N no1) l) else NOl
theorem m_both {d : Nat} {Q : Option PV → St → Prop} {σ : St} {N : Net} {n v o w l : Int32} (h : RQ σ N) (hQ : ∀ σ', Sc σ σ' → Q (some (vL (bothF N n v o w l))) σ') : Ca (d + 16) 172 [vR 97 9, vI n, vI v, vI o, vI w, vI l] σ Q := by
  have hM := h.1
  have h7 := MI_7 hM
  rw [ca_at (K := kX9_both) (ls := [vR 97 9, vI n, vI v, vI o, vI w, vI l, vU, vU]) rfl rfl rfl]
  simp (disch := first | exact is2I | exact is2R | omega) only [z_X9_both_0, z_X9_both_1, z_X9_both_2, z_X9_both_3, z_X9_both_5, z_X9_both_8, z_X9_both_11, z_X9_both_12, z_X9_both_13, z_X9_both_15, z_X9_both_17, z_X9_both_20, m_isAsked hM, b2_0, true_and, Option.toList_some, Option.toList_none, List.cons_append, List.nil_append, is2IT, is2RT, if_true, if_false]
  have no : bothF N n v o w l = NOl → At (d + 15) kX9_both 23 [vR 97 9, vI n, vI v, vI o, vI w, vI l, vU, vU] [] σ Q := fun e => by
    rw [e] at hQ
    simp only [z_X9_both_23, z_X9_both_26, true_and, Option.toList_some, Option.toList_none, List.cons_append, List.nil_append, is2IT, is2RT, if_true, if_false]
    exact hQ σ Fm_rf
  cases ha : askP N n v with
  | none =>
    rw [if_pos (askY_n ha)]
    exact no (by unfold bothF; rw [ha])
  | some p =>
    obtain ⟨k, u⟩ := p
    obtain ⟨hk, hu, rfl, rfl⟩ := (askP_some hM.2.2).mp ha
    have nn : ¬ (some (k, u) = none) := fun q => by cases q
    by_cases hl : 0 ≤ l ∧ l < nI 2
    · rw [if_neg (fun q => q (askY_y ha hl))]
      cases hb : askP N o w with
      | none =>
        rw [if_pos (askY_n hb)]
        exact no (by unfold bothF; rw [ha]; dsimp only; rw [hb])
      | some p2 =>
        obtain ⟨j, x⟩ := p2
        obtain ⟨hj, hx, rfl, rfl⟩ := (askP_some hM.2.2).mp hb
        have nn2 : ¬ (some (j, x) = none) := fun q => by cases q
        have hs := NV_s hM hk
        have hs2 := NV_s hM hj
        rw [if_neg (fun q => q (askY_y hb hl))]
        have e : bothF N (nI k) (nI u) (nI j) (nI x) l = if k = j ∧ ¬ u = x then (if WT N no1 = 0 then -3 else l.toInt64) else oddS (WT N (mu2 k u j x)) (WT N no1) l := by unfold bothF; rw [ha]; dsimp only; rw [hb]; dsimp only; rw [if_pos hl]
        rw [e] at hQ
        have main : ¬ (k = j ∧ ¬ u = x) → At (d + 15) kX9_both 61 [vR 97 9, vI (nI k), vI (nI u), vI (nI j), vI (nI x), vI l, vU, vU] [] σ Q := fun c => by
          rw [if_neg c] at hQ
          simp (disch := first | exact is2I | exact is2R | omega) only [z_X9_both_61, z_X9_both_62, z_X9_both_65, z_X9_both_66, z_X9_both_67, z_X9_both_68, z_X9_both_69, z_X9_both_72, z_X9_both_73, z_X9_both_75, z_X9_both_76, z_X9_both_77, z_X9_both_79, mf_r1 hM.1, mf_r2 hM.1, mf_r3 hM.1, mf_r5 hM.1, mf_r10 hM.1, mf_r11 hM.1, mf_r13 hM.1, mf_r15 hM.1, mf_r16 hM.1, mf_r19 hM.1, mf_r21 hM.1, mf_r22 hM.1, mf_r23 hM.1, mf_r24 hM.1, mf_r25 hM.1, mf_r26 hM.1, mf_r27 hM.1, mf_r29 hM.1, mf_r30 hM.1, mf_r31 hM.1, mf_r32 hM.1, mf_s98 hM.1, mf_s99 hM.1, mf_s100 hM.1, mf_s101 hM.1, mf_s102 hM.1, mf_s103 hM.1, mf_s104 hM.1, mf_s105 hM.1, mf_s106 hM.1, mf_s107 hM.1, mf_s108 hM.1, mf_s109 hM.1, mf_s110 hM.1, mf_s111 hM.1, mf_s112 hM.1, mf_s113 hM.1, mf_s114 hM.1, mf_s115 hM.1, mf_s116 hM.1, mf_s117 hM.1, mf_s118 hM.1, rR_wI, sh_wI, kIn, kCl, true_and, Option.toList_some, Option.toList_none, List.cons_append, List.nil_append, is2IT, is2RT, if_true, if_false]
          refine m_oddsNow (mu := mu2 k u j x) (mu2_3 hM.2.2 hk hu hj hx) (MI_wI (MI_wI hM (by decide)) (by decide)) (fun i hi => ?_) h.2.2 (fun σ' q1 q2 => ?_)
          · rw [rI_wI, rI_wI]
            unfold mu2
            by_cases c1 : i = j
            · rw [if_pos ⟨rfl, c1⟩, if_pos c1]; rfl
            · rw [if_neg (fun q => c1 q.2), if_neg c1]
              by_cases c2 : i = k
              · rw [if_pos ⟨rfl, c2⟩, if_pos c2]; rfl
              · rw [if_neg (fun q => c2 q.2), if_neg c2]; exact h.2.1 i hi
          · simp only [z_X9_both_82, true_and, Option.toList_some, Option.toList_none, List.cons_append, List.nil_append, is2IT, is2RT, if_true, if_false]
            have im : ∀ y, y < 7 → I9m 106 y = true := fun y hy => by unfold I9m; rw [show Nat.beq 106 106 = true from rfl, show Nat.blt y 7 = true from Nat.ble_eq.mpr (by omega)]; exact Bool.or_true _
            exact hQ σ' (Sc_of (Fm_tr (Fm_tr (Fm_wI (im k (by omega))) (Fm_wI (im j (by omega)))) q1) h.2.1 q2)
        simp (disch := first | exact is2I | exact is2R | omega) only [z_X9_both_27, z_X9_both_28, z_X9_both_29, z_X9_both_32, z_X9_both_33, z_X9_both_35, kEq, true_and, Option.toList_some, Option.toList_none, List.cons_append, List.nil_append, is2IT, is2RT, if_true, if_false]
        by_cases c1 : k = j
        · rw [if_pos c1]
          by_cases c2 : u = x
          · rw [if_pos c2]; exact main (fun q => q.2 c2)
          · rw [if_neg c2]
            rw [if_pos ⟨c1, c2⟩] at hQ
            simp only [z_X9_both_38, z_X9_both_39, true_and, Option.toList_some, Option.toList_none, List.cons_append, List.nil_append, is2IT, is2RT, if_true, if_false]
            refine m_all0 h (fun σ' q => ?_)
            have b63 := WT_63 hM.2.2 (mu := no1)
            have e0 : (lN (WT N no1) = 0) = (WT N no1 = 0) := propext (pk_lEQ (b := 0) b63 (by decide))
            have fin := hQ σ' q
            simp only [z_X9_both_42, z_X9_both_44, z_X9_both_46, z_X9_both_47, z_X9_both_48, z_X9_both_51, z_X9_both_54, z_X9_both_57, z_X9_both_59, z_X9_both_60, lg_cmp_eq, e0, true_and, Option.toList_some, Option.toList_none, List.cons_append, List.nil_append, is2IT, is2RT, if_true, if_false]
            by_cases c3 : WT N no1 = 0
            · rw [if_pos c3] at fin ⊢; exact fin
            · rw [if_neg c3] at fin ⊢; exact fin
        · rw [if_neg c1]; exact main (fun q => c1 q.1)
    · rw [if_pos (askY_l hl)]
      refine no ?_
      unfold bothF
      rw [ha]
      dsimp only
      split
      · rfl
      · rw [if_neg hl]
