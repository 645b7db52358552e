/-! ===== all worlds gone through ===== -/
theorem facW_eq {N : Net} (h : NV N) {k : Nat} (hk : k < nM N) {ω ω' : Wd} (e : ∀ i, i < k → ω' i = ω i) (v : Nat) : facW N ω' k v = facW N ω k v := by
  have hx : xP N ω' k = xP N ω k := by
    unfold xP
    cases q : nP N k with
    | none => rfl
    | some p => exact e p ((h.2 k hk).2.2.1 p q)
  have hy : yQ N ω' k = yQ N ω k := by
    unfold yQ
    cases q : nQ N k with
    | none => rfl
    | some p => exact e p ((h.2 k hk).2.2.2.1 p q).1
  unfold facW numW
  rw [hx, hy]
theorem m_numberNow {d : Nat} {Q : Option PV → St → Prop} {σ : St} {N : Net} {ω : Wd} {k v : Nat} (h : MI σ N) (hk : k < nM N) (hv : v < 3) (hw : Wld σ 105 N ω k) : Ca (d + 4) 160 [vR 97 9, vI (nI k), vI (nI v)] σ Q ↔ Q (some (vI (nI (numW N ω k v)))) σ := by
  rw [ca_at (K := kX9_numberNow) (ls := [vR 97 9, vI (nI k), vI (nI v)]) rfl rfl rfl]
  unfold numW
  cases e : nD N k with
  | none => simp (disch := first | exact is2I | exact is2R | omega) only [z_X9_numberNow_0, z_X9_numberNow_1, z_X9_numberNow_2, z_X9_numberNow_3, z_X9_numberNow_6, z_X9_numberNow_7, z_X9_numberNow_10, z_X9_numberNow_11, z_X9_numberNow_12, z_X9_numberNow_13, z_X9_numberNow_16, z_X9_numberNow_19, z_X9_numberNow_20, z_X9_numberNow_21, z_X9_numberNow_22, z_X9_numberNow_25, z_X9_numberNow_26, z_X9_numberNow_29, z_X9_numberNow_31, z_X9_numberNow_34, z_X9_numberNow_35, i_is5 h hk, e, oI_nn, m_numberOf h hk hv hw, true_and, Option.toList_some, Option.toList_none, List.cons_append, List.nil_append, is2IT, is2RT, if_true, if_false]
  | some u =>
    have hs := NV_s h hk
    have hu := (h.2.2.2 k hk).2.2.2.2.2.2.1 u e
    simp (disch := first | exact is2I | exact is2R | omega) only [z_X9_numberNow_0, z_X9_numberNow_1, z_X9_numberNow_2, z_X9_numberNow_3, z_X9_numberNow_6, z_X9_numberNow_7, z_X9_numberNow_10, z_X9_numberNow_11, z_X9_numberNow_12, z_X9_numberNow_13, z_X9_numberNow_16, z_X9_numberNow_19, z_X9_numberNow_20, z_X9_numberNow_21, z_X9_numberNow_22, z_X9_numberNow_25, z_X9_numberNow_26, z_X9_numberNow_29, z_X9_numberNow_31, z_X9_numberNow_34, z_X9_numberNow_35, i_is5 h hk, e, oI_ss, kM1, kEq, true_and, Option.toList_some, Option.toList_none, List.cons_append, List.nil_append, is2IT, is2RT, if_true, if_false]
    by_cases c : u = v
    · rw [if_pos c, if_pos c.symm]; rfl
    · rw [if_neg c, if_neg (fun q => c q.symm)]; rfl
theorem m_factor {D : Nat} (hD : 5 ≤ D) {Q : Option PV → St → Prop} {σ : St} {N : Net} {ω : Wd} {k v : Nat} (h : MI σ N) (hk : k < nM N) (hv : v < 3) (hw : Wld σ 105 N ω k) : Ca D 161 [vR 97 9, vI (nI k), vI (nI v)] σ Q ↔ Q (some (vL (lN (facW N ω k v)))) σ := by
  obtain ⟨d, rfl⟩ : ∃ d, D = d + 5 := ⟨D - 5, by omega⟩
  have n12 := numW_12 h.2.2 hk (fun i hi => (hw i hi).2) hv
  have h9 := NV_h h hk hv
  rw [ca_at (K := kX9_factor) (ls := [vR 97 9, vI (nI k), vI (nI v)]) rfl rfl rfl]
  unfold facW
  have body : At (d + 4) kX9_factor 24 [vR 97 9, vI (nI k), vI (nI v)] [] σ Q ↔ Q (some (vL (lN (numW N ω k v * nH N k v)))) σ := by
    simp (disch := first | exact is2I | exact is2R | omega) only [z_X9_factor_0, z_X9_factor_1, z_X9_factor_2, z_X9_factor_3, z_X9_factor_6, z_X9_factor_7, z_X9_factor_10, z_X9_factor_11, z_X9_factor_12, z_X9_factor_13, z_X9_factor_16, z_X9_factor_17, z_X9_factor_20, z_X9_factor_21, z_X9_factor_24, z_X9_factor_25, z_X9_factor_26, z_X9_factor_27, z_X9_factor_30, z_X9_factor_31, z_X9_factor_32, z_X9_factor_33, z_X9_factor_35, z_X9_factor_36, z_X9_factor_37, z_X9_factor_40, z_X9_factor_41, z_X9_factor_42, m_numberNow h hk hv hw, kLA, i_isH h hk hv, nI_l, lN_mul, true_and, Option.toList_some, Option.toList_none, List.cons_append, List.nil_append, is2IT, is2RT, if_true, if_false]
  cases e : nF1 N k with
  | none =>
    simp (disch := first | exact is2I | exact is2R | omega) only [z_X9_factor_0, z_X9_factor_1, z_X9_factor_2, z_X9_factor_3, z_X9_factor_6, z_X9_factor_7, z_X9_factor_10, z_X9_factor_11, z_X9_factor_12, z_X9_factor_13, z_X9_factor_16, z_X9_factor_17, z_X9_factor_20, z_X9_factor_21, i_is4 h hk, e, oI_nn, body, true_and, Option.toList_some, Option.toList_none, List.cons_append, List.nil_append, is2IT, is2RT, if_true, if_false]
  | some u =>
    have hs := NV_s h hk
    have hu := (h.2.2.2 k hk).2.2.2.2.2.1 u e
    simp (disch := first | exact is2I | exact is2R | omega) only [z_X9_factor_0, z_X9_factor_1, z_X9_factor_2, z_X9_factor_3, z_X9_factor_6, z_X9_factor_7, z_X9_factor_10, z_X9_factor_11, z_X9_factor_12, z_X9_factor_13, z_X9_factor_16, z_X9_factor_17, z_X9_factor_20, z_X9_factor_21, i_is4 h hk, e, oI_ss, kM1, kEq, body, true_and, Option.toList_some, Option.toList_none, List.cons_append, List.nil_append, is2IT, is2RT, if_true, if_false]
    by_cases c : u = v
    · rw [if_pos c, if_pos c.symm]
    · rw [if_neg c, if_neg (fun q => c q.symm)]
      simp only [z_X9_factor_20, z_X9_factor_21, z_X9_factor_24, z_X9_factor_25, z_X9_factor_26, z_X9_factor_27, z_X9_factor_30, z_X9_factor_31, z_X9_factor_32, z_X9_factor_33, z_X9_factor_35, z_X9_factor_36, z_X9_factor_37, z_X9_factor_40, z_X9_factor_41, z_X9_factor_42, true_and, Option.toList_some, Option.toList_none, List.cons_append, List.nil_append, is2IT, is2RT, if_true, if_false]
      exact Iff.rfl
def oV (o : Option Nat) (v : Nat) : Bool := decide (o = none ∨ o = some v)
/-- the worlds gone through, from node k on, f nodes left, with their weights -/
def lvs (N : Net) (mu : Nat → Option Nat) : Nat → Nat → Wd → Nat → List (Wd × Nat)
  | 0, _, ω, w => if w = 0 then [] else [(ω, w)]
  | f + 1, k, ω, w => if w = 0 then [] else (List.range' 0 (nS N k)).flatMap fun v => if oV (mu k) v = true then lvs N mu f (k + 1) (up ω k v) (w * facW N ω k v) else []
/-- sum, greatest, likeliest, by twos -/
abbrev Acc : Type := Nat × Nat × Wd × (Nat → Nat)
def std (m : Nat) (ask : Option Nat) (A : Acc) (e : Wd × Nat) : Acc := (A.1 + e.2, if A.2.1 < e.2 then e.2 else A.2.1, if A.2.1 < e.2 then e.1 else A.2.2.1, match ask with
  | none => A.2.2.2
  | some a => fun i => if i / 9 < m ∧ i % 9 = 3 * e.1 (i / 9) + e.1 a then A.2.2.2 i + e.2 else A.2.2.2 i)
def B7 : Nat := 108 ^ 7
theorem B7_63 : B7 < 2 ^ 63 := by decide
def RA (σ : St) (m : Nat) (ask : Option Nat) (A : Acc) : Prop := rL σ 97 17 = lN A.1 ∧ rL σ 97 18 = lN A.2.1 ∧ A.2.1 ≤ B7 ∧ (0 < A.2.1 → ∀ i, i < m → rI σ 107 i = nI (A.2.2.1 i)) ∧ ∀ a, ask = some a → ∀ i, i < 63 → rL σ 108 i = lN (A.2.2.2 i)
def Iw (a _i : Nat) : Bool := decide (a = 105 ∨ a = 107)
def Lw (a : Nat) : Bool := decide (a = 97 ∨ a = 108)
/-- by twos: j nodes are done -/
def fT (σ : St) (ω : Wd) (a : Nat) (w : Int64) (j : Nat) : St := (σ.1, fun x i => if x = 108 ∧ i / 9 < j ∧ i % 9 = 3 * ω (i / 9) + ω a then rL σ x i + w else rL σ x i, σ.2.2)
theorem fT_0 {σ : St} {ω : Wd} {a : Nat} {w : Int64} : fT σ ω a w 0 = σ := by
  have e : (fun x i => if x = 108 ∧ i / 9 < 0 ∧ i % 9 = 3 * ω (i / 9) + ω a then rL σ x i + w else rL σ x i) = σ.2.1 := funext fun x => funext fun i => if_neg (fun q => absurd q.2.1 (Nat.not_lt_zero _))
  show (σ.1, (fun x i => if x = 108 ∧ i / 9 < 0 ∧ i % 9 = 3 * ω (i / 9) + ω a then rL σ x i + w else rL σ x i), σ.2.2) = σ
  rw [e]
theorem fT_s {σ : St} {ω : Wd} {a : Nat} {w : Int64} {j : Nat} (h : 3 * ω j + ω a < 9) : wL (fT σ ω a w j) 108 (9 * j + (3 * ω j + ω a)) (rL (fT σ ω a w j) 108 (9 * j + (3 * ω j + ω a)) + w) = fT σ ω a w (j + 1) := by
  have hr : rL (fT σ ω a w j) 108 (9 * j + (3 * ω j + ω a)) = rL σ 108 (9 * j + (3 * ω j + ω a)) := by
    show (if _ then _ else _) = _
    rw [if_neg (fun q => by have := q.2.1; omega)]
  have e : (fun x i => if x = 108 ∧ i = 9 * j + (3 * ω j + ω a) then rL σ 108 (9 * j + (3 * ω j + ω a)) + w else (if x = 108 ∧ i / 9 < j ∧ i % 9 = 3 * ω (i / 9) + ω a then rL σ x i + w else rL σ x i)) = (fun x i => if x = 108 ∧ i / 9 < j + 1 ∧ i % 9 = 3 * ω (i / 9) + ω a then rL σ x i + w else rL σ x i) := funext fun x => funext fun i => by
    by_cases h1 : x = 108 ∧ i = 9 * j + (3 * ω j + ω a)
    · obtain ⟨rfl, rfl⟩ := h1
      have e1 : (9 * j + (3 * ω j + ω a)) / 9 = j := by omega
      rw [if_pos ⟨rfl, rfl⟩, if_pos ⟨rfl, by omega, by rw [e1]; omega⟩]
    · rw [if_neg h1]
      by_cases h2 : x = 108 ∧ i / 9 < j ∧ i % 9 = 3 * ω (i / 9) + ω a
      · rw [if_pos h2, if_pos ⟨h2.1, by omega, h2.2.2⟩]
      · rw [if_neg h2, if_neg (fun q => by
          by_cases e2 : i / 9 = j
          · have q3 := q.2.2
            rw [e2] at q3
            exact h1 ⟨q.1, by omega⟩
          · exact h2 ⟨q.1, by omega, q.2.2⟩)]
  rw [hr]
  show ((fT σ ω a w j).1, (fun x i => if x = 108 ∧ i = 9 * j + (3 * ω j + ω a) then rL σ 108 (9 * j + (3 * ω j + ω a)) + w else (if x = 108 ∧ i / 9 < j ∧ i % 9 = 3 * ω (i / 9) + ω a then rL σ x i + w else rL σ x i)), (fT σ ω a w j).2.2) = _
  rw [e]
  rfl
theorem MI_fT {σ : St} {N : Net} {ω : Wd} {a j : Nat} {w : Int64} (h : MI σ N) : MI (fT σ ω a w j) N := h
theorem rI_fT {σ : St} {ω : Wd} {a j x i : Nat} {w : Int64} : rI (fT σ ω a w j) x i = rI σ x i := rfl
theorem rL_fT {σ : St} {ω : Wd} {a j x i : Nat} {w : Int64} : rL (fT σ ω a w j) x i = if x = 108 ∧ i / 9 < j ∧ i % 9 = 3 * ω (i / 9) + ω a then rL σ x i + w else rL σ x i := rfl
theorem fI_s0 {σ : St} {k n : Nat} {f : Nat → Int32} {x : Int32} (hx : x = f n) : wI (fI σ k 0 n f) k n x = fI σ k 0 (n + 1) f := by
  have := fI_s (σ := σ) (k := k) (b := 0) (n := n) hx
  rw [Nat.zero_add] at this
  exact this
theorem std_l1 {d : Nat} {Q : Option PV → St → Prop} {σ : St} {N : Net} {w : PV} (h : MI σ N) : ∀ f n, n + f = nM N → (At (d + 1) kX9_stands 26 [vR 97 9, w, vU, vI (nI n)] [] (fI σ 107 0 n (rI σ 105)) Q ↔ At (d + 1) kX9_stands 52 [vR 97 9, w, vU, vI (nI (nM N))] [] (fI σ 107 0 (nM N) (rI σ 105)) Q)
  | 0, n, hn => by
    have h7 := MI_7 h
    have : n = nM N := by omega
    subst this
    simp (disch := first | exact is2I | exact is2R | omega) only [z_X9_stands_26, z_X9_stands_27, z_X9_stands_28, z_X9_stands_31, i_many (MI_fI h (show 107 ≠ 98 by decide)), kLe, Nat.le_refl, true_and, Option.toList_some, Option.toList_none, List.cons_append, List.nil_append, is2IT, is2RT, if_true, if_false]
  | f + 1, n, hn => by
    have h7 := MI_7 h
    have hF := MI_f h
    have hF2 : MF (fI σ 107 0 n (rI σ 105)) := MF_of hF (fun _ _ => rfl) rfl
    have c : ¬ (nM N ≤ n) := by omega
    simp (disch := first | exact is2I | exact is2R | omega) only [z_X9_stands_26, z_X9_stands_27, z_X9_stands_28, z_X9_stands_31, z_X9_stands_34, z_X9_stands_35, z_X9_stands_38, z_X9_stands_39, z_X9_stands_40, z_X9_stands_43, z_X9_stands_44, z_X9_stands_45, z_X9_stands_46, i_many (MI_fI h (show 107 ≠ 98 by decide)), mf_r1 hF2, mf_r2 hF2, mf_r3 hF2, mf_r5 hF2, mf_r10 hF2, mf_r11 hF2, mf_r13 hF2, mf_r15 hF2, mf_r16 hF2, mf_r19 hF2, mf_r21 hF2, mf_r22 hF2, mf_r23 hF2, mf_r24 hF2, mf_r25 hF2, mf_r26 hF2, mf_r27 hF2, mf_r29 hF2, mf_r30 hF2, mf_r31 hF2, mf_r32 hF2, mf_s98 hF2, mf_s99 hF2, mf_s100 hF2, mf_s101 hF2, mf_s102 hF2, mf_s103 hF2, mf_s104 hF2, mf_s105 hF2, mf_s106 hF2, mf_s107 hF2, mf_s108 hF2, mf_s109 hF2, mf_s110 hF2, mf_s111 hF2, mf_s112 hF2, mf_s113 hF2, mf_s114 hF2, mf_s115 hF2, mf_s116 hF2, mf_s117 hF2, mf_s118 hF2, kLe, c, kIn, kCl, kAL, true_and, Option.toList_some, Option.toList_none, List.cons_append, List.nil_append, is2IT, is2RT, if_true, if_false]
    rw [z_X9_stands_49, fI_s0 (f := rI σ 105) (by rw [rI_fI_n (by decide)]), std_l1 h f (n + 1) (by omega)]
theorem std_l2 {d a : Nat} {Q : Option PV → St → Prop} {σ : St} {N : Net} {ω : Wd} {w : Int64} (h : MI σ N) (hw : Wld σ 105 N ω (nM N)) (ha : a < nM N) (hk : rI σ 97 20 = nI a) : ∀ f n, n + f = nM N → (At (d + 1) kX9_stands 54 [vR 97 9, vL w, vU, vI (nI n)] [] (fT σ ω a w n) Q ↔ Q none (fT σ ω a w (nM N)))
  | 0, n, hn => by
    have h7 := MI_7 h
    have : n = nM N := by omega
    subst this
    simp (disch := first | exact is2I | exact is2R | omega) only [z_X9_stands_54, z_X9_stands_55, z_X9_stands_56, z_X9_stands_59, z_X9_stands_62, z_X9_stands_63, z_X9_stands_66, z_X9_stands_67, z_X9_stands_70, z_X9_stands_71, z_X9_stands_74, z_X9_stands_76, z_X9_stands_77, z_X9_stands_78, z_X9_stands_79, z_X9_stands_80, z_X9_stands_83, z_X9_stands_84, z_X9_stands_85, z_X9_stands_86, z_X9_stands_87, z_X9_stands_88, z_X9_stands_91, z_X9_stands_92, z_X9_stands_95, z_X9_stands_96, z_X9_stands_97, z_X9_stands_98, z_X9_stands_99, z_X9_stands_100, z_X9_stands_101, z_X9_stands_102, z_X9_stands_105, z_X9_stands_108, i_many (MI_fT h), kLe, Nat.le_refl, true_and, Option.toList_some, Option.toList_none, List.cons_append, List.nil_append, is2IT, is2RT, if_true, if_false]
  | f + 1, n, hn => by
    have h7 := MI_7 h
    have hF := MI_f h
    have hF2 : MF (fT σ ω a w n) := hF
    have c : ¬ (nM N ≤ n) := by omega
    obtain ⟨w1, w2⟩ := hw n (by omega)
    obtain ⟨w3, w4⟩ := hw a ha
    have s1 := NV_s h (show n < nM N by omega)
    have s2 := NV_s h ha
    simp (disch := first | exact is2I | exact is2R | omega) only [z_X9_stands_54, z_X9_stands_55, z_X9_stands_56, z_X9_stands_59, z_X9_stands_62, z_X9_stands_63, z_X9_stands_66, z_X9_stands_67, z_X9_stands_70, z_X9_stands_71, z_X9_stands_74, z_X9_stands_76, z_X9_stands_77, z_X9_stands_78, z_X9_stands_79, z_X9_stands_80, z_X9_stands_83, z_X9_stands_84, z_X9_stands_85, z_X9_stands_86, z_X9_stands_87, z_X9_stands_88, z_X9_stands_91, z_X9_stands_92, z_X9_stands_95, z_X9_stands_96, z_X9_stands_97, z_X9_stands_98, z_X9_stands_99, z_X9_stands_100, z_X9_stands_101, z_X9_stands_102, i_many (MI_fT h), mf_r1 hF2, mf_r2 hF2, mf_r3 hF2, mf_r5 hF2, mf_r10 hF2, mf_r11 hF2, mf_r13 hF2, mf_r15 hF2, mf_r16 hF2, mf_r19 hF2, mf_r21 hF2, mf_r22 hF2, mf_r23 hF2, mf_r24 hF2, mf_r25 hF2, mf_r26 hF2, mf_r27 hF2, mf_r29 hF2, mf_r30 hF2, mf_r31 hF2, mf_r32 hF2, mf_s98 hF2, mf_s99 hF2, mf_s100 hF2, mf_s101 hF2, mf_s102 hF2, mf_s103 hF2, mf_s104 hF2, mf_s105 hF2, mf_s106 hF2, mf_s107 hF2, mf_s108 hF2, mf_s109 hF2, mf_s110 hF2, mf_s111 hF2, mf_s112 hF2, mf_s113 hF2, mf_s114 hF2, mf_s115 hF2, mf_s116 hF2, mf_s117 hF2, mf_s118 hF2, kLe, c, kIn, kCl, kAL, kLM, nI_add, rI_fT, hk, kM1, w1, w3, true_and, Option.toList_some, Option.toList_none, List.cons_append, List.nil_append, is2IT, is2RT, if_true, if_false]
    rw [z_X9_stands_105, show 9 * n + 3 * ω n + ω a = 9 * n + (3 * ω n + ω a) by omega, fT_s (by omega), std_l2 h hw ha hk f (n + 1) (by omega)]
theorem m_stands {d : Nat} {Q : Option PV → St → Prop} {σ : St} {N : Net} {ω : Wd} {A : Acc} {ask : Option Nat} {w : Nat} (h : MI σ N) (hw : Wld σ 105 N ω (nM N)) (hk : rI σ 97 20 = oI ask) (ha : ∀ a, ask = some a → a < nM N) (hA : RA σ (nM N) ask A) (hB : w ≤ B7)
    (hQ : ∀ σ', Fm Iw Lw σ σ' → RA σ' (nM N) ask (std (nM N) ask A (ω, w)) → (∀ i, rI σ' 105 i = rI σ 105 i) → Q none σ') : Ca (d + 2) 162 [vR 97 9, vL (lN w)] σ Q := by
  have h7 := MI_7 h
  have hF := MI_f h
  obtain ⟨a1, a2, a3, a4, a5⟩ := hA
  have b63 := B7_63
  rw [ca_at (K := kX9_stands) (ls := [vR 97 9, vL (lN w), vU, vU]) rfl rfl rfl]
  have tail : ∀ σ1 : St, MI σ1 N → (∀ x, x ≠ 107 → rI σ1 x = rI σ x) → rL σ1 108 = rL σ 108 → rL σ1 97 17 = lN (A.1 + w) → rL σ1 97 18 = lN (if A.2.1 < w then w else A.2.1) → (0 < (if A.2.1 < w then w else A.2.1) → ∀ i, i < nM N → rI σ1 107 i = nI ((if A.2.1 < w then ω else A.2.2.1) i)) → Fm Iw Lw σ σ1 → ∀ l, is2 l = false → At (d + 1) kX9_stands 52 [vR 97 9, vL (lN w), vU, l] [] σ1 Q := by
    intro σ1 m1 e1 e2 e3 e4 e5 e6 l hl
    have hbest : (if A.2.1 < w then w else A.2.1) ≤ B7 := by split <;> omega
    rw [z_X9_stands_52, z_X9_stands_53 rfl]
    have k1 : rI σ1 97 20 = oI ask := by rw [e1 97 (by decide)]; exact hk
    cases ask with
    | none =>
      have hF1 := MI_f m1
      rw [oI_nn] at k1
      have fin : Q none σ1 := hQ σ1 e6 ⟨e3, e4, hbest, e5, fun a q => by cases q⟩ (fun i => by rw [e1 105 (by decide)])
      simp (disch := first | exact is2I | exact is2R | omega) only [z_X9_stands_54, z_X9_stands_55, z_X9_stands_56, z_X9_stands_59, z_X9_stands_62, z_X9_stands_63, z_X9_stands_66, z_X9_stands_67, i_many m1, mf_r1 hF1, mf_r2 hF1, mf_r3 hF1, mf_r5 hF1, mf_r10 hF1, mf_r11 hF1, mf_r13 hF1, mf_r15 hF1, mf_r16 hF1, mf_r19 hF1, mf_r21 hF1, mf_r22 hF1, mf_r23 hF1, mf_r24 hF1, mf_r25 hF1, mf_r26 hF1, mf_r27 hF1, mf_r29 hF1, mf_r30 hF1, mf_r31 hF1, mf_r32 hF1, mf_s98 hF1, mf_s99 hF1, mf_s100 hF1, mf_s101 hF1, mf_s102 hF1, mf_s103 hF1, mf_s104 hF1, mf_s105 hF1, mf_s106 hF1, mf_s107 hF1, mf_s108 hF1, mf_s109 hF1, mf_s110 hF1, mf_s111 hF1, mf_s112 hF1, mf_s113 hF1, mf_s114 hF1, mf_s115 hF1, mf_s116 hF1, mf_s117 hF1, mf_s118 hF1, kLe, k1, true_and, Option.toList_some, Option.toList_none, List.cons_append, List.nil_append, is2IT, is2RT, if_true, if_false]
      split
      · simp only [z_X9_stands_108, true_and, Option.toList_some, Option.toList_none, List.cons_append, List.nil_append, is2IT, is2RT, if_true, if_false]; exact fin
      · simp only [z_X9_stands_108, true_and, Option.toList_some, Option.toList_none, List.cons_append, List.nil_append, is2IT, is2RT, if_true, if_false]; exact fin
    | some a =>
      have ha1 := ha a rfl
      rw [oI_ss] at k1
      have hw1 : Wld σ1 105 N ω (nM N) := fun i hi => by rw [e1 105 (by decide)]; exact hw i hi
      have l2 := @std_l2 d a Q σ1 N ω (lN w) m1 hw1 ha1 k1 (nM N) 0 (by omega)
      rw [fT_0] at l2
      refine l2.mpr (hQ _ ?_ ⟨?_, ?_, hbest, e5, ?_⟩ (fun i => by rw [rI_fT, e1 105 (by decide)]))
      · refine Fm_tr e6 ⟨fun _ _ _ => rfl, fun x i q => ?_, fun _ _ => rfl, rfl, rfl⟩
        rw [rL_fT, if_neg (fun z => by rw [z.1] at q; cases q)]
      · rw [rL_fT, if_neg (fun z => absurd z.1 (by decide))]; exact e3
      · rw [rL_fT, if_neg (fun z => absurd z.1 (by decide))]; exact e4
      · intro b hb i hi
        cases hb
        rw [rL_fT, e2]
        show (if 108 = 108 ∧ i / 9 < nM N ∧ i % 9 = 3 * ω (i / 9) + ω a then _ else _) = lN (if i / 9 < nM N ∧ i % 9 = 3 * ω (i / 9) + ω a then A.2.2.2 i + w else A.2.2.2 i)
        by_cases c : i / 9 < nM N ∧ i % 9 = 3 * ω (i / 9) + ω a
        · rw [if_pos ⟨rfl, c⟩, if_pos c, a5 a rfl i hi, lN_add]
        · rw [if_neg (fun q => c q.2), if_neg c, a5 a rfl i hi]
  have hc : (lN w ≤ lN A.2.1) = (w ≤ A.2.1) := propext (pk_lLE (by omega) (by omega))
  have hF2 : MF (wL σ 97 17 (lN (A.1 + w))) := hF
  have n1718 : ¬ (97 = 97 ∧ 18 = 17) := by decide
  have n18 : ¬ (18 = 17) := by decide
  simp only [z_X9_stands_0, z_X9_stands_1, z_X9_stands_2, z_X9_stands_5, z_X9_stands_6, z_X9_stands_7, z_X9_stands_10, z_X9_stands_11, z_X9_stands_12, z_X9_stands_15, z_X9_stands_16, mf_r1 hF, mf_r2 hF, mf_r3 hF, mf_r5 hF, mf_r10 hF, mf_r11 hF, mf_r13 hF, mf_r15 hF, mf_r16 hF, mf_r19 hF, mf_r21 hF, mf_r22 hF, mf_r23 hF, mf_r24 hF, mf_r25 hF, mf_r26 hF, mf_r27 hF, mf_r29 hF, mf_r30 hF, mf_r31 hF, mf_r32 hF, mf_s98 hF, mf_s99 hF, mf_s100 hF, mf_s101 hF, mf_s102 hF, mf_s103 hF, mf_s104 hF, mf_s105 hF, mf_s106 hF, mf_s107 hF, mf_s108 hF, mf_s109 hF, mf_s110 hF, mf_s111 hF, mf_s112 hF, mf_s113 hF, mf_s114 hF, mf_s115 hF, mf_s116 hF, mf_s117 hF, mf_s118 hF, mf_r1 hF2, mf_r2 hF2, mf_r3 hF2, mf_r5 hF2, mf_r10 hF2, mf_r11 hF2, mf_r13 hF2, mf_r15 hF2, mf_r16 hF2, mf_r19 hF2, mf_r21 hF2, mf_r22 hF2, mf_r23 hF2, mf_r24 hF2, mf_r25 hF2, mf_r26 hF2, mf_r27 hF2, mf_r29 hF2, mf_r30 hF2, mf_r31 hF2, mf_r32 hF2, mf_s98 hF2, mf_s99 hF2, mf_s100 hF2, mf_s101 hF2, mf_s102 hF2, mf_s103 hF2, mf_s104 hF2, mf_s105 hF2, mf_s106 hF2, mf_s107 hF2, mf_s108 hF2, mf_s109 hF2, mf_s110 hF2, mf_s111 hF2, mf_s112 hF2, mf_s113 hF2, mf_s114 hF2, mf_s115 hF2, mf_s116 hF2, mf_s117 hF2, mf_s118 hF2, lg_cmp_le, rL_wL, rI_wL, a1, a2, lN_add, n18, hc, true_and, Option.toList_some, Option.toList_none, List.cons_append, List.nil_append, is2IT, is2RT, if_true, if_false]
  by_cases c : w ≤ A.2.1
  · have c2 : ¬ A.2.1 < w := by omega
    rw [if_pos c]
    refine tail (wL σ 97 17 (lN (A.1 + w))) h (fun x _ => rfl) (funext fun i => by rw [rL_wL, if_neg (fun q => absurd q.1 (by decide))]) (by rw [rL_wL, if_pos ⟨rfl, rfl⟩]) (by rw [rL_wL, if_neg n1718, if_neg c2]; exact a2) (fun q i hi => ?_) (Fm_wL rfl) vU rfl
    rw [if_neg c2] at q ⊢
    exact a4 q i hi
  · have c2 : A.2.1 < w := by omega
    rw [if_neg c]
    simp only [z_X9_stands_19, z_X9_stands_20, z_X9_stands_21, z_X9_stands_24, z_X9_stands_25, true_and, Option.toList_some, Option.toList_none, List.cons_append, List.nil_append, is2IT, is2RT, if_true, if_false]
    have h0 : MI (wL (wL σ 97 17 (lN (A.1 + w))) 97 18 (lN w)) N := h
    have l1 := @std_l1 d Q _ N (vL (lN w)) h0 (nM N) 0 (by omega)
    rw [fI_0] at l1
    refine l1.mpr (tail _ (MI_fI h0 (by decide)) (fun x hx => by rw [rI_fI_n hx]; rfl) ?_ ?_ ?_ (fun q i hi => ?_) (Fm_tr (Fm_tr (Fm_wL rfl) (Fm_wL rfl)) (Fm_fI (fun _ _ _ => rfl))) _ rfl)
    · funext i
      show rL (wL (wL σ 97 17 (lN (A.1 + w))) 97 18 (lN w)) 108 i = _
      rw [rL_wL, if_neg (fun q => absurd q.1 (by decide)), rL_wL, if_neg (fun q => absurd q.1 (by decide))]
    · show rL (wL (wL σ 97 17 (lN (A.1 + w))) 97 18 (lN w)) 97 17 = _
      rw [rL_wL, if_neg (by decide), rL_wL, if_pos ⟨rfl, rfl⟩]
    · show rL (wL (wL σ 97 17 (lN (A.1 + w))) 97 18 (lN w)) 97 18 = _
      rw [rL_wL, if_pos ⟨rfl, rfl⟩, if_pos c2]
    · rw [rI_fI, if_pos ⟨rfl, by omega, by omega⟩, if_pos c2]
      exact (hw i hi).1
def MUST (σ : St) (mu : Nat → Option Nat) : Prop := ∀ i, i < 7 → rI σ 106 i = oI (mu i)
theorem lvs_0 {N : Net} {mu : Nat → Option Nat} {f k : Nat} {ω : Wd} : lvs N mu f k ω 0 = [] := by cases f <;> rfl
theorem pow108 {k w F : Nat} (hw : w ≤ 108 ^ k) (hF : F ≤ 108) : w * F ≤ 108 ^ (k + 1) := by
  rw [Nat.pow_succ]
  exact Nat.mul_le_mul hw hF
theorem pow_B7 {k w : Nat} (hw : w ≤ 108 ^ k) (hk : k ≤ 7) : w ≤ B7 := Nat.le_trans hw (Nat.pow_le_pow_right (by decide) hk)
set_option maxHeartbeats 1000000 in
theorem m_goes {N : Net} {mu : Nat → Option Nat} {ask : Option Nat} (hmu : ∀ i v, mu i = some v → v < 3) (ha : ∀ a, ask = some a → a < nM N) : ∀ f k, k + f = nM N → ∀ (d : Nat) (Q : Option PV → St → Prop) (σ : St) (ω : Wd) (w : Nat) (A : Acc), MI σ N → MUST σ mu → rI σ 97 20 = oI ask → Wld σ 105 N ω k → RA σ (nM N) ask A → w ≤ 108 ^ k →
    (∀ σ', Fm Iw Lw σ σ' → RA σ' (nM N) ask ((lvs N mu f k ω w).foldl (std (nM N) ask) A) → (∀ i, i < k → rI σ' 105 i = rI σ 105 i) → Q none σ') → Ca (d + f + 6) 163 [vR 97 9, vI (nI k), vL (lN w)] σ Q := by
  intro f
  induction f with
  | zero =>
    intro k hk d Q σ ω w A h hM hk0 hw hA hB hQ
    have h7 := MI_7 h
    have hkm : k = nM N := by omega
    subst hkm
    have hB7 : w ≤ B7 := pow_B7 hB (by omega)
    have b63 := B7_63
    have e0 : (lN w = 0) = (w = 0) := propext (pk_lEQ (b := 0) (by omega) (by decide))
    show Ca (d + 5 + 1) _ _ _ _
    rw [ca_at (K := kX9_goes) (ls := [vR 97 9, vI (nI (nM N)), vL (lN w), vU, vU]) rfl rfl rfl]
    simp (disch := first | exact is2I | exact is2R | omega) only [z_X9_goes_0, z_X9_goes_1, z_X9_goes_2, z_X9_goes_3, z_X9_goes_6, z_X9_goes_7, z_X9_goes_8, z_X9_goes_9, z_X9_goes_12, z_X9_goes_15, z_X9_goes_16, z_X9_goes_17, z_X9_goes_20, z_X9_goes_21, lg_cmp_eq, e0, i_many h, kEq, true_and, Option.toList_some, Option.toList_none, List.cons_append, List.nil_append, is2IT, is2RT, if_true, if_false]
    by_cases c : w = 0
    · subst c
      rw [if_pos rfl]
      refine hQ σ Fm_rf ?_ (fun _ _ => rfl)
      rw [lvs_0]; exact hA
    · rw [if_neg c]
      show Ca (d + 3 + 2) _ _ _ _
      refine m_stands h hw hk0 ha hA hB7 (fun σ' q1 q2 q3 => ?_)
      simp only [z_X9_goes_20, true_and, Option.toList_some, Option.toList_none, List.cons_append, List.nil_append, is2IT, is2RT, if_true, if_false]
      refine hQ σ' q1 ?_ (fun i _ => q3 i)
      unfold lvs
      rw [if_neg c]
      exact q2
  | succ f ih =>
    intro k hk d Q σ ω w A h hM hk0 hw hA hB hQ
    have h7 := MI_7 h
    have hkm : k < nM N := by omega
    have hs := NV_s h hkm
    have hB7 : w ≤ B7 := pow_B7 hB (by omega)
    have b63 := B7_63
    have e0 : (lN w = 0) = (w = 0) := propext (pk_lEQ (b := 0) (by omega) (by decide))
    have ck : ¬ k = nM N := by omega
    rw [show d + (f + 1) + 6 = d + f + 6 + 1 by omega]
    rw [ca_at (K := kX9_goes) (ls := [vR 97 9, vI (nI k), vL (lN w), vU, vU]) rfl rfl rfl]
    simp (disch := first | exact is2I | exact is2R | omega) only [z_X9_goes_0, z_X9_goes_1, z_X9_goes_2, z_X9_goes_3, z_X9_goes_6, z_X9_goes_7, z_X9_goes_8, z_X9_goes_9, z_X9_goes_12, z_X9_goes_15, z_X9_goes_16, z_X9_goes_17, z_X9_goes_20, z_X9_goes_21, z_X9_goes_22, lg_cmp_eq, e0, i_many h, kEq, ck, true_and, Option.toList_some, Option.toList_none, List.cons_append, List.nil_append, is2IT, is2RT, if_true, if_false]
    by_cases c : w = 0
    · subst c
      rw [if_pos rfl]
      refine hQ σ Fm_rf ?_ (fun _ _ => rfl)
      rw [lvs_0]; exact hA
    · rw [if_neg c]
      have loop : ∀ r v, v + r = nS N k → ∀ (σ1 : St) (A1 : Acc), Fm Iw Lw σ σ1 → (∀ i, i < k → rI σ1 105 i = rI σ 105 i) → RA σ1 (nM N) ask A1 →
          (∀ σ', Fm Iw Lw σ σ' → RA σ' (nM N) ask (((List.range' v r).flatMap fun v => if oV (mu k) v = true then lvs N mu f (k + 1) (up ω k v) (w * facW N ω k v) else []).foldl (std (nM N) ask) A1) → (∀ i, i < k → rI σ' 105 i = rI σ 105 i) → Q none σ') →
          At (d + f + 6) kX9_goes 24 [vR 97 9, vI (nI k), vL (lN w), vU, vI (nI v)] [] σ1 Q := by
        intro r
        induction r with
        | zero =>
          intro v hv σ1 A1 f1 f2 f3 hQ1
          have hv' : v = nS N k := by omega
          subst hv'
          have m1 : MI σ1 N := MI_fm h f1 (fun _ => rfl)
          simp (disch := first | exact is2I | exact is2R | omega) only [z_X9_goes_24, z_X9_goes_26, z_X9_goes_27, z_X9_goes_28, z_X9_goes_29, z_X9_goes_32, i_is0 m1 hkm, kLe, Nat.le_refl, true_and, Option.toList_some, Option.toList_none, List.cons_append, List.nil_append, is2IT, is2RT, if_true, if_false]
          simp only [z_X9_goes_89, true_and, Option.toList_some, Option.toList_none, List.cons_append, List.nil_append, is2IT, is2RT, if_true, if_false]
          exact hQ1 σ1 f1 f3 f2
        | succ r ihr =>
          intro v hv σ1 A1 f1 f2 f3 hQ1
          have m1 : MI σ1 N := MI_fm h f1 (fun _ => rfl)
          have hF1 := MI_f m1
          have cv : ¬ nS N k ≤ v := by omega
          have em : rI σ1 106 k = oI (mu k) := by rw [f1.1 106 k rfl]; exact hM k (by omega)
          have ev : nI v + (1 : Int32) = nI (v + 1) := nI_add v 1
          simp (disch := first | exact is2I | exact is2R | omega) only [z_X9_goes_24, z_X9_goes_26, z_X9_goes_27, z_X9_goes_28, z_X9_goes_29, z_X9_goes_32, i_is0 m1 hkm, kLe, cv, true_and, Option.toList_some, Option.toList_none, List.cons_append, List.nil_append, is2IT, is2RT, if_true, if_false]
          have next : ∀ (σ2 : St) (A2 : Acc), Fm Iw Lw σ σ2 → (∀ i, i < k → rI σ2 105 i = rI σ 105 i) → RA σ2 (nM N) ask A2 → ((List.range' (v + 1) r).flatMap fun v => if oV (mu k) v = true then lvs N mu f (k + 1) (up ω k v) (w * facW N ω k v) else []).foldl (std (nM N) ask) A2 = ((List.range' v (r + 1)).flatMap fun v => if oV (mu k) v = true then lvs N mu f (k + 1) (up ω k v) (w * facW N ω k v) else []).foldl (std (nM N) ask) A1 → At (d + f + 6) kX9_goes 83 [vR 97 9, vI (nI k), vL (lN w), vU, vI (nI v)] [] σ2 Q := by
            intro σ2 A2 g1 g2 g3 g4
            simp only [z_X9_goes_83, z_X9_goes_86, ev, true_and, Option.toList_some, Option.toList_none, List.cons_append, List.nil_append, is2IT, is2RT, if_true, if_false]
            refine ihr (v + 1) (by omega) σ2 A2 g1 g2 g3 (fun σ' q1 q2 q3 => hQ1 σ' q1 ?_ q3)
            rw [← g4]; exact q2
          have step : oV (mu k) v = true → At (d + f + 6) kX9_goes 59 [vR 97 9, vI (nI k), vL (lN w), vU, vI (nI v)] [] σ1 Q := by
            intro ho
            have hF2 : MF (wI σ1 105 k (nI v)) := hF1
            have m2 : MI (wI σ1 105 k (nI v)) N := MI_wI m1 (by decide)
            have w2 : Wld (wI σ1 105 k (nI v)) 105 N (up ω k v) (k + 1) := by
              intro i hi
              by_cases e : i = k
              · subst e
                rw [rI_wI, if_pos ⟨rfl, rfl⟩, up_s]
                exact ⟨rfl, by omega⟩
              · rw [rI_wI, if_neg (fun q => e q.2), up_n e, f2 i (by omega)]
                exact hw i (by omega)
            have w3 : Wld (wI σ1 105 k (nI v)) 105 N (up ω k v) k := fun i hi => w2 i (by omega)
            have ef : facW N (up ω k v) k v = facW N ω k v := facW_eq h.2.2 hkm (fun i hi => up_n (by omega)) v
            have hfb := facW_108 h.2.2 hkm (fun i hi => (hw i hi).2) (show v < 3 by omega)
            have ek : nI k + (1 : Int32) = nI (k + 1) := nI_add k 1
            simp (disch := first | exact is2I | exact is2R | omega) only [z_X9_goes_59, z_X9_goes_60, z_X9_goes_63, z_X9_goes_64, z_X9_goes_66, z_X9_goes_67, z_X9_goes_68, z_X9_goes_69, z_X9_goes_70, z_X9_goes_71, z_X9_goes_72, z_X9_goes_73, z_X9_goes_74, z_X9_goes_76, z_X9_goes_79, z_X9_goes_80, mf_r1 hF1, mf_r2 hF1, mf_r3 hF1, mf_r5 hF1, mf_r10 hF1, mf_r11 hF1, mf_r13 hF1, mf_r15 hF1, mf_r16 hF1, mf_r19 hF1, mf_r21 hF1, mf_r22 hF1, mf_r23 hF1, mf_r24 hF1, mf_r25 hF1, mf_r26 hF1, mf_r27 hF1, mf_r29 hF1, mf_r30 hF1, mf_r31 hF1, mf_r32 hF1, mf_s98 hF1, mf_s99 hF1, mf_s100 hF1, mf_s101 hF1, mf_s102 hF1, mf_s103 hF1, mf_s104 hF1, mf_s105 hF1, mf_s106 hF1, mf_s107 hF1, mf_s108 hF1, mf_s109 hF1, mf_s110 hF1, mf_s111 hF1, mf_s112 hF1, mf_s113 hF1, mf_s114 hF1, mf_s115 hF1, mf_s116 hF1, mf_s117 hF1, mf_s118 hF1, kIn, kCl, ek, m_factor (D := d + f + 6) (by omega) m2 hkm (show v < 3 by omega) w3, lN_mul, ef, true_and, Option.toList_some, Option.toList_none, List.cons_append, List.nil_append, is2IT, is2RT, if_true, if_false]
            have fr2 : Fm Iw Lw σ (wI σ1 105 k (nI v)) := Fm_tr f1 (Fm_wI rfl)
            refine ih (k + 1) (by omega) d _ _ (up ω k v) (w * facW N ω k v) A1 m2 (fun i hi => by rw [fr2.1 106 i rfl]; exact hM i hi) (by rw [fr2.1 97 20 rfl]; exact hk0) w2 f3 (pow108 hB hfb) (fun σ' q1 q2 q3 => ?_)
            refine next σ' _ (Fm_tr fr2 q1) (fun i hi => ?_) q2 ?_
            · rw [q3 i (by omega), rI_wI, if_neg (by omega), f2 i hi]
            · rw [List.range'_succ, List.flatMap_cons, List.foldl_append, if_pos ho]
          cases em2 : mu k with
          | none =>
            rw [em2, oI_nn] at em
            simp (disch := first | exact is2I | exact is2R | omega) only [z_X9_goes_35, z_X9_goes_36, z_X9_goes_39, z_X9_goes_40, z_X9_goes_41, z_X9_goes_42, z_X9_goes_45, z_X9_goes_46, z_X9_goes_49, z_X9_goes_50, z_X9_goes_51, z_X9_goes_53, z_X9_goes_56, mf_r1 hF1, mf_r2 hF1, mf_r3 hF1, mf_r5 hF1, mf_r10 hF1, mf_r11 hF1, mf_r13 hF1, mf_r15 hF1, mf_r16 hF1, mf_r19 hF1, mf_r21 hF1, mf_r22 hF1, mf_r23 hF1, mf_r24 hF1, mf_r25 hF1, mf_r26 hF1, mf_r27 hF1, mf_r29 hF1, mf_r30 hF1, mf_r31 hF1, mf_r32 hF1, mf_s98 hF1, mf_s99 hF1, mf_s100 hF1, mf_s101 hF1, mf_s102 hF1, mf_s103 hF1, mf_s104 hF1, mf_s105 hF1, mf_s106 hF1, mf_s107 hF1, mf_s108 hF1, mf_s109 hF1, mf_s110 hF1, mf_s111 hF1, mf_s112 hF1, mf_s113 hF1, mf_s114 hF1, mf_s115 hF1, mf_s116 hF1, mf_s117 hF1, mf_s118 hF1, kIn, kCl, em, true_and, Option.toList_some, Option.toList_none, List.cons_append, List.nil_append, is2IT, is2RT, if_true, if_false]
            exact step (by unfold oV; rw [em2]; rfl)
          | some u =>
            have hu := hmu k u em2
            rw [em2, oI_ss] at em
            simp (disch := first | exact is2I | exact is2R | omega) only [z_X9_goes_35, z_X9_goes_36, z_X9_goes_39, z_X9_goes_40, z_X9_goes_41, z_X9_goes_42, z_X9_goes_45, z_X9_goes_46, z_X9_goes_49, z_X9_goes_50, z_X9_goes_51, z_X9_goes_53, z_X9_goes_56, mf_r1 hF1, mf_r2 hF1, mf_r3 hF1, mf_r5 hF1, mf_r10 hF1, mf_r11 hF1, mf_r13 hF1, mf_r15 hF1, mf_r16 hF1, mf_r19 hF1, mf_r21 hF1, mf_r22 hF1, mf_r23 hF1, mf_r24 hF1, mf_r25 hF1, mf_r26 hF1, mf_r27 hF1, mf_r29 hF1, mf_r30 hF1, mf_r31 hF1, mf_r32 hF1, mf_s98 hF1, mf_s99 hF1, mf_s100 hF1, mf_s101 hF1, mf_s102 hF1, mf_s103 hF1, mf_s104 hF1, mf_s105 hF1, mf_s106 hF1, mf_s107 hF1, mf_s108 hF1, mf_s109 hF1, mf_s110 hF1, mf_s111 hF1, mf_s112 hF1, mf_s113 hF1, mf_s114 hF1, mf_s115 hF1, mf_s116 hF1, mf_s117 hF1, mf_s118 hF1, kIn, kCl, em, kM1, kEq, true_and, Option.toList_some, Option.toList_none, List.cons_append, List.nil_append, is2IT, is2RT, if_true, if_false]
            by_cases cu : u = v
            · rw [if_pos cu]
              exact step (by unfold oV; rw [em2, cu]; exact decide_eq_true (Or.inr rfl))
            · rw [if_neg cu]
              refine next σ1 A1 f1 f2 f3 ?_
              rw [List.range'_succ, List.flatMap_cons, if_neg (show ¬ oV (mu k) v = true by unfold oV; rw [em2]; simp [cu]), List.nil_append]
      exact (by
        have l0 := loop (nS N k) 0 (by omega) σ A Fm_rf (fun _ _ => rfl) hA (fun σ' q1 q2 q3 => hQ σ' q1 (by unfold lvs; rw [if_neg c]; exact q2) q3)
        exact l0)
