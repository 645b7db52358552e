/-! ===== cost in an order, copy: the reference ===== -/
def nod (m : Nat) (v : Int64) : Option Nat := if 0 ≤ v ∧ v < lN m then some v.toInt32.toNatClampNeg else none
theorem nod_some {m : Nat} (hm : m < 100) {v : Int64} {x : Nat} : nod m v = some x ↔ x < m ∧ v = lN x := by
  unfold nod
  constructor
  · intro h
    split at h
    · rename_i h2
      obtain ⟨j, hj, rfl⟩ := pk_lOf (Int64.not_lt.mpr h2.1)
      have h3 := (pk_lLT hj (show m < 2 ^ 63 by omega)).mp h2.2
      cases h
      rw [lN_i, nI_clamp (by omega)]
      exact ⟨h3, rfl⟩
    · cases h
  · rintro ⟨hk, rfl⟩
    rw [if_pos ⟨(pk_lLE (a := 0) (by decide) (by omega)).mpr (Nat.zero_le _), (pk_lLT (by omega) (by omega)).mpr hk⟩, lN_i, nI_clamp (by omega)]
theorem nod_none {m : Nat} {v : Int64} : nod m v = none ↔ ¬ (0 ≤ v ∧ v < lN m) := by
  unfold nod
  split
  · rename_i h; simp [h]
  · rename_i h; simp [h]
theorem nod_in {m : Nat} (hm : m < 100) {v : Int64} : ((0 : Int64) ≤ v ∧ v ≤ (nI m - 1).toInt64) ↔ (nod m v).isSome = true := by
  have e2 : ((nI m - 1).toInt64).toInt = (m : Int) - 1 := by
    rw [Int32.toInt_toInt64]
    exact pk_sub_toInt (b := 1) (by omega) (by decide)
  have e4 := pk_lT (show m < 2 ^ 63 by omega)
  have e : (v ≤ (nI m - 1).toInt64) ↔ v < lN m := by
    rw [Int64.le_iff_toInt_le, Int64.lt_iff_toInt_lt, e2, e4]; omega
  rw [e]
  unfold nod
  by_cases c : 0 ≤ v ∧ v < lN m
  · rw [if_pos c]; exact ⟨fun _ => rfl, fun _ => c⟩
  · rw [if_neg c]; exact ⟨fun q => absurd q c, fun q => by cases q⟩
def oroR (m : Nat) (g : Nat → Int64) : Nat → Nat → Nat → Bool
  | 0, _, _ => true
  | r + 1, k, t => match nod m (g k) with
    | none => false
    | some x => !t.testBit x && oroR m g r (k + 1) (t ||| 2 ^ x)
def oroB (N : Net) (n : Nat) (g : Nat → Int64) : Bool := decide (n = nM N) && oroR (nM N) g (nM N) 0 0
theorem m_isOrder {d j t n : Nat} {Q : Option PV → St → Prop} {N : Net} {σ : St} {g : Nat → Int64} (h : MI σ N) (hj : j < 4) (hs : shAt σ j (some (t, n, g))) : Ca (d + 2) 197 [vR 97 9, vI (nI j)] σ Q ↔ Q (some (vI (b2 (oroB N n g = true)))) σ := by
  have h7 := MI_7 h
  have hF := h.1
  obtain ⟨a1, a2, a3, a4, a5, a6⟩ := hs
  rw [ca_at (K := kX9_isOrder) (ls := [vR 97 9, vI (nI j), vU, vU, vU, vU]) rfl rfl rfl]
  unfold oroB
  simp (disch := first | exact is2I | exact is2R | omega) only [z_X9_isOrder_0, z_X9_isOrder_1, z_X9_isOrder_2, z_X9_isOrder_3, z_X9_isOrder_6, z_X9_isOrder_7, z_X9_isOrder_8, z_X9_isOrder_9, z_X9_isOrder_12, z_X9_isOrder_15, z_X9_isOrder_16, z_X9_isOrder_17, z_X9_isOrder_18, mf_r1 hF, mf_r2 hF, mf_r3 hF, mf_r5 hF, mf_r10 hF, mf_r11 hF, mf_r13 hF, mf_r15 hF, mf_r16 hF, mf_r19 hF, mf_r21 hF, mf_r22 hF, mf_r23 hF, mf_r24 hF, mf_r25 hF, mf_r26 hF, mf_r27 hF, mf_r29 hF, mf_r30 hF, mf_r31 hF, mf_r32 hF, mf_s98 hF, mf_s99 hF, mf_s100 hF, mf_s101 hF, mf_s102 hF, mf_s103 hF, mf_s104 hF, mf_s105 hF, mf_s106 hF, mf_s107 hF, mf_s108 hF, mf_s109 hF, mf_s110 hF, mf_s111 hF, mf_s112 hF, mf_s113 hF, mf_s114 hF, mf_s115 hF, mf_s116 hF, mf_s117 hF, mf_s118 hF, i_many h, kIn, kCl, a4, kEq, rk_b0, true_and, Option.toList_some, Option.toList_none, List.cons_append, List.nil_append, is2IT, is2RT, if_true, if_false]
  by_cases cn : n = nM N
  · rw [if_pos cn, decide_eq_true cn, Bool.true_and]
    have loop : ∀ r k t l4 l5, k + r = nM N → t < 128 → (At (d + 1) kX9_isOrder 19 [vR 97 9, vI (nI j), vI (nI t), vI (nI k), l4, l5] [] σ Q ↔ Q (some (vI (b2 (oroR (nM N) g r k t = true)))) σ) := by
      intro r
      induction r with
      | zero =>
        intro k t l4 l5 hk ht
        have hk' : k = nM N := by omega
        subst hk'
        simp (disch := first | exact is2I | exact is2R | omega) only [z_X9_isOrder_19, z_X9_isOrder_20, z_X9_isOrder_21, z_X9_isOrder_24, z_X9_isOrder_82, z_X9_isOrder_83, i_many h, kLe, Nat.le_refl, rk_b1, true_and, Option.toList_some, Option.toList_none, List.cons_append, List.nil_append, is2IT, is2RT, if_true, if_false]
        exact Iff.rfl
      | succ r ih =>
        intro k t l4 l5 hk ht
        have hk1 : k < nM N := by omega
        have c : ¬ nM N ≤ k := by omega
        have ti := @nod_in (nM N) (by omega) (g k)
        have es : oroR (nM N) g (r + 1) k t = (match nod (nM N) (g k) with
          | none => false
          | some x => !t.testBit x && oroR (nM N) g r (k + 1) (t ||| 2 ^ x)) := rfl
        rw [es]
        simp (disch := first | exact is2I | exact is2R | omega) only [z_X9_isOrder_19, z_X9_isOrder_20, z_X9_isOrder_21, z_X9_isOrder_24, z_X9_isOrder_27, z_X9_isOrder_28, z_X9_isOrder_31, z_X9_isOrder_33, z_X9_isOrder_34, z_X9_isOrder_35, z_X9_isOrder_36, z_X9_isOrder_37, z_X9_isOrder_38, z_X9_isOrder_40, z_X9_isOrder_42, z_X9_isOrder_43, z_X9_isOrder_44, z_X9_isOrder_47, z_X9_isOrder_48, z_X9_isOrder_49, z_X9_isOrder_50, z_X9_isOrder_53, mf_r1 hF, mf_r2 hF, mf_r3 hF, mf_r5 hF, mf_r10 hF, mf_r11 hF, mf_r13 hF, mf_r15 hF, mf_r16 hF, mf_r19 hF, mf_r21 hF, mf_r22 hF, mf_r23 hF, mf_r24 hF, mf_r25 hF, mf_r26 hF, mf_r27 hF, mf_r29 hF, mf_r30 hF, mf_r31 hF, mf_r32 hF, mf_s98 hF, mf_s99 hF, mf_s100 hF, mf_s101 hF, mf_s102 hF, mf_s103 hF, mf_s104 hF, mf_s105 hF, mf_s106 hF, mf_s107 hF, mf_s108 hF, mf_s109 hF, mf_s110 hF, mf_s111 hF, mf_s112 hF, mf_s113 hF, mf_s114 hF, mf_s115 hF, mf_s116 hF, mf_s117 hF, mf_s118 hF, i_many h, kLe, c, kLM, nI_add, kIn, kCl, a6 k (by omega), m_in, ti, b2_0, rk_b0, true_and, Option.toList_some, Option.toList_none, List.cons_append, List.nil_append, is2IT, is2RT, if_true, if_false]
        cases en : nod (nM N) (g k) with
        | none =>
          simp (disch := first | exact is2I | exact is2R | omega) only [z_X9_isOrder_66, z_X9_isOrder_67, Option.isSome_none, Bool.false_eq_true, not_false_eq_true, if_true, rk_b0, true_and, Option.toList_some, Option.toList_none, List.cons_append, List.nil_append, is2IT, is2RT, if_true, if_false]
          exact Iff.rfl
        | some x =>
          obtain ⟨x1, x2⟩ := (nod_some (by omega)).mp en
          simp (disch := first | exact is2I | exact is2R | omega) only [z_X9_isOrder_56, z_X9_isOrder_57, z_X9_isOrder_59, z_X9_isOrder_60, z_X9_isOrder_63, x2, lN_i, m_has (show t < 2 ^ 31 by omega) (show x < 31 by omega), b2_0, Option.isSome_some, not_true_eq_false, if_false, true_and, Option.toList_some, Option.toList_none, List.cons_append, List.nil_append, is2IT, is2RT, if_true, if_false]
          show _ ↔ Q (some (vI (b2 ((!t.testBit x && oroR (nM N) g r (k + 1) (t ||| 2 ^ x)) = true)))) σ
          cases et : t.testBit x with
          | true =>
            simp (disch := first | exact is2I | exact is2R | omega) only [z_X9_isOrder_66, z_X9_isOrder_67, not_true_eq_false, if_false, Bool.not_true, Bool.false_and, rk_b0, true_and, Option.toList_some, Option.toList_none, List.cons_append, List.nil_append, is2IT, is2RT, if_true, if_false]
            exact Iff.rfl
          | false =>
            simp (disch := first | exact is2I | exact is2R | omega) only [z_X9_isOrder_68, z_X9_isOrder_69, z_X9_isOrder_70, z_X9_isOrder_72, z_X9_isOrder_73, z_X9_isOrder_74, z_X9_isOrder_75, z_X9_isOrder_76, Bool.false_eq_true, not_false_eq_true, if_true, Bool.not_false, Bool.true_and, lN_i, kShl x (by omega), kOr, kAL, true_and, Option.toList_some, Option.toList_none, List.cons_append, List.nil_append, is2IT, is2RT, if_true, if_false]
            rw [z_X9_isOrder_79]
            exact ih (k + 1) _ _ _ (by omega) (or128 ht (by omega))
    exact loop (nM N) 0 0 vU vU (by omega) (by decide)
  · rw [if_neg cn, decide_eq_false cn, Bool.false_and]
    exact Iff.rfl
def ndx (m : Nat) (g : Nat → Int64) (k : Nat) : Nat := (nod m (g k)).getD 0
theorem oro_all {m : Nat} {g : Nat → Int64} : ∀ r k t, oroR m g r k t = true → ∀ i, k ≤ i → i < k + r → ∃ x, nod m (g i) = some x
  | 0, _, _, _, i, h1, h2 => by omega
  | r + 1, k, t, h, i, h1, h2 => by
    have es : oroR m g (r + 1) k t = (match nod m (g k) with
      | none => false
      | some x => !t.testBit x && oroR m g r (k + 1) (t ||| 2 ^ x)) := rfl
    rw [es] at h
    cases en : nod m (g k) with
    | none => rw [en] at h; cases h
    | some x =>
      rw [en] at h
      simp only [Bool.and_eq_true] at h
      by_cases c : i = k
      · exact ⟨x, by rw [c]; exact en⟩
      · exact oro_all r (k + 1) _ h.2 i (by omega) (by omega)
def crdR (m : Nat) (g : Nat → Int64) : Nat → Nat → (Nat → Nat) → List (Nat × Nat × Nat) → List (Nat × Nat × Nat)
  | 0, _, _, L => L
  | r + 1, k, nr, L => crdR m g r (k + 1) (lvS nr (ndx m g k) m) (L ++ [(ndx m g k, filS nr (ndx m g k) m, nr (ndx m g k) ||| 2 ^ ndx m g k)])
def grpL (L : List (Nat × Nat × Nat)) (k : Nat) : Nat := (L.getD k (0, 0, 0)).2.2
theorem OL_grp {σ : St} {L : List (Nat × Nat × Nat)} {m : Nat} (h : OL σ L) (hB : OB m L) (hL : L.length = m) : ∀ k, k < m → rI σ 112 k = nI (grpL L k) ∧ grpL L k < 128 := fun k hk => by
  have hk2 : k < L.length := by omega
  have e : grpL L k = L[k].2.2 := by unfold grpL; rw [List.getD_eq_getElem?_getD, List.getElem?_eq_getElem hk2]; rfl
  rw [e]
  exact ⟨(h k hk2).2.2, (hB _ (List.getElem_mem hk2)).2.2⟩
def costF (N : Net) (f : Shs) (s : Int32) : Int32 := if s = -1 then nI (cstO N (grpL (ordS N)) (nM N) 0 0) else match pN 4 s with
  | none => -2
  | some j => match f j with
    | none => -11
    | some e => if oroB N e.2.1 e.2.2 = true then nI (cstO N (grpL (crdR (nM N) e.2.2 (nM N) 0 (nrS N) [])) (nM N) 0 0) else -3
theorem ct_l {d j : Nat} {Q : Option PV → St → Prop} {N : Net} {σ0 : St} {g : Nat → Int64} {LE : List (Nat × Nat × Nat)} (h : MI σ0 N) (hj : j < 4) (hg : ∀ i, i < nM N → rL σ0 118 (40 * j + i) = g i) (hx : ∀ i, i < nM N → ∃ x, nod (nM N) (g i) = some x) (hQ : ∀ σ', Fm ILV noL σ0 σ' → OL σ' LE → OB (nM N) LE → LE.length = nM N → At (d + 3) kX9_cost 84 [vR 97 9, vI (nI j), vI (nI (nM N))] [] σ' Q) : ∀ r k σ nr L, k + r = nM N → L.length = k → Fm ILV noL σ0 σ → NR σ nr → OL σ L → OB (nM N) L → crdR (nM N) g r k nr L = LE → At (d + 3) kX9_cost 53 [vR 97 9, vI (nI j), vI (nI k)] [] σ Q
  | 0, k, σ, nr, L, hk, hL, hf, hN, hO, hB, he => by
    have h7 := MI_7 h
    have m1 : MI σ N := MI_fm h hf (fun _ => rfl)
    have : k = nM N := by omega
    subst this
    have he' : L = LE := he
    subst he'
    simp (disch := first | exact is2I | exact is2R | omega) only [z_X9_cost_53, z_X9_cost_54, z_X9_cost_55, z_X9_cost_58, i_many m1, kLe, Nat.le_refl, true_and, Option.toList_some, Option.toList_none, List.cons_append, List.nil_append, is2IT, is2RT, if_true, if_false]
    exact hQ σ hf hO hB hL
  | r + 1, k, σ, nr, L, hk, hL, hf, hN, hO, hB, he => by
    have h7 := MI_7 h
    have hk1 : k < nM N := by omega
    have m1 : MI σ N := MI_fm h hf (fun _ => rfl)
    have c : ¬ nM N ≤ k := by omega
    obtain ⟨x, ex⟩ := hx k hk1
    obtain ⟨x1, x2⟩ := (nod_some (by omega)).mp ex
    have en : ndx (nM N) g k = x := by unfold ndx; rw [ex]; rfl
    have hr : rL σ 118 (40 * j + k) = g k := by rw [hf.2.1 118 _ rfl]; exact hg k hk1
    obtain ⟨y1, y2⟩ := hN x (by omega)
    have he' : crdR (nM N) g r (k + 1) (lvS nr (ndx (nM N) g k) (nM N)) (L ++ [(ndx (nM N) g k, filS nr (ndx (nM N) g k) (nM N), nr (ndx (nM N) g k) ||| 2 ^ ndx (nM N) g k)]) = LE := he
    rw [en] at he'
    have ev : nI k + (1 : Int32) = nI (k + 1) := nI_add k 1
    simp (disch := first | exact is2I | exact is2R | omega) only [z_X9_cost_53, z_X9_cost_54, z_X9_cost_55, z_X9_cost_58, z_X9_cost_61, z_X9_cost_62, z_X9_cost_63, z_X9_cost_64, z_X9_cost_67, z_X9_cost_69, z_X9_cost_70, z_X9_cost_71, z_X9_cost_72, z_X9_cost_73, z_X9_cost_74, z_X9_cost_75, i_many m1, mf_r1 m1.1, mf_r2 m1.1, mf_r3 m1.1, mf_r5 m1.1, mf_r10 m1.1, mf_r11 m1.1, mf_r13 m1.1, mf_r15 m1.1, mf_r16 m1.1, mf_r19 m1.1, mf_r21 m1.1, mf_r22 m1.1, mf_r23 m1.1, mf_r24 m1.1, mf_r25 m1.1, mf_r26 m1.1, mf_r27 m1.1, mf_r29 m1.1, mf_r30 m1.1, mf_r31 m1.1, mf_r32 m1.1, mf_s98 m1.1, mf_s99 m1.1, mf_s100 m1.1, mf_s101 m1.1, mf_s102 m1.1, mf_s103 m1.1, mf_s104 m1.1, mf_s105 m1.1, mf_s106 m1.1, mf_s107 m1.1, mf_s108 m1.1, mf_s109 m1.1, mf_s110 m1.1, mf_s111 m1.1, mf_s112 m1.1, mf_s113 m1.1, mf_s114 m1.1, mf_s115 m1.1, mf_s116 m1.1, mf_s117 m1.1, mf_s118 m1.1, kLe, c, kLM, nI_add, kIn, kCl, hr, x2, lN_i, true_and, Option.toList_some, Option.toList_none, List.cons_append, List.nil_append, is2IT, is2RT, if_true, if_false]
    refine m_leavesAs (d := d) m1 x1 (by omega) hN (fun σ' q1 q2 q3 q4 q5 => ?_)
    simp (disch := first | exact is2I | exact is2R | omega) only [z_X9_cost_78, ev, Option.toList_none, List.nil_append, true_and, Option.toList_some, Option.toList_none, List.cons_append, List.nil_append, is2IT, is2RT, if_true, if_false]
    rw [z_X9_cost_81]
    subst hL
    refine ct_l h hj hg hx hQ r (L.length + 1) σ' _ (L ++ [(x, filS nr x (nM N), nr x ||| 2 ^ x)]) (by omega) (by rw [List.length_append]; rfl) (Fm_tr hf q1) q2 (OL_add hO q3 q4 q5) (fun e he2 => ?_) he'
    rcases List.mem_append.mp he2 with q | q
    · exact hB e q
    · rw [List.mem_singleton] at q
      rw [q]
      exact ⟨x1, filS_le h7, or128 y2 (by omega)⟩
theorem m_cost {d : Nat} {Q : Option PV → St → Prop} {σ : St} {S : MSt} {s : Int32} (h : MS σ S) (hQ : ∀ σ', Sc σ σ' → Q (some (vI (costF S.1 S.2.2.2 s))) σ') : Ca (d + 5) 198 [vR 97 9, vI s] σ Q := by
  have hM := h.1
  have h7 := MI_7 hM
  have hF := hM.1
  have hS := MS_sh h
  rw [ca_at (K := kX9_cost) (ls := [vR 97 9, vI s, vU]) rfl rfl rfl]
  unfold costF at hQ
  simp (disch := first | exact is2I | exact is2R | omega) only [z_X9_cost_0, z_X9_cost_1, z_X9_cost_2, true_and, Option.toList_some, Option.toList_none, List.cons_append, List.nil_append, is2IT, is2RT, if_true, if_false]
  by_cases c1 : s = -1
  · rw [if_pos c1] at hQ ⊢
    simp (disch := first | exact is2I | exact is2R | omega) only [z_X9_cost_5, z_X9_cost_6, true_and, Option.toList_some, Option.toList_none, List.cons_append, List.nil_append, is2IT, is2RT, if_true, if_false]
    refine m_order (d := d) hM (fun σ' q1 q2 q3 q4 => ?_)
    simp (disch := first | exact is2I | exact is2R | omega) only [z_X9_cost_9, z_X9_cost_10, z_X9_cost_13, m_costNow (MI_fm hM q1 (fun _ => rfl)) (OL_grp q2 q3 q4), true_and, Option.toList_some, Option.toList_none, List.cons_append, List.nil_append, is2IT, is2RT, if_true, if_false]
    exact hQ σ' (Sc_ilv q1)
  · rw [if_neg c1] at hQ ⊢
    cases hp : pN 4 s with
    | none =>
      rw [hp] at hQ
      simp (disch := first | exact is2I | exact is2R | omega) only [z_X9_cost_14, z_X9_cost_15, z_X9_cost_18, z_X9_cost_21, z_X9_cost_23, m_isSheet, b2_0, pN_none.mp hp, not_false_eq_true, true_and, Option.toList_some, Option.toList_none, List.cons_append, List.nil_append, is2IT, is2RT, if_true, if_false]
      exact hQ σ Fm_rf
    | some j =>
      rw [hp] at hQ
      obtain ⟨hj, rfl⟩ := (pN_some (by decide)).mp hp
      have hP : 0 ≤ nI j ∧ nI j < nI 4 := (lt_nI (by decide)).mpr ⟨j, hj, rfl⟩
      dsimp only at hQ
      cases hf : S.2.2.2 j with
      | none =>
        rw [hf] at hQ
        simp (disch := first | exact is2I | exact is2R | omega) only [z_X9_cost_14, z_X9_cost_15, z_X9_cost_18, z_X9_cost_21, z_X9_cost_23, z_X9_cost_24, z_X9_cost_25, z_X9_cost_28, z_X9_cost_29, z_X9_cost_30, z_X9_cost_33, z_X9_cost_35, m_isSheet, b2_0, hP, and_self, not_true_eq_false, mf_r1 hF, mf_r2 hF, mf_r3 hF, mf_r5 hF, mf_r10 hF, mf_r11 hF, mf_r13 hF, mf_r15 hF, mf_r16 hF, mf_r19 hF, mf_r21 hF, mf_r22 hF, mf_r23 hF, mf_r24 hF, mf_r25 hF, mf_r26 hF, mf_r27 hF, mf_r29 hF, mf_r30 hF, mf_r31 hF, mf_r32 hF, mf_s98 hF, mf_s99 hF, mf_s100 hF, mf_s101 hF, mf_s102 hF, mf_s103 hF, mf_s104 hF, mf_s105 hF, mf_s106 hF, mf_s107 hF, mf_s108 hF, mf_s109 hF, mf_s110 hF, mf_s111 hF, mf_s112 hF, mf_s113 hF, mf_s114 hF, mf_s115 hF, mf_s116 hF, mf_s117 hF, mf_s118 hF, kIn, kCl, sh_none hS hj hf, true_and, Option.toList_some, Option.toList_none, List.cons_append, List.nil_append, is2IT, is2RT, if_true, if_false]
        exact hQ σ Fm_rf
      | some e =>
        obtain ⟨t, n, g⟩ := e
        have ha := sh_at hS hj
        rw [hf] at ha
        have ha' := ha
        obtain ⟨a1, a2, a3, a4, a5, a6⟩ := ha
        have n10 : ((1 : Int32) = 0) = False := eq_false (by decide)
        rw [hf] at hQ
        dsimp only at hQ
        simp (disch := first | exact is2I | exact is2R | omega) only [z_X9_cost_14, z_X9_cost_15, z_X9_cost_18, z_X9_cost_21, z_X9_cost_23, z_X9_cost_24, z_X9_cost_25, z_X9_cost_28, z_X9_cost_29, z_X9_cost_30, z_X9_cost_33, z_X9_cost_35, z_X9_cost_36, z_X9_cost_37, z_X9_cost_38, z_X9_cost_41, m_isSheet, b2_0, hP, and_self, not_true_eq_false, mf_r1 hF, mf_r2 hF, mf_r3 hF, mf_r5 hF, mf_r10 hF, mf_r11 hF, mf_r13 hF, mf_r15 hF, mf_r16 hF, mf_r19 hF, mf_r21 hF, mf_r22 hF, mf_r23 hF, mf_r24 hF, mf_r25 hF, mf_r26 hF, mf_r27 hF, mf_r29 hF, mf_r30 hF, mf_r31 hF, mf_r32 hF, mf_s98 hF, mf_s99 hF, mf_s100 hF, mf_s101 hF, mf_s102 hF, mf_s103 hF, mf_s104 hF, mf_s105 hF, mf_s106 hF, mf_s107 hF, mf_s108 hF, mf_s109 hF, mf_s110 hF, mf_s111 hF, mf_s112 hF, mf_s113 hF, mf_s114 hF, mf_s115 hF, mf_s116 hF, mf_s117 hF, mf_s118 hF, kIn, kCl, a1, n10, m_isOrder hM hj ha', true_and, Option.toList_some, Option.toList_none, List.cons_append, List.nil_append, is2IT, is2RT, if_true, if_false]
        by_cases ct : oroB S.1 n g = true
        · rw [if_pos ct] at hQ
          rw [if_neg (fun q => q ct)]
          have ct2 := ct
          unfold oroB at ct2
          simp only [Bool.and_eq_true] at ct2
          have en : n = nM S.1 := of_decide_eq_true ct2.1
          have hx := fun i hi => oro_all _ _ _ ct2.2 i (Nat.zero_le _) (by omega)
          simp (disch := first | exact is2I | exact is2R | omega) only [z_X9_cost_47, z_X9_cost_48, true_and, Option.toList_some, Option.toList_none, List.cons_append, List.nil_append, is2IT, is2RT, if_true, if_false]
          refine m_nears (d := d + 2) hM (fun σ1 q1 q2 => ?_)
          have m1 : MI σ1 S.1 := MI_fm hM q1 (fun _ => rfl)
          simp (disch := first | exact is2I | exact is2R | omega) only [z_X9_cost_51, z_X9_cost_52, Option.toList_none, List.nil_append, true_and, Option.toList_some, Option.toList_none, List.cons_append, List.nil_append, is2IT, is2RT, if_true, if_false]
          refine ct_l (d := d + 1) (g := g) (LE := crdR (nM S.1) g (nM S.1) 0 (nrS S.1) []) m1 hj (fun i hi => by rw [q1.2.1 118 _ rfl]; exact a6 i (by omega)) (fun i hi => hx i (by omega)) (fun σ2 q3 q4 q5 q6 => ?_) (nM S.1) 0 σ1 (nrS S.1) [] (by omega) rfl Fm_rf q2 (fun i hi => absurd hi (Nat.not_lt_zero i)) (fun e he => by cases he) rfl
          simp (disch := first | exact is2I | exact is2R | omega) only [z_X9_cost_84, z_X9_cost_85, z_X9_cost_88, m_costNow (MI_fm m1 q3 (fun _ => rfl)) (OL_grp q4 q5 q6), true_and, Option.toList_some, Option.toList_none, List.cons_append, List.nil_append, is2IT, is2RT, if_true, if_false]
          exact hQ σ2 (Fm_tr (Sc_109 q1) (Sc_ilv q3))
        · rw [if_neg ct] at hQ
          rw [if_pos ct]
          simp only [z_X9_cost_44, z_X9_cost_46, true_and, Option.toList_some, Option.toList_none, List.cons_append, List.nil_append, is2IT, is2RT, if_true, if_false]
          exact hQ σ Fm_rf
