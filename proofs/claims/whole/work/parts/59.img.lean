/-! ===== count, image, back; what a sheet tells: the reference ===== -/
def nearN (N : Net) : Nat := ((List.range' 0 (nM N)).map fun a => pop7 (nrS N a)).sum / 2
def countF (N : Net) (tape : Nat) (w : Int32) : Int32 := match pN 7 w with
  | none => -2
  | some j => if j = 0 then nI (nM N) else if j = 1 then nI (cntR (fndP N) (nM N) 0 0) else if j = 2 then nI (cntR (dneP N) (nM N) 0 0) else if j = 3 then nI (cntR (hinB N) (nM N) 0 0) else if j = 4 then nI tape else if j = 5 then nI (nearN N) else nI (wldR N (nM N) 0 1)
theorem Sc_109 {σ σ' : St} (h : Fm I109 noL σ σ') : Sc σ σ' := Sc_ilv (Fm_mono h (fun a i => ILV_109) (fun _ q => q))
theorem m_count {d : Nat} {Q : Option PV → St → Prop} {σ : St} {S : MSt} {w : Int32} (h : MS σ S) (hQ : ∀ σ', Sc σ σ' → Q (some (vI (countF S.1 S.2.2.1.length w))) σ') : Ca (d + 4) 210 [vR 97 9, vI w] σ Q := by
  have hM := h.1
  have h7 := MI_7 hM
  have ht : rI σ 97 6 = nI S.2.2.1.length := h.2.2.2.1.1
  rw [ca_at (K := kX9_count) (ls := [vR 97 9, vI w]) rfl rfl rfl]
  unfold countF at hQ
  cases hw : pN 7 w with
  | none =>
    rw [hw] at hQ
    have k := pN_none.mp hw
    simp (disch := first | exact k | omega) only [z_X9_count_0, z_X9_count_1_d, z_X9_count_79, z_X9_count_81, true_and, Option.toList_some, Option.toList_none, List.cons_append, List.nil_append, is2IT, is2RT, if_true, if_false]
    exact hQ σ Fm_rf
  | some j =>
    rw [hw] at hQ
    obtain ⟨hj, rfl⟩ := (pN_some (by decide)).mp hw
    dsimp only at hQ
    rcases (show j = 0 ∨ j = 1 ∨ j = 2 ∨ j = 3 ∨ j = 4 ∨ j = 5 ∨ j = 6 by omega) with rfl | rfl | rfl | rfl | rfl | rfl | rfl
    · simp (disch := first | exact is2I | exact is2R | omega) only [z_X9_count_0, z_X9_count_44, z_X9_count_45, z_X9_count_48, z_X9_count_1_0, i_many hM, true_and, Option.toList_some, Option.toList_none, List.cons_append, List.nil_append, is2IT, is2RT, if_true, if_false]
      exact hQ σ Fm_rf
    · simp (disch := first | exact is2I | exact is2R | omega) only [z_X9_count_0, z_X9_count_49, z_X9_count_50, z_X9_count_53, z_X9_count_1_1, m_founds hM, true_and, Option.toList_some, Option.toList_none, List.cons_append, List.nil_append, is2IT, is2RT, if_true, if_false]
      exact hQ σ Fm_rf
    · simp (disch := first | exact is2I | exact is2R | omega) only [z_X9_count_0, z_X9_count_54, z_X9_count_55, z_X9_count_56, z_X9_count_59, z_X9_count_1_2, m_countsOf (w := 2) hM (Or.inl rfl), true_and, Option.toList_some, Option.toList_none, List.cons_append, List.nil_append, is2IT, is2RT, if_true, if_false]
      exact hQ σ Fm_rf
    · simp (disch := first | exact is2I | exact is2R | omega) only [z_X9_count_0, z_X9_count_54, z_X9_count_55, z_X9_count_56, z_X9_count_59, z_X9_count_1_3, m_countsOf (w := 3) hM (Or.inr rfl), true_and, Option.toList_some, Option.toList_none, List.cons_append, List.nil_append, is2IT, is2RT, if_true, if_false]
      exact hQ σ Fm_rf
    · simp (disch := first | exact is2I | exact is2R | omega) only [z_X9_count_0, z_X9_count_60, z_X9_count_61, z_X9_count_64, z_X9_count_1_4, ht, true_and, Option.toList_some, Option.toList_none, List.cons_append, List.nil_append, is2IT, is2RT, if_true, if_false]
      exact hQ σ Fm_rf
    · simp (disch := first | exact is2I | exact is2R | omega) only [z_X9_count_0, z_X9_count_65, z_X9_count_66, z_X9_count_1_5, true_and, Option.toList_some, Option.toList_none, List.cons_append, List.nil_append, is2IT, is2RT, if_true, if_false]
      refine m_nears (d := d + 1) hM (fun σ' q1 q2 => ?_)
      simp (disch := first | exact is2I | exact is2R | omega) only [z_X9_count_69, z_X9_count_70, z_X9_count_73, m_nearPairs (MI_fm hM q1 (fun _ => rfl)) q2, true_and, Option.toList_some, Option.toList_none, List.cons_append, List.nil_append, is2IT, is2RT, if_true, if_false]
      exact hQ σ' (Sc_109 q1)
    · simp (disch := first | exact is2I | exact is2R | omega) only [z_X9_count_0, z_X9_count_74, z_X9_count_75, z_X9_count_78, z_X9_count_1_6, m_worlds hM, true_and, Option.toList_some, Option.toList_none, List.cons_append, List.nil_append, is2IT, is2RT, if_true, if_false]
      exact hQ σ Fm_rf
/-- image -/
theorem m_image {d : Nat} {Q : Option PV → St → Prop} {σ : St} {S : MSt} (h : MS σ S) (hQ : ∀ σ', MS σ' (S.1, some S.1, S.2.2) → Fr9 σ σ' → Q (some (vI (nI (nM S.1)))) σ') : Ca (d + 2) 206 [vR 97 9] σ Q := by
  have hM := h.1
  have h7 := MI_7 hM
  have hF := hM.1
  rw [ca_at (K := kX9_image) (ls := [vR 97 9]) rfl rfl rfl]
  simp (disch := first | exact is2I | exact is2R | omega) only [z_X9_image_0, z_X9_image_1, z_X9_image_4, z_X9_image_5, z_X9_image_8, mf_r1 hF, mf_r2 hF, mf_r3 hF, mf_r5 hF, mf_r10 hF, mf_r11 hF, mf_r13 hF, mf_r15 hF, mf_r16 hF, mf_r19 hF, mf_r21 hF, mf_r22 hF, mf_r23 hF, mf_r24 hF, mf_r25 hF, mf_r26 hF, mf_r27 hF, mf_r29 hF, mf_r30 hF, mf_r31 hF, mf_r32 hF, mf_s98 hF, mf_s99 hF, mf_s100 hF, mf_s101 hF, mf_s102 hF, mf_s103 hF, mf_s104 hF, mf_s105 hF, mf_s106 hF, mf_s107 hF, mf_s108 hF, mf_s109 hF, mf_s110 hF, mf_s111 hF, mf_s112 hF, mf_s113 hF, mf_s114 hF, mf_s115 hF, mf_s116 hF, mf_s117 hF, mf_s118 hF, true_and, Option.toList_some, Option.toList_none, List.cons_append, List.nil_append, is2IT, is2RT, if_true, if_false]
  refine (m_copies (d := d) (mf_s98 hF) (mf_s99 hF) (by decide)).mpr ?_
  have m1 : MI (wI (fI σ 99 0 253 (rI σ 98)) 97 4 1) S.1 := MI_wI (MI_fI hM (by decide)) (by decide)
  have nk : narOK 2 1 = true := rfl
  simp (disch := first | exact is2I | exact is2R | omega) only [z_X9_image_11, z_X9_image_12, z_X9_image_13, z_X9_image_16, z_X9_image_17, z_X9_image_20, i_many m1, nk, true_and, Option.toList_some, Option.toList_none, List.cons_append, List.nil_append, is2IT, is2RT, if_true, if_false]
  refine hQ _ ?_ ⟨fun a ha => ?_, fun _ _ => rfl, fun _ _ => rfl, rfl, rfl⟩
  · obtain ⟨a1, b, c, e, f, g, i⟩ := h
    refine ⟨m1, by rw [rI_wI, if_pos ⟨rfl, rfl⟩]; rfl, fun K hK => ?_, ?_, fun x hx => ?_, ?_, ?_⟩
    · cases hK
      refine ⟨?_, hM.2.2⟩
      have := MN_fI (b := 99) h7 hM.2.1
      unfold MN at this ⊢
      rw [rI_wI_n (by decide)]
      exact this
    · unfold tpOf
      rw [rI_wI, if_neg (by decide), rI_wI_n (by decide), rI_fI_n (by decide), rI_fI_n (by decide)]
      exact e
    · rw [rI_wI_n (by decide), rI_fI_n (by decide)]; exact f x hx
    · rw [rI_wI, if_neg (by decide), rI_fI_n (by decide)]; exact g
    · unfold shOf
      rw [rI_wI_n (by decide), rI_wI_n (by decide), rI_wI_n (by decide), rI_fI_n (by decide), rI_fI_n (by decide), rI_fI_n (by decide)]
      exact i
  · rw [rI_wI_n (by omega), rI_fI_n (by omega)]
def backF (S : MSt) : Int32 × Net := match S.2.1 with
  | none => (-3, S.1)
  | some K => (nI (nM K), K)
theorem m_back {d : Nat} {Q : Option PV → St → Prop} {σ : St} {S : MSt} (h : MS σ S) (hQ : ∀ σ', MS σ' ((backF S).2, S.2) → Fr9 σ σ' → Q (some (vI (backF S).1)) σ') : Ca (d + 2) 207 [vR 97 9] σ Q := by
  have hM := h.1
  have h7 := MI_7 hM
  have hF := hM.1
  have hb := h.2.1
  rw [ca_at (K := kX9_back) (ls := [vR 97 9]) rfl rfl rfl]
  unfold backF at hQ
  cases hk : S.2.1 with
  | none =>
    rw [hk] at hQ hb
    have hb' : rI σ 97 4 = 0 := hb
    simp (disch := first | exact is2I | exact is2R | omega) only [z_X9_back_0, z_X9_back_1, z_X9_back_4, z_X9_back_7, z_X9_back_9, hb', true_and, Option.toList_some, Option.toList_none, List.cons_append, List.nil_append, is2IT, is2RT, if_true, if_false]
    exact hQ σ h Fr9_rf
  | some K =>
    rw [hk] at hQ hb
    have hb' : rI σ 97 4 = 1 := hb
    have n10 : ((1 : Int32) = 0) = False := eq_false (by decide)
    obtain ⟨k1, k2⟩ := h.2.2.1 K hk
    simp (disch := first | exact is2I | exact is2R | omega) only [z_X9_back_0, z_X9_back_1, z_X9_back_4, z_X9_back_7, z_X9_back_9, z_X9_back_10, z_X9_back_11, z_X9_back_14, z_X9_back_15, z_X9_back_18, mf_r1 hF, mf_r2 hF, mf_r3 hF, mf_r5 hF, mf_r10 hF, mf_r11 hF, mf_r13 hF, mf_r15 hF, mf_r16 hF, mf_r19 hF, mf_r21 hF, mf_r22 hF, mf_r23 hF, mf_r24 hF, mf_r25 hF, mf_r26 hF, mf_r27 hF, mf_r29 hF, mf_r30 hF, mf_r31 hF, mf_r32 hF, mf_s98 hF, mf_s99 hF, mf_s100 hF, mf_s101 hF, mf_s102 hF, mf_s103 hF, mf_s104 hF, mf_s105 hF, mf_s106 hF, mf_s107 hF, mf_s108 hF, mf_s109 hF, mf_s110 hF, mf_s111 hF, mf_s112 hF, mf_s113 hF, mf_s114 hF, mf_s115 hF, mf_s116 hF, mf_s117 hF, mf_s118 hF, hb', n10, true_and, Option.toList_some, Option.toList_none, List.cons_append, List.nil_append, is2IT, is2RT, if_true, if_false]
    refine (m_copies (d := d) (mf_s99 hF) (mf_s98 hF) (by decide)).mpr ?_
    have hn := MN_fI (b := 98) k2.1 k1
    have m1 : MI (fI σ 98 0 253 (rI σ 99)) K := ⟨MF_of hF (fun _ _ => rfl) rfl, hn, k2⟩
    simp (disch := first | exact is2I | exact is2R | omega) only [z_X9_back_21, z_X9_back_22, z_X9_back_25, i_many m1, true_and, Option.toList_some, Option.toList_none, List.cons_append, List.nil_append, is2IT, is2RT, if_true, if_false]
    exact hQ _ (MS_web h (fun a ha => rI_fI_n ha) (fun _ => rfl) (fun _ _ => rfl) rfl hn k2) ⟨fun a ha => rI_fI_n (by omega), fun _ _ => rfl, fun _ _ => rfl, rfl, rfl⟩
/-- a value told, or none -/
def tv (s : Nat) (v : Int64) : Option (Option Nat) := if v = -1 then some none else if 0 ≤ v ∧ v < lN s then some (some v.toInt32.toNatClampNeg) else none
theorem tv_some {s : Nat} (hs : s < 100) {v : Int64} {k : Nat} : tv s v = some (some k) ↔ k < s ∧ v = lN k := by
  unfold tv
  constructor
  · intro h
    split at h
    · cases h
    · split at h
      · rename_i h1 h2
        obtain ⟨j, hj, rfl⟩ := pk_lOf (Int64.not_lt.mpr h2.1)
        have h3 := (pk_lLT hj (show s < 2 ^ 63 by omega)).mp h2.2
        cases h
        rw [lN_i, nI_clamp (by omega)]
        exact ⟨h3, rfl⟩
      · cases h
  · rintro ⟨hk, rfl⟩
    have n1 : ¬ lN k = -1 := fun q => by
      have h1 := pk_lT (show k < 2 ^ 63 by omega)
      rw [q] at h1
      have : (-1 : Int64).toInt = -1 := by decide
      omega
    rw [if_neg n1, if_pos ⟨(pk_lLE (a := 0) (by decide) (by omega)).mpr (Nat.zero_le _), (pk_lLT (by omega) (by omega)).mpr hk⟩, lN_i, nI_clamp (by omega)]
theorem tv_none {s : Nat} {v : Int64} : tv s v = some none ↔ v = -1 := by
  unfold tv
  constructor
  · intro h
    split at h
    · assumption
    · split at h <;> cases h
  · intro h; rw [if_pos h]
theorem tv_in {s : Nat} (hs : s < 100) {v : Int64} : ((-1 : Int64) ≤ v ∧ v ≤ (nI s - 1).toInt64) ↔ (tv s v).isSome = true := by
  have e1 : (-1 : Int64).toInt = -1 := by decide
  have e2 : ((nI s - 1).toInt64).toInt = (s : Int) - 1 := by
    rw [Int32.toInt_toInt64]
    exact pk_sub_toInt (b := 1) (by omega) (by decide)
  have e3 : (0 : Int64).toInt = 0 := by decide
  have e4 := pk_lT (show s < 2 ^ 63 by omega)
  unfold tv
  constructor
  · rintro ⟨h1, h2⟩
    rw [Int64.le_iff_toInt_le] at h1 h2
    by_cases c : v = -1
    · rw [if_pos c]; rfl
    · have c2 : v.toInt ≠ -1 := fun q => c (Int64.toInt_inj.mp (by rw [q, e1]))
      rw [if_neg c, if_pos ⟨by rw [Int64.le_iff_toInt_le]; omega, by rw [Int64.lt_iff_toInt_lt]; omega⟩]; rfl
  · intro h
    by_cases c : v = -1
    · rw [c, Int64.le_iff_toInt_le, Int64.le_iff_toInt_le]
      omega
    · rw [if_neg c] at h
      by_cases c2 : 0 ≤ v ∧ v < lN s
      · obtain ⟨h1, h2⟩ := c2
        rw [Int64.le_iff_toInt_le] at h1
        rw [Int64.lt_iff_toInt_lt] at h2
        rw [Int64.le_iff_toInt_le, Int64.le_iff_toInt_le]
        omega
      · rw [if_neg c2] at h; cases h
/-- the values that a sheet of n numbers g tells of all nodes -/
def tldB (N : Net) (n : Nat) (g : Nat → Int64) : Bool := decide (n = nM N) && (List.range' 0 (nM N)).all fun k => (tv (nS N k) (g k)).isSome
theorem m_isTold {d j t n : Nat} {Q : Option PV → St → Prop} {N : Net} {σ : St} {g : Nat → Int64} (h : MI σ N) (hj : j < 4) (hs : shAt σ j (some (t, n, g))) : Ca (d + 2) 173 [vR 97 9, vI (nI j)] σ Q ↔ Q (some (vI (b2 (tldB N n g = true)))) σ := by
  have h7 := MI_7 h
  have hF := h.1
  obtain ⟨a1, a2, a3, a4, a5, a6⟩ := hs
  rw [ca_at (K := kX9_isTold) (ls := [vR 97 9, vI (nI j), vU, vU, vU]) rfl rfl rfl]
  unfold tldB
  simp (disch := first | exact is2I | exact is2R | omega) only [z_X9_isTold_0, z_X9_isTold_1, z_X9_isTold_4, z_X9_isTold_5, z_X9_isTold_6, z_X9_isTold_7, z_X9_isTold_10, z_X9_isTold_13, z_X9_isTold_14, z_X9_isTold_15, z_X9_isTold_16, mf_r1 hF, mf_r2 hF, mf_r3 hF, mf_r5 hF, mf_r10 hF, mf_r11 hF, mf_r13 hF, mf_r15 hF, mf_r16 hF, mf_r19 hF, mf_r21 hF, mf_r22 hF, mf_r23 hF, mf_r24 hF, mf_r25 hF, mf_r26 hF, mf_r27 hF, mf_r29 hF, mf_r30 hF, mf_r31 hF, mf_r32 hF, mf_s98 hF, mf_s99 hF, mf_s100 hF, mf_s101 hF, mf_s102 hF, mf_s103 hF, mf_s104 hF, mf_s105 hF, mf_s106 hF, mf_s107 hF, mf_s108 hF, mf_s109 hF, mf_s110 hF, mf_s111 hF, mf_s112 hF, mf_s113 hF, mf_s114 hF, mf_s115 hF, mf_s116 hF, mf_s117 hF, mf_s118 hF, i_many h, kIn, kCl, a4, kEq, rk_b0, true_and, Option.toList_some, Option.toList_none, List.cons_append, List.nil_append, is2IT, is2RT, if_true, if_false]
  by_cases cn : n = nM N
  · rw [if_pos cn, decide_eq_true cn, Bool.true_and]
    have loop : ∀ r k l3 l4, k + r = nM N → is2 l3 = false ∨ l3 = l3 → (At (d + 1) kX9_isTold 17 [vR 97 9, vI (nI j), vI (nI k), l3, l4] [] σ Q ↔ Q (some (vI (b2 (((List.range' k r).all fun k => (tv (nS N k) (g k)).isSome) = true)))) σ) := by
      intro r
      induction r with
      | zero =>
        intro k l3 l4 hk _
        have hk' : k = nM N := by omega
        subst hk'
        simp (disch := first | exact is2I | exact is2R | omega) only [z_X9_isTold_17, z_X9_isTold_18, z_X9_isTold_19, z_X9_isTold_22, z_X9_isTold_64, z_X9_isTold_65, i_many h, kLe, Nat.le_refl, rk_b1, true_and, Option.toList_some, Option.toList_none, List.cons_append, List.nil_append, is2IT, is2RT, if_true, if_false]
        exact Iff.rfl
      | succ r ih =>
        intro k l3 l4 hk _
        have hk1 : k < nM N := by omega
        have c : ¬ nM N ≤ k := by omega
        have hs := NV_s h hk1
        have ti := @tv_in (nS N k) (by omega) (g k)
        rw [List.range'_succ, List.all_cons]
        simp (disch := first | exact is2I | exact is2R | omega) only [z_X9_isTold_17, z_X9_isTold_18, z_X9_isTold_19, z_X9_isTold_22, z_X9_isTold_25, z_X9_isTold_26, z_X9_isTold_29, z_X9_isTold_31, z_X9_isTold_32, z_X9_isTold_33, z_X9_isTold_34, z_X9_isTold_35, z_X9_isTold_36, z_X9_isTold_37, z_X9_isTold_38, z_X9_isTold_41, z_X9_isTold_42, z_X9_isTold_43, z_X9_isTold_44, z_X9_isTold_47, z_X9_isTold_48, z_X9_isTold_49, z_X9_isTold_50, z_X9_isTold_53, z_X9_isTold_56, z_X9_isTold_57, z_X9_isTold_58, mf_r1 hF, mf_r2 hF, mf_r3 hF, mf_r5 hF, mf_r10 hF, mf_r11 hF, mf_r13 hF, mf_r15 hF, mf_r16 hF, mf_r19 hF, mf_r21 hF, mf_r22 hF, mf_r23 hF, mf_r24 hF, mf_r25 hF, mf_r26 hF, mf_r27 hF, mf_r29 hF, mf_r30 hF, mf_r31 hF, mf_r32 hF, mf_s98 hF, mf_s99 hF, mf_s100 hF, mf_s101 hF, mf_s102 hF, mf_s103 hF, mf_s104 hF, mf_s105 hF, mf_s106 hF, mf_s107 hF, mf_s108 hF, mf_s109 hF, mf_s110 hF, mf_s111 hF, mf_s112 hF, mf_s113 hF, mf_s114 hF, mf_s115 hF, mf_s116 hF, mf_s117 hF, mf_s118 hF, i_many h, kLe, c, kLM, nI_add, kIn, kCl, a6 k (by omega), i_is0 h hk1, m_in, ti, b2_0, kAL, rk_b0, true_and, Option.toList_some, Option.toList_none, List.cons_append, List.nil_append, is2IT, is2RT, if_true, if_false]
        cases (tv (nS N k) (g k)).isSome with
        | false => simp only [Bool.false_eq_true, not_false_eq_true, if_true, Bool.false_and]; exact Iff.rfl
        | true =>
          simp only [not_true_eq_false, if_false, Bool.true_and]
          rw [z_X9_isTold_61]
          exact ih (k + 1) _ _ (by omega) (Or.inr rfl)
    exact loop (nM N) 0 vU vU (by omega) (Or.inr rfl)
  · rw [if_neg cn, decide_eq_false cn, Bool.false_and]
    exact Iff.rfl
