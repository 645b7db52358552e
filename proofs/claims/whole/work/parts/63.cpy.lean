/-! ===== copy: the reference ===== -/
def cpL (σ : St) (a b lo hi : Nat) : St := (σ.1, fun x i => if x = 118 ∧ b + lo ≤ i ∧ i < b + hi then rL σ 118 (a + (i - b)) else rL σ x i, σ.2.2)
theorem rL_cpL {σ : St} {a b lo hi x i : Nat} : rL (cpL σ a b lo hi) x i = if x = 118 ∧ b + lo ≤ i ∧ i < b + hi then rL σ 118 (a + (i - b)) else rL σ x i := rfl
theorem cpL_e {σ : St} {a b lo : Nat} : cpL σ a b lo lo = σ := by
  have e : (fun x i => if x = 118 ∧ b + lo ≤ i ∧ i < b + lo then rL σ 118 (a + (i - b)) else rL σ x i) = σ.2.1 := funext fun x => funext fun i => if_neg (fun q => by omega)
  show (σ.1, (fun x i => if x = 118 ∧ b + lo ≤ i ∧ i < b + lo then rL σ 118 (a + (i - b)) else rL σ x i), σ.2.2) = σ
  rw [e]
theorem cpL_up {σ : St} {a b hi : Nat} : wL (cpL σ a b 0 hi) 118 (b + hi) (rL σ 118 (a + hi)) = cpL σ a b 0 (hi + 1) := by
  have e : (fun x i => if x = 118 ∧ i = b + hi then rL σ 118 (a + hi) else (if x = 118 ∧ b + 0 ≤ i ∧ i < b + hi then rL σ 118 (a + (i - b)) else rL σ x i)) = (fun x i => if x = 118 ∧ b + 0 ≤ i ∧ i < b + (hi + 1) then rL σ 118 (a + (i - b)) else rL σ x i) := funext fun x => funext fun i => by
    by_cases h1 : x = 118 ∧ i = b + hi
    · rw [if_pos h1, if_pos ⟨h1.1, by omega, by omega⟩, h1.2, Nat.add_sub_cancel_left]
    · rw [if_neg h1]
      by_cases h2 : x = 118 ∧ b + 0 ≤ i ∧ i < b + hi
      · rw [if_pos h2, if_pos ⟨h2.1, h2.2.1, by omega⟩]
      · rw [if_neg h2, if_neg (fun q => h2 ⟨q.1, q.2.1, by
          have : i ≠ b + hi := fun w => h1 ⟨q.1, w⟩
          omega⟩)]
  show (σ.1, (fun x i => if x = 118 ∧ i = b + hi then rL σ 118 (a + hi) else (if x = 118 ∧ b + 0 ≤ i ∧ i < b + hi then rL σ 118 (a + (i - b)) else rL σ x i)), σ.2.2) = _
  rw [e]
  rfl
theorem cpL_dn {σ : St} {a b lo hi : Nat} (h : lo < hi) : wL (cpL σ a b (lo + 1) hi) 118 (b + lo) (rL σ 118 (a + lo)) = cpL σ a b lo hi := by
  have e : (fun x i => if x = 118 ∧ i = b + lo then rL σ 118 (a + lo) else (if x = 118 ∧ b + (lo + 1) ≤ i ∧ i < b + hi then rL σ 118 (a + (i - b)) else rL σ x i)) = (fun x i => if x = 118 ∧ b + lo ≤ i ∧ i < b + hi then rL σ 118 (a + (i - b)) else rL σ x i) := funext fun x => funext fun i => by
    by_cases h1 : x = 118 ∧ i = b + lo
    · rw [if_pos h1, if_pos ⟨h1.1, by omega, by omega⟩, h1.2, Nat.add_sub_cancel_left]
    · rw [if_neg h1]
      by_cases h2 : x = 118 ∧ b + (lo + 1) ≤ i ∧ i < b + hi
      · rw [if_pos h2, if_pos ⟨h2.1, by omega, h2.2.2⟩]
      · rw [if_neg h2, if_neg (fun q => h2 ⟨q.1, by
          have : i ≠ b + lo := fun w => h1 ⟨q.1, w⟩
          omega, q.2.2⟩)]
  show (σ.1, (fun x i => if x = 118 ∧ i = b + lo then rL σ 118 (a + lo) else (if x = 118 ∧ b + (lo + 1) ≤ i ∧ i < b + hi then rL σ 118 (a + (i - b)) else rL σ x i)), σ.2.2) = _
  rw [e]
  rfl
/-- a run of n numbers from i on and from j on, in rows of a and b -/
def runP (a b : Nat) (i j n : Int32) : Option (Nat × Nat × Nat) := match pN 41 n with
  | none => none
  | some N => match pN 41 i with
    | none => none
    | some I => match pN 41 j with
      | none => none
      | some J => if I + N ≤ a ∧ J + N ≤ b then some (I, J, N) else none
theorem run_some {a b : Nat} (ha : a ≤ 40) (hb : b ≤ 40) {i j n : Int32} {I J N : Nat} : runP a b i j n = some (I, J, N) ↔ n = nI N ∧ i = nI I ∧ j = nI J ∧ I + N ≤ a ∧ J + N ≤ b := by
  unfold runP
  constructor
  · intro h
    cases e1 : pN 41 n with
    | none => rw [e1] at h; cases h
    | some N' =>
      cases e2 : pN 41 i with
      | none => rw [e1, e2] at h; cases h
      | some I' =>
        cases e3 : pN 41 j with
        | none => rw [e1, e2, e3] at h; cases h
        | some J' =>
          rw [e1, e2, e3] at h
          dsimp only at h
          split at h
          · rename_i hc
            cases h
            exact ⟨((pN_some (by decide)).mp e1).2, ((pN_some (by decide)).mp e2).2, ((pN_some (by decide)).mp e3).2, hc.1, hc.2⟩
          · cases h
  · rintro ⟨rfl, rfl, rfl, h1, h2⟩
    rw [(pN_some (m := 41) (by decide)).mpr ⟨by omega, rfl⟩, (pN_some (m := 41) (k := I) (by decide)).mpr ⟨by omega, rfl⟩, (pN_some (m := 41) (k := J) (by decide)).mpr ⟨by omega, rfl⟩]
    dsimp only
    rw [if_pos ⟨h1, h2⟩]
def cpyF (f : Shs) (s i o j n : Int32) : Int32 × Shs := match pN 4 s with
  | none => (-2, f)
  | some S => match pN 4 o with
    | none => (-2, f)
    | some O => match f S with
      | none => (-11, f)
      | some e => match f O with
        | none => (-11, f)
        | some e2 => if e.1 = e2.1 then (match runP e.2.1 e2.2.1 i j n with
          | none => (-12, f)
          | some r => (n, fun y => if y = O then some (e2.1, e2.2.1, fun z => if r.2.1 ≤ z ∧ z < r.2.1 + r.2.2 then e.2.2 (r.1 + (z - r.2.1)) else e2.2.2 z) else f y)) else (-13, f)
theorem sub_i {z : Nat} (hz : z ≤ 40) {n : Int32} (hn : ¬ n < 0) : (nI z - n).toInt = (z : Int) - n.toInt := by
  have h0 : (0 : Int32).toInt = 0 := by decide
  rw [Int32.lt_iff_toInt_lt, h0] at hn
  have h1 := Int32.toInt_lt n
  rw [Int32.toInt_sub, nI_toInt (by omega), Int.bmod_eq_of_le (by omega) (by omega)]
theorem cp_l {d S O I J N : Nat} {Q : Option PV → St → Prop} {σ : St} {u : Bool} {l8 : PV} (hF : MF σ) (hS : S < 4) (hO : O < 4) (hI : I + N ≤ 40) (hJ : J + N ≤ 40) (hd : ∀ k, k < N → ¬ (40 * O + J + (if u = true then N - k else 0) ≤ 40 * S + I + (if u = true then N - 1 - k else k) ∧ 40 * S + I + (if u = true then N - 1 - k else k) < 40 * O + J + (if u = true then N else k))) : ∀ r k l8, k + r = N → (At d kX9_copy 121 [vR 97 9, vI (nI S), vI (nI I), vI (nI O), vI (nI J), vI (nI N), vI (b2 (u = true)), vI (nI k), l8] [] (cpL σ (40 * S + I) (40 * O + J) (if u = true then N - k else 0) (if u = true then N else k)) Q ↔ Q (some (vI (nI N))) (cpL σ (40 * S + I) (40 * O + J) 0 N))
  | 0, k, l8, hk => by
    have : k = N := by omega
    subst this
    have e : (if u = true then k - k else 0) = 0 := by split <;> omega
    have e2 : (if u = true then k else k) = k := by split <;> rfl
    rw [e, e2]
    simp (disch := first | exact is2I | exact is2R | omega) only [z_X9_copy_121, z_X9_copy_123, z_X9_copy_125, z_X9_copy_182, z_X9_copy_184, kLe, Nat.le_refl, true_and, Option.toList_some, Option.toList_none, List.cons_append, List.nil_append, is2IT, is2RT, if_true, if_false]
  | r + 1, k, l8, hk => by
    have c : ¬ N ≤ k := by omega
    have hdk := hd k (by omega)
    have ih := fun l8 => cp_l (d := d) (Q := Q) (l8 := l8) hF hS hO hI hJ hd r (k + 1) l8 (by omega)
    have hF2 : MF (cpL σ (40 * S + I) (40 * O + J) (if u = true then N - k else 0) (if u = true then N else k)) := MF_of hF (fun _ _ => rfl) rfl
    have hr : rL (cpL σ (40 * S + I) (40 * O + J) (if u = true then N - k else 0) (if u = true then N else k)) 118 (40 * S + I + (if u = true then N - 1 - k else k)) = rL σ 118 (40 * S + I + (if u = true then N - 1 - k else k)) := by
      rw [rL_cpL, if_neg (fun q => hdk q.2)]
    cases u with
    | true =>
      simp only [if_true] at ih hF2 hr ⊢
      have e1 : nI N - (1 : Int32) - nI k = nI (N - 1 - k) := by rw [show (1 : Int32) = nI 1 from rfl, pk_sub (by omega), pk_sub (by omega)]
      simp (disch := first | exact is2I | exact is2R | omega) only [z_X9_copy_121, z_X9_copy_123, z_X9_copy_125, z_X9_copy_128, z_X9_copy_130, z_X9_copy_133, z_X9_copy_135, z_X9_copy_136, z_X9_copy_137, z_X9_copy_139, z_X9_copy_140, z_X9_copy_143, z_X9_copy_145, z_X9_copy_147, z_X9_copy_148, z_X9_copy_151, z_X9_copy_153, z_X9_copy_154, z_X9_copy_155, z_X9_copy_157, z_X9_copy_158, z_X9_copy_160, z_X9_copy_161, z_X9_copy_162, z_X9_copy_165, z_X9_copy_167, z_X9_copy_168, z_X9_copy_169, z_X9_copy_170, z_X9_copy_171, z_X9_copy_173, z_X9_copy_174, z_X9_copy_175, z_X9_copy_176, mf_r1 hF2, mf_r2 hF2, mf_r3 hF2, mf_r5 hF2, mf_r10 hF2, mf_r11 hF2, mf_r13 hF2, mf_r15 hF2, mf_r16 hF2, mf_r19 hF2, mf_r21 hF2, mf_r22 hF2, mf_r23 hF2, mf_r24 hF2, mf_r25 hF2, mf_r26 hF2, mf_r27 hF2, mf_r29 hF2, mf_r30 hF2, mf_r31 hF2, mf_r32 hF2, mf_s98 hF2, mf_s99 hF2, mf_s100 hF2, mf_s101 hF2, mf_s102 hF2, mf_s103 hF2, mf_s104 hF2, mf_s105 hF2, mf_s106 hF2, mf_s107 hF2, mf_s108 hF2, mf_s109 hF2, mf_s110 hF2, mf_s111 hF2, mf_s112 hF2, mf_s113 hF2, mf_s114 hF2, mf_s115 hF2, mf_s116 hF2, mf_s117 hF2, mf_s118 hF2, kLe, c, b2_0, not_true_eq_false, e1, kLM, nI_add, kIn, kCl, hr, kAL, true_and, Option.toList_some, Option.toList_none, List.cons_append, List.nil_append, is2IT, is2RT, if_true, if_false]
      have st := @cpL_dn σ (40 * S + I) (40 * O + J) (N - 1 - k) N (by omega)
      rw [show N - 1 - k + 1 = N - k by omega] at st
      rw [z_X9_copy_179, st, show N - 1 - k = N - (k + 1) by omega]
      exact ih _
    | false =>
      simp only [Bool.false_eq_true, if_false] at ih hF2 hr ⊢
      simp (disch := first | exact is2I | exact is2R | omega) only [z_X9_copy_121, z_X9_copy_123, z_X9_copy_125, z_X9_copy_128, z_X9_copy_130, z_X9_copy_133, z_X9_copy_135, z_X9_copy_136, z_X9_copy_137, z_X9_copy_139, z_X9_copy_140, z_X9_copy_143, z_X9_copy_145, z_X9_copy_147, z_X9_copy_148, z_X9_copy_151, z_X9_copy_153, z_X9_copy_154, z_X9_copy_155, z_X9_copy_157, z_X9_copy_158, z_X9_copy_160, z_X9_copy_161, z_X9_copy_162, z_X9_copy_165, z_X9_copy_167, z_X9_copy_168, z_X9_copy_169, z_X9_copy_170, z_X9_copy_171, z_X9_copy_173, z_X9_copy_174, z_X9_copy_175, z_X9_copy_176, mf_r1 hF2, mf_r2 hF2, mf_r3 hF2, mf_r5 hF2, mf_r10 hF2, mf_r11 hF2, mf_r13 hF2, mf_r15 hF2, mf_r16 hF2, mf_r19 hF2, mf_r21 hF2, mf_r22 hF2, mf_r23 hF2, mf_r24 hF2, mf_r25 hF2, mf_r26 hF2, mf_r27 hF2, mf_r29 hF2, mf_r30 hF2, mf_r31 hF2, mf_r32 hF2, mf_s98 hF2, mf_s99 hF2, mf_s100 hF2, mf_s101 hF2, mf_s102 hF2, mf_s103 hF2, mf_s104 hF2, mf_s105 hF2, mf_s106 hF2, mf_s107 hF2, mf_s108 hF2, mf_s109 hF2, mf_s110 hF2, mf_s111 hF2, mf_s112 hF2, mf_s113 hF2, mf_s114 hF2, mf_s115 hF2, mf_s116 hF2, mf_s117 hF2, mf_s118 hF2, kLe, c, b2_0, Bool.false_eq_true, not_false_eq_true, kLM, nI_add, kIn, kCl, hr, kAL, true_and, Option.toList_some, Option.toList_none, List.cons_append, List.nil_append, is2IT, is2RT, if_true, if_false]
      rw [z_X9_copy_179, cpL_up]
      exact ih _
set_option maxHeartbeats 1000000 in
theorem m_copy {d : Nat} {Q : Option PV → St → Prop} {σ : St} {S : MSt} {s i o j n : Int32} (h : MS σ S) (hQ : ∀ σ', MS σ' (S.1, S.2.1, S.2.2.1, (cpyF S.2.2.2 s i o j n).2) → Fr9 σ σ' → Q (some (vI (cpyF S.2.2.2 s i o j n).1)) σ') : Ca (d + 3) 215 [vR 97 9, vI s, vI i, vI o, vI j, vI n] σ Q := by
  have hF := h.1.1
  have hS := MS_sh h
  rw [ca_at (K := kX9_copy) (ls := [vR 97 9, vI s, vI i, vI o, vI j, vI n, vU, vU, vU]) rfl rfl rfl]
  unfold cpyF at hQ
  have bad : ∀ s o : Int32, (At (d + 2) kX9_copy 14 [vR 97 9, vI s, vI i, vI o, vI j, vI n, vU, vU, vU] [] σ Q ↔ Q (some (vI (-2))) σ) := fun s o => by simp only [z_X9_copy_14, z_X9_copy_16, true_and, Option.toList_some, Option.toList_none, List.cons_append, List.nil_append, is2IT, is2RT, if_true, if_false]
  cases hp : pN 4 s with
  | none =>
    rw [hp] at hQ
    simp (disch := first | exact is2I | exact is2R | omega) only [z_X9_copy_0, z_X9_copy_1, z_X9_copy_4, m_isSheet, b2_0, pN_none.mp hp, not_false_eq_true, bad, true_and, Option.toList_some, Option.toList_none, List.cons_append, List.nil_append, is2IT, is2RT, if_true, if_false]
    exact hQ σ h Fr9_rf
  | some A =>
    rw [hp] at hQ
    obtain ⟨hA, rfl⟩ := (pN_some (by decide)).mp hp
    have hP : 0 ≤ nI A ∧ nI A < nI 4 := (lt_nI (by decide)).mpr ⟨A, hA, rfl⟩
    dsimp only at hQ
    cases hp2 : pN 4 o with
    | none =>
      rw [hp2] at hQ
      simp (disch := first | exact is2I | exact is2R | omega) only [z_X9_copy_0, z_X9_copy_1, z_X9_copy_4, z_X9_copy_7, z_X9_copy_8, z_X9_copy_11, m_isSheet, b2_0, hP, pN_none.mp hp2, and_self, not_true_eq_false, not_false_eq_true, bad, true_and, Option.toList_some, Option.toList_none, List.cons_append, List.nil_append, is2IT, is2RT, if_true, if_false]
      exact hQ σ h Fr9_rf
    | some B =>
      rw [hp2] at hQ
      obtain ⟨hB, rfl⟩ := (pN_some (by decide)).mp hp2
      have hP2 : 0 ≤ nI B ∧ nI B < nI 4 := (lt_nI (by decide)).mpr ⟨B, hB, rfl⟩
      dsimp only at hQ
      have n10 : ((1 : Int32) = 0) = False := eq_false (by decide)
      cases hf : S.2.2.2 A with
      | none =>
        rw [hf] at hQ
        simp (disch := first | exact is2I | exact is2R | omega) only [z_X9_copy_0, z_X9_copy_1, z_X9_copy_4, z_X9_copy_7, z_X9_copy_8, z_X9_copy_11, z_X9_copy_14, z_X9_copy_16, z_X9_copy_17, z_X9_copy_18, z_X9_copy_21, z_X9_copy_22, z_X9_copy_23, z_X9_copy_26, z_X9_copy_27, z_X9_copy_30, z_X9_copy_31, z_X9_copy_32, z_X9_copy_35, z_X9_copy_37, m_isSheet, b2_0, hP, hP2, and_self, not_true_eq_false, mf_r1 hF, mf_r2 hF, mf_r3 hF, mf_r5 hF, mf_r10 hF, mf_r11 hF, mf_r13 hF, mf_r15 hF, mf_r16 hF, mf_r19 hF, mf_r21 hF, mf_r22 hF, mf_r23 hF, mf_r24 hF, mf_r25 hF, mf_r26 hF, mf_r27 hF, mf_r29 hF, mf_r30 hF, mf_r31 hF, mf_r32 hF, mf_s98 hF, mf_s99 hF, mf_s100 hF, mf_s101 hF, mf_s102 hF, mf_s103 hF, mf_s104 hF, mf_s105 hF, mf_s106 hF, mf_s107 hF, mf_s108 hF, mf_s109 hF, mf_s110 hF, mf_s111 hF, mf_s112 hF, mf_s113 hF, mf_s114 hF, mf_s115 hF, mf_s116 hF, mf_s117 hF, mf_s118 hF, kIn, kCl, sh_none hS hA hf, true_and, Option.toList_some, Option.toList_none, List.cons_append, List.nil_append, is2IT, is2RT, if_true, if_false]
        exact hQ σ h Fr9_rf
      | some e =>
        obtain ⟨t, z, g⟩ := e
        have ha := sh_at hS hA
        rw [hf] at ha
        obtain ⟨a1, a2, a3, a4, a5, a6⟩ := ha
        rw [hf] at hQ
        dsimp only at hQ
        cases hf2 : S.2.2.2 B with
        | none =>
          rw [hf2] at hQ
          simp (disch := first | exact is2I | exact is2R | omega) only [z_X9_copy_0, z_X9_copy_1, z_X9_copy_4, z_X9_copy_7, z_X9_copy_8, z_X9_copy_11, z_X9_copy_14, z_X9_copy_16, z_X9_copy_17, z_X9_copy_18, z_X9_copy_21, z_X9_copy_22, z_X9_copy_23, z_X9_copy_26, z_X9_copy_27, z_X9_copy_30, z_X9_copy_31, z_X9_copy_32, z_X9_copy_35, z_X9_copy_37, m_isSheet, b2_0, hP, hP2, and_self, not_true_eq_false, mf_r1 hF, mf_r2 hF, mf_r3 hF, mf_r5 hF, mf_r10 hF, mf_r11 hF, mf_r13 hF, mf_r15 hF, mf_r16 hF, mf_r19 hF, mf_r21 hF, mf_r22 hF, mf_r23 hF, mf_r24 hF, mf_r25 hF, mf_r26 hF, mf_r27 hF, mf_r29 hF, mf_r30 hF, mf_r31 hF, mf_r32 hF, mf_s98 hF, mf_s99 hF, mf_s100 hF, mf_s101 hF, mf_s102 hF, mf_s103 hF, mf_s104 hF, mf_s105 hF, mf_s106 hF, mf_s107 hF, mf_s108 hF, mf_s109 hF, mf_s110 hF, mf_s111 hF, mf_s112 hF, mf_s113 hF, mf_s114 hF, mf_s115 hF, mf_s116 hF, mf_s117 hF, mf_s118 hF, kIn, kCl, a1, n10, sh_none hS hB hf2, true_and, Option.toList_some, Option.toList_none, List.cons_append, List.nil_append, is2IT, is2RT, if_true, if_false]
          exact hQ σ h Fr9_rf
        | some e2 =>
          obtain ⟨t2, z2, g2⟩ := e2
          have hb := sh_at hS hB
          rw [hf2] at hb
          obtain ⟨b1, b2', b3, b4, b5, b6⟩ := hb
          rw [hf2] at hQ
          dsimp only at hQ
          simp (disch := first | exact is2I | exact is2R | omega) only [z_X9_copy_0, z_X9_copy_1, z_X9_copy_4, z_X9_copy_7, z_X9_copy_8, z_X9_copy_11, z_X9_copy_14, z_X9_copy_16, z_X9_copy_17, z_X9_copy_18, z_X9_copy_21, z_X9_copy_22, z_X9_copy_23, z_X9_copy_26, z_X9_copy_27, z_X9_copy_30, z_X9_copy_31, z_X9_copy_32, z_X9_copy_35, z_X9_copy_37, z_X9_copy_38, z_X9_copy_39, z_X9_copy_42, z_X9_copy_43, z_X9_copy_44, z_X9_copy_45, z_X9_copy_48, z_X9_copy_49, z_X9_copy_50, m_isSheet, b2_0, hP, hP2, and_self, not_true_eq_false, mf_r1 hF, mf_r2 hF, mf_r3 hF, mf_r5 hF, mf_r10 hF, mf_r11 hF, mf_r13 hF, mf_r15 hF, mf_r16 hF, mf_r19 hF, mf_r21 hF, mf_r22 hF, mf_r23 hF, mf_r24 hF, mf_r25 hF, mf_r26 hF, mf_r27 hF, mf_r29 hF, mf_r30 hF, mf_r31 hF, mf_r32 hF, mf_s98 hF, mf_s99 hF, mf_s100 hF, mf_s101 hF, mf_s102 hF, mf_s103 hF, mf_s104 hF, mf_s105 hF, mf_s106 hF, mf_s107 hF, mf_s108 hF, mf_s109 hF, mf_s110 hF, mf_s111 hF, mf_s112 hF, mf_s113 hF, mf_s114 hF, mf_s115 hF, mf_s116 hF, mf_s117 hF, mf_s118 hF, kIn, kCl, a1, b1, a3, b3, n10, kEq, true_and, Option.toList_some, Option.toList_none, List.cons_append, List.nil_append, is2IT, is2RT, if_true, if_false]
          by_cases ct : t = t2
          · rw [if_pos ct] at hQ ⊢
            have out : runP z z2 i j n = none → At (d + 2) kX9_copy 97 [vR 97 9, vI (nI A), vI i, vI (nI B), vI j, vI n, vU, vU, vU] [] σ Q := fun q => by
              rw [q] at hQ
              simp only [z_X9_copy_97, z_X9_copy_99, true_and, Option.toList_some, Option.toList_none, List.cons_append, List.nil_append, is2IT, is2RT, if_true, if_false]
              exact hQ σ h Fr9_rf
            have no : (∀ I J N : Nat, n = nI N → i = nI I → j = nI J → I + N ≤ z → J + N ≤ z2 → False) → runP z z2 i j n = none := fun q => by
              cases er : runP z z2 i j n with
              | none => rfl
              | some r =>
                obtain ⟨I, J, N⟩ := r
                obtain ⟨r1, r2, r3, r4, r5⟩ := (run_some a5 b5).mp er
                exact (q I J N r1 r2 r3 r4 r5).elim
            simp (disch := first | exact is2I | exact is2R | omega) only [z_X9_copy_56, z_X9_copy_58, z_X9_copy_61, z_X9_copy_62, z_X9_copy_65, z_X9_copy_67, z_X9_copy_70, z_X9_copy_71, z_X9_copy_72, z_X9_copy_75, z_X9_copy_76, z_X9_copy_77, z_X9_copy_79, z_X9_copy_80, z_X9_copy_83, z_X9_copy_85, z_X9_copy_86, z_X9_copy_89, z_X9_copy_90, z_X9_copy_91, z_X9_copy_93, z_X9_copy_94, mf_r1 hF, mf_r2 hF, mf_r3 hF, mf_r5 hF, mf_r10 hF, mf_r11 hF, mf_r13 hF, mf_r15 hF, mf_r16 hF, mf_r19 hF, mf_r21 hF, mf_r22 hF, mf_r23 hF, mf_r24 hF, mf_r25 hF, mf_r26 hF, mf_r27 hF, mf_r29 hF, mf_r30 hF, mf_r31 hF, mf_r32 hF, mf_s98 hF, mf_s99 hF, mf_s100 hF, mf_s101 hF, mf_s102 hF, mf_s103 hF, mf_s104 hF, mf_s105 hF, mf_s106 hF, mf_s107 hF, mf_s108 hF, mf_s109 hF, mf_s110 hF, mf_s111 hF, mf_s112 hF, mf_s113 hF, mf_s114 hF, mf_s115 hF, mf_s116 hF, mf_s117 hF, mf_s118 hF, kIn, kCl, a4, b4, true_and, Option.toList_some, Option.toList_none, List.cons_append, List.nil_append, is2IT, is2RT, if_true, if_false]
            by_cases c1 : n < 0
            · rw [if_pos c1]
              exact out (no fun I J N r1 r2 r3 r4 r5 => by rw [r1] at c1; exact nI_pos (by omega) c1)
            · rw [if_neg c1]
              by_cases c2 : i < 0
              · rw [if_pos c2]
                exact out (no fun I J N r1 r2 r3 r4 r5 => by rw [r2] at c2; exact nI_pos (by omega) c2)
              · rw [if_neg c2]
                by_cases c3 : j < 0
                · rw [if_pos c3]
                  exact out (no fun I J N r1 r2 r3 r4 r5 => by rw [r3] at c3; exact nI_pos (by omega) c3)
                · rw [if_neg c3]
                  have s1 := sub_i a5 c1
                  have s2 := sub_i b5 c1
                  by_cases c4 : nI z - n < i
                  · rw [if_pos c4]
                    exact out (no fun I J N r1 r2 r3 r4 r5 => by
                      rw [Int32.lt_iff_toInt_lt, s1, r1, r2, nI_toInt (by omega), nI_toInt (by omega)] at c4
                      omega)
                  · rw [if_neg c4]
                    by_cases c5 : j ≤ nI z2 - n
                    · rw [if_pos c5]
                      obtain ⟨N, hN, rfl⟩ := nI_of c1
                      obtain ⟨I, hI, rfl⟩ := nI_of c2
                      obtain ⟨J, hJ, rfl⟩ := nI_of c3
                      rw [Int32.lt_iff_toInt_lt, s1, nI_toInt (by omega), nI_toInt (by omega)] at c4
                      rw [Int32.le_iff_toInt_le, s2, nI_toInt (by omega), nI_toInt (by omega)] at c5
                      have er := (run_some a5 b5).mpr ⟨rfl, rfl, rfl, show I + N ≤ z by omega, show J + N ≤ z2 by omega⟩
                      rw [er] at hQ
                      have fin : Q (some (vI (nI N))) (cpL σ (40 * A + I) (40 * B + J) 0 N) := by
                        have fr : Fm ISh LSh σ (cpL σ (40 * A + I) (40 * B + J) 0 N) := ⟨fun _ _ _ => rfl, fun a i q => by
                          rw [rL_cpL, if_neg (fun w => by rw [w.1] at q; cases q)], fun _ _ => rfl, rfl, rfl⟩
                        refine hQ _ (MS_shn h fr (sh_set hS (e := some (t2, z2, fun w => if J ≤ w ∧ w < J + N then g (I + (w - J)) else g2 w)) ⟨b1, b2', b3, b4, b5, fun w hw => ?_⟩ (fun y hy cy => ⟨rfl, rfl, rfl, fun w hw => by rw [rL_cpL, if_neg (fun q => by omega)]⟩))) (Fr9_sh fr)
                        show rL (cpL σ (40 * A + I) (40 * B + J) 0 N) 118 (40 * B + w) = if J ≤ w ∧ w < J + N then g (I + (w - J)) else g2 w
                        rw [rL_cpL]
                        by_cases cw : J ≤ w ∧ w < J + N
                        · rw [if_pos ⟨rfl, by omega, by omega⟩, if_pos cw, show 40 * A + I + (40 * B + w - (40 * B + J)) = 40 * A + (I + (w - J)) by omega]
                          exact a6 _ (by omega)
                        · rw [if_neg (fun q => cw (by omega)), if_neg cw]
                          exact b6 w hw
                      simp (disch := first | exact is2I | exact is2R | omega) only [z_X9_copy_100, z_X9_copy_101, z_X9_copy_102, z_X9_copy_105, z_X9_copy_106, z_X9_copy_108, z_X9_copy_111, z_X9_copy_112, z_X9_copy_115, z_X9_copy_116, z_X9_copy_118, z_X9_copy_119, kEq, kLe, true_and, Option.toList_some, Option.toList_none, List.cons_append, List.nil_append, is2IT, is2RT, if_true, if_false]
                      by_cases cu : A = B ∧ I < J
                      · rw [if_pos cu.1, if_neg (show ¬ J ≤ I by omega)]
                        have l := @cp_l (d + 2) A B I J N Q σ true vU hF hA hB (by omega) (by omega) (fun k hk => by simp only [if_true]; omega) N 0 vU (by omega)
                        have e1 : (if true = true then N - 0 else 0) = N := rfl
                        have e2 : (if true = true then N else 0) = N := rfl
                        rw [e1, e2, cpL_e] at l
                        exact l.mpr fin
                      · have l := @cp_l (d + 2) A B I J N Q σ false vU hF hA hB (by omega) (by omega) (fun k hk => by simp only [Bool.false_eq_true, if_false]; omega) N 0 vU (by omega)
                        have e1 : (if false = true then N - 0 else 0) = 0 := rfl
                        have e2 : (if false = true then N else 0) = 0 := rfl
                        rw [e1, e2, cpL_e] at l
                        have lf := l.mpr fin
                        by_cases cA : A = B
                        · rw [if_pos cA, if_pos (show J ≤ I by omega)]; exact lf
                        · rw [if_neg cA]; exact lf
                    · rw [if_neg c5]
                      exact out (no fun I J N r1 r2 r3 r4 r5 => c5 (by
                        rw [Int32.le_iff_toInt_le, s2, r1, r3, nI_toInt (by omega), nI_toInt (by omega)]
                        omega))
          · rw [if_neg ct] at hQ ⊢
            simp only [z_X9_copy_53, z_X9_copy_55, true_and, Option.toList_some, Option.toList_none, List.cons_append, List.nil_append, is2IT, is2RT, if_true, if_false]
            exact hQ σ h Fr9_rf
