/-! ===== the class: who is near ===== -/
theorem prs_bit {nr : Nat → Nat} {a b : Nat} (hab : a ≠ b) (i j : Nat) : (prs nr a b i).testBit j = ((nr i).testBit j || (decide (i = b ∧ j = a) || decide (i = a ∧ j = b))) := by
  unfold prs
  by_cases c1 : i = b
  · subst c1
    rw [if_pos rfl, Nat.testBit_or, Nat.testBit_two_pow, show decide (i = a ∧ j = i) = false from decide_eq_false (fun q => hab q.1.symm), Bool.or_false, show decide (i = i ∧ j = a) = decide (a = j) from decide_eq_decide.mpr ⟨fun q => q.2.symm, fun q => ⟨rfl, q.symm⟩⟩]
  · rw [if_neg c1, show decide (i = b ∧ j = a) = false from decide_eq_false (fun q => c1 q.1), Bool.false_or]
    by_cases c2 : i = a
    · subst c2
      rw [if_pos rfl, Nat.testBit_or, Nat.testBit_two_pow, show decide (i = i ∧ j = b) = decide (b = j) from decide_eq_decide.mpr ⟨fun q => q.2.symm, fun q => ⟨rfl, q.symm⟩⟩]
    · rw [if_neg c2, show decide (i = a ∧ j = b) = false from decide_eq_false (fun q => c2 q.1), Bool.or_false]
theorem SY_prs {nr : Nat → Nat} {m a b : Nat} (h : SY nr m) (hab : a ≠ b) (ha : a < m) (hb : b < m) : SY (prs nr a b) m := by
  refine ⟨fun i j => ?_, fun i => ?_, fun i hi => ?_⟩
  · rw [prs_bit hab, prs_bit hab, h.1 i j, show decide (i = b ∧ j = a) = decide (j = a ∧ i = b) from decide_eq_decide.mpr And.comm, show decide (i = a ∧ j = b) = decide (j = b ∧ i = a) from decide_eq_decide.mpr And.comm, Bool.or_comm (decide (j = a ∧ i = b))]
  · rw [prs_bit hab, h.2.1 i, show decide (i = b ∧ i = a) = false from decide_eq_false (by omega), show decide (i = a ∧ i = b) = false from decide_eq_false (by omega)]; rfl
  · unfold prs
    rw [if_neg (by omega), if_neg (by omega)]; exact h.2.2 i hi
theorem SY_nr1 {N : Net} {nr : Nat → Nat} {n : Nat} (hN : NV N) (h : SY nr (nM N)) (hn : n < nM N) : SY (nr1 N nr n) (nM N) := by
  unfold nr1
  cases nD N n with
  | some _ => exact h
  | none =>
    cases hp : nP N n with
    | none => exact h
    | some p =>
      have pk := (hN.2 n hn).2.2.1 p hp
      have s1 := SY_prs h (show n ≠ p by omega) hn (by omega)
      cases hq : nQ N n with
      | none => exact s1
      | some q =>
        have qk := ((hN.2 n hn).2.2.2.1 q hq).1
        obtain ⟨i, ip, ine⟩ := ((hN.2 n hn).2.2.2.1 q hq).2
        rw [hp] at ip; cases ip
        exact SY_prs (SY_prs s1 (show n ≠ q by omega) hn (by omega)) ine (by omega) (by omega)
theorem SY_nrR {N : Net} (hN : NV N) : ∀ r n nr, n + r = nM N → SY nr (nM N) → SY (nrR N r n nr) (nM N)
  | 0, _, _, _, h => h
  | r + 1, n, nr, hn, h => SY_nrR hN r (n + 1) _ (by omega) (SY_nr1 hN h (by omega))
theorem SY_0 {m : Nat} : SY (fun _ => 0) m := ⟨fun i j => (Nat.zero_testBit j).trans (Nat.zero_testBit i).symm, fun i => Nat.zero_testBit i, fun _ _ => rfl⟩
theorem SY_nrS {N : Net} (hN : NV N) : SY (nrS N) (nM N) := SY_nrR hN _ _ _ (by omega) SY_0
theorem SY_lcS {nr : Nat → Nat} {m n : Nat} (h : SY nr m) (hn : n < m) : SY (lcS nr n) m := by
  have bit : ∀ i j, (lcS nr n i).testBit j = (!decide (i = n) && (!decide (j = n) && ((nr i).testBit j || (!decide (i = j) && ((nr n).testBit i && (nr n).testBit j))))) := fun i j => by
    unfold lcS
    by_cases c1 : i = n
    · rw [if_pos c1, decide_eq_true c1, Nat.zero_testBit]; rfl
    · rw [if_neg c1, decide_eq_false c1, Bool.not_false, Bool.true_and]
      by_cases c2 : (nr n).testBit i = true
      · rw [if_pos c2, dif_bit, dif_bit, Nat.testBit_or, Nat.testBit_two_pow, Nat.testBit_two_pow, c2, Bool.true_and, show decide (n = j) = decide (j = n) from decide_eq_decide.mpr eq_comm]
        by_cases c3 : i = j
        · subst c3
          rw [decide_eq_true (show i = i from rfl), h.2.1 i, Bool.not_true, Bool.and_false, Bool.false_and, Bool.false_and, Bool.false_or, Bool.and_false]
        · rw [decide_eq_false c3, Bool.not_false, Bool.and_true, Bool.true_and, Bool.and_comm]
      · rw [if_neg c2, Bool.eq_false_iff.mpr c2, Bool.false_and, Bool.and_false, Bool.or_false]
        by_cases c3 : j = n
        · rw [decide_eq_true c3, c3, h.1 i n, Bool.eq_false_iff.mpr c2]; rfl
        · rw [decide_eq_false c3, Bool.not_false, Bool.true_and]
  refine ⟨fun i j => ?_, fun i => ?_, fun i hi => ?_⟩
  · rw [bit, bit, h.1 i j, show decide (i = j) = decide (j = i) from decide_eq_decide.mpr eq_comm, Bool.and_comm ((nr n).testBit i)]
    exact Bool.and_left_comm _ _ _
  · rw [bit, h.2.1 i, decide_eq_true (show i = i from rfl), Bool.not_true, Bool.false_and, Bool.or_false, Bool.and_false, Bool.and_false]
  · unfold lcS
    rw [if_neg (by omega), if_neg (by rw [SY_hi h hi]; exact fun q => by cases q)]
    exact h.2.2 i hi
theorem I75_70 {a i : Nat} (ha : a < 70) : I75 a i = false := Bool.eq_false_iff.mpr (fun q => by have := Nat.eq_of_beq_eq_true q; omega)
theorem be_l {d w : Nat} {Q : Option PV → St → Prop} {N : Net} {nrE : Nat → Nat} {σ0 : St} (h : CI σ0 w N) (hQ : ∀ σ', Fm I75 noL σ0 σ' → NR0 σ' nrE → Q none σ') : ∀ r n σ nr l3, n + r = nM N → Fm I75 noL σ0 σ → NR0 σ nr → nrR N r n nr = nrE → is2 l3 = false → At (d + 2) kX0_begin 10 [vR 74 1, vR w 6, vI (nI n), l3] [] σ Q
  | 0, n, σ, nr, l3, hn, hf, hN, he, h3 => by
    have h7 := CI_7 h
    have m1 : CI σ w N := CI_fm h hf (fun _ _ => I75_70)
    have e1 := m1.2.2.1.1
    have : n = nM N := by omega
    subst this
    have he' : nr = nrE := he
    subst he'
    simp (disch := first | exact is2I | exact is2R | omega) only [z_X0_begin_10, z_X0_begin_11, z_X0_begin_12, z_X0_begin_15, z_X0_begin_116, e1, kLe, Nat.le_refl, true_and, Option.toList_some, Option.toList_none, List.cons_append, List.nil_append, is2IT, is2RT, if_true, if_false]
    exact hQ σ hf hN
  | r + 1, n, σ, nr, l3, hn, hf, hN, he, h3 => by
    have h7 := CI_7 h
    have hn1 : n < nM N := by omega
    have m1 : CI σ w N := CI_fm h hf (fun _ _ => I75_70)
    have hX := m1.1
    have hw := m1.2.1
    have e1 := m1.2.2.1.1
    have c : ¬ nM N ≤ n := by omega
    obtain ⟨-, -, e4, e5, -, -, -, e9, -⟩ := m1.2.2.1.2 n hn1
    have eD := oI_none' (NV_d h.2.2.2 hn1)
    have ev : nI n + (1 : Int32) = nI (n + 1) := nI_add n 1
    have hP : ∀ j, nP N n = some j → j < nM N := fun j q => by have := (h.2.2.2.2 n hn1).2.2.1 j q; omega
    have hQ' : ∀ j, nQ N n = some j → j < nM N := fun j q => by have := ((h.2.2.2.2 n hn1).2.2.2.1 j q).1; omega
    have next : ∀ σ1, Fm I75 noL σ0 σ1 → NR0 σ1 (nr1 N nr n) → At (d + 2) kX0_begin 110 [vR 74 1, vR w 6, vI (nI n), vR (nO w n) 2] [] σ1 Q := fun σ1 hf1 hN1 => by
      simp (disch := first | exact is2I | exact is2R | omega) only [z_X0_begin_110, ev, true_and, Option.toList_some, Option.toList_none, List.cons_append, List.nil_append, is2IT, is2RT, if_true, if_false]
      rw [z_X0_begin_113]
      exact be_l h hQ r (n + 1) σ1 _ _ (by omega) hf1 hN1 he rfl
    simp (disch := first | exact is2I | exact is2R | omega) only [z_X0_begin_10, z_X0_begin_11, z_X0_begin_12, z_X0_begin_15, z_X0_begin_18, z_X0_begin_19, z_X0_begin_22, z_X0_begin_23, z_X0_begin_23s, z_X0_begin_24, z_X0_begin_25, z_X0_begin_26, z_X0_begin_29, z_X0_begin_30, z_X0_begin_33, e1, kLe, c, xw_a hX hw, xw_n hX hw (show n < 7 by omega), xs_a hX hw, kIn, kCl, e9, eD, h3, true_and, Option.toList_some, Option.toList_none, List.cons_append, List.nil_append, is2IT, is2RT, if_true, if_false]
    unfold nr1 at next
    cases hd : nD N n with
    | some u =>
      rw [hd] at next
      rw [if_neg (fun q => by cases q)]
      exact next σ hf hN
    | none =>
      rw [hd] at next
      rw [if_pos rfl]
      cases hp : nP N n with
      | none =>
        have hq : nQ N n = none := by
          cases e : nQ N n with
          | none => rfl
          | some q =>
            obtain ⟨i, h1, _⟩ := ((h.2.2.2.2 n hn1).2.2.2.1 q e).2
            rw [hp] at h1; cases h1
        rw [hp] at next
        have hasN : ∀ Q, (Ca (d + 2) 47 [vR w 6, vI (-1)] σ Q ↔ Q (some (vI (b2 ((none : Option Nat) ≠ none)))) σ) := fun Q => c_hasO (o := none) m1 (fun x q => by cases q)
        have fN : ((none : Option Nat) ≠ none) = False := eq_false (fun q => q rfl)
        rw [hp, oI_nn] at e4
        rw [hq, oI_nn] at e5
        simp (disch := first | exact is2I | exact is2R | omega) only [z_X0_begin_36, z_X0_begin_37, z_X0_begin_38, z_X0_begin_41, z_X0_begin_44, z_X0_begin_47, z_X0_begin_48, z_X0_begin_49, z_X0_begin_50, z_X0_begin_53, z_X0_begin_56, z_X0_begin_57, z_X0_begin_58, z_X0_begin_61, z_X0_begin_64, z_X0_begin_67, z_X0_begin_68, z_X0_begin_69, z_X0_begin_70, z_X0_begin_73, z_X0_begin_76, z_X0_begin_77, z_X0_begin_78, z_X0_begin_81, z_X0_begin_84, e4, e5, hasN, fN, b2_0, rk_b0, rk_b1, not_true_eq_false, not_false_eq_true, if_true, if_false, true_and, Option.toList_some, Option.toList_none, List.cons_append, List.nil_append, is2IT, is2RT, if_true, if_false]
        exact next σ hf hN
      | some p =>
        have pk := (h.2.2.2.2 n hn1).2.2.1 p hp
        have hasS : ∀ j σ1, j < nM N → CI σ1 w N → ∀ Q, (Ca (d + 2) 47 [vR w 6, vI (nI j)] σ1 Q ↔ Q (some (vI (b2 (some j ≠ none)))) σ1) := fun j σ1 hj m Q => c_hasO (o := some j) m (fun x q => by cases q; exact hj)
        have fS : ∀ j : Nat, (some j ≠ none) = True := fun j => eq_true (fun q => by cases q)
        rw [hp] at next
        have e4' : rI σ (nO w n) 4 = nI p := by rw [e4, hp]; rfl
        simp (disch := first | exact is2I | exact is2R | omega) only [z_X0_begin_36, z_X0_begin_37, z_X0_begin_38, z_X0_begin_41, z_X0_begin_44, z_X0_begin_47, z_X0_begin_48, z_X0_begin_49, z_X0_begin_50, z_X0_begin_53, e4', hasS p σ (by omega) m1, fS, b2_0, rk_b0, rk_b1, not_true_eq_false, if_false, true_and, Option.toList_some, Option.toList_none, List.cons_append, List.nil_append, is2IT, is2RT, if_true, if_false]
        refine m_near hX (by omega) (by omega) (by omega) hN (fun σ1 q1 q2 => ?_)
        have f1 := Fm_tr hf q1
        have m2 : CI σ1 w N := CI_fm h f1 (fun _ _ => I75_70)
        obtain ⟨-, -, a4, a5, -, -, -, -, -⟩ := m2.2.2.1.2 n hn1
        rw [hp, oI_ss] at a4
        cases hq : nQ N n with
        | none =>
          rw [hq] at next
          have hasN : ∀ Q, (Ca (d + 2) 47 [vR w 6, vI (-1)] σ1 Q ↔ Q (some (vI (b2 ((none : Option Nat) ≠ none)))) σ1) := fun Q => c_hasO (o := none) m2 (fun x q => by cases q)
          have fN : ((none : Option Nat) ≠ none) = False := eq_false (fun q => q rfl)
          rw [hq, oI_nn] at a5
          simp (disch := first | exact is2I | exact is2R | omega) only [z_X0_begin_56, z_X0_begin_57, z_X0_begin_58, z_X0_begin_61, z_X0_begin_64, z_X0_begin_67, z_X0_begin_68, z_X0_begin_69, z_X0_begin_70, z_X0_begin_73, z_X0_begin_76, z_X0_begin_77, z_X0_begin_78, z_X0_begin_81, z_X0_begin_84, z_X0_begin_87, z_X0_begin_88, z_X0_begin_89, z_X0_begin_92, z_X0_begin_95, a4, a5, hasN, hasS p σ1 (by omega) m2, fS, fN, b2_0, rk_b0, rk_b1, not_true_eq_false, not_false_eq_true, if_true, if_false, true_and, Option.toList_some, Option.toList_none, List.cons_append, List.nil_append, is2IT, is2RT, if_true, if_false]
          exact next σ1 f1 q2
        | some q =>
          have qk := ((h.2.2.2.2 n hn1).2.2.2.1 q hq).1
          obtain ⟨i, ip, ine⟩ := ((h.2.2.2.2 n hn1).2.2.2.1 q hq).2
          rw [hp] at ip; cases ip
          rw [hq] at next
          rw [hq, oI_ss] at a5
          simp (disch := first | exact is2I | exact is2R | omega) only [z_X0_begin_56, z_X0_begin_57, z_X0_begin_58, z_X0_begin_61, z_X0_begin_64, z_X0_begin_67, z_X0_begin_68, z_X0_begin_69, z_X0_begin_70, z_X0_begin_73, a4, a5, hasS q σ1 (by omega) m2, fS, b2_0, rk_b0, rk_b1, not_true_eq_false, not_false_eq_true, if_true, if_false, true_and, Option.toList_some, Option.toList_none, List.cons_append, List.nil_append, is2IT, is2RT, if_true, if_false]
          refine m_near m2.1 (by omega) (by omega) (by omega) q2 (fun σ2 q3 q4 => ?_)
          have f2 := Fm_tr f1 q3
          have m3 : CI σ2 w N := CI_fm h f2 (fun _ _ => I75_70)
          obtain ⟨-, -, b4, b5, -, -, -, -, -⟩ := m3.2.2.1.2 n hn1
          rw [hp, oI_ss] at b4
          rw [hq, oI_ss] at b5
          simp (disch := first | exact is2I | exact is2R | omega) only [z_X0_begin_76, z_X0_begin_77, z_X0_begin_78, z_X0_begin_81, z_X0_begin_84, z_X0_begin_87, z_X0_begin_88, z_X0_begin_89, z_X0_begin_92, z_X0_begin_95, z_X0_begin_98, z_X0_begin_99, z_X0_begin_100, z_X0_begin_103, z_X0_begin_104, z_X0_begin_107, b4, b5, hasS p σ2 (by omega) m3, hasS q σ2 (by omega) m3, fS, b2_0, rk_b0, rk_b1, not_true_eq_false, not_false_eq_true, if_true, if_false, true_and, Option.toList_some, Option.toList_none, List.cons_append, List.nil_append, is2IT, is2RT, if_true, if_false]
          refine m_near m3.1 (by omega) (by omega) ine q4 (fun σ3 q5 q6 => ?_)
          simp only [Option.toList_none, List.nil_append]
          exact next σ3 (Fm_tr f2 q5) q6
theorem c_begin {d w : Nat} {Q : Option PV → St → Prop} {N : Net} {σ : St} (h : CI σ w N) (hQ : ∀ σ', Fm I75 noL σ σ' → NR0 σ' (nrS N) → Q none σ') : Ca (d + 3) 1 [vR 74 1, vR w 6] σ Q := by
  have h7 := CI_7 h
  rw [ca_at (K := kX0_begin) (ls := [vR 74 1, vR w 6, vU, vU]) rfl rfl rfl]
  simp (disch := first | exact is2I | exact is2R | omega) only [z_X0_begin_0, z_X0_begin_1, z_X0_begin_4, z_X0_begin_5, z_X0_begin_8, z_X0_begin_9, xf_r0_0 h.1, xf_r0_1 h.1, xf_r0_2 h.1, xf_r0_4 h.1, xf_r0_5 h.1, xf_r0_6 h.1, xf_r0_7 h.1, xf_r0_8 h.1, xf_r0_9 h.1, xf_r70_0 h.1, xf_r70_1 h.1, xf_r70_2 h.1, xf_r74_0 h.1, xf_r74_1 h.1, xf_r74_2 h.1, xf_r74_3 h.1, xf_r79_0 h.1, xf_r79_1 h.1, xf_r79_2 h.1, xf_r83_0 h.1, xf_r83_7 h.1, xf_r88_0 h.1, xf_r88_1 h.1, xf_r88_2 h.1, xf_r88_3 h.1, xf_s0 h.1, xf_s70 h.1, xf_s71 h.1, xf_s72 h.1, xf_s73 h.1, xf_s74 h.1, xf_s75 h.1, xf_s76 h.1, xf_s77 h.1, xf_s78 h.1, xf_s79 h.1, xf_s80 h.1, xf_s81 h.1, xf_s82 h.1, xf_s83 h.1, xf_s84 h.1, xf_s85 h.1, xf_s86 h.1, xf_s88 h.1, xf_s89 h.1, xf_s90 h.1, xf_s91 h.1, xf_s92 h.1, xf_s93 h.1, xf_s94 h.1, xf_s95 h.1, xf_s96 h.1, m_fill (show sh σ 75 = (20, 7) from xf_s75 h.1) (by decide), true_and, Option.toList_some, Option.toList_none, List.cons_append, List.nil_append, is2IT, is2RT, if_true, if_false]
  exact be_l (d := d) h hQ (nM N) 0 _ _ vU (by omega) (Fm_fI (fun _ _ _ => rfl)) (fun i hi => by rw [rI_fI, if_pos ⟨rfl, by omega, by omega⟩]; exact ⟨rfl, by decide⟩) rfl rfl
