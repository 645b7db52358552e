/-! ===== who is near, who leaves: the reference ===== -/
def NR (σ : St) (nr : Nat → Nat) : Prop := ∀ i, i < 7 → rI σ 109 i = nI (nr i) ∧ nr i < 128
def I109 (a _i : Nat) : Bool := a.beq 109
def noL (_ : Nat) : Bool := false
def prs (nr : Nat → Nat) (a b : Nat) : Nat → Nat := fun i => if i = b then nr b ||| 2 ^ a else if i = a then nr a ||| 2 ^ b else nr i
theorem or128 {x k : Nat} (hx : x < 128) (hk : k < 7) : x ||| 2 ^ k < 128 := Nat.or_lt_two_pow (n := 7) hx (Nat.pow_lt_pow_right (by decide) (by omega))
theorem m_pairs {d a b : Nat} {Q : Option PV → St → Prop} {σ : St} {nr : Nat → Nat} (hF : MF σ) (ha : a < 7) (hb : b < 7) (hab : a ≠ b) (hn : NR σ nr) (hQ : ∀ σ', Fm I109 noL σ σ' → NR σ' (prs nr a b) → Q none σ') : Ca (d + 1) 187 [vR 97 9, vI (nI a), vI (nI b)] σ Q := by
  rw [ca_at (K := kX9_pairs) (ls := [vR 97 9, vI (nI a), vI (nI b)]) rfl rfl rfl]
  have n1 : ¬ (109 = 109 ∧ b = a) := fun q => hab q.2.symm
  obtain ⟨x1, x2⟩ := hn a ha
  obtain ⟨y1, y2⟩ := hn b hb
  simp (disch := first | exact is2I | exact is2R | omega) only [z_X9_pairs_0, z_X9_pairs_1, z_X9_pairs_4, z_X9_pairs_5, z_X9_pairs_6, z_X9_pairs_7, z_X9_pairs_8, z_X9_pairs_9, z_X9_pairs_10, z_X9_pairs_11, z_X9_pairs_12, z_X9_pairs_13, z_X9_pairs_16, z_X9_pairs_17, z_X9_pairs_18, z_X9_pairs_19, z_X9_pairs_20, z_X9_pairs_21, z_X9_pairs_22, z_X9_pairs_23, z_X9_pairs_24, mf_r1 hF, mf_r2 hF, mf_r3 hF, mf_r5 hF, mf_r10 hF, mf_r11 hF, mf_r13 hF, mf_r15 hF, mf_r16 hF, mf_r19 hF, mf_r21 hF, mf_r22 hF, mf_r23 hF, mf_r24 hF, mf_r25 hF, mf_r26 hF, mf_r27 hF, mf_r29 hF, mf_r30 hF, mf_r31 hF, mf_r32 hF, mf_s98 hF, mf_s99 hF, mf_s100 hF, mf_s101 hF, mf_s102 hF, mf_s103 hF, mf_s104 hF, mf_s105 hF, mf_s106 hF, mf_s107 hF, mf_s108 hF, mf_s109 hF, mf_s110 hF, mf_s111 hF, mf_s112 hF, mf_s113 hF, mf_s114 hF, mf_s115 hF, mf_s116 hF, mf_s117 hF, mf_s118 hF, rR_wI, sh_wI, kIn, kCl, x1, kShl b (by omega), kOr, true_and, Option.toList_some, Option.toList_none, List.cons_append, List.nil_append, is2IT, is2RT, if_true, if_false]
  have r2 : rI (wI σ 109 a (nI (nr a ||| 2 ^ b))) 109 b = nI (nr b) := by rw [rI_wI, if_neg n1]; exact y1
  simp (disch := first | exact is2I | exact is2R | omega) only [r2, kShl a (by omega), kOr]
  refine hQ _ (Fm_tr (Fm_wI rfl) (Fm_wI rfl)) (fun i hi => ?_)
  unfold prs
  rw [rI_wI, rI_wI]
  by_cases c1 : i = b
  · rw [if_pos ⟨rfl, c1⟩, if_pos c1]; exact ⟨rfl, or128 y2 ha⟩
  · rw [if_neg (fun q => c1 q.2), if_neg c1]
    by_cases c2 : i = a
    · rw [if_pos ⟨rfl, c2⟩, if_pos c2]; exact ⟨rfl, or128 x2 hb⟩
    · rw [if_neg (fun q => c2 q.2), if_neg c2]; exact hn i hi
/-- node n brings near -/
def nr1 (N : Net) (nr : Nat → Nat) (n : Nat) : Nat → Nat := match nD N n with
  | some _ => nr
  | none => match nP N n with
    | none => nr
    | some p => match nQ N n with
      | none => prs nr n p
      | some q => prs (prs (prs nr n p) n q) p q
def nrR (N : Net) : Nat → Nat → (Nat → Nat) → (Nat → Nat)
  | 0, _, nr => nr
  | r + 1, n, nr => nrR N r (n + 1) (nr1 N nr n)
def nrS (N : Net) : Nat → Nat := nrR N (nM N) 0 (fun _ => 0)
theorem ne_l1 {d : Nat} {Q : Option PV → St → Prop} {σ : St} (hF : MF σ) : ∀ f n, n + f = 7 → (At d kX9_nears 2 [vR 97 9, vI (nI n), vU, vU] [] (fI σ 109 0 n (fun _ => 0)) Q ↔ At d kX9_nears 21 [vR 97 9, vI (nI 7), vU, vU] [] (fI σ 109 0 7 (fun _ => 0)) Q)
  | 0, n, hn => by
    have : n = 7 := by omega
    subst this
    simp (disch := first | exact is2I | exact is2R | omega) only [z_X9_nears_2, z_X9_nears_3, z_X9_nears_5, kLLe, Nat.le_refl, true_and, Option.toList_some, Option.toList_none, List.cons_append, List.nil_append, is2IT, is2RT, if_true, if_false]
  | f + 1, n, hn => by
    have hF2 : MF (fI σ 109 0 n (fun _ => 0)) := MF_of hF (fun _ _ => rfl) rfl
    have c : ¬ (7 ≤ n) := by omega
    simp (disch := first | exact is2I | exact is2R | omega) only [z_X9_nears_2, z_X9_nears_3, z_X9_nears_5, z_X9_nears_8, z_X9_nears_9, z_X9_nears_12, z_X9_nears_13, z_X9_nears_14, z_X9_nears_15, mf_r1 hF2, mf_r2 hF2, mf_r3 hF2, mf_r5 hF2, mf_r10 hF2, mf_r11 hF2, mf_r13 hF2, mf_r15 hF2, mf_r16 hF2, mf_r19 hF2, mf_r21 hF2, mf_r22 hF2, mf_r23 hF2, mf_r24 hF2, mf_r25 hF2, mf_r26 hF2, mf_r27 hF2, mf_r29 hF2, mf_r30 hF2, mf_r31 hF2, mf_r32 hF2, mf_s98 hF2, mf_s99 hF2, mf_s100 hF2, mf_s101 hF2, mf_s102 hF2, mf_s103 hF2, mf_s104 hF2, mf_s105 hF2, mf_s106 hF2, mf_s107 hF2, mf_s108 hF2, mf_s109 hF2, mf_s110 hF2, mf_s111 hF2, mf_s112 hF2, mf_s113 hF2, mf_s114 hF2, mf_s115 hF2, mf_s116 hF2, mf_s117 hF2, mf_s118 hF2, kLLe, c, kIn, kCl, kAL, true_and, Option.toList_some, Option.toList_none, List.cons_append, List.nil_append, is2IT, is2RT, if_true, if_false]
    rw [z_X9_nears_18, fI_s0 (f := fun _ => 0) rfl, ne_l1 hF f (n + 1) (by omega)]
theorem ne_l2 {d : Nat} {Q : Option PV → St → Prop} {N : Net} {nrE : Nat → Nat} {σ0 : St} (h : MI σ0 N) (hQ : ∀ σ', Fm I109 noL σ0 σ' → NR σ' nrE → Q none σ') : ∀ r n σ nr l2 l3, is2 l2 = false → n + r = nM N → Fm I109 noL σ0 σ → NR σ nr → nrR N r n nr = nrE → At (d + 1) kX9_nears 23 [vR 97 9, vI (nI n), l2, l3] [] σ Q
  | 0, n, σ, nr, l2, l3, h2, hn, hf, hN, he => by
    have h7 := MI_7 h
    have m1 : MI σ N := MI_fm h hf (fun _ => rfl)
    have : n = nM N := by omega
    subst this
    have he' : nr = nrE := he
    subst he'
    simp (disch := first | exact is2I | exact is2R | omega) only [z_X9_nears_23, z_X9_nears_24, z_X9_nears_25, z_X9_nears_28, z_X9_nears_92, i_many m1, kLe, Nat.le_refl, true_and, Option.toList_some, Option.toList_none, List.cons_append, List.nil_append, is2IT, is2RT, if_true, if_false]
    exact hQ σ hf hN
  | r + 1, n, σ, nr, l2, l3, h2, hn, hf, hN, he => by
    have h7 := MI_7 h
    have hn1 : n < nM N := by omega
    have m1 : MI σ N := MI_fm h hf (fun _ => rfl)
    have c : ¬ nM N ≤ n := by omega
    have eD := oI_none' (NV_d h.2.2 hn1)
    have ev : nI n + (1 : Int32) = nI (n + 1) := nI_add n 1
    have next : ∀ σ1 l2 l3, is2 l2 = false → Fm I109 noL σ0 σ1 → NR σ1 (nr1 N nr n) → At (d + 1) kX9_nears 86 [vR 97 9, vI (nI n), l2, l3] [] σ1 Q := fun σ1 l2 l3 h2 hf1 hN1 => by
      simp (disch := first | exact is2I | exact is2R | omega) only [z_X9_nears_86, ev, true_and, Option.toList_some, Option.toList_none, List.cons_append, List.nil_append, is2IT, is2RT, if_true, if_false]
      rw [z_X9_nears_89]
      exact ne_l2 h hQ r (n + 1) σ1 _ l2 l3 h2 (by omega) hf1 hN1 he
    simp (disch := first | exact is2I | exact is2R | omega) only [z_X9_nears_23, z_X9_nears_24, z_X9_nears_25, z_X9_nears_28, z_X9_nears_31, z_X9_nears_32, z_X9_nears_33, z_X9_nears_34, z_X9_nears_37, z_X9_nears_38, z_X9_nears_39, z_X9_nears_40, z_X9_nears_41, z_X9_nears_44, z_X9_nears_45, z_X9_nears_46, z_X9_nears_47, z_X9_nears_48, z_X9_nears_51, z_X9_nears_52, z_X9_nears_55, i_many m1, kLe, c, i_is2 m1 hn1, i_is3 m1 hn1, i_is5 m1 hn1, eD, true_and, Option.toList_some, Option.toList_none, List.cons_append, List.nil_append, is2IT, is2RT, if_true, if_false]
    unfold nr1 at next
    cases hd : nD N n with
    | some u =>
      rw [hd] at next
      rw [if_neg (fun q => by cases q)]
      exact next σ _ _ rfl hf hN
    | none =>
      rw [hd] at next
      rw [if_pos rfl]
      cases hp : nP N n with
      | none =>
        have hq : nQ N n = none := by
          cases e : nQ N n with
          | none => rfl
          | some q =>
            obtain ⟨i, h1, _⟩ := ((h.2.2.2 n hn1).2.2.2.1 q e).2
            rw [hp] at h1; cases h1
        rw [hp] at next
        rw [hq, oI_nn]
        simp (disch := first | exact is2I | exact is2R | omega) only [z_X9_nears_58, z_X9_nears_59, z_X9_nears_60, z_X9_nears_63, z_X9_nears_64, z_X9_nears_65, z_X9_nears_66, z_X9_nears_69, z_X9_nears_70, z_X9_nears_71, oI_nn, true_and, Option.toList_some, Option.toList_none, List.cons_append, List.nil_append, is2IT, is2RT, if_true, if_false]
        exact next σ _ _ rfl hf hN
      | some p =>
        have pk := NV_p h hn1 hp
        rw [hp] at next
        rw [oI_ss]
        simp (disch := first | exact is2I | exact is2R | omega) only [z_X9_nears_58, z_X9_nears_59, z_X9_nears_60, z_X9_nears_63, z_X9_nears_64, z_X9_nears_65, z_X9_nears_66, kM1, true_and, Option.toList_some, Option.toList_none, List.cons_append, List.nil_append, is2IT, is2RT, if_true, if_false]
        refine m_pairs m1.1 (by omega) (by omega) (by omega) hN (fun σ1 q1 q2 => ?_)
        have f1 := Fm_tr hf q1
        have m2 : MI σ1 N := MI_fm h f1 (fun _ => rfl)
        cases hq : nQ N n with
        | none =>
          rw [hq] at next
          simp (disch := first | exact is2I | exact is2R | omega) only [z_X9_nears_69, z_X9_nears_70, z_X9_nears_71, oI_nn, true_and, Option.toList_some, Option.toList_none, List.cons_append, List.nil_append, is2IT, is2RT, if_true, if_false]
          exact next σ1 _ _ rfl f1 q2
        | some q =>
          have qk := NV_q h hn1 hq
          obtain ⟨i, ip, ine⟩ := ((h.2.2.2 n hn1).2.2.2.1 q hq).2
          rw [hp] at ip; cases ip
          rw [hq] at next
          rw [oI_ss]
          simp (disch := first | exact is2I | exact is2R | omega) only [z_X9_nears_69, z_X9_nears_70, z_X9_nears_71, z_X9_nears_74, z_X9_nears_75, z_X9_nears_76, z_X9_nears_77, kM1, true_and, Option.toList_some, Option.toList_none, List.cons_append, List.nil_append, is2IT, is2RT, if_true, if_false]
          refine m_pairs m2.1 (by omega) (by omega) (by omega) q2 (fun σ2 q3 q4 => ?_)
          have f2 := Fm_tr f1 q3
          have m3 : MI σ2 N := MI_fm h f2 (fun _ => rfl)
          simp (disch := first | exact is2I | exact is2R | omega) only [z_X9_nears_80, z_X9_nears_81, z_X9_nears_82, z_X9_nears_83, true_and, Option.toList_some, Option.toList_none, List.cons_append, List.nil_append, is2IT, is2RT, if_true, if_false]
          refine m_pairs m3.1 (by omega) (by omega) ine q4 (fun σ3 q5 q6 => ?_)
          have f3 := Fm_tr f2 q5
          simp only [Option.toList_none, List.nil_append]
          exact next σ3 _ _ rfl f3 q6
theorem m_nears {d : Nat} {Q : Option PV → St → Prop} {N : Net} {σ : St} (h : MI σ N) (hQ : ∀ σ', Fm I109 noL σ σ' → NR σ' (nrS N) → Q none σ') : Ca (d + 2) 188 [vR 97 9] σ Q := by
  rw [ca_at (K := kX9_nears) (ls := [vR 97 9, vU, vU, vU]) rfl rfl rfl]
  have l := @ne_l1 (d + 1) Q σ h.1 7 0 rfl
  rw [fI_0] at l
  simp only [z_X9_nears_0, z_X9_nears_1, true_and, Option.toList_some, Option.toList_none, List.cons_append, List.nil_append, is2IT, is2RT, if_true, if_false]
  refine l.mpr ?_
  simp only [z_X9_nears_21, z_X9_nears_22, true_and, Option.toList_some, Option.toList_none, List.cons_append, List.nil_append, is2IT, is2RT, if_true, if_false]
  exact ne_l2 (d := d) h hQ (nM N) 0 _ _ vU vU rfl (by omega) (Fm_fI (fun _ _ _ => rfl)) (fun i hi => by rw [rI_fI, if_pos ⟨rfl, by omega, by omega⟩]; exact ⟨rfl, by decide⟩) rfl
