/-! ===== the class: ways ===== -/
theorem par_ovr {N : Net} (h : NV N) {a n : Nat} (ha : a < nM N) (hn : n < nM N) (he : ovr N a n = true ∨ ovr N n a = true) : par N a n = ovr N a n := by
  cases e : ovr N a n with
  | true => exact decide_eq_true (of_decide_eq_true e).2
  | false =>
    have e2 : ovr N n a = true := he.resolve_left (by rw [e]; exact fun q => by cases q)
    have lt := ovr_lt h ha e2
    unfold par
    refine decide_eq_false (fun q => ?_)
    rcases q with q | q
    · have := (h.2 n hn).2.2.1 a q; omega
    · have := ((h.2 n hn).2.2.2.1 a q).1; omega
theorem c_isOpen {d w a n b : Nat} {Q : Option PV → St → Prop} {σ : St} {N : Net} (h : CI σ w N) (ha : a < nM N) (hn : n < nM N) (hb : b < nM N) (h1 : ovr N a n = true ∨ ovr N n a = true) (h2 : ovr N b n = true ∨ ovr N n b = true) : Ca (d + 4) 45 [vR w 6, vI (nI a), vI (nI n), vI (nI b)] σ Q ↔ Q (some (vI (b2 (thr N a n b = true)))) σ := by
  have h7 := CI_7 h
  have hX := h.1
  have hw := h.2.1
  obtain ⟨-, -, -, -, -, -, e8, -, -⟩ := h.2.2.1.2 n hn
  have eF := oI_none' (NV_f h.2.2.2 hn)
  have p1 := par_ovr h.2.2.2 ha hn h1
  have p2 := par_ovr h.2.2.2 hb hn h2
  have ev : ∀ Q : Option PV → St → Prop, Ca (d + 3) 56 [vR w 6, vI (nI n)] σ Q ↔ Q (some (vI (b2 (hrd N 7 n = true)))) σ := fun Q => by rw [c_evFrom h hn, evR_hrd h.2.2.2 hn]
  have pa : ∀ Q : Option PV → St → Prop, Ca (d + 3) 54 [vR w 6, vI (nI a), vI (nI n)] σ Q ↔ Q (some (vI (b2 (ovr N a n = true)))) σ := fun Q => by rw [← p1]; exact c_par (d := d + 2) h hn (by omega)
  have pb : ∀ Q : Option PV → St → Prop, Ca (d + 3) 54 [vR w 6, vI (nI b), vI (nI n)] σ Q ↔ Q (some (vI (b2 (ovr N b n = true)))) σ := fun Q => by rw [← p2]; exact c_par (d := d + 2) h hn (by omega)
  rw [ca_at (K := kX5_isOpen) (ls := [vR w 6, vI (nI a), vI (nI n), vI (nI b)]) rfl rfl rfl]
  simp (disch := first | exact is2I | exact is2R | omega) only [z_X5_isOpen_0, z_X5_isOpen_1, z_X5_isOpen_2, z_X5_isOpen_3, z_X5_isOpen_6, z_X5_isOpen_9, z_X5_isOpen_10, z_X5_isOpen_11, z_X5_isOpen_12, z_X5_isOpen_15, z_X5_isOpen_18, z_X5_isOpen_19, z_X5_isOpen_20, z_X5_isOpen_23, z_X5_isOpen_24, z_X5_isOpen_25, z_X5_isOpen_28, z_X5_isOpen_29, z_X5_isOpen_29s, z_X5_isOpen_30, z_X5_isOpen_33, z_X5_isOpen_34, z_X5_isOpen_37, z_X5_isOpen_38, z_X5_isOpen_41, z_X5_isOpen_42, pa, pb, ev, b2_0, b2_ok, xw_a hX hw, xw_n hX hw (show n < 7 by omega), xs_a hX hw, kIn, kCl, e8, eF, rk_b0, rk_b1, true_and, Option.toList_some, Option.toList_none, List.cons_append, List.nil_append, is2IT, is2RT, if_true, if_false]
  have et : thr N a n b = if (ovr N a n && ovr N b n) = true then hrd N 7 n else decide (nF1 N n = none) := rfl
  cases e1 : ovr N a n with
  | false =>
    rw [e1, Bool.false_and, if_neg (fun q => by cases q)] at et
    rw [et]
    simp only [Bool.false_eq_true, not_false_eq_true, if_true]
    by_cases c : nF1 N n = none
    · rw [if_pos c, b2_t (decide_eq_true c)]
    · rw [if_neg c, b2_f (fun q => c (of_decide_eq_true q))]
  | true =>
    cases e2 : ovr N b n with
    | false =>
      rw [e1, e2, Bool.and_false, if_neg (fun q => by cases q)] at et
      rw [et]
      simp only [Bool.false_eq_true, not_false_eq_true, not_true_eq_false, if_true, if_false]
      by_cases c : nF1 N n = none
      · rw [if_pos c, b2_t (decide_eq_true c)]
      · rw [if_neg c, b2_f (fun q => c (of_decide_eq_true q))]
    | true =>
      rw [e1, e2, if_pos (show (true && true) = true from rfl)] at et
      rw [et]
      simp only [not_true_eq_false, if_false]
set_option maxHeartbeats 1000000 in
theorem c_leadsOn {N : Net} {w e : Nat} (he : e < nM N) : ∀ f (fr : Option Nat) n g, unseen g (nM N) < f → f ≤ 7 → n < nM N → g < 128 → (∀ a, fr = some a → a < nM N ∧ (ovr N a n = true ∨ ovr N n a = true)) → ∀ (d : Nat) (Q : Option PV → St → Prop) (σ : St), CI σ w N → (Ca (d + f + 5) 44 [vR w 6, vI (oI fr), vI (nI n), vI (nI e), vI (nI g), vI (nI (7 - f))] σ Q ↔ Q (some (vI (b2 (way N f fr n e g = true)))) σ) := by
  intro f
  induction f with
  | zero => intro fr n g h1; omega
  | succ f ih =>
    intro fr n g h1 hf7 h2 hg hfr d Q σ h
    have h7 := CI_7 h
    have efr := oI_none' (o := fr) (fun j q => by have := (hfr j q).1; omega)
    have ed : nI (7 - (f + 1)) + (1 : Int32) = nI (7 - f) := by
      have := nI_add (7 - (f + 1)) 1
      rw [show 7 - (f + 1) + 1 = 7 - f by omega] at this
      exact this
    rw [show d + (f + 1) + 5 = d + f + 5 + 1 by omega, ca_at (K := kX5_leadsOn) (ls := [vR w 6, vI (oI fr), vI (nI n), vI (nI e), vI (nI g), vI (nI (7 - (f + 1))), vU]) rfl rfl rfl]
    rw [way_s]
    have lt7 : (7 - (f + 1)) < 7 := by omega
    simp (disch := first | exact is2I | exact is2R | omega) only [z_X5_leadsOn_0, z_X5_leadsOn_1, z_X5_leadsOn_2, z_X5_leadsOn_5, z_X5_leadsOn_6, z_X5_leadsOn_7, z_X5_leadsOn_9, z_X5_leadsOn_11, z_X5_leadsOn_14, z_X5_leadsOn_15, z_X5_leadsOn_16, z_X5_leadsOn_17, kEq, kLtL, lt7, rk_b1, true_and, Option.toList_some, Option.toList_none, List.cons_append, List.nil_append, is2IT, is2RT, if_true, if_false]
    by_cases c : n = e
    · rw [if_pos c, decide_eq_true c]
      simp only [Bool.true_or]; exact Iff.rfl
    · rw [if_neg c, decide_eq_false c, Bool.false_or]
      have loop : ∀ r x, x + r = nM N → (At (d + f + 5) kX5_leadsOn 19 [vR w 6, vI (oI fr), vI (nI n), vI (nI e), vI (nI g), vI (nI (7 - (f + 1))), vI (nI x)] [] σ Q ↔ Q (some (vI (b2 (((List.range' x r).any fun x => !g.testBit x && ((ovr N n x || ovr N x n) && (gate N fr n x && way N f (some n) x e (g ||| 2 ^ x)))) = true)))) σ) := by
        intro r
        induction r with
        | zero =>
          intro x hx
          have hx' : x = nM N := by omega
          subst hx'
          simp (disch := first | exact is2I | exact is2R | omega) only [z_X5_leadsOn_19, z_X5_leadsOn_21, z_X5_leadsOn_22, z_X5_leadsOn_25, z_X5_leadsOn_113, z_X5_leadsOn_114, h.2.2.1.1, kLe, Nat.le_refl, rk_b0, true_and, Option.toList_some, Option.toList_none, List.cons_append, List.nil_append, is2IT, is2RT, if_true, if_false]
          exact Iff.rfl
        | succ r ihr =>
          intro x hx
          have cx : ¬ nM N ≤ x := by omega
          have i1 := ihr (x + 1) (by omega)
          rw [List.range'_succ, List.any_cons]
          cases cg : g.testBit x with
          | true =>
            simp (disch := first | exact is2I | exact is2R | omega) only [z_X5_leadsOn_19, z_X5_leadsOn_21, z_X5_leadsOn_22, z_X5_leadsOn_25, z_X5_leadsOn_28, z_X5_leadsOn_30, z_X5_leadsOn_32, z_X5_leadsOn_33, z_X5_leadsOn_34, z_X5_leadsOn_35, z_X5_leadsOn_38, z_X5_leadsOn_107, h.2.2.1.1, kLe, cx, kHas (show g < 2 ^ 31 by omega) (show x < 31 by omega), cg, b2_0, kAL, not_true_eq_false, Bool.not_true, Bool.false_and, Bool.false_or, true_and, Option.toList_some, Option.toList_none, List.cons_append, List.nil_append, is2IT, is2RT, if_true, if_false]
            rw [z_X5_leadsOn_110, i1]
          | false =>
            have cu : unseen (g ||| 2 ^ x) (nM N) < unseen g (nM N) := unseen_le (List.mem_range'_1.mpr ⟨by omega, by omega⟩) cg
            have hg2 := or128 hg (show x < 7 by omega)
            simp (disch := first | exact is2I | exact is2R | omega) only [z_X5_leadsOn_19, z_X5_leadsOn_21, z_X5_leadsOn_22, z_X5_leadsOn_25, z_X5_leadsOn_28, z_X5_leadsOn_30, z_X5_leadsOn_32, z_X5_leadsOn_33, z_X5_leadsOn_34, z_X5_leadsOn_35, z_X5_leadsOn_38, z_X5_leadsOn_41, z_X5_leadsOn_42, z_X5_leadsOn_43, z_X5_leadsOn_45, z_X5_leadsOn_48, z_X5_leadsOn_51, z_X5_leadsOn_52, z_X5_leadsOn_54, z_X5_leadsOn_55, z_X5_leadsOn_58, z_X5_leadsOn_61, h.2.2.1.1, kLe, cx, kHas (show g < 2 ^ 31 by omega) (show x < 31 by omega), cg, c_heeds (d := d + f + 3) h (show x < nM N by omega) (show n < 31 by omega), c_heeds (d := d + f + 3) h h2 (show x < 31 by omega), b2_0, Bool.false_eq_true, not_false_eq_true, not_true_eq_false, Bool.not_false, Bool.true_and, if_true, true_and, Option.toList_some, Option.toList_none, List.cons_append, List.nil_append, is2IT, is2RT, if_true, if_false]
            have skip : (At (d + f + 5) kX5_leadsOn 107 [vR w 6, vI (oI fr), vI (nI n), vI (nI e), vI (nI g), vI (nI (7 - (f + 1))), vI (nI x)] [] σ Q ↔ Q (some (vI (b2 (((List.range' (x + 1) r).any fun x => !g.testBit x && ((ovr N n x || ovr N x n) && (gate N fr n x && way N f (some n) x e (g ||| 2 ^ x)))) = true)))) σ) := by
              simp (disch := first | exact is2I | exact is2R | omega) only [z_X5_leadsOn_107, kAL, true_and, Option.toList_some, Option.toList_none, List.cons_append, List.nil_append, is2IT, is2RT, if_true, if_false]
              rw [z_X5_leadsOn_110, i1]
            by_cases ce : ovr N n x = true ∨ ovr N x n = true
            · have eor : (ovr N n x || ovr N x n) = true := by rw [Bool.or_eq_true]; exact ce
              have i2 := fun Q => ih (some n) x (g ||| 2 ^ x) (by omega) (by omega) (by omega) hg2 (fun a q => by cases q; exact ⟨h2, ce⟩) d Q σ h
              rw [oI_ss] at i2
              have tail : At (d + f + 5) kX5_leadsOn 83 [vR w 6, vI (oI fr), vI (nI n), vI (nI e), vI (nI g), vI (nI (7 - (f + 1))), vI (nI x)] [] σ Q ↔ Q (some (vI (b2 ((way N f (some n) x e (g ||| 2 ^ x) || (List.range' (x + 1) r).any fun x => !g.testBit x && ((ovr N n x || ovr N x n) && (gate N fr n x && way N f (some n) x e (g ||| 2 ^ x)))) = true)))) σ := by
                simp (disch := first | exact is2I | exact is2R | omega) only [z_X5_leadsOn_83, z_X5_leadsOn_84, z_X5_leadsOn_85, z_X5_leadsOn_87, z_X5_leadsOn_88, z_X5_leadsOn_90, z_X5_leadsOn_91, z_X5_leadsOn_93, z_X5_leadsOn_94, z_X5_leadsOn_95, z_X5_leadsOn_97, z_X5_leadsOn_98, z_X5_leadsOn_99, z_X5_leadsOn_102, kShl x (by omega), kOr, ed, i2, b2_0, true_and, Option.toList_some, Option.toList_none, List.cons_append, List.nil_append, is2IT, is2RT, if_true, if_false]
                cases way N f (some n) x e (g ||| 2 ^ x) with
                | true =>
                  simp only [not_true_eq_false, if_false, Bool.true_or, z_X5_leadsOn_105, z_X5_leadsOn_106, rk_b1, true_and]
                  exact Iff.rfl
                | false =>
                  simp only [Bool.false_eq_true, not_false_eq_true, if_true, Bool.false_or]
                  exact skip
              have t2 : At (d + f + 5) kX5_leadsOn 64 [vR w 6, vI (oI fr), vI (nI n), vI (nI e), vI (nI g), vI (nI (7 - (f + 1))), vI (nI x)] [] σ Q ↔ Q (some (vI (b2 (((gate N fr n x && way N f (some n) x e (g ||| 2 ^ x)) || (List.range' (x + 1) r).any fun x => !g.testBit x && ((ovr N n x || ovr N x n) && (gate N fr n x && way N f (some n) x e (g ||| 2 ^ x)))) = true)))) σ := by
                cases fr with
                | none =>
                  simp (disch := first | exact is2I | exact is2R | omega) only [z_X5_leadsOn_64, z_X5_leadsOn_65, z_X5_leadsOn_66, efr, oI_nn, true_and, Option.toList_some, Option.toList_none, List.cons_append, List.nil_append, is2IT, is2RT, if_true, if_false]
                  rw [oI_nn] at tail
                  rw [tail]
                  simp only [gate, Bool.true_and]
                | some a =>
                  have ha := hfr a rfl
                  rw [oI_ss] at tail skip ⊢
                  have ce2 : ovr N x n = true ∨ ovr N n x = true := ce.symm
                  simp (disch := first | exact is2I | exact is2R | omega) only [z_X5_leadsOn_64, z_X5_leadsOn_65, z_X5_leadsOn_66, z_X5_leadsOn_69, z_X5_leadsOn_70, z_X5_leadsOn_71, z_X5_leadsOn_72, z_X5_leadsOn_74, z_X5_leadsOn_77, z_X5_leadsOn_80, kM1, c_isOpen (d := d + f + 1) h ha.1 h2 (show x < nM N by omega) ha.2 ce2, b2_0, true_and, Option.toList_some, Option.toList_none, List.cons_append, List.nil_append, is2IT, is2RT, if_true, if_false]
                  rw [tail]
                  show _ ↔ Q (some (vI (b2 (((thr N a n x && way N f (some n) x e (g ||| 2 ^ x)) || _) = true)))) σ
                  cases thr N a n x with
                  | true => simp only [not_true_eq_false, if_false, Bool.true_and]
                  | false =>
                    simp only [Bool.false_eq_true, not_false_eq_true, if_true, Bool.false_and, Bool.false_or]
                    exact skip
              rw [eor, Bool.true_and]
              by_cases c1 : ovr N x n = true
              · rw [if_neg (fun q => q c1)]; exact t2
              · rw [if_pos c1]
                have c2 := ce.resolve_right c1
                rw [if_neg (fun q => q c2)]; exact t2
            · have eor : (ovr N n x || ovr N x n) = false := by
                rw [← Bool.not_eq_true, Bool.or_eq_true]; exact ce
              rw [eor, Bool.false_and, Bool.false_or, if_pos (fun q => ce (Or.inr q)), if_pos (fun q => ce (Or.inl q))]
              exact skip
      exact loop (nM N) 0 (by omega)
theorem c_leads {d w n e : Nat} {Q : Option PV → St → Prop} {σ : St} {N : Net} (h : CI σ w N) (hn : n < nM N) (he : e < nM N) : Ca (d + 13) 43 [vR w 6, vI (nI n), vI (nI e)] σ Q ↔ Q (some (vI (b2 (way N 7 none n e (2 ^ n) = true)))) σ := by
  have h7 := CI_7 h
  have il := fun Q => c_leadsOn he 7 none n (2 ^ n) (unseen_1 n (by omega) _ h7) (Nat.le_refl 7) hn (Nat.pow_lt_pow_right (n := 7) (by decide) (by omega)) (fun a q => by cases q) d Q σ h
  have il' : ∀ Q : Option PV → St → Prop, Ca (d + 12) 44 [vR w 6, vI (-1), vI (nI n), vI (nI e), vI (nI (2 ^ n)), vI 0] σ Q ↔ _ := il
  rw [ca_at (K := kX5_leads) (ls := [vR w 6, vI (nI n), vI (nI e)]) rfl rfl rfl]
  simp (disch := first | exact is2I | exact is2R | omega) only [z_X5_leads_0, z_X5_leads_1, z_X5_leads_2, z_X5_leads_3, z_X5_leads_4, z_X5_leads_5, z_X5_leads_6, z_X5_leads_7, z_X5_leads_8, z_X5_leads_11, kShl n (by omega), il', b2_ok, true_and, Option.toList_some, Option.toList_none, List.cons_append, List.nil_append, is2IT, is2RT, if_true, if_false]
