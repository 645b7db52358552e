/-! ===== fill, one leaves, the order: the reference ===== -/
theorem dif_128 {x y : Nat} (hx : x < 128) : dif x y < 128 := Nat.xor_lt_two_pow (n := 7) hx (Nat.lt_of_le_of_lt Nat.and_le_left hx)
def fb (nr : Nat → Nat) (n a b : Nat) : Bool := (nr n).testBit a && ((nr n).testBit b && !(nr a).testBit b)
def flI (nr : Nat → Nat) (n a : Nat) : Nat → Nat → Nat → Nat
  | 0, _, v => v
  | r + 1, b, v => flI nr n a r (b + 1) (if fb nr n a b = true then v + 1 else v)
def flO (nr : Nat → Nat) (n m : Nat) : Nat → Nat → Nat → Nat
  | 0, _, v => v
  | r + 1, a, v => flO nr n m r (a + 1) (flI nr n a (m - (a + 1)) (a + 1) v)
def filS (nr : Nat → Nat) (n m : Nat) : Nat := flO nr n m m 0 0
theorem flI_le {nr : Nat → Nat} {n a : Nat} : ∀ r b v, flI nr n a r b v ≤ v + r
  | 0, _, v => Nat.le_refl v
  | r + 1, b, v => by
    show flI nr n a r (b + 1) (if fb nr n a b = true then v + 1 else v) ≤ _
    by_cases c : fb nr n a b = true
    · rw [if_pos c]
      have := flI_le (nr := nr) (n := n) (a := a) r (b + 1) (v + 1)
      omega
    · rw [if_neg c]
      have := flI_le (nr := nr) (n := n) (a := a) r (b + 1) v
      omega
theorem flO_le {nr : Nat → Nat} {n m : Nat} : ∀ r a v, flO nr n m r a v ≤ v + r * m
  | 0, _, v => by show v ≤ _; omega
  | r + 1, a, v => by
    show flO nr n m r (a + 1) (flI nr n a (m - (a + 1)) (a + 1) v) ≤ _
    have h1 := flO_le (nr := nr) (n := n) (m := m) r (a + 1) (flI nr n a (m - (a + 1)) (a + 1) v)
    have h2 := flI_le (nr := nr) (n := n) (a := a) (m - (a + 1)) (a + 1) v
    have e : (r + 1) * m = r * m + m := Nat.succ_mul r m
    omega
theorem filS_le {nr : Nat → Nat} {n m : Nat} (h7 : m ≤ 7) : filS nr n m < 100 := by
  have h := flO_le (nr := nr) (n := n) (m := m) m 0 0
  have : m * m ≤ 7 * 7 := Nat.mul_le_mul h7 h7
  unfold filS
  omega
theorem fl_l1 {d n a : Nat} {Q : Option PV → St → Prop} {σ : St} {N : Net} {nr : Nat → Nat} (h : MI σ N) (hN : NR σ nr) (hn : n < nM N) (ha : a < nM N) : ∀ r b v, b + r = nM N → (At (d + 1) kX9_fillOf 17 [vR 97 9, vI (nI n), vI (nI v), vI (nI a), vI (nI b)] [] σ Q ↔ At (d + 1) kX9_fillOf 76 [vR 97 9, vI (nI n), vI (nI (flI nr n a r b v)), vI (nI a), vI (nI (nM N))] [] σ Q)
  | 0, b, v, hb => by
    have h7 := MI_7 h
    have : b = nM N := by omega
    subst this
    simp (disch := first | exact is2I | exact is2R | omega) only [z_X9_fillOf_17, z_X9_fillOf_19, z_X9_fillOf_20, z_X9_fillOf_23, i_many h, kLe, Nat.le_refl, flI, true_and, Option.toList_some, Option.toList_none, List.cons_append, List.nil_append, is2IT, is2RT, if_true, if_false]
  | r + 1, b, v, hb => by
    have h7 := MI_7 h
    have c : ¬ nM N ≤ b := by omega
    obtain ⟨x1, x2⟩ := hN n (by omega)
    obtain ⟨y1, y2⟩ := hN a (by omega)
    simp (disch := first | exact is2I | exact is2R | omega) only [z_X9_fillOf_17, z_X9_fillOf_19, z_X9_fillOf_20, z_X9_fillOf_23, z_X9_fillOf_26, z_X9_fillOf_27, z_X9_fillOf_30, z_X9_fillOf_31, z_X9_fillOf_32, z_X9_fillOf_33, z_X9_fillOf_36, z_X9_fillOf_39, z_X9_fillOf_40, z_X9_fillOf_43, z_X9_fillOf_44, z_X9_fillOf_45, z_X9_fillOf_47, z_X9_fillOf_50, z_X9_fillOf_53, z_X9_fillOf_54, z_X9_fillOf_57, z_X9_fillOf_58, z_X9_fillOf_59, z_X9_fillOf_61, z_X9_fillOf_64, z_X9_fillOf_67, mf_r1 h.1, mf_r2 h.1, mf_r3 h.1, mf_r5 h.1, mf_r10 h.1, mf_r11 h.1, mf_r13 h.1, mf_r15 h.1, mf_r16 h.1, mf_r19 h.1, mf_r21 h.1, mf_r22 h.1, mf_r23 h.1, mf_r24 h.1, mf_r25 h.1, mf_r26 h.1, mf_r27 h.1, mf_r29 h.1, mf_r30 h.1, mf_r31 h.1, mf_r32 h.1, mf_s98 h.1, mf_s99 h.1, mf_s100 h.1, mf_s101 h.1, mf_s102 h.1, mf_s103 h.1, mf_s104 h.1, mf_s105 h.1, mf_s106 h.1, mf_s107 h.1, mf_s108 h.1, mf_s109 h.1, mf_s110 h.1, mf_s111 h.1, mf_s112 h.1, mf_s113 h.1, mf_s114 h.1, mf_s115 h.1, mf_s116 h.1, mf_s117 h.1, mf_s118 h.1, i_many h, kLe, c, kIn, kCl, x1, y1, m_has (show nr n < 2 ^ 31 by omega) (show a < 31 by omega), m_has (show nr n < 2 ^ 31 by omega) (show b < 31 by omega), m_has (show nr a < 2 ^ 31 by omega) (show b < 31 by omega), b2_0, kAL, flI, true_and, Option.toList_some, Option.toList_none, List.cons_append, List.nil_append, is2IT, is2RT, if_true, if_false]
    have nx : ∀ v, (At (d + 1) kX9_fillOf 70 [vR 97 9, vI (nI n), vI (nI v), vI (nI a), vI (nI b)] [] σ Q ↔ At (d + 1) kX9_fillOf 76 [vR 97 9, vI (nI n), vI (nI (flI nr n a r (b + 1) v)), vI (nI a), vI (nI (nM N))] [] σ Q) := fun v => by
      simp (disch := first | exact is2I | exact is2R | omega) only [z_X9_fillOf_70, kAL, true_and, Option.toList_some, Option.toList_none, List.cons_append, List.nil_append, is2IT, is2RT, if_true, if_false]
      rw [z_X9_fillOf_73, fl_l1 h hN hn ha r (b + 1) v (by omega)]
    have hfb : fb nr n a b = ((nr n).testBit a && ((nr n).testBit b && !(nr a).testBit b)) := rfl
    cases e1 : (nr n).testBit a with
    | false =>
      rw [if_neg (show ¬ fb nr n a b = true by rw [hfb, e1]; exact fun q => by cases q)]
      simp only [Bool.false_eq_true, not_false_eq_true, if_true]; exact nx v
    | true =>
      cases e2 : (nr n).testBit b with
      | false =>
        rw [if_neg (show ¬ fb nr n a b = true by rw [hfb, e1, e2]; exact fun q => by cases q)]
        simp only [Bool.false_eq_true, not_false_eq_true, not_true_eq_false, if_true, if_false]; exact nx v
      | true =>
        cases e3 : (nr a).testBit b with
        | false =>
          rw [if_pos (show fb nr n a b = true by rw [hfb, e1, e2, e3]; rfl)]
          simp only [Bool.false_eq_true, not_false_eq_true, not_true_eq_false, if_true, if_false]; exact nx (v + 1)
        | true =>
          rw [if_neg (show ¬ fb nr n a b = true by rw [hfb, e1, e2, e3]; exact fun q => by cases q)]
          simp only [not_true_eq_false, if_false]; exact nx v
theorem fl_l2 {d n : Nat} {Q : Option PV → St → Prop} {σ : St} {N : Net} {nr : Nat → Nat} (h : MI σ N) (hN : NR σ nr) (hn : n < nM N) : ∀ r a v l4, a + r = nM N → (At (d + 1) kX9_fillOf 4 [vR 97 9, vI (nI n), vI (nI v), vI (nI a), l4] [] σ Q ↔ Q (some (vI (nI (flO nr n (nM N) r a v)))) σ)
  | 0, a, v, l4, ha => by
    have h7 := MI_7 h
    have : a = nM N := by omega
    subst this
    simp (disch := first | exact is2I | exact is2R | omega) only [z_X9_fillOf_4, z_X9_fillOf_5, z_X9_fillOf_6, z_X9_fillOf_9, z_X9_fillOf_82, z_X9_fillOf_83, i_many h, kLe, Nat.le_refl, flO, true_and, Option.toList_some, Option.toList_none, List.cons_append, List.nil_append, is2IT, is2RT, if_true, if_false]
  | r + 1, a, v, l4, ha => by
    have h7 := MI_7 h
    have c : ¬ nM N ≤ a := by omega
    simp (disch := first | exact is2I | exact is2R | omega) only [z_X9_fillOf_4, z_X9_fillOf_5, z_X9_fillOf_6, z_X9_fillOf_9, z_X9_fillOf_12, z_X9_fillOf_13, z_X9_fillOf_14, z_X9_fillOf_15, i_many h, kLe, c, kAL, flO, true_and, Option.toList_some, Option.toList_none, List.cons_append, List.nil_append, is2IT, is2RT, if_true, if_false]
    rw [fl_l1 h hN hn (by omega) (nM N - (a + 1)) (a + 1) v (by omega)]
    simp (disch := first | exact is2I | exact is2R | omega) only [z_X9_fillOf_76, kAL, true_and, Option.toList_some, Option.toList_none, List.cons_append, List.nil_append, is2IT, is2RT, if_true, if_false]
    rw [z_X9_fillOf_79, fl_l2 h hN hn r (a + 1) _ _ (by omega)]
theorem m_fillOf {d n : Nat} {Q : Option PV → St → Prop} {σ : St} {N : Net} {nr : Nat → Nat} (h : MI σ N) (hN : NR σ nr) (hn : n < nM N) : Ca (d + 2) 190 [vR 97 9, vI (nI n)] σ Q ↔ Q (some (vI (nI (filS nr n (nM N))))) σ := by
  rw [ca_at (K := kX9_fillOf) (ls := [vR 97 9, vI (nI n), vU, vU, vU]) rfl rfl rfl]
  have l := @fl_l2 d n Q σ N nr h hN hn (nM N) 0 0 vU (by omega)
  simp only [z_X9_fillOf_0, z_X9_fillOf_1, z_X9_fillOf_2, z_X9_fillOf_3, true_and, Option.toList_some, Option.toList_none, List.cons_append, List.nil_append, is2IT, is2RT, if_true, if_false]
  exact l
/-! one leaves -/
def lvI (n a : Nat) : Nat → Nat → (Nat → Nat) → (Nat → Nat)
  | 0, _, nr => nr
  | r + 1, b, nr => lvI n a r (b + 1) (if ¬ a = b ∧ ((nr n).testBit a && (nr n).testBit b) = true then up nr a (nr a ||| 2 ^ b) else nr)
def lvO (n m : Nat) : Nat → Nat → (Nat → Nat) → (Nat → Nat)
  | 0, _, nr => nr
  | r + 1, a, nr => lvO n m r (a + 1) (lvI n a m 0 nr)
def lv2 (n : Nat) : Nat → Nat → (Nat → Nat) → (Nat → Nat)
  | 0, _, nr => nr
  | r + 1, a, nr => lv2 n r (a + 1) (up nr a (dif (nr a) (2 ^ n)))
def lvS (nr : Nat → Nat) (n m : Nat) : Nat → Nat := up (lv2 n m 0 (lvO n m m 0 nr)) n 0
theorem NR_up {σ : St} {nr : Nat → Nat} {a v : Nat} (h : NR σ nr) (hv : v < 128) : NR (wI σ 109 a (nI v)) (up nr a v) := fun i hi => by
  rw [rI_wI]
  by_cases c : i = a
  · rw [if_pos ⟨rfl, c⟩, c, up_s]; exact ⟨rfl, hv⟩
  · rw [if_neg (fun q => c q.2), up_n c]; exact h i hi
theorem lv_l1 {d k n a : Nat} {Q : Option PV → St → Prop} {σ0 : St} {N : Net} {nrE : Nat → Nat} (h : MI σ0 N) (hn : n < nM N) (ha : a < nM N) (hQ : ∀ σ', Fm I109 noL σ0 σ' → NR σ' nrE → At (d + 1) kX9_leavesAs 108 [vR 97 9, vI (nI k), vI (nI n), vI (nI a), vI (nI (nM N))] [] σ' Q) : ∀ r b σ nr, b + r = nM N → Fm I109 noL σ0 σ → NR σ nr → lvI n a r b nr = nrE → At (d + 1) kX9_leavesAs 47 [vR 97 9, vI (nI k), vI (nI n), vI (nI a), vI (nI b)] [] σ Q
  | 0, b, σ, nr, hb, hf, hN, he => by
    have h7 := MI_7 h
    have m1 : MI σ N := MI_fm h hf (fun _ => rfl)
    have : b = nM N := by omega
    subst this
    have he' : nr = nrE := he
    subst he'
    simp (disch := first | exact is2I | exact is2R | omega) only [z_X9_leavesAs_47, z_X9_leavesAs_49, z_X9_leavesAs_50, z_X9_leavesAs_53, i_many m1, kLe, Nat.le_refl, true_and, Option.toList_some, Option.toList_none, List.cons_append, List.nil_append, is2IT, is2RT, if_true, if_false]
    exact hQ σ hf hN
  | r + 1, b, σ, nr, hb, hf, hN, he => by
    have h7 := MI_7 h
    have m1 : MI σ N := MI_fm h hf (fun _ => rfl)
    have c : ¬ nM N ≤ b := by omega
    obtain ⟨x1, x2⟩ := hN n (by omega)
    obtain ⟨y1, y2⟩ := hN a (by omega)
    have ev : nI b + (1 : Int32) = nI (b + 1) := nI_add b 1
    have nx : ∀ σ1 nr1, Fm I109 noL σ0 σ1 → NR σ1 nr1 → lvI n a r (b + 1) nr1 = nrE → At (d + 1) kX9_leavesAs 102 [vR 97 9, vI (nI k), vI (nI n), vI (nI a), vI (nI b)] [] σ1 Q := fun σ1 nr1 q1 q2 q3 => by
      simp (disch := first | exact is2I | exact is2R | omega) only [z_X9_leavesAs_102, ev, true_and, Option.toList_some, Option.toList_none, List.cons_append, List.nil_append, is2IT, is2RT, if_true, if_false]
      rw [z_X9_leavesAs_105]
      exact lv_l1 h hn ha hQ r (b + 1) σ1 nr1 (by omega) q1 q2 q3
    have he' : lvI n a r (b + 1) (if ¬ a = b ∧ ((nr n).testBit a && (nr n).testBit b) = true then up nr a (nr a ||| 2 ^ b) else nr) = nrE := he
    simp (disch := first | exact is2I | exact is2R | omega) only [z_X9_leavesAs_47, z_X9_leavesAs_49, z_X9_leavesAs_50, z_X9_leavesAs_53, z_X9_leavesAs_56, z_X9_leavesAs_57, z_X9_leavesAs_59, z_X9_leavesAs_62, z_X9_leavesAs_63, z_X9_leavesAs_66, z_X9_leavesAs_67, z_X9_leavesAs_68, z_X9_leavesAs_69, z_X9_leavesAs_72, z_X9_leavesAs_75, z_X9_leavesAs_76, z_X9_leavesAs_79, z_X9_leavesAs_80, z_X9_leavesAs_81, z_X9_leavesAs_83, z_X9_leavesAs_86, mf_r1 m1.1, mf_r2 m1.1, mf_r3 m1.1, mf_r5 m1.1, mf_r10 m1.1, mf_r11 m1.1, mf_r13 m1.1, mf_r15 m1.1, mf_r16 m1.1, mf_r19 m1.1, mf_r21 m1.1, mf_r22 m1.1, mf_r23 m1.1, mf_r24 m1.1, mf_r25 m1.1, mf_r26 m1.1, mf_r27 m1.1, mf_r29 m1.1, mf_r30 m1.1, mf_r31 m1.1, mf_r32 m1.1, mf_s98 m1.1, mf_s99 m1.1, mf_s100 m1.1, mf_s101 m1.1, mf_s102 m1.1, mf_s103 m1.1, mf_s104 m1.1, mf_s105 m1.1, mf_s106 m1.1, mf_s107 m1.1, mf_s108 m1.1, mf_s109 m1.1, mf_s110 m1.1, mf_s111 m1.1, mf_s112 m1.1, mf_s113 m1.1, mf_s114 m1.1, mf_s115 m1.1, mf_s116 m1.1, mf_s117 m1.1, mf_s118 m1.1, i_many m1, kLe, c, kEq, kIn, kCl, x1, m_has (show nr n < 2 ^ 31 by omega) (show a < 31 by omega), m_has (show nr n < 2 ^ 31 by omega) (show b < 31 by omega), b2_0, true_and, Option.toList_some, Option.toList_none, List.cons_append, List.nil_append, is2IT, is2RT, if_true, if_false]
    by_cases c1 : a = b
    · rw [if_pos c1]
      rw [if_neg (fun q => q.1 c1)] at he'
      exact nx σ nr hf hN he'
    · rw [if_neg c1]
      cases e1 : (nr n).testBit a with
      | false =>
        rw [e1, if_neg (fun q => by cases q.2)] at he'
        simp only [Bool.false_eq_true, not_false_eq_true, if_true]
        exact nx σ nr hf hN he'
      | true =>
        cases e2 : (nr n).testBit b with
        | false =>
          rw [e2, Bool.and_false, if_neg (fun q => by cases q.2)] at he'
          simp only [Bool.false_eq_true, not_false_eq_true, not_true_eq_false, if_true, if_false]
          exact nx σ nr hf hN he'
        | true =>
          rw [e1, e2, if_pos ⟨c1, rfl⟩] at he'
          simp (disch := first | exact is2I | exact is2R | omega) only [z_X9_leavesAs_89, z_X9_leavesAs_90, z_X9_leavesAs_93, z_X9_leavesAs_94, z_X9_leavesAs_95, z_X9_leavesAs_96, z_X9_leavesAs_97, z_X9_leavesAs_99, z_X9_leavesAs_100, z_X9_leavesAs_101, mf_r1 m1.1, mf_r2 m1.1, mf_r3 m1.1, mf_r5 m1.1, mf_r10 m1.1, mf_r11 m1.1, mf_r13 m1.1, mf_r15 m1.1, mf_r16 m1.1, mf_r19 m1.1, mf_r21 m1.1, mf_r22 m1.1, mf_r23 m1.1, mf_r24 m1.1, mf_r25 m1.1, mf_r26 m1.1, mf_r27 m1.1, mf_r29 m1.1, mf_r30 m1.1, mf_r31 m1.1, mf_r32 m1.1, mf_s98 m1.1, mf_s99 m1.1, mf_s100 m1.1, mf_s101 m1.1, mf_s102 m1.1, mf_s103 m1.1, mf_s104 m1.1, mf_s105 m1.1, mf_s106 m1.1, mf_s107 m1.1, mf_s108 m1.1, mf_s109 m1.1, mf_s110 m1.1, mf_s111 m1.1, mf_s112 m1.1, mf_s113 m1.1, mf_s114 m1.1, mf_s115 m1.1, mf_s116 m1.1, mf_s117 m1.1, mf_s118 m1.1, kIn, kCl, y1, kShl b (by omega), kOr, not_true_eq_false, true_and, Option.toList_some, Option.toList_none, List.cons_append, List.nil_append, is2IT, is2RT, if_true, if_false]
          exact nx _ _ (Fm_tr hf (Fm_wI rfl)) (NR_up hN (or128 y2 (by omega))) he'
theorem lv_l2 {d k n : Nat} {Q : Option PV → St → Prop} {σ0 : St} {N : Net} {nrE : Nat → Nat} (h : MI σ0 N) (hn : n < nM N) (hQ : ∀ σ' l4, Fm I109 noL σ0 σ' → NR σ' nrE → At (d + 1) kX9_leavesAs 114 [vR 97 9, vI (nI k), vI (nI n), vI (nI (nM N)), l4] [] σ' Q) : ∀ r a σ nr l4, a + r = nM N → Fm I109 noL σ0 σ → NR σ nr → lvO n (nM N) r a nr = nrE → At (d + 1) kX9_leavesAs 36 [vR 97 9, vI (nI k), vI (nI n), vI (nI a), l4] [] σ Q
  | 0, a, σ, nr, l4, ha, hf, hN, he => by
    have h7 := MI_7 h
    have m1 : MI σ N := MI_fm h hf (fun _ => rfl)
    have : a = nM N := by omega
    subst this
    have he' : nr = nrE := he
    subst he'
    simp (disch := first | exact is2I | exact is2R | omega) only [z_X9_leavesAs_36, z_X9_leavesAs_37, z_X9_leavesAs_38, z_X9_leavesAs_41, i_many m1, kLe, Nat.le_refl, true_and, Option.toList_some, Option.toList_none, List.cons_append, List.nil_append, is2IT, is2RT, if_true, if_false]
    exact hQ σ l4 hf hN
  | r + 1, a, σ, nr, l4, ha, hf, hN, he => by
    have h7 := MI_7 h
    have m1 : MI σ N := MI_fm h hf (fun _ => rfl)
    have c : ¬ nM N ≤ a := by omega
    have ev : nI a + (1 : Int32) = nI (a + 1) := nI_add a 1
    have he' : lvO n (nM N) r (a + 1) (lvI n a (nM N) 0 nr) = nrE := he
    simp (disch := first | exact is2I | exact is2R | omega) only [z_X9_leavesAs_36, z_X9_leavesAs_37, z_X9_leavesAs_38, z_X9_leavesAs_41, z_X9_leavesAs_44, z_X9_leavesAs_45, i_many m1, kLe, c, true_and, Option.toList_some, Option.toList_none, List.cons_append, List.nil_append, is2IT, is2RT, if_true, if_false]
    refine lv_l1 (nrE := lvI n a (nM N) 0 nr) h hn (by omega) (fun σ' q1 q2 => ?_) (nM N) 0 σ nr (by omega) hf hN rfl
    simp (disch := first | exact is2I | exact is2R | omega) only [z_X9_leavesAs_108, ev, true_and, Option.toList_some, Option.toList_none, List.cons_append, List.nil_append, is2IT, is2RT, if_true, if_false]
    rw [z_X9_leavesAs_111]
    exact lv_l2 h hn hQ r (a + 1) σ' _ _ (by omega) q1 q2 he'
theorem lv_l3 {d k n : Nat} {Q : Option PV → St → Prop} {σ0 : St} {N : Net} {nrE : Nat → Nat} {l4 : PV} (h : MI σ0 N) (hn : n < nM N) (hQ : ∀ σ', Fm I109 noL σ0 σ' → NR σ' nrE → At (d + 1) kX9_leavesAs 144 [vR 97 9, vI (nI k), vI (nI n), vI (nI (nM N)), l4] [] σ' Q) : ∀ r a σ nr, a + r = nM N → Fm I109 noL σ0 σ → NR σ nr → lv2 n r a nr = nrE → At (d + 1) kX9_leavesAs 116 [vR 97 9, vI (nI k), vI (nI n), vI (nI a), l4] [] σ Q
  | 0, a, σ, nr, ha, hf, hN, he => by
    have h7 := MI_7 h
    have m1 : MI σ N := MI_fm h hf (fun _ => rfl)
    have : a = nM N := by omega
    subst this
    have he' : nr = nrE := he
    subst he'
    simp (disch := first | exact is2I | exact is2R | omega) only [z_X9_leavesAs_116, z_X9_leavesAs_117, z_X9_leavesAs_118, z_X9_leavesAs_121, i_many m1, kLe, Nat.le_refl, true_and, Option.toList_some, Option.toList_none, List.cons_append, List.nil_append, is2IT, is2RT, if_true, if_false]
    exact hQ σ hf hN
  | r + 1, a, σ, nr, ha, hf, hN, he => by
    have h7 := MI_7 h
    have m1 : MI σ N := MI_fm h hf (fun _ => rfl)
    have c : ¬ nM N ≤ a := by omega
    obtain ⟨y1, y2⟩ := hN a (by omega)
    have ev : nI a + (1 : Int32) = nI (a + 1) := nI_add a 1
    have he' : lv2 n r (a + 1) (up nr a (dif (nr a) (2 ^ n))) = nrE := he
    simp (disch := first | exact is2I | exact is2R | omega) only [z_X9_leavesAs_116, z_X9_leavesAs_117, z_X9_leavesAs_118, z_X9_leavesAs_121, z_X9_leavesAs_124, z_X9_leavesAs_125, z_X9_leavesAs_128, z_X9_leavesAs_129, z_X9_leavesAs_130, z_X9_leavesAs_131, z_X9_leavesAs_132, z_X9_leavesAs_133, z_X9_leavesAs_134, z_X9_leavesAs_135, z_X9_leavesAs_136, z_X9_leavesAs_137, z_X9_leavesAs_138, mf_r1 m1.1, mf_r2 m1.1, mf_r3 m1.1, mf_r5 m1.1, mf_r10 m1.1, mf_r11 m1.1, mf_r13 m1.1, mf_r15 m1.1, mf_r16 m1.1, mf_r19 m1.1, mf_r21 m1.1, mf_r22 m1.1, mf_r23 m1.1, mf_r24 m1.1, mf_r25 m1.1, mf_r26 m1.1, mf_r27 m1.1, mf_r29 m1.1, mf_r30 m1.1, mf_r31 m1.1, mf_r32 m1.1, mf_s98 m1.1, mf_s99 m1.1, mf_s100 m1.1, mf_s101 m1.1, mf_s102 m1.1, mf_s103 m1.1, mf_s104 m1.1, mf_s105 m1.1, mf_s106 m1.1, mf_s107 m1.1, mf_s108 m1.1, mf_s109 m1.1, mf_s110 m1.1, mf_s111 m1.1, mf_s112 m1.1, mf_s113 m1.1, mf_s114 m1.1, mf_s115 m1.1, mf_s116 m1.1, mf_s117 m1.1, mf_s118 m1.1, i_many m1, kLe, c, kIn, kCl, y1, kShl n (by omega), kDif, ev, rR_wI, sh_wI, true_and, Option.toList_some, Option.toList_none, List.cons_append, List.nil_append, is2IT, is2RT, if_true, if_false]
    rw [z_X9_leavesAs_141]
    exact lv_l3 h hn hQ r (a + 1) _ _ (by omega) (Fm_tr hf (Fm_wI rfl)) (NR_up hN (dif_128 y2)) he'
def ILV (a _i : Nat) : Bool := decide (109 ≤ a ∧ a ≤ 112)
theorem ILV_109 {a i : Nat} (h : I109 a i = true) : ILV a i = true := by
  have := Nat.eq_of_beq_eq_true h
  unfold ILV; exact decide_eq_true (by omega)
theorem m_leavesAs {d k n : Nat} {Q : Option PV → St → Prop} {σ : St} {N : Net} {nr : Nat → Nat} (h : MI σ N) (hn : n < nM N) (hk : k < 7) (hN : NR σ nr) (hQ : ∀ σ', Fm ILV noL σ σ' → NR σ' (lvS nr n (nM N)) → (∀ i, rI σ' 110 i = if i = k then nI n else rI σ 110 i) → (∀ i, rI σ' 111 i = if i = k then nI (filS nr n (nM N)) else rI σ 111 i) → (∀ i, rI σ' 112 i = if i = k then nI (nr n ||| 2 ^ n) else rI σ 112 i) → Q none σ') : Ca (d + 3) 191 [vR 97 9, vI (nI k), vI (nI n)] σ Q := by
  have h7 := MI_7 h
  have hF := h.1
  obtain ⟨x1, x2⟩ := hN n (by omega)
  rw [ca_at (K := kX9_leavesAs) (ls := [vR 97 9, vI (nI k), vI (nI n), vU, vU]) rfl rfl rfl]
  have m1 : MI (wI σ 110 k (nI n)) N := MI_wI h (by decide)
  have N1 : NR (wI σ 110 k (nI n)) nr := fun i hi => by rw [rI_wI_n (by decide)]; exact hN i hi
  have hF1 := m1.1
  simp (disch := first | exact is2I | exact is2R | omega) only [z_X9_leavesAs_0, z_X9_leavesAs_1, z_X9_leavesAs_4, z_X9_leavesAs_5, z_X9_leavesAs_6, z_X9_leavesAs_7, z_X9_leavesAs_8, z_X9_leavesAs_11, z_X9_leavesAs_12, z_X9_leavesAs_13, z_X9_leavesAs_14, z_X9_leavesAs_17, z_X9_leavesAs_18, z_X9_leavesAs_19, z_X9_leavesAs_22, z_X9_leavesAs_23, z_X9_leavesAs_24, z_X9_leavesAs_27, z_X9_leavesAs_28, z_X9_leavesAs_29, z_X9_leavesAs_30, z_X9_leavesAs_31, z_X9_leavesAs_32, z_X9_leavesAs_33, z_X9_leavesAs_34, z_X9_leavesAs_35, mf_r1 hF, mf_r2 hF, mf_r3 hF, mf_r5 hF, mf_r10 hF, mf_r11 hF, mf_r13 hF, mf_r15 hF, mf_r16 hF, mf_r19 hF, mf_r21 hF, mf_r22 hF, mf_r23 hF, mf_r24 hF, mf_r25 hF, mf_r26 hF, mf_r27 hF, mf_r29 hF, mf_r30 hF, mf_r31 hF, mf_r32 hF, mf_s98 hF, mf_s99 hF, mf_s100 hF, mf_s101 hF, mf_s102 hF, mf_s103 hF, mf_s104 hF, mf_s105 hF, mf_s106 hF, mf_s107 hF, mf_s108 hF, mf_s109 hF, mf_s110 hF, mf_s111 hF, mf_s112 hF, mf_s113 hF, mf_s114 hF, mf_s115 hF, mf_s116 hF, mf_s117 hF, mf_s118 hF, mf_r1 hF1, mf_r2 hF1, mf_r3 hF1, mf_r5 hF1, mf_r10 hF1, mf_r11 hF1, mf_r13 hF1, mf_r15 hF1, mf_r16 hF1, mf_r19 hF1, mf_r21 hF1, mf_r22 hF1, mf_r23 hF1, mf_r24 hF1, mf_r25 hF1, mf_r26 hF1, mf_r27 hF1, mf_r29 hF1, mf_r30 hF1, mf_r31 hF1, mf_r32 hF1, mf_s98 hF1, mf_s99 hF1, mf_s100 hF1, mf_s101 hF1, mf_s102 hF1, mf_s103 hF1, mf_s104 hF1, mf_s105 hF1, mf_s106 hF1, mf_s107 hF1, mf_s108 hF1, mf_s109 hF1, mf_s110 hF1, mf_s111 hF1, mf_s112 hF1, mf_s113 hF1, mf_s114 hF1, mf_s115 hF1, mf_s116 hF1, mf_s117 hF1, mf_s118 hF1, kIn, kCl, m_fillOf m1 N1 hn, rR_wI, sh_wI, rI_wI, x1, kShl n (by omega), kOr, show ¬ (109 = 111) by decide, show ¬ (109 = 110) by decide, false_and, true_and, Option.toList_some, Option.toList_none, List.cons_append, List.nil_append, is2IT, is2RT, if_true, if_false]
  have m3 : MI (wI (wI (wI σ 110 k (nI n)) 111 k (nI (filS nr n (nM N)))) 112 k (nI (nr n ||| 2 ^ n))) N := MI_wI (MI_wI m1 (by decide)) (by decide)
  have N3 : NR (wI (wI (wI σ 110 k (nI n)) 111 k (nI (filS nr n (nM N)))) 112 k (nI (nr n ||| 2 ^ n))) nr := fun i hi => by rw [rI_wI_n (by decide), rI_wI_n (by decide)]; exact N1 i hi
  have f3 : Fm ILV noL σ (wI (wI (wI σ 110 k (nI n)) 111 k (nI (filS nr n (nM N)))) 112 k (nI (nr n ||| 2 ^ n))) := Fm_tr (Fm_tr (Fm_wI rfl) (Fm_wI rfl)) (Fm_wI rfl)
  refine lv_l2 (d := d + 1) (nrE := lvO n (nM N) (nM N) 0 nr) m3 hn (fun σ1 l4 q1 q2 => ?_) (nM N) 0 _ nr vU (by omega) Fm_rf N3 rfl
  simp (disch := first | exact is2I | exact is2R | omega) only [z_X9_leavesAs_114, z_X9_leavesAs_115, true_and, Option.toList_some, Option.toList_none, List.cons_append, List.nil_append, is2IT, is2RT, if_true, if_false]
  refine lv_l3 (d := d + 1) (nrE := lv2 n (nM N) 0 (lvO n (nM N) (nM N) 0 nr)) m3 hn (fun σ2 q3 q4 => ?_) (nM N) 0 σ1 _ (by omega) q1 q2 rfl
  have hF2 : MF σ2 := (MI_fm m3 q3 (fun _ => rfl)).1
  simp (disch := first | exact is2I | exact is2R | omega) only [z_X9_leavesAs_144, z_X9_leavesAs_145, z_X9_leavesAs_148, z_X9_leavesAs_149, z_X9_leavesAs_150, z_X9_leavesAs_151, mf_r1 hF2, mf_r2 hF2, mf_r3 hF2, mf_r5 hF2, mf_r10 hF2, mf_r11 hF2, mf_r13 hF2, mf_r15 hF2, mf_r16 hF2, mf_r19 hF2, mf_r21 hF2, mf_r22 hF2, mf_r23 hF2, mf_r24 hF2, mf_r25 hF2, mf_r26 hF2, mf_r27 hF2, mf_r29 hF2, mf_r30 hF2, mf_r31 hF2, mf_r32 hF2, mf_s98 hF2, mf_s99 hF2, mf_s100 hF2, mf_s101 hF2, mf_s102 hF2, mf_s103 hF2, mf_s104 hF2, mf_s105 hF2, mf_s106 hF2, mf_s107 hF2, mf_s108 hF2, mf_s109 hF2, mf_s110 hF2, mf_s111 hF2, mf_s112 hF2, mf_s113 hF2, mf_s114 hF2, mf_s115 hF2, mf_s116 hF2, mf_s117 hF2, mf_s118 hF2, kIn, kCl, true_and, Option.toList_some, Option.toList_none, List.cons_append, List.nil_append, is2IT, is2RT, if_true, if_false]
  have fz : Fm I109 noL (wI (wI (wI σ 110 k (nI n)) 111 k (nI (filS nr n (nM N)))) 112 k (nI (nr n ||| 2 ^ n))) (wI σ2 109 n 0) := Fm_tr q3 (Fm_wI rfl)
  refine hQ _ (Fm_tr f3 (Fm_mono fz (fun a i => ILV_109) (fun _ q => q))) (NR_up q4 (by decide)) (fun i => ?_) (fun i => ?_) (fun i => ?_)
  · rw [fz.1 110 i rfl, rI_wI_n (by decide), rI_wI_n (by decide), rI_wI]
    by_cases c : i = k
    · rw [if_pos ⟨rfl, c⟩, if_pos c]
    · rw [if_neg (fun q => c q.2), if_neg c]
  · rw [fz.1 111 i rfl, rI_wI_n (by decide), rI_wI]
    by_cases c : i = k
    · rw [if_pos ⟨rfl, c⟩, if_pos c]
    · rw [if_neg (fun q => c q.2), if_neg c, rI_wI_n (by decide)]
  · rw [fz.1 112 i rfl, rI_wI]
    by_cases c : i = k
    · rw [if_pos ⟨rfl, c⟩, if_pos c]
    · rw [if_neg (fun q => c q.2), if_neg c, rI_wI_n (by decide), rI_wI_n (by decide)]
