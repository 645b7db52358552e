/-! ===== the class: one leaves ===== -/
def lcP (nr : Nat → Nat) (n i : Nat) : Nat → Nat := fun x => if x < i ∧ (nr n).testBit x = true then dif (dif (nr x ||| nr n) (2 ^ x)) (2 ^ n) else nr x
theorem lcP_n {nr : Nat → Nat} {n i : Nat} (h : (nr n).testBit n = false) : lcP nr n i n = nr n := if_neg (fun q => by rw [h] at q; cases q.2)
theorem lcP_0 {nr : Nat → Nat} {n : Nat} : lcP nr n 0 = nr := funext fun x => if_neg (fun q => by omega)
theorem le_l {d n k : Nat} {Q : Option PV → St → Prop} {nr : Nat → Nat} {σ0 : St} (hX : XF σ0) (hn : n < 7) (hz : (nr n).testBit n = false) (hb : nr n < 128) (hr : ∀ i, i < 7 → nr i < 128) (hQ : ∀ σ', Fm I75 noL σ0 σ' → NR0 σ' (lcP nr n 7) → At (d + 1) kX0_leave 93 [vR 74 1, vI (nI k), vI (nI n), vI (nI (nr n)), vI (nI 7)] [] σ' Q) : ∀ r i σ, i + r = 7 → Fm I75 noL σ0 σ → NR0 σ (lcP nr n i) → At (d + 1) kX0_leave 39 [vR 74 1, vI (nI k), vI (nI n), vI (nI (nr n)), vI (nI i)] [] σ Q
  | 0, i, σ, hi, hf, hN => by
    have : i = 7 := by omega
    subst this
    simp (disch := first | exact is2I | exact is2R | omega) only [z_X0_leave_39, z_X0_leave_41, z_X0_leave_43, kLLe, Nat.le_refl, true_and, Option.toList_some, Option.toList_none, List.cons_append, List.nil_append, is2IT, is2RT, if_true, if_false]
    exact hQ σ hf hN
  | r + 1, i, σ, hi, hf, hN => by
    have hX2 : XF σ := ⟨fun p hp => by rw [hf.2.2.1]; exact hX.1 p hp, fun p hp => by unfold sh; rw [hf.2.2.2.1]; exact hX.2 p hp⟩
    have c : ¬ 7 ≤ i := by omega
    have ev : nI i + (1 : Int32) = nI (i + 1) := nI_add i 1
    obtain ⟨y1, y2⟩ := hN i (by omega)
    have ei : lcP nr n i i = nr i := if_neg (fun q => by omega)
    rw [ei] at y1 y2
    have nx : ∀ σ1, Fm I75 noL σ0 σ1 → NR0 σ1 (lcP nr n (i + 1)) → At (d + 1) kX0_leave 87 [vR 74 1, vI (nI k), vI (nI n), vI (nI (nr n)), vI (nI i)] [] σ1 Q := fun σ1 q1 q2 => by
      simp (disch := first | exact is2I | exact is2R | omega) only [z_X0_leave_87, ev, true_and, Option.toList_some, Option.toList_none, List.cons_append, List.nil_append, is2IT, is2RT, if_true, if_false]
      rw [z_X0_leave_90]
      exact le_l hX hn hz hb hr hQ r (i + 1) σ1 (by omega) q1 q2
    simp (disch := first | exact is2I | exact is2R | omega) only [z_X0_leave_39, z_X0_leave_41, z_X0_leave_43, z_X0_leave_46, z_X0_leave_47, z_X0_leave_49, z_X0_leave_50, z_X0_leave_51, z_X0_leave_52, z_X0_leave_55, z_X0_leave_58, z_X0_leave_59, z_X0_leave_62, z_X0_leave_64, z_X0_leave_65, z_X0_leave_68, z_X0_leave_70, z_X0_leave_71, z_X0_leave_72, z_X0_leave_73, z_X0_leave_74, z_X0_leave_76, z_X0_leave_77, z_X0_leave_78, z_X0_leave_79, z_X0_leave_80, z_X0_leave_81, z_X0_leave_82, z_X0_leave_83, z_X0_leave_84, z_X0_leave_85, z_X0_leave_86, xf_r0_0 hX2, xf_r0_1 hX2, xf_r0_2 hX2, xf_r0_4 hX2, xf_r0_5 hX2, xf_r0_6 hX2, xf_r0_7 hX2, xf_r0_8 hX2, xf_r0_9 hX2, xf_r70_0 hX2, xf_r70_1 hX2, xf_r70_2 hX2, xf_r74_0 hX2, xf_r74_1 hX2, xf_r74_2 hX2, xf_r74_3 hX2, xf_r79_0 hX2, xf_r79_1 hX2, xf_r79_2 hX2, xf_r83_0 hX2, xf_r83_7 hX2, xf_r88_0 hX2, xf_r88_1 hX2, xf_r88_2 hX2, xf_r88_3 hX2, xf_s0 hX2, xf_s70 hX2, xf_s71 hX2, xf_s72 hX2, xf_s73 hX2, xf_s74 hX2, xf_s75 hX2, xf_s76 hX2, xf_s77 hX2, xf_s78 hX2, xf_s79 hX2, xf_s80 hX2, xf_s81 hX2, xf_s82 hX2, xf_s83 hX2, xf_s84 hX2, xf_s85 hX2, xf_s86 hX2, xf_s88 hX2, xf_s89 hX2, xf_s90 hX2, xf_s91 hX2, xf_s92 hX2, xf_s93 hX2, xf_s94 hX2, xf_s95 hX2, xf_s96 hX2, kLLe, c, kIn, kCl, y1, kHas (show nr n < 2 ^ 31 by omega) (show i < 31 by omega), kShl i (by omega), kShl n (by omega), kOr, kDif, b2_0, true_and, Option.toList_some, Option.toList_none, List.cons_append, List.nil_append, is2IT, is2RT, if_true, if_false]
    cases e : (nr n).testBit i with
    | false =>
      simp only [Bool.false_eq_true, not_false_eq_true, not_true_eq_false, if_true, if_false]
      refine nx σ hf (fun x hx => ?_)
      have ex : lcP nr n (i + 1) x = lcP nr n i x := by
        unfold lcP
        by_cases q : x = i
        · rw [q, e, if_neg (fun w => by cases w.2), if_neg (fun w => by cases w.2)]
        · by_cases q2 : x < i ∧ (nr n).testBit x = true
          · rw [if_pos q2, if_pos ⟨by omega, q2.2⟩]
          · rw [if_neg q2, if_neg (fun w => q2 ⟨by omega, w.2⟩)]
      rw [ex]; exact hN x hx
    | true =>
      simp only [not_true_eq_false, if_true, if_false]
      refine nx _ (Fm_tr hf (Fm_wI rfl)) (fun x hx => ?_)
      rw [rI_wI]
      by_cases q : x = i
      · subst q
        rw [if_pos ⟨rfl, rfl⟩, show lcP nr n (x + 1) x = dif (dif (nr x ||| nr n) (2 ^ x)) (2 ^ n) from if_pos ⟨by omega, e⟩]
        exact ⟨rfl, dif_128 (dif_128 (Nat.or_lt_two_pow (n := 7) y2 hb))⟩
      · rw [if_neg (fun w => q w.2)]
        have ex : lcP nr n (i + 1) x = lcP nr n i x := by
          unfold lcP
          by_cases q2 : x < i ∧ (nr n).testBit x = true
          · rw [if_pos q2, if_pos ⟨by omega, q2.2⟩]
          · rw [if_neg q2, if_neg (fun w => q2 ⟨by omega, w.2⟩)]
        rw [ex]; exact hN x hx
def ILV0 (a _i : Nat) : Bool := decide (75 ≤ a ∧ a ≤ 78)
theorem ILV0_75 {a i : Nat} (h : I75 a i = true) : ILV0 a i = true := by
  have := Nat.eq_of_beq_eq_true h
  unfold ILV0; exact decide_eq_true (by omega)
theorem c_leave {d k n m : Nat} {Q : Option PV → St → Prop} {σ : St} {nr : Nat → Nat} (hX : XF σ) (hS : SY nr m) (h7 : m ≤ 7) (hn : n < m) (hk : k < 7) (hN : NR0 σ nr) (hQ : ∀ σ', Fm ILV0 noL σ σ' → NR0 σ' (lvS nr n m) → (∀ i, rI σ' 76 i = if i = k then nI n else rI σ 76 i) → (∀ i, rI σ' 77 i = if i = k then nI (filS nr n m) else rI σ 77 i) → (∀ i, rI σ' 78 i = if i = k then nI (nr n ||| 2 ^ n) else rI σ 78 i) → Q none σ') : Ca (d + 3) 6 [vR 74 1, vI (nI k), vI (nI n)] σ Q := by
  obtain ⟨x1, x2⟩ := hN n (by omega)
  rw [ca_at (K := kX0_leave) (ls := [vR 74 1, vI (nI k), vI (nI n), vU, vU]) rfl rfl rfl]
  have hX1 : XF (wI σ 76 k (nI n)) := ⟨fun p hp => hX.1 p hp, fun p hp => hX.2 p hp⟩
  have N1 : NR0 (wI σ 76 k (nI n)) nr := fun i hi => by rw [rI_wI_n (by decide)]; exact hN i hi
  have ff := c_fillOf (d := d) (n := n) (Q := Q) hX1 N1 (by omega)
  have cf : ∀ Q, (Ca (d + 2) 5 [vR 74 1, vI (nI n)] (wI σ 76 k (nI n)) Q ↔ Q (some (vI (nI (filS nr n m)))) (wI σ 76 k (nI n))) := fun Q => by rw [c_fillOf hX1 N1 (by omega), fcS_fil hS h7 x2]
  have hX2 : XF (wI (wI σ 76 k (nI n)) 77 k (nI (filS nr n m))) := ⟨fun p hp => hX.1 p hp, fun p hp => hX.2 p hp⟩
  simp (disch := first | exact is2I | exact is2R | omega) only [z_X0_leave_0, z_X0_leave_1, z_X0_leave_4, z_X0_leave_5, z_X0_leave_6, z_X0_leave_7, z_X0_leave_8, z_X0_leave_11, z_X0_leave_12, z_X0_leave_13, z_X0_leave_14, z_X0_leave_15, z_X0_leave_18, z_X0_leave_19, z_X0_leave_20, z_X0_leave_21, z_X0_leave_24, z_X0_leave_25, z_X0_leave_26, z_X0_leave_29, z_X0_leave_30, z_X0_leave_31, z_X0_leave_32, z_X0_leave_33, z_X0_leave_34, z_X0_leave_35, z_X0_leave_36, z_X0_leave_37, xf_r0_0 hX, xf_r0_1 hX, xf_r0_2 hX, xf_r0_4 hX, xf_r0_5 hX, xf_r0_6 hX, xf_r0_7 hX, xf_r0_8 hX, xf_r0_9 hX, xf_r70_0 hX, xf_r70_1 hX, xf_r70_2 hX, xf_r74_0 hX, xf_r74_1 hX, xf_r74_2 hX, xf_r74_3 hX, xf_r79_0 hX, xf_r79_1 hX, xf_r79_2 hX, xf_r83_0 hX, xf_r83_7 hX, xf_r88_0 hX, xf_r88_1 hX, xf_r88_2 hX, xf_r88_3 hX, xf_s0 hX, xf_s70 hX, xf_s71 hX, xf_s72 hX, xf_s73 hX, xf_s74 hX, xf_s75 hX, xf_s76 hX, xf_s77 hX, xf_s78 hX, xf_s79 hX, xf_s80 hX, xf_s81 hX, xf_s82 hX, xf_s83 hX, xf_s84 hX, xf_s85 hX, xf_s86 hX, xf_s88 hX, xf_s89 hX, xf_s90 hX, xf_s91 hX, xf_s92 hX, xf_s93 hX, xf_s94 hX, xf_s95 hX, xf_s96 hX, xf_r0_0 hX1, xf_r0_1 hX1, xf_r0_2 hX1, xf_r0_4 hX1, xf_r0_5 hX1, xf_r0_6 hX1, xf_r0_7 hX1, xf_r0_8 hX1, xf_r0_9 hX1, xf_r70_0 hX1, xf_r70_1 hX1, xf_r70_2 hX1, xf_r74_0 hX1, xf_r74_1 hX1, xf_r74_2 hX1, xf_r74_3 hX1, xf_r79_0 hX1, xf_r79_1 hX1, xf_r79_2 hX1, xf_r83_0 hX1, xf_r83_7 hX1, xf_r88_0 hX1, xf_r88_1 hX1, xf_r88_2 hX1, xf_r88_3 hX1, xf_s0 hX1, xf_s70 hX1, xf_s71 hX1, xf_s72 hX1, xf_s73 hX1, xf_s74 hX1, xf_s75 hX1, xf_s76 hX1, xf_s77 hX1, xf_s78 hX1, xf_s79 hX1, xf_s80 hX1, xf_s81 hX1, xf_s82 hX1, xf_s83 hX1, xf_s84 hX1, xf_s85 hX1, xf_s86 hX1, xf_s88 hX1, xf_s89 hX1, xf_s90 hX1, xf_s91 hX1, xf_s92 hX1, xf_s93 hX1, xf_s94 hX1, xf_s95 hX1, xf_s96 hX1, xf_r0_0 hX2, xf_r0_1 hX2, xf_r0_2 hX2, xf_r0_4 hX2, xf_r0_5 hX2, xf_r0_6 hX2, xf_r0_7 hX2, xf_r0_8 hX2, xf_r0_9 hX2, xf_r70_0 hX2, xf_r70_1 hX2, xf_r70_2 hX2, xf_r74_0 hX2, xf_r74_1 hX2, xf_r74_2 hX2, xf_r74_3 hX2, xf_r79_0 hX2, xf_r79_1 hX2, xf_r79_2 hX2, xf_r83_0 hX2, xf_r83_7 hX2, xf_r88_0 hX2, xf_r88_1 hX2, xf_r88_2 hX2, xf_r88_3 hX2, xf_s0 hX2, xf_s70 hX2, xf_s71 hX2, xf_s72 hX2, xf_s73 hX2, xf_s74 hX2, xf_s75 hX2, xf_s76 hX2, xf_s77 hX2, xf_s78 hX2, xf_s79 hX2, xf_s80 hX2, xf_s81 hX2, xf_s82 hX2, xf_s83 hX2, xf_s84 hX2, xf_s85 hX2, xf_s86 hX2, xf_s88 hX2, xf_s89 hX2, xf_s90 hX2, xf_s91 hX2, xf_s92 hX2, xf_s93 hX2, xf_s94 hX2, xf_s95 hX2, xf_s96 hX2, kIn, kCl, cf, rR_wI, sh_wI, x1, kShl n (by omega), kOr, true_and, Option.toList_some, Option.toList_none, List.cons_append, List.nil_append, is2IT, is2RT, if_true, if_false]
  have hX3 : XF (wI (wI (wI σ 76 k (nI n)) 77 k (nI (filS nr n m))) 78 k (nI (nr n ||| 2 ^ n))) := ⟨fun p hp => hX.1 p hp, fun p hp => hX.2 p hp⟩
  have N3 : NR0 (wI (wI (wI σ 76 k (nI n)) 77 k (nI (filS nr n m))) 78 k (nI (nr n ||| 2 ^ n))) nr := fun i hi => by rw [rI_wI_n (by decide), rI_wI_n (by decide)]; exact N1 i hi
  have f3 : Fm ILV0 noL σ (wI (wI (wI σ 76 k (nI n)) 77 k (nI (filS nr n m))) 78 k (nI (nr n ||| 2 ^ n))) := Fm_tr (Fm_tr (Fm_wI rfl) (Fm_wI rfl)) (Fm_wI rfl)
  refine le_l (d := d + 1) (k := k) hX3 (by omega) (hS.2.1 n) x2 (fun i hi => (hN i hi).2) (fun σ2 q3 q4 => ?_) 7 0 _ (by omega) Fm_rf (by rw [lcP_0]; exact N3)
  have hX4 : XF σ2 := ⟨fun p hp => by rw [q3.2.2.1]; exact hX3.1 p hp, fun p hp => by unfold sh; rw [q3.2.2.2.1]; exact hX3.2 p hp⟩
  simp (disch := first | exact is2I | exact is2R | omega) only [z_X0_leave_93, z_X0_leave_94, z_X0_leave_97, z_X0_leave_98, z_X0_leave_99, z_X0_leave_100, xf_r0_0 hX4, xf_r0_1 hX4, xf_r0_2 hX4, xf_r0_4 hX4, xf_r0_5 hX4, xf_r0_6 hX4, xf_r0_7 hX4, xf_r0_8 hX4, xf_r0_9 hX4, xf_r70_0 hX4, xf_r70_1 hX4, xf_r70_2 hX4, xf_r74_0 hX4, xf_r74_1 hX4, xf_r74_2 hX4, xf_r74_3 hX4, xf_r79_0 hX4, xf_r79_1 hX4, xf_r79_2 hX4, xf_r83_0 hX4, xf_r83_7 hX4, xf_r88_0 hX4, xf_r88_1 hX4, xf_r88_2 hX4, xf_r88_3 hX4, xf_s0 hX4, xf_s70 hX4, xf_s71 hX4, xf_s72 hX4, xf_s73 hX4, xf_s74 hX4, xf_s75 hX4, xf_s76 hX4, xf_s77 hX4, xf_s78 hX4, xf_s79 hX4, xf_s80 hX4, xf_s81 hX4, xf_s82 hX4, xf_s83 hX4, xf_s84 hX4, xf_s85 hX4, xf_s86 hX4, xf_s88 hX4, xf_s89 hX4, xf_s90 hX4, xf_s91 hX4, xf_s92 hX4, xf_s93 hX4, xf_s94 hX4, xf_s95 hX4, xf_s96 hX4, kIn, kCl, true_and, Option.toList_some, Option.toList_none, List.cons_append, List.nil_append, is2IT, is2RT, if_true, if_false]
  have fz : Fm I75 noL (wI (wI (wI σ 76 k (nI n)) 77 k (nI (filS nr n m))) 78 k (nI (nr n ||| 2 ^ n))) (wI σ2 75 n 0) := Fm_tr q3 (Fm_wI rfl)
  refine hQ _ (Fm_tr f3 (Fm_mono fz (fun a i => ILV0_75) (fun _ q => q))) (fun i hi => ?_) (fun i => ?_) (fun i => ?_) (fun i => ?_)
  · rw [← lcS_lvS hS hn, rI_wI]
    unfold lcS
    by_cases c : i = n
    · rw [if_pos ⟨rfl, c⟩, if_pos c]; exact ⟨rfl, by decide⟩
    · rw [if_neg (fun q => c q.2), if_neg c]
      have q5 := q4 i hi
      unfold lcP at q5
      by_cases c2 : (nr n).testBit i = true
      · rw [if_pos ⟨hi, c2⟩] at q5
        rw [if_pos c2]; exact q5
      · rw [if_neg (fun w => c2 w.2)] at q5
        rw [if_neg c2]; exact q5
  · rw [fz.1 76 i rfl, rI_wI_n (by decide), rI_wI_n (by decide), rI_wI]
    by_cases c : i = k
    · rw [if_pos ⟨rfl, c⟩, if_pos c]
    · rw [if_neg (fun q => c q.2), if_neg c]
  · rw [fz.1 77 i rfl, rI_wI_n (by decide), rI_wI]
    by_cases c : i = k
    · rw [if_pos ⟨rfl, c⟩, if_pos c]
    · rw [if_neg (fun q => c q.2), if_neg c, rI_wI_n (by decide)]
  · rw [fz.1 78 i rfl, rI_wI]
    by_cases c : i = k
    · rw [if_pos ⟨rfl, c⟩, if_pos c]
    · rw [if_neg (fun q => c q.2), if_neg c, rI_wI_n (by decide), rI_wI_n (by decide)]
