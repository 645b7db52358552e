/-! ===== draws, counts, the image: the reference ===== -/
def zN (z : Int32) : Int32 := z * 1103515245 + 12345
def lot (z : Int32) : Nat := ((z.toUInt32 >>> ((9 : Int32).toUInt32 &&& Int32.toUInt32 31)).toInt32.toBitVec.toNat) % 12
theorem ush (z : Int32) : ∃ n, n < 2 ^ 23 ∧ (z.toUInt32 >>> ((9 : Int32).toUInt32 &&& Int32.toUInt32 31)).toInt32 = nI n ∧ n = (z.toUInt32 >>> ((9 : Int32).toUInt32 &&& Int32.toUInt32 31)).toInt32.toBitVec.toNat := by
  have e := pk_ushr z 9 9 (by decide)
  have hz : z.toBitVec.toNat < 2 ^ 32 := z.toBitVec.isLt
  refine ⟨(z.toUInt32 >>> ((9 : Int32).toUInt32 &&& Int32.toUInt32 31)).toInt32.toBitVec.toNat, by rw [e]; omega, ?_, rfl⟩
  apply Int32.toBitVec_inj.mp
  apply BitVec.eq_of_toNat_eq
  rw [pk_tn (by rw [e]; omega)]
theorem lotI (z : Int32) : (z.toUInt32 >>> ((9 : Int32).toUInt32 &&& Int32.toUInt32 31)).toInt32 - (z.toUInt32 >>> ((9 : Int32).toUInt32 &&& Int32.toUInt32 31)).toInt32 / 12 * 12 = nI (lot z) := by
  obtain ⟨n, h1, h2, h3⟩ := ush z
  unfold lot
  rw [h2, show (12 : Int32) = nI 12 from rfl, pk_rem (by omega) (by decide) (by decide), pk_tn (by omega)]
theorem lot_12 (z : Int32) : lot z < 12 := Nat.mod_lt _ (by decide)
/-- the first value up to which the numbers are above the lot -/
def drV (T : Nat → Nat) (l : Nat) : Nat → Nat → Nat → Nat
  | 0, v, _ => v
  | f + 1, v, till => if till ≤ l then drV T l f (v + 1) (till + T (v + 1)) else v
def drN (N : Net) (ω : Wd) (n : Nat) (z : Int32) : Nat := match nD N n with
  | some d => d
  | none => drV (tabN N n (xP N ω n) (yQ N ω n)) (lot z) (nS N n - 1) 0 (tabN N n (xP N ω n) (yQ N ω n) 0)
def drR (N : Net) : Nat → Nat → Int32 → Wd → Wd
  | 0, _, _, ω => ω
  | r + 1, n, z, ω => drR N r (n + 1) (zN z) (up ω n (drN N ω n (zN z)))
def drS (N : Net) (z : Int32) : Wd := drR N (nM N) 0 z w0
theorem tab_12 {N : Net} (h : NV N) {k : Nat} (hk : k < nM N) {ω : Wd} (hw : ∀ i, i < k → ω i < nS N i) : tabN N k (xP N ω k) (yQ N ω k) 0 + tabN N k (xP N ω k) (yQ N ω k) 1 + (if nS N k = 3 then tabN N k (xP N ω k) (yQ N ω k) 2 else 0) = 12 := by
  have hs := NV_sv h hk
  have hin := (tab_in h hk hw).2.2.2.2
  unfold tabN
  by_cases k0 : nK N k = 0
  · rw [if_pos k0, if_pos k0, if_pos k0]
    have t := (h.2 k hk).2.2.2.2.2.2.2.2 _ hin
    rcases hs with s | s
    · have := t.2 s
      rw [if_neg (by omega)]; omega
    · rw [if_pos s]; omega
  · rw [if_neg k0, if_neg k0, if_neg k0]
    have hm : madeN N k (xP N ω k) (yQ N ω k) < nS N k := by
      unfold madeN
      split
      · exact Nat.mod_lt _ (by omega)
      · dsimp only; omega
    generalize madeN N k (xP N ω k) (yQ N ω k) = m at hm
    rcases hs with s | s
    · rcases (show m = 0 ∨ m = 1 by omega) with rfl | rfl <;> simp [s]
    · rcases (show m = 0 ∨ m = 1 ∨ m = 2 by omega) with rfl | rfl | rfl <;> simp [s]
theorem dr_l1 {d n l V : Nat} {Q : Option PV → St → Prop} {σ : St} {N : Net} {ω : Wd} {z z2 : Int32} (h : MI σ N) (hn : n < nM N) (hw : Wld σ 105 N ω n) (hd : nD N n = none) (hl : l < 12) (hQ : ∀ t, At (d + 3) kX9_draws 91 [vR 97 9, vI z, vI z2, vI (nI n), vI (nI l), vI (nI V), vI (nI t)] [] σ Q) : ∀ f v till, v + f = nS N n - 1 → (f = 0 → till = 12) → till ≤ 12 → (f = 1 → till + tabN N n (xP N ω n) (yQ N ω n) (v + 1) = 12) → (f = 2 → till + tabN N n (xP N ω n) (yQ N ω n) (v + 1) + tabN N n (xP N ω n) (yQ N ω n) (v + 2) = 12) → drV (tabN N n (xP N ω n) (yQ N ω n)) l f v till = V → At (d + 3) kX9_draws 56 [vR 97 9, vI z, vI z2, vI (nI n), vI (nI l), vI (nI v), vI (nI till)] [] σ Q
  | 0, v, till, hv, h0, h12, h1, h2, he => by
    have ht := h0 rfl
    have hs := NV_s h hn
    have c : l < till := by omega
    have he' : v = V := he
    simp (disch := first | exact is2I | exact is2R | omega) only [z_X9_draws_56, z_X9_draws_57, z_X9_draws_58, z_X9_draws_59, z_X9_draws_62, z_X9_draws_63, z_X9_draws_66, z_X9_draws_68, z_X9_draws_70, i_is5 h hn, hd, oI_nn, kLt, c, true_and, Option.toList_some, Option.toList_none, List.cons_append, List.nil_append, is2IT, is2RT, if_true, if_false]
    rw [he']
    exact hQ till
  | f + 1, v, till, hv, h0, h12, h1, h2, he => by
    have hs := NV_s h hn
    have hv3 : v + 1 < 3 := by omega
    have t12 := tabN_12 h.2.2 hn (fun i hi => (hw i hi).2) hv3
    have he' : (if till ≤ l then drV (tabN N n (xP N ω n) (yQ N ω n)) l f (v + 1) (till + tabN N n (xP N ω n) (yQ N ω n) (v + 1)) else v) = V := he
    simp (disch := first | exact is2I | exact is2R | omega) only [z_X9_draws_56, z_X9_draws_57, z_X9_draws_58, z_X9_draws_59, z_X9_draws_62, z_X9_draws_63, z_X9_draws_66, z_X9_draws_68, z_X9_draws_70, i_is5 h hn, hd, oI_nn, kLt, true_and, Option.toList_some, Option.toList_none, List.cons_append, List.nil_append, is2IT, is2RT, if_true, if_false]
    by_cases c : till ≤ l
    · rw [if_pos c] at he'
      rw [if_neg (by omega)]
      simp (disch := first | exact is2I | exact is2R | omega) only [z_X9_draws_73, z_X9_draws_76, z_X9_draws_78, z_X9_draws_79, z_X9_draws_80, z_X9_draws_82, z_X9_draws_85, z_X9_draws_86, kAL, m_numberOf h hn hv3 hw, nI_add, true_and, Option.toList_some, Option.toList_none, List.cons_append, List.nil_append, is2IT, is2RT, if_true, if_false]
      rw [z_X9_draws_88]
      refine dr_l1 h hn hw hd hl hQ f (v + 1) _ (by omega) (fun q => ?_) ?_ (fun q => ?_) (fun q => by omega) he'
      · exact h1 (by omega)
      · rcases (show f = 0 ∨ f = 1 by omega) with q | q
        · have := h1 (by omega); omega
        · have := h2 (by omega); omega
      · have := h2 (by omega); exact this
    · rw [if_neg c] at he'
      rw [if_pos (by omega), he']
      exact hQ till
theorem dr_l2 {d : Nat} {Q : Option PV → St → Prop} {N : Net} {σ0 : St} {ωE : Wd} {z0 : Int32} (h : MI σ0 N) (hQ : ∀ σ', Fm Iw noL σ0 σ' → Wld σ' 105 N ωE (nM N) → Q none σ') : ∀ r n σ z ω l4 l5 l6, n + r = nM N → Fm Iw noL σ0 σ → Wld σ 105 N ω n → drR N r n z ω = ωE → At (d + 3) kX9_draws 4 [vR 97 9, vI z0, vI z, vI (nI n), l4, l5, l6] [] σ Q
  | 0, n, σ, z, ω, l4, l5, l6, hn, hf, hw, he => by
    have h7 := MI_7 h
    have m1 : MI σ N := MI_fm h hf (fun _ => rfl)
    have : n = nM N := by omega
    subst this
    have he' : ω = ωE := he
    subst he'
    simp (disch := first | exact is2I | exact is2R | omega) only [z_X9_draws_4, z_X9_draws_5, z_X9_draws_6, z_X9_draws_9, z_X9_draws_124, i_many m1, kLe, Nat.le_refl, true_and, Option.toList_some, Option.toList_none, List.cons_append, List.nil_append, is2IT, is2RT, if_true, if_false]
    exact hQ σ hf hw
  | r + 1, n, σ, z, ω, l4, l5, l6, hn, hf, hw, he => by
    have h7 := MI_7 h
    have hn1 : n < nM N := by omega
    have m1 : MI σ N := MI_fm h hf (fun _ => rfl)
    have hF := m1.1
    have c : ¬ nM N ≤ n := by omega
    have hs := NV_s h hn1
    have ev : nI n + (1 : Int32) = nI (n + 1) := nI_add n 1
    have ez : z * 1103515245 + 12345 = zN z := rfl
    have g12 : (!(decide ((12 : Int32) = 0))) = true := by decide
    have he' : drR N r (n + 1) (zN z) (up ω n (drN N ω n (zN z))) = ωE := he
    have nx : ∀ l4 l5 l6, drN N ω n (zN z) < nS N n → At (d + 3) kX9_draws 118 [vR 97 9, vI z0, vI (zN z), vI (nI n), l4, l5, l6] [] (wI σ 105 n (nI (drN N ω n (zN z)))) Q := fun l4 l5 l6 hlt => by
      simp (disch := first | exact is2I | exact is2R | omega) only [z_X9_draws_118, ev, true_and, Option.toList_some, Option.toList_none, List.cons_append, List.nil_append, is2IT, is2RT, if_true, if_false]
      rw [z_X9_draws_121]
      refine dr_l2 h hQ r (n + 1) _ _ _ l4 l5 l6 (by omega) (Fm_tr hf (Fm_wI rfl)) (fun i hi => ?_) he'
      by_cases ci : i = n
      · rw [rI_wI, if_pos ⟨rfl, ci⟩, ci, up_s]; exact ⟨rfl, hlt⟩
      · rw [rI_wI, if_neg (fun q => ci q.2), up_n ci]; exact hw i (by omega)
    simp (disch := first | exact is2I | exact is2R | omega) only [z_X9_draws_4, z_X9_draws_5, z_X9_draws_6, z_X9_draws_9, z_X9_draws_12, z_X9_draws_13, z_X9_draws_16, z_X9_draws_17, z_X9_draws_20, z_X9_draws_21, z_X9_draws_22, z_X9_draws_23, z_X9_draws_25, z_X9_draws_26, z_X9_draws_28, z_X9_draws_29, z_X9_draws_31, z_X9_draws_32, i_many m1, kLe, c, ez, g12, lotI, true_and, Option.toList_some, Option.toList_none, List.cons_append, List.nil_append, is2IT, is2RT, if_true, if_false]
    cases hd : nD N n with
    | some u =>
      have hu := (h.2.2.2 n hn1).2.2.2.2.2.2.1 u hd
      have e : drN N ω n (zN z) = u := by unfold drN; rw [hd]
      rw [e] at nx
      simp (disch := first | exact is2I | exact is2R | omega) only [z_X9_draws_34, z_X9_draws_35, z_X9_draws_36, z_X9_draws_37, z_X9_draws_40, z_X9_draws_41, z_X9_draws_44, z_X9_draws_45, z_X9_draws_46, z_X9_draws_47, z_X9_draws_50, z_X9_draws_53, z_X9_draws_54, z_X9_draws_56, z_X9_draws_57, z_X9_draws_58, z_X9_draws_59, z_X9_draws_62, z_X9_draws_63, z_X9_draws_66, z_X9_draws_68, z_X9_draws_70, z_X9_draws_73, z_X9_draws_76, z_X9_draws_78, z_X9_draws_79, z_X9_draws_80, z_X9_draws_82, z_X9_draws_85, z_X9_draws_86, z_X9_draws_88, z_X9_draws_91, z_X9_draws_92, z_X9_draws_95, z_X9_draws_96, z_X9_draws_97, z_X9_draws_98, z_X9_draws_99, z_X9_draws_102, z_X9_draws_103, z_X9_draws_106, z_X9_draws_108, z_X9_draws_111, z_X9_draws_112, z_X9_draws_113, z_X9_draws_114, z_X9_draws_117, i_is5 m1 hn1, hd, oI_ss, kM1, mf_r1 hF, mf_r2 hF, mf_r3 hF, mf_r5 hF, mf_r10 hF, mf_r11 hF, mf_r13 hF, mf_r15 hF, mf_r16 hF, mf_r19 hF, mf_r21 hF, mf_r22 hF, mf_r23 hF, mf_r24 hF, mf_r25 hF, mf_r26 hF, mf_r27 hF, mf_r29 hF, mf_r30 hF, mf_r31 hF, mf_r32 hF, mf_s98 hF, mf_s99 hF, mf_s100 hF, mf_s101 hF, mf_s102 hF, mf_s103 hF, mf_s104 hF, mf_s105 hF, mf_s106 hF, mf_s107 hF, mf_s108 hF, mf_s109 hF, mf_s110 hF, mf_s111 hF, mf_s112 hF, mf_s113 hF, mf_s114 hF, mf_s115 hF, mf_s116 hF, mf_s117 hF, mf_s118 hF, kIn, kCl, true_and, Option.toList_some, Option.toList_none, List.cons_append, List.nil_append, is2IT, is2RT, if_true, if_false]
      exact nx _ _ _ hu
    | none =>
      have hl := lot_12 (zN z)
      have e : drN N ω n (zN z) = drV (tabN N n (xP N ω n) (yQ N ω n)) (lot (zN z)) (nS N n - 1) 0 (tabN N n (xP N ω n) (yQ N ω n) 0) := by unfold drN; rw [hd]
      have s12 := tab_12 h.2.2 hn1 (fun i hi => (hw i hi).2)
      have t0 := tabN_12 h.2.2 hn1 (fun i hi => (hw i hi).2) (show 0 < 3 by decide)
      have hnum : ∀ {Q : Option PV → St → Prop}, Ca (d + 3) 158 [vR 97 9, vI (nI n), vI 0] σ Q ↔ Q (some (vI (nI (tabN N n (xP N ω n) (yQ N ω n) 0)))) σ := m_numberOf (v := 0) m1 hn1 (by decide) hw
      simp (disch := first | exact is2I | exact is2R | omega) only [z_X9_draws_34, z_X9_draws_35, z_X9_draws_36, z_X9_draws_37, z_X9_draws_40, z_X9_draws_41, z_X9_draws_44, z_X9_draws_45, z_X9_draws_46, z_X9_draws_47, z_X9_draws_50, z_X9_draws_53, z_X9_draws_54, i_is5 m1 hn1, hd, oI_nn, hnum, true_and, Option.toList_some, Option.toList_none, List.cons_append, List.nil_append, is2IT, is2RT, if_true, if_false]
      have hlt : drN N ω n (zN z) < nS N n := by
        have : ∀ f v t, v + f = nS N n - 1 → drV (tabN N n (xP N ω n) (yQ N ω n)) (lot (zN z)) f v t ≤ nS N n - 1 := by
          intro f
          induction f with
          | zero => intro v t q; show v ≤ _; omega
          | succ f ih =>
            intro v t q
            show (if t ≤ lot (zN z) then drV (tabN N n (xP N ω n) (yQ N ω n)) (lot (zN z)) f (v + 1) (t + tabN N n (xP N ω n) (yQ N ω n) (v + 1)) else v) ≤ _
            split
            · exact ih (v + 1) _ (by omega)
            · omega
        have := this (nS N n - 1) 0 (tabN N n (xP N ω n) (yQ N ω n) 0) (by omega)
        rw [e]; omega
      refine dr_l1 (d := d) (V := drN N ω n (zN z)) m1 hn1 hw hd hl (fun t => ?_) (nS N n - 1) 0 (tabN N n (xP N ω n) (yQ N ω n) 0) (by omega) (fun q => by omega) t0 (fun q => ?_) (fun q => ?_) e.symm
      · simp (disch := first | exact is2I | exact is2R | omega) only [z_X9_draws_91, z_X9_draws_92, z_X9_draws_95, z_X9_draws_96, z_X9_draws_97, z_X9_draws_98, z_X9_draws_99, z_X9_draws_102, z_X9_draws_103, z_X9_draws_106, z_X9_draws_108, z_X9_draws_111, z_X9_draws_112, z_X9_draws_113, z_X9_draws_114, z_X9_draws_117, i_is5 m1 hn1, hd, oI_nn, mf_r1 hF, mf_r2 hF, mf_r3 hF, mf_r5 hF, mf_r10 hF, mf_r11 hF, mf_r13 hF, mf_r15 hF, mf_r16 hF, mf_r19 hF, mf_r21 hF, mf_r22 hF, mf_r23 hF, mf_r24 hF, mf_r25 hF, mf_r26 hF, mf_r27 hF, mf_r29 hF, mf_r30 hF, mf_r31 hF, mf_r32 hF, mf_s98 hF, mf_s99 hF, mf_s100 hF, mf_s101 hF, mf_s102 hF, mf_s103 hF, mf_s104 hF, mf_s105 hF, mf_s106 hF, mf_s107 hF, mf_s108 hF, mf_s109 hF, mf_s110 hF, mf_s111 hF, mf_s112 hF, mf_s113 hF, mf_s114 hF, mf_s115 hF, mf_s116 hF, mf_s117 hF, mf_s118 hF, kIn, kCl, true_and, Option.toList_some, Option.toList_none, List.cons_append, List.nil_append, is2IT, is2RT, if_true, if_false]
        exact nx _ _ _ hlt
      · rw [if_neg (by omega)] at s12; omega
      · rw [if_pos (by omega)] at s12; omega
theorem m_draws {d : Nat} {Q : Option PV → St → Prop} {N : Net} {σ : St} {z : Int32} (h : MI σ N) (hQ : ∀ σ', Fm Iw noL σ σ' → Wld σ' 105 N (drS N z) (nM N) → Q none σ') : Ca (d + 4) 199 [vR 97 9, vI z] σ Q := by
  rw [ca_at (K := kX9_draws) (ls := [vR 97 9, vI z, vU, vU, vU, vU, vU]) rfl rfl rfl]
  simp only [z_X9_draws_0, z_X9_draws_1, z_X9_draws_2, z_X9_draws_3, true_and, Option.toList_some, Option.toList_none, List.cons_append, List.nil_append, is2IT, is2RT, if_true, if_false]
  exact dr_l2 (d := d) h hQ (nM N) 0 σ z w0 vU vU vU (by omega) Fm_rf (fun i hi => absurd hi (Nat.not_lt_zero i)) rfl
theorem Sc_iw {σ σ' : St} (h : Fm Iw noL σ σ') : Sc σ σ' := Sc_w (Fm_mono h (fun _ _ q => q) (fun a q => by cases q))
def drawF (N : Net) (s n : Int32) : Int32 := match pN (nM N) n with
  | none => -2
  | some k => nI (drS N s k)
theorem m_drawn {d : Nat} {Q : Option PV → St → Prop} {N : Net} {σ : St} {s n : Int32} (h : MI σ N) (hQ : ∀ σ', Sc σ σ' → Q (some (vI (drawF N s n))) σ') : Ca (d + 5) 200 [vR 97 9, vI s, vI n] σ Q := by
  have h7 := MI_7 h
  rw [ca_at (K := kX9_drawn) (ls := [vR 97 9, vI s, vI n]) rfl rfl rfl]
  unfold drawF at hQ
  cases hp : pN (nM N) n with
  | none =>
    rw [hp] at hQ
    simp (disch := first | exact is2I | exact is2R | omega) only [z_X9_drawn_0, z_X9_drawn_1, z_X9_drawn_2, z_X9_drawn_5, z_X9_drawn_8, z_X9_drawn_10, i_isNode h, b2_0, pN_none.mp hp, not_false_eq_true, true_and, Option.toList_some, Option.toList_none, List.cons_append, List.nil_append, is2IT, is2RT, if_true, if_false]
    exact hQ σ Fm_rf
  | some k =>
    rw [hp] at hQ
    obtain ⟨hk, rfl⟩ := (pN_some (by omega)).mp hp
    have hP : 0 ≤ nI k ∧ nI k < nI (nM N) := (lt_nI (by omega)).mpr ⟨k, hk, rfl⟩
    simp (disch := first | exact is2I | exact is2R | omega) only [z_X9_drawn_0, z_X9_drawn_1, z_X9_drawn_2, z_X9_drawn_5, z_X9_drawn_8, z_X9_drawn_10, z_X9_drawn_11, z_X9_drawn_12, z_X9_drawn_13, i_isNode h, b2_0, hP, and_self, not_true_eq_false, true_and, Option.toList_some, Option.toList_none, List.cons_append, List.nil_append, is2IT, is2RT, if_true, if_false]
    refine m_draws (d := d) h (fun σ' q1 q2 => ?_)
    have hF := (MI_fm h q1 (fun _ => rfl)).1
    have hw := (q2 k hk).1
    simp (disch := first | exact is2I | exact is2R | omega) only [z_X9_drawn_16, z_X9_drawn_17, z_X9_drawn_20, z_X9_drawn_21, z_X9_drawn_22, mf_r1 hF, mf_r2 hF, mf_r3 hF, mf_r5 hF, mf_r10 hF, mf_r11 hF, mf_r13 hF, mf_r15 hF, mf_r16 hF, mf_r19 hF, mf_r21 hF, mf_r22 hF, mf_r23 hF, mf_r24 hF, mf_r25 hF, mf_r26 hF, mf_r27 hF, mf_r29 hF, mf_r30 hF, mf_r31 hF, mf_r32 hF, mf_s98 hF, mf_s99 hF, mf_s100 hF, mf_s101 hF, mf_s102 hF, mf_s103 hF, mf_s104 hF, mf_s105 hF, mf_s106 hF, mf_s107 hF, mf_s108 hF, mf_s109 hF, mf_s110 hF, mf_s111 hF, mf_s112 hF, mf_s113 hF, mf_s114 hF, mf_s115 hF, mf_s116 hF, mf_s117 hF, mf_s118 hF, kIn, kCl, hw, true_and, Option.toList_some, Option.toList_none, List.cons_append, List.nil_append, is2IT, is2RT, if_true, if_false]
    exact hQ σ' (Sc_iw q1)
