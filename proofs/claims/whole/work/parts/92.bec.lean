/-! ===== the class: a web becomes another ===== -/
def Ind (w k a _i : Nat) : Bool := decide (a = nO w k ∨ a = hO w k ∨ a = cO w k)
theorem Fm_cI {I : Nat → Nat → Bool} {L : Nat → Bool} {σ : St} {a s k d n : Nat} (h : ∀ i, d ≤ i → i < d + n → I k i = true) : Fm I L σ (cI σ a s k d n) := ⟨fun x j q => by
  rw [rI_cI, if_neg (fun z => by rw [z.1, h j z.2.1 z.2.2] at q; cases q)], fun _ _ _ => rfl, fun _ _ => rfl, rfl, rfl⟩
theorem kArr (n : Nat) : Int32.ofNat n = nI n := rfl
theorem c_nbecome {d w v k : Nat} {Q : Option PV → St → Prop} {σ : St} (hX : XF σ) (hw : Wk w) (hv : Wk v) (hne : w ≠ v) (hk : k < 7) (hQ : ∀ σ', Fm (Ind w k) noL σ σ' → (∀ i, 2 ≤ i → i < 10 → rI σ' (nO w k) i = rI σ (nO v k) i) → (∀ i, i < 3 → rI σ' (hO w k) i = rI σ (hO v k) i) → (∀ i, i < 27 → rI σ' (cO w k) i = rI σ (cO v k) i) → Q none σ') : Ca (d + 1) 20 [vR (nO w k) 2, vR (nO v k) 2] σ Q := by
  have d1 : nO v k ≠ nO w k := by unfold nO; omega
  have d2 : nO v k ≠ hO w k := by unfold Wk at hw hv; unfold nO hO; omega
  have d3 : nO v k ≠ cO w k := by unfold Wk at hw hv; unfold nO cO; omega
  have d4 : hO v k ≠ cO w k := by unfold Wk at hw hv; unfold hO cO; omega
  have d5 : hO w k ≠ cO w k := by unfold hO cO; omega
  have d6 : nO w k ≠ cO w k := by unfold nO cO; omega
  have d7 : nO w k ≠ hO w k := by unfold nO hO; omega
  have d8 : hO v k ≠ hO w k := by unfold Wk at hw hv; unfold hO; omega
  rw [ca_at (K := kX1_become) (ls := [vR (nO w k) 2, vR (nO v k) 2]) rfl rfl rfl]
  have g27 : (!(decide ((0 : Int32) < 0)) && (!(decide ((0 : Int32) < 0)) && (!(decide (nI 27 < 0)) && (decide ((0 : Int32).toNatClampNeg + (nI 27).toNatClampNeg ≤ 27) && (decide ((0 : Int32).toNatClampNeg + (nI 27).toNatClampNeg ≤ 27) && true))))) = true := by decide
  have g3 : (!(decide ((0 : Int32) < 0)) && (!(decide ((0 : Int32) < 0)) && (!(decide (nI 3 < 0)) && (decide ((0 : Int32).toNatClampNeg + (nI 3).toNatClampNeg ≤ 3) && (decide ((0 : Int32).toNatClampNeg + (nI 3).toNatClampNeg ≤ 3) && true))))) = true := by decide
  have t0 : (0 : Int32).toNatClampNeg = 0 := by decide
  have t27 : (nI 27).toNatClampNeg = 27 := by decide
  have t3 : (nI 3).toNatClampNeg = 3 := by decide
  have hX1 : XF (cI σ (cO v k) 0 (cO w k) 0 27) := ⟨fun p hp => hX.1 p hp, fun p hp => hX.2 p hp⟩
  have hX2 : XF (cI (cI σ (cO v k) 0 (cO w k) 0 27) (hO v k) 0 (hO w k) 0 3) := ⟨fun p hp => hX.1 p hp, fun p hp => hX.2 p hp⟩
  simp (disch := first | exact is2I | exact is2R | omega) only [z_X1_become_0, z_X1_become_1, z_X1_become_4, z_X1_become_5, z_X1_become_6, z_X1_become_9, z_X1_become_10, z_X1_become_11, z_X1_become_14, z_X1_become_14l, z_X1_become_15, z_X1_become_15l, xw_c hX hw hk, xw_c hX hv hk, xs_c hX hw hk, xs_c hX hv hk, kArr, g27, true_and, Option.toList_some, Option.toList_none, List.cons_append, List.nil_append, is2IT, is2RT, if_true, if_false]
  rw [t0, t27]
  simp (disch := first | exact is2I | exact is2R | omega) only [z_X1_become_18, z_X1_become_19, z_X1_become_22, z_X1_become_23, z_X1_become_24, z_X1_become_27, z_X1_become_28, z_X1_become_29, z_X1_become_32, z_X1_become_32l, z_X1_become_33, z_X1_become_33l, xw_h hX1 hw hk, xw_h hX1 hv hk, xs_h hX1 hw hk, xs_h hX1 hv hk, kArr, g3, true_and, Option.toList_some, Option.toList_none, List.cons_append, List.nil_append, is2IT, is2RT, if_true, if_false]
  rw [t0, t3]
  simp (disch := first | exact is2I | exact is2R | omega) only [z_X1_become_36, z_X1_become_37, z_X1_become_38, z_X1_become_41, z_X1_become_44, z_X1_become_45, z_X1_become_46, z_X1_become_49, z_X1_become_52, z_X1_become_53, z_X1_become_54, z_X1_become_57, z_X1_become_60, z_X1_become_61, z_X1_become_62, z_X1_become_65, z_X1_become_68, z_X1_become_69, z_X1_become_70, z_X1_become_73, z_X1_become_76, z_X1_become_77, z_X1_become_78, z_X1_become_81, z_X1_become_84, z_X1_become_85, z_X1_become_86, z_X1_become_89, z_X1_become_92, z_X1_become_93, z_X1_become_94, z_X1_become_97, z_X1_become_100, rI_wI, d1, false_and, true_and, Option.toList_some, Option.toList_none, List.cons_append, List.nil_append, is2IT, is2RT, if_true, if_false]
  have kc : ∀ i, rI (cI (cI σ (cO v k) 0 (cO w k) 0 27) (hO v k) 0 (hO w k) 0 3) (nO v k) i = rI σ (nO v k) i := fun i => by
    rw [rI_cI, if_neg (fun q => d2 q.1), rI_cI, if_neg (fun q => d3 q.1)]
  refine hQ _ ?_ (fun i h1 h2 => ?_) (fun i hi => ?_) (fun i hi => ?_)
  · refine Fm_tr (Fm_tr (Fm_tr (Fm_tr (Fm_tr (Fm_tr (Fm_tr (Fm_tr (Fm_tr (Fm_cI ?_) (Fm_cI ?_)) (Fm_wI ?_)) (Fm_wI ?_)) (Fm_wI ?_)) (Fm_wI ?_)) (Fm_wI ?_)) (Fm_wI ?_)) (Fm_wI ?_)) (Fm_wI ?_)
    all_goals first | exact fun _ _ _ => decide_eq_true (Or.inr (Or.inr rfl)) | exact fun _ _ _ => decide_eq_true (Or.inr (Or.inl rfl)) | exact decide_eq_true (Or.inl rfl)
  · simp only [rI_wI, true_and]
    rcases (show i = 2 ∨ i = 3 ∨ i = 4 ∨ i = 5 ∨ i = 6 ∨ i = 7 ∨ i = 8 ∨ i = 9 by omega) with rfl | rfl | rfl | rfl | rfl | rfl | rfl | rfl <;> exact kc _
  · simp only [rI_wI, show ¬ (hO w k = nO w k) from fun q => d7 q.symm, false_and, if_false]
    rw [rI_cI, if_pos ⟨rfl, Nat.zero_le _, by omega⟩, rI_cI, if_neg (fun q => d4 q.1), Nat.zero_add, Nat.sub_zero]
  · simp only [rI_wI, show ¬ (cO w k = nO w k) from fun q => d6 q.symm, false_and, if_false]
    rw [rI_cI, if_neg (fun q => d5 q.1.symm), rI_cI, if_pos ⟨rfl, Nat.zero_le _, by omega⟩, Nat.zero_add, Nat.sub_zero]
theorem Iwb_dis {w v a i : Nat} (hw : Wk w) (hv : Wk v) (hne : w ≠ v) (h1 : v ≤ a) (h2 : a ≤ v + 22) : Iwb w a i = false := by
  unfold Iwb Wk at *
  exact decide_eq_false (by omega)
theorem Ind_Iwb {w k a i : Nat} (hk : k < 7) (h : Ind w k a i = true) : Iwb w a i = true := by
  have := of_decide_eq_true h
  unfold nO hO cO at this
  unfold Iwb
  exact decide_eq_true (by omega)
theorem NB_copy {σ σ' : St} {w v k : Nat} {N : Net} (h : NB σ v k N) (h9 : rowsN N k ≤ 9) (e1 : ∀ i, 2 ≤ i → i < 10 → rI σ' (nO w k) i = rI σ (nO v k) i) (e2 : ∀ i, i < 3 → rI σ' (hO w k) i = rI σ (hO v k) i) (e3 : ∀ i, i < 27 → rI σ' (cO w k) i = rI σ (cO v k) i) : NB σ' w k N := by
  obtain ⟨a1, a2, a3, a4, a5, a6, a7, a8, a9, a10⟩ := h
  exact ⟨by rw [e1 2 (by decide) (by decide)]; exact a1, by rw [e1 3 (by decide) (by decide)]; exact a2, by rw [e1 4 (by decide) (by decide)]; exact a3, by rw [e1 5 (by decide) (by decide)]; exact a4, by rw [e1 6 (by decide) (by decide)]; exact a5, by rw [e1 7 (by decide) (by decide)]; exact a6, by rw [e1 8 (by decide) (by decide)]; exact a7, by rw [e1 9 (by decide) (by decide)]; exact a8, fun x hx => by rw [e2 x hx]; exact a9 x hx, fun r hr x hx => by rw [e3 _ (by omega)]; exact a10 r hr x hx⟩
theorem wb_l {d w v : Nat} {Q : Option PV → St → Prop} {σ0 : St} {N : Net} (h : CI σ0 v N) (hw : Wk w) (hne : w ≠ v) (hQ : ∀ σ', Fm (Iwb w) noL σ0 σ' → CI σ' w N → Q none σ') : ∀ r k σ, k + r = nM N → Fm (Iwb w) noL σ0 σ → (∀ j, j < k → NB σ w j N) → At (d + 1) kX6_become 2 [vR w 6, vR v 6, vI (nI k)] [] σ Q
  | 0, k, σ, hk, hf, hb => by
    obtain ⟨hX0, hv, hB0, hN⟩ := h
    have h7 := hN.1
    have hX := XF_fm hX0 hf
    have hB := WB_fm hB0 h7 hf (fun a i h1 h2 => Iwb_dis hw hv hne h1 h2)
    have : k = nM N := by omega
    subst this
    simp (disch := first | exact is2I | exact is2R | omega) only [z_X6_become_2, z_X6_become_3, z_X6_become_4, z_X6_become_7, z_X6_become_31, z_X6_become_32, z_X6_become_33, z_X6_become_36, z_X6_become_39, hB.1, kLe, Nat.le_refl, true_and, Option.toList_some, Option.toList_none, List.cons_append, List.nil_append, is2IT, is2RT, if_true, if_false]
    have F2 : Fm (Iwb w) noL σ0 (wI σ w 1 (nI (nM N))) := Fm_tr hf (Fm_wI Iwb_w)
    refine hQ _ F2 ⟨XF_fm hX0 F2, hw, ⟨by rw [rI_wI, if_pos ⟨rfl, rfl⟩], fun j hj => ?_⟩, hN⟩
    have q := hb j hj
    unfold NB at q ⊢
    rw [rI_wI_n (show nO w j ≠ w by unfold nO; omega), rI_wI_n (show hO w j ≠ w by unfold hO; omega), rI_wI_n (show cO w j ≠ w by unfold cO; omega)]
    exact q
  | r + 1, k, σ, hk, hf, hb => by
    have h0 := h
    obtain ⟨hX0, hv, hB0, hN⟩ := h
    have h7 := hN.1
    have hX := XF_fm hX0 hf
    have hB := WB_fm hB0 h7 hf (fun a i h1 h2 => Iwb_dis hw hv hne h1 h2)
    have c : ¬ nM N ≤ k := by omega
    have ev : nI k + (1 : Int32) = nI (k + 1) := nI_add k 1
    simp (disch := first | exact is2I | exact is2R | omega) only [z_X6_become_2, z_X6_become_3, z_X6_become_4, z_X6_become_7, z_X6_become_10, z_X6_become_11, z_X6_become_14, z_X6_become_15, z_X6_become_15s, z_X6_become_16, z_X6_become_17, z_X6_become_20, z_X6_become_21, z_X6_become_21s, z_X6_become_22, hB.1, kLe, c, xw_a hX hw, xw_a hX hv, xw_n hX hw (show k < 7 by omega), xw_n hX hv (show k < 7 by omega), xs_a hX hw, xs_a hX hv, kIn, kCl, true_and, Option.toList_some, Option.toList_none, List.cons_append, List.nil_append, is2IT, is2RT, if_true, if_false]
    refine c_nbecome (d := d) hX hw hv hne (by omega) (fun σ1 q1 q2 q3 q4 => ?_)
    simp (disch := first | exact is2I | exact is2R | omega) only [z_X6_become_25, ev, Option.toList_none, List.nil_append, true_and, Option.toList_some, Option.toList_none, List.cons_append, List.nil_append, is2IT, is2RT, if_true, if_false]
    rw [z_X6_become_28]
    refine wb_l h0 hw hne hQ r (k + 1) σ1 (by omega) (Fm_tr hf (Fm_mono q1 (fun a i => Ind_Iwb (by omega)) (fun _ z => z))) (fun j hj => ?_)
    by_cases e : j = k
    · rw [e]
      exact NB_copy (hB.2 k (by omega)) (rows_9 hN (show k < nM N by omega)).2.1 q2 q3 q4
    · have q := hb j (by omega)
      have out : ∀ a, a ≠ nO w k → a ≠ hO w k → a ≠ cO w k → rI σ1 a = rI σ a := fun a h1 h2 h3 => funext fun i => q1.1 a i (decide_eq_false (fun z => by rcases z with z | z | z; exact h1 z; exact h2 z; exact h3 z))
      unfold NB at q ⊢
      rw [out (nO w j) (by unfold nO; omega) (by unfold nO hO; omega) (by unfold nO cO; omega), out (hO w j) (by unfold nO hO; omega) (by unfold hO; omega) (by unfold hO cO; omega), out (cO w j) (by unfold nO cO; omega) (by unfold hO cO; omega) (by unfold cO; omega)]
      exact q
theorem c_wbecome {d w v : Nat} {Q : Option PV → St → Prop} {σ : St} {N : Net} (h : CI σ v N) (hw : Wk w) (hne : w ≠ v) (hQ : ∀ σ', Fm (Iwb w) noL σ σ' → CI σ' w N → Q none σ') : Ca (d + 2) 51 [vR w 6, vR v 6] σ Q := by
  have h7 := CI_7 h
  rw [ca_at (K := kX6_become) (ls := [vR w 6, vR v 6, vU]) rfl rfl rfl]
  simp (disch := first | exact is2I | exact is2R | omega) only [z_X6_become_0, z_X6_become_1, true_and, Option.toList_some, Option.toList_none, List.cons_append, List.nil_append, is2IT, is2RT, if_true, if_false]
  exact wb_l (d := d) h hw hne hQ (nM N) 0 σ (by omega) Fm_rf (fun j hj => absurd hj (Nat.not_lt_zero j))
