/-! ===== the class: what an order costs ===== -/
theorem co_in {d w t k : Nat} {Q : Option PV → St → Prop} {σ : St} {N : Net} {G : Nat → Nat} (h : CI σ w N) (hk : k < nM N) (hG : rI σ 78 k = nI (G k)) (hg : G k < 128) : ∀ r i v, i + r = nM N → (At d kX0_costOf 18 [vR 74 1, vR w 6, vI (nI t), vI (nI k), vI (nI v), vI (nI i)] [] σ Q ↔ At d kX0_costOf 62 [vR 74 1, vR w 6, vI (nI t), vI (nI k), vI (nI (pdR N (G k) r i v)), vI (nI (nM N))] [] σ Q)
  | 0, i, v, hi => by
    have h7 := CI_7 h
    have e1 := h.2.2.1.1
    have : i = nM N := by omega
    subst this
    simp (disch := first | exact is2I | exact is2R | omega) only [z_X0_costOf_18, z_X0_costOf_20, z_X0_costOf_21, z_X0_costOf_24, e1, kLe, Nat.le_refl, pdR, true_and, Option.toList_some, Option.toList_none, List.cons_append, List.nil_append, is2IT, is2RT, if_true, if_false]
  | r + 1, i, v, hi => by
    have h7 := CI_7 h
    have hX := h.1
    have hw := h.2.1
    have e1 := h.2.2.1.1
    have c : ¬ nM N ≤ i := by omega
    have ev : nI i + (1 : Int32) = nI (i + 1) := nI_add i 1
    obtain ⟨e2, -⟩ := h.2.2.1.2 i (by omega)
    have nx : ∀ v, (At d kX0_costOf 56 [vR 74 1, vR w 6, vI (nI t), vI (nI k), vI (nI v), vI (nI i)] [] σ Q ↔ At d kX0_costOf 62 [vR 74 1, vR w 6, vI (nI t), vI (nI k), vI (nI (pdR N (G k) r (i + 1) v)), vI (nI (nM N))] [] σ Q) := fun v => by
      simp (disch := first | exact is2I | exact is2R | omega) only [z_X0_costOf_56, ev, true_and, Option.toList_some, Option.toList_none, List.cons_append, List.nil_append, is2IT, is2RT, if_true, if_false]
      rw [z_X0_costOf_59, co_in h hk hG hg r (i + 1) v (by omega)]
    simp (disch := first | exact is2I | exact is2R | omega) only [z_X0_costOf_18, z_X0_costOf_20, z_X0_costOf_21, z_X0_costOf_24, z_X0_costOf_27, z_X0_costOf_28, z_X0_costOf_31, z_X0_costOf_32, z_X0_costOf_33, z_X0_costOf_35, z_X0_costOf_36, z_X0_costOf_37, z_X0_costOf_38, z_X0_costOf_41, z_X0_costOf_43, z_X0_costOf_44, z_X0_costOf_47, z_X0_costOf_49, z_X0_costOf_49s, z_X0_costOf_50, z_X0_costOf_53, z_X0_costOf_54, xf_r0_0 hX, xf_r0_1 hX, xf_r0_2 hX, xf_r0_4 hX, xf_r0_5 hX, xf_r0_6 hX, xf_r0_7 hX, xf_r0_8 hX, xf_r0_9 hX, xf_r70_0 hX, xf_r70_1 hX, xf_r70_2 hX, xf_r74_0 hX, xf_r74_1 hX, xf_r74_2 hX, xf_r74_3 hX, xf_r79_0 hX, xf_r79_1 hX, xf_r79_2 hX, xf_r83_0 hX, xf_r83_7 hX, xf_r88_0 hX, xf_r88_1 hX, xf_r88_2 hX, xf_r88_3 hX, xf_s0 hX, xf_s70 hX, xf_s71 hX, xf_s72 hX, xf_s73 hX, xf_s74 hX, xf_s75 hX, xf_s76 hX, xf_s77 hX, xf_s78 hX, xf_s79 hX, xf_s80 hX, xf_s81 hX, xf_s82 hX, xf_s83 hX, xf_s84 hX, xf_s85 hX, xf_s86 hX, xf_s88 hX, xf_s89 hX, xf_s90 hX, xf_s91 hX, xf_s92 hX, xf_s93 hX, xf_s94 hX, xf_s95 hX, xf_s96 hX, e1, kLe, c, kIn, kCl, hG, kHas (show G k < 2 ^ 31 by omega) (show i < 31 by omega), b2_0, xw_a hX hw, xw_n hX hw (show i < 7 by omega), xs_a hX hw, e2, pk_mul, pdR, true_and, Option.toList_some, Option.toList_none, List.cons_append, List.nil_append, is2IT, is2RT, if_true, if_false]
    cases e : (G k).testBit i with
    | true =>
      simp only [not_true_eq_false, if_true, if_false]; exact nx _
    | false =>
      simp only [Bool.false_eq_true, not_false_eq_true, if_true, if_false]; exact nx v
theorem co_l {d w : Nat} {Q : Option PV → St → Prop} {σ : St} {N : Net} {G : Nat → Nat} (h : CI σ w N) (hG : ∀ k, k < nM N → rI σ 78 k = nI (G k) ∧ G k < 128) : ∀ r k t l4 l5, k + r = nM N → is2 l4 = false → is2 l5 = false → (At d kX0_costOf 4 [vR 74 1, vR w 6, vI (nI t), vI (nI k), l4, l5] [] σ Q ↔ Q (some (vI (nI (cstR N G r k t)))) σ)
  | 0, k, t, l4, l5, hk, h4, h5 => by
    have h7 := CI_7 h
    have e1 := h.2.2.1.1
    have : k = nM N := by omega
    subst this
    simp (disch := first | exact is2I | exact is2R | omega) only [z_X0_costOf_4, z_X0_costOf_5, z_X0_costOf_6, z_X0_costOf_9, z_X0_costOf_73, z_X0_costOf_74, e1, kLe, Nat.le_refl, cstR, true_and, Option.toList_some, Option.toList_none, List.cons_append, List.nil_append, is2IT, is2RT, if_true, if_false]
  | r + 1, k, t, l4, l5, hk, h4, h5 => by
    have h7 := CI_7 h
    have e1 := h.2.2.1.1
    have c : ¬ nM N ≤ k := by omega
    have ev : nI k + (1 : Int32) = nI (k + 1) := nI_add k 1
    obtain ⟨g1, g2⟩ := hG k (by omega)
    simp (disch := first | exact is2I | exact is2R | omega) only [z_X0_costOf_4, z_X0_costOf_5, z_X0_costOf_6, z_X0_costOf_9, z_X0_costOf_12, z_X0_costOf_13, z_X0_costOf_15, z_X0_costOf_16, e1, kLe, c, h4, h5, true_and, Option.toList_some, Option.toList_none, List.cons_append, List.nil_append, is2IT, is2RT, if_true, if_false]
    have l := co_in (d := d) (t := t) (Q := Q) h (show k < nM N by omega) g1 g2 (nM N) 0 1 (by omega)
    refine l.trans ?_
    simp (disch := first | exact is2I | exact is2R | omega) only [z_X0_costOf_62, z_X0_costOf_63, z_X0_costOf_65, z_X0_costOf_66, z_X0_costOf_67, nI_add, ev, kAL, true_and, Option.toList_some, Option.toList_none, List.cons_append, List.nil_append, is2IT, is2RT, if_true, if_false]
    rw [z_X0_costOf_70, co_l h hG r (k + 1) _ _ _ (by omega) rfl rfl]
    exact Iff.rfl
theorem c_costOf {d w : Nat} {Q : Option PV → St → Prop} {σ : St} {N : Net} {G : Nat → Nat} (h : CI σ w N) (hG : ∀ k, k < nM N → rI σ 78 k = nI (G k) ∧ G k < 128) : Ca (d + 1) 7 [vR 74 1, vR w 6] σ Q ↔ Q (some (vI (nI (cstR N G (nM N) 0 0)))) σ := by
  rw [ca_at (K := kX0_costOf) (ls := [vR 74 1, vR w 6, vU, vU, vU, vU]) rfl rfl rfl]
  have l := @co_l d w Q σ N G h hG (nM N) 0 0 vU vU (by omega) rfl rfl
  simp only [z_X0_costOf_0, z_X0_costOf_1, z_X0_costOf_2, z_X0_costOf_3, true_and, Option.toList_some, Option.toList_none, List.cons_append, List.nil_append, is2IT, is2RT, if_true, if_false]
  exact l
