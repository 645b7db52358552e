/-! ===== the class: worlds weighed ===== -/
theorem CI_fm {I : Nat → Nat → Bool} {L : Nat → Bool} {σ σ' : St} {w : Nat} {N : Net} (h : CI σ w N) (hf : Fm I L σ σ') (hI : ∀ a i, a < 70 → I a i = false) : CI σ' w N := by
  obtain ⟨h1, h2, h3, h4⟩ := h
  have r : ∀ a, a < 70 → rI σ' a = rI σ a := fun a ha => funext fun i => hf.1 a i (hI a i ha)
  have w70 : w + 22 < 70 := by rcases h2 with rfl | rfl | rfl <;> decide
  refine ⟨⟨fun p hp => by rw [hf.2.2.1]; exact h1.1 p hp, fun p hp => by unfold sh; rw [hf.2.2.2.1]; exact h1.2 p hp⟩, h2, ⟨by rw [r w (by omega)]; exact h3.1, fun k hk => ?_⟩, h4⟩
  have h7 := h4.1
  have q := h3.2 k hk
  unfold NB at q ⊢
  rw [r (nO w k) (by unfold nO; omega), r (hO w k) (by unfold hO; omega), r (cO w k) (by unfold cO; omega)]
  exact q
theorem fil_l {d a n : Nat} {Q : Option PV → St → Prop} {σ : St} {v : Int32} (ha : sh σ a = (20, n)) (hn : n < 100) : ∀ f i, i + f = n → (At d kJ7_fill_53178 5 [vR a 20, vI v, vI (nI i), vI (nI n)] [] (fI σ a 0 i (fun _ => v)) Q ↔ Q none (fI σ a 0 n (fun _ => v)))
  | 0, i, hi => by
    have : i = n := by omega
    subst this
    simp (disch := first | exact is2I | exact is2R | omega) only [z_J7_fill_53178_5, z_J7_fill_53178_6, z_J7_fill_53178_7, z_J7_fill_53178_20, kLe, Nat.le_refl, true_and, Option.toList_some, Option.toList_none, List.cons_append, List.nil_append, is2IT, is2RT, if_true, if_false]
  | f + 1, i, hi => by
    have c : ¬ n ≤ i := by omega
    simp (disch := first | exact is2I | exact is2R | omega) only [z_J7_fill_53178_5, z_J7_fill_53178_6, z_J7_fill_53178_7, z_J7_fill_53178_10, z_J7_fill_53178_11, z_J7_fill_53178_12, z_J7_fill_53178_13, z_J7_fill_53178_14, sh_fI, ha, kLe, c, kIn, kCl, kAL, true_and, Option.toList_some, Option.toList_none, List.cons_append, List.nil_append, is2IT, is2RT, if_true, if_false]
    rw [z_J7_fill_53178_17, fI_s0 (f := fun _ => v) rfl, fil_l ha hn f (i + 1) (by omega)]
theorem z_fi3 {d : Nat} {Q : Option PV → St → Prop} {σ : St} {ls st : List PV} {a : Nat} : At d kJ7_fill_53178 3 ls (vR a 20 :: st) σ Q ↔ At d kJ7_fill_53178 4 ls (vI (Int32.ofNat (sh σ a).2) :: st) σ Q := at_go (fun _ => rfl)
theorem z_fl3 {d : Nat} {Q : Option PV → St → Prop} {σ : St} {ls st : List PV} {a : Nat} : At d kJ7_fill_d0a16 3 ls (vR a 21 :: st) σ Q ↔ At d kJ7_fill_d0a16 4 ls (vI (Int32.ofNat (sh σ a).2) :: st) σ Q := at_go (fun _ => rfl)
theorem m_fill {d a n : Nat} {Q : Option PV → St → Prop} {σ : St} {v : Int32} (ha : sh σ a = (20, n)) (hn : n < 100) : Ca (d + 1) 272 [vR a 20, vI v] σ Q ↔ Q none (fI σ a 0 n (fun _ => v)) := by
  rw [ca_at (K := kJ7_fill_53178) (ls := [vR a 20, vI v, vU, vU]) rfl rfl rfl]
  have l := @fil_l d a n Q σ v ha hn n 0 (by omega)
  rw [fI_0] at l
  simp (disch := first | exact is2I | exact is2R | omega) only [z_J7_fill_53178_0, z_J7_fill_53178_1, z_J7_fill_53178_2, z_J7_fill_53178_3, z_J7_fill_53178_3x, z_J7_fill_53178_4, z_fi3, ha, true_and, Option.toList_some, Option.toList_none, List.cons_append, List.nil_append, is2IT, is2RT, if_true, if_false]
  exact l
def I71 (a _i : Nat) : Bool := a.beq 71
theorem wf_0 {d w k : Nat} {Q : Option PV → St → Prop} {σ : St} {N : Net} (h : CI σ w N) (hk : k = nM N) : Ca (d + 1) 67 [vR w 6, vR 70 7, vI (nI k)] σ Q ↔ Q (some (vL 1)) σ := by
  have h7 := CI_7 h
  have e := h.2.2.1.1
  subst hk
  rw [ca_at (K := kX7_weighFrom) (ls := [vR w 6, vR 70 7, vI (nI (nM N)), vU, vU, vU, vU, vU]) rfl rfl rfl]
  simp (disch := first | exact is2I | exact is2R | omega) only [z_X7_weighFrom_0, z_X7_weighFrom_1, z_X7_weighFrom_2, z_X7_weighFrom_5, z_X7_weighFrom_14, z_X7_weighFrom_15, e, kLe, Nat.le_refl, true_and, Option.toList_some, Option.toList_none, List.cons_append, List.nil_append, is2IT, is2RT, if_true, if_false]
set_option maxHeartbeats 1000000 in
theorem m_weighFrom {N : Net} {w : Nat} {mu : Nat → Option Nat} (hmu : ∀ i v, mu i = some v → v < 3) : ∀ f k, k + f = nM N → ∀ (d : Nat) (Q : Option PV → St → Prop) (σ : St) (ω : Wd), CI σ w N → (∀ i, i < 7 → rI σ 72 i = oI (mu i)) → Wld σ 71 N ω k →
    (∀ σ', Fm I71 noL σ σ' → (∀ i, i < k → rI σ' 71 i = rI σ 71 i) → Q (some (vL (lN (wsm N mu f k ω)))) σ') → Ca (d + f + 4) 67 [vR w 6, vR 70 7, vI (nI k)] σ Q := by
  intro f
  induction f with
  | zero =>
    intro k hk d Q σ ω h hm hw hQ
    show Ca (d + 3 + 1) _ _ _ _
    rw [wf_0 h (by omega)]
    exact hQ σ Fm_rf (fun _ _ => rfl)
  | succ f ih =>
    intro k hk d Q σ ω h hm hw hQ
    have h7 := CI_7 h
    have hkm : k < nM N := by omega
    have hs := NV_sv h.2.2.2 hkm
    have e6 := h.2.2.1.1
    have ck : ¬ nM N ≤ k := by omega
    have ek : nI k + (1 : Int32) = nI (k + 1) := nI_add k 1
    rw [show d + (f + 1) + 4 = d + f + 4 + 1 by omega, ca_at (K := kX7_weighFrom) (ls := [vR w 6, vR 70 7, vI (nI k), vU, vU, vU, vU, vU]) rfl rfl rfl]
    simp (disch := first | exact is2I | exact is2R | omega) only [z_X7_weighFrom_0, z_X7_weighFrom_1, z_X7_weighFrom_2, z_X7_weighFrom_5, z_X7_weighFrom_8, z_X7_weighFrom_9, z_X7_weighFrom_11, z_X7_weighFrom_14, z_X7_weighFrom_15, z_X7_weighFrom_16, z_X7_weighFrom_17, z_X7_weighFrom_18, z_X7_weighFrom_19, e6, kLe, kLtL, ck, show k < 7 by omega, true_and, Option.toList_some, Option.toList_none, List.cons_append, List.nil_append, is2IT, is2RT, if_true, if_false]
    have loop : ∀ r v, v + r = nS N k → ∀ (σ1 : St) (t : Nat) (l6 : PV), Fm I71 noL σ σ1 → (∀ i, i < k → rI σ1 71 i = rI σ 71 i) →
        (∀ σ', Fm I71 noL σ σ' → (∀ i, i < k → rI σ' 71 i = rI σ 71 i) → Q (some (vL (lN (t + ((List.range' v r).map fun v => if oV (mu k) v = true then facW N ω k v * wsm N mu f (k + 1) (up ω k v) else 0).sum)))) σ') →
        At (d + f + 4) kX7_weighFrom 21 [vR w 6, vR 70 7, vI (nI k), vL (lN t), vU, vI (nI v), l6, vU] [] σ1 Q := by
      intro r
      induction r with
      | zero =>
        intro v hv σ1 t l6 f1 f2 hQ1
        have hc := CI_fm h f1 (fun a i ha => by unfold I71; rw [← Bool.not_eq_true]; intro q; have := Nat.eq_of_beq_eq_true q; omega)
        have hv' : v = nS N k := by omega
        subst hv'
        have e2 := (hc.2.2.1.2 k hkm).1
        simp (disch := first | exact is2I | exact is2R | omega) only [z_X7_weighFrom_21, z_X7_weighFrom_23, z_X7_weighFrom_24, z_X7_weighFrom_27, z_X7_weighFrom_28, z_X7_weighFrom_28s, z_X7_weighFrom_29, z_X7_weighFrom_32, z_X7_weighFrom_111, z_X7_weighFrom_112, xw_a hc.1 hc.2.1, xw_n hc.1 hc.2.1 (show k < 7 by omega), xs_a hc.1 hc.2.1, kIn, kCl, e2, kLe, Nat.le_refl, true_and, Option.toList_some, Option.toList_none, List.cons_append, List.nil_append, is2IT, is2RT, if_true, if_false]
        have q := hQ1 σ1 f1 f2
        exact q
      | succ r ihr =>
        intro v hv σ1 t l6 f1 f2 hQ1
        have hc := CI_fm h f1 (fun a i ha => by unfold I71; rw [← Bool.not_eq_true]; intro q; have := Nat.eq_of_beq_eq_true q; omega)
        have e2 := (hc.2.2.1.2 k hkm).1
        have cv : ¬ nS N k ≤ v := by omega
        have em : rI σ1 72 k = oI (mu k) := by rw [f1.1 72 k rfl]; exact hm k (by omega)
        have ev : nI v + (1 : Int32) = nI (v + 1) := nI_add v 1
        have hw1 : Wld σ1 71 N ω k := fun i hi => by rw [f2 i hi]; exact hw i hi
        have hX := hc.1
        have next : ∀ (σ2 : St) (t2 : Nat) (l6 : PV), Fm I71 noL σ σ2 → (∀ i, i < k → rI σ2 71 i = rI σ 71 i) → t2 + ((List.range' (v + 1) r).map fun v => if oV (mu k) v = true then facW N ω k v * wsm N mu f (k + 1) (up ω k v) else 0).sum = t + ((List.range' v (r + 1)).map fun v => if oV (mu k) v = true then facW N ω k v * wsm N mu f (k + 1) (up ω k v) else 0).sum → At (d + f + 4) kX7_weighFrom 105 [vR w 6, vR 70 7, vI (nI k), vL (lN t2), vU, vI (nI v), l6, vU] [] σ2 Q := by
          intro σ2 t2 l6 g1 g2 g4
          simp only [z_X7_weighFrom_105, ev, true_and, Option.toList_some, Option.toList_none, List.cons_append, List.nil_append, is2IT, is2RT, if_true, if_false]
          rw [z_X7_weighFrom_108]
          refine ihr (v + 1) (by omega) σ2 t2 l6 g1 g2 (fun σ' q1 q2 => ?_)
          rw [g4]
          exact hQ1 σ' q1 q2
        have step : oV (mu k) v = true → At (d + f + 4) kX7_weighFrom 59 [vR w 6, vR 70 7, vI (nI k), vL (lN t), vU, vI (nI v), l6, vU] [] σ1 Q := by
          intro ho
          have hfb := facW_108 h.2.2.2 hkm (fun i hi => (hw i hi).2) (show v < 3 by omega)
          have e0 : (lN (facW N ω k v) = 0) = (facW N ω k v = 0) := propext (pk_lEQ (b := 0) (by omega) (by decide))
          simp (disch := first | exact is2I | exact is2R | omega) only [z_X7_weighFrom_59, z_X7_weighFrom_60, z_X7_weighFrom_61, z_X7_weighFrom_64, z_X7_weighFrom_65, z_X7_weighFrom_67, z_X7_weighFrom_70, z_X7_weighFrom_71, z_X7_weighFrom_73, z_X7_weighFrom_75, z_X7_weighFrom_76, z_X7_weighFrom_77, xf_r70_0 hX, c_factorIn (d := d + f + 1) hc hkm (xf_s71 hX) (show v < 3 by omega) hw1, nI_l, lg_cmp_eq, e0, true_and, Option.toList_some, Option.toList_none, List.cons_append, List.nil_append, is2IT, is2RT, if_true, if_false]
          by_cases c0 : facW N ω k v = 0
          · rw [if_pos c0]
            simp only [z_X7_weighFrom_80, true_and, Option.toList_some, Option.toList_none, List.cons_append, List.nil_append, is2IT, is2RT, if_true, if_false]
            refine next σ1 t _ f1 f2 ?_
            rw [List.range'_succ, List.map_cons, List.sum_cons, if_pos ho, c0, Nat.zero_mul, Nat.zero_add]
          · rw [if_neg c0]
            have hX2 : XF (wI σ1 71 k (nI v)) := hX
            simp (disch := first | exact is2I | exact is2R | omega) only [z_X7_weighFrom_83, z_X7_weighFrom_84, z_X7_weighFrom_87, z_X7_weighFrom_88, z_X7_weighFrom_90, z_X7_weighFrom_91, z_X7_weighFrom_92, z_X7_weighFrom_94, z_X7_weighFrom_95, z_X7_weighFrom_96, z_X7_weighFrom_97, z_X7_weighFrom_98, z_X7_weighFrom_99, xf_r70_0 hX, xf_s71 hX, kIn, kCl, ek, true_and, Option.toList_some, Option.toList_none, List.cons_append, List.nil_append, is2IT, is2RT, if_true, if_false]
            have fr2 : Fm I71 noL σ (wI σ1 71 k (nI v)) := Fm_tr f1 (Fm_wI rfl)
            have w2 : Wld (wI σ1 71 k (nI v)) 71 N (up ω k v) (k + 1) := by
              intro i hi
              by_cases e : i = k
              · subst e
                rw [rI_wI, if_pos ⟨rfl, rfl⟩, up_s]
                exact ⟨rfl, by omega⟩
              · rw [rI_wI, if_neg (fun q => e q.2), up_n e]
                exact hw1 i (by omega)
            refine ih (k + 1) (by omega) d _ _ (up ω k v) (CI_fm h fr2 (fun a i ha => by unfold I71; rw [← Bool.not_eq_true]; intro q; have := Nat.eq_of_beq_eq_true q; omega)) (fun i hi => by rw [fr2.1 72 i rfl]; exact hm i hi) w2 (fun σ' q1 q2 => ?_)
            simp only [z_X7_weighFrom_102, z_X7_weighFrom_103, z_X7_weighFrom_104, lN_mul, lN_add, true_and, Option.toList_some, Option.toList_none, List.cons_append, List.nil_append, is2IT, is2RT, if_true, if_false]
            refine next σ' _ _ (Fm_tr fr2 q1) (fun i hi => ?_) ?_
            · rw [q2 i (by omega), rI_wI, if_neg (by omega), f2 i hi]
            · rw [List.range'_succ, List.map_cons, List.sum_cons, if_pos ho, Nat.add_assoc]
        simp (disch := first | exact is2I | exact is2R | omega) only [z_X7_weighFrom_21, z_X7_weighFrom_23, z_X7_weighFrom_24, z_X7_weighFrom_27, z_X7_weighFrom_28, z_X7_weighFrom_28s, z_X7_weighFrom_29, z_X7_weighFrom_32, xw_a hX hc.2.1, xw_n hX hc.2.1 (show k < 7 by omega), xs_a hX hc.2.1, kIn, kCl, e2, kLe, cv, true_and, Option.toList_some, Option.toList_none, List.cons_append, List.nil_append, is2IT, is2RT, if_true, if_false]
        cases em2 : mu k with
        | none =>
          rw [em2, oI_nn] at em
          simp (disch := first | exact is2I | exact is2R | omega) only [z_X7_weighFrom_35, z_X7_weighFrom_36, z_X7_weighFrom_39, z_X7_weighFrom_40, z_X7_weighFrom_41, z_X7_weighFrom_42, xf_r70_1 hX, xf_s72 hX, kIn, kCl, em, true_and, Option.toList_some, Option.toList_none, List.cons_append, List.nil_append, is2IT, is2RT, if_true, if_false]
          exact step (by unfold oV; rw [em2]; rfl)
        | some u =>
          have hu := hmu k u em2
          rw [em2, oI_ss] at em
          simp (disch := first | exact is2I | exact is2R | omega) only [z_X7_weighFrom_35, z_X7_weighFrom_36, z_X7_weighFrom_39, z_X7_weighFrom_40, z_X7_weighFrom_41, z_X7_weighFrom_42, z_X7_weighFrom_45, z_X7_weighFrom_46, z_X7_weighFrom_49, z_X7_weighFrom_50, z_X7_weighFrom_51, z_X7_weighFrom_53, z_X7_weighFrom_56, xf_r70_1 hX, xf_s72 hX, kIn, kCl, em, kM1, kEq, true_and, Option.toList_some, Option.toList_none, List.cons_append, List.nil_append, is2IT, is2RT, if_true, if_false]
          by_cases cu : u = v
          · rw [if_pos cu]
            exact step (by unfold oV; rw [em2, cu]; exact decide_eq_true (Or.inr rfl))
          · rw [if_neg cu]
            refine next σ1 t l6 f1 f2 ?_
            rw [List.range'_succ, List.map_cons, List.sum_cons, if_neg (show ¬ oV (mu k) v = true by unfold oV; rw [em2]; simp [cu]), Nat.zero_add]
    exact (by
      have l0 := loop (nS N k) 0 (by omega) σ 0 vU Fm_rf (fun _ _ => rfl) (fun σ' q1 q2 => by rw [Nat.zero_add]; exact hQ σ' q1 q2)
      exact l0)
