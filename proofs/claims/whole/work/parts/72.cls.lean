/-! ===== the class: all, both, guesses, the likeliest ===== -/
/-- the scratch of the class's worlds -/
def Iwc (a _i : Nat) : Bool := decide (a = 71 ∨ a = 72 ∨ a = 73)
def Lwc (a : Nat) : Bool := a.beq 70
theorem I71_c {a i : Nat} (h : I71 a i = true) : Iwc a i = true := by
  have := Nat.eq_of_beq_eq_true h
  exact decide_eq_true (by omega)
theorem CI_w {σ σ' : St} {w : Nat} {N : Net} (h : CI σ w N) (hf : Fm Iwc Lwc σ σ') : CI σ' w N := CI_fm h hf (fun a i ha => decide_eq_false (by omega))
theorem c_weighAll {d w : Nat} {Q : Option PV → St → Prop} {σ : St} {N : Net} (h : CI σ w N) (hQ : ∀ σ', Fm Iwc noL σ σ' → Q (some (vL (lN (WT N no1)))) σ') : Ca (d + 12) 63 [vR 70 7, vR w 6] σ Q := by
  have h7 := CI_7 h
  have hX := h.1
  rw [ca_at (K := kX7_weighAll) (ls := [vR 70 7, vR w 6]) rfl rfl rfl]
  simp (disch := first | exact is2I | exact is2R | omega) only [z_X7_weighAll_0, z_X7_weighAll_1, z_X7_weighAll_4, z_X7_weighAll_5, xf_r70_1 hX, true_and, Option.toList_some, Option.toList_none, List.cons_append, List.nil_append, is2IT, is2RT, if_true, if_false]
  refine (m_fill (d := d + 10) (xf_s72 hX) (by decide)).mpr ?_
  have f1 : Fm Iwc noL σ (fI σ 72 0 7 (fun _ => -1)) := Fm_fI (fun _ _ _ => rfl)
  simp (disch := first | exact is2I | exact is2R | omega) only [z_X7_weighAll_8, z_X7_weighAll_9, z_X7_weighAll_10, z_X7_weighAll_11, true_and, Option.toList_some, Option.toList_none, List.cons_append, List.nil_append, is2IT, is2RT, if_true, if_false]
  rw [show d + 11 = d + 7 - nM N + nM N + 4 by omega]
  refine m_weighFrom (mu := no1) (fun i v q => by cases q) (nM N) 0 (by omega) _ _ _ w0 (CI_fm h f1 (fun a i ha => decide_eq_false (by omega))) (fun i hi => ?_) (fun i hi => absurd hi (Nat.not_lt_zero i)) (fun σ' q1 q2 => ?_)
  · rw [rI_fI, if_pos ⟨rfl, by omega, by omega⟩]; rfl
  · simp only [z_X7_weighAll_14, true_and, Option.toList_some, Option.toList_none, List.cons_append, List.nil_append, is2IT, is2RT, if_true, if_false]
    exact hQ σ' (Fm_tr f1 (Fm_mono q1 (fun a i => I71_c) (fun _ q => q)))
/-- with what is wanted -/
theorem c_weighWanted {d w : Nat} {Q : Option PV → St → Prop} {σ : St} {N : Net} {mu : Nat → Option Nat} (hmu : ∀ i v, mu i = some v → v < 3) (h : CI σ w N) (hm : ∀ i, i < 7 → rI σ 72 i = oI (mu i)) (hQ : ∀ σ', Fm Iwc noL σ σ' → Q (some (vL (lN (WT N mu)))) σ') : Ca (d + 12) 66 [vR 70 7, vR w 6] σ Q := by
  have h7 := CI_7 h
  rw [ca_at (K := kX7_weighWanted) (ls := [vR 70 7, vR w 6]) rfl rfl rfl]
  simp (disch := first | exact is2I | exact is2R | omega) only [z_X7_weighWanted_0, z_X7_weighWanted_1, z_X7_weighWanted_2, z_X7_weighWanted_3, true_and, Option.toList_some, Option.toList_none, List.cons_append, List.nil_append, is2IT, is2RT, if_true, if_false]
  rw [show d + 11 = d + 7 - nM N + nM N + 4 by omega]
  refine m_weighFrom hmu (nM N) 0 (by omega) _ _ _ w0 h hm (fun i hi => absurd hi (Nat.not_lt_zero i)) (fun σ' q1 q2 => ?_)
  simp only [z_X7_weighWanted_6, true_and, Option.toList_some, Option.toList_none, List.cons_append, List.nil_append, is2IT, is2RT, if_true, if_false]
  exact hQ σ' (Fm_mono q1 (fun a i => I71_c) (fun _ q => q))
def bthN (N : Net) (k u j x : Nat) : Nat := if k = j ∧ ¬ u = x then 0 else WT N (mu2 k u j x)
theorem c_weighBoth {d w k u j x : Nat} {Q : Option PV → St → Prop} {σ : St} {N : Net} (h : CI σ w N) (hk : k < nM N) (hu : u < nS N k) (hj : j < nM N) (hx : x < nS N j) (hQ : ∀ σ', Fm Iwc noL σ σ' → Q (some (vL (lN (bthN N k u j x)))) σ') : Ca (d + 12) 64 [vR 70 7, vR w 6, vI (nI k), vI (nI u), vI (nI j), vI (nI x)] σ Q := by
  have h7 := CI_7 h
  have hX := h.1
  have hs := NV_sv h.2.2.2 hk
  have hs2 := NV_sv h.2.2.2 hj
  unfold bthN at hQ
  rw [ca_at (K := kX7_weighBoth) (ls := [vR 70 7, vR w 6, vI (nI k), vI (nI u), vI (nI j), vI (nI x)]) rfl rfl rfl]
  have main : ¬ (k = j ∧ ¬ u = x) → At (d + 11) kX7_weighBoth 14 [vR 70 7, vR w 6, vI (nI k), vI (nI u), vI (nI j), vI (nI x)] [] σ Q := fun c => by
    rw [if_neg c] at hQ
    simp (disch := first | exact is2I | exact is2R | omega) only [z_X7_weighBoth_14, z_X7_weighBoth_15, z_X7_weighBoth_18, z_X7_weighBoth_19, xf_r70_1 hX, true_and, Option.toList_some, Option.toList_none, List.cons_append, List.nil_append, is2IT, is2RT, if_true, if_false]
    refine (m_fill (d := d + 10) (xf_s72 hX) (by decide)).mpr ?_
    have f1 : Fm Iwc noL σ (fI σ 72 0 7 (fun _ => -1)) := Fm_fI (fun _ _ _ => rfl)
    have hX1 : XF (fI σ 72 0 7 (fun _ => -1)) := (CI_fm h f1 (fun a i ha => decide_eq_false (by omega))).1
    simp (disch := first | exact is2I | exact is2R | omega) only [z_X7_weighBoth_22, z_X7_weighBoth_23, z_X7_weighBoth_26, z_X7_weighBoth_27, z_X7_weighBoth_28, z_X7_weighBoth_29, z_X7_weighBoth_30, z_X7_weighBoth_33, z_X7_weighBoth_35, z_X7_weighBoth_37, z_X7_weighBoth_38, z_X7_weighBoth_39, z_X7_weighBoth_40, z_X7_weighBoth_41, xf_r70_1 hX1, xf_s72 hX1, rR_wI, sh_wI, kIn, kCl, true_and, Option.toList_some, Option.toList_none, List.cons_append, List.nil_append, is2IT, is2RT, if_true, if_false]
    have f2 : Fm Iwc noL σ (wI (wI (fI σ 72 0 7 (fun _ => -1)) 72 k (nI u)) 72 j (nI x)) := Fm_tr (Fm_tr f1 (Fm_wI rfl)) (Fm_wI rfl)
    rw [show d + 11 = d + 7 - nM N + nM N + 4 by omega]
    refine m_weighFrom (mu := mu2 k u j x) (mu2_3 h.2.2.2 hk hu hj hx) (nM N) 0 (by omega) _ _ _ w0 (CI_fm h f2 (fun a i ha => decide_eq_false (by omega))) (fun i hi => ?_) (fun i hi => absurd hi (Nat.not_lt_zero i)) (fun σ' q1 q2 => ?_)
    · rw [rI_wI, rI_wI]
      unfold mu2
      by_cases c1 : i = j
      · rw [if_pos ⟨rfl, c1⟩, if_pos c1]; rfl
      · rw [if_neg (fun q => c1 q.2), if_neg c1]
        by_cases c2 : i = k
        · rw [if_pos ⟨rfl, c2⟩, if_pos c2]; rfl
        · rw [if_neg (fun q => c2 q.2), if_neg c2, rI_fI, if_pos ⟨rfl, by omega, by omega⟩]; rfl
    · simp only [z_X7_weighBoth_44, true_and, Option.toList_some, Option.toList_none, List.cons_append, List.nil_append, is2IT, is2RT, if_true, if_false]
      exact hQ σ' (Fm_tr f2 (Fm_mono q1 (fun a i => I71_c) (fun _ q => q)))
  simp (disch := first | exact is2I | exact is2R | omega) only [z_X7_weighBoth_0, z_X7_weighBoth_1, z_X7_weighBoth_3, z_X7_weighBoth_6, z_X7_weighBoth_7, z_X7_weighBoth_9, kEq, true_and, Option.toList_some, Option.toList_none, List.cons_append, List.nil_append, is2IT, is2RT, if_true, if_false]
  by_cases c1 : k = j
  · rw [if_pos c1]
    by_cases c2 : u = x
    · rw [if_pos c2]; exact main (fun q => q.2 c2)
    · rw [if_neg c2]
      rw [if_pos ⟨c1, c2⟩] at hQ
      simp only [z_X7_weighBoth_12, z_X7_weighBoth_13, true_and, Option.toList_some, Option.toList_none, List.cons_append, List.nil_append, is2IT, is2RT, if_true, if_false]
      exact hQ σ Fm_rf
  · rw [if_neg c1]; exact main (fun q => c1 q.1)
def SA (σ : St) (A : Nat × Wd) (m : Nat) : Prop := rL σ 70 3 = lN A.1 ∧ A.1 ≤ B7 ∧ (0 < A.1 → ∀ i, i < m → rI σ 73 i = nI (A.2 i))
def I713 (a _i : Nat) : Bool := decide (a = 71 ∨ a = 73)
theorem rI_cI {σ : St} {a s k d n x i : Nat} : rI (cI σ a s k d n) x i = if x = k ∧ d ≤ i ∧ i < d + n then rI σ a (s + (i - d)) else rI σ x i := rfl
set_option maxHeartbeats 1000000 in
theorem m_seek {N : Net} {w : Nat} : ∀ f k, k + f = nM N → ∀ (d : Nat) (Q : Option PV → St → Prop) (σ : St) (ω : Wd) (s : Nat) (A : Nat × Wd), CI σ w N → Wld σ 71 N ω k → SA σ A (nM N) → s ≤ 108 ^ k → ¬ s = 0 →
    (∀ σ', Fm I713 Lwc σ σ' → (∀ i, i < k → rI σ' 71 i = rI σ 71 i) → SA σ' ((lvs N no1 f k ω s).foldl stB A) (nM N) → Q none σ') → Ca (d + f + 4) 69 [vR w 6, vR 70 7, vI (nI k), vL (lN s)] σ Q := by
  intro f
  induction f with
  | zero =>
    intro k hk d Q σ ω s A h hw hA hs hs0 hQ
    have h7 := CI_7 h
    have e6 := h.2.2.1.1
    have hX := h.1
    have hkm : k = nM N := by omega
    subst hkm
    have hsB := pow_B7 hs h7
    have b63 := B7_63
    obtain ⟨a1, a2, a3⟩ := hA
    have el : lvs N no1 0 (nM N) ω s = [(ω, s)] := by unfold lvs; rw [if_neg hs0]
    rw [el] at hQ
    show Ca (d + 3 + 1) _ _ _ _
    rw [ca_at (K := kX7_seekLikeliest) (ls := [vR w 6, vR 70 7, vI (nI (nM N)), vL (lN s), vU, vU, vU, vU]) rfl rfl rfl]
    have ec : (lN A.1 < lN s) = (A.1 < s) := propext (pk_lLT (by omega) (by omega))
    simp (disch := first | exact is2I | exact is2R | omega) only [z_X7_seekLikeliest_0, z_X7_seekLikeliest_1, z_X7_seekLikeliest_2, z_X7_seekLikeliest_5, z_X7_seekLikeliest_14, z_X7_seekLikeliest_15, z_X7_seekLikeliest_16, z_X7_seekLikeliest_19, z_X7_seekLikeliest_20, e6, kLe, Nat.le_refl, a1, lg_cmp_gt, ec, true_and, Option.toList_some, Option.toList_none, List.cons_append, List.nil_append, is2IT, is2RT, if_true, if_false]
    by_cases c : A.1 < s
    · rw [if_pos c]
      have g : (!(decide ((0 : Int32) < 0)) && (!(decide ((0 : Int32) < 0)) && (!(decide ((7 : Int32) < 0)) && (decide ((0 : Int32).toNatClampNeg + (7 : Int32).toNatClampNeg ≤ 7) && (decide ((0 : Int32).toNatClampNeg + (7 : Int32).toNatClampNeg ≤ 7) && true))))) = true := by decide
      have t0 : (0 : Int32).toNatClampNeg = 0 := by decide
      have t7 : (7 : Int32).toNatClampNeg = 7 := by decide
      simp (disch := first | exact is2I | exact is2R | omega) only [z_X7_seekLikeliest_24, z_X7_seekLikeliest_25, z_X7_seekLikeliest_26, z_X7_seekLikeliest_29, z_X7_seekLikeliest_30, z_X7_seekLikeliest_33, z_X7_seekLikeliest_34, z_X7_seekLikeliest_35, z_X7_seekLikeliest_38, z_X7_seekLikeliest_39, z_X7_seekLikeliest_41, z_X7_seekLikeliest_41l, z_X7_seekLikeliest_44, xf_r70_0 hX, xf_r70_2 hX, xf_s71 hX, xf_s73 hX, rR_wL, sh_wL, g, true_and, Option.toList_some, Option.toList_none, List.cons_append, List.nil_append, is2IT, is2RT, if_true, if_false]
      rw [t0, t7]
      refine hQ _ ⟨fun a i q => ?_, fun a i q => ?_, fun _ _ => rfl, rfl, rfl⟩ (fun i hi => ?_) ?_
      · rw [rI_cI, if_neg (fun z => by rw [z.1] at q; cases q)]; rfl
      · show rL (wL σ 70 3 (lN s)) a i = _
        rw [rL_wL, if_neg (fun z => by rw [z.1] at q; cases q)]
      · rw [rI_cI, if_neg (fun z => absurd z.1 (by decide))]; rfl
      · show SA _ (stB A (ω, s)) (nM N)
        unfold stB
        rw [if_pos c]
        refine ⟨?_, hsB, fun _ i hi => ?_⟩
        · show rL (wL σ 70 3 (lN s)) 70 3 = _
          rw [rL_wL, if_pos ⟨rfl, rfl⟩]
        · rw [rI_cI, if_pos ⟨rfl, by omega, by omega⟩, Nat.zero_add, Nat.sub_zero]
          exact (hw i hi).1
    · rw [if_neg c]
      simp (disch := first | exact is2I | exact is2R | omega) only [z_X7_seekLikeliest_23, true_and, Option.toList_some, Option.toList_none, List.cons_append, List.nil_append, is2IT, is2RT, if_true, if_false]
      refine hQ σ Fm_rf (fun _ _ => rfl) ?_
      show SA σ (stB A (ω, s)) (nM N)
      unfold stB
      rw [if_neg c]
      exact ⟨a1, a2, a3⟩
  | succ f ih =>
    intro k hk d Q σ ω s A h hw hA hs hs0 hQ
    have h7 := CI_7 h
    have hkm : k < nM N := by omega
    have hss := NV_sv h.2.2.2 hkm
    have e6 := h.2.2.1.1
    have ck : ¬ nM N ≤ k := by omega
    have ek : nI k + (1 : Int32) = nI (k + 1) := nI_add k 1
    have lE : lvs N no1 (f + 1) k ω s = (List.range' 0 (nS N k)).flatMap fun v => if oV (no1 k) v = true then lvs N no1 f (k + 1) (up ω k v) (s * facW N ω k v) else [] := if_neg hs0
    rw [lE] at hQ
    rw [show d + (f + 1) + 4 = d + f + 4 + 1 by omega, ca_at (K := kX7_seekLikeliest) (ls := [vR w 6, vR 70 7, vI (nI k), vL (lN s), vU, vU, vU, vU]) rfl rfl rfl]
    simp (disch := first | exact is2I | exact is2R | omega) only [z_X7_seekLikeliest_0, z_X7_seekLikeliest_1, z_X7_seekLikeliest_2, z_X7_seekLikeliest_5, z_X7_seekLikeliest_8, z_X7_seekLikeliest_9, z_X7_seekLikeliest_11, z_X7_seekLikeliest_45, z_X7_seekLikeliest_46, e6, kLe, kLtL, ck, show k < 7 by omega, true_and, Option.toList_some, Option.toList_none, List.cons_append, List.nil_append, is2IT, is2RT, if_true, if_false]
    have i70 : ∀ {σ1 : St}, Fm I713 Lwc σ σ1 → CI σ1 w N := fun f1 => CI_fm h f1 (fun a i ha => decide_eq_false (by omega))
    have loop : ∀ r v, v + r = nS N k → ∀ (σ1 : St) (A1 : Nat × Wd) (l6 : PV), Fm I713 Lwc σ σ1 → (∀ i, i < k → rI σ1 71 i = rI σ 71 i) → SA σ1 A1 (nM N) →
        (∀ σ', Fm I713 Lwc σ σ' → (∀ i, i < k → rI σ' 71 i = rI σ 71 i) → SA σ' (((List.range' v r).flatMap fun v => if oV (no1 k) v = true then lvs N no1 f (k + 1) (up ω k v) (s * facW N ω k v) else []).foldl stB A1) (nM N) → Q none σ') →
        At (d + f + 4) kX7_seekLikeliest 48 [vR w 6, vR 70 7, vI (nI k), vL (lN s), vU, vI (nI v), l6, vU] [] σ1 Q := by
      intro r
      induction r with
      | zero =>
        intro v hv σ1 A1 l6 f1 f2 f3 hQ1
        have hc := i70 f1
        have hv' : v = nS N k := by omega
        subst hv'
        have e2 := (hc.2.2.1.2 k hkm).1
        simp (disch := first | exact is2I | exact is2R | omega) only [z_X7_seekLikeliest_48, z_X7_seekLikeliest_50, z_X7_seekLikeliest_51, z_X7_seekLikeliest_54, z_X7_seekLikeliest_55, z_X7_seekLikeliest_55s, z_X7_seekLikeliest_56, z_X7_seekLikeliest_59, z_X7_seekLikeliest_112, xw_a hc.1 hc.2.1, xw_n hc.1 hc.2.1 (show k < 7 by omega), xs_a hc.1 hc.2.1, kIn, kCl, e2, kLe, Nat.le_refl, true_and, Option.toList_some, Option.toList_none, List.cons_append, List.nil_append, is2IT, is2RT, if_true, if_false]
        exact hQ1 σ1 f1 f2 f3
      | succ r ihr =>
        intro v hv σ1 A1 l6 f1 f2 f3 hQ1
        have hc := i70 f1
        have hX := hc.1
        have e2 := (hc.2.2.1.2 k hkm).1
        have cv : ¬ nS N k ≤ v := by omega
        have ev : nI v + (1 : Int32) = nI (v + 1) := nI_add v 1
        have hw1 : Wld σ1 71 N ω k := fun i hi => by rw [f2 i hi]; exact hw i hi
        have hfb := facW_108 h.2.2.2 hkm (fun i hi => (hw i hi).2) (show v < 3 by omega)
        have e0 : (lN (facW N ω k v) = 0) = (facW N ω k v = 0) := propext (pk_lEQ (b := 0) (by omega) (by decide))
        have next : ∀ (σ2 : St) (A2 : Nat × Wd) (l6 : PV), Fm I713 Lwc σ σ2 → (∀ i, i < k → rI σ2 71 i = rI σ 71 i) → SA σ2 A2 (nM N) → ((List.range' (v + 1) r).flatMap fun v => if oV (no1 k) v = true then lvs N no1 f (k + 1) (up ω k v) (s * facW N ω k v) else []).foldl stB A2 = ((List.range' v (r + 1)).flatMap fun v => if oV (no1 k) v = true then lvs N no1 f (k + 1) (up ω k v) (s * facW N ω k v) else []).foldl stB A1 → At (d + f + 4) kX7_seekLikeliest 106 [vR w 6, vR 70 7, vI (nI k), vL (lN s), vU, vI (nI v), l6, vU] [] σ2 Q := by
          intro σ2 A2 l6 g1 g2 g3 g4
          simp only [z_X7_seekLikeliest_106, ev, true_and, Option.toList_some, Option.toList_none, List.cons_append, List.nil_append, is2IT, is2RT, if_true, if_false]
          rw [z_X7_seekLikeliest_109]
          refine ihr (v + 1) (by omega) σ2 A2 l6 g1 g2 g3 (fun σ' q1 q2 q3 => hQ1 σ' q1 q2 ?_)
          rw [← g4]; exact q3
        simp (disch := first | exact is2I | exact is2R | omega) only [z_X7_seekLikeliest_48, z_X7_seekLikeliest_50, z_X7_seekLikeliest_51, z_X7_seekLikeliest_54, z_X7_seekLikeliest_55, z_X7_seekLikeliest_55s, z_X7_seekLikeliest_56, z_X7_seekLikeliest_59, z_X7_seekLikeliest_62, z_X7_seekLikeliest_63, z_X7_seekLikeliest_64, z_X7_seekLikeliest_67, z_X7_seekLikeliest_68, z_X7_seekLikeliest_70, z_X7_seekLikeliest_73, z_X7_seekLikeliest_74, z_X7_seekLikeliest_76, z_X7_seekLikeliest_78, z_X7_seekLikeliest_79, z_X7_seekLikeliest_80, xw_a hX hc.2.1, xw_n hX hc.2.1 (show k < 7 by omega), xs_a hX hc.2.1, kIn, kCl, e2, kLe, cv, xf_r70_0 hX, c_factorIn (d := d + f + 1) hc hkm (xf_s71 hX) (show v < 3 by omega) hw1, nI_l, lg_cmp_eq, e0, true_and, Option.toList_some, Option.toList_none, List.cons_append, List.nil_append, is2IT, is2RT, if_true, if_false]
        by_cases c0 : facW N ω k v = 0
        · rw [if_pos c0]
          simp only [z_X7_seekLikeliest_83, true_and, Option.toList_some, Option.toList_none, List.cons_append, List.nil_append, is2IT, is2RT, if_true, if_false]
          refine next σ1 A1 _ f1 f2 f3 ?_
          rw [List.range'_succ, List.flatMap_cons, if_pos (show oV (no1 k) v = true from rfl), c0, Nat.mul_zero, lvs_0, List.nil_append]
        · rw [if_neg c0]
          simp (disch := first | exact is2I | exact is2R | omega) only [z_X7_seekLikeliest_86, z_X7_seekLikeliest_87, z_X7_seekLikeliest_90, z_X7_seekLikeliest_91, z_X7_seekLikeliest_93, z_X7_seekLikeliest_94, z_X7_seekLikeliest_95, z_X7_seekLikeliest_96, z_X7_seekLikeliest_97, z_X7_seekLikeliest_98, z_X7_seekLikeliest_99, z_X7_seekLikeliest_100, z_X7_seekLikeliest_102, z_X7_seekLikeliest_103, xf_r70_0 hX, xf_s71 hX, kIn, kCl, ek, lN_mul, true_and, Option.toList_some, Option.toList_none, List.cons_append, List.nil_append, is2IT, is2RT, if_true, if_false]
          have fr2 : Fm I713 Lwc σ (wI σ1 71 k (nI v)) := Fm_tr f1 (Fm_wI rfl)
          have w2 : Wld (wI σ1 71 k (nI v)) 71 N (up ω k v) (k + 1) := by
            intro i hi
            by_cases e : i = k
            · subst e
              rw [rI_wI, if_pos ⟨rfl, rfl⟩, up_s]
              exact ⟨rfl, by omega⟩
            · rw [rI_wI, if_neg (fun q => e q.2), up_n e]
              exact hw1 i (by omega)
          have hsp : 0 < s * facW N ω k v := Nat.mul_pos (by omega) (by omega)
          refine ih (k + 1) (by omega) d _ _ (up ω k v) (s * facW N ω k v) A1 (i70 fr2) w2 ⟨f3.1, f3.2.1, fun q i hi => by rw [rI_wI_n (by decide)]; exact f3.2.2 q i hi⟩ (pow108 hs hfb) (by omega) (fun σ' q1 q2 q3 => ?_)
          simp only [Option.toList_none, List.nil_append]
          refine next σ' _ _ (Fm_tr fr2 q1) (fun i hi => ?_) q3 ?_
          · rw [q2 i (by omega), rI_wI, if_neg (by omega), f2 i hi]
          · rw [List.range'_succ, List.flatMap_cons, List.foldl_append, if_pos (show oV (no1 k) v = true from rfl)]
    exact (by
      have l0 := loop (nS N k) 0 (by omega) σ A vU Fm_rf (fun _ _ => rfl) hA hQ
      exact l0)
theorem I713_c {a i : Nat} (h : I713 a i = true) : Iwc a i = true := by
  have := of_decide_eq_true h
  exact decide_eq_true (by omega)
theorem WT_bst {N : Net} : (0 < (bst N).1) = ¬ (WT N no1 = 0) := propext ⟨fun q e => by
    have hz : ∀ L : List (Wd × Nat), sums L = 0 → (L.foldl stB (0, w0)).1 = 0 := by
      intro L
      induction L with
      | nil => intro _; rfl
      | cons e L ih =>
        intro hs
        have e1 : sums (e :: L) = e.2 + sums L := by unfold sums; rw [List.map_cons, List.sum_cons]
        rw [List.foldl_cons, show stB (0, w0) e = (0, w0) from if_neg (by show ¬ 0 < e.2; omega)]
        exact ih (by omega)
    have := hz (LV N no1) (by rw [LV_sum]; exact e)
    unfold bst at q
    omega, fun q => (bst_pos (LV N no1) (0, w0)).2 (by rw [LV_sum]; omega)⟩
theorem c_findL {d w : Nat} {Q : Option PV → St → Prop} {σ : St} {N : Net} (h : CI σ w N) (hQ : ∀ σ', Fm Iwc Lwc σ σ' → (¬ WT N no1 = 0 → ∀ i, i < nM N → rI σ' 73 i = nI ((bst N).2 i)) → Q (some (vI (b2 (¬ WT N no1 = 0)))) σ') : Ca (d + 12) 68 [vR 70 7, vR w 6] σ Q := by
  have h7 := CI_7 h
  have b63 := B7_63
  rw [ca_at (K := kX7_findLikeliest) (ls := [vR 70 7, vR w 6]) rfl rfl rfl]
  simp (disch := first | exact is2I | exact is2R | omega) only [z_X7_findLikeliest_0, z_X7_findLikeliest_1, z_X7_findLikeliest_2, z_X7_findLikeliest_5, z_X7_findLikeliest_6, z_X7_findLikeliest_7, z_X7_findLikeliest_8, z_X7_findLikeliest_9, true_and, Option.toList_some, Option.toList_none, List.cons_append, List.nil_append, is2IT, is2RT, if_true, if_false]
  rw [show d + 11 = d + 7 - nM N + nM N + 4 by omega]
  have f1 : Fm Iwc Lwc σ (wL σ 70 3 0) := Fm_wL rfl
  refine m_seek (nM N) 0 (by omega) _ _ _ w0 1 (0, w0) (CI_w h f1) (fun i hi => absurd hi (Nat.not_lt_zero i)) ⟨by rw [rL_wL, if_pos ⟨rfl, rfl⟩]; rfl, Nat.zero_le _, fun q => absurd q (Nat.lt_irrefl 0)⟩ (Nat.le_refl 1) (by decide) (fun σ' q1 q2 q3 => ?_)
  obtain ⟨a1, a2, a3⟩ := q3
  have a1' : rL σ' 70 3 = lN (bst N).1 := a1
  have e0 : (lN (bst N).1 ≤ 0) = ((bst N).1 ≤ 0) := propext (pk_lLE (b := 0) (show (bst N).1 < 2 ^ 63 from Nat.lt_of_le_of_lt a2 b63) (by decide))
  have fin := hQ σ' (Fm_tr f1 (Fm_mono q1 (fun a i => I713_c) (fun _ q => q))) (fun q i hi => a3 (by rw [← WT_bst] at q; exact q) i hi)
  simp (disch := first | exact is2I | exact is2R | omega) only [z_X7_findLikeliest_12, z_X7_findLikeliest_13, z_X7_findLikeliest_16, z_X7_findLikeliest_17, z_X7_findLikeliest_18, z_X7_findLikeliest_21, z_X7_findLikeliest_22, z_X7_findLikeliest_25, z_X7_findLikeliest_26, a1', lg_cmp_le, e0, rk_b0, rk_b1, Option.toList_none, List.nil_append, true_and, Option.toList_some, Option.toList_none, List.cons_append, List.nil_append, is2IT, is2RT, if_true, if_false]
  by_cases c : (bst N).1 ≤ 0
  · rw [if_pos c]
    rw [b2_f (fun q => by rw [← WT_bst] at q; omega)] at fin
    exact fin
  · rw [if_neg c]
    rw [b2_t (by rw [← WT_bst]; omega)] at fin
    exact fin
