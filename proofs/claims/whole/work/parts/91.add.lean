/-! ===== the class: a node comes to the web ===== -/
def szO (N : Net) (o : Option Nat) : Nat := match o with | none => 1 | some i => nS N i
theorem szO_3 {N : Net} (h : NV N) {o : Option Nat} (ho : ∀ j, o = some j → j < nM N) : 1 ≤ szO N o ∧ szO N o ≤ 3 := by
  unfold szO
  cases o with
  | none => exact ⟨Nat.le_refl 1, show 1 ≤ 3 by decide⟩
  | some i => have := NV_sv h (ho i rfl); dsimp only; omega
section ST
variable {N : Net} {s t j : Nat} {p q : Option Nat}
theorem sN_n (h : j ≠ nM N) : (setN N s t p q).2.1 j = N.2.1 j := if_neg h
theorem sN_s : (setN N s t p q).2.1 (nM N) = (s, t, p, q, none, none) := if_pos rfl
theorem sN_nS (h : j ≠ nM N) : nS (setN N s t p q) j = nS N j := by unfold nS; rw [sN_n h]
theorem sN_szO {o : Option Nat} (ho : ∀ j, o = some j → j < nM N) : szO (setN N s t p q) o = szO N o := by
  cases o with
  | none => rfl
  | some i => exact sN_nS (by have := ho i rfl; omega)
end ST
theorem sQ_szO {N : Net} {k : Nat} : sQ N k = szO N (nQ N k) := rfl
theorem sP_szO {N : Net} {k : Nat} : sP N k = szO N (nP N k) := rfl
def nb0 (σ : St) (w k : Nat) (s t p q : Int32) : St := wI (wI (wI (wI (wI (wI (wI (wI (wI σ (nO w k) 2 s) (nO w k) 3 t) (nO w k) 4 p) (nO w k) 5 q) (nO w k) 8 (-1)) (nO w k) 9 (-1)) (hO w k) 0 1) (hO w k) 1 1) (hO w k) 2 1
theorem c_nbegin {d w k : Nat} {Q : Option PV → St → Prop} {σ : St} (hX : XF σ) (hw : Wk w) (hk : k < 7) {s t p q : Int32} : Ca (d + 2) 11 [vR (nO w k) 2, vI s, vI t, vI p, vI q] σ Q ↔ Q none (nb0 σ w k s t p q) := by
  rw [ca_at (K := kX1_begin) (ls := [vR (nO w k) 2, vI s, vI t, vI p, vI q]) rfl rfl rfl]
  have hX2 : XF (wI (wI (wI (wI (wI (wI σ (nO w k) 2 s) (nO w k) 3 t) (nO w k) 4 p) (nO w k) 5 q) (nO w k) 8 (-1)) (nO w k) 9 (-1)) := ⟨fun p hp => hX.1 p hp, fun p hp => hX.2 p hp⟩
  simp (disch := first | exact is2I | exact is2R | omega) only [z_X1_begin_0, z_X1_begin_1, z_X1_begin_2, z_X1_begin_5, z_X1_begin_6, z_X1_begin_7, z_X1_begin_10, z_X1_begin_11, z_X1_begin_12, z_X1_begin_15, z_X1_begin_16, z_X1_begin_18, z_X1_begin_21, z_X1_begin_22, z_X1_begin_23, z_X1_begin_26, z_X1_begin_27, z_X1_begin_28, z_X1_begin_31, z_X1_begin_32, z_X1_begin_33, z_X1_begin_34, z_X1_begin_35, z_X1_begin_38, c_setHints hX2 hw hk, Option.toList_none, List.nil_append, true_and, Option.toList_some, Option.toList_none, List.cons_append, List.nil_append, is2IT, is2RT, if_true, if_false]
  exact Iff.rfl
section NB0
variable {w k : Nat} {σ : St} {s t p q : Int32}
theorem nb0_out {a i : Nat} (h1 : a ≠ nO w k) (h2 : a ≠ hO w k) : rI (nb0 σ w k s t p q) a i = rI σ a i := by
  unfold nb0
  rw [rI_wI_n h2, rI_wI_n h2, rI_wI_n h2, rI_wI_n h1, rI_wI_n h1, rI_wI_n h1, rI_wI_n h1, rI_wI_n h1, rI_wI_n h1]
theorem nb0_n (i : Nat) : rI (nb0 σ w k s t p q) (nO w k) i = if i = 9 then -1 else if i = 8 then -1 else if i = 5 then q else if i = 4 then p else if i = 3 then t else if i = 2 then s else rI σ (nO w k) i := by
  have ne : nO w k ≠ hO w k := by unfold nO hO; omega
  unfold nb0
  rw [rI_wI_n ne, rI_wI_n ne, rI_wI_n ne]
  simp only [rI_wI, true_and]
theorem nb0_h (i : Nat) (hi : i < 3) : rI (nb0 σ w k s t p q) (hO w k) i = 1 := by
  unfold nb0
  simp only [rI_wI, true_and]
  rcases (show i = 0 ∨ i = 1 ∨ i = 2 by omega) with rfl | rfl | rfl <;> rfl
theorem nb0_F (hk : k < 7) : Fm (Iwb w) noL σ (nb0 σ w k s t p q) := by
  unfold nb0
  refine Fm_tr (Fm_tr (Fm_tr (Fm_tr (Fm_tr (Fm_tr (Fm_tr (Fm_tr (Fm_wI ?_) (Fm_wI ?_)) (Fm_wI ?_)) (Fm_wI ?_)) (Fm_wI ?_)) (Fm_wI ?_)) (Fm_wI ?_)) (Fm_wI ?_)) (Fm_wI ?_) <;> first | exact Iwb_n hk | exact Iwb_h hk
end NB0
/-- a new node's objects apart, the web stands -/
theorem WB_new {σ σ' : St} {w : Nat} {N : Net} (h : WB σ w N) (hm : nM N < 7) (hI : ∀ a i, a ≠ nO w (nM N) → a ≠ hO w (nM N) → a ≠ cO w (nM N) → rI σ' a i = rI σ a i) : WB σ' w N := by
  refine ⟨by rw [hI w 1 (by unfold nO; omega) (by unfold hO; omega) (by unfold cO; omega)]; exact h.1, fun k hk => ?_⟩
  have q := h.2 k hk
  have n : ∀ i, rI σ' (nO w k) i = rI σ (nO w k) i := fun i => hI _ i (by unfold nO; omega) (by unfold nO hO; omega) (by unfold nO cO; omega)
  have hh : ∀ i, rI σ' (hO w k) i = rI σ (hO w k) i := fun i => hI _ i (by unfold nO hO; omega) (by unfold hO; omega) (by unfold hO cO; omega)
  have c : ∀ i, rI σ' (cO w k) i = rI σ (cO w k) i := fun i => hI _ i (by unfold nO cO; omega) (by unfold cO hO; omega) (by unfold cO; omega)
  obtain ⟨a1, a2, a3, a4, a5, a6, a7, a8, a9, a10⟩ := q
  exact ⟨by rw [n]; exact a1, by rw [n]; exact a2, by rw [n]; exact a3, by rw [n]; exact a4, by rw [n]; exact a5, by rw [n]; exact a6, by rw [n]; exact a7, by rw [n]; exact a8, fun v hv => by rw [hh]; exact a9 v hv, fun r hr v hv => by rw [c]; exact a10 r hr v hv⟩
theorem WB_add {σ σ' : St} {w : Nat} {N : Net} (h : WB σ w N) (hN : NV N) (hm : nM N < 7) {s t : Nat} {p q : Option Nat} (hp : ∀ j, p = some j → j < nM N) (hq : ∀ j, q = some j → j < nM N)
    (e1 : rI σ' w 1 = nI (nM N + 1)) (hI : ∀ a i, a ≠ w → a ≠ nO w (nM N) → a ≠ hO w (nM N) → a ≠ cO w (nM N) → rI σ' a i = rI σ a i)
    (f2 : rI σ' (nO w (nM N)) 2 = nI s) (f3 : rI σ' (nO w (nM N)) 3 = nI t) (f4 : rI σ' (nO w (nM N)) 4 = oI p) (f5 : rI σ' (nO w (nM N)) 5 = oI q) (f6 : rI σ' (nO w (nM N)) 6 = nI (szO N p * szO N q)) (f7 : rI σ' (nO w (nM N)) 7 = nI (szO N q)) (f8 : rI σ' (nO w (nM N)) 8 = -1) (f9 : rI σ' (nO w (nM N)) 9 = -1)
    (hh : ∀ v, v < 3 → rI σ' (hO w (nM N)) v = 1) (hc : ∀ i, i < 3 * (szO N p * szO N q) → rI σ' (cO w (nM N)) i = rwI s t q (szO N q) i) : WB σ' w (setN N s t p q) := by
  refine ⟨e1, fun j hj => ?_⟩
  have hj' : j < nM N + 1 := hj
  by_cases e : j = nM N
  · subst e
    have g1 : nS (setN N s t p q) (nM N) = s := by unfold nS; rw [sN_s]
    have g2 : nK (setN N s t p q) (nM N) = t := by unfold nK; rw [sN_s]
    have g3 : nP (setN N s t p q) (nM N) = p := by unfold nP; rw [sN_s]
    have g4 : nQ (setN N s t p q) (nM N) = q := by unfold nQ; rw [sN_s]
    have g5 : nF1 (setN N s t p q) (nM N) = none := by unfold nF1; rw [sN_s]
    have g6 : nD (setN N s t p q) (nM N) = none := by unfold nD; rw [sN_s]
    have g7 : sQ (setN N s t p q) (nM N) = szO N q := by rw [sQ_szO, g4, sN_szO hq]
    have g8 : sP (setN N s t p q) (nM N) = szO N p := by rw [sP_szO, g3, sN_szO hp]
    have g9 : rowsN (setN N s t p q) (nM N) = szO N p * szO N q := by rw [rowsN_s, g7, g8]
    unfold NB
    rw [g1, g2, g3, g4, g5, g6, g7, g9]
    refine ⟨f2, f3, f4, f5, f6, f7, f8, f9, fun v hv => ?_, fun r hr v hv => ?_⟩
    · rw [hh v hv]
      have : nH (setN N s t p q) (nM N) v = 1 := if_pos rfl
      rw [this]; rfl
    · rw [hc (3 * r + v) (by omega)]
      unfold rwI cT tabN rwF
      rw [g2, g7, mdF_N, g1, g2, g4, show (3 * r + v) / 3 = r by omega, show (3 * r + v) % 3 = v by omega]
      have : nT (setN N s t p q) (nM N) (r / szO N q * szO N q + r % szO N q) v = tb0 s v := if_pos rfl
      rw [this]
  · have hj2 : j < nM N := by omega
    have b := h.2 j hj2
    have pj := (hN.2 j hj2).2.2.1
    have qj := fun i z => ((hN.2 j hj2).2.2.2.1 i z).1
    have t1 := sN_nS (s := s) (t := t) (p := p) (q := q) e
    have t2 : nK (setN N s t p q) j = nK N j := by unfold nK; rw [sN_n e]
    have t3 : nP (setN N s t p q) j = nP N j := by unfold nP; rw [sN_n e]
    have t4 : nQ (setN N s t p q) j = nQ N j := by unfold nQ; rw [sN_n e]
    have s1 := sQ_of t4 (fun i z => sN_nS (s := s) (t := t) (p := p) (q := q) (show i ≠ nM N by have := qj i z; omega))
    have s2 := sP_of t3 (fun i z => sN_nS (s := s) (t := t) (p := p) (q := q) (show i ≠ nM N by have := pj i z; omega))
    refine NB_cg b (rows_9 hN hj2).2.1 (fun i => hI _ _ (by unfold nO; omega) (by unfold nO; omega) (by unfold nO hO; omega) (by unfold nO cO; omega)) (fun v _ => hI _ _ (by unfold hO; omega) (by unfold nO hO; omega) (by unfold hO; omega) (by unfold hO cO; omega)) (fun i _ => hI _ _ (by unfold cO; omega) (by unfold nO cO; omega) (by unfold cO hO; omega) (by unfold cO; omega)) t1 t2 t3 t4 (rows_of s2 s1) s1 (by unfold nF1; rw [sN_n e]) (by unfold nD; rw [sN_n e]) (fun v _ => if_neg e) (fun r _ v _ => cT_of s1 t1 t2 t4 (fun _ => if_neg e))
theorem c_add {d w : Nat} {Q : Option PV → St → Prop} {σ : St} {N : Net} {s t : Nat} {p q : Option Nat} (h : CI σ w N) (hm : nM N < 7) (hs : s = 2 ∨ s = 3) (ht : t ≤ 3) (hp : ∀ j, p = some j → j < nM N) (hq : ∀ j, q = some j → j < nM N ∧ ∃ i, p = some i ∧ i ≠ j) (ht2 : t ≠ 0 → p ≠ none) (hQ : ∀ σ', Fm (Iwb w) noL σ σ' → CI σ' w (setN N s t p q) → Q (some (vI (nI (nM N)))) σ') : Ca (d + 4) 50 [vR w 6, vI (nI s), vI (nI t), vI (oI p), vI (oI q)] σ Q := by
  obtain ⟨hX, hw, hB, hN⟩ := h
  have hq1 : ∀ j, q = some j → j < nM N := fun j z => (hq j z).1
  have e1 := hB.1
  rw [ca_at (K := kX6_add) (ls := [vR w 6, vI (nI s), vI (nI t), vI (oI p), vI (oI q), vU, vU]) rfl rfl rfl]
  have hF1 := @nb0_F w (nM N) σ (nI s) (nI t) (oI p) (oI q) hm
  have hX1 : XF (nb0 σ w (nM N) (nI s) (nI t) (oI p) (oI q)) := XF_fm hX hF1
  have hB1 : WB (nb0 σ w (nM N) (nI s) (nI t) (oI p) (oI q)) w N := WB_new hB hm (fun a i h1 h2 _ => nb0_out h1 h2)
  have hC1 : CI (nb0 σ w (nM N) (nI s) (nI t) (oI p) (oI q)) w N := ⟨hX1, hw, hB1, hN⟩
  simp (disch := first | exact is2I | exact is2R | omega) only [z_X6_add_0, z_X6_add_1, z_X6_add_4, z_X6_add_6, z_X6_add_7, z_X6_add_10, z_X6_add_12, z_X6_add_12s, z_X6_add_13, z_X6_add_15, z_X6_add_17, z_X6_add_18, z_X6_add_19, z_X6_add_20, z_X6_add_22, e1, xw_a hX hw, xw_n hX hw hm, xs_a hX hw, kIn, kCl, c_nbegin hX hw hm, Option.toList_none, List.nil_append, true_and, Option.toList_some, Option.toList_none, List.cons_append, List.nil_append, is2IT, is2RT, if_true, if_false]
  have s3 := szO_3 hN hp
  have q3 := szO_3 hN hq1
  have q7 : ∀ j, q = some j → j < 7 := fun j z => by have := hq1 j z; omega
  have fin : At (d + 3) kX6_add 71 [vR w 6, vI (nI s), vI (nI t), vI (oI p), vI (oI q), vI (nI (nM N)), vR (nO w (nM N)) 2] [vI (nI (szO N q)), vI (nI (szO N p)), vR (nO w (nM N)) 2] (nb0 σ w (nM N) (nI s) (nI t) (oI p) (oI q)) Q := by
    generalize eσ : nb0 σ w (nM N) (nI s) (nI t) (oI p) (oI q) = σ1 at hF1 hX1 hB1 hC1
    have n1 : ∀ i, rI σ1 (nO w (nM N)) i = if i = 9 then -1 else if i = 8 then -1 else if i = 5 then oI q else if i = 4 then oI p else if i = 3 then nI t else if i = 2 then nI s else rI σ (nO w (nM N)) i := fun i => by rw [← eσ]; exact nb0_n i
    have n2 : ∀ i, i < 3 → rI σ1 (hO w (nM N)) i = 1 := fun i hi => by rw [← eσ]; exact nb0_h i hi
    have n3 : ∀ a i, a ≠ nO w (nM N) → a ≠ hO w (nM N) → rI σ1 a i = rI σ a i := fun a i h1 h2 => by rw [← eσ]; exact nb0_out h1 h2
    have mul : szO N p * szO N q ≤ 3 * 3 := Nat.mul_le_mul s3.2 q3.2
    have w1 : rI (fI (wI (wI σ1 (nO w (nM N)) 7 (nI (szO N q))) (nO w (nM N)) 6 (nI (szO N p * szO N q))) (cO w (nM N)) 0 (3 * (szO N p * szO N q)) (rwI s t q (szO N q))) w 1 = nI (nM N) := by
      rw [fI_out (by unfold cO; omega), rI_wI_n (by unfold nO; omega), rI_wI_n (by unfold nO; omega)]; exact hB1.1
    simp (disch := first | exact is2I | exact is2R | omega) only [z_X6_add_71, z_X6_add_74, z_X6_add_75, z_X6_add_76, z_X6_add_79, z_X6_add_80, z_X6_add_81, z_X6_add_84, z_X6_add_86, c_beginRows (d := d) hX1 hw hm ((n1 3).trans rfl) ((n1 2).trans rfl) ((n1 5).trans rfl) hs ht q7 s3.2 q3.2, w1, kAL, Option.toList_none, List.nil_append, true_and, Option.toList_some, Option.toList_none, List.cons_append, List.nil_append, is2IT, is2RT, if_true, if_false]
    have nw : nO w (nM N) ≠ w := by unfold nO; omega
    have hw' : hO w (nM N) ≠ w := by unfold hO; omega
    have cw : cO w (nM N) ≠ w := by unfold cO; omega
    have nc : nO w (nM N) ≠ cO w (nM N) := by unfold nO cO; omega
    have hc : hO w (nM N) ≠ cO w (nM N) := by unfold hO cO; omega
    have hn : hO w (nM N) ≠ nO w (nM N) := by unfold hO nO; omega
    have F2 : Fm (Iwb w) noL σ (wI (fI (wI (wI σ1 (nO w (nM N)) 7 (nI (szO N q))) (nO w (nM N)) 6 (nI (szO N p * szO N q))) (cO w (nM N)) 0 (3 * (szO N p * szO N q)) (rwI s t q (szO N q))) w 1 (nI (nM N + 1))) := Fm_tr (Fm_tr (Fm_tr (Fm_tr hF1 (Fm_wI (Iwb_n hm))) (Fm_wI (Iwb_n hm))) (Fm_fI (fun _ _ _ => Iwb_c hm))) (Fm_wI Iwb_w)
    refine hQ _ F2 ⟨XF_fm hX F2, hw, WB_add hB hN hm hp hq1 (by rw [rI_wI, if_pos ⟨rfl, rfl⟩]) (fun a i h0 h1 h2 h3 => ?_) ?_ ?_ ?_ ?_ ?_ ?_ ?_ ?_ (fun v hv => ?_) (fun i hi => ?_), setN_NV hN hm hs ht hp hq ht2⟩
    · rw [rI_wI_n h0, fI_out h3, rI_wI_n h1, rI_wI_n h1, n3 a i h1 h2]
    · rw [rI_wI_n nw, fI_out nc, rI_wI, if_neg (fun z => absurd z.2 (by decide)), rI_wI, if_neg (fun z => absurd z.2 (by decide)), n1]; rfl
    · rw [rI_wI_n nw, fI_out nc, rI_wI, if_neg (fun z => absurd z.2 (by decide)), rI_wI, if_neg (fun z => absurd z.2 (by decide)), n1]; rfl
    · rw [rI_wI_n nw, fI_out nc, rI_wI, if_neg (fun z => absurd z.2 (by decide)), rI_wI, if_neg (fun z => absurd z.2 (by decide)), n1]; rfl
    · rw [rI_wI_n nw, fI_out nc, rI_wI, if_neg (fun z => absurd z.2 (by decide)), rI_wI, if_neg (fun z => absurd z.2 (by decide)), n1]; rfl
    · rw [rI_wI_n nw, fI_out nc, rI_wI, if_pos ⟨rfl, rfl⟩]
    · rw [rI_wI_n nw, fI_out nc, rI_wI, if_neg (fun z => absurd z.2 (by decide)), rI_wI, if_pos ⟨rfl, rfl⟩]
    · rw [rI_wI_n nw, fI_out nc, rI_wI, if_neg (fun z => absurd z.2 (by decide)), rI_wI, if_neg (fun z => absurd z.2 (by decide)), n1]; rfl
    · rw [rI_wI_n nw, fI_out nc, rI_wI, if_neg (fun z => absurd z.2 (by decide)), rI_wI, if_neg (fun z => absurd z.2 (by decide)), n1]; rfl
    · rw [rI_wI_n hw', fI_out hc, rI_wI_n hn, rI_wI_n hn]; exact n2 v hv
    · rw [rI_wI_n cw, rI_fI, if_pos ⟨rfl, by omega, by omega⟩, Nat.sub_zero]
  have fP : ∀ o : Option Nat, ((o ≠ none) = True) ∨ o = none := fun o => by
    cases o with
    | none => exact Or.inr rfl
    | some i => exact Or.inl (eq_true (fun q => by cases q))
  have fN : ((none : Option Nat) ≠ none) = False := eq_false (fun q => q rfl)
  have tail : At (d + 3) kX6_add 48 [vR w 6, vI (nI s), vI (nI t), vI (oI p), vI (oI q), vI (nI (nM N)), vR (nO w (nM N)) 2] [vI (nI (szO N p)), vR (nO w (nM N)) 2] (nb0 σ w (nM N) (nI s) (nI t) (oI p) (oI q)) Q := by
    simp (disch := first | exact is2I | exact is2R | omega) only [z_X6_add_48, z_X6_add_49, z_X6_add_51, z_X6_add_54, c_hasO hC1 hq1, b2_0, true_and, Option.toList_some, Option.toList_none, List.cons_append, List.nil_append, is2IT, is2RT, if_true, if_false]
    cases eq : q with
    | none =>
      rw [eq] at fin
      simp only [fN, not_false_eq_true, if_true]
      simp only [z_X6_add_70, true_and, Option.toList_some, Option.toList_none, List.cons_append, List.nil_append, is2IT, is2RT, if_true, if_false]
      exact fin
    | some j =>
      have j7 := hq1 j eq
      rw [eq] at fin hC1 hX1
      have e2 := (hC1.2.2.1.2 j j7).1
      have fS : (some j ≠ none) = True := eq_true (fun q => by cases q)
      simp only [fS, not_true_eq_false, if_false]
      rw [oI_ss] at fin ⊢
      rw [oI_ss] at e2 hX1
      simp (disch := first | exact is2I | exact is2R | omega) only [z_X6_add_57, z_X6_add_58, z_X6_add_61, z_X6_add_63, z_X6_add_63s, z_X6_add_64, z_X6_add_67, xw_a hX1 hw, xw_n hX1 hw (show j < 7 by omega), xs_a hX1 hw, kIn, kCl, e2, true_and, Option.toList_some, Option.toList_none, List.cons_append, List.nil_append, is2IT, is2RT, if_true, if_false]
      exact fin
  simp (disch := first | exact is2I | exact is2R | omega) only [z_X6_add_25, z_X6_add_27, z_X6_add_28, z_X6_add_29, z_X6_add_32, c_hasO hC1 hp, b2_0, true_and, Option.toList_some, Option.toList_none, List.cons_append, List.nil_append, is2IT, is2RT, if_true, if_false]
  cases ep : p with
  | none =>
    rw [ep] at tail
    simp only [fN, not_false_eq_true, if_true]
    simp only [z_X6_add_47, true_and, Option.toList_some, Option.toList_none, List.cons_append, List.nil_append, is2IT, is2RT, if_true, if_false]
    exact tail
  | some j =>
    have j7 := hp j ep
    rw [ep] at tail hC1 hX1
    have e2 := (hC1.2.2.1.2 j j7).1
    have fS : (some j ≠ none) = True := eq_true (fun q => by cases q)
    simp only [fS, not_true_eq_false, if_false]
    rw [oI_ss] at tail ⊢
    rw [oI_ss] at e2 hX1
    simp (disch := first | exact is2I | exact is2R | omega) only [z_X6_add_35, z_X6_add_36, z_X6_add_39, z_X6_add_40, z_X6_add_40s, z_X6_add_41, z_X6_add_44, xw_a hX1 hw, xw_n hX1 hw (show j < 7 by omega), xs_a hX1 hw, kIn, kCl, e2, true_and, Option.toList_some, Option.toList_none, List.cons_append, List.nil_append, is2IT, is2RT, if_true, if_false]
    exact tail
