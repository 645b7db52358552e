/-! ===== the class: guesses, draws ===== -/
def gsI (N : Net) (k j x : Nat) : Nat → Nat → Nat → Nat
  | 0, _, b => b
  | r + 1, h, b => gsI N k j x r (h + 1) (if bthN N k h j x < b then b else bthN N k h j x)
def gsO (N : Net) (k j : Nat) : Nat → Nat → Nat → Nat
  | 0, _, v => v
  | r + 1, x, v => gsO N k j r (x + 1) (v + gsI N k j x (nS N k) 0 0)
def gsN (N : Net) (k j : Nat) : Nat := gsO N k j (nS N j) 0 0
theorem bthN_le {N : Net} (h : NV N) {k u j x : Nat} : bthN N k u j x ≤ 324 ^ 7 := by
  unfold bthN
  split
  · exact Nat.zero_le _
  · exact WT_le h
theorem gsI_le {N : Net} (h : NV N) {k j x : Nat} : ∀ r y b, b ≤ 324 ^ 7 → gsI N k j x r y b ≤ 324 ^ 7
  | 0, _, _, hb => hb
  | r + 1, y, b, hb => by
    show gsI N k j x r (y + 1) (if bthN N k y j x < b then b else bthN N k y j x) ≤ _
    refine gsI_le h r (y + 1) _ ?_
    split
    · exact hb
    · exact bthN_le h
theorem c_guess {d w k j : Nat} {Q : Option PV → St → Prop} {σ : St} {N : Net} (h : CI σ w N) (hk : k < nM N) (hj : j < nM N) (hQ : ∀ σ', Fm Iwc noL σ σ' → Q (some (vL (lN (gsN N k j)))) σ') : Ca (d + 13) 65 [vR 70 7, vR w 6, vI (nI k), vI (nI j)] σ Q := by
  have h7 := CI_7 h
  have hs := NV_sv h.2.2.2 hk
  have hs2 := NV_sv h.2.2.2 hj
  have B : 324 ^ 7 < 2 ^ 62 := by decide
  rw [ca_at (K := kX7_weighGuesses) (ls := [vR 70 7, vR w 6, vI (nI k), vI (nI j), vU, vU, vU, vU, vU, vU]) rfl rfl rfl]
  simp (disch := first | exact is2I | exact is2R | omega) only [z_X7_weighGuesses_0, z_X7_weighGuesses_1, z_X7_weighGuesses_3, z_X7_weighGuesses_4, true_and, Option.toList_some, Option.toList_none, List.cons_append, List.nil_append, is2IT, is2RT, if_true, if_false]
  have ic : ∀ {σ1 : St}, Fm Iwc noL σ σ1 → CI σ1 w N := fun f1 => CI_fm h f1 (fun a i ha => decide_eq_false (by omega))
  have inner : ∀ r y b x v σ1, y + r = nS N k → b ≤ 324 ^ 7 → x < nS N j → Fm Iwc noL σ σ1 → (∀ σ', Fm Iwc noL σ σ' → At (d + 12) kX7_weighGuesses 64 [vR 70 7, vR w 6, vI (nI k), vI (nI j), vL v, vU, vI (nI x), vL (lN (gsI N k j x r y b)), vU, vI (nI (nS N k))] [] σ' Q) → At (d + 12) kX7_weighGuesses 26 [vR 70 7, vR w 6, vI (nI k), vI (nI j), vL v, vU, vI (nI x), vL (lN b), vU, vI (nI y)] [] σ1 Q := by
    intro r
    induction r with
    | zero =>
      intro y b x v σ1 hy hb hx f1 hq
      have hc := ic f1
      have hy' : y = nS N k := by omega
      subst hy'
      have e2 := (hc.2.2.1.2 k hk).1
      simp (disch := first | exact is2I | exact is2R | omega) only [z_X7_weighGuesses_26, z_X7_weighGuesses_28, z_X7_weighGuesses_29, z_X7_weighGuesses_32, z_X7_weighGuesses_33, z_X7_weighGuesses_33s, z_X7_weighGuesses_34, z_X7_weighGuesses_37, xw_a hc.1 hc.2.1, xw_n hc.1 hc.2.1 (show k < 7 by omega), xs_a hc.1 hc.2.1, kIn, kCl, e2, kLe, Nat.le_refl, true_and, Option.toList_some, Option.toList_none, List.cons_append, List.nil_append, is2IT, is2RT, if_true, if_false]
      exact hq σ1 f1
    | succ r ih =>
      intro y b x v σ1 hy hb hx f1 hq
      have hc := ic f1
      have e2 := (hc.2.2.1.2 k hk).1
      have c : ¬ nS N k ≤ y := by omega
      have ey : nI y + (1 : Int32) = nI (y + 1) := nI_add y 1
      simp (disch := first | exact is2I | exact is2R | omega) only [z_X7_weighGuesses_26, z_X7_weighGuesses_28, z_X7_weighGuesses_29, z_X7_weighGuesses_32, z_X7_weighGuesses_33, z_X7_weighGuesses_33s, z_X7_weighGuesses_34, z_X7_weighGuesses_37, z_X7_weighGuesses_40, z_X7_weighGuesses_42, z_X7_weighGuesses_43, z_X7_weighGuesses_44, z_X7_weighGuesses_45, z_X7_weighGuesses_47, z_X7_weighGuesses_48, z_X7_weighGuesses_50, xw_a hc.1 hc.2.1, xw_n hc.1 hc.2.1 (show k < 7 by omega), xs_a hc.1 hc.2.1, kIn, kCl, e2, kLe, c, true_and, Option.toList_some, Option.toList_none, List.cons_append, List.nil_append, is2IT, is2RT, if_true, if_false]
      refine c_weighBoth (d := d) hc hk (by omega) hj hx (fun σ2 q => ?_)
      have hb2 := bthN_le h.2.2.2 (k := k) (u := y) (j := j) (x := x)
      have ec : (lN (bthN N k y j x) < lN b) = (bthN N k y j x < b) := propext (pk_lLT (by omega) (by omega))
      have em : (if lN (bthN N k y j x) < lN b then lN b else lN (bthN N k y j x)) = lN (if bthN N k y j x < b then b else bthN N k y j x) := by
        by_cases c2 : bthN N k y j x < b
        · rw [if_pos c2, if_pos (by rw [ec]; exact c2)]
        · rw [if_neg c2, if_neg (by rw [ec]; exact c2)]
      simp (disch := first | exact is2I | exact is2R | omega) only [z_X7_weighGuesses_53, z_X7_weighGuesses_56, z_X7_weighGuesses_58, em, ey, true_and, Option.toList_some, Option.toList_none, List.cons_append, List.nil_append, is2IT, is2RT, if_true, if_false]
      rw [z_X7_weighGuesses_61]
      exact ih (y + 1) _ x v σ2 (by omega) (by split <;> omega) hx (Fm_tr f1 q) hq
  have outer : ∀ r x v σ1 l7 l9, x + r = nS N j → Fm Iwc noL σ σ1 → (∀ σ', Fm Iwc noL σ σ' → Q (some (vL (lN (gsO N k j r x v)))) σ') → At (d + 12) kX7_weighGuesses 6 [vR 70 7, vR w 6, vI (nI k), vI (nI j), vL (lN v), vU, vI (nI x), l7, vU, l9] [] σ1 Q := by
    intro r
    induction r with
    | zero =>
      intro x v σ1 l7 l9 hx f1 hq
      have hc := ic f1
      have hx' : x = nS N j := by omega
      subst hx'
      have e2 := (hc.2.2.1.2 j hj).1
      simp (disch := first | exact is2I | exact is2R | omega) only [z_X7_weighGuesses_6, z_X7_weighGuesses_8, z_X7_weighGuesses_9, z_X7_weighGuesses_12, z_X7_weighGuesses_13, z_X7_weighGuesses_13s, z_X7_weighGuesses_14, z_X7_weighGuesses_17, z_X7_weighGuesses_77, z_X7_weighGuesses_79, xw_a hc.1 hc.2.1, xw_n hc.1 hc.2.1 (show j < 7 by omega), xs_a hc.1 hc.2.1, kIn, kCl, e2, kLe, Nat.le_refl, true_and, Option.toList_some, Option.toList_none, List.cons_append, List.nil_append, is2IT, is2RT, if_true, if_false]
      exact hq σ1 f1
    | succ r ih =>
      intro x v σ1 l7 l9 hx f1 hq
      have hc := ic f1
      have e2 := (hc.2.2.1.2 j hj).1
      have c : ¬ nS N j ≤ x := by omega
      have ex : nI x + (1 : Int32) = nI (x + 1) := nI_add x 1
      simp (disch := first | exact is2I | exact is2R | omega) only [z_X7_weighGuesses_6, z_X7_weighGuesses_8, z_X7_weighGuesses_9, z_X7_weighGuesses_12, z_X7_weighGuesses_13, z_X7_weighGuesses_13s, z_X7_weighGuesses_14, z_X7_weighGuesses_17, z_X7_weighGuesses_20, z_X7_weighGuesses_21, z_X7_weighGuesses_23, z_X7_weighGuesses_24, xw_a hc.1 hc.2.1, xw_n hc.1 hc.2.1 (show j < 7 by omega), xs_a hc.1 hc.2.1, kIn, kCl, e2, kLe, c, true_and, Option.toList_some, Option.toList_none, List.cons_append, List.nil_append, is2IT, is2RT, if_true, if_false]
      refine inner (nS N k) 0 0 x (lN v) σ1 (by omega) (Nat.zero_le _) (by omega) f1 (fun σ2 q => ?_)
      simp (disch := first | exact is2I | exact is2R | omega) only [z_X7_weighGuesses_64, z_X7_weighGuesses_66, z_X7_weighGuesses_68, z_X7_weighGuesses_69, z_X7_weighGuesses_71, lN_add, ex, true_and, Option.toList_some, Option.toList_none, List.cons_append, List.nil_append, is2IT, is2RT, if_true, if_false]
      rw [z_X7_weighGuesses_74]
      exact ih (x + 1) _ σ2 _ _ (by omega) q hq
  exact outer (nS N j) 0 0 σ vU vU (by omega) Fm_rf hQ
def drW (T : Nat → Nat) (l : Nat) : Nat → Nat → Nat → Nat
  | 0, v, _ => v
  | r + 1, v, t => if l < t + T v then v else drW T l r (v + 1) (t + T v)
theorem drW_V {T : Nat → Nat} {l : Nat} : ∀ f v t, drW T l f v t = drV T l f v (t + T v)
  | 0, _, _ => rfl
  | f + 1, v, t => by
    show (if l < t + T v then v else drW T l f (v + 1) (t + T v)) = (if t + T v ≤ l then drV T l f (v + 1) (t + T v + T (v + 1)) else v)
    by_cases c : l < t + T v
    · rw [if_pos c, if_neg (by omega)]
    · rw [if_neg c, if_pos (by omega), drW_V f]
theorem drW_N {N : Net} (h : NV N) {ω : Wd} {k : Nat} (hk : k < nM N) (z : Int32) : drW (numW N ω k) (lot z) (nS N k - 1) 0 0 = drN N ω k z := by
  have hs := NV_sv h hk
  have hl := lot_12 z
  unfold drN
  cases ed : nD N k with
  | none =>
    have e : numW N ω k = tabN N k (xP N ω k) (yQ N ω k) := funext fun v => by unfold numW; rw [ed]
    rw [e, drW_V, Nat.zero_add]
  | some u =>
    have hu := (h.2 k hk).2.2.2.2.2.2.1 u ed
    have e : numW N ω k = fun v => if v = u then 12 else 0 := funext fun v => by unfold numW; rw [ed]
    rw [e]
    dsimp only
    rcases hs with s | s
    · rw [s] at hu ⊢
      rcases (show u = 0 ∨ u = 1 by omega) with rfl | rfl
      · show (if lot z < 0 + (if 0 = 0 then 12 else 0) then 0 else _) = 0
        rw [if_pos (by simp; exact hl)]
      · show (if lot z < 0 + (if 0 = 1 then 12 else 0) then 0 else 1) = 1
        rw [if_neg (by simp)]
    · rw [s] at hu ⊢
      rcases (show u = 0 ∨ u = 1 ∨ u = 2 by omega) with rfl | rfl | rfl
      · show (if lot z < 0 + (if 0 = 0 then 12 else 0) then 0 else _) = 0
        rw [if_pos (by simp; exact hl)]
      · show (if lot z < 0 + (if 0 = 1 then 12 else 0) then 0 else (if lot z < 0 + (if 0 = 1 then 12 else 0) + (if 1 = 1 then 12 else 0) then 1 else _)) = 1
        rw [if_neg (by simp), if_pos (by simp; exact hl)]
      · show (if lot z < 0 + (if 0 = 2 then 12 else 0) then 0 else (if lot z < 0 + (if 0 = 2 then 12 else 0) + (if 1 = 2 then 12 else 0) then 1 else 2)) = 2
        rw [if_neg (by simp), if_neg (by simp)]
theorem c_drawOne {d w k l : Nat} {Q : Option PV → St → Prop} {σ : St} {N : Net} {ω : Wd} (h : CI σ w N) (hk : k < nM N) (hl : l < 100) (hW : Wld σ 71 N ω k) : Ca (d + 3) 71 [vR 70 7, vR w 6, vI (nI k), vI (nI l)] σ Q ↔ Q (some (vI (nI (drW (numW N ω k) l (nS N k - 1) 0 0)))) σ := by
  have h7 := CI_7 h
  have hX := h.1
  have hw := h.2.1
  have hs := NV_sv h.2.2.2 hk
  have e2 := (h.2.2.1.2 k hk).1
  rw [ca_at (K := kX7_drawOne) (ls := [vR 70 7, vR w 6, vI (nI k), vI (nI l), vU, vU, vU]) rfl rfl rfl]
  have loop : ∀ r v t, v + r = nS N k - 1 → t ≤ 12 * v → (At (d + 2) kX7_drawOne 19 [vR 70 7, vR w 6, vI (nI k), vI (nI l), vI (nI (nS N k - 1)), vI (nI t), vI (nI v)] [] σ Q ↔ Q (some (vI (nI (drW (numW N ω k) l r v t)))) σ) := by
    intro r
    induction r with
    | zero =>
      intro v t hv ht
      have hv' : v = nS N k - 1 := by omega
      simp (disch := first | exact is2I | exact is2R | omega) only [z_X7_drawOne_19, z_X7_drawOne_21, z_X7_drawOne_23, z_X7_drawOne_57, z_X7_drawOne_59, kLe, drW, true_and, Option.toList_some, Option.toList_none, List.cons_append, List.nil_append, is2IT, is2RT, if_true, if_false]
      rw [if_pos (by omega), hv']
    | succ r ih =>
      intro v t hv ht
      have c : ¬ nS N k - 1 ≤ v := by omega
      have n12 := numW_12 h.2.2.2 hk (fun i hi => (hW i hi).2) (show v < 3 by omega)
      simp (disch := first | exact is2I | exact is2R | omega) only [z_X7_drawOne_19, z_X7_drawOne_21, z_X7_drawOne_23, z_X7_drawOne_26, z_X7_drawOne_28, z_X7_drawOne_29, z_X7_drawOne_30, z_X7_drawOne_33, z_X7_drawOne_34, z_X7_drawOne_36, z_X7_drawOne_39, z_X7_drawOne_40, z_X7_drawOne_42, z_X7_drawOne_44, z_X7_drawOne_45, z_X7_drawOne_48, z_X7_drawOne_50, z_X7_drawOne_51, kLe, c, xf_r70_0 hX, c_numberIn h hk (xf_s71 hX) (show v < 3 by omega) hW, nI_add, kAL, drW, true_and, Option.toList_some, Option.toList_none, List.cons_append, List.nil_append, is2IT, is2RT, if_true, if_false]
      by_cases c2 : l < t + numW N ω k v
      · rw [if_pos c2, if_neg (by omega)]
      · rw [if_neg c2, if_pos (by omega), z_X7_drawOne_54, ih (v + 1) _ (by omega) (by omega)]
  have l0 := loop (nS N k - 1) 0 0 (by omega) (Nat.zero_le _)
  simp (disch := first | exact is2I | exact is2R | omega) only [z_X7_drawOne_0, z_X7_drawOne_1, z_X7_drawOne_4, z_X7_drawOne_5, z_X7_drawOne_5s, z_X7_drawOne_6, z_X7_drawOne_9, z_X7_drawOne_10, z_X7_drawOne_11, z_X7_drawOne_13, z_X7_drawOne_14, z_X7_drawOne_16, z_X7_drawOne_17, xw_a hX hw, xw_n hX hw (show k < 7 by omega), xs_a hX hw, kIn, kCl, e2, kSL, true_and, Option.toList_some, Option.toList_none, List.cons_append, List.nil_append, is2IT, is2RT, if_true, if_false]
  exact l0
theorem c_draw {d w : Nat} {Q : Option PV → St → Prop} {σ : St} {N : Net} {z : Int32} (h : CI σ w N) (hQ : ∀ σ', Fm I71 noL σ σ' → Wld σ' 71 N (drS N z) (nM N) → Q none σ') : Ca (d + 4) 70 [vR 70 7, vR w 6, vI z] σ Q := by
  have h7 := CI_7 h
  rw [ca_at (K := kX7_draw) (ls := [vR 70 7, vR w 6, vI z, vU, vU]) rfl rfl rfl]
  have loop : ∀ r n σ1 z1 ω, n + r = nM N → Fm I71 noL σ σ1 → Wld σ1 71 N ω n → drR N r n z1 ω = drS N z → At (d + 3) kX7_draw 5 [vR 70 7, vR w 6, vI z, vI z1, vI (nI n)] [] σ1 Q := by
    intro r
    induction r with
    | zero =>
      intro n σ1 z1 ω hn f1 hw1 he
      have hc := CI_fm h f1 (fun a i ha => by unfold I71; rw [← Bool.not_eq_true]; intro q; have := Nat.eq_of_beq_eq_true q; omega)
      have hn' : n = nM N := by omega
      subst hn'
      have he' : ω = drS N z := he
      subst he'
      simp (disch := first | exact is2I | exact is2R | omega) only [z_X7_draw_5, z_X7_draw_7, z_X7_draw_8, z_X7_draw_11, z_X7_draw_50, hc.2.2.1.1, kLe, Nat.le_refl, true_and, Option.toList_some, Option.toList_none, List.cons_append, List.nil_append, is2IT, is2RT, if_true, if_false]
      exact hQ σ1 f1 hw1
    | succ r ih =>
      intro n σ1 z1 ω hn f1 hw1 he
      have hc := CI_fm h f1 (fun a i ha => by unfold I71; rw [← Bool.not_eq_true]; intro q; have := Nat.eq_of_beq_eq_true q; omega)
      have hX := hc.1
      have hn1 : n < nM N := by omega
      have c : ¬ nM N ≤ n := by omega
      have hs := NV_sv h.2.2.2 hn1
      have ev : nI n + (1 : Int32) = nI (n + 1) := nI_add n 1
      have ez : z1 * 1103515245 + 12345 = zN z1 := rfl
      have g12 : (!(decide ((12 : Int32) = 0))) = true := by decide
      have hl := lot_12 (zN z1)
      have he' : drR N r (n + 1) (zN z1) (up ω n (drN N ω n (zN z1))) = drS N z := he
      simp (disch := first | exact is2I | exact is2R | omega) only [z_X7_draw_5, z_X7_draw_7, z_X7_draw_8, z_X7_draw_11, z_X7_draw_14, z_X7_draw_15, z_X7_draw_17, z_X7_draw_18, z_X7_draw_21, z_X7_draw_22, z_X7_draw_23, z_X7_draw_24, z_X7_draw_27, z_X7_draw_29, z_X7_draw_30, z_X7_draw_31, z_X7_draw_33, z_X7_draw_34, z_X7_draw_36, z_X7_draw_37, z_X7_draw_39, z_X7_draw_40, z_X7_draw_43, hc.2.2.1.1, kLe, c, ez, g12, lotI, xf_r70_0 hX, xf_s71 hX, kIn, kCl, c_drawOne hc hn1 (show lot (zN z1) < 100 by omega) hw1, drW_N h.2.2.2 hn1, true_and, Option.toList_some, Option.toList_none, List.cons_append, List.nil_append, is2IT, is2RT, if_true, if_false]
      have hlt : drN N ω n (zN z1) < nS N n := by
        rw [← drW_N h.2.2.2 hn1]
        have : ∀ T l f v t, v + f = nS N n - 1 → drW T l f v t ≤ nS N n - 1 := by
          intro T l f
          induction f with
          | zero => intro v t q; show v ≤ _; omega
          | succ f ihf =>
            intro v t q
            show (if l < t + T v then v else drW T l f (v + 1) (t + T v)) ≤ _
            split
            · omega
            · exact ihf (v + 1) _ (by omega)
        have := this (numW N ω n) (lot (zN z1)) (nS N n - 1) 0 0 (by omega)
        omega
      simp (disch := first | exact is2I | exact is2R | omega) only [z_X7_draw_44, ev, true_and, Option.toList_some, Option.toList_none, List.cons_append, List.nil_append, is2IT, is2RT, if_true, if_false]
      rw [z_X7_draw_47]
      refine ih (n + 1) _ _ _ (by omega) (Fm_tr f1 (Fm_wI rfl)) (fun i hi => ?_) he'
      by_cases ci : i = n
      · rw [rI_wI, if_pos ⟨rfl, ci⟩, ci, up_s]; exact ⟨rfl, hlt⟩
      · rw [rI_wI, if_neg (fun q => ci q.2), up_n ci]; exact hw1 i (by omega)
  simp only [z_X7_draw_0, z_X7_draw_1, z_X7_draw_2, z_X7_draw_3, true_and, Option.toList_some, Option.toList_none, List.cons_append, List.nil_append, is2IT, is2RT, if_true, if_false]
  exact loop (nM N) 0 σ z w0 (by omega) Fm_rf (fun i hi => absurd hi (Nat.not_lt_zero i)) rfl
theorem c_fits {d w : Nat} {Q : Option PV → St → Prop} {N : Net} {σ : St} {ω : Wd} (h : CI σ w N) (hw : Wld σ 71 N ω (nM N)) : Ca (d + 1) 72 [vR 70 7, vR w 6] σ Q ↔ Q (some (vI (b2 (asfA N ω = true)))) σ := by
  have h7 := CI_7 h
  have hX := h.1
  have hwk := h.2.1
  rw [ca_at (K := kX7_fitsFindings) (ls := [vR 70 7, vR w 6, vU, vU]) rfl rfl rfl]
  have loop : ∀ r n l3, n + r = nM N → (At d kX7_fitsFindings 2 [vR 70 7, vR w 6, vI (nI n), l3] [] σ Q ↔ Q (some (vI (b2 (((List.range' n r).all (asf N ω)) = true)))) σ) := by
    intro r
    induction r with
    | zero =>
      intro n l3 hn
      have hn' : n = nM N := by omega
      subst hn'
      simp (disch := first | exact is2I | exact is2R | omega) only [z_X7_fitsFindings_2, z_X7_fitsFindings_3, z_X7_fitsFindings_4, z_X7_fitsFindings_7, z_X7_fitsFindings_43, z_X7_fitsFindings_44, h.2.2.1.1, kLe, Nat.le_refl, rk_b1, true_and, Option.toList_some, Option.toList_none, List.cons_append, List.nil_append, is2IT, is2RT, if_true, if_false]
      exact Iff.rfl
    | succ r ih =>
      intro n l3 hn
      have hn1 : n < nM N := by omega
      have c : ¬ nM N ≤ n := by omega
      obtain ⟨w1, w2⟩ := hw n hn1
      have hs := NV_sv h.2.2.2 hn1
      obtain ⟨-, -, -, -, -, -, e8, -, -, -⟩ := h.2.2.1.2 n hn1
      have e1 := oI_none' (NV_f h.2.2.2 hn1)
      have e2 := oI_eq (p := ω n) (NV_f h.2.2.2 hn1) (by omega)
      rw [List.range'_succ, List.all_cons]
      simp (disch := first | exact is2I | exact is2R | omega) only [z_X7_fitsFindings_2, z_X7_fitsFindings_3, z_X7_fitsFindings_4, z_X7_fitsFindings_7, z_X7_fitsFindings_10, z_X7_fitsFindings_11, z_X7_fitsFindings_14, z_X7_fitsFindings_15, z_X7_fitsFindings_15s, z_X7_fitsFindings_16, z_X7_fitsFindings_19, z_X7_fitsFindings_20, z_X7_fitsFindings_21, z_X7_fitsFindings_22, z_X7_fitsFindings_25, z_X7_fitsFindings_26, z_X7_fitsFindings_27, z_X7_fitsFindings_30, z_X7_fitsFindings_31, z_X7_fitsFindings_32, z_X7_fitsFindings_35, z_X7_fitsFindings_36, z_X7_fitsFindings_37, h.2.2.1.1, kLe, c, xw_a hX hwk, xw_n hX hwk (show n < 7 by omega), xs_a hX hwk, e8, e1, e2, xf_r70_0 hX, xf_s71 hX, kIn, kCl, w1, kAL, rk_b0, true_and, Option.toList_some, Option.toList_none, List.cons_append, List.nil_append, is2IT, is2RT, if_true, if_false]
      have nx := fun l3 => ih (n + 1) l3 (by omega)
      by_cases c1 : nF1 N n = none
      · rw [if_pos c1, z_X7_fitsFindings_40, nx, show asf N ω n = true from decide_eq_true (Or.inl c1), Bool.true_and]
      · rw [if_neg c1]
        by_cases c2 : nF1 N n = some (ω n)
        · rw [if_pos c2, z_X7_fitsFindings_40, nx, show asf N ω n = true from decide_eq_true (Or.inr c2), Bool.true_and]
        · rw [if_neg c2, show asf N ω n = false from decide_eq_false (fun q => q.elim c1 c2), Bool.false_and]
          exact Iff.rfl
  have l := loop (nM N) 0 vU (by omega)
  simp only [z_X7_fitsFindings_0, z_X7_fitsFindings_1, true_and, Option.toList_some, Option.toList_none, List.cons_append, List.nil_append, is2IT, is2RT, if_true, if_false]
  exact l
