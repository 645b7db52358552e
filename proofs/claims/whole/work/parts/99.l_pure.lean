/-! ===== the law answers 1 ===== -/
theorem zLs_20 {d : Nat} {Q : Option PV → St → Prop} {σ : St} {ls st : List PV} {a : Nat} : At d kL_law 20 ls (vR a 40 :: st) σ Q ↔ At d kL_law 21 ls (vI (Int32.ofNat (sX σ).1) :: st) σ Q := at_go (fun _ => rfl)
theorem lb_lt {L j : Nat} (hL : L ≤ 3072) (hj : 6 * j ≤ L) : (nI L - 6 < nI (6 * j)) ↔ L < 6 * j + 6 := by
  have e6 : (6 : Int32).toInt = 6 := by decide
  rw [Int32.lt_iff_toInt_lt, Int32.toInt_sub, nI_toInt (by omega), nI_toInt (by omega), e6, Int.bmod_eq_of_le (by omega) (by omega)]
  omega
theorem exec_deep {tb : Nat → MT} {N : Nat} : ∀ d d', d ≤ d' → Lq (exec tb N d) (exec tb N d')
  | 0, _, _ => fun _ _ _ _ h => by cases h
  | d + 1, 0, q => absurd q (by omega)
  | d + 1, d' + 1, q => fun M as σ x h => by
    unfold exec at h ⊢
    cases e : Nat.ble (ent as).length (tb M).2.2 with
    | false => rw [e] at h; cases h
    | true => rw [e] at h; exact run_mono (exec_deep d d' (by omega)) (Nat.le_refl N) h
theorem ca_deep {d d' M : Nat} {as : List PV} {σ : St} {Q : Option PV → St → Prop} (hd : d ≤ d') (h : Ca d M as σ Q) : Ca d' M as σ Q := by
  obtain ⟨N, r, σ', h1, h2⟩ := h
  exact ⟨N, r, σ', exec_deep d d' hd _ _ _ _ h1, h2⟩
section LP
variable {L : Nat} {xs : Nat → Int32} {Q : Option PV → St → Prop} {σ : St} {S : MSt} {x : Int32}
theorem lw_sw (h : LI (L, xs) σ S) (b1 : inB (x + 1) L = true) (b2 : inB (x + 2) L = true) (b3 : inB (x + 3) L = true) (b4 : inB (x + 4) L = true) (b5 : inB (x + 5) L = true) (hk : ∀ σ' S', LI (L, xs) σ' S' → At 100 kL_law 1492 [vR 0 40, vR 0 8, vR 97 9, vI x] [] σ' Q) (v : Int32) : At 100 kL_law 33 [vR 0 40, vR 0 8, vR 97 9, vI x] [vI v] σ Q := by
  by_cases c : 0 ≤ v ∧ v < nI 35
  · obtain ⟨k, h35, rfl⟩ := (lt_nI (by decide)).mp c
    match k, h35 with
    | 0, _ => rw [z_L_law_33_0]; exact lc_0 h b1 b2 b3 b4 b5 hk
    | 1, _ => rw [z_L_law_33_1]; exact lc_1 h b1 b2 b3 b4 b5 hk
    | 2, _ => rw [z_L_law_33_2]; exact lc_2 h b1 b2 b3 b4 b5 hk
    | 3, _ => rw [z_L_law_33_3]; exact lc_3 h b1 b2 b3 b4 b5 hk
    | 4, _ => rw [z_L_law_33_4]; exact lc_4 h b1 b2 b3 b4 b5 hk
    | 5, _ => rw [z_L_law_33_5]; exact lc_5 h b1 b2 b3 b4 b5 hk
    | 6, _ => rw [z_L_law_33_6]; exact lc_6 h b1 b2 b3 b4 b5 hk
    | 7, _ => rw [z_L_law_33_7]; exact lc_7 h b1 b2 b3 b4 b5 hk
    | 8, _ => rw [z_L_law_33_8]; exact lc_8 h b1 b2 b3 b4 b5 hk
    | 9, _ => rw [z_L_law_33_9]; exact lc_9 h b1 b2 b3 b4 b5 hk
    | 10, _ => rw [z_L_law_33_10]; exact lc_10 h b1 b2 b3 b4 b5 hk
    | 11, _ => rw [z_L_law_33_11]; exact lc_11 h b1 b2 b3 b4 b5 hk
    | 12, _ => rw [z_L_law_33_12]; exact lc_12 h b1 b2 b3 b4 b5 hk
    | 13, _ => rw [z_L_law_33_13]; exact lc_13 h b1 b2 b3 b4 b5 hk
    | 14, _ => rw [z_L_law_33_14]; exact lc_14 h b1 b2 b3 b4 b5 hk
    | 15, _ => rw [z_L_law_33_15]; exact lc_15 h b1 b2 b3 b4 b5 hk
    | 16, _ => rw [z_L_law_33_16]; exact lc_16 h b1 b2 b3 b4 b5 hk
    | 17, _ => rw [z_L_law_33_17]; exact lc_17 h b1 b2 b3 b4 b5 hk
    | 18, _ => rw [z_L_law_33_18]; exact lc_18 h b1 b2 b3 b4 b5 hk
    | 19, _ => rw [z_L_law_33_19]; exact lc_19 h b1 b2 b3 b4 b5 hk
    | 20, _ => rw [z_L_law_33_20]; exact lc_20 h b1 b2 b3 b4 b5 hk
    | 21, _ => rw [z_L_law_33_21]; exact lc_21 h b1 b2 b3 b4 b5 hk
    | 22, _ => rw [z_L_law_33_22]; exact lc_22 h b1 b2 b3 b4 b5 hk
    | 23, _ => rw [z_L_law_33_23]; exact lc_23 h b1 b2 b3 b4 b5 hk
    | 24, _ => rw [z_L_law_33_24]; exact lc_24 h b1 b2 b3 b4 b5 hk
    | 25, _ => rw [z_L_law_33_25]; exact lc_25 h b1 b2 b3 b4 b5 hk
    | 26, _ => rw [z_L_law_33_26]; exact lc_26 h b1 b2 b3 b4 b5 hk
    | 27, _ => rw [z_L_law_33_27]; exact lc_27 h b1 b2 b3 b4 b5 hk
    | 28, _ => rw [z_L_law_33_28]; exact lc_28 h b1 b2 b3 b4 b5 hk
    | 29, _ => rw [z_L_law_33_29]; exact lc_29 h b1 b2 b3 b4 b5 hk
    | 30, _ => rw [z_L_law_33_30]; exact lc_30 h b1 b2 b3 b4 b5 hk
    | 31, _ => rw [z_L_law_33_31]; exact lc_31 h b1 b2 b3 b4 b5 hk
    | 32, _ => rw [z_L_law_33_32]; exact lc_32 h b1 b2 b3 b4 b5 hk
    | 33, _ => rw [z_L_law_33_33]; exact lc_33 h b1 b2 b3 b4 b5 hk
    | 34, _ => rw [z_L_law_33_34]; exact lc_34 h b1 b2 b3 b4 b5 hk
    | k + 35, q => exact absurd q (by omega)
  · rw [z_L_law_33_d c]
    exact hk σ S h
end LP
theorem law_lp {L : Nat} (hL : L ≤ 3072) {xs : Nat → Int32} : ∀ n j σ S, LI (L, xs) σ S → 6 * j ≤ L → L < 6 * (j + n) + 6 → At 100 kL_law 18 [vR 0 40, vR 0 8, vR 97 9, vI (nI (6 * j))] [] σ (fun r σ' => r = some (vI 1) ∧ ∃ S', LI (L, xs) σ' S')
  | n, j, σ, S, h, hj, hn => by
    have hX : sX σ = (L, xs) := h.2.2.2.1
    have lb := lb_lt hL hj
    have eL : Int32.ofNat L = nI L := rfl
    simp only [z_L_law_18, z_L_law_19, zLs_20, z_L_law_21, z_L_law_23, z_L_law_24, hX, eL, lb, true_and, Option.toList_some, Option.toList_none, List.cons_append, List.nil_append, is2IT, is2RT, if_true, if_false]
    by_cases c : L < 6 * j + 6
    · rw [if_pos c]
      simp only [z_L_law_1498, z_L_law_1499, true_and, Option.toList_some, Option.toList_none, List.cons_append, List.nil_append, is2IT, is2RT, if_true, if_false]
      exact ⟨rfl, S, h⟩
    · rw [if_neg c]
      have b : ∀ q, q < 6 → inB (nI (6 * j + q)) L = true := fun q hq => inB_nI (by omega) (by omega)
      have b0 : inB (nI (6 * j)) L = true := b 0 (by decide)
      have ad : ∀ q, q < 6 → nI (6 * j) + nI q = nI (6 * j + q) := fun q hq => nI_add _ _
      simp only [z_L_law_27, z_L_law_28, zLs_29, z_L_law_30, z_L_law_32, hX, b0, true_and, Option.toList_some, Option.toList_none, List.cons_append, List.nil_append, is2IT, is2RT, if_true, if_false]
      refine lw_sw h (by have e := ad 1 (by decide); rw [show (1 : Int32) = nI 1 from rfl, e]; exact b 1 (by decide)) (by have e := ad 2 (by decide); rw [show (2 : Int32) = nI 2 from rfl, e]; exact b 2 (by decide)) (by have e := ad 3 (by decide); rw [show (3 : Int32) = nI 3 from rfl, e]; exact b 3 (by decide)) (by have e := ad 4 (by decide); rw [show (4 : Int32) = nI 4 from rfl, e]; exact b 4 (by decide)) (by have e := ad 5 (by decide); rw [show (5 : Int32) = nI 5 from rfl, e]; exact b 5 (by decide)) (fun σ' S' h' => ?_) _
      rw [z_L_law_1492 rfl, z_L_law_1495, show (6 : Int32) = nI 6 from rfl, nI_add, show 6 * j + 6 = 6 * (j + 1) by omega]
      match n, hn with
      | 0, hn => exact absurd hn (by omega)
      | n + 1, hn => exact law_lp hL n (j + 1) σ' S' h' (by omega) (by omega)
/-- the empty memory, with the script -/
def st0 (L : Nat) (xs : Nat → Int32) : St := (fun _ _ => 0, fun _ _ => 0, fun _ _ => none, [], (L, xs))
theorem law_pure (L : Nat) (hL : L ≤ 3072) (xs : Nat → Int32) : ∃ N σ', run (exec tab N 100) kL_law N 0 [vR 0 40, vU, vU, vU] [] (st0 L xs) = some (some (vI 1), σ') ∧ (sS σ').length ≤ 121 ∧ ((sS σ').map Prod.snd).sum ≤ 6000 := by
  obtain ⟨σ1, σ, e1, e2, e3, hI⟩ := ini_law (L, xs)
  have c1 : ∀ {P : Option PV → St → Prop}, P none σ1 → Ca 100 73 [vR 0 8] (nw (st0 L xs) 8 10) P := fun {P} h => ca_deep (by decide) ⟨400, none, σ1, e1, h⟩
  have c2 : ∀ {P : Option PV → St → Prop}, P none σ → Ca 100 124 [vR 97 9] (nw σ1 9 33) P := fun {P} h => ca_deep (by decide) ⟨400, none, σ, e3, h⟩
  have key : At 100 kL_law 0 [vR 0 40, vU, vU, vU] [] (st0 L xs) (fun r σ' => r = some (vI 1) ∧ ∃ S', LI (L, xs) σ' S') := by
    have l0 : (sS (st0 L xs)).length = 0 := rfl
    simp (disch := first | exact is2I | exact is2R | omega) only [z_L_law_0, z_L_law_3, z_L_law_4, l0, true_and, Option.toList_some, Option.toList_none, List.cons_append, List.nil_append, is2IT, is2RT, if_true, if_false]
    refine c1 ?_
    simp (disch := first | exact is2I | exact is2R | omega) only [z_L_law_7, z_L_law_8, z_L_law_11, z_L_law_12, e2, true_and, Option.toList_some, Option.toList_none, List.cons_append, List.nil_append, is2IT, is2RT, if_true, if_false]
    refine c2 ?_
    simp (disch := first | exact is2I | exact is2R | omega) only [z_L_law_15, z_L_law_16, z_L_law_17, true_and, Option.toList_some, Option.toList_none, List.cons_append, List.nil_append, is2IT, is2RT, if_true, if_false]
    exact law_lp hL 512 0 σ S00 hI (Nat.zero_le _) (by omega)
  obtain ⟨N, r, σ', h1, rfl, S', h2⟩ := key
  obtain ⟨-, -, h3, -, h5⟩ := h2
  obtain ⟨k, cap, c, q, -⟩ := h3
  unfold Iz at h5
  unfold Kc at q
  exact ⟨N, σ', h1, by omega, by omega⟩
