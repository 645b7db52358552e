/-! ===== the class: numbers of a web ===== -/
theorem cT_at {N : Net} {k x y v : Nat} (hy : y < sQ N k) : cT N k (x * sQ N k + y) v = tabN N k x y v := by
  unfold cT
  have e1 : (x * sQ N k + y) / sQ N k = x := by rw [Nat.add_comm, Nat.add_mul_div_right _ _ (by omega), Nat.div_eq_of_lt hy, Nat.zero_add]
  have e2 : (x * sQ N k + y) % sQ N k = y := by rw [Nat.add_comm, Nat.add_mul_mod_self_right, Nat.mod_eq_of_lt hy]
  rw [e1, e2]
theorem row_in {N : Net} {k x y : Nat} (hx : x < sP N k) (hy : y < sQ N k) : x * sQ N k + y < rowsN N k := by
  rw [rowsN_s]
  have : (x + 1) * sQ N k ≤ sP N k * sQ N k := Nat.mul_le_mul_right _ hx
  rw [Nat.succ_mul] at this
  omega
section CN
variable {d w k : Nat} {Q : Option PV → St → Prop} {σ : St} {N : Net}
theorem c_numberOf (h : CI σ w N) (hk : k < nM N) {v x y : Nat} (hv : v < 3) (hx : x < sP N k) (hy : y < sQ N k) : Ca (d + 1) 19 [vR (nO w k) 2, vI (nI v), vI (nI x), vI (nI y)] σ Q ↔ Q (some (vI (nI (match nD N k with | some u => if v = u then 12 else 0 | none => tabN N k x y v)))) σ := by
  have h7 := CI_7 h
  have hX := h.1
  have hw := h.2.1
  obtain ⟨-, -, -, -, -, e7, -, e9, -, ec⟩ := h.2.2.1.2 k hk
  have hr := row_in hx hy
  have r9 := rows_9 h.2.2.2 hk
  have eD := oI_none' (NV_d h.2.2.2 hk)
  rw [ca_at (K := kX1_numberOf) (ls := [vR (nO w k) 2, vI (nI v), vI (nI x), vI (nI y)]) rfl rfl rfl]
  cases ed : nD N k with
  | none =>
    have ecx := ec (x * sQ N k + y) hr v hv
    rw [cT_at hy] at ecx
    have e3 : nI ((x * sQ N k + y) * 3 + v) = nI (3 * (x * sQ N k + y) + v) := by rw [Nat.mul_comm]
    rw [ed, oI_nn] at e9
    simp (disch := first | exact is2I | exact is2R | omega) only [z_X1_numberOf_0, z_X1_numberOf_1, z_X1_numberOf_4, z_X1_numberOf_5, z_X1_numberOf_8, z_X1_numberOf_9, z_X1_numberOf_10, z_X1_numberOf_13, z_X1_numberOf_16, z_X1_numberOf_18, z_X1_numberOf_21, z_X1_numberOf_22, z_X1_numberOf_23, z_X1_numberOf_24, z_X1_numberOf_27, z_X1_numberOf_28, z_X1_numberOf_29, z_X1_numberOf_32, z_X1_numberOf_33, z_X1_numberOf_34, z_X1_numberOf_35, z_X1_numberOf_36, z_X1_numberOf_37, z_X1_numberOf_38, z_X1_numberOf_39, z_X1_numberOf_40, e9, e7, xw_c hX hw (show k < 7 by omega), xs_c hX hw (show k < 7 by omega), pk_mul, nI_add, kML, e3, kIn, kCl, ecx, true_and, Option.toList_some, Option.toList_none, List.cons_append, List.nil_append, is2IT, is2RT, if_true, if_false]
  | some u =>
    have hu := NV_d h.2.2.2 hk u ed
    rw [ed, oI_ss] at e9
    simp (disch := first | exact is2I | exact is2R | omega) only [z_X1_numberOf_0, z_X1_numberOf_1, z_X1_numberOf_4, z_X1_numberOf_5, z_X1_numberOf_8, z_X1_numberOf_9, z_X1_numberOf_10, z_X1_numberOf_13, z_X1_numberOf_16, z_X1_numberOf_18, z_X1_numberOf_21, z_X1_numberOf_22, z_X1_numberOf_23, z_X1_numberOf_24, z_X1_numberOf_27, z_X1_numberOf_28, z_X1_numberOf_29, z_X1_numberOf_32, z_X1_numberOf_33, z_X1_numberOf_34, z_X1_numberOf_35, z_X1_numberOf_36, z_X1_numberOf_37, z_X1_numberOf_38, z_X1_numberOf_39, z_X1_numberOf_40, e9, kM1, kEq, true_and, Option.toList_some, Option.toList_none, List.cons_append, List.nil_append, is2IT, is2RT, if_true, if_false]
    split <;> exact Iff.rfl
theorem c_hasO (h : CI σ w N) {o : Option Nat} (ho : ∀ j, o = some j → j < nM N) : Ca (d + 1) 47 [vR w 6, vI (oI o)] σ Q ↔ Q (some (vI (b2 (o ≠ none)))) σ := by
  have h7 := CI_7 h
  rw [c_has h]
  cases o with
  | none => rw [b2_f (show ¬ ((0 : Int32) ≤ oI none ∧ _) from fun q => absurd q.1 (by decide)), b2_f (fun q => q rfl)]
  | some j =>
    have := ho j rfl
    rw [b2_t (show 0 ≤ oI (some j) ∧ oI (some j) < nI (nM N) from (lt_nI (by omega)).mpr ⟨j, this, rfl⟩), b2_t (fun q => by cases q)]
theorem c_numberIn (h : CI σ w N) (hk : k < nM N) {a : Nat} (ha : sh σ a = (20, 7)) {v : Nat} (hv : v < 3) {ω : Wd} (hW : Wld σ a N ω k) : Ca (d + 2) 52 [vR w 6, vR a 20, vI (nI k), vI (nI v)] σ Q ↔ Q (some (vI (nI (numW N ω k v)))) σ := by
  have h7 := CI_7 h
  have hX := h.1
  have hw := h.2.1
  obtain ⟨-, -, e4, e5, -, -, -, -, -, -⟩ := h.2.2.1.2 k hk
  have ti := tab_in h.2.2.2 hk (fun i hi => (hW i hi).2)
  have hp : ∀ j, nP N k = some j → j < nM N := fun j q => by have := (h.2.2.2.2 k hk).2.2.1 j q; omega
  have hq : ∀ j, nQ N k = some j → j < nM N := fun j q => by have := ((h.2.2.2.2 k hk).2.2.2.1 j q).1; omega
  have n10 : ((1 : Int32) = 0) = False := eq_false (by decide)
  have fin := fun {x y : Nat} (ex : x = xP N ω k) (ey : y = yQ N ω k) => @c_numberOf d w k Q σ N h hk v x y hv (by rw [ex]; exact ti.1) (by rw [ey]; exact ti.2.1)
  have en : (match nD N k with | some u => if v = u then 12 else 0 | none => tabN N k (xP N ω k) (yQ N ω k) v) = numW N ω k v := rfl
  rw [ca_at (K := kX6_numberIn) (ls := [vR w 6, vR a 20, vI (nI k), vI (nI v), vU]) rfl rfl rfl]
  cases epp : nP N k with
  | none =>
    rw [epp] at e4
    have ex : 0 = xP N ω k := by unfold xP; rw [epp]
    cases eqq : nQ N k with
    | none =>
      rw [eqq] at e5
      have ey : 0 = yQ N ω k := by unfold yQ; rw [eqq]
      have c1 := c_hasO (d := d) (Q := fun r σ1 => Q r σ1) h (o := none) (fun j q => by cases q)
      have hh : ∀ Q : Option PV → St → Prop, Ca (d + 1) 47 [vR w 6, vI (oI none)] σ Q ↔ Q (some (vI (b2 ((none : Option Nat) ≠ none)))) σ := fun Q => c_hasO h (fun j q => by cases q)
      have f := fin ex ey
      have f' : Ca (d + 1) 19 [vR (nO w k) 2, vI (nI v), vI 0, vI 0] σ Q ↔ _ := f
      simp (disch := first | exact is2I | exact is2R | omega) only [z_X6_numberIn_0, z_X6_numberIn_1, z_X6_numberIn_4, z_X6_numberIn_5, z_X6_numberIn_5s, z_X6_numberIn_6, z_X6_numberIn_8, z_X6_numberIn_10, z_X6_numberIn_11, z_X6_numberIn_12, z_X6_numberIn_14, z_X6_numberIn_17, z_X6_numberIn_20, z_X6_numberIn_23, z_X6_numberIn_24, z_X6_numberIn_26, z_X6_numberIn_29, z_X6_numberIn_30, z_X6_numberIn_33, z_X6_numberIn_34, z_X6_numberIn_35, z_X6_numberIn_37, z_X6_numberIn_40, z_X6_numberIn_43, z_X6_numberIn_46, z_X6_numberIn_47, z_X6_numberIn_49, z_X6_numberIn_52, z_X6_numberIn_53, z_X6_numberIn_56, z_X6_numberIn_57, z_X6_numberIn_60, xw_a hX hw, xw_n hX hw (show k < 7 by omega), xs_a hX hw, kIn, kCl, e4, e5, hh, b2_0, ne_eq, not_true_eq_false, not_false_eq_true, true_and, Option.toList_some, Option.toList_none, List.cons_append, List.nil_append, is2IT, is2RT, if_true, if_false]
      have g : Ca (d + 1) 19 [vR (nO w k) 2, vI (nI v), vI 0, vI 0] σ (fun r σ1 => At (d + 1) kX6_numberIn 60 [vR w 6, vR a 20, vI (nI k), vI (nI v), vR (nO w k) 2] (r.toList ++ []) σ1 Q) ↔ _ := @c_numberOf d w k _ σ N h hk v 0 0 hv (by rw [ex]; exact ti.1) (by rw [ey]; exact ti.2.1)
      rw [g, ← en, ← ex, ← ey]
      simp only [z_X6_numberIn_0, z_X6_numberIn_1, z_X6_numberIn_4, z_X6_numberIn_5, z_X6_numberIn_5s, z_X6_numberIn_6, z_X6_numberIn_8, z_X6_numberIn_10, z_X6_numberIn_11, z_X6_numberIn_12, z_X6_numberIn_14, z_X6_numberIn_17, z_X6_numberIn_20, z_X6_numberIn_23, z_X6_numberIn_24, z_X6_numberIn_26, z_X6_numberIn_29, z_X6_numberIn_30, z_X6_numberIn_33, z_X6_numberIn_34, z_X6_numberIn_35, z_X6_numberIn_37, z_X6_numberIn_40, z_X6_numberIn_43, z_X6_numberIn_46, z_X6_numberIn_47, z_X6_numberIn_49, z_X6_numberIn_52, z_X6_numberIn_53, z_X6_numberIn_56, z_X6_numberIn_57, z_X6_numberIn_60, true_and, Option.toList_some, Option.toList_none, List.cons_append, List.nil_append, is2IT, is2RT, if_true, if_false]
    | some q => obtain ⟨i, h1, _⟩ := ((h.2.2.2.2 k hk).2.2.2.1 q eqq).2; rw [epp] at h1; cases h1
  | some p =>
    rw [epp] at e4
    have hpk := (h.2.2.2.2 k hk).2.2.1 p epp
    obtain ⟨w1, w2⟩ := hW p hpk
    have ex : ω p = xP N ω k := by unfold xP; rw [epp]
    have hhp : ∀ Q : Option PV → St → Prop, Ca (d + 1) 47 [vR w 6, vI (nI p)] σ Q ↔ Q (some (vI (b2 (some p ≠ none)))) σ := fun Q => c_hasO (o := some p) h (fun j q => by cases q; omega)
    have np : (some p = none) = False := eq_false (fun q => by cases q)
    cases eqq : nQ N k with
    | none =>
      rw [eqq] at e5
      have ey : 0 = yQ N ω k := by unfold yQ; rw [eqq]
      have hh : ∀ Q : Option PV → St → Prop, Ca (d + 1) 47 [vR w 6, vI (oI none)] σ Q ↔ Q (some (vI (b2 ((none : Option Nat) ≠ none)))) σ := fun Q => c_hasO h (fun j q => by cases q)
      simp (disch := first | exact is2I | exact is2R | omega) only [z_X6_numberIn_0, z_X6_numberIn_1, z_X6_numberIn_4, z_X6_numberIn_5, z_X6_numberIn_5s, z_X6_numberIn_6, z_X6_numberIn_8, z_X6_numberIn_10, z_X6_numberIn_11, z_X6_numberIn_12, z_X6_numberIn_14, z_X6_numberIn_17, z_X6_numberIn_20, z_X6_numberIn_23, z_X6_numberIn_24, z_X6_numberIn_26, z_X6_numberIn_29, z_X6_numberIn_30, z_X6_numberIn_33, z_X6_numberIn_34, z_X6_numberIn_35, z_X6_numberIn_37, z_X6_numberIn_40, z_X6_numberIn_43, z_X6_numberIn_46, z_X6_numberIn_47, z_X6_numberIn_49, z_X6_numberIn_52, z_X6_numberIn_53, z_X6_numberIn_56, z_X6_numberIn_57, z_X6_numberIn_60, xw_a hX hw, xw_n hX hw (show k < 7 by omega), xs_a hX hw, kIn, kCl, e4, e5, hhp, hh, np, b2_0, ne_eq, not_true_eq_false, not_false_eq_true, ha, oI_ss, w1, true_and, Option.toList_some, Option.toList_none, List.cons_append, List.nil_append, is2IT, is2RT, if_true, if_false]
      have g : Ca (d + 1) 19 [vR (nO w k) 2, vI (nI v), vI (nI (ω p)), vI 0] σ (fun r σ1 => At (d + 1) kX6_numberIn 60 [vR w 6, vR a 20, vI (nI k), vI (nI v), vR (nO w k) 2] (r.toList ++ []) σ1 Q) ↔ _ := @c_numberOf d w k _ σ N h hk v (ω p) 0 hv (by rw [ex]; exact ti.1) (by rw [ey]; exact ti.2.1)
      rw [g, ← en, ← ex, ← ey]
      simp only [z_X6_numberIn_0, z_X6_numberIn_1, z_X6_numberIn_4, z_X6_numberIn_5, z_X6_numberIn_5s, z_X6_numberIn_6, z_X6_numberIn_8, z_X6_numberIn_10, z_X6_numberIn_11, z_X6_numberIn_12, z_X6_numberIn_14, z_X6_numberIn_17, z_X6_numberIn_20, z_X6_numberIn_23, z_X6_numberIn_24, z_X6_numberIn_26, z_X6_numberIn_29, z_X6_numberIn_30, z_X6_numberIn_33, z_X6_numberIn_34, z_X6_numberIn_35, z_X6_numberIn_37, z_X6_numberIn_40, z_X6_numberIn_43, z_X6_numberIn_46, z_X6_numberIn_47, z_X6_numberIn_49, z_X6_numberIn_52, z_X6_numberIn_53, z_X6_numberIn_56, z_X6_numberIn_57, z_X6_numberIn_60, true_and, Option.toList_some, Option.toList_none, List.cons_append, List.nil_append, is2IT, is2RT, if_true, if_false]
    | some q =>
      rw [eqq] at e5
      have hqk := ((h.2.2.2.2 k hk).2.2.2.1 q eqq).1
      obtain ⟨w3, w4⟩ := hW q hqk
      have ey : ω q = yQ N ω k := by unfold yQ; rw [eqq]
      have hhq : ∀ Q : Option PV → St → Prop, Ca (d + 1) 47 [vR w 6, vI (nI q)] σ Q ↔ Q (some (vI (b2 (some q ≠ none)))) σ := fun Q => c_hasO (o := some q) h (fun j z => by cases z; omega)
      have nq : (some q = none) = False := eq_false (fun q => by cases q)
      simp (disch := first | exact is2I | exact is2R | omega) only [z_X6_numberIn_0, z_X6_numberIn_1, z_X6_numberIn_4, z_X6_numberIn_5, z_X6_numberIn_5s, z_X6_numberIn_6, z_X6_numberIn_8, z_X6_numberIn_10, z_X6_numberIn_11, z_X6_numberIn_12, z_X6_numberIn_14, z_X6_numberIn_17, z_X6_numberIn_20, z_X6_numberIn_23, z_X6_numberIn_24, z_X6_numberIn_26, z_X6_numberIn_29, z_X6_numberIn_30, z_X6_numberIn_33, z_X6_numberIn_34, z_X6_numberIn_35, z_X6_numberIn_37, z_X6_numberIn_40, z_X6_numberIn_43, z_X6_numberIn_46, z_X6_numberIn_47, z_X6_numberIn_49, z_X6_numberIn_52, z_X6_numberIn_53, z_X6_numberIn_56, z_X6_numberIn_57, z_X6_numberIn_60, xw_a hX hw, xw_n hX hw (show k < 7 by omega), xs_a hX hw, kIn, kCl, e4, e5, hhp, hhq, np, nq, b2_0, ne_eq, not_true_eq_false, not_false_eq_true, ha, oI_ss, w1, w3, true_and, Option.toList_some, Option.toList_none, List.cons_append, List.nil_append, is2IT, is2RT, if_true, if_false]
      have g : Ca (d + 1) 19 [vR (nO w k) 2, vI (nI v), vI (nI (ω p)), vI (nI (ω q))] σ (fun r σ1 => At (d + 1) kX6_numberIn 60 [vR w 6, vR a 20, vI (nI k), vI (nI v), vR (nO w k) 2] (r.toList ++ []) σ1 Q) ↔ _ := @c_numberOf d w k _ σ N h hk v (ω p) (ω q) hv (by rw [ex]; exact ti.1) (by rw [ey]; exact ti.2.1)
      rw [g, ← en, ← ex, ← ey]
      simp only [z_X6_numberIn_0, z_X6_numberIn_1, z_X6_numberIn_4, z_X6_numberIn_5, z_X6_numberIn_5s, z_X6_numberIn_6, z_X6_numberIn_8, z_X6_numberIn_10, z_X6_numberIn_11, z_X6_numberIn_12, z_X6_numberIn_14, z_X6_numberIn_17, z_X6_numberIn_20, z_X6_numberIn_23, z_X6_numberIn_24, z_X6_numberIn_26, z_X6_numberIn_29, z_X6_numberIn_30, z_X6_numberIn_33, z_X6_numberIn_34, z_X6_numberIn_35, z_X6_numberIn_37, z_X6_numberIn_40, z_X6_numberIn_43, z_X6_numberIn_46, z_X6_numberIn_47, z_X6_numberIn_49, z_X6_numberIn_52, z_X6_numberIn_53, z_X6_numberIn_56, z_X6_numberIn_57, z_X6_numberIn_60, true_and, Option.toList_some, Option.toList_none, List.cons_append, List.nil_append, is2IT, is2RT, if_true, if_false]
theorem c_factorIn (h : CI σ w N) (hk : k < nM N) {a : Nat} (ha : sh σ a = (20, 7)) {v : Nat} (hv : v < 3) {ω : Wd} (hW : Wld σ a N ω k) : Ca (d + 3) 53 [vR w 6, vR a 20, vI (nI k), vI (nI v)] σ Q ↔ Q (some (vI (nI (facW N ω k v)))) σ := by
  have h7 := CI_7 h
  have hX := h.1
  have hw := h.2.1
  obtain ⟨-, -, -, -, -, -, e8, -, eh, -⟩ := h.2.2.1.2 k hk
  have body : At (d + 2) kX6_factorIn 28 [vR w 6, vR a 20, vI (nI k), vI (nI v), vR (nO w k) 2] [] σ Q ↔ Q (some (vI (nI (numW N ω k v * nH N k v)))) σ := by
    simp (disch := first | exact is2I | exact is2R | omega) only [z_X6_factorIn_28, z_X6_factorIn_29, z_X6_factorIn_30, z_X6_factorIn_31, z_X6_factorIn_32, z_X6_factorIn_35, z_X6_factorIn_37, z_X6_factorIn_40, z_X6_factorIn_41, z_X6_factorIn_42, z_X6_factorIn_43, c_numberIn h hk ha hv hW, xw_h hX hw (show k < 7 by omega), xs_h hX hw (show k < 7 by omega), kIn, kCl, eh v hv, pk_mul, true_and, Option.toList_some, Option.toList_none, List.cons_append, List.nil_append, is2IT, is2RT, if_true, if_false]
  rw [ca_at (K := kX6_factorIn) (ls := [vR w 6, vR a 20, vI (nI k), vI (nI v), vU]) rfl rfl rfl]
  unfold facW
  cases ef : nF1 N k with
  | none =>
    rw [ef, oI_nn] at e8
    simp (disch := first | exact is2I | exact is2R | omega) only [z_X6_factorIn_0, z_X6_factorIn_1, z_X6_factorIn_4, z_X6_factorIn_5, z_X6_factorIn_5s, z_X6_factorIn_6, z_X6_factorIn_8, z_X6_factorIn_10, z_X6_factorIn_13, z_X6_factorIn_14, xw_a hX hw, xw_n hX hw (show k < 7 by omega), xs_a hX hw, kIn, kCl, e8, true_and, Option.toList_some, Option.toList_none, List.cons_append, List.nil_append, is2IT, is2RT, if_true, if_false]
    exact body
  | some u =>
    have hu := NV_f h.2.2.2 hk u ef
    rw [ef, oI_ss] at e8
    simp (disch := first | exact is2I | exact is2R | omega) only [z_X6_factorIn_0, z_X6_factorIn_1, z_X6_factorIn_4, z_X6_factorIn_5, z_X6_factorIn_5s, z_X6_factorIn_6, z_X6_factorIn_8, z_X6_factorIn_10, z_X6_factorIn_13, z_X6_factorIn_14, z_X6_factorIn_17, z_X6_factorIn_19, z_X6_factorIn_22, z_X6_factorIn_23, xw_a hX hw, xw_n hX hw (show k < 7 by omega), xs_a hX hw, kIn, kCl, e8, kM1, kEq, true_and, Option.toList_some, Option.toList_none, List.cons_append, List.nil_append, is2IT, is2RT, if_true, if_false]
    by_cases c : u = v
    · rw [if_pos c, if_pos c.symm]; exact body
    · rw [if_neg c, if_neg (fun q => c q.symm)]
      simp only [z_X6_factorIn_26, z_X6_factorIn_27, true_and, Option.toList_some, Option.toList_none, List.cons_append, List.nil_append, is2IT, is2RT, if_true, if_false]
      exact Iff.rfl
end CN
