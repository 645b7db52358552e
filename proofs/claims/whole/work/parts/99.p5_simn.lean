-- objects that are made (by program: wip/whole/gen13.py)
theorem new_fs {ad : Nat → Nat} {σ : St} {c n q : Nat} {ty : Nat → FieldType} {N : Nat} (hN : N = nF c) (hft : ∀ k, k < N → ftOK (ty k) (ft c k) = true) : ∀ j, j < N → defaultValue (ty j) = vp_V ((List.range (nF c)).map (fval (va_up ad (len σ) q) (nw σ c n) (len σ) c)) j := by
  intro j hj
  unfold vp_V
  rw [List.getD_eq_getElem?_getD, fs_at (by rw [← hN]; exact hj)]
  show _ = fval _ _ _ _ _
  have h := hft j hj
  have hI : rI (nw σ c n) (len σ) j = 0 := if_pos rfl
  have hL : rL (nw σ c n) (len σ) j = 0 := if_pos rfl
  have hR : rR (nw σ c n) (len σ) j = none := if_pos rfl
  unfold fval
  rw [hI, hL, hR]
  cases e : ty j with
  | int => rw [e] at h; rw [Nat.eq_of_beq_eq_true h]; rfl
  | long => rw [e] at h; rw [Nat.eq_of_beq_eq_true h]; rfl
  | boolean => rw [e] at h; rw [Nat.eq_of_beq_eq_true h]; rfl
  | byte => rw [e] at h; rw [Nat.eq_of_beq_eq_true h]; rfl
  | object C => rw [e] at h; have h : Nat.ble 100 (ft c j) = true := h; rw [h, show (ft c j).beq 1 = false from by rw [← Bool.not_eq_true, Nat.beq_eq]; have := Nat.le_of_ble_eq_true h; omega]; rfl
  | array C => rw [e] at h; have h : Nat.ble 100 (ft c j) = true := h; rw [h, show (ft c j).beq 1 = false from by rw [← Bool.not_eq_true, Nat.beq_eq]; have := Nat.le_of_ble_eq_true h; omega]; rfl
  | _ => rw [e] at h; cases h
set_option maxHeartbeats 1000000 in
theorem sm_new {p : Program} {l : Launch} {e : Env} {R : Room} {s : State} {m : MethodId} {args : Array Value} {below : List Frame} {meth : Method} {c : Code} {Q : State → Prop} {M : Nat} {G : va_G} {cA : Nat → ClassId} {ex : Nat → Nat → Value} {X : Nat × (Nat → Int32)} {A : Nat → Prop} {nL n0 z0 : Nat} {ad0 : Nat → Nat} {E : Cal} {ret : Option FieldType} {i0 : Nat} {ln res pc pc' : Nat} {ls st ls' st' : List PV} {σ σ' : St}
    (C : Cx p s m args meth c M G cA ex X A nL) (hd : decode (mT M).2.1 pc = .ok ((.new i0), 3)) (h : stI E ret (.new i0) ln res pc ls st σ = some (Sum.inl (pc', ls', st', σ'))) (hnew : ∃ K T N, vwCl[res]? = some (K, T, N) ∧ Jvm.Cond.classLink (mT M).1.cls i0 K ∈ TBL) (hroom : len σ' - n0 ≤ R.cells ∧ slo σ' - z0 ≤ R.slots) (hk9 : WT9 σ' ∧ TS σ' ls' ∧ TS σ' st')
    (hg : Good (fun H locs cells slots g => W p l e R s m args below meth c H locs cells slots Q g) m G cA ex X A s.heap n0 z0 nL ad0 pc' ls' st' σ') : Good (fun H locs cells slots g => W p l e R s m args below meth c H locs cells slots Q g) m G cA ex X A s.heap n0 z0 nL ad0 pc ls st σ := by
    intro ad lsJ H locs hr
    obtain ⟨hP, hD, hS, hl, hn, hWT, hTL, hTS, h0, h1, hX, hA0⟩ := hr
    obtain ⟨hx, hb, hml, hown, hnm, htb, hK, hE0, hNW, hA⟩ := C
    have hex := hE0.2.2.1
    unfold stI at h
    dsimp only at h
    have hgd := (guard_inv h).1; replace h := (guard_inv h).2
    have h10 : res < 10 := Nat.le_of_ble_eq_true hgd
    obtain ⟨K, T, N, hc, hcl⟩ := hnew
    obtain ⟨-, hN, hin, hins, hini⟩ := cls_facts hc
    obtain ⟨hnm2, ty, hty, hft⟩ := cls_types hc
    cases go_inv h
    rw [nw_len, nw_slo] at hroom
    refine va_new (fs := (List.range (nF res)).map (fval (va_up ad (len σ) 0) (nw σ res (nF res)) (len σ) res)) hx hb htb hin ty hty hown (htb _ hcl) (htb _ hins) (htb _ hini) hK hP hD hS hA hc (new_fs hN hft) (by omega) (by omega) hd (fun q H1 hP1 hD1 hS1 => ?_)
    have e0 : (List.range (nF res)).map (fval (va_up ad (len σ) 0) (nw σ res (nF res)) (len σ) res) = (List.range (nF res)).map (fval (va_up ad (len σ) q) (nw σ res (nF res)) (len σ) res) := by
      apply List.map_congr_left
      intro j _
      have hR : rR (nw σ res (nF res)) (len σ) j = none := if_pos rfl
      unfold fval
      rw [hR]; rfl
    rw [e0] at hP1 hD1
    have e2 : eW (va_up ad (len σ) q) cA (nw σ res (nF res)) (len σ) = (q, .inr (res, (List.range (nF res)).map (fval (va_up ad (len σ) q) (nw σ res (nF res)) (len σ) res))) := by
      rw [eW_obj (t := res) (by rw [nw_sh]) (by omega), up_s9]
    rw [wW_new hWT e2] at hP1 hD1
    have e1 : trv (va_up ad (len σ) q) ex (vR (sS σ).length res) = .ref q := by rw [trv_w (by omega)]; exact congrArg Value.ref up_s9
    have hk2 := hg (va_up ad (len σ) q) lsJ H1 locs ⟨hP1, hD1, hS1, (by rw [lvl_ag up_ag hTL]; exact hl), hn, hk9.1, hk9.2.1, hk9.2.2, (by rw [nw_len]; omega), (by rw [nw_slo]; omega), hX, (fun k hk => (up_ag k (Nat.lt_of_lt_of_le hk h0)).trans (hA0 k hk))⟩
    try simp only [aTag] at hk2
    rw [List.map_cons, e1, trv_ags up_ag hTS, nw_len, nw_slo] at hk2
    exact W.cs (by omega) (by omega) hk2
set_option maxHeartbeats 1000000 in
theorem sm_newarray {p : Program} {l : Launch} {e : Env} {R : Room} {s : State} {m : MethodId} {args : Array Value} {below : List Frame} {meth : Method} {c : Code} {Q : State → Prop} {M : Nat} {G : va_G} {cA : Nat → ClassId} {ex : Nat → Nat → Value} {X : Nat × (Nat → Int32)} {A : Nat → Prop} {nL n0 z0 : Nat} {ad0 : Nat → Nat} {E : Cal} {ret : Option FieldType} {i0 : ArrayType} {ln res pc pc' : Nat} {ls st ls' st' : List PV} {σ σ' : St}
    (C : Cx p s m args meth c M G cA ex X A nL) (hd : decode (mT M).2.1 pc = .ok ((.newarray i0), 2)) (h : stI E ret (.newarray i0) ln res pc ls st σ = some (Sum.inl (pc', ls', st', σ'))) (hlk : Jvm.Cond.arrayClass (newarray.typeOf i0) ∈ TBL) (hroom : len σ' - n0 ≤ R.cells ∧ slo σ' - z0 ≤ R.slots) (hk9 : WT9 σ' ∧ TS σ' ls' ∧ TS σ' st')
    (hg : Good (fun H locs cells slots g => W p l e R s m args below meth c H locs cells slots Q g) m G cA ex X A s.heap n0 z0 nL ad0 pc' ls' st' σ') : Good (fun H locs cells slots g => W p l e R s m args below meth c H locs cells slots Q g) m G cA ex X A s.heap n0 z0 nL ad0 pc ls st σ := by
    intro ad lsJ H locs hr
    obtain ⟨hP, hD, hS, hl, hn, hWT, hTL, hTS, h0, h1, hX, hA0⟩ := hr
    obtain ⟨hx, hb, hml, hown, hnm, htb, hK, hE0, hNW, hA⟩ := C
    have hex := hE0.2.2.1
    unfold stI at h
    dsimp only at h
    obtain ⟨x0, r0, hn1, rfl⟩ := pI_inv h; replace h := hn1; clear hn1
    have hgd := (guard_inv h).1; replace h := (guard_inv h).2
    simp only [Bool.and_eq_true, Bool.not_eq_true', decide_eq_false_iff_not, decide_eq_true_eq] at hgd
    cases i0
    case int =>
      cases go_inv h
      rw [nw_len, nw_slo] at hroom
      rw [List.map_cons]
      skip
      refine va_newa (a0 := (x0.toNatClampNeg, .inl (fun _ => 0))) hx hb (htb _ hlk) rfl hK hP hD hS hA (fun _ => rfl) hgd.1 rfl (by show x0.toNatClampNeg * 4 ≤ _; omega) (by omega) (by omega) hd (fun q cA1 H1 hK1 hP1 hD1 hS1 => ?_)
      have ec := cA_eq (k := 0) hK1 rfl
      subst ec
      have e2 : eW (va_up ad (len σ) q) cA (nw σ 20 x0.toNatClampNeg) (len σ) = (q, .inl (cA 20, (x0.toNatClampNeg, .inl (fun _ => 0)))) := by
        rw [eW_arr (t := 20) (by rw [nw_sh]) (by decide), up_s9, nw_sh]
        have hI : rI (nw σ 20 x0.toNatClampNeg) (len σ) = fun _ => 0 := funext fun _ => if_pos rfl
        unfold arrE
        rw [hI]; rfl
      rw [wW_new hWT e2] at hP1 hD1
      have e1 : trv (va_up ad (len σ) q) ex (vR (sS σ).length 20) = .ref q := by rw [trv_w (by omega)]; exact congrArg Value.ref up_s9
      have hk2 := hg (va_up ad (len σ) q) lsJ H1 locs ⟨hP1, hD1, hS1, (by rw [lvl_ag up_ag hTL]; exact hl), hn, hk9.1, hk9.2.1, hk9.2.2, (by rw [nw_len]; omega), (by rw [nw_slo]; omega), hX, (fun k hk => (up_ag k (Nat.lt_of_lt_of_le hk h0)).trans (hA0 k hk))⟩
      try simp only [aTag] at hk2
      rw [List.map_cons, e1, trv_ags up_ag (TS_t hTS), nw_len, nw_slo] at hk2
      exact W.cs (by omega) (by omega) hk2
    case long =>
      cases go_inv h
      rw [nw_len, nw_slo] at hroom
      rw [List.map_cons]
      skip
      refine va_newa (a0 := (x0.toNatClampNeg, .inr (.inl (fun _ => 0)))) hx hb (htb _ hlk) rfl hK hP hD hS hA (fun _ => rfl) hgd.1 rfl (by show x0.toNatClampNeg * 8 ≤ _; omega) (by omega) (by omega) hd (fun q cA1 H1 hK1 hP1 hD1 hS1 => ?_)
      have ec := cA_eq (k := 1) hK1 rfl
      subst ec
      have e2 : eW (va_up ad (len σ) q) cA (nw σ 21 x0.toNatClampNeg) (len σ) = (q, .inl (cA 21, (x0.toNatClampNeg, .inr (.inl (fun _ => 0))))) := by
        rw [eW_arr (t := 21) (by rw [nw_sh]) (by decide), up_s9, nw_sh]
        have hI : rL (nw σ 21 x0.toNatClampNeg) (len σ) = fun _ => 0 := funext fun _ => if_pos rfl
        unfold arrE
        rw [hI]; rfl
      rw [wW_new hWT e2] at hP1 hD1
      have e1 : trv (va_up ad (len σ) q) ex (vR (sS σ).length 21) = .ref q := by rw [trv_w (by omega)]; exact congrArg Value.ref up_s9
      have hk2 := hg (va_up ad (len σ) q) lsJ H1 locs ⟨hP1, hD1, hS1, (by rw [lvl_ag up_ag hTL]; exact hl), hn, hk9.1, hk9.2.1, hk9.2.2, (by rw [nw_len]; omega), (by rw [nw_slo]; omega), hX, (fun k hk => (up_ag k (Nat.lt_of_lt_of_le hk h0)).trans (hA0 k hk))⟩
      try simp only [aTag] at hk2
      rw [List.map_cons, e1, trv_ags up_ag (TS_t hTS), nw_len, nw_slo] at hk2
      exact W.cs (by omega) (by omega) hk2
    case boolean =>
      cases go_inv h
      rw [nw_len, nw_slo] at hroom
      rw [List.map_cons]
      skip
      refine va_newa (a0 := (x0.toNatClampNeg, .inl (fun _ => 0))) hx hb (htb _ hlk) rfl hK hP hD hS hA (fun _ => rfl) hgd.1 rfl (by show x0.toNatClampNeg * 1 ≤ _; omega) (by omega) (by omega) hd (fun q cA1 H1 hK1 hP1 hD1 hS1 => ?_)
      have ec := cA_eq (k := 2) hK1 rfl
      subst ec
      have e2 : eW (va_up ad (len σ) q) cA (nw σ 22 x0.toNatClampNeg) (len σ) = (q, .inl (cA 22, (x0.toNatClampNeg, .inl (fun _ => 0)))) := by
        rw [eW_arr (t := 22) (by rw [nw_sh]) (by decide), up_s9, nw_sh]
        have hI : rI (nw σ 22 x0.toNatClampNeg) (len σ) = fun _ => 0 := funext fun _ => if_pos rfl
        unfold arrE
        rw [hI]; rfl
      rw [wW_new hWT e2] at hP1 hD1
      have e1 : trv (va_up ad (len σ) q) ex (vR (sS σ).length 22) = .ref q := by rw [trv_w (by omega)]; exact congrArg Value.ref up_s9
      have hk2 := hg (va_up ad (len σ) q) lsJ H1 locs ⟨hP1, hD1, hS1, (by rw [lvl_ag up_ag hTL]; exact hl), hn, hk9.1, hk9.2.1, hk9.2.2, (by rw [nw_len]; omega), (by rw [nw_slo]; omega), hX, (fun k hk => (up_ag k (Nat.lt_of_lt_of_le hk h0)).trans (hA0 k hk))⟩
      try simp only [aTag] at hk2
      rw [List.map_cons, e1, trv_ags up_ag (TS_t hTS), nw_len, nw_slo] at hk2
      exact W.cs (by omega) (by omega) hk2
    case byte =>
      cases go_inv h
      rw [nw_len, nw_slo] at hroom
      rw [List.map_cons]
      skip
      refine va_newa (a0 := (x0.toNatClampNeg, .inl (fun _ => 0))) hx hb (htb _ hlk) rfl hK hP hD hS hA (fun _ => rfl) hgd.1 rfl (by show x0.toNatClampNeg * 1 ≤ _; omega) (by omega) (by omega) hd (fun q cA1 H1 hK1 hP1 hD1 hS1 => ?_)
      have ec := cA_eq (k := 3) hK1 rfl
      subst ec
      have e2 : eW (va_up ad (len σ) q) cA (nw σ 23 x0.toNatClampNeg) (len σ) = (q, .inl (cA 23, (x0.toNatClampNeg, .inl (fun _ => 0)))) := by
        rw [eW_arr (t := 23) (by rw [nw_sh]) (by decide), up_s9, nw_sh]
        have hI : rI (nw σ 23 x0.toNatClampNeg) (len σ) = fun _ => 0 := funext fun _ => if_pos rfl
        unfold arrE
        rw [hI]; rfl
      rw [wW_new hWT e2] at hP1 hD1
      have e1 : trv (va_up ad (len σ) q) ex (vR (sS σ).length 23) = .ref q := by rw [trv_w (by omega)]; exact congrArg Value.ref up_s9
      have hk2 := hg (va_up ad (len σ) q) lsJ H1 locs ⟨hP1, hD1, hS1, (by rw [lvl_ag up_ag hTL]; exact hl), hn, hk9.1, hk9.2.1, hk9.2.2, (by rw [nw_len]; omega), (by rw [nw_slo]; omega), hX, (fun k hk => (up_ag k (Nat.lt_of_lt_of_le hk h0)).trans (hA0 k hk))⟩
      try simp only [aTag] at hk2
      rw [List.map_cons, e1, trv_ags up_ag (TS_t hTS), nw_len, nw_slo] at hk2
      exact W.cs (by omega) (by omega) hk2
    all_goals (exact absurd hgd.2.2 (by decide))
set_option maxHeartbeats 1000000 in
theorem sm_anewarray {p : Program} {l : Launch} {e : Env} {R : Room} {s : State} {m : MethodId} {args : Array Value} {below : List Frame} {meth : Method} {c : Code} {Q : State → Prop} {M : Nat} {G : va_G} {cA : Nat → ClassId} {ex : Nat → Nat → Value} {X : Nat × (Nat → Int32)} {A : Nat → Prop} {nL n0 z0 : Nat} {ad0 : Nat → Nat} {E : Cal} {ret : Option FieldType} {i0 : Nat} {ln res pc pc' : Nat} {ls st ls' st' : List PV} {σ σ' : St}
    (C : Cx p s m args meth c M G cA ex X A nL) (hd : decode (mT M).2.1 pc = .ok ((.anewarray i0), 3)) (h : stI E ret (.anewarray i0) ln res pc ls st σ = some (Sum.inl (pc', ls', st', σ'))) (hlk : (res = 24 ∧ Jvm.Cond.classLink (mT M).1.cls i0 "FindingsWeb$Node" ∈ TBL) ∨ (res = 25 ∧ Jvm.Cond.classLink (mT M).1.cls i0 "FindingsWeb$Sheet" ∈ TBL)) (hroom : len σ' - n0 ≤ R.cells ∧ slo σ' - z0 ≤ R.slots) (hk9 : WT9 σ' ∧ TS σ' ls' ∧ TS σ' st')
    (hg : Good (fun H locs cells slots g => W p l e R s m args below meth c H locs cells slots Q g) m G cA ex X A s.heap n0 z0 nL ad0 pc' ls' st' σ') : Good (fun H locs cells slots g => W p l e R s m args below meth c H locs cells slots Q g) m G cA ex X A s.heap n0 z0 nL ad0 pc ls st σ := by
    intro ad lsJ H locs hr
    obtain ⟨hP, hD, hS, hl, hn, hWT, hTL, hTS, h0, h1, hX, hA0⟩ := hr
    obtain ⟨hx, hb, hml, hown, hnm, htb, hK, hE0, hNW, hA⟩ := C
    have hex := hE0.2.2.1
    unfold stI at h
    dsimp only at h
    obtain ⟨x0, r0, hn1, rfl⟩ := pI_inv h; replace h := hn1; clear hn1
    have hgd := (guard_inv h).1; replace h := (guard_inv h).2
    simp only [Bool.and_eq_true, Bool.not_eq_true', Bool.or_eq_true, Nat.beq_eq, decide_eq_false_iff_not, decide_eq_true_eq] at hgd
    obtain ⟨hg1, hg2, hg3⟩ := hgd
    cases go_inv h
    rw [nw_len, nw_slo] at hroom
    rw [List.map_cons]
    rcases hlk with ⟨rfl, hlk⟩ | ⟨rfl, hlk⟩
    · refine va_newq hx hb hown (htb _ hlk) hNW.2.1 hK hP hD hS hA hg1 rfl (by omega) (by omega) (by omega) hd (fun q cA1 H1 hK1 hP1 hD1 hS1 => ?_)
      have ec := cA_eq (k := 4) hK1 rfl
      subst ec
      have e2 : eW (va_up ad (len σ) q) cA (nw σ 24 x0.toNatClampNeg) (len σ) = (q, .inl (cA 24, (x0.toNatClampNeg, .inr (.inr (.inr (.inr (fun _ => none))))))) := by
        rw [eW_arr (t := 24) (by rw [nw_sh]) (by decide), up_s9, nw_sh]
        have hI : rR (nw σ 24 x0.toNatClampNeg) (len σ) = fun _ => none := funext fun _ => if_pos rfl
        unfold arrE
        rw [hI]; rfl
      rw [wW_new hWT e2] at hP1 hD1
      have e1 : trv (va_up ad (len σ) q) ex (vR (sS σ).length 24) = .ref q := by rw [trv_w (by omega)]; exact congrArg Value.ref up_s9
      have hk2 := hg (va_up ad (len σ) q) lsJ H1 locs ⟨hP1, hD1, hS1, (by rw [lvl_ag up_ag hTL]; exact hl), hn, hk9.1, hk9.2.1, hk9.2.2, (by rw [nw_len]; omega), (by rw [nw_slo]; omega), hX, (fun k hk => (up_ag k (Nat.lt_of_lt_of_le hk h0)).trans (hA0 k hk))⟩
      try simp only [aTag] at hk2
      rw [List.map_cons, e1, trv_ags up_ag (TS_t hTS), nw_len, nw_slo] at hk2
      exact W.cs (by omega) (by omega) hk2
    · refine va_newq hx hb hown (htb _ hlk) hNW.2.2.1 hK hP hD hS hA hg1 rfl (by omega) (by omega) (by omega) hd (fun q cA1 H1 hK1 hP1 hD1 hS1 => ?_)
      have ec := cA_eq (k := 5) hK1 rfl
      subst ec
      have e2 : eW (va_up ad (len σ) q) cA (nw σ 25 x0.toNatClampNeg) (len σ) = (q, .inl (cA 25, (x0.toNatClampNeg, .inr (.inr (.inr (.inr (fun _ => none))))))) := by
        rw [eW_arr (t := 25) (by rw [nw_sh]) (by decide), up_s9, nw_sh]
        have hI : rR (nw σ 25 x0.toNatClampNeg) (len σ) = fun _ => none := funext fun _ => if_pos rfl
        unfold arrE
        rw [hI]; rfl
      rw [wW_new hWT e2] at hP1 hD1
      have e1 : trv (va_up ad (len σ) q) ex (vR (sS σ).length 25) = .ref q := by rw [trv_w (by omega)]; exact congrArg Value.ref up_s9
      have hk2 := hg (va_up ad (len σ) q) lsJ H1 locs ⟨hP1, hD1, hS1, (by rw [lvl_ag up_ag hTL]; exact hl), hn, hk9.1, hk9.2.1, hk9.2.2, (by rw [nw_len]; omega), (by rw [nw_slo]; omega), hX, (fun k hk => (up_ag k (Nat.lt_of_lt_of_le hk h0)).trans (hA0 k hk))⟩
      try simp only [aTag] at hk2
      rw [List.map_cons, e1, trv_ags up_ag (TS_t hTS), nw_len, nw_slo] at hk2
      exact W.cs (by omega) (by omega) hk2
