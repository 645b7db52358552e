/-! ===== calls ===== -/
theorem rcv_inv {rt : Nat} {as : List PV} (h0 : 0 < rt) (h : rcv rt as = true) : ∃ k t as', as = vR k t :: as' ∧ t + 1 = rt := by
  unfold rcv at h
  rw [show rt.beq 0 = false from by rw [← Bool.not_eq_true, Nat.beq_eq]; omega, cond_false] at h
  split at h
  · rename_i k t as'
    exact ⟨k, t, as', rfl, Nat.eq_of_beq_eq_true h⟩
  · cases h
theorem notMH_f {y : MethodName} {n : Nat} (h : notMH y n = true) : y.cls ≠ "java/lang/invoke/MethodHandle" ∧ y.cls ≠ "java/lang/invoke/VarHandle" ∧ (parseMethodDescriptor y.desc).map (fun d => d.parameters.length) = some n := by
  unfold notMH at h
  simp only [Bool.and_eq_true, decide_eq_true_eq] at h
  exact h
theorem mOK_f {M : Nat} (h : mOK M = true) : (tab M).2.2 ≤ 40 ∧ plainName (mT M).1.cls = true ∧ Jvm.Cond.code (mT M).1 (mT M).2.1 (tab M).2.2 (tab M).2.1 ∈ TBL ∧ Jvm.Cond.initialized (mT M).1.cls ∈ TBL := by
  unfold mOK at h
  simp only [Bool.and_eq_true, Nat.ble_eq] at h
  exact ⟨h.1, h.2.1, TBL_of h.2.2.1, TBL_of h.2.2.2.1⟩
theorem mOK_r {M : Nat} (h : mOK M = true) : isRf (tab M).2.1 = true ∨ ∀ e, e ∈ (tab M).1 → isAr e.1 = false := by
  unfold mOK at h
  rw [Bool.and_eq_true, Bool.and_eq_true, Bool.and_eq_true, Bool.and_eq_true, Bool.or_eq_true] at h
  rcases h.2.2.2.2 with q | q
  · exact Or.inl q
  · exact Or.inr (fun e he => by have := List.all_eq_true.mp q e he; rw [Bool.not_eq_true'] at this; exact this)
theorem w_sup : wAt 315 (.superclass "java/lang/StringBuilder" "java/lang/AbstractStringBuilder") = true := by decide +kernel
theorem sbu_at : ∃ T N, vwCl[0]? = some ("java/lang/StringBuilder", T, N) := ⟨_, _, rfl⟩
theorem opt_map {r : Option PV} {f : PV → Value} {l : List PV} : (r.toList ++ l).map f = (r.map f).toList ++ l.map f := by
  cases r <;> rfl
theorem call_fin {p : Program} {l : Launch} {e : Env} {R : Room} {s : State} {m : MethodId} {args as0 : Array Value} {below : List Frame} {meth : Method} {c : Code} {Q : State → Prop} {G : va_G} {cA : Nat → ClassId} {ex : Nat → Nat → Value} {X : Nat × (Nat → Int32)} {A : Nat → Prop} {nL n0 z0 pc : Nat} {ad0 ad : Nat → Nat} {ls st rest : List PV} {st0 : List Value} {σ σ' : St} {r : Option PV} {lsJ : Array Slot} {H : Heap} {locs : List Loc}
    (hA : ∀ q, s.heap.size ≤ q → A q) (hr : RS G cA ex X A s.heap n0 z0 nL ad0 ad σ ls st lsJ H locs) (hst : TS σ rest) (hk9 : WT9 σ' ∧ TS σ' ls ∧ TS σ' (r.toList ++ rest) ∧ Gr σ σ')
    (hrun : va_Run p l e R s m args below meth c H locs (len σ - n0) (slo σ - z0) (len σ' - len σ) (slo σ' - slo σ) (F0 m pc lsJ st0) (rest.map (trv ad ex)) (CPost G cA ex ad σ H.size r σ' as0) (va_A (wW ad cA σ) H.size))
    (hg : Good (fun H locs cells slots g => W p l e R s m args below meth c H locs cells slots Q g) m G cA ex X A s.heap n0 z0 nL ad0 (pc + 3) ls (r.toList ++ rest) σ') : W p l e R s m args below meth c H locs (len σ - n0) (slo σ - z0) Q (F0 m pc lsJ st0) := by
  refine va_callG hrun (fun v st₀ t H1 L e0 e1 hq hL => ?_)
  obtain ⟨ad', ha, hv, hP1, hD1, hF1⟩ := hq
  have hv : v = r.map (trv ad' ex) := Outcome.returned.inj hv
  subst hv
  have hg2 := hg ad' lsJ H1 (locs ++ L) (RS_back hA hr hk9 e0 e1 ha hP1 hD1 hF1 hL)
  rw [opt_map, trv_ags ha hst] at hg2
  have g1 := Gr_len hk9.2.2.2
  have g2 := Gr_slo hk9.2.2.2
  obtain ⟨-, -, -, -, -, -, -, -, c0, c1, -, -⟩ := hr
  exact W.cs (by omega) (by omega) hg2
set_option maxHeartbeats 1000000 in
theorem sm_invokevirtual {p : Program} {l : Launch} {e : Env} {R : Room} {s : State} {m : MethodId} {args : Array Value} {below : List Frame} {meth : Method} {c : Code} {Q : State → Prop} {M : Nat} {G : va_G} {cA : Nat → ClassId} {ex : Nat → Nat → Value} {X : Nat × (Nat → Int32)} {A : Nat → Prop} {nL n0 z0 : Nat} {ad0 : Nat → Nat} {E : Cal} {ret : Option FieldType} {i0 : Nat} {ln res pc pc' pos d : Nat} {ls st ls' st' : List PV} {σ σ' : St}
    (C : Cx p s m args meth c M G cA ex X A nL) (hd : decode (mT M).2.1 pc = .ok ((.invokevirtual i0), 3)) (h : stI E ret (.invokevirtual i0) ln res pc ls st σ = some (Sum.inl (pc', ls', st', σ'))) (hcal : calOK 1 (mT M).1.cls i0 res pos = true)  (hmc : mOK (res % 1024) = true) (hE : ∀ as rest r σ1, st = as.reverse ++ rest → E (res % 1024) as σ = some (r, σ1) → Ctr l d (res % 1024) as σ r σ1) (hR : d + 2 ≤ R.frames ∧ 100 * (d + 2) ≤ R.locals) (hroom : len σ' - n0 ≤ R.cells ∧ slo σ' - z0 ≤ R.slots) (hk9 : WT9 σ' ∧ TS σ' ls' ∧ TS σ' st' ∧ Gr σ σ')
    (hg : Good (fun H locs cells slots g => W p l e R s m args below meth c H locs cells slots Q g) m G cA ex X A s.heap n0 z0 nL ad0 pc' ls' st' σ') : Good (fun H locs cells slots g => W p l e R s m args below meth c H locs cells slots Q g) m G cA ex X A s.heap n0 z0 nL ad0 pc ls st σ := by
    intro ad lsJ H locs hr
    obtain ⟨hP, hD, hS, hl, hn, hWT, hTL, hTS, h0, h1, hX, hA0⟩ := hr
    obtain ⟨hx, hb, hml, hown, hnm, htb, hK, hE0, hNW, hA⟩ := C
    have hex := hE0.2.2.1
    unfold stI at h
    dsimp only at h
    have hr0 : RS G cA ex X A s.heap n0 z0 nL ad0 ad σ ls st lsJ H locs := ⟨hP, hD, hS, hl, hn, hWT, hTL, hTS, h0, h1, hX, hA0⟩
    obtain ⟨as, rest, rfl, hlen, hcat, hrcv, r, σ1, hc, hy⟩ := callN_inv h
    cases hy
    have hM := hE _ rest _ _ rfl hc G cA ex X ad H.size hX
    obtain ⟨hmx, hpl, hcode, hini⟩ := mOK_f hmc
    have hTr : TS σ rest := fun v hv => hTS v (List.mem_append_right _ hv)
    have hF := hF_of hD hS hA
    have g1 := Gr_len hk9.2.2.2
    have g2 := Gr_slo hk9.2.2.2
    have hrm : len σ - n0 + (len σ' - len σ) ≤ R.cells ∧ slo σ - z0 + (slo σ' - slo σ) ≤ R.slots := ⟨by omega, by omega⟩
    have hsum : ((rest.map (trv ad ex)).map fun v => v.category).sum ≤ 8 := by rw [trv_sum hex]; exact hcat
    have hro : (rmD d (len σ' - len σ) (slo σ' - slo σ)).frames + 1 ≤ R.frames ∧ 8 + ((tab (res % 1024)).2.2 + 11) + (rmD d (len σ' - len σ) (slo σ' - slo σ)).locals ≤ R.locals := ⟨hR.1, by show 8 + ((tab (res % 1024)).2.2 + 11) + 100 * (d + 1) ≤ R.locals; have := hR.2; omega⟩
    unfold calOK at hcal
    simp only [show (1 : Nat).beq 0 = false from rfl, show (1 : Nat).beq 1 = true from rfl, cond_false, cond_true, Bool.and_eq_true, Bool.or_eq_true] at hcal
    obtain ⟨c0, c1, c2, c3, c4, c5⟩ := hcal
    have c0 := Nat.le_of_ble_eq_true c0
    have c1 := Nat.le_of_ble_eq_true c1
    obtain ⟨k, t, as1, rfl, htk⟩ := rcv_inv c0 hrcv
    have hlen1 : (as1.map (trv ad ex)).length = res / 1024 % 64 - 1 := by rw [List.length_map]; simp at hlen; omega
    have hstk : ∀ {v : Nat}, trv ad ex (vR k t) = .ref v → ((vR k t :: as1).reverse ++ rest).map (trv ad ex) = (as1.map (trv ad ex)).reverse ++ .ref v :: rest.map (trv ad ex) := fun ek => by
      rw [List.map_append, List.map_reverse, List.map_cons, ek, List.reverse_cons, List.append_assoc]; rfl
    rcases c5 with ⟨c6, c5⟩ | ⟨hrt, hcl, c5, c6⟩ | ⟨hrt, hcl, c5⟩
    · unfold nmK at c6
      split at c6
      · rename_i K T N hcv
        have c6 := of_decide_eq_true c6
        obtain ⟨c10, hN, hin, -, hiniC⟩ := cls_facts hcv
        have e9 : res / 65536 - 1 = t := by omega
        rw [e9] at hcv c10
        have hw : k < len σ ∧ (sh σ k).1 = t := (show t < 40 → k < len σ ∧ (sh σ k).1 = t from hTS _ (List.mem_append_left _ (List.mem_reverse.mpr List.mem_cons_self))) (by omega)
        have he := wW_at (ad := ad) (cA := cA) hw.1
        rw [eW_obj hw.2 (by omega)] at he
        have ek : trv ad ex (vR k t) = .ref (ad k) := trv_w (by omega)
        have hgood : GoodIn TBL (wsV (mT M).1.cls i0 K (mT (res % 1024)).1 (mW (res % 1024))) := tbl_ins hcode (fun w hw => by
          simp only [List.mem_cons, List.not_mem_nil, or_false] at hw
          rcases hw with rfl | rfl | rfl | rfl
          · exact TBL_of c3
          · exact TBL_of c4
          · rw [← c6]; exact TBL_of c5
          · exact hiniC)
        refine call_fin hA hr0 hTr hk9 (va_runV (As := as1.map (trv ad ex)) (b := ad k) (C := K) (nL := nL) ⟨hx, hb, hml, hown, htb⟩ hM (cwV _ htb hgood rfl rfl rfl ⟨c6, notMH_f c2⟩ hro) ⟨CPre_blind, va_recv hK hP hcv he, fun U hU hW => ?_⟩ rfl hlen1 hl.1 (hstk ek) (lv_room hsum) hd hrm) hg
        have := CPre_of (as := vR k t :: as1) hP hD hS hK hE0 hNW hF U hU hW
        rw [List.map_cons, ek] at this; exact this
      · cases c6
    · have hrt := Nat.eq_of_beq_eq_true hrt
      have hcl := of_decide_eq_true hcl
      have ht0 : t = 0 := by omega
      subst ht0
      obtain ⟨T, N, hcv⟩ := sbu_at
      have hw : k < len σ ∧ (sh σ k).1 = 0 := (show 0 < 40 → k < len σ ∧ (sh σ k).1 = 0 from hTS _ (List.mem_append_left _ (List.mem_reverse.mpr List.mem_cons_self))) (by decide)
      have he := wW_at (ad := ad) (cA := cA) hw.1
      rw [eW_obj hw.2 (by decide)] at he
      have ek : trv ad ex (vR k 0) = .ref (ad k) := trv_w (by decide)
      have hgood : GoodIn TBL (va_wsU (mT M).1.cls i0 "java/lang/StringBuilder" (mT (res % 1024)).1.cls (mT (res % 1024)).1 (mT (res % 1024)).1 (mW (res % 1024))) := tbl_ins hcode (fun w hw => by
        simp only [List.mem_cons, List.not_mem_nil, or_false] at hw
        rcases hw with rfl | rfl | rfl | rfl | rfl
        · exact TBL_of c3
        · exact TBL_of c6
        · exact TBL_ofS c5
        · exact TBL_of c4
        · exact hini)
      refine call_fin hA hr0 hTr hk9 (va_runU (As := as1.map (trv ad ex)) (b := ad k) (C := "java/lang/StringBuilder") (owner := (mT (res % 1024)).1.cls) (nL := nL) ⟨hx, hb, hml, hown, htb⟩ hM (va_cwU _ htb hgood rfl rfl rfl rfl (notMH_f c2) hro) ⟨CPre_blind, va_recv hK hP hcv he, fun U hU hW => ?_⟩ rfl hlen1 hl.1 (hstk ek) (lv_room hsum) hd hrm) hg
      have := CPre_of (as := vR k 0 :: as1) hP hD hS hK hE0 hNW hF U hU hW
      rw [List.map_cons, ek] at this; exact this
    · have hrt := Nat.eq_of_beq_eq_true hrt
      have hcl := of_decide_eq_true hcl
      have ht0 : t = 46 := by omega
      subst ht0
      obtain ⟨q, v, hq, -, hO, -⟩ := hE0.2.2.2.1 k
      have ek : trv ad ex (vR k 46) = .ref q := hq
      obtain ⟨cell, o1, o2, o3, -⟩ := hO.kept hS.2.1
      have hgood : GoodIn TBL (wsV (mT M).1.cls i0 "java/lang/String" (mT (res % 1024)).1 (mW (res % 1024))) := tbl_ins hcode (fun w hw => by
        simp only [List.mem_cons, List.not_mem_nil, or_false] at hw
        rcases hw with rfl | rfl | rfl | rfl
        · exact TBL_of c3
        · exact TBL_of c4
        · rw [← hcl]; exact TBL_of c5
        · rw [← hcl]; exact hini)
      refine call_fin hA hr0 hTr hk9 (va_runV (As := as1.map (trv ad ex)) (b := q) (C := "java/lang/String") (nL := nL) ⟨hx, hb, hml, hown, htb⟩ hM (cwV _ htb hgood rfl rfl rfl ⟨hcl, notMH_f c2⟩ hro) ⟨CPre_blind, ⟨cell, o1, o2, o3⟩, fun U hU hW => ?_⟩ rfl hlen1 hl.1 (hstk ek) (lv_room hsum) hd hrm) hg
      have := CPre_of (as := vR k 46 :: as1) hP hD hS hK hE0 hNW hF U hU hW
      rw [List.map_cons, ek] at this; exact this
set_option maxHeartbeats 1000000 in
theorem sm_invokestatic {p : Program} {l : Launch} {e : Env} {R : Room} {s : State} {m : MethodId} {args : Array Value} {below : List Frame} {meth : Method} {c : Code} {Q : State → Prop} {M : Nat} {G : va_G} {cA : Nat → ClassId} {ex : Nat → Nat → Value} {X : Nat × (Nat → Int32)} {A : Nat → Prop} {nL n0 z0 : Nat} {ad0 : Nat → Nat} {E : Cal} {ret : Option FieldType} {i0 : Nat} {ln res pc pc' pos d : Nat} {ls st ls' st' : List PV} {σ σ' : St}
    (C : Cx p s m args meth c M G cA ex X A nL) (hd : decode (mT M).2.1 pc = .ok ((.invokestatic i0), 3)) (h : stI E ret (.invokestatic i0) ln res pc ls st σ = some (Sum.inl (pc', ls', st', σ'))) (hna : isP res = false) (hcal : calOK 0 (mT M).1.cls i0 res pos = true)  (hmc : mOK (res % 1024) = true) (hE : ∀ as rest r σ1, st = as.reverse ++ rest → E (res % 1024) as σ = some (r, σ1) → Ctr l d (res % 1024) as σ r σ1) (hR : d + 2 ≤ R.frames ∧ 100 * (d + 2) ≤ R.locals) (hroom : len σ' - n0 ≤ R.cells ∧ slo σ' - z0 ≤ R.slots) (hk9 : WT9 σ' ∧ TS σ' ls' ∧ TS σ' st' ∧ Gr σ σ')
    (hg : Good (fun H locs cells slots g => W p l e R s m args below meth c H locs cells slots Q g) m G cA ex X A s.heap n0 z0 nL ad0 pc' ls' st' σ') : Good (fun H locs cells slots g => W p l e R s m args below meth c H locs cells slots Q g) m G cA ex X A s.heap n0 z0 nL ad0 pc ls st σ := by
    intro ad lsJ H locs hr
    obtain ⟨hP, hD, hS, hl, hn, hWT, hTL, hTS, h0, h1, hX, hA0⟩ := hr
    obtain ⟨hx, hb, hml, hown, hnm, htb, hK, hE0, hNW, hA⟩ := C
    have hex := hE0.2.2.1
    unfold stI at h
    dsimp only at h
    have hr0 : RS G cA ex X A s.heap n0 z0 nL ad0 ad σ ls st lsJ H locs := ⟨hP, hD, hS, hl, hn, hWT, hTL, hTS, h0, h1, hX, hA0⟩
    rw [hna, cond_false] at h
    obtain ⟨as, rest, rfl, hlen, hcat, hrcv, r, σ1, hc, hy⟩ := callN_inv h
    cases hy
    have hM := hE _ rest _ _ rfl hc G cA ex X ad H.size hX
    obtain ⟨hmx, hpl, hcode, hini⟩ := mOK_f hmc
    have hTr : TS σ rest := fun v hv => hTS v (List.mem_append_right _ hv)
    have hF := hF_of hD hS hA
    have g1 := Gr_len hk9.2.2.2
    have g2 := Gr_slo hk9.2.2.2
    have hrm : len σ - n0 + (len σ' - len σ) ≤ R.cells ∧ slo σ - z0 + (slo σ' - slo σ) ≤ R.slots := ⟨by omega, by omega⟩
    have hsum : ((rest.map (trv ad ex)).map fun v => v.category).sum ≤ 8 := by rw [trv_sum hex]; exact hcat
    have hro : (rmD d (len σ' - len σ) (slo σ' - slo σ)).frames + 1 ≤ R.frames ∧ 8 + ((tab (res % 1024)).2.2 + 11) + (rmD d (len σ' - len σ) (slo σ' - slo σ)).locals ≤ R.locals := ⟨hR.1, by show 8 + ((tab (res % 1024)).2.2 + 11) + 100 * (d + 1) ≤ R.locals; have := hR.2; omega⟩
    unfold calOK at hcal
    simp only [show (0 : Nat).beq 0 = true from rfl, cond_true, Bool.and_eq_true] at hcal
    obtain ⟨c0, c1, c2, c3⟩ := hcal
    have hgood : GoodIn TBL (va_wsS (mT M).1.cls i0 (mT (res % 1024)).1 (mW (res % 1024))) := tbl_ins hcode (fun w hw => by
      simp only [List.mem_cons, List.not_mem_nil, or_false] at hw
      rcases hw with rfl | rfl | rfl
      · exact TBL_of c2
      · exact TBL_of c3
      · exact hini)
    refine call_fin hA hr0 hTr hk9 (va_runS (As := as.map (trv ad ex)) (nL := nL) ⟨hx, hb, hml, hown, htb⟩ hM (va_cwS _ htb hgood rfl rfl rfl (notMH_f c1) hro) ⟨CPre_blind, fun U hU hW => CPre_of hP hD hS hK hE0 hNW hF U hU hW⟩ rfl (by rw [List.length_map]; exact hlen) hl.1 ?_ (lv_room hsum) hd hrm) hg
    show (_ : List PV).map (trv ad ex) = _
    rw [List.map_append, List.map_reverse]
set_option maxHeartbeats 1000000 in
theorem sm_invokespecial {p : Program} {l : Launch} {e : Env} {R : Room} {s : State} {m : MethodId} {args : Array Value} {below : List Frame} {meth : Method} {c : Code} {Q : State → Prop} {M : Nat} {G : va_G} {cA : Nat → ClassId} {ex : Nat → Nat → Value} {X : Nat × (Nat → Int32)} {A : Nat → Prop} {nL n0 z0 : Nat} {ad0 : Nat → Nat} {E : Cal} {ret : Option FieldType} {i0 : Nat} {ln res pc pc' pos d : Nat} {ls st ls' st' : List PV} {σ σ' : St}
    (C : Cx p s m args meth c M G cA ex X A nL) (hd : decode (mT M).2.1 pc = .ok ((.invokespecial i0), 3)) (h : stI E ret (.invokespecial i0) ln res pc ls st σ = some (Sum.inl (pc', ls', st', σ'))) (hna : res.beq 1000 = false) (hcal : calOK 2 (mT M).1.cls i0 res pos = true)  (hmc : mOK (res % 1024) = true) (hE : ∀ as rest r σ1, st = as.reverse ++ rest → E (res % 1024) as σ = some (r, σ1) → Ctr l d (res % 1024) as σ r σ1) (hR : d + 2 ≤ R.frames ∧ 100 * (d + 2) ≤ R.locals) (hroom : len σ' - n0 ≤ R.cells ∧ slo σ' - z0 ≤ R.slots) (hk9 : WT9 σ' ∧ TS σ' ls' ∧ TS σ' st' ∧ Gr σ σ')
    (hg : Good (fun H locs cells slots g => W p l e R s m args below meth c H locs cells slots Q g) m G cA ex X A s.heap n0 z0 nL ad0 pc' ls' st' σ') : Good (fun H locs cells slots g => W p l e R s m args below meth c H locs cells slots Q g) m G cA ex X A s.heap n0 z0 nL ad0 pc ls st σ := by
    intro ad lsJ H locs hr
    obtain ⟨hP, hD, hS, hl, hn, hWT, hTL, hTS, h0, h1, hX, hA0⟩ := hr
    obtain ⟨hx, hb, hml, hown, hnm, htb, hK, hE0, hNW, hA⟩ := C
    have hex := hE0.2.2.1
    unfold stI at h
    dsimp only at h
    have hr0 : RS G cA ex X A s.heap n0 z0 nL ad0 ad σ ls st lsJ H locs := ⟨hP, hD, hS, hl, hn, hWT, hTL, hTS, h0, h1, hX, hA0⟩
    rw [hna, cond_false] at h
    obtain ⟨as, rest, rfl, hlen, hcat, hrcv, r, σ1, hc, hy⟩ := callN_inv h
    cases hy
    have hM := hE _ rest _ _ rfl hc G cA ex X ad H.size hX
    obtain ⟨hmx, hpl, hcode, hini⟩ := mOK_f hmc
    have hTr : TS σ rest := fun v hv => hTS v (List.mem_append_right _ hv)
    have hF := hF_of hD hS hA
    have g1 := Gr_len hk9.2.2.2
    have g2 := Gr_slo hk9.2.2.2
    have hrm : len σ - n0 + (len σ' - len σ) ≤ R.cells ∧ slo σ - z0 + (slo σ' - slo σ) ≤ R.slots := ⟨by omega, by omega⟩
    have hsum : ((rest.map (trv ad ex)).map fun v => v.category).sum ≤ 8 := by rw [trv_sum hex]; exact hcat
    have hro : (rmD d (len σ' - len σ) (slo σ' - slo σ)).frames + 1 ≤ R.frames ∧ 8 + ((tab (res % 1024)).2.2 + 11) + (rmD d (len σ' - len σ) (slo σ' - slo σ)).locals ≤ R.locals := ⟨hR.1, by show 8 + ((tab (res % 1024)).2.2 + 11) + 100 * (d + 1) ≤ R.locals; have := hR.2; omega⟩
    unfold calOK at hcal
    simp only [show (2 : Nat).beq 0 = false from rfl, show (2 : Nat).beq 1 = false from rfl, cond_false, Bool.and_eq_true, Bool.or_eq_true] at hcal
    obtain ⟨⟨c0, ht40⟩, c1, c2, c3⟩ := hcal
    have ht40 := Nat.le_of_ble_eq_true ht40
    have c0 := Nat.le_of_ble_eq_true c0
    have c1 := Nat.le_of_ble_eq_true c1
    obtain ⟨k, t, as1, rfl, htk⟩ := rcv_inv c0 hrcv
    have hlen1 : (as1.map (trv ad ex)).length = res / 1024 % 64 - 1 := by rw [List.length_map]; simp at hlen; omega
    have ek : trv ad ex (vR k t) = .ref (ad k) := trv_w (by have := ht40; omega)
    have hcp : ∀ U : State, U.heap = H → s.WarmedH U.vm → CPre G cA ex X ad σ (vR k t :: as1) H.size (.ref (ad k) :: as1.map (trv ad ex)).toArray U := fun U hU hW => by
        have := CPre_of (as := vR k t :: as1) hP hD hS hK hE0 hNW hF U hU hW
        rw [List.map_cons, ek] at this; exact this
    have hstk : ((vR k t :: as1).reverse ++ rest).map (trv ad ex) = (as1.map (trv ad ex)).reverse ++ .ref (ad k) :: rest.map (trv ad ex) := by
      rw [List.map_append, List.map_reverse, List.map_cons, ek, List.reverse_cons, List.append_assoc]; rfl
    rcases c3 with ⟨c3, c4, c5, c6⟩ | ⟨hrt, c3, c4, c5, c6, hcl, c7⟩
    · have c5 := of_decide_eq_true c5
      have c6 : (tab (res % 1024)).2.1 = none := of_decide_eq_true c6
      have hpre : PreS s H (CPre G cA ex X ad σ (vR k t :: as1) H.size) (.ref (ad k) :: as1.map (trv ad ex)) := ⟨CPre_blind, hcp⟩
      have hw0 : mW (res % 1024) = .code (mT (res % 1024)).1 (mT (res % 1024)).2.1 (tab (res % 1024)).2.2 none :: TBL := by unfold mW; rw [c6]
      rcases c3 with c3 | c3
      · exact call_fin hA hr0 hTr hk9 (va_runI (As := as1.map (trv ad ex)) (b := ad k) (nL := nL) ⟨hx, hb, hml, hown, htb⟩ hM (cwI _ htb (tbl_in hcode) hw0 rfl rfl (htb _ hini) (htb _ (TBL_of c3)) (htb _ (TBL_of c4)) c5 (notMH_f c2) hro) hpre rfl hlen1 hl.1 hstk (lv_room hsum) hd hrm) hg
      · exact call_fin hA hr0 hTr hk9 (va_runIN (As := as1.map (trv ad ex)) (b := ad k) (nL := nL) (host := "FindingsWeb") ⟨hx, hb, hml, hown, htb⟩ hM ⟨va_cnB _ htb (tbl_in hcode) hw0 rfl rfl (hNW.1 _ (of_decide_eq_true c3)) (htb _ hini) (notMH_f c2) hro, c5, htb _ (TBL_of c4)⟩ hpre rfl hlen1 hl.1 hstk (lv_room hsum) hd hrm) hg
    · have hrt := Nat.eq_of_beq_eq_true hrt
      have hcl := of_decide_eq_true hcl
      have c6 := of_decide_eq_true c6
      have c5 := of_decide_eq_true c5
      have ht0 : t = 0 := by omega
      subst ht0
      obtain ⟨T, N, hcv⟩ := sbu_at
      have hw : k < len σ ∧ (sh σ k).1 = 0 := (show 0 < 40 → k < len σ ∧ (sh σ k).1 = 0 from hTS _ (List.mem_append_left _ (List.mem_reverse.mpr List.mem_cons_self))) (by decide)
      have he := wW_at (ad := ad) (cA := cA) hw.1
      rw [eW_obj hw.2 (by decide)] at he
      have hgood : GoodIn TBL (va_wsSU (mT M).1.cls i0 (mT (res % 1024)).1 (mW (res % 1024))) := tbl_ins hcode (fun w hw => by
        simp only [List.mem_cons, List.not_mem_nil, or_false] at hw
        rcases hw with rfl | rfl | rfl | rfl | rfl
        · exact TBL_of c3
        · exact TBL_of c7
        · rw [c6, hcl]; exact TBL_of w_sup
        · exact TBL_of c4
        · exact hini)
      exact call_fin hA hr0 hTr hk9 (va_runSU (As := as1.map (trv ad ex)) (b := ad k) (C := "java/lang/StringBuilder") (nL := nL) (hK.1 0 _ hcv).2 ⟨hx, hb, hml, hown, htb⟩ hM (va_cwSU _ htb hgood rfl rfl rfl ⟨c5, (notMH_f c2).2.2⟩ hro) ⟨CPre_blind, va_recv hK hP hcv he, hcp⟩ rfl hlen1 hl.1 hstk (lv_room hsum) hd hrm) hg
