-- memory (by program: wip/whole/gen12.py)
set_option maxHeartbeats 1000000 in
theorem sm_getfield {p : Program} {l : Launch} {e : Env} {R : Room} {s : State} {m : MethodId} {args : Array Value} {below : List Frame} {meth : Method} {c : Code} {Q : State → Prop} {M : Nat} {G : va_G} {cA : Nat → ClassId} {ex : Nat → Nat → Value} {X : Nat × (Nat → Int32)} {A : Nat → Prop} {nL n0 z0 : Nat} {ad0 : Nat → Nat} {E : Cal} {ret : Option FieldType} {i0 : Nat} {ln res pc pc' : Nat} {ls st ls' st' : List PV} {σ σ' : St}
    (C : Cx p s m args meth c M G cA ex X A nL) (hd : decode (mT M).2.1 pc = .ok ((.getfield i0), 3)) (h : stI E ret (.getfield i0) ln res pc ls st σ = some (Sum.inl (pc', ls', st', σ'))) {pos : Nat} (hf : fldOK (mT M).1.cls i0 res pos = true) (hk9 : TS σ' st')
    (hg : Good (fun H locs cells slots g => W p l e R s m args below meth c H locs cells slots Q g) m G cA ex X A s.heap n0 z0 nL ad0 pc' ls' st' σ') : Good (fun H locs cells slots g => W p l e R s m args below meth c H locs cells slots Q g) m G cA ex X A s.heap n0 z0 nL ad0 pc ls st σ := by
    intro ad lsJ H locs hr
    obtain ⟨hP, hD, hS, hl, hn, hWT, hTL, hTS, h0, h1, hX, hA0⟩ := hr
    obtain ⟨hx, hb, hml, hown, hnm, htb, hK, hE0, hNW, hA⟩ := C
    have hex := hE0.2.2.1
    unfold stI at h
    dsimp only at h
    obtain ⟨a0, t0, r0, hn1, rfl⟩ := pR_inv h; replace h := hn1; clear hn1
    have hgd := (guard_inv h).1; replace h := (guard_inv h).2
    have ht := Nat.eq_of_beq_eq_true hgd
    obtain ⟨K, T, N, hc, hk, hlk⟩ := fld_facts hf
    obtain ⟨c10, hN, hin, -, -⟩ := cls_facts hc
    have e46 : t0.beq 46 = false := by rw [← Bool.not_eq_true, Nat.beq_eq]; omega
    rw [e46, cond_false] at h
    have hw : a0 < len σ ∧ (sh σ a0).1 = t0 := (show t0 < 40 → a0 < len σ ∧ (sh σ a0).1 = t0 from TS_h hTS) (by omega)
    have he := wW_at (ad := ad) (cA := cA) hw.1
    rw [eW_obj hw.2 (by omega)] at he
    rw [← ht] at hc hN
    have hv := fs_at (ad := ad) (σ := σ) (k := a0) (c := t0) (f := res % 64) (by rw [← hN]; exact hk)
    rw [← ht] at h
    rw [List.map_cons, trv_w (show t0 < 40 by omega)]
    rcases getF_inv h with ⟨hf1, h⟩ | ⟨hf1, h⟩ | ⟨hf1, hf2, h⟩
    · have hv1 : fval ad σ a0 t0 (res % 64) = .long (rL σ a0 (res % 64)) := by unfold fval; rw [hf1]; rfl
      rw [hv1] at hv
      cases go_inv h
      exact va_get hx hb htb hin hown hK hP a0 he hc (res % 64) hk (htb _ hlk) (fun _ q => q) hv hd (hg ad lsJ H locs ⟨hP, hD, hS, hl, hn, hWT, hTL, TS_c wtL (TS_t hTS), h0, h1, hX, hA0⟩)
    · have hv1 : fval ad σ a0 t0 (res % 64) = va_rf ((rR σ a0 (res % 64)).map ad) := by
        unfold fval
        rw [show (ft t0 (res % 64)).beq 1 = false from by rw [← Bool.not_eq_true, Nat.beq_eq]; omega, show Nat.ble 100 (ft t0 (res % 64)) = true from Nat.ble_eq.mpr hf1]; rfl
      rw [hv1] at hv
      cases go_inv h
      have hk2 := hg ad lsJ H locs ⟨hP, hD, hS, hl, hn, hWT, hTL, hk9, h0, h1, hX, hA0⟩
      rw [List.map_cons, trv_O (ft_tag _ _)] at hk2
      exact va_get hx hb htb hin hown hK hP a0 he hc (res % 64) hk (htb _ hlk) (fun _ q => q) hv hd hk2
    · have hv1 : fval ad σ a0 t0 (res % 64) = .int (rI σ a0 (res % 64)) := by
        unfold fval
        rw [show (ft t0 (res % 64)).beq 1 = false from by rw [← Bool.not_eq_true, Nat.beq_eq]; exact hf2, show Nat.ble 100 (ft t0 (res % 64)) = false from by rw [← Bool.not_eq_true, Nat.ble_eq]; omega]; rfl
      rw [hv1] at hv
      cases go_inv h
      exact va_get hx hb htb hin hown hK hP a0 he hc (res % 64) hk (htb _ hlk) (fun _ q => q) hv hd (hg ad lsJ H locs ⟨hP, hD, hS, hl, hn, hWT, hTL, TS_c wtI (TS_t hTS), h0, h1, hX, hA0⟩)
set_option maxHeartbeats 1000000 in
theorem sm_getfS {p : Program} {l : Launch} {e : Env} {R : Room} {s : State} {m : MethodId} {args : Array Value} {below : List Frame} {meth : Method} {c : Code} {Q : State → Prop} {M : Nat} {G : va_G} {cA : Nat → ClassId} {ex : Nat → Nat → Value} {X : Nat × (Nat → Int32)} {A : Nat → Prop} {nL n0 z0 : Nat} {ad0 : Nat → Nat} {E : Cal} {ret : Option FieldType} {i0 : Nat} {ln res pc pc' : Nat} {ls st ls' st' : List PV} {σ σ' : St}
    (C : Cx p s m args meth c M G cA ex X A nL) (hd : decode (mT M).2.1 pc = .ok ((.getfield i0), 3)) (h : stI E ret (.getfield i0) ln res pc ls st σ = some (Sum.inl (pc', ls', st', σ'))) (h46 : (res / 64).beq 46 = true) (hf : ((res % 64).beq 0 = true ∧ Jvm.Cond.fieldLink (mT M).1.cls i0 "java/lang/String" "value" "[B" ∈ TBL) ∨ ((res % 64).beq 1 = true ∧ Jvm.Cond.fieldLink (mT M).1.cls i0 "java/lang/String" "coder" "B" ∈ TBL))
    (hg : Good (fun H locs cells slots g => W p l e R s m args below meth c H locs cells slots Q g) m G cA ex X A s.heap n0 z0 nL ad0 pc' ls' st' σ') : Good (fun H locs cells slots g => W p l e R s m args below meth c H locs cells slots Q g) m G cA ex X A s.heap n0 z0 nL ad0 pc ls st σ := by
    intro ad lsJ H locs hr
    obtain ⟨hP, hD, hS, hl, hn, hWT, hTL, hTS, h0, h1, hX, hA0⟩ := hr
    obtain ⟨hx, hb, hml, hown, hnm, htb, hK, hE0, hNW, hA⟩ := C
    have hex := hE0.2.2.1
    obtain ⟨htx, -⟩ := hE0.2.2.2
    unfold stI at h
    dsimp only at h
    obtain ⟨a0, t0, r0, hn1, rfl⟩ := pR_inv h; replace h := hn1; clear hn1
    have hgd := (guard_inv h).1; replace h := (guard_inv h).2
    have ht := Nat.eq_of_beq_eq_true hgd
    have hr9 := Nat.eq_of_beq_eq_true h46
    have e46 : t0 = 46 := by omega
    subst e46
    rw [show (46 : Nat).beq 46 = true from rfl, cond_true] at h
    obtain ⟨q, v, hq, hv, -, hco, hva, -⟩ := htx a0
    have e1 : trv ad ex (vR a0 46) = .ref q := hq
    rw [List.map_cons, e1]
    rcases hf with ⟨e0, hlk⟩ | ⟨e0, hlk⟩
    · rw [e0, cond_true] at h
      cases go_inv h
      have hk3 := hg ad lsJ H locs ⟨hP, hD, hS, hl, hn, hWT, hTL, TS_c (fun q => absurd q (by decide)) (TS_t hTS), h0, h1, hX, hA0⟩
      have e2 : trv ad ex (vR a0 44) = .ref v := hv
      exact vk_getf hx hb hva hS hown (htb _ hlk) (fun _ q => q) hd (by rw [← e2]; exact hk3)
    · have e00 : (res % 64).beq 0 = false := by
        rw [← Bool.not_eq_true, Nat.beq_eq]; have := Nat.eq_of_beq_eq_true e0; omega
      rw [e00, cond_false] at h
      cases go_inv h
      exact vk_getf hx hb hco hS hown (htb _ hlk) (fun _ q => q) hd (hg ad lsJ H locs ⟨hP, hD, hS, hl, hn, hWT, hTL, TS_c wtI (TS_t hTS), h0, h1, hX, hA0⟩)
set_option maxHeartbeats 1000000 in
theorem sm_putfield {p : Program} {l : Launch} {e : Env} {R : Room} {s : State} {m : MethodId} {args : Array Value} {below : List Frame} {meth : Method} {c : Code} {Q : State → Prop} {M : Nat} {G : va_G} {cA : Nat → ClassId} {ex : Nat → Nat → Value} {X : Nat × (Nat → Int32)} {A : Nat → Prop} {nL n0 z0 : Nat} {ad0 : Nat → Nat} {E : Cal} {ret : Option FieldType} {i0 : Nat} {ln res pc pc' : Nat} {ls st ls' st' : List PV} {σ σ' : St}
    (C : Cx p s m args meth c M G cA ex X A nL) (hd : decode (mT M).2.1 pc = .ok ((.putfield i0), 3)) (h : stI E ret (.putfield i0) ln res pc ls st σ = some (Sum.inl (pc', ls', st', σ'))) {pos : Nat} (hf : fldOK (mT M).1.cls i0 res pos = true) (hfin : finOK (mT M).1.cls (decide ((mT M).1.name = "<init>")) res = true) (hk9 : WT9 σ' ∧ TS σ' ls' ∧ TS σ' st')
    (hg : Good (fun H locs cells slots g => W p l e R s m args below meth c H locs cells slots Q g) m G cA ex X A s.heap n0 z0 nL ad0 pc' ls' st' σ') : Good (fun H locs cells slots g => W p l e R s m args below meth c H locs cells slots Q g) m G cA ex X A s.heap n0 z0 nL ad0 pc ls st σ := by
    intro ad lsJ H locs hr
    obtain ⟨hP, hD, hS, hl, hn, hWT, hTL, hTS, h0, h1, hX, hA0⟩ := hr
    obtain ⟨hx, hb, hml, hown, hnm, htb, hK, hE0, hNW, hA⟩ := C
    have hex := hE0.2.2.1
    unfold stI at h
    dsimp only at h
    cases ex1 : (ft (res / 64) (res % 64)).beq 1 with
    | true =>
      rw [ex1, cond_true] at h
      obtain ⟨x0, r0, hn1, rfl⟩ := pL_inv h; replace h := hn1; clear hn1
      obtain ⟨a0, t0, r1, hn1, rfl⟩ := pR_inv h; replace h := hn1; clear hn1
      have hgd := (guard_inv h).1; replace h := (guard_inv h).2
      skip
      have ht := Nat.eq_of_beq_eq_true hgd
      obtain ⟨K, T, N, hc, hk, hlk⟩ := fld_facts hf
      obtain ⟨c10, hN, hin, -, -⟩ := cls_facts hc
      obtain ⟨hnm2, ty, hty, hft⟩ := cls_types hc
      have hw : a0 < len σ ∧ (sh σ a0).1 = t0 := (show t0 < 40 → a0 < len σ ∧ (sh σ a0).1 = t0 from TS_h (TS_t hTS)) (by omega)
      have he := wW_at (ad := ad) (cA := cA) hw.1
      rw [eW_obj hw.2 (by omega)] at he
      rw [← ht] at hc hN
      have hq := nar_fit (hft _ hk)
      rw [← ht] at hq ex1
      rw [List.map_cons, List.map_cons, trv_w (show t0 < 40 by omega)]
      have hv := hq.1 (Nat.eq_of_beq_eq_true ex1) x0
      cases go_inv h
      have kk : ∀ (H1 : Heap) (locs1 : List Loc), va_P G vwCl ((wW ad cA σ).set a0 (ad a0, .inr (t0, ((List.range (nF t0)).map (fval ad σ a0 t0)).set (res % 64) (.long x0)))) H1 → va_D A ((wW ad cA σ).set a0 (ad a0, .inr (t0, ((List.range (nF t0)).map (fval ad σ a0 t0)).set (res % 64) (.long x0)))) → va_S A s.heap H1 locs1 → W p l e R s m args below meth c H1 locs1 (len σ - n0) (slo σ - z0) Q (F0 m (pc + 3) lsJ (st'.map (trv ad ex))) := by
        intro H1 locs1 hP1 hD1 hS1
        rw [put_L (by rw [← hN]; exact hk) hw.2 (by omega) (Nat.eq_of_beq_eq_true ex1)] at hP1 hD1
        exact hg ad lsJ H1 locs1 ⟨hP1, hD1, hS1, hl, hn, hk9.1, hk9.2.1, hk9.2.2, h0, h1, hX, hA0⟩
      have hfi : (T (res % 64)).2.2.2 = false ∨ ((T (res % 64)).2.2.2 = true ∧ meth.name = "<init>" ∧ (T (res % 64)).1 = (mT M).1.cls) := by
        unfold finOK at hfin
        rw [← ht, hc] at hfin
        simp only [Bool.or_eq_true, Bool.not_eq_true', Bool.and_eq_true, decide_eq_true_eq] at hfin
        rcases hfin with q | q
        · exact Or.inl q
        · cases e9 : (T (res % 64)).2.2.2 with
          | false => exact Or.inl rfl
          | true => exact Or.inr ⟨rfl, by rw [hnm]; exact q.1, q.2⟩
      rcases hfi with hfi | ⟨hfi, hini, hdecl⟩
      · exact va_put hx hb htb hin ty hty hnm2 hown hK hP hD hS a0 he hc (res % 64) hk (htb _ hlk) (fun _ q => q) hfi (hty _ hk) hv.1 hv.2 (by simp; rw [← hN]; exact hk) hd kk
      · exact va_putF hx hb htb hin ty hty hnm2 hown hK hP hD hS a0 he hc (res % 64) hk (htb _ hlk) (fun _ q => q) hfi hini hdecl (hty _ hk) hv.1 hv.2 (by simp; rw [← hN]; exact hk) hd kk
    | false =>
      rw [ex1, cond_false] at h
      cases ex2 : Nat.ble 100 (ft (res / 64) (res % 64)) with
      | true =>
        rw [ex2, cond_true] at h
        obtain ⟨b0, tb, r0, hn1, rfl⟩ := pR_inv h; replace h := hn1; clear hn1
        obtain ⟨a0, t0, r1, hn1, rfl⟩ := pR_inv h; replace h := hn1; clear hn1
        have hgd := (guard_inv h).1; replace h := (guard_inv h).2
        simp only [Bool.and_eq_true, Nat.beq_eq] at hgd
        have ht := hgd.1
        obtain ⟨K, T, N, hc, hk, hlk⟩ := fld_facts hf
        obtain ⟨c10, hN, hin, -, -⟩ := cls_facts hc
        obtain ⟨hnm2, ty, hty, hft⟩ := cls_types hc
        have hw : a0 < len σ ∧ (sh σ a0).1 = t0 := (show t0 < 40 → a0 < len σ ∧ (sh σ a0).1 = t0 from TS_h (TS_t hTS)) (by omega)
        have he := wW_at (ad := ad) (cA := cA) hw.1
        rw [eW_obj hw.2 (by omega)] at he
        rw [← ht] at hc hN
        have hq := nar_fit (hft _ hk)
        rw [← ht] at hq ex1 ex2
        have h40 : tb < 40 := by rw [hgd.2]; exact ft_tag _ _
        rw [List.map_cons, List.map_cons, trv_w (show t0 < 40 by omega), trv_w h40]
        have hv := hq.2.1 (Nat.le_of_ble_eq_true ex2) (ad b0)
        cases go_inv h
        have kk : ∀ (H1 : Heap) (locs1 : List Loc), va_P G vwCl ((wW ad cA σ).set a0 (ad a0, .inr (t0, ((List.range (nF t0)).map (fval ad σ a0 t0)).set (res % 64) (.ref (ad b0))))) H1 → va_D A ((wW ad cA σ).set a0 (ad a0, .inr (t0, ((List.range (nF t0)).map (fval ad σ a0 t0)).set (res % 64) (.ref (ad b0))))) → va_S A s.heap H1 locs1 → W p l e R s m args below meth c H1 locs1 (len σ - n0) (slo σ - z0) Q (F0 m (pc + 3) lsJ (st'.map (trv ad ex))) := by
          intro H1 locs1 hP1 hD1 hS1
          rw [put_R (by rw [← hN]; exact hk) hw.2 (by omega) ex1 ex2] at hP1 hD1
          exact hg ad lsJ H1 locs1 ⟨hP1, hD1, hS1, hl, hn, hk9.1, hk9.2.1, hk9.2.2, h0, h1, hX, hA0⟩
        have hfi : (T (res % 64)).2.2.2 = false ∨ ((T (res % 64)).2.2.2 = true ∧ meth.name = "<init>" ∧ (T (res % 64)).1 = (mT M).1.cls) := by
          unfold finOK at hfin
          rw [← ht, hc] at hfin
          simp only [Bool.or_eq_true, Bool.not_eq_true', Bool.and_eq_true, decide_eq_true_eq] at hfin
          rcases hfin with q | q
          · exact Or.inl q
          · cases e9 : (T (res % 64)).2.2.2 with
            | false => exact Or.inl rfl
            | true => exact Or.inr ⟨rfl, by rw [hnm]; exact q.1, q.2⟩
        rcases hfi with hfi | ⟨hfi, hini, hdecl⟩
        · exact va_put hx hb htb hin ty hty hnm2 hown hK hP hD hS a0 he hc (res % 64) hk (htb _ hlk) (fun _ q => q) hfi (hty _ hk) hv.1 hv.2 (by simp; rw [← hN]; exact hk) hd kk
        · exact va_putF hx hb htb hin ty hty hnm2 hown hK hP hD hS a0 he hc (res % 64) hk (htb _ hlk) (fun _ q => q) hfi hini hdecl (hty _ hk) hv.1 hv.2 (by simp; rw [← hN]; exact hk) hd kk
      | false =>
        rw [ex2, cond_false] at h
        obtain ⟨x0, r0, hn1, rfl⟩ := pI_inv h; replace h := hn1; clear hn1
        obtain ⟨a0, t0, r1, hn1, rfl⟩ := pR_inv h; replace h := hn1; clear hn1
        have hgd := (guard_inv h).1; replace h := (guard_inv h).2
        simp only [Bool.and_eq_true] at hgd
        have ht := Nat.eq_of_beq_eq_true hgd.1
        obtain ⟨K, T, N, hc, hk, hlk⟩ := fld_facts hf
        obtain ⟨c10, hN, hin, -, -⟩ := cls_facts hc
        obtain ⟨hnm2, ty, hty, hft⟩ := cls_types hc
        have hw : a0 < len σ ∧ (sh σ a0).1 = t0 := (show t0 < 40 → a0 < len σ ∧ (sh σ a0).1 = t0 from TS_h (TS_t hTS)) (by omega)
        have he := wW_at (ad := ad) (cA := cA) hw.1
        rw [eW_obj hw.2 (by omega)] at he
        rw [← ht] at hc hN
        have hq := nar_fit (hft _ hk)
        rw [← ht] at hq ex1 ex2
        rw [List.map_cons, List.map_cons, trv_w (show t0 < 40 by omega)]
        have hv := hq.2.2 (Nat.ne_of_beq_eq_false ex1) (fun q => by rw [Nat.ble_eq.mpr q] at ex2; cases ex2) x0 (by rw [ht]; exact hgd.2)
        cases go_inv h
        have kk : ∀ (H1 : Heap) (locs1 : List Loc), va_P G vwCl ((wW ad cA σ).set a0 (ad a0, .inr (t0, ((List.range (nF t0)).map (fval ad σ a0 t0)).set (res % 64) (.int x0)))) H1 → va_D A ((wW ad cA σ).set a0 (ad a0, .inr (t0, ((List.range (nF t0)).map (fval ad σ a0 t0)).set (res % 64) (.int x0)))) → va_S A s.heap H1 locs1 → W p l e R s m args below meth c H1 locs1 (len σ - n0) (slo σ - z0) Q (F0 m (pc + 3) lsJ (st'.map (trv ad ex))) := by
          intro H1 locs1 hP1 hD1 hS1
          rw [put_I (by rw [← hN]; exact hk) hw.2 (by omega) ex1 ex2] at hP1 hD1
          exact hg ad lsJ H1 locs1 ⟨hP1, hD1, hS1, hl, hn, hk9.1, hk9.2.1, hk9.2.2, h0, h1, hX, hA0⟩
        have hfi : (T (res % 64)).2.2.2 = false ∨ ((T (res % 64)).2.2.2 = true ∧ meth.name = "<init>" ∧ (T (res % 64)).1 = (mT M).1.cls) := by
          unfold finOK at hfin
          rw [← ht, hc] at hfin
          simp only [Bool.or_eq_true, Bool.not_eq_true', Bool.and_eq_true, decide_eq_true_eq] at hfin
          rcases hfin with q | q
          · exact Or.inl q
          · cases e9 : (T (res % 64)).2.2.2 with
            | false => exact Or.inl rfl
            | true => exact Or.inr ⟨rfl, by rw [hnm]; exact q.1, q.2⟩
        rcases hfi with hfi | ⟨hfi, hini, hdecl⟩
        · exact va_put hx hb htb hin ty hty hnm2 hown hK hP hD hS a0 he hc (res % 64) hk (htb _ hlk) (fun _ q => q) hfi (hty _ hk) hv.1 hv.2 (by simp; rw [← hN]; exact hk) hd kk
        · exact va_putF hx hb htb hin ty hty hnm2 hown hK hP hD hS a0 he hc (res % 64) hk (htb _ hlk) (fun _ q => q) hfi hini hdecl (hty _ hk) hv.1 hv.2 (by simp; rw [← hN]; exact hk) hd kk
set_option maxHeartbeats 1000000 in
theorem sm_getstatic {p : Program} {l : Launch} {e : Env} {R : Room} {s : State} {m : MethodId} {args : Array Value} {below : List Frame} {meth : Method} {c : Code} {Q : State → Prop} {M : Nat} {G : va_G} {cA : Nat → ClassId} {ex : Nat → Nat → Value} {X : Nat × (Nat → Int32)} {A : Nat → Prop} {nL n0 z0 : Nat} {ad0 : Nat → Nat} {E : Cal} {ret : Option FieldType} {i0 : Nat} {ln res pc pc' : Nat} {ls st ls' st' : List PV} {σ σ' : St}
    (C : Cx p s m args meth c M G cA ex X A nL) (hd : decode (mT M).2.1 pc = .ok ((.getstatic i0), 3)) (h : stI E ret (.getstatic i0) ln res pc ls st σ = some (Sum.inl (pc', ls', st', σ'))) (hres : gsOK res = true) (hlk : Jvm.Cond.fieldLink (mT M).1.cls i0 (gsT res).1 (gsT res).2.1 (gsT res).2.2 ∈ TBL)
    (hg : Good (fun H locs cells slots g => W p l e R s m args below meth c H locs cells slots Q g) m G cA ex X A s.heap n0 z0 nL ad0 pc' ls' st' σ') : Good (fun H locs cells slots g => W p l e R s m args below meth c H locs cells slots Q g) m G cA ex X A s.heap n0 z0 nL ad0 pc ls st σ := by
    intro ad lsJ H locs hr
    obtain ⟨hP, hD, hS, hl, hn, hWT, hTL, hTS, h0, h1, hX, hA0⟩ := hr
    obtain ⟨hx, hb, hml, hown, hnm, htb, hK, hE0, hNW, hA⟩ := C
    have hex := hE0.2.2.1
    obtain ⟨-, ⟨d1, hd1, hz1, -⟩, ⟨d2, hd2, hz2, -⟩, hcs, hfm⟩ := hE0.2.2.2
    unfold stI at h
    dsimp only at h
    unfold gsOK at hres
    simp only [Bool.or_eq_true, Nat.beq_eq] at hres
    rcases hres with rfl | rfl | rfl | rfl | rfl
    · cases go_inv h
      exact va_gets hx hb hcs hS hown (htb _ hlk) (fun _ q => q) hd (hg ad lsJ H locs ⟨hP, hD, hS, hl, hn, hWT, hTL, TS_c wtI hTS, h0, h1, hX, hA0⟩)
    · cases go_inv h
      exact va_gets hx hb hfm hS hown (htb _ hlk) (fun _ q => q) hd (hg ad lsJ H locs ⟨hP, hD, hS, hl, hn, hWT, hTL, TS_c (fun q => absurd q (by decide)) hTS, h0, h1, hX, hA0⟩)
    · obtain ⟨t1, ht1, hZ, hT⟩ := hE0.2.1
      cases go_inv h
      have hk3 := hg ad lsJ H locs ⟨hP, hD, hS, hl, hn, hWT, hTL, TS_c (fun q => absurd q (by decide)) hTS, h0, h1, hX, hA0⟩
      have e1 : trv ad ex (vR 0 41) = .ref t1 := ht1 0
      exact va_gets hx hb hZ hS hown (htb _ hlk) (fun _ q => q) hd (by rw [← e1]; exact hk3)
    · cases go_inv h
      have hk3 := hg ad lsJ H locs ⟨hP, hD, hS, hl, hn, hWT, hTL, TS_c (fun q => absurd q (by decide)) hTS, h0, h1, hX, hA0⟩
      have e1 : trv ad ex (vR 0 42) = .ref d1 := hd1 0
      exact va_gets hx hb hz1 hS hown (htb _ hlk) (fun _ q => q) hd (by rw [← e1]; exact hk3)
    · cases go_inv h
      have hk3 := hg ad lsJ H locs ⟨hP, hD, hS, hl, hn, hWT, hTL, TS_c (fun q => absurd q (by decide)) hTS, h0, h1, hX, hA0⟩
      have e1 : trv ad ex (vR 0 43) = .ref d2 := hd2 0
      exact va_gets hx hb hz2 hS hown (htb _ hlk) (fun _ q => q) hd (by rw [← e1]; exact hk3)
set_option maxHeartbeats 1000000 in
theorem sm_iaload {p : Program} {l : Launch} {e : Env} {R : Room} {s : State} {m : MethodId} {args : Array Value} {below : List Frame} {meth : Method} {c : Code} {Q : State → Prop} {M : Nat} {G : va_G} {cA : Nat → ClassId} {ex : Nat → Nat → Value} {X : Nat × (Nat → Int32)} {A : Nat → Prop} {nL n0 z0 : Nat} {ad0 : Nat → Nat} {E : Cal} {ret : Option FieldType}  {ln res pc pc' : Nat} {ls st ls' st' : List PV} {σ σ' : St}
    (C : Cx p s m args meth c M G cA ex X A nL) (hd : decode (mT M).2.1 pc = .ok (.iaload, 1)) (h : stI E ret (.iaload) ln res pc ls st σ = some (Sum.inl (pc', ls', st', σ')))
    (hg : Good (fun H locs cells slots g => W p l e R s m args below meth c H locs cells slots Q g) m G cA ex X A s.heap n0 z0 nL ad0 pc' ls' st' σ') : Good (fun H locs cells slots g => W p l e R s m args below meth c H locs cells slots Q g) m G cA ex X A s.heap n0 z0 nL ad0 pc ls st σ := by
    intro ad lsJ H locs hr
    obtain ⟨hP, hD, hS, hl, hn, hWT, hTL, hTS, h0, h1, hX, hA0⟩ := hr
    obtain ⟨hx, hb, hml, hown, hnm, htb, hK, hE0, hNW, hA⟩ := C
    have hex := hE0.2.2.1
    unfold stI at h
    dsimp only at h
    obtain ⟨j0, r0, hn1, rfl⟩ := pI_inv h; replace h := hn1; clear hn1
    obtain ⟨a0, t0, r1, hn1, rfl⟩ := pR_inv h; replace h := hn1; clear hn1
    have hgd := (guard_inv h).1; replace h := (guard_inv h).2
    simp only [Bool.and_eq_true, Bool.or_eq_true, Nat.beq_eq] at hgd
    obtain ⟨hgt, hgi⟩ := hgd
    have hvp := inB_vp hgi
    rcases hgt with rfl | rfl | rfl
    · have hw : a0 < len σ ∧ (sh σ a0).1 = 20 := (show 20 < 40 → a0 < len σ ∧ (sh σ a0).1 = 20 from TS_h (TS_t hTS)) (by omega)
      have he := wW_at (ad := ad) (cA := cA) hw.1
      rw [eW_arr hw.2 (by decide)] at he
      cases go_inv h
      rw [List.map_cons, List.map_cons, trv_w (show 20 < 40 by decide)]
      exact va_iald hx hb hK hP a0 0 he rfl hvp hd (hg ad lsJ H locs ⟨hP, hD, hS, hl, hn, hWT, hTL, TS_c wtI (TS_t (TS_t hTS)), h0, h1, hX, hA0⟩)
    · obtain ⟨b, hb1, hb2, hb3, hb4⟩ := hE0.1
      cases go_inv h
      have e1 : trv ad ex (vR a0 40) = .ref b := hb1 a0
      rw [List.map_cons, List.map_cons, e1]
      have e2 : aLen σ 40 a0 = X.1 := by rw [← hX]; rfl
      have e3 : ∀ i, aGet σ 40 a0 i = X.2 i := fun i => by rw [← hX]; rfl
      rw [e2] at hvp
      have hk2 := hg ad lsJ H locs ⟨hP, hD, hS, hl, hn, hWT, hTL, TS_c wtI (TS_t (TS_t hTS)), h0, h1, hX, hA0⟩
      rw [List.map_cons, e3] at hk2
      exact va_sld hx hb hb2 hb3 hb4 hS hvp hd hk2
    · obtain ⟨t1, ht1, hZ, hT⟩ := hE0.2.1
      cases go_inv h
      have e1 : trv ad ex (vR a0 41) = .ref t1 := ht1 a0
      rw [List.map_cons, List.map_cons, e1]
      exact va_ti hx hb hT hS hvp rfl hd (hg ad lsJ H locs ⟨hP, hD, hS, hl, hn, hWT, hTL, TS_c wtI (TS_t (TS_t hTS)), h0, h1, hX, hA0⟩)
set_option maxHeartbeats 1000000 in
theorem sm_baload {p : Program} {l : Launch} {e : Env} {R : Room} {s : State} {m : MethodId} {args : Array Value} {below : List Frame} {meth : Method} {c : Code} {Q : State → Prop} {M : Nat} {G : va_G} {cA : Nat → ClassId} {ex : Nat → Nat → Value} {X : Nat × (Nat → Int32)} {A : Nat → Prop} {nL n0 z0 : Nat} {ad0 : Nat → Nat} {E : Cal} {ret : Option FieldType}  {ln res pc pc' : Nat} {ls st ls' st' : List PV} {σ σ' : St}
    (C : Cx p s m args meth c M G cA ex X A nL) (hd : decode (mT M).2.1 pc = .ok (.baload, 1)) (h : stI E ret (.baload) ln res pc ls st σ = some (Sum.inl (pc', ls', st', σ')))
    (hg : Good (fun H locs cells slots g => W p l e R s m args below meth c H locs cells slots Q g) m G cA ex X A s.heap n0 z0 nL ad0 pc' ls' st' σ') : Good (fun H locs cells slots g => W p l e R s m args below meth c H locs cells slots Q g) m G cA ex X A s.heap n0 z0 nL ad0 pc ls st σ := by
    intro ad lsJ H locs hr
    obtain ⟨hP, hD, hS, hl, hn, hWT, hTL, hTS, h0, h1, hX, hA0⟩ := hr
    obtain ⟨hx, hb, hml, hown, hnm, htb, hK, hE0, hNW, hA⟩ := C
    have hex := hE0.2.2.1
    unfold stI at h
    dsimp only at h
    obtain ⟨j0, r0, hn1, rfl⟩ := pI_inv h; replace h := hn1; clear hn1
    obtain ⟨a0, t0, r1, hn1, rfl⟩ := pR_inv h; replace h := hn1; clear hn1
    cases e23 : (t0.beq 22 || t0.beq 23) with
    | true =>
      rw [e23, cond_true] at h
      have hgi := (guard_inv h).1; replace h := (guard_inv h).2
      simp only [Bool.or_eq_true, Nat.beq_eq] at e23
      have hvp := inB_vp hgi
      rcases e23 with rfl | rfl
      · have hw : a0 < len σ ∧ (sh σ a0).1 = 22 := (show 22 < 40 → a0 < len σ ∧ (sh σ a0).1 = 22 from TS_h (TS_t hTS)) (by omega)
        have he := wW_at (ad := ad) (cA := cA) hw.1
        rw [eW_arr hw.2 (by decide)] at he
        cases go_inv h
        rw [List.map_cons, List.map_cons, trv_w (show 22 < 40 by decide)]
        exact va_zald hx hb hK hP a0 2 he rfl hvp hd (hg ad lsJ H locs ⟨hP, hD, hS, hl, hn, hWT, hTL, TS_c wtI (TS_t (TS_t hTS)), h0, h1, hX, hA0⟩)
      · have hw : a0 < len σ ∧ (sh σ a0).1 = 23 := (show 23 < 40 → a0 < len σ ∧ (sh σ a0).1 = 23 from TS_h (TS_t hTS)) (by omega)
        have he := wW_at (ad := ad) (cA := cA) hw.1
        rw [eW_arr hw.2 (by decide)] at he
        cases go_inv h
        rw [List.map_cons, List.map_cons, trv_w (show 23 < 40 by decide)]
        exact va_bald hx hb hK hP a0 3 he rfl hvp hd (hg ad lsJ H locs ⟨hP, hD, hS, hl, hn, hWT, hTL, TS_c wtI (TS_t (TS_t hTS)), h0, h1, hX, hA0⟩)
    | false =>
      rw [e23, cond_false] at h
      have hgd := (guard_inv h).1; replace h := (guard_inv h).2
      simp only [Bool.and_eq_true, Bool.or_eq_true, Nat.beq_eq] at hgd
      obtain ⟨hgt, hgi⟩ := hgd
      have hvp := inB_vp hgi
      obtain ⟨htx, ⟨d1, hd1, -, hT1⟩, ⟨d2, hd2, -, hT2⟩, -, -⟩ := hE0.2.2.2
      cases go_inv h
      rcases hgt with rfl | rfl | rfl
      · have e1 : trv ad ex (vR a0 42) = .ref d1 := hd1 a0
        rw [List.map_cons, List.map_cons, e1]
        exact va_tb hx hb hT1 hS hvp rfl hd (hg ad lsJ H locs ⟨hP, hD, hS, hl, hn, hWT, hTL, TS_c wtI (TS_t (TS_t hTS)), h0, h1, hX, hA0⟩)
      · have e1 : trv ad ex (vR a0 43) = .ref d2 := hd2 a0
        rw [List.map_cons, List.map_cons, e1]
        exact va_tb hx hb hT2 hS hvp rfl hd (hg ad lsJ H locs ⟨hP, hD, hS, hl, hn, hWT, hTL, TS_c wtI (TS_t (TS_t hTS)), h0, h1, hX, hA0⟩)
      · obtain ⟨q, v, -, hv, -, -, -, hT⟩ := htx a0
        have e1 : trv ad ex (vR a0 44) = .ref v := hv
        rw [List.map_cons, List.map_cons, e1]
        exact va_tb hx hb hT hS hvp rfl hd (hg ad lsJ H locs ⟨hP, hD, hS, hl, hn, hWT, hTL, TS_c wtI (TS_t (TS_t hTS)), h0, h1, hX, hA0⟩)
set_option maxHeartbeats 1000000 in
theorem sm_laload {p : Program} {l : Launch} {e : Env} {R : Room} {s : State} {m : MethodId} {args : Array Value} {below : List Frame} {meth : Method} {c : Code} {Q : State → Prop} {M : Nat} {G : va_G} {cA : Nat → ClassId} {ex : Nat → Nat → Value} {X : Nat × (Nat → Int32)} {A : Nat → Prop} {nL n0 z0 : Nat} {ad0 : Nat → Nat} {E : Cal} {ret : Option FieldType}  {ln res pc pc' : Nat} {ls st ls' st' : List PV} {σ σ' : St}
    (C : Cx p s m args meth c M G cA ex X A nL) (hd : decode (mT M).2.1 pc = .ok (.laload, 1)) (h : stI E ret (.laload) ln res pc ls st σ = some (Sum.inl (pc', ls', st', σ')))
    (hg : Good (fun H locs cells slots g => W p l e R s m args below meth c H locs cells slots Q g) m G cA ex X A s.heap n0 z0 nL ad0 pc' ls' st' σ') : Good (fun H locs cells slots g => W p l e R s m args below meth c H locs cells slots Q g) m G cA ex X A s.heap n0 z0 nL ad0 pc ls st σ := by
    intro ad lsJ H locs hr
    obtain ⟨hP, hD, hS, hl, hn, hWT, hTL, hTS, h0, h1, hX, hA0⟩ := hr
    obtain ⟨hx, hb, hml, hown, hnm, htb, hK, hE0, hNW, hA⟩ := C
    have hex := hE0.2.2.1
    unfold stI at h
    dsimp only at h
    obtain ⟨j0, r0, hn1, rfl⟩ := pI_inv h; replace h := hn1; clear hn1
    obtain ⟨a0, t0, r1, hn1, rfl⟩ := pR_inv h; replace h := hn1; clear hn1
    have hgd := (guard_inv h).1; replace h := (guard_inv h).2
    simp only [Bool.and_eq_true, Nat.beq_eq] at hgd
    obtain ⟨rfl, hgi⟩ := hgd
    have hvp := inB_vp hgi
    have hw : a0 < len σ ∧ (sh σ a0).1 = 21 := (show 21 < 40 → a0 < len σ ∧ (sh σ a0).1 = 21 from TS_h (TS_t hTS)) (by omega)
    have he := wW_at (ad := ad) (cA := cA) hw.1
    rw [eW_arr hw.2 (by decide)] at he
    cases go_inv h
    rw [List.map_cons, List.map_cons, trv_w (show 21 < 40 by decide)]
    exact va_lald hx hb hK hP a0 1 he rfl hvp hd (hg ad lsJ H locs ⟨hP, hD, hS, hl, hn, hWT, hTL, TS_c wtL (TS_t (TS_t hTS)), h0, h1, hX, hA0⟩)
set_option maxHeartbeats 1000000 in
theorem sm_aaload {p : Program} {l : Launch} {e : Env} {R : Room} {s : State} {m : MethodId} {args : Array Value} {below : List Frame} {meth : Method} {c : Code} {Q : State → Prop} {M : Nat} {G : va_G} {cA : Nat → ClassId} {ex : Nat → Nat → Value} {X : Nat × (Nat → Int32)} {A : Nat → Prop} {nL n0 z0 : Nat} {ad0 : Nat → Nat} {E : Cal} {ret : Option FieldType}  {ln res pc pc' : Nat} {ls st ls' st' : List PV} {σ σ' : St}
    (C : Cx p s m args meth c M G cA ex X A nL) (hd : decode (mT M).2.1 pc = .ok (.aaload, 1)) (h : stI E ret (.aaload) ln res pc ls st σ = some (Sum.inl (pc', ls', st', σ'))) (hk9 : TS σ' st')
    (hg : Good (fun H locs cells slots g => W p l e R s m args below meth c H locs cells slots Q g) m G cA ex X A s.heap n0 z0 nL ad0 pc' ls' st' σ') : Good (fun H locs cells slots g => W p l e R s m args below meth c H locs cells slots Q g) m G cA ex X A s.heap n0 z0 nL ad0 pc ls st σ := by
    intro ad lsJ H locs hr
    obtain ⟨hP, hD, hS, hl, hn, hWT, hTL, hTS, h0, h1, hX, hA0⟩ := hr
    obtain ⟨hx, hb, hml, hown, hnm, htb, hK, hE0, hNW, hA⟩ := C
    have hex := hE0.2.2.1
    unfold stI at h
    dsimp only at h
    obtain ⟨j0, r0, hn1, rfl⟩ := pI_inv h; replace h := hn1; clear hn1
    obtain ⟨a0, t0, r1, hn1, rfl⟩ := pR_inv h; replace h := hn1; clear hn1
    have hgd := (guard_inv h).1; replace h := (guard_inv h).2
    simp only [Bool.and_eq_true, Bool.or_eq_true, Nat.beq_eq] at hgd
    obtain ⟨hgt, hgi⟩ := hgd
    have hvp := inB_vp hgi
    rcases hgt with rfl | rfl
    · have hw : a0 < len σ ∧ (sh σ a0).1 = 24 := (show 24 < 40 → a0 < len σ ∧ (sh σ a0).1 = 24 from TS_h (TS_t hTS)) (by omega)
      have he := wW_at (ad := ad) (cA := cA) hw.1
      rw [eW_arr hw.2 (by decide)] at he
      cases go_inv h
      rw [List.map_cons, List.map_cons, trv_w (show 24 < 40 by decide)]
      have hk2 := hg ad lsJ H locs ⟨hP, hD, hS, hl, hn, hWT, hTL, hk9, h0, h1, hX, hA0⟩
      rw [List.map_cons, trv_O (by decide)] at hk2
      exact va_aldq hx hb hK hP a0 4 he rfl hvp hd hk2
    · have hw : a0 < len σ ∧ (sh σ a0).1 = 25 := (show 25 < 40 → a0 < len σ ∧ (sh σ a0).1 = 25 from TS_h (TS_t hTS)) (by omega)
      have he := wW_at (ad := ad) (cA := cA) hw.1
      rw [eW_arr hw.2 (by decide)] at he
      cases go_inv h
      rw [List.map_cons, List.map_cons, trv_w (show 25 < 40 by decide)]
      have hk2 := hg ad lsJ H locs ⟨hP, hD, hS, hl, hn, hWT, hTL, hk9, h0, h1, hX, hA0⟩
      rw [List.map_cons, trv_O (by decide)] at hk2
      exact va_aldq hx hb hK hP a0 5 he rfl hvp hd hk2
set_option maxHeartbeats 1000000 in
theorem sm_iastore {p : Program} {l : Launch} {e : Env} {R : Room} {s : State} {m : MethodId} {args : Array Value} {below : List Frame} {meth : Method} {c : Code} {Q : State → Prop} {M : Nat} {G : va_G} {cA : Nat → ClassId} {ex : Nat → Nat → Value} {X : Nat × (Nat → Int32)} {A : Nat → Prop} {nL n0 z0 : Nat} {ad0 : Nat → Nat} {E : Cal} {ret : Option FieldType}  {ln res pc pc' : Nat} {ls st ls' st' : List PV} {σ σ' : St}
    (C : Cx p s m args meth c M G cA ex X A nL) (hd : decode (mT M).2.1 pc = .ok (.iastore, 1)) (h : stI E ret (.iastore) ln res pc ls st σ = some (Sum.inl (pc', ls', st', σ')))
    (hg : Good (fun H locs cells slots g => W p l e R s m args below meth c H locs cells slots Q g) m G cA ex X A s.heap n0 z0 nL ad0 pc' ls' st' σ') : Good (fun H locs cells slots g => W p l e R s m args below meth c H locs cells slots Q g) m G cA ex X A s.heap n0 z0 nL ad0 pc ls st σ := by
    intro ad lsJ H locs hr
    obtain ⟨hP, hD, hS, hl, hn, hWT, hTL, hTS, h0, h1, hX, hA0⟩ := hr
    obtain ⟨hx, hb, hml, hown, hnm, htb, hK, hE0, hNW, hA⟩ := C
    have hex := hE0.2.2.1
    unfold stI at h
    dsimp only at h
    obtain ⟨x0, r0, hn1, rfl⟩ := pI_inv h; replace h := hn1; clear hn1
    obtain ⟨j0, r1, hn1, rfl⟩ := pI_inv h; replace h := hn1; clear hn1
    obtain ⟨a0, t0, r2, hn1, rfl⟩ := pR_inv h; replace h := hn1; clear hn1
    have hgd := (guard_inv h).1; replace h := (guard_inv h).2
    simp only [Bool.and_eq_true, Nat.beq_eq] at hgd
    obtain ⟨rfl, hgi⟩ := hgd
    have hvp := inB_vp hgi
    have hw : a0 < len σ ∧ (sh σ a0).1 = 20 := (show 20 < 40 → a0 < len σ ∧ (sh σ a0).1 = 20 from TS_h (TS_t (TS_t hTS))) (by omega)
    have he := wW_at (ad := ad) (cA := cA) hw.1
    rw [eW_arr hw.2 (by decide)] at he
    cases go_inv h
    rw [List.map_cons, List.map_cons, List.map_cons, trv_w (show 20 < 40 by decide)]
    refine va_iast hx hb hK hP hD hS a0 0 he rfl hvp hd (fun H1 locs1 hP1 hD1 hS1 => ?_)
    rw [set_I hw.2 rfl (by decide) rfl rfl] at hP1 hD1
    exact hg ad lsJ H1 locs1 ⟨hP1, hD1, hS1, hl, hn, (WT_wI hWT _ _ _ (fun q => absurd (hw.2.symm.trans q) (by decide))), hTL, TS_t (TS_t (TS_t hTS)), h0, h1, hX, hA0⟩
set_option maxHeartbeats 1000000 in
theorem sm_bastore {p : Program} {l : Launch} {e : Env} {R : Room} {s : State} {m : MethodId} {args : Array Value} {below : List Frame} {meth : Method} {c : Code} {Q : State → Prop} {M : Nat} {G : va_G} {cA : Nat → ClassId} {ex : Nat → Nat → Value} {X : Nat × (Nat → Int32)} {A : Nat → Prop} {nL n0 z0 : Nat} {ad0 : Nat → Nat} {E : Cal} {ret : Option FieldType}  {ln res pc pc' : Nat} {ls st ls' st' : List PV} {σ σ' : St}
    (C : Cx p s m args meth c M G cA ex X A nL) (hd : decode (mT M).2.1 pc = .ok (.bastore, 1)) (h : stI E ret (.bastore) ln res pc ls st σ = some (Sum.inl (pc', ls', st', σ')))
    (hg : Good (fun H locs cells slots g => W p l e R s m args below meth c H locs cells slots Q g) m G cA ex X A s.heap n0 z0 nL ad0 pc' ls' st' σ') : Good (fun H locs cells slots g => W p l e R s m args below meth c H locs cells slots Q g) m G cA ex X A s.heap n0 z0 nL ad0 pc ls st σ := by
    intro ad lsJ H locs hr
    obtain ⟨hP, hD, hS, hl, hn, hWT, hTL, hTS, h0, h1, hX, hA0⟩ := hr
    obtain ⟨hx, hb, hml, hown, hnm, htb, hK, hE0, hNW, hA⟩ := C
    have hex := hE0.2.2.1
    unfold stI at h
    dsimp only at h
    obtain ⟨x0, r0, hn1, rfl⟩ := pI_inv h; replace h := hn1; clear hn1
    obtain ⟨j0, r1, hn1, rfl⟩ := pI_inv h; replace h := hn1; clear hn1
    obtain ⟨a0, t0, r2, hn1, rfl⟩ := pR_inv h; replace h := hn1; clear hn1
    have hgd := (guard_inv h).1; replace h := (guard_inv h).2
    simp only [Bool.and_eq_true, Bool.or_eq_true, Nat.beq_eq] at hgd
    obtain ⟨hgt, hgi⟩ := hgd
    have hvp := inB_vp hgi
    rcases hgt with rfl | rfl
    · have hw : a0 < len σ ∧ (sh σ a0).1 = 22 := (show 22 < 40 → a0 < len σ ∧ (sh σ a0).1 = 22 from TS_h (TS_t (TS_t hTS))) (by omega)
      have he := wW_at (ad := ad) (cA := cA) hw.1
      rw [eW_arr hw.2 (by decide)] at he
      cases go_inv h
      rw [List.map_cons, List.map_cons, List.map_cons, trv_w (show 22 < 40 by decide)]
      refine va_zast hx hb hK hP hD hS a0 2 he rfl hvp hd (fun H1 locs1 hP1 hD1 hS1 => ?_)
      rw [set_I hw.2 rfl (by decide) rfl rfl] at hP1 hD1
      exact hg ad lsJ H1 locs1 ⟨hP1, hD1, hS1, hl, hn, (WT_wI hWT _ _ _ (fun q => absurd (hw.2.symm.trans q) (by decide))), hTL, TS_t (TS_t (TS_t hTS)), h0, h1, hX, hA0⟩
    · have hw : a0 < len σ ∧ (sh σ a0).1 = 23 := (show 23 < 40 → a0 < len σ ∧ (sh σ a0).1 = 23 from TS_h (TS_t (TS_t hTS))) (by omega)
      have he := wW_at (ad := ad) (cA := cA) hw.1
      rw [eW_arr hw.2 (by decide)] at he
      cases go_inv h
      rw [List.map_cons, List.map_cons, List.map_cons, trv_w (show 23 < 40 by decide)]
      refine va_bast hx hb hK hP hD hS a0 3 he rfl hvp hd (fun H1 locs1 hP1 hD1 hS1 => ?_)
      rw [set_I hw.2 rfl (by decide) rfl rfl] at hP1 hD1
      exact hg ad lsJ H1 locs1 ⟨hP1, hD1, hS1, hl, hn, (WT_wI hWT _ _ _ (fun _ => nar8 x0)), hTL, TS_t (TS_t (TS_t hTS)), h0, h1, hX, hA0⟩
set_option maxHeartbeats 1000000 in
theorem sm_lastore {p : Program} {l : Launch} {e : Env} {R : Room} {s : State} {m : MethodId} {args : Array Value} {below : List Frame} {meth : Method} {c : Code} {Q : State → Prop} {M : Nat} {G : va_G} {cA : Nat → ClassId} {ex : Nat → Nat → Value} {X : Nat × (Nat → Int32)} {A : Nat → Prop} {nL n0 z0 : Nat} {ad0 : Nat → Nat} {E : Cal} {ret : Option FieldType}  {ln res pc pc' : Nat} {ls st ls' st' : List PV} {σ σ' : St}
    (C : Cx p s m args meth c M G cA ex X A nL) (hd : decode (mT M).2.1 pc = .ok (.lastore, 1)) (h : stI E ret (.lastore) ln res pc ls st σ = some (Sum.inl (pc', ls', st', σ')))
    (hg : Good (fun H locs cells slots g => W p l e R s m args below meth c H locs cells slots Q g) m G cA ex X A s.heap n0 z0 nL ad0 pc' ls' st' σ') : Good (fun H locs cells slots g => W p l e R s m args below meth c H locs cells slots Q g) m G cA ex X A s.heap n0 z0 nL ad0 pc ls st σ := by
    intro ad lsJ H locs hr
    obtain ⟨hP, hD, hS, hl, hn, hWT, hTL, hTS, h0, h1, hX, hA0⟩ := hr
    obtain ⟨hx, hb, hml, hown, hnm, htb, hK, hE0, hNW, hA⟩ := C
    have hex := hE0.2.2.1
    unfold stI at h
    dsimp only at h
    obtain ⟨x0, r0, hn1, rfl⟩ := pL_inv h; replace h := hn1; clear hn1
    obtain ⟨j0, r1, hn1, rfl⟩ := pI_inv h; replace h := hn1; clear hn1
    obtain ⟨a0, t0, r2, hn1, rfl⟩ := pR_inv h; replace h := hn1; clear hn1
    have hgd := (guard_inv h).1; replace h := (guard_inv h).2
    simp only [Bool.and_eq_true, Nat.beq_eq] at hgd
    obtain ⟨rfl, hgi⟩ := hgd
    have hvp := inB_vp hgi
    have hw : a0 < len σ ∧ (sh σ a0).1 = 21 := (show 21 < 40 → a0 < len σ ∧ (sh σ a0).1 = 21 from TS_h (TS_t (TS_t hTS))) (by omega)
    have he := wW_at (ad := ad) (cA := cA) hw.1
    rw [eW_arr hw.2 (by decide)] at he
    cases go_inv h
    rw [List.map_cons, List.map_cons, List.map_cons, trv_w (show 21 < 40 by decide)]
    refine va_last hx hb hK hP hD hS a0 1 he rfl hvp hd (fun H1 locs1 hP1 hD1 hS1 => ?_)
    rw [set_L hw.2 rfl] at hP1 hD1
    exact hg ad lsJ H1 locs1 ⟨hP1, hD1, hS1, hl, hn, hWT, hTL, TS_t (TS_t (TS_t hTS)), h0, h1, hX, hA0⟩
set_option maxHeartbeats 1000000 in
theorem sm_aastore {p : Program} {l : Launch} {e : Env} {R : Room} {s : State} {m : MethodId} {args : Array Value} {below : List Frame} {meth : Method} {c : Code} {Q : State → Prop} {M : Nat} {G : va_G} {cA : Nat → ClassId} {ex : Nat → Nat → Value} {X : Nat × (Nat → Int32)} {A : Nat → Prop} {nL n0 z0 : Nat} {ad0 : Nat → Nat} {E : Cal} {ret : Option FieldType}  {ln res pc pc' : Nat} {ls st ls' st' : List PV} {σ σ' : St}
    (C : Cx p s m args meth c M G cA ex X A nL) (hd : decode (mT M).2.1 pc = .ok (.aastore, 1)) (h : stI E ret (.aastore) ln res pc ls st σ = some (Sum.inl (pc', ls', st', σ'))) (hk9 : WT9 σ' ∧ TS σ' ls' ∧ TS σ' st')
    (hg : Good (fun H locs cells slots g => W p l e R s m args below meth c H locs cells slots Q g) m G cA ex X A s.heap n0 z0 nL ad0 pc' ls' st' σ') : Good (fun H locs cells slots g => W p l e R s m args below meth c H locs cells slots Q g) m G cA ex X A s.heap n0 z0 nL ad0 pc ls st σ := by
    intro ad lsJ H locs hr
    obtain ⟨hP, hD, hS, hl, hn, hWT, hTL, hTS, h0, h1, hX, hA0⟩ := hr
    obtain ⟨hx, hb, hml, hown, hnm, htb, hK, hE0, hNW, hA⟩ := C
    have hex := hE0.2.2.1
    unfold stI at h
    dsimp only at h
    obtain ⟨b0, tb, r0, hn1, rfl⟩ := pR_inv h; replace h := hn1; clear hn1
    obtain ⟨j0, r1, hn1, rfl⟩ := pI_inv h; replace h := hn1; clear hn1
    obtain ⟨a0, t0, r2, hn1, rfl⟩ := pR_inv h; replace h := hn1; clear hn1
    have hgd := (guard_inv h).1; replace h := (guard_inv h).2
    simp only [Bool.and_eq_true, Bool.or_eq_true, Nat.beq_eq] at hgd
    obtain ⟨hgt, hgi⟩ := hgd
    have hvp := inB_vp hgi
    rcases hgt with ⟨rfl, rfl⟩ | ⟨rfl, rfl⟩
    · have hw : a0 < len σ ∧ (sh σ a0).1 = 24 := (show 24 < 40 → a0 < len σ ∧ (sh σ a0).1 = 24 from TS_h (TS_t (TS_t hTS))) (by omega)
      have hw2 : b0 < len σ ∧ (sh σ b0).1 = 2 := (show 2 < 40 → b0 < len σ ∧ (sh σ b0).1 = 2 from TS_h hTS) (by decide)
      have he := wW_at (ad := ad) (cA := cA) hw.1
      have he2 := wW_at (ad := ad) (cA := cA) hw2.1
      rw [eW_arr hw.2 (by decide)] at he
      rw [eW_obj hw2.2 (by decide)] at he2
      cases go_inv h
      rw [List.map_cons, List.map_cons, List.map_cons, trv_w (show 24 < 40 by decide), trv_w (show 2 < 40 by decide)]
      refine va_astq hx hb hK hP hD hS a0 4 b0 2 he rfl he2 rfl hvp hd (fun H1 locs1 hP1 hD1 hS1 => ?_)
      rw [set_R hw.2 rfl (by decide)] at hP1 hD1
      exact hg ad lsJ H1 locs1 ⟨hP1, hD1, hS1, hl, hn, hk9.1, hk9.2.1, hk9.2.2, h0, h1, hX, hA0⟩
    · have hw : a0 < len σ ∧ (sh σ a0).1 = 25 := (show 25 < 40 → a0 < len σ ∧ (sh σ a0).1 = 25 from TS_h (TS_t (TS_t hTS))) (by omega)
      have hw2 : b0 < len σ ∧ (sh σ b0).1 = 3 := (show 3 < 40 → b0 < len σ ∧ (sh σ b0).1 = 3 from TS_h hTS) (by decide)
      have he := wW_at (ad := ad) (cA := cA) hw.1
      have he2 := wW_at (ad := ad) (cA := cA) hw2.1
      rw [eW_arr hw.2 (by decide)] at he
      rw [eW_obj hw2.2 (by decide)] at he2
      cases go_inv h
      rw [List.map_cons, List.map_cons, List.map_cons, trv_w (show 25 < 40 by decide), trv_w (show 3 < 40 by decide)]
      refine va_astq hx hb hK hP hD hS a0 5 b0 3 he rfl he2 rfl hvp hd (fun H1 locs1 hP1 hD1 hS1 => ?_)
      rw [set_R hw.2 rfl (by decide)] at hP1 hD1
      exact hg ad lsJ H1 locs1 ⟨hP1, hD1, hS1, hl, hn, hk9.1, hk9.2.1, hk9.2.2, h0, h1, hX, hA0⟩
set_option maxHeartbeats 1000000 in
theorem sm_arraylength {p : Program} {l : Launch} {e : Env} {R : Room} {s : State} {m : MethodId} {args : Array Value} {below : List Frame} {meth : Method} {c : Code} {Q : State → Prop} {M : Nat} {G : va_G} {cA : Nat → ClassId} {ex : Nat → Nat → Value} {X : Nat × (Nat → Int32)} {A : Nat → Prop} {nL n0 z0 : Nat} {ad0 : Nat → Nat} {E : Cal} {ret : Option FieldType}  {ln res pc pc' : Nat} {ls st ls' st' : List PV} {σ σ' : St}
    (C : Cx p s m args meth c M G cA ex X A nL) (hd : decode (mT M).2.1 pc = .ok (.arraylength, 1)) (h : stI E ret (.arraylength) ln res pc ls st σ = some (Sum.inl (pc', ls', st', σ')))
    (hg : Good (fun H locs cells slots g => W p l e R s m args below meth c H locs cells slots Q g) m G cA ex X A s.heap n0 z0 nL ad0 pc' ls' st' σ') : Good (fun H locs cells slots g => W p l e R s m args below meth c H locs cells slots Q g) m G cA ex X A s.heap n0 z0 nL ad0 pc ls st σ := by
    intro ad lsJ H locs hr
    obtain ⟨hP, hD, hS, hl, hn, hWT, hTL, hTS, h0, h1, hX, hA0⟩ := hr
    obtain ⟨hx, hb, hml, hown, hnm, htb, hK, hE0, hNW, hA⟩ := C
    have hex := hE0.2.2.1
    unfold stI at h
    dsimp only at h
    obtain ⟨a0, t0, r0, hn1, rfl⟩ := pR_inv h; replace h := hn1; clear hn1
    have hgd := (guard_inv h).1; replace h := (guard_inv h).2
    simp only [Bool.and_eq_true, Bool.or_eq_true, Nat.beq_eq, Nat.ble_eq] at hgd
    rcases hgd with ⟨h20, h25⟩ | rfl | rfl
    · have hw : a0 < len σ ∧ (sh σ a0).1 = t0 := (show t0 < 40 → a0 < len σ ∧ (sh σ a0).1 = t0 from TS_h hTS) (by omega)
      have he := wW_at (ad := ad) (cA := cA) hw.1
      rw [eW_arr hw.2 h20] at he
      cases go_inv h
      rw [List.map_cons, trv_w (show t0 < 40 by omega)]
      have e1 : aLen σ t0 a0 = (sh σ a0).2 := by unfold aLen; rw [if_pos (by omega)]
      have hk2 := hg ad lsJ H locs ⟨hP, hD, hS, hl, hn, hWT, hTL, TS_c wtI (TS_t hTS), h0, h1, hX, hA0⟩
      rw [List.map_cons, e1] at hk2
      have h9 : t0 = 20 ∨ t0 = 21 ∨ t0 = 22 ∨ t0 = 23 ∨ t0 = 24 ∨ t0 = 25 := by omega
      rcases h9 with rfl | rfl | rfl | rfl | rfl | rfl
      · exact va_alen hx hb hK hP a0 0 he rfl rfl hd hk2
      · exact va_alen hx hb hK hP a0 1 he rfl rfl hd hk2
      · exact va_alen hx hb hK hP a0 2 he rfl rfl hd hk2
      · exact va_alen hx hb hK hP a0 3 he rfl rfl hd hk2
      · exact va_alen hx hb hK hP a0 4 he rfl rfl hd hk2
      · exact va_alen hx hb hK hP a0 5 he rfl rfl hd hk2
    · obtain ⟨b, hb1, hb2, hb3, hb4⟩ := hE0.1
      cases go_inv h
      have e1 : trv ad ex (vR a0 40) = .ref b := hb1 a0
      rw [List.map_cons, e1]
      have e2 : aLen σ 40 a0 = X.1 := by rw [← hX]; rfl
      have hk2 := hg ad lsJ H locs ⟨hP, hD, hS, hl, hn, hWT, hTL, TS_c wtI (TS_t hTS), h0, h1, hX, hA0⟩
      rw [List.map_cons, e2] at hk2
      exact va_slen hx hb hb2 hb3 hb4 hS hd hk2
    · cases go_inv h
      obtain ⟨htx, -⟩ := hE0.2.2.2
      obtain ⟨q, v, -, hv, -, -, -, hT⟩ := htx a0
      have e1 : trv ad ex (vR a0 44) = .ref v := hv
      rw [List.map_cons, e1]
      exact va_tlen hx hb hT hS rfl hd (hg ad lsJ H locs ⟨hP, hD, hS, hl, hn, hWT, hTL, TS_c wtI (TS_t hTS), h0, h1, hX, hA0⟩)
set_option maxHeartbeats 1000000 in
theorem sm_ldc {p : Program} {l : Launch} {e : Env} {R : Room} {s : State} {m : MethodId} {args : Array Value} {below : List Frame} {meth : Method} {c : Code} {Q : State → Prop} {M : Nat} {G : va_G} {cA : Nat → ClassId} {ex : Nat → Nat → Value} {X : Nat × (Nat → Int32)} {A : Nat → Prop} {nL n0 z0 : Nat} {ad0 : Nat → Nat} {E : Cal} {ret : Option FieldType} {i0 : Nat} {ln res pc pc' : Nat} {ls st ls' st' : List PV} {σ σ' : St}
    (C : Cx p s m args meth c M G cA ex X A nL) (hd : decode (mT M).2.1 pc = .ok ((.ldc i0), 2)) (h : stI E ret (.ldc i0) ln res pc ls st σ = some (Sum.inl (pc', ls', st', σ'))) (hev : (res % 2).beq 0 = true) (hlk : Jvm.Cond.constant (mT M).1.cls i0 (Int32.ofNat (res / 2)) ∈ TBL)
    (hg : Good (fun H locs cells slots g => W p l e R s m args below meth c H locs cells slots Q g) m G cA ex X A s.heap n0 z0 nL ad0 pc' ls' st' σ') : Good (fun H locs cells slots g => W p l e R s m args below meth c H locs cells slots Q g) m G cA ex X A s.heap n0 z0 nL ad0 pc ls st σ := by
    intro ad lsJ H locs hr
    obtain ⟨hP, hD, hS, hl, hn, hWT, hTL, hTS, h0, h1, hX, hA0⟩ := hr
    obtain ⟨hx, hb, hml, hown, hnm, htb, hK, hE0, hNW, hA⟩ := C
    have hex := hE0.2.2.1
    unfold stI at h
    dsimp only at h
    rw [show (res % 2).beq 0 = true from hev, cond_true] at h
    cases go_inv h
    exact lv_ldc hx hb hown (htb _ hlk) hd (hg ad lsJ H locs ⟨hP, hD, hS, hl, hn, hWT, hTL, TS_c wtI hTS, h0, h1, hX, hA0⟩)
set_option maxHeartbeats 1000000 in
theorem sm_ldcS {p : Program} {l : Launch} {e : Env} {R : Room} {s : State} {m : MethodId} {args : Array Value} {below : List Frame} {meth : Method} {c : Code} {Q : State → Prop} {M : Nat} {G : va_G} {cA : Nat → ClassId} {ex : Nat → Nat → Value} {X : Nat × (Nat → Int32)} {A : Nat → Prop} {nL n0 z0 : Nat} {ad0 : Nat → Nat} {E : Cal} {ret : Option FieldType} {i0 : Nat} {ln res pc pc' : Nat} {ls st ls' st' : List PV} {σ σ' : St}
    (C : Cx p s m args meth c M G cA ex X A nL) (hd : decode (mT M).2.1 pc = .ok ((.ldc i0), 2)) (h : stI E ret (.ldc i0) ln res pc ls st σ = some (Sum.inl (pc', ls', st', σ'))) (hev : (res % 2).beq 0 = false) (htx : txOK (mT M).1.cls i0 (res / 2) = true)
    (hg : Good (fun H locs cells slots g => W p l e R s m args below meth c H locs cells slots Q g) m G cA ex X A s.heap n0 z0 nL ad0 pc' ls' st' σ') : Good (fun H locs cells slots g => W p l e R s m args below meth c H locs cells slots Q g) m G cA ex X A s.heap n0 z0 nL ad0 pc ls st σ := by
    intro ad lsJ H locs hr
    obtain ⟨hP, hD, hS, hl, hn, hWT, hTL, hTS, h0, h1, hX, hA0⟩ := hr
    obtain ⟨hx, hb, hml, hown, hnm, htb, hK, hE0, hNW, hA⟩ := C
    unfold stI at h
    dsimp only at h
    rw [hev, cond_false] at h
    cases go_inv h
    unfold txOK at htx
    cases e : txT[res / 2]? with
    | none => rw [e] at htx; cases htx
    | some w =>
      rw [e] at htx
      simp only [Bool.and_eq_true, decide_eq_true_eq, Nat.beq_eq] at htx
      obtain ⟨e1, rfl⟩ := htx
      obtain ⟨q, hq, hR⟩ := hNW.2.2.2 _ _ e
      have e2 : trv ad ex (vR (res / 2) 46) = .ref q := hq
      have hk3 := hg ad lsJ H locs ⟨hP, hD, hS, hl, hn, hWT, hTL, TS_c (fun q => absurd q (by decide)) hTS, h0, h1, hX, hA0⟩
      rw [← e1] at hR
      exact va_ldcS hx hb hown hR hd (by rw [← e2]; exact hk3)
set_option maxHeartbeats 1000000 in
theorem sm_ldc_w {p : Program} {l : Launch} {e : Env} {R : Room} {s : State} {m : MethodId} {args : Array Value} {below : List Frame} {meth : Method} {c : Code} {Q : State → Prop} {M : Nat} {G : va_G} {cA : Nat → ClassId} {ex : Nat → Nat → Value} {X : Nat × (Nat → Int32)} {A : Nat → Prop} {nL n0 z0 : Nat} {ad0 : Nat → Nat} {E : Cal} {ret : Option FieldType} {i0 : Nat} {ln res pc pc' : Nat} {ls st ls' st' : List PV} {σ σ' : St}
    (C : Cx p s m args meth c M G cA ex X A nL) (hd : decode (mT M).2.1 pc = .ok ((.ldc_w i0), 3)) (h : stI E ret (.ldc_w i0) ln res pc ls st σ = some (Sum.inl (pc', ls', st', σ'))) (hlk : Jvm.Cond.constant (mT M).1.cls i0 (Int32.ofNat (res / 2)) ∈ TBL)
    (hg : Good (fun H locs cells slots g => W p l e R s m args below meth c H locs cells slots Q g) m G cA ex X A s.heap n0 z0 nL ad0 pc' ls' st' σ') : Good (fun H locs cells slots g => W p l e R s m args below meth c H locs cells slots Q g) m G cA ex X A s.heap n0 z0 nL ad0 pc ls st σ := by
    intro ad lsJ H locs hr
    obtain ⟨hP, hD, hS, hl, hn, hWT, hTL, hTS, h0, h1, hX, hA0⟩ := hr
    obtain ⟨hx, hb, hml, hown, hnm, htb, hK, hE0, hNW, hA⟩ := C
    have hex := hE0.2.2.1
    unfold stI at h
    dsimp only at h
    cases go_inv h
    exact lv_ldcw hx hb hown (htb _ hlk) hd (hg ad lsJ H locs ⟨hP, hD, hS, hl, hn, hWT, hTL, TS_c wtI hTS, h0, h1, hX, hA0⟩)
set_option maxHeartbeats 1000000 in
theorem sm_ldc2_w {p : Program} {l : Launch} {e : Env} {R : Room} {s : State} {m : MethodId} {args : Array Value} {below : List Frame} {meth : Method} {c : Code} {Q : State → Prop} {M : Nat} {G : va_G} {cA : Nat → ClassId} {ex : Nat → Nat → Value} {X : Nat × (Nat → Int32)} {A : Nat → Prop} {nL n0 z0 : Nat} {ad0 : Nat → Nat} {E : Cal} {ret : Option FieldType} {i0 : Nat} {ln res pc pc' : Nat} {ls st ls' st' : List PV} {σ σ' : St}
    (C : Cx p s m args meth c M G cA ex X A nL) (hd : decode (mT M).2.1 pc = .ok ((.ldc2_w i0), 3)) (h : stI E ret (.ldc2_w i0) ln res pc ls st σ = some (Sum.inl (pc', ls', st', σ'))) (hlk : Jvm.Cond.constantLong (mT M).1.cls i0 (Int64.ofNat res) ∈ TBL)
    (hg : Good (fun H locs cells slots g => W p l e R s m args below meth c H locs cells slots Q g) m G cA ex X A s.heap n0 z0 nL ad0 pc' ls' st' σ') : Good (fun H locs cells slots g => W p l e R s m args below meth c H locs cells slots Q g) m G cA ex X A s.heap n0 z0 nL ad0 pc ls st σ := by
    intro ad lsJ H locs hr
    obtain ⟨hP, hD, hS, hl, hn, hWT, hTL, hTS, h0, h1, hX, hA0⟩ := hr
    obtain ⟨hx, hb, hml, hown, hnm, htb, hK, hE0, hNW, hA⟩ := C
    have hex := hE0.2.2.1
    unfold stI at h
    dsimp only at h
    cases go_inv h
    exact lv_ldc2 hx hb hown (htb _ hlk) hd (hg ad lsJ H locs ⟨hP, hD, hS, hl, hn, hWT, hTL, TS_c wtL hTS, h0, h1, hX, hA0⟩)
