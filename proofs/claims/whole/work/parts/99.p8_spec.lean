theorem byte_fit {x : Int32} (h : x.toInt8.toInt32 = x) : fits .byte (.int x) = true := ((nar_fit (ty := .byte) (n := 3) rfl).2.2 (by decide) (by decide) x (decide_eq_true h)).2
theorem w_oi : wAt 96 (.instanceMethod objectInit) = true ∧ wAt 97 (.code objectInit ⟨#[0xb1]⟩ 1 none) = true := by constructor <;> decide +kernel
theorem w_ac : wAt 616 (.native arraycopyName) = true ∧ wAt 615 (.static arraycopyName) = true ∧ wAt 86 (.initialized "java/lang/System") = true := by refine ⟨?_, ?_, ?_⟩ <;> decide +kernel
set_option maxHeartbeats 1000000 in
theorem sm_objinit {p : Program} {l : Launch} {e : Env} {R : Room} {s : State} {m : MethodId} {args : Array Value} {below : List Frame} {meth : Method} {c : Code} {Q : State → Prop} {M : Nat} {G : va_G} {cA : Nat → ClassId} {ex : Nat → Nat → Value} {X : Nat × (Nat → Int32)} {A : Nat → Prop} {nL n0 z0 : Nat} {ad0 : Nat → Nat} {E : Cal} {ret : Option FieldType} {i0 : Nat} {ln res pc pc' : Nat} {ls st ls' st' : List PV} {σ σ' : St}
    (C : Cx p s m args meth c M G cA ex X A nL) (hd : decode (mT M).2.1 pc = .ok (.invokespecial i0, 3)) (h : stI E ret (.invokespecial i0) ln res pc ls st σ = some (Sum.inl (pc', ls', st', σ'))) (hna : res.beq 1000 = true) (hlk : Jvm.Cond.methodLink (mT M).1.cls i0 objectInit ∈ TBL) (hR : 1 ≤ R.frames ∧ 100 ≤ R.locals)
    (hg : Good (fun H locs cells slots g => W p l e R s m args below meth c H locs cells slots Q g) m G cA ex X A s.heap n0 z0 nL ad0 pc' ls' st' σ') : Good (fun H locs cells slots g => W p l e R s m args below meth c H locs cells slots Q g) m G cA ex X A s.heap n0 z0 nL ad0 pc ls st σ := by
    intro ad lsJ H locs hr
    obtain ⟨hP, hD, hS, hl, hn, hWT, hTL, hTS, h0, h1, hX, hA0⟩ := hr
    obtain ⟨hx, hb, hml, hown, hnm, htb, hK, hE0, hNW, hA⟩ := C
    have hex := hE0.2.2.1
    unfold stI at h
    dsimp only at h
    rw [hna, cond_true] at h
    obtain ⟨a0, t0, r0, hn1, rfl⟩ := pR_inv h; replace h := hn1; clear hn1
    have hgd := (guard_inv h).1; replace h := (guard_inv h).2
    simp only [Bool.and_eq_true] at hgd
    cases go_inv h
    have ek : trv ad ex (vR a0 t0) = .ref (ad a0) := trv_w (Nat.le_of_ble_eq_true hgd.1)
    have hsum : ((st'.map (trv ad ex)).map fun v => v.category).sum ≤ 8 := by rw [trv_sum hex]; exact Nat.le_of_ble_eq_true hgd.2
    rw [List.map_cons, ek]
    have hroom := lv_room (m := m) (pc := pc) (ls := lsJ) (rest := st'.map (trv ad ex)) hsum
    exact W.objInit hx hb hown (htb _ hlk) (htb _ (TBL_of w_oi.1)) (htb _ (TBL_of w_oi.2)) rfl (hl.1.trans hml.symm) rfl hd hR.1 (by have := hR.2; have h8 : 2 * (F0 m pc lsJ (Value.ref (ad a0) :: st'.map (trv ad ex))).monitorRoom + ((st'.map (trv ad ex)).map fun v => v.category).sum ≤ 8 := lv_room hsum; omega) (hg ad lsJ H locs ⟨hP, hD, hS, hl, hn, hWT, hTL, TS_t hTS, h0, h1, hX, hA0⟩)
set_option maxHeartbeats 1000000 in
theorem sm_copy {p : Program} {l : Launch} {e : Env} {R : Room} {s : State} {m : MethodId} {args : Array Value} {below : List Frame} {meth : Method} {c : Code} {Q : State → Prop} {M : Nat} {G : va_G} {cA : Nat → ClassId} {ex : Nat → Nat → Value} {X : Nat × (Nat → Int32)} {A : Nat → Prop} {nL n0 z0 : Nat} {ad0 : Nat → Nat} {E : Cal} {ret : Option FieldType} {i0 : Nat} {ln res pc pc' : Nat} {ls st ls' st' : List PV} {σ σ' : St}
    (C : Cx p s m args meth c M G cA ex X A nL) (hd : decode (mT M).2.1 pc = .ok (.invokestatic i0, 3)) (h : stI E ret (.invokestatic i0) ln res pc ls st σ = some (Sum.inl (pc', ls', st', σ'))) (hnp : isP res = true) (hna : res.beq 1001 = true) (hlk : Jvm.Cond.methodLink (mT M).1.cls i0 arraycopyName ∈ TBL) (hR : 1 ≤ R.frames ∧ 100 ≤ R.locals)
    (hg : Good (fun H locs cells slots g => W p l e R s m args below meth c H locs cells slots Q g) m G cA ex X A s.heap n0 z0 nL ad0 pc' ls' st' σ') : Good (fun H locs cells slots g => W p l e R s m args below meth c H locs cells slots Q g) m G cA ex X A s.heap n0 z0 nL ad0 pc ls st σ := by
    intro ad lsJ H locs hr
    obtain ⟨hP, hD, hS, hl, hn, hWT, hTL, hTS, h0, h1, hX, hA0⟩ := hr
    obtain ⟨hx, hb, hml, hown, hnm, htb, hK, hE0, hNW, hA⟩ := C
    have hex := hE0.2.2.1
    unfold stI at h
    dsimp only at h
    rw [hnp, cond_true] at h
    unfold primN at h
    rw [hna, cond_true] at h
    obtain ⟨n, dp, b, tb, sp, a, ta, r, rfl, h1a, h2a, h3a, h5a, hcat, ⟨rfl, h4a, ⟨rfl | rfl, hy⟩ | ⟨rfl, hy⟩⟩ | ⟨rfl, rfl, h4a, hy⟩⟩ := copyN_inv h
    · have hwa : a < len σ ∧ (sh σ a).1 = 20 := (show 20 < 40 → a < len σ ∧ (sh σ a).1 = 20 from TS_h (TS_t (TS_t (TS_t (TS_t hTS))))) (by decide)
      have hwb : b < len σ ∧ (sh σ b).1 = 20 := (show 20 < 40 → b < len σ ∧ (sh σ b).1 = 20 from TS_h (TS_t (TS_t hTS))) (by decide)
      have hea := wW_at (ad := ad) (cA := cA) hwa.1
      have heb := wW_at (ad := ad) (cA := cA) hwb.1
      rw [eW_arr hwa.2 (by decide)] at hea
      rw [eW_arr hwb.2 (by decide)] at heb
      cases hy
      have hsum : ((st'.map (trv ad ex)).map fun v => v.category).sum ≤ 8 := by rw [trv_sum hex]; exact hcat
      have e9 : nativeFrameWords "java/lang/System" "arraycopy" 5 = 7 := by decide +kernel
      have h26 : ((st'.map (trv ad ex)).map fun v => v.category).sum + (nativeFrameWords "java/lang/System" "arraycopy" 5 + 11) ≤ R.locals := by rw [e9]; have := hR.2; omega
      rw [List.map_cons, List.map_cons, List.map_cons, List.map_cons, List.map_cons, trv_w (show 20 < 40 by decide), trv_w (show 20 < 40 by decide)]
      refine va_copyi hx hb (hml.trans hl.1.symm) hown (htb _ hlk) (htb _ (TBL_of w_ac.1)) (htb _ (TBL_of w_ac.2.1)) (htb _ (TBL_of w_ac.2.2)) hK hP hD hS a b 0 0 hea heb rfl rfl rfl h1a h2a h3a h4a h5a (fun _ _ => rfl) hR.1 h26 hd (fun H1 locs1 hP1 hD1 hS1 => ?_)
      rw [cpy_I hwb.2 rfl] at hP1 hD1
      exact hg ad lsJ H1 locs1 ⟨hP1, hD1, hS1, hl, hn, WT_cI hWT _ _ _ _ _ (fun q => absurd (hwb.2.symm.trans q) (by decide)), hTL, TS_t (TS_t (TS_t (TS_t (TS_t hTS)))), h0, h1, hX, hA0⟩
    · have hwa : a < len σ ∧ (sh σ a).1 = 23 := (show 23 < 40 → a < len σ ∧ (sh σ a).1 = 23 from TS_h (TS_t (TS_t (TS_t (TS_t hTS))))) (by decide)
      have hwb : b < len σ ∧ (sh σ b).1 = 23 := (show 23 < 40 → b < len σ ∧ (sh σ b).1 = 23 from TS_h (TS_t (TS_t hTS))) (by decide)
      have hea := wW_at (ad := ad) (cA := cA) hwa.1
      have heb := wW_at (ad := ad) (cA := cA) hwb.1
      rw [eW_arr hwa.2 (by decide)] at hea
      rw [eW_arr hwb.2 (by decide)] at heb
      cases hy
      have hsum : ((st'.map (trv ad ex)).map fun v => v.category).sum ≤ 8 := by rw [trv_sum hex]; exact hcat
      have e9 : nativeFrameWords "java/lang/System" "arraycopy" 5 = 7 := by decide +kernel
      have h26 : ((st'.map (trv ad ex)).map fun v => v.category).sum + (nativeFrameWords "java/lang/System" "arraycopy" 5 + 11) ≤ R.locals := by rw [e9]; have := hR.2; omega
      rw [List.map_cons, List.map_cons, List.map_cons, List.map_cons, List.map_cons, trv_w (show 23 < 40 by decide), trv_w (show 23 < 40 by decide)]
      refine va_copyi hx hb (hml.trans hl.1.symm) hown (htb _ hlk) (htb _ (TBL_of w_ac.1)) (htb _ (TBL_of w_ac.2.1)) (htb _ (TBL_of w_ac.2.2)) hK hP hD hS a b 3 3 hea heb rfl rfl rfl h1a h2a h3a h4a h5a (fun i _ => byte_fit ((hWT a hwa.1).2.2.2.2 hwa.2 _)) hR.1 h26 hd (fun H1 locs1 hP1 hD1 hS1 => ?_)
      rw [cpy_B hwb.2 rfl] at hP1 hD1
      exact hg ad lsJ H1 locs1 ⟨hP1, hD1, hS1, hl, hn, WT_cI hWT _ _ _ _ _ (fun _ => (hWT a hwa.1).2.2.2.2 hwa.2), hTL, TS_t (TS_t (TS_t (TS_t (TS_t hTS)))), h0, h1, hX, hA0⟩
    · have hwa : a < len σ ∧ (sh σ a).1 = 21 := (show 21 < 40 → a < len σ ∧ (sh σ a).1 = 21 from TS_h (TS_t (TS_t (TS_t (TS_t hTS))))) (by decide)
      have hwb : b < len σ ∧ (sh σ b).1 = 21 := (show 21 < 40 → b < len σ ∧ (sh σ b).1 = 21 from TS_h (TS_t (TS_t hTS))) (by decide)
      have hea := wW_at (ad := ad) (cA := cA) hwa.1
      have heb := wW_at (ad := ad) (cA := cA) hwb.1
      rw [eW_arr hwa.2 (by decide)] at hea
      rw [eW_arr hwb.2 (by decide)] at heb
      cases hy
      have hsum : ((st'.map (trv ad ex)).map fun v => v.category).sum ≤ 8 := by rw [trv_sum hex]; exact hcat
      have e9 : nativeFrameWords "java/lang/System" "arraycopy" 5 = 7 := by decide +kernel
      have h26 : ((st'.map (trv ad ex)).map fun v => v.category).sum + (nativeFrameWords "java/lang/System" "arraycopy" 5 + 11) ≤ R.locals := by rw [e9]; have := hR.2; omega
      rw [List.map_cons, List.map_cons, List.map_cons, List.map_cons, List.map_cons, trv_w (show 21 < 40 by decide), trv_w (show 21 < 40 by decide)]
      refine va_copyl hx hb (hml.trans hl.1.symm) hown (htb _ hlk) (htb _ (TBL_of w_ac.1)) (htb _ (TBL_of w_ac.2.1)) (htb _ (TBL_of w_ac.2.2)) hK hP hD hS a b 1 1 hea heb rfl rfl rfl h1a h2a h3a h4a h5a (fun _ _ => rfl) hR.1 h26 hd (fun H1 locs1 hP1 hD1 hS1 => ?_)
      rw [cpy_L hwb.2 rfl] at hP1 hD1
      exact hg ad lsJ H1 locs1 ⟨hP1, hD1, hS1, hl, hn, hWT, hTL, TS_t (TS_t (TS_t (TS_t (TS_t hTS)))), h0, h1, hX, hA0⟩
    · have hwb : b < len σ ∧ (sh σ b).1 = 23 := (show 23 < 40 → b < len σ ∧ (sh σ b).1 = 23 from TS_h (TS_t (TS_t hTS))) (by decide)
      have heb := wW_at (ad := ad) (cA := cA) hwb.1
      rw [eW_arr hwb.2 (by decide)] at heb
      obtain ⟨htx, -⟩ := hE0.2.2.2
      obtain ⟨q, v, -, hv, -, -, -, hT⟩ := htx a
      have ev : trv ad ex (vR a 44) = .ref v := hv
      cases hy
      have hsum : ((st'.map (trv ad ex)).map fun v => v.category).sum ≤ 8 := by rw [trv_sum hex]; exact hcat
      have e9 : nativeFrameWords "java/lang/System" "arraycopy" 5 = 7 := by decide +kernel
      have h26 : ((st'.map (trv ad ex)).map fun v => v.category).sum + (nativeFrameWords "java/lang/System" "arraycopy" 5 + 11) ≤ R.locals := by rw [e9]; have := hR.2; omega
      rw [List.map_cons, List.map_cons, List.map_cons, List.map_cons, List.map_cons, ev, trv_w (show 23 < 40 by decide)]
      refine vk_copyt hx hb (hml.trans hl.1.symm) hown (htb _ hlk) (htb _ (TBL_of w_ac.1)) (htb _ (TBL_of w_ac.2.1)) (htb _ (TBL_of w_ac.2.2)) hK hP hD hS hT b 3 heb rfl h1a h2a h3a h4a h5a (fun i _ => byte_fit (tx_8 a _)) hR.1 h26 hd (fun H1 locs1 hP1 hD1 hS1 => ?_)
      have e7 : (fun j => Int32.ofNat ((txL a).getD j 0)) = (xa σ 44 a).2 := rfl
      rw [e7, cpy_X hwb.2 rfl] at hP1 hD1
      exact hg ad lsJ H1 locs1 ⟨hP1, hD1, hS1, hl, hn, WT_cX hWT _ _ _ _ _, hTL, TS_t (TS_t (TS_t (TS_t (TS_t hTS)))), h0, h1, hX, hA0⟩
theorem w_mm : wAt 81 (.initialized "java/lang/Math") = true ∧ (wAt 413 (.static Lib.Math.max.name) = true ∧ wAt 414 (.code Lib.Math.max.name Lib.Math.max.code 2 (some .int)) = true) ∧ (wAt 398 (.static Lib.Math.min.name) = true ∧ wAt 399 (.code Lib.Math.min.name Lib.Math.min.code 2 (some .int)) = true) ∧ (wAt 919 (.static Lib.MathLoose.max_long.x) = true ∧ wAt 920 (.code Lib.MathLoose.max_long.x Lib.MathLoose.max_long.code 4 (some .long)) = true) := by refine ⟨?_, ⟨?_, ?_⟩, ⟨?_, ?_⟩, ⟨?_, ?_⟩⟩ <;> decide +kernel
theorem sm_mmax {p : Program} {l : Launch} {e : Env} {R : Room} {s : State} {m : MethodId} {args : Array Value} {below : List Frame} {meth : Method} {c : Code} {Q : State → Prop} {M : Nat} {G : va_G} {cA : Nat → ClassId} {ex : Nat → Nat → Value} {X : Nat × (Nat → Int32)} {A : Nat → Prop} {nL n0 z0 : Nat} {ad0 : Nat → Nat} {E : Cal} {ret : Option FieldType} {i0 : Nat} {ln res pc pc' : Nat} {ls st ls' st' : List PV} {σ σ' : St}
    (C : Cx p s m args meth c M G cA ex X A nL) (hd : decode (mT M).2.1 pc = .ok (.invokestatic i0, 3)) (h : stI E ret (.invokestatic i0) ln res pc ls st σ = some (Sum.inl (pc', ls', st', σ'))) (hnp : isP res = true) (hna : res.beq 1002 = true) (hlk : Jvm.Cond.methodLink (mT M).1.cls i0 Lib.Math.max.name ∈ TBL) (hR : 1 ≤ R.frames ∧ 100 ≤ R.locals) (hroom : len σ' - n0 ≤ R.cells ∧ slo σ' - z0 ≤ R.slots)
    (hg : Good (fun H locs cells slots g => W p l e R s m args below meth c H locs cells slots Q g) m G cA ex X A s.heap n0 z0 nL ad0 pc' ls' st' σ') : Good (fun H locs cells slots g => W p l e R s m args below meth c H locs cells slots Q g) m G cA ex X A s.heap n0 z0 nL ad0 pc ls st σ := by
    intro ad lsJ H locs hr
    obtain ⟨hP, hD, hS, hl, hn, hWT, hTL, hTS, h0, h1, hX, hA0⟩ := hr
    obtain ⟨hx, hb, hml, hown, hnm, htb, hK, hE0, hNW, hA⟩ := C
    have hex := hE0.2.2.1
    unfold stI at h
    dsimp only at h
    rw [hnp, cond_true] at h
    have hres := Nat.eq_of_beq_eq_true hna
    subst hres
    replace h : (pI st fun y r => pI r fun x r => guard (Nat.ble (catS r) 8) (go (pc + 3) ls (vI (if x < y then y else x) :: r) σ)) = some (Sum.inl (pc', ls', st', σ')) := h
    obtain ⟨y0, r0, hn1, rfl⟩ := pI_inv h; replace h := hn1; clear hn1
    obtain ⟨x0, r1, hn1, rfl⟩ := pI_inv h; replace h := hn1; clear hn1
    have hgd := (guard_inv h).1; replace h := (guard_inv h).2
    cases go_inv h
    have hsum : ((r1.map (trv ad ex)).map fun v => v.category).sum ≤ 8 := by rw [trv_sum hex]; exact Nat.le_of_ble_eq_true hgd
    exact va_mmax hx hb (hml.trans hl.1.symm) hown (htb _ hlk) (htb _ (TBL_of w_mm.2.1.1)) (htb _ (TBL_of w_mm.1)) (htb _ (TBL_of w_mm.2.1.2)) hR.1 (by have := hR.2; omega) hroom.1 hroom.2 hd (hg ad lsJ H locs ⟨hP, hD, hS, hl, hn, hWT, hTL, TS_c wtI (TS_t (TS_t hTS)), h0, h1, hX, hA0⟩)
theorem sm_mmin {p : Program} {l : Launch} {e : Env} {R : Room} {s : State} {m : MethodId} {args : Array Value} {below : List Frame} {meth : Method} {c : Code} {Q : State → Prop} {M : Nat} {G : va_G} {cA : Nat → ClassId} {ex : Nat → Nat → Value} {X : Nat × (Nat → Int32)} {A : Nat → Prop} {nL n0 z0 : Nat} {ad0 : Nat → Nat} {E : Cal} {ret : Option FieldType} {i0 : Nat} {ln res pc pc' : Nat} {ls st ls' st' : List PV} {σ σ' : St}
    (C : Cx p s m args meth c M G cA ex X A nL) (hd : decode (mT M).2.1 pc = .ok (.invokestatic i0, 3)) (h : stI E ret (.invokestatic i0) ln res pc ls st σ = some (Sum.inl (pc', ls', st', σ'))) (hnp : isP res = true) (hna : res.beq 1003 = true) (hlk : Jvm.Cond.methodLink (mT M).1.cls i0 Lib.Math.min.name ∈ TBL) (hR : 1 ≤ R.frames ∧ 100 ≤ R.locals) (hroom : len σ' - n0 ≤ R.cells ∧ slo σ' - z0 ≤ R.slots)
    (hg : Good (fun H locs cells slots g => W p l e R s m args below meth c H locs cells slots Q g) m G cA ex X A s.heap n0 z0 nL ad0 pc' ls' st' σ') : Good (fun H locs cells slots g => W p l e R s m args below meth c H locs cells slots Q g) m G cA ex X A s.heap n0 z0 nL ad0 pc ls st σ := by
    intro ad lsJ H locs hr
    obtain ⟨hP, hD, hS, hl, hn, hWT, hTL, hTS, h0, h1, hX, hA0⟩ := hr
    obtain ⟨hx, hb, hml, hown, hnm, htb, hK, hE0, hNW, hA⟩ := C
    have hex := hE0.2.2.1
    unfold stI at h
    dsimp only at h
    rw [hnp, cond_true] at h
    have hres := Nat.eq_of_beq_eq_true hna
    subst hres
    replace h : (pI st fun y r => pI r fun x r => guard (Nat.ble (catS r) 8) (go (pc + 3) ls (vI (if y < x then y else x) :: r) σ)) = some (Sum.inl (pc', ls', st', σ')) := h
    obtain ⟨y0, r0, hn1, rfl⟩ := pI_inv h; replace h := hn1; clear hn1
    obtain ⟨x0, r1, hn1, rfl⟩ := pI_inv h; replace h := hn1; clear hn1
    have hgd := (guard_inv h).1; replace h := (guard_inv h).2
    cases go_inv h
    have hsum : ((r1.map (trv ad ex)).map fun v => v.category).sum ≤ 8 := by rw [trv_sum hex]; exact Nat.le_of_ble_eq_true hgd
    exact va_mmin hx hb (hml.trans hl.1.symm) hown (htb _ hlk) (htb _ (TBL_of w_mm.2.2.1.1)) (htb _ (TBL_of w_mm.1)) (htb _ (TBL_of w_mm.2.2.1.2)) hR.1 (by have := hR.2; omega) hroom.1 hroom.2 hd (hg ad lsJ H locs ⟨hP, hD, hS, hl, hn, hWT, hTL, TS_c wtI (TS_t (TS_t hTS)), h0, h1, hX, hA0⟩)
theorem sm_lmax {p : Program} {l : Launch} {e : Env} {R : Room} {s : State} {m : MethodId} {args : Array Value} {below : List Frame} {meth : Method} {c : Code} {Q : State → Prop} {M : Nat} {G : va_G} {cA : Nat → ClassId} {ex : Nat → Nat → Value} {X : Nat × (Nat → Int32)} {A : Nat → Prop} {nL n0 z0 : Nat} {ad0 : Nat → Nat} {E : Cal} {ret : Option FieldType} {i0 : Nat} {ln res pc pc' : Nat} {ls st ls' st' : List PV} {σ σ' : St}
    (C : Cx p s m args meth c M G cA ex X A nL) (hd : decode (mT M).2.1 pc = .ok (.invokestatic i0, 3)) (h : stI E ret (.invokestatic i0) ln res pc ls st σ = some (Sum.inl (pc', ls', st', σ'))) (hnp : isP res = true) (hna : res.beq 1004 = true) (hlk : Jvm.Cond.methodLink (mT M).1.cls i0 Lib.MathLoose.max_long.x ∈ TBL) (hR : 1 ≤ R.frames ∧ 100 ≤ R.locals) (hroom : len σ' - n0 ≤ R.cells ∧ slo σ' - z0 ≤ R.slots)
    (hg : Good (fun H locs cells slots g => W p l e R s m args below meth c H locs cells slots Q g) m G cA ex X A s.heap n0 z0 nL ad0 pc' ls' st' σ') : Good (fun H locs cells slots g => W p l e R s m args below meth c H locs cells slots Q g) m G cA ex X A s.heap n0 z0 nL ad0 pc ls st σ := by
    intro ad lsJ H locs hr
    obtain ⟨hP, hD, hS, hl, hn, hWT, hTL, hTS, h0, h1, hX, hA0⟩ := hr
    obtain ⟨hx, hb, hml, hown, hnm, htb, hK, hE0, hNW, hA⟩ := C
    have hex := hE0.2.2.1
    unfold stI at h
    dsimp only at h
    rw [hnp, cond_true] at h
    have hres := Nat.eq_of_beq_eq_true hna
    subst hres
    replace h : (pL st fun y r => pL r fun x r => guard (Nat.ble (catS r) 8) (go (pc + 3) ls (vL (if y < x then x else y) :: r) σ)) = some (Sum.inl (pc', ls', st', σ')) := h
    obtain ⟨y0, r0, hn1, rfl⟩ := pL_inv h; replace h := hn1; clear hn1
    obtain ⟨x0, r1, hn1, rfl⟩ := pL_inv h; replace h := hn1; clear hn1
    have hgd := (guard_inv h).1; replace h := (guard_inv h).2
    cases go_inv h
    have hsum : ((r1.map (trv ad ex)).map fun v => v.category).sum ≤ 8 := by rw [trv_sum hex]; exact Nat.le_of_ble_eq_true hgd
    exact va_mmax_long hx hb (hml.trans hl.1.symm) hown (htb _ hlk) (htb _ (TBL_of w_mm.2.2.2.1)) (htb _ (TBL_of w_mm.1)) (htb _ (TBL_of w_mm.2.2.2.2)) hR.1 (by have := hR.2; omega) hroom.1 hroom.2 hd (hg ad lsJ H locs ⟨hP, hD, hS, hl, hn, hWT, hTL, TS_c wtL (TS_t (TS_t hTS)), h0, h1, hX, hA0⟩)
