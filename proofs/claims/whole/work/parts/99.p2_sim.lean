-- instructions without memory (by program: wip/whole/gen10.py)
set_option maxHeartbeats 1000000 in
theorem sm_iconst {p : Program} {l : Launch} {e : Env} {R : Room} {s : State} {m : MethodId} {args : Array Value} {below : List Frame} {meth : Method} {c : Code} {Q : State → Prop} {M : Nat} {G : va_G} {cA : Nat → ClassId} {ex : Nat → Nat → Value} {X : Nat × (Nat → Int32)} {A : Nat → Prop} {nL n0 z0 : Nat} {ad0 : Nat → Nat} {E : Cal} {ret : Option FieldType} {i0 : Int} {ln res pc pc' : Nat} {ls st ls' st' : List PV} {σ σ' : St}
    (C : Cx p s m args meth c M G cA ex X A nL) (hd : decode (mT M).2.1 pc = .ok ((.iconst i0), 1)) (h : stI E ret (.iconst i0) ln res pc ls st σ = some (Sum.inl (pc', ls', st', σ')))
    (hg : Good (fun H locs cells slots g => W p l e R s m args below meth c H locs cells slots Q g) m G cA ex X A s.heap n0 z0 nL ad0 pc' ls' st' σ') : Good (fun H locs cells slots g => W p l e R s m args below meth c H locs cells slots Q g) m G cA ex X A s.heap n0 z0 nL ad0 pc ls st σ := by
    intro ad lsJ H locs hr
    obtain ⟨hP, hD, hS, hl, hn, hWT, hTL, hTS, h0, h1, hX, hA0⟩ := hr
    obtain ⟨hx, hb, hml, hown, hnm, htb, hK, hE0, hNW, hA⟩ := C
    have hex := hE0.2.2.1
    unfold stI at h
    dsimp only at h
    cases go_inv h
    exact lv_iconst hx hb hd rfl (hg ad lsJ H locs ⟨hP, hD, hS, hl, hn, hWT, hTL, TS_c wtI hTS, h0, h1, hX, hA0⟩)
set_option maxHeartbeats 1000000 in
theorem sm_bipush {p : Program} {l : Launch} {e : Env} {R : Room} {s : State} {m : MethodId} {args : Array Value} {below : List Frame} {meth : Method} {c : Code} {Q : State → Prop} {M : Nat} {G : va_G} {cA : Nat → ClassId} {ex : Nat → Nat → Value} {X : Nat × (Nat → Int32)} {A : Nat → Prop} {nL n0 z0 : Nat} {ad0 : Nat → Nat} {E : Cal} {ret : Option FieldType} {i0 : Int} {ln res pc pc' : Nat} {ls st ls' st' : List PV} {σ σ' : St}
    (C : Cx p s m args meth c M G cA ex X A nL) (hd : decode (mT M).2.1 pc = .ok ((.bipush i0), 2)) (h : stI E ret (.bipush i0) ln res pc ls st σ = some (Sum.inl (pc', ls', st', σ')))
    (hg : Good (fun H locs cells slots g => W p l e R s m args below meth c H locs cells slots Q g) m G cA ex X A s.heap n0 z0 nL ad0 pc' ls' st' σ') : Good (fun H locs cells slots g => W p l e R s m args below meth c H locs cells slots Q g) m G cA ex X A s.heap n0 z0 nL ad0 pc ls st σ := by
    intro ad lsJ H locs hr
    obtain ⟨hP, hD, hS, hl, hn, hWT, hTL, hTS, h0, h1, hX, hA0⟩ := hr
    obtain ⟨hx, hb, hml, hown, hnm, htb, hK, hE0, hNW, hA⟩ := C
    have hex := hE0.2.2.1
    unfold stI at h
    dsimp only at h
    cases go_inv h
    exact lv_bipush hx hb hd rfl (hg ad lsJ H locs ⟨hP, hD, hS, hl, hn, hWT, hTL, TS_c wtI hTS, h0, h1, hX, hA0⟩)
set_option maxHeartbeats 1000000 in
theorem sm_sipush {p : Program} {l : Launch} {e : Env} {R : Room} {s : State} {m : MethodId} {args : Array Value} {below : List Frame} {meth : Method} {c : Code} {Q : State → Prop} {M : Nat} {G : va_G} {cA : Nat → ClassId} {ex : Nat → Nat → Value} {X : Nat × (Nat → Int32)} {A : Nat → Prop} {nL n0 z0 : Nat} {ad0 : Nat → Nat} {E : Cal} {ret : Option FieldType} {i0 : Int} {ln res pc pc' : Nat} {ls st ls' st' : List PV} {σ σ' : St}
    (C : Cx p s m args meth c M G cA ex X A nL) (hd : decode (mT M).2.1 pc = .ok ((.sipush i0), 3)) (h : stI E ret (.sipush i0) ln res pc ls st σ = some (Sum.inl (pc', ls', st', σ')))
    (hg : Good (fun H locs cells slots g => W p l e R s m args below meth c H locs cells slots Q g) m G cA ex X A s.heap n0 z0 nL ad0 pc' ls' st' σ') : Good (fun H locs cells slots g => W p l e R s m args below meth c H locs cells slots Q g) m G cA ex X A s.heap n0 z0 nL ad0 pc ls st σ := by
    intro ad lsJ H locs hr
    obtain ⟨hP, hD, hS, hl, hn, hWT, hTL, hTS, h0, h1, hX, hA0⟩ := hr
    obtain ⟨hx, hb, hml, hown, hnm, htb, hK, hE0, hNW, hA⟩ := C
    have hex := hE0.2.2.1
    unfold stI at h
    dsimp only at h
    cases go_inv h
    exact lv_sipush hx hb hd rfl (hg ad lsJ H locs ⟨hP, hD, hS, hl, hn, hWT, hTL, TS_c wtI hTS, h0, h1, hX, hA0⟩)
set_option maxHeartbeats 1000000 in
theorem sm_lconst {p : Program} {l : Launch} {e : Env} {R : Room} {s : State} {m : MethodId} {args : Array Value} {below : List Frame} {meth : Method} {c : Code} {Q : State → Prop} {M : Nat} {G : va_G} {cA : Nat → ClassId} {ex : Nat → Nat → Value} {X : Nat × (Nat → Int32)} {A : Nat → Prop} {nL n0 z0 : Nat} {ad0 : Nat → Nat} {E : Cal} {ret : Option FieldType} {i0 : Fin 2} {ln res pc pc' : Nat} {ls st ls' st' : List PV} {σ σ' : St}
    (C : Cx p s m args meth c M G cA ex X A nL) (hd : decode (mT M).2.1 pc = .ok ((.lconst i0), 1)) (h : stI E ret (.lconst i0) ln res pc ls st σ = some (Sum.inl (pc', ls', st', σ')))
    (hg : Good (fun H locs cells slots g => W p l e R s m args below meth c H locs cells slots Q g) m G cA ex X A s.heap n0 z0 nL ad0 pc' ls' st' σ') : Good (fun H locs cells slots g => W p l e R s m args below meth c H locs cells slots Q g) m G cA ex X A s.heap n0 z0 nL ad0 pc ls st σ := by
    intro ad lsJ H locs hr
    obtain ⟨hP, hD, hS, hl, hn, hWT, hTL, hTS, h0, h1, hX, hA0⟩ := hr
    obtain ⟨hx, hb, hml, hown, hnm, htb, hK, hE0, hNW, hA⟩ := C
    have hex := hE0.2.2.1
    unfold stI at h
    dsimp only at h
    cases go_inv h
    exact lv_lconst hx hb hd rfl (hg ad lsJ H locs ⟨hP, hD, hS, hl, hn, hWT, hTL, TS_c wtL hTS, h0, h1, hX, hA0⟩)
set_option maxHeartbeats 1000000 in
theorem sm_iload_n {p : Program} {l : Launch} {e : Env} {R : Room} {s : State} {m : MethodId} {args : Array Value} {below : List Frame} {meth : Method} {c : Code} {Q : State → Prop} {M : Nat} {G : va_G} {cA : Nat → ClassId} {ex : Nat → Nat → Value} {X : Nat × (Nat → Int32)} {A : Nat → Prop} {nL n0 z0 : Nat} {ad0 : Nat → Nat} {E : Cal} {ret : Option FieldType} {i0 : Fin 4} {ln res pc pc' : Nat} {ls st ls' st' : List PV} {σ σ' : St}
    (C : Cx p s m args meth c M G cA ex X A nL) (hd : decode (mT M).2.1 pc = .ok ((.iload_n i0), 1)) (h : stI E ret (.iload_n i0) ln res pc ls st σ = some (Sum.inl (pc', ls', st', σ')))
    (hg : Good (fun H locs cells slots g => W p l e R s m args below meth c H locs cells slots Q g) m G cA ex X A s.heap n0 z0 nL ad0 pc' ls' st' σ') : Good (fun H locs cells slots g => W p l e R s m args below meth c H locs cells slots Q g) m G cA ex X A s.heap n0 z0 nL ad0 pc ls st σ := by
    intro ad lsJ H locs hr
    obtain ⟨hP, hD, hS, hl, hn, hWT, hTL, hTS, h0, h1, hX, hA0⟩ := hr
    obtain ⟨hx, hb, hml, hown, hnm, htb, hK, hE0, hNW, hA⟩ := C
    have hex := hE0.2.2.1
    unfold stI at h
    dsimp only at h
    obtain ⟨x0, hx0, h⟩ := ldI_inv h
    cases go_inv h
    exact lv_iload_n hx hb hd rfl (lvl_at (v := vI x0) hl hx0 rfl) (hg ad lsJ H locs ⟨hP, hD, hS, hl, hn, hWT, hTL, TS_c wtI hTS, h0, h1, hX, hA0⟩)
set_option maxHeartbeats 1000000 in
theorem sm_iload {p : Program} {l : Launch} {e : Env} {R : Room} {s : State} {m : MethodId} {args : Array Value} {below : List Frame} {meth : Method} {c : Code} {Q : State → Prop} {M : Nat} {G : va_G} {cA : Nat → ClassId} {ex : Nat → Nat → Value} {X : Nat × (Nat → Int32)} {A : Nat → Prop} {nL n0 z0 : Nat} {ad0 : Nat → Nat} {E : Cal} {ret : Option FieldType} {i0 : Nat} {ln res pc pc' : Nat} {ls st ls' st' : List PV} {σ σ' : St}
    (C : Cx p s m args meth c M G cA ex X A nL) (hd : decode (mT M).2.1 pc = .ok ((.iload i0), 2)) (h : stI E ret (.iload i0) ln res pc ls st σ = some (Sum.inl (pc', ls', st', σ')))
    (hg : Good (fun H locs cells slots g => W p l e R s m args below meth c H locs cells slots Q g) m G cA ex X A s.heap n0 z0 nL ad0 pc' ls' st' σ') : Good (fun H locs cells slots g => W p l e R s m args below meth c H locs cells slots Q g) m G cA ex X A s.heap n0 z0 nL ad0 pc ls st σ := by
    intro ad lsJ H locs hr
    obtain ⟨hP, hD, hS, hl, hn, hWT, hTL, hTS, h0, h1, hX, hA0⟩ := hr
    obtain ⟨hx, hb, hml, hown, hnm, htb, hK, hE0, hNW, hA⟩ := C
    have hex := hE0.2.2.1
    unfold stI at h
    dsimp only at h
    obtain ⟨x0, hx0, h⟩ := ldI_inv h
    cases go_inv h
    exact lv_iload hx hb hd  (lvl_at (v := vI x0) hl hx0 rfl) (hg ad lsJ H locs ⟨hP, hD, hS, hl, hn, hWT, hTL, TS_c wtI hTS, h0, h1, hX, hA0⟩)
set_option maxHeartbeats 1000000 in
theorem sm_lload_n {p : Program} {l : Launch} {e : Env} {R : Room} {s : State} {m : MethodId} {args : Array Value} {below : List Frame} {meth : Method} {c : Code} {Q : State → Prop} {M : Nat} {G : va_G} {cA : Nat → ClassId} {ex : Nat → Nat → Value} {X : Nat × (Nat → Int32)} {A : Nat → Prop} {nL n0 z0 : Nat} {ad0 : Nat → Nat} {E : Cal} {ret : Option FieldType} {i0 : Fin 4} {ln res pc pc' : Nat} {ls st ls' st' : List PV} {σ σ' : St}
    (C : Cx p s m args meth c M G cA ex X A nL) (hd : decode (mT M).2.1 pc = .ok ((.lload_n i0), 1)) (h : stI E ret (.lload_n i0) ln res pc ls st σ = some (Sum.inl (pc', ls', st', σ')))
    (hg : Good (fun H locs cells slots g => W p l e R s m args below meth c H locs cells slots Q g) m G cA ex X A s.heap n0 z0 nL ad0 pc' ls' st' σ') : Good (fun H locs cells slots g => W p l e R s m args below meth c H locs cells slots Q g) m G cA ex X A s.heap n0 z0 nL ad0 pc ls st σ := by
    intro ad lsJ H locs hr
    obtain ⟨hP, hD, hS, hl, hn, hWT, hTL, hTS, h0, h1, hX, hA0⟩ := hr
    obtain ⟨hx, hb, hml, hown, hnm, htb, hK, hE0, hNW, hA⟩ := C
    have hex := hE0.2.2.1
    unfold stI at h
    dsimp only at h
    obtain ⟨x0, hx0, h⟩ := ldL_inv h
    cases go_inv h
    exact lv_lload_n hx hb hd rfl (lvl_at (v := vL x0) hl hx0 rfl) (hg ad lsJ H locs ⟨hP, hD, hS, hl, hn, hWT, hTL, TS_c wtL hTS, h0, h1, hX, hA0⟩)
set_option maxHeartbeats 1000000 in
theorem sm_lload {p : Program} {l : Launch} {e : Env} {R : Room} {s : State} {m : MethodId} {args : Array Value} {below : List Frame} {meth : Method} {c : Code} {Q : State → Prop} {M : Nat} {G : va_G} {cA : Nat → ClassId} {ex : Nat → Nat → Value} {X : Nat × (Nat → Int32)} {A : Nat → Prop} {nL n0 z0 : Nat} {ad0 : Nat → Nat} {E : Cal} {ret : Option FieldType} {i0 : Nat} {ln res pc pc' : Nat} {ls st ls' st' : List PV} {σ σ' : St}
    (C : Cx p s m args meth c M G cA ex X A nL) (hd : decode (mT M).2.1 pc = .ok ((.lload i0), 2)) (h : stI E ret (.lload i0) ln res pc ls st σ = some (Sum.inl (pc', ls', st', σ')))
    (hg : Good (fun H locs cells slots g => W p l e R s m args below meth c H locs cells slots Q g) m G cA ex X A s.heap n0 z0 nL ad0 pc' ls' st' σ') : Good (fun H locs cells slots g => W p l e R s m args below meth c H locs cells slots Q g) m G cA ex X A s.heap n0 z0 nL ad0 pc ls st σ := by
    intro ad lsJ H locs hr
    obtain ⟨hP, hD, hS, hl, hn, hWT, hTL, hTS, h0, h1, hX, hA0⟩ := hr
    obtain ⟨hx, hb, hml, hown, hnm, htb, hK, hE0, hNW, hA⟩ := C
    have hex := hE0.2.2.1
    unfold stI at h
    dsimp only at h
    obtain ⟨x0, hx0, h⟩ := ldL_inv h
    cases go_inv h
    exact lv_lload hx hb hd  (lvl_at (v := vL x0) hl hx0 rfl) (hg ad lsJ H locs ⟨hP, hD, hS, hl, hn, hWT, hTL, TS_c wtL hTS, h0, h1, hX, hA0⟩)
set_option maxHeartbeats 1000000 in
theorem sm_aload_n {p : Program} {l : Launch} {e : Env} {R : Room} {s : State} {m : MethodId} {args : Array Value} {below : List Frame} {meth : Method} {c : Code} {Q : State → Prop} {M : Nat} {G : va_G} {cA : Nat → ClassId} {ex : Nat → Nat → Value} {X : Nat × (Nat → Int32)} {A : Nat → Prop} {nL n0 z0 : Nat} {ad0 : Nat → Nat} {E : Cal} {ret : Option FieldType} {i0 : Fin 4} {ln res pc pc' : Nat} {ls st ls' st' : List PV} {σ σ' : St}
    (C : Cx p s m args meth c M G cA ex X A nL) (hd : decode (mT M).2.1 pc = .ok ((.aload_n i0), 1)) (h : stI E ret (.aload_n i0) ln res pc ls st σ = some (Sum.inl (pc', ls', st', σ')))
    (hg : Good (fun H locs cells slots g => W p l e R s m args below meth c H locs cells slots Q g) m G cA ex X A s.heap n0 z0 nL ad0 pc' ls' st' σ') : Good (fun H locs cells slots g => W p l e R s m args below meth c H locs cells slots Q g) m G cA ex X A s.heap n0 z0 nL ad0 pc ls st σ := by
    intro ad lsJ H locs hr
    obtain ⟨hP, hD, hS, hl, hn, hWT, hTL, hTS, h0, h1, hX, hA0⟩ := hr
    obtain ⟨hx, hb, hml, hown, hnm, htb, hK, hE0, hNW, hA⟩ := C
    have hex := hE0.2.2.1
    unfold stI at h
    dsimp only at h
    obtain ⟨a0, t0, hx0, h⟩ := ldR_inv h
    cases go_inv h
    have hv := lvl_at (v := vR a0 t0) hl hx0 rfl
    have hk := hg ad lsJ H locs ⟨hP, hD, hS, hl, hn, hWT, hTL, TS_c (TS_at hTL hx0) hTS, h0, h1, hX, hA0⟩
    rw [List.map_cons] at hk
    rcases trv_ref (ad := ad) hex a0 t0 with ⟨b, hb0⟩ | hb0
    · rw [hb0] at hv hk; exact lv_aload_n hx hb hd rfl hv hk
    · rw [hb0] at hv hk; exact lv_aload_nN hx hb hd rfl hv hk
set_option maxHeartbeats 1000000 in
theorem sm_aload {p : Program} {l : Launch} {e : Env} {R : Room} {s : State} {m : MethodId} {args : Array Value} {below : List Frame} {meth : Method} {c : Code} {Q : State → Prop} {M : Nat} {G : va_G} {cA : Nat → ClassId} {ex : Nat → Nat → Value} {X : Nat × (Nat → Int32)} {A : Nat → Prop} {nL n0 z0 : Nat} {ad0 : Nat → Nat} {E : Cal} {ret : Option FieldType} {i0 : Nat} {ln res pc pc' : Nat} {ls st ls' st' : List PV} {σ σ' : St}
    (C : Cx p s m args meth c M G cA ex X A nL) (hd : decode (mT M).2.1 pc = .ok ((.aload i0), 2)) (h : stI E ret (.aload i0) ln res pc ls st σ = some (Sum.inl (pc', ls', st', σ')))
    (hg : Good (fun H locs cells slots g => W p l e R s m args below meth c H locs cells slots Q g) m G cA ex X A s.heap n0 z0 nL ad0 pc' ls' st' σ') : Good (fun H locs cells slots g => W p l e R s m args below meth c H locs cells slots Q g) m G cA ex X A s.heap n0 z0 nL ad0 pc ls st σ := by
    intro ad lsJ H locs hr
    obtain ⟨hP, hD, hS, hl, hn, hWT, hTL, hTS, h0, h1, hX, hA0⟩ := hr
    obtain ⟨hx, hb, hml, hown, hnm, htb, hK, hE0, hNW, hA⟩ := C
    have hex := hE0.2.2.1
    unfold stI at h
    dsimp only at h
    obtain ⟨a0, t0, hx0, h⟩ := ldR_inv h
    cases go_inv h
    have hv := lvl_at (v := vR a0 t0) hl hx0 rfl
    have hk := hg ad lsJ H locs ⟨hP, hD, hS, hl, hn, hWT, hTL, TS_c (TS_at hTL hx0) hTS, h0, h1, hX, hA0⟩
    rw [List.map_cons] at hk
    rcases trv_ref (ad := ad) hex a0 t0 with ⟨b, hb0⟩ | hb0
    · rw [hb0] at hv hk; exact lv_aload hx hb hd  hv hk
    · rw [hb0] at hv hk; exact lv_aloadN hx hb hd  hv hk
set_option maxHeartbeats 1000000 in
theorem sm_istore_n {p : Program} {l : Launch} {e : Env} {R : Room} {s : State} {m : MethodId} {args : Array Value} {below : List Frame} {meth : Method} {c : Code} {Q : State → Prop} {M : Nat} {G : va_G} {cA : Nat → ClassId} {ex : Nat → Nat → Value} {X : Nat × (Nat → Int32)} {A : Nat → Prop} {nL n0 z0 : Nat} {ad0 : Nat → Nat} {E : Cal} {ret : Option FieldType} {i0 : Fin 4} {ln res pc pc' : Nat} {ls st ls' st' : List PV} {σ σ' : St}
    (C : Cx p s m args meth c M G cA ex X A nL) (hd : decode (mT M).2.1 pc = .ok ((.istore_n i0), 1)) (h : stI E ret (.istore_n i0) ln res pc ls st σ = some (Sum.inl (pc', ls', st', σ')))
    (hg : Good (fun H locs cells slots g => W p l e R s m args below meth c H locs cells slots Q g) m G cA ex X A s.heap n0 z0 nL ad0 pc' ls' st' σ') : Good (fun H locs cells slots g => W p l e R s m args below meth c H locs cells slots Q g) m G cA ex X A s.heap n0 z0 nL ad0 pc ls st σ := by
    intro ad lsJ H locs hr
    obtain ⟨hP, hD, hS, hl, hn, hWT, hTL, hTS, h0, h1, hX, hA0⟩ := hr
    obtain ⟨hx, hb, hml, hown, hnm, htb, hK, hE0, hNW, hA⟩ := C
    have hex := hE0.2.2.1
    unfold stI at h
    dsimp only at h
    obtain ⟨x0, r0, hn1, rfl⟩ := pI_inv h; replace h := hn1; clear hn1
    have hgd := (guard_inv h).1; replace h := (guard_inv h).2
    cases go_inv h
    exact lv_istore_n hx hb hd rfl hl (by have := Nat.le_of_ble_eq_true hgd; omega) rfl (fun l2 hl2 => hg ad l2 H locs ⟨hP, hD, hS, lvl_set1 (trv_cat2 hex) rfl hl2, set1_len.trans hn, hWT, TS_set1 hTL wtI, TS_t hTS, h0, h1, hX, hA0⟩)
set_option maxHeartbeats 1000000 in
theorem sm_istore {p : Program} {l : Launch} {e : Env} {R : Room} {s : State} {m : MethodId} {args : Array Value} {below : List Frame} {meth : Method} {c : Code} {Q : State → Prop} {M : Nat} {G : va_G} {cA : Nat → ClassId} {ex : Nat → Nat → Value} {X : Nat × (Nat → Int32)} {A : Nat → Prop} {nL n0 z0 : Nat} {ad0 : Nat → Nat} {E : Cal} {ret : Option FieldType} {i0 : Nat} {ln res pc pc' : Nat} {ls st ls' st' : List PV} {σ σ' : St}
    (C : Cx p s m args meth c M G cA ex X A nL) (hd : decode (mT M).2.1 pc = .ok ((.istore i0), 2)) (h : stI E ret (.istore i0) ln res pc ls st σ = some (Sum.inl (pc', ls', st', σ')))
    (hg : Good (fun H locs cells slots g => W p l e R s m args below meth c H locs cells slots Q g) m G cA ex X A s.heap n0 z0 nL ad0 pc' ls' st' σ') : Good (fun H locs cells slots g => W p l e R s m args below meth c H locs cells slots Q g) m G cA ex X A s.heap n0 z0 nL ad0 pc ls st σ := by
    intro ad lsJ H locs hr
    obtain ⟨hP, hD, hS, hl, hn, hWT, hTL, hTS, h0, h1, hX, hA0⟩ := hr
    obtain ⟨hx, hb, hml, hown, hnm, htb, hK, hE0, hNW, hA⟩ := C
    have hex := hE0.2.2.1
    unfold stI at h
    dsimp only at h
    obtain ⟨x0, r0, hn1, rfl⟩ := pI_inv h; replace h := hn1; clear hn1
    have hgd := (guard_inv h).1; replace h := (guard_inv h).2
    cases go_inv h
    exact lv_istore hx hb hd  hl (by have := Nat.le_of_ble_eq_true hgd; omega) rfl (fun l2 hl2 => hg ad l2 H locs ⟨hP, hD, hS, lvl_set1 (trv_cat2 hex) rfl hl2, set1_len.trans hn, hWT, TS_set1 hTL wtI, TS_t hTS, h0, h1, hX, hA0⟩)
set_option maxHeartbeats 1000000 in
theorem sm_lstore_n {p : Program} {l : Launch} {e : Env} {R : Room} {s : State} {m : MethodId} {args : Array Value} {below : List Frame} {meth : Method} {c : Code} {Q : State → Prop} {M : Nat} {G : va_G} {cA : Nat → ClassId} {ex : Nat → Nat → Value} {X : Nat × (Nat → Int32)} {A : Nat → Prop} {nL n0 z0 : Nat} {ad0 : Nat → Nat} {E : Cal} {ret : Option FieldType} {i0 : Fin 4} {ln res pc pc' : Nat} {ls st ls' st' : List PV} {σ σ' : St}
    (C : Cx p s m args meth c M G cA ex X A nL) (hd : decode (mT M).2.1 pc = .ok ((.lstore_n i0), 1)) (h : stI E ret (.lstore_n i0) ln res pc ls st σ = some (Sum.inl (pc', ls', st', σ')))
    (hg : Good (fun H locs cells slots g => W p l e R s m args below meth c H locs cells slots Q g) m G cA ex X A s.heap n0 z0 nL ad0 pc' ls' st' σ') : Good (fun H locs cells slots g => W p l e R s m args below meth c H locs cells slots Q g) m G cA ex X A s.heap n0 z0 nL ad0 pc ls st σ := by
    intro ad lsJ H locs hr
    obtain ⟨hP, hD, hS, hl, hn, hWT, hTL, hTS, h0, h1, hX, hA0⟩ := hr
    obtain ⟨hx, hb, hml, hown, hnm, htb, hK, hE0, hNW, hA⟩ := C
    have hex := hE0.2.2.1
    unfold stI at h
    dsimp only at h
    obtain ⟨x0, r0, hn1, rfl⟩ := pL_inv h; replace h := hn1; clear hn1
    have hgd := (guard_inv h).1; replace h := (guard_inv h).2
    cases go_inv h
    exact lv_lstore_n hx hb hd rfl hl (by have := Nat.le_of_ble_eq_true hgd; omega) rfl (fun l2 hl2 => hg ad l2 H locs ⟨hP, hD, hS, lvl_set2 (trv_cat2 hex) rfl hl2, set2_len.trans hn, hWT, TS_set2 hTL wtL, TS_t hTS, h0, h1, hX, hA0⟩)
set_option maxHeartbeats 1000000 in
theorem sm_lstore {p : Program} {l : Launch} {e : Env} {R : Room} {s : State} {m : MethodId} {args : Array Value} {below : List Frame} {meth : Method} {c : Code} {Q : State → Prop} {M : Nat} {G : va_G} {cA : Nat → ClassId} {ex : Nat → Nat → Value} {X : Nat × (Nat → Int32)} {A : Nat → Prop} {nL n0 z0 : Nat} {ad0 : Nat → Nat} {E : Cal} {ret : Option FieldType} {i0 : Nat} {ln res pc pc' : Nat} {ls st ls' st' : List PV} {σ σ' : St}
    (C : Cx p s m args meth c M G cA ex X A nL) (hd : decode (mT M).2.1 pc = .ok ((.lstore i0), 2)) (h : stI E ret (.lstore i0) ln res pc ls st σ = some (Sum.inl (pc', ls', st', σ')))
    (hg : Good (fun H locs cells slots g => W p l e R s m args below meth c H locs cells slots Q g) m G cA ex X A s.heap n0 z0 nL ad0 pc' ls' st' σ') : Good (fun H locs cells slots g => W p l e R s m args below meth c H locs cells slots Q g) m G cA ex X A s.heap n0 z0 nL ad0 pc ls st σ := by
    intro ad lsJ H locs hr
    obtain ⟨hP, hD, hS, hl, hn, hWT, hTL, hTS, h0, h1, hX, hA0⟩ := hr
    obtain ⟨hx, hb, hml, hown, hnm, htb, hK, hE0, hNW, hA⟩ := C
    have hex := hE0.2.2.1
    unfold stI at h
    dsimp only at h
    obtain ⟨x0, r0, hn1, rfl⟩ := pL_inv h; replace h := hn1; clear hn1
    have hgd := (guard_inv h).1; replace h := (guard_inv h).2
    cases go_inv h
    exact lv_lstore hx hb hd  hl (by have := Nat.le_of_ble_eq_true hgd; omega) rfl (fun l2 hl2 => hg ad l2 H locs ⟨hP, hD, hS, lvl_set2 (trv_cat2 hex) rfl hl2, set2_len.trans hn, hWT, TS_set2 hTL wtL, TS_t hTS, h0, h1, hX, hA0⟩)
set_option maxHeartbeats 1000000 in
theorem sm_astore_n {p : Program} {l : Launch} {e : Env} {R : Room} {s : State} {m : MethodId} {args : Array Value} {below : List Frame} {meth : Method} {c : Code} {Q : State → Prop} {M : Nat} {G : va_G} {cA : Nat → ClassId} {ex : Nat → Nat → Value} {X : Nat × (Nat → Int32)} {A : Nat → Prop} {nL n0 z0 : Nat} {ad0 : Nat → Nat} {E : Cal} {ret : Option FieldType} {i0 : Fin 4} {ln res pc pc' : Nat} {ls st ls' st' : List PV} {σ σ' : St}
    (C : Cx p s m args meth c M G cA ex X A nL) (hd : decode (mT M).2.1 pc = .ok ((.astore_n i0), 1)) (h : stI E ret (.astore_n i0) ln res pc ls st σ = some (Sum.inl (pc', ls', st', σ')))
    (hg : Good (fun H locs cells slots g => W p l e R s m args below meth c H locs cells slots Q g) m G cA ex X A s.heap n0 z0 nL ad0 pc' ls' st' σ') : Good (fun H locs cells slots g => W p l e R s m args below meth c H locs cells slots Q g) m G cA ex X A s.heap n0 z0 nL ad0 pc ls st σ := by
    intro ad lsJ H locs hr
    obtain ⟨hP, hD, hS, hl, hn, hWT, hTL, hTS, h0, h1, hX, hA0⟩ := hr
    obtain ⟨hx, hb, hml, hown, hnm, htb, hK, hE0, hNW, hA⟩ := C
    have hex := hE0.2.2.1
    unfold stI at h
    dsimp only at h
    obtain ⟨a0, t0, r0, hn1, rfl⟩ := pR_inv h; replace h := hn1; clear hn1
    have hgd := (guard_inv h).1; replace h := (guard_inv h).2
    cases go_inv h
    have hk := fun (l2 : Array Slot) (hl2 : lv_has l2 nL (lvl (trv ad ex) (set1 ls _ (vR a0 t0)) 0)) => hg ad l2 H locs ⟨hP, hD, hS, hl2, set1_len.trans hn, hWT, TS_set1 hTL (TS_h hTS), TS_t hTS, h0, h1, hX, hA0⟩
    rw [List.map_cons]
    rcases trv_ref (ad := ad) hex a0 t0 with ⟨b, hb0⟩ | hb0
    · rw [hb0]; exact lv_astore_n hx hb hd rfl hl (by have := Nat.le_of_ble_eq_true hgd; omega) rfl (fun l2 hl2 => hk l2 (lvl_set1 (trv_cat2 hex) hb0 hl2))
    · rw [hb0]; exact lv_astore_nN hx hb hd rfl hl (by have := Nat.le_of_ble_eq_true hgd; omega) rfl (fun l2 hl2 => hk l2 (lvl_set1 (trv_cat2 hex) hb0 hl2))
set_option maxHeartbeats 1000000 in
theorem sm_astore {p : Program} {l : Launch} {e : Env} {R : Room} {s : State} {m : MethodId} {args : Array Value} {below : List Frame} {meth : Method} {c : Code} {Q : State → Prop} {M : Nat} {G : va_G} {cA : Nat → ClassId} {ex : Nat → Nat → Value} {X : Nat × (Nat → Int32)} {A : Nat → Prop} {nL n0 z0 : Nat} {ad0 : Nat → Nat} {E : Cal} {ret : Option FieldType} {i0 : Nat} {ln res pc pc' : Nat} {ls st ls' st' : List PV} {σ σ' : St}
    (C : Cx p s m args meth c M G cA ex X A nL) (hd : decode (mT M).2.1 pc = .ok ((.astore i0), 2)) (h : stI E ret (.astore i0) ln res pc ls st σ = some (Sum.inl (pc', ls', st', σ')))
    (hg : Good (fun H locs cells slots g => W p l e R s m args below meth c H locs cells slots Q g) m G cA ex X A s.heap n0 z0 nL ad0 pc' ls' st' σ') : Good (fun H locs cells slots g => W p l e R s m args below meth c H locs cells slots Q g) m G cA ex X A s.heap n0 z0 nL ad0 pc ls st σ := by
    intro ad lsJ H locs hr
    obtain ⟨hP, hD, hS, hl, hn, hWT, hTL, hTS, h0, h1, hX, hA0⟩ := hr
    obtain ⟨hx, hb, hml, hown, hnm, htb, hK, hE0, hNW, hA⟩ := C
    have hex := hE0.2.2.1
    unfold stI at h
    dsimp only at h
    obtain ⟨a0, t0, r0, hn1, rfl⟩ := pR_inv h; replace h := hn1; clear hn1
    have hgd := (guard_inv h).1; replace h := (guard_inv h).2
    cases go_inv h
    have hk := fun (l2 : Array Slot) (hl2 : lv_has l2 nL (lvl (trv ad ex) (set1 ls _ (vR a0 t0)) 0)) => hg ad l2 H locs ⟨hP, hD, hS, hl2, set1_len.trans hn, hWT, TS_set1 hTL (TS_h hTS), TS_t hTS, h0, h1, hX, hA0⟩
    rw [List.map_cons]
    rcases trv_ref (ad := ad) hex a0 t0 with ⟨b, hb0⟩ | hb0
    · rw [hb0]; exact lv_astore hx hb hd  hl (by have := Nat.le_of_ble_eq_true hgd; omega) rfl (fun l2 hl2 => hk l2 (lvl_set1 (trv_cat2 hex) hb0 hl2))
    · rw [hb0]; exact lv_astoreN hx hb hd  hl (by have := Nat.le_of_ble_eq_true hgd; omega) rfl (fun l2 hl2 => hk l2 (lvl_set1 (trv_cat2 hex) hb0 hl2))
set_option maxHeartbeats 1000000 in
theorem sm_iinc {p : Program} {l : Launch} {e : Env} {R : Room} {s : State} {m : MethodId} {args : Array Value} {below : List Frame} {meth : Method} {c : Code} {Q : State → Prop} {M : Nat} {G : va_G} {cA : Nat → ClassId} {ex : Nat → Nat → Value} {X : Nat × (Nat → Int32)} {A : Nat → Prop} {nL n0 z0 : Nat} {ad0 : Nat → Nat} {E : Cal} {ret : Option FieldType} {i0 : Nat} {i1 : Int} {ln res pc pc' : Nat} {ls st ls' st' : List PV} {σ σ' : St}
    (C : Cx p s m args meth c M G cA ex X A nL) (hd : decode (mT M).2.1 pc = .ok ((.iinc i0 i1), 3)) (h : stI E ret (.iinc i0 i1) ln res pc ls st σ = some (Sum.inl (pc', ls', st', σ')))
    (hg : Good (fun H locs cells slots g => W p l e R s m args below meth c H locs cells slots Q g) m G cA ex X A s.heap n0 z0 nL ad0 pc' ls' st' σ') : Good (fun H locs cells slots g => W p l e R s m args below meth c H locs cells slots Q g) m G cA ex X A s.heap n0 z0 nL ad0 pc ls st σ := by
    intro ad lsJ H locs hr
    obtain ⟨hP, hD, hS, hl, hn, hWT, hTL, hTS, h0, h1, hX, hA0⟩ := hr
    obtain ⟨hx, hb, hml, hown, hnm, htb, hK, hE0, hNW, hA⟩ := C
    have hex := hE0.2.2.1
    unfold stI at h
    dsimp only at h
    obtain ⟨x0, hx0, h⟩ := ldI_inv h
    have hgd := (guard_inv h).1; replace h := (guard_inv h).2
    cases go_inv h
    have hl3 : lv_has lsJ nL ((i0, .int x0) :: lvl (trv ad ex) ls 0) := ⟨hl.1, hl.2.1, fun q hq => (List.mem_cons.mp hq).elim (fun e => by rw [e]; exact lvl_at (v := vI x0) hl hx0 rfl) (hl.2.2 q)⟩
    refine lv_iinc hx hb hd hl3 (k := 0) rfl rfl (by have := Nat.le_of_ble_eq_true hgd; omega) rfl (fun l2 hl2 => hg ad l2 H locs ⟨hP, hD, hS, lvl_set1 (v := vI (x0 + Int32.ofInt i1)) (trv_cat2 hex) rfl ⟨hl2.1, hl2.2.1, fun q hq => hl2.2.2 q (by rcases List.mem_cons.mp hq with e | e; exact List.mem_cons.mpr (Or.inl e); exact List.mem_cons_of_mem _ (List.mem_filter.mpr ⟨List.mem_cons_of_mem _ (List.mem_filter.mp e).1, (List.mem_filter.mp e).2⟩))⟩, set1_len.trans hn, hWT, TS_set1 hTL wtI, hTS, h0, h1, hX, hA0⟩)
set_option maxHeartbeats 1000000 in
theorem sm_iadd {p : Program} {l : Launch} {e : Env} {R : Room} {s : State} {m : MethodId} {args : Array Value} {below : List Frame} {meth : Method} {c : Code} {Q : State → Prop} {M : Nat} {G : va_G} {cA : Nat → ClassId} {ex : Nat → Nat → Value} {X : Nat × (Nat → Int32)} {A : Nat → Prop} {nL n0 z0 : Nat} {ad0 : Nat → Nat} {E : Cal} {ret : Option FieldType}  {ln res pc pc' : Nat} {ls st ls' st' : List PV} {σ σ' : St}
    (C : Cx p s m args meth c M G cA ex X A nL) (hd : decode (mT M).2.1 pc = .ok (.iadd, 1)) (h : stI E ret (.iadd) ln res pc ls st σ = some (Sum.inl (pc', ls', st', σ')))
    (hg : Good (fun H locs cells slots g => W p l e R s m args below meth c H locs cells slots Q g) m G cA ex X A s.heap n0 z0 nL ad0 pc' ls' st' σ') : Good (fun H locs cells slots g => W p l e R s m args below meth c H locs cells slots Q g) m G cA ex X A s.heap n0 z0 nL ad0 pc ls st σ := by
    intro ad lsJ H locs hr
    obtain ⟨hP, hD, hS, hl, hn, hWT, hTL, hTS, h0, h1, hX, hA0⟩ := hr
    obtain ⟨hx, hb, hml, hown, hnm, htb, hK, hE0, hNW, hA⟩ := C
    have hex := hE0.2.2.1
    unfold stI at h
    dsimp only at h
    obtain ⟨y0, r0, hn1, rfl⟩ := pI_inv h; replace h := hn1; clear hn1
    obtain ⟨x0, r1, hn1, rfl⟩ := pI_inv h; replace h := hn1; clear hn1
    cases go_inv h
    exact lv_iadd hx hb hd (hg ad lsJ H locs ⟨hP, hD, hS, hl, hn, hWT, hTL, TS_c wtI (TS_t (TS_t hTS)), h0, h1, hX, hA0⟩)
set_option maxHeartbeats 1000000 in
theorem sm_isub {p : Program} {l : Launch} {e : Env} {R : Room} {s : State} {m : MethodId} {args : Array Value} {below : List Frame} {meth : Method} {c : Code} {Q : State → Prop} {M : Nat} {G : va_G} {cA : Nat → ClassId} {ex : Nat → Nat → Value} {X : Nat × (Nat → Int32)} {A : Nat → Prop} {nL n0 z0 : Nat} {ad0 : Nat → Nat} {E : Cal} {ret : Option FieldType}  {ln res pc pc' : Nat} {ls st ls' st' : List PV} {σ σ' : St}
    (C : Cx p s m args meth c M G cA ex X A nL) (hd : decode (mT M).2.1 pc = .ok (.isub, 1)) (h : stI E ret (.isub) ln res pc ls st σ = some (Sum.inl (pc', ls', st', σ')))
    (hg : Good (fun H locs cells slots g => W p l e R s m args below meth c H locs cells slots Q g) m G cA ex X A s.heap n0 z0 nL ad0 pc' ls' st' σ') : Good (fun H locs cells slots g => W p l e R s m args below meth c H locs cells slots Q g) m G cA ex X A s.heap n0 z0 nL ad0 pc ls st σ := by
    intro ad lsJ H locs hr
    obtain ⟨hP, hD, hS, hl, hn, hWT, hTL, hTS, h0, h1, hX, hA0⟩ := hr
    obtain ⟨hx, hb, hml, hown, hnm, htb, hK, hE0, hNW, hA⟩ := C
    have hex := hE0.2.2.1
    unfold stI at h
    dsimp only at h
    obtain ⟨y0, r0, hn1, rfl⟩ := pI_inv h; replace h := hn1; clear hn1
    obtain ⟨x0, r1, hn1, rfl⟩ := pI_inv h; replace h := hn1; clear hn1
    cases go_inv h
    exact lv_isub hx hb hd (hg ad lsJ H locs ⟨hP, hD, hS, hl, hn, hWT, hTL, TS_c wtI (TS_t (TS_t hTS)), h0, h1, hX, hA0⟩)
set_option maxHeartbeats 1000000 in
theorem sm_imul {p : Program} {l : Launch} {e : Env} {R : Room} {s : State} {m : MethodId} {args : Array Value} {below : List Frame} {meth : Method} {c : Code} {Q : State → Prop} {M : Nat} {G : va_G} {cA : Nat → ClassId} {ex : Nat → Nat → Value} {X : Nat × (Nat → Int32)} {A : Nat → Prop} {nL n0 z0 : Nat} {ad0 : Nat → Nat} {E : Cal} {ret : Option FieldType}  {ln res pc pc' : Nat} {ls st ls' st' : List PV} {σ σ' : St}
    (C : Cx p s m args meth c M G cA ex X A nL) (hd : decode (mT M).2.1 pc = .ok (.imul, 1)) (h : stI E ret (.imul) ln res pc ls st σ = some (Sum.inl (pc', ls', st', σ')))
    (hg : Good (fun H locs cells slots g => W p l e R s m args below meth c H locs cells slots Q g) m G cA ex X A s.heap n0 z0 nL ad0 pc' ls' st' σ') : Good (fun H locs cells slots g => W p l e R s m args below meth c H locs cells slots Q g) m G cA ex X A s.heap n0 z0 nL ad0 pc ls st σ := by
    intro ad lsJ H locs hr
    obtain ⟨hP, hD, hS, hl, hn, hWT, hTL, hTS, h0, h1, hX, hA0⟩ := hr
    obtain ⟨hx, hb, hml, hown, hnm, htb, hK, hE0, hNW, hA⟩ := C
    have hex := hE0.2.2.1
    unfold stI at h
    dsimp only at h
    obtain ⟨y0, r0, hn1, rfl⟩ := pI_inv h; replace h := hn1; clear hn1
    obtain ⟨x0, r1, hn1, rfl⟩ := pI_inv h; replace h := hn1; clear hn1
    cases go_inv h
    exact lv_imul hx hb hd (hg ad lsJ H locs ⟨hP, hD, hS, hl, hn, hWT, hTL, TS_c wtI (TS_t (TS_t hTS)), h0, h1, hX, hA0⟩)
set_option maxHeartbeats 1000000 in
theorem sm_iand {p : Program} {l : Launch} {e : Env} {R : Room} {s : State} {m : MethodId} {args : Array Value} {below : List Frame} {meth : Method} {c : Code} {Q : State → Prop} {M : Nat} {G : va_G} {cA : Nat → ClassId} {ex : Nat → Nat → Value} {X : Nat × (Nat → Int32)} {A : Nat → Prop} {nL n0 z0 : Nat} {ad0 : Nat → Nat} {E : Cal} {ret : Option FieldType}  {ln res pc pc' : Nat} {ls st ls' st' : List PV} {σ σ' : St}
    (C : Cx p s m args meth c M G cA ex X A nL) (hd : decode (mT M).2.1 pc = .ok (.iand, 1)) (h : stI E ret (.iand) ln res pc ls st σ = some (Sum.inl (pc', ls', st', σ')))
    (hg : Good (fun H locs cells slots g => W p l e R s m args below meth c H locs cells slots Q g) m G cA ex X A s.heap n0 z0 nL ad0 pc' ls' st' σ') : Good (fun H locs cells slots g => W p l e R s m args below meth c H locs cells slots Q g) m G cA ex X A s.heap n0 z0 nL ad0 pc ls st σ := by
    intro ad lsJ H locs hr
    obtain ⟨hP, hD, hS, hl, hn, hWT, hTL, hTS, h0, h1, hX, hA0⟩ := hr
    obtain ⟨hx, hb, hml, hown, hnm, htb, hK, hE0, hNW, hA⟩ := C
    have hex := hE0.2.2.1
    unfold stI at h
    dsimp only at h
    obtain ⟨y0, r0, hn1, rfl⟩ := pI_inv h; replace h := hn1; clear hn1
    obtain ⟨x0, r1, hn1, rfl⟩ := pI_inv h; replace h := hn1; clear hn1
    cases go_inv h
    exact lv_iand hx hb hd (hg ad lsJ H locs ⟨hP, hD, hS, hl, hn, hWT, hTL, TS_c wtI (TS_t (TS_t hTS)), h0, h1, hX, hA0⟩)
set_option maxHeartbeats 1000000 in
theorem sm_ior {p : Program} {l : Launch} {e : Env} {R : Room} {s : State} {m : MethodId} {args : Array Value} {below : List Frame} {meth : Method} {c : Code} {Q : State → Prop} {M : Nat} {G : va_G} {cA : Nat → ClassId} {ex : Nat → Nat → Value} {X : Nat × (Nat → Int32)} {A : Nat → Prop} {nL n0 z0 : Nat} {ad0 : Nat → Nat} {E : Cal} {ret : Option FieldType}  {ln res pc pc' : Nat} {ls st ls' st' : List PV} {σ σ' : St}
    (C : Cx p s m args meth c M G cA ex X A nL) (hd : decode (mT M).2.1 pc = .ok (.ior, 1)) (h : stI E ret (.ior) ln res pc ls st σ = some (Sum.inl (pc', ls', st', σ')))
    (hg : Good (fun H locs cells slots g => W p l e R s m args below meth c H locs cells slots Q g) m G cA ex X A s.heap n0 z0 nL ad0 pc' ls' st' σ') : Good (fun H locs cells slots g => W p l e R s m args below meth c H locs cells slots Q g) m G cA ex X A s.heap n0 z0 nL ad0 pc ls st σ := by
    intro ad lsJ H locs hr
    obtain ⟨hP, hD, hS, hl, hn, hWT, hTL, hTS, h0, h1, hX, hA0⟩ := hr
    obtain ⟨hx, hb, hml, hown, hnm, htb, hK, hE0, hNW, hA⟩ := C
    have hex := hE0.2.2.1
    unfold stI at h
    dsimp only at h
    obtain ⟨y0, r0, hn1, rfl⟩ := pI_inv h; replace h := hn1; clear hn1
    obtain ⟨x0, r1, hn1, rfl⟩ := pI_inv h; replace h := hn1; clear hn1
    cases go_inv h
    exact lv_ior hx hb hd (hg ad lsJ H locs ⟨hP, hD, hS, hl, hn, hWT, hTL, TS_c wtI (TS_t (TS_t hTS)), h0, h1, hX, hA0⟩)
set_option maxHeartbeats 1000000 in
theorem sm_ixor {p : Program} {l : Launch} {e : Env} {R : Room} {s : State} {m : MethodId} {args : Array Value} {below : List Frame} {meth : Method} {c : Code} {Q : State → Prop} {M : Nat} {G : va_G} {cA : Nat → ClassId} {ex : Nat → Nat → Value} {X : Nat × (Nat → Int32)} {A : Nat → Prop} {nL n0 z0 : Nat} {ad0 : Nat → Nat} {E : Cal} {ret : Option FieldType}  {ln res pc pc' : Nat} {ls st ls' st' : List PV} {σ σ' : St}
    (C : Cx p s m args meth c M G cA ex X A nL) (hd : decode (mT M).2.1 pc = .ok (.ixor, 1)) (h : stI E ret (.ixor) ln res pc ls st σ = some (Sum.inl (pc', ls', st', σ')))
    (hg : Good (fun H locs cells slots g => W p l e R s m args below meth c H locs cells slots Q g) m G cA ex X A s.heap n0 z0 nL ad0 pc' ls' st' σ') : Good (fun H locs cells slots g => W p l e R s m args below meth c H locs cells slots Q g) m G cA ex X A s.heap n0 z0 nL ad0 pc ls st σ := by
    intro ad lsJ H locs hr
    obtain ⟨hP, hD, hS, hl, hn, hWT, hTL, hTS, h0, h1, hX, hA0⟩ := hr
    obtain ⟨hx, hb, hml, hown, hnm, htb, hK, hE0, hNW, hA⟩ := C
    have hex := hE0.2.2.1
    unfold stI at h
    dsimp only at h
    obtain ⟨y0, r0, hn1, rfl⟩ := pI_inv h; replace h := hn1; clear hn1
    obtain ⟨x0, r1, hn1, rfl⟩ := pI_inv h; replace h := hn1; clear hn1
    cases go_inv h
    exact lv_ixor hx hb hd (hg ad lsJ H locs ⟨hP, hD, hS, hl, hn, hWT, hTL, TS_c wtI (TS_t (TS_t hTS)), h0, h1, hX, hA0⟩)
set_option maxHeartbeats 1000000 in
theorem sm_ishl {p : Program} {l : Launch} {e : Env} {R : Room} {s : State} {m : MethodId} {args : Array Value} {below : List Frame} {meth : Method} {c : Code} {Q : State → Prop} {M : Nat} {G : va_G} {cA : Nat → ClassId} {ex : Nat → Nat → Value} {X : Nat × (Nat → Int32)} {A : Nat → Prop} {nL n0 z0 : Nat} {ad0 : Nat → Nat} {E : Cal} {ret : Option FieldType}  {ln res pc pc' : Nat} {ls st ls' st' : List PV} {σ σ' : St}
    (C : Cx p s m args meth c M G cA ex X A nL) (hd : decode (mT M).2.1 pc = .ok (.ishl, 1)) (h : stI E ret (.ishl) ln res pc ls st σ = some (Sum.inl (pc', ls', st', σ')))
    (hg : Good (fun H locs cells slots g => W p l e R s m args below meth c H locs cells slots Q g) m G cA ex X A s.heap n0 z0 nL ad0 pc' ls' st' σ') : Good (fun H locs cells slots g => W p l e R s m args below meth c H locs cells slots Q g) m G cA ex X A s.heap n0 z0 nL ad0 pc ls st σ := by
    intro ad lsJ H locs hr
    obtain ⟨hP, hD, hS, hl, hn, hWT, hTL, hTS, h0, h1, hX, hA0⟩ := hr
    obtain ⟨hx, hb, hml, hown, hnm, htb, hK, hE0, hNW, hA⟩ := C
    have hex := hE0.2.2.1
    unfold stI at h
    dsimp only at h
    obtain ⟨y0, r0, hn1, rfl⟩ := pI_inv h; replace h := hn1; clear hn1
    obtain ⟨x0, r1, hn1, rfl⟩ := pI_inv h; replace h := hn1; clear hn1
    cases go_inv h
    exact lv_ishl hx hb hd (hg ad lsJ H locs ⟨hP, hD, hS, hl, hn, hWT, hTL, TS_c wtI (TS_t (TS_t hTS)), h0, h1, hX, hA0⟩)
set_option maxHeartbeats 1000000 in
theorem sm_ishr {p : Program} {l : Launch} {e : Env} {R : Room} {s : State} {m : MethodId} {args : Array Value} {below : List Frame} {meth : Method} {c : Code} {Q : State → Prop} {M : Nat} {G : va_G} {cA : Nat → ClassId} {ex : Nat → Nat → Value} {X : Nat × (Nat → Int32)} {A : Nat → Prop} {nL n0 z0 : Nat} {ad0 : Nat → Nat} {E : Cal} {ret : Option FieldType}  {ln res pc pc' : Nat} {ls st ls' st' : List PV} {σ σ' : St}
    (C : Cx p s m args meth c M G cA ex X A nL) (hd : decode (mT M).2.1 pc = .ok (.ishr, 1)) (h : stI E ret (.ishr) ln res pc ls st σ = some (Sum.inl (pc', ls', st', σ')))
    (hg : Good (fun H locs cells slots g => W p l e R s m args below meth c H locs cells slots Q g) m G cA ex X A s.heap n0 z0 nL ad0 pc' ls' st' σ') : Good (fun H locs cells slots g => W p l e R s m args below meth c H locs cells slots Q g) m G cA ex X A s.heap n0 z0 nL ad0 pc ls st σ := by
    intro ad lsJ H locs hr
    obtain ⟨hP, hD, hS, hl, hn, hWT, hTL, hTS, h0, h1, hX, hA0⟩ := hr
    obtain ⟨hx, hb, hml, hown, hnm, htb, hK, hE0, hNW, hA⟩ := C
    have hex := hE0.2.2.1
    unfold stI at h
    dsimp only at h
    obtain ⟨y0, r0, hn1, rfl⟩ := pI_inv h; replace h := hn1; clear hn1
    obtain ⟨x0, r1, hn1, rfl⟩ := pI_inv h; replace h := hn1; clear hn1
    cases go_inv h
    exact lv_ishr hx hb hd (hg ad lsJ H locs ⟨hP, hD, hS, hl, hn, hWT, hTL, TS_c wtI (TS_t (TS_t hTS)), h0, h1, hX, hA0⟩)
set_option maxHeartbeats 1000000 in
theorem sm_iushr {p : Program} {l : Launch} {e : Env} {R : Room} {s : State} {m : MethodId} {args : Array Value} {below : List Frame} {meth : Method} {c : Code} {Q : State → Prop} {M : Nat} {G : va_G} {cA : Nat → ClassId} {ex : Nat → Nat → Value} {X : Nat × (Nat → Int32)} {A : Nat → Prop} {nL n0 z0 : Nat} {ad0 : Nat → Nat} {E : Cal} {ret : Option FieldType}  {ln res pc pc' : Nat} {ls st ls' st' : List PV} {σ σ' : St}
    (C : Cx p s m args meth c M G cA ex X A nL) (hd : decode (mT M).2.1 pc = .ok (.iushr, 1)) (h : stI E ret (.iushr) ln res pc ls st σ = some (Sum.inl (pc', ls', st', σ')))
    (hg : Good (fun H locs cells slots g => W p l e R s m args below meth c H locs cells slots Q g) m G cA ex X A s.heap n0 z0 nL ad0 pc' ls' st' σ') : Good (fun H locs cells slots g => W p l e R s m args below meth c H locs cells slots Q g) m G cA ex X A s.heap n0 z0 nL ad0 pc ls st σ := by
    intro ad lsJ H locs hr
    obtain ⟨hP, hD, hS, hl, hn, hWT, hTL, hTS, h0, h1, hX, hA0⟩ := hr
    obtain ⟨hx, hb, hml, hown, hnm, htb, hK, hE0, hNW, hA⟩ := C
    have hex := hE0.2.2.1
    unfold stI at h
    dsimp only at h
    obtain ⟨y0, r0, hn1, rfl⟩ := pI_inv h; replace h := hn1; clear hn1
    obtain ⟨x0, r1, hn1, rfl⟩ := pI_inv h; replace h := hn1; clear hn1
    cases go_inv h
    exact lv_iushr hx hb hd rfl (hg ad lsJ H locs ⟨hP, hD, hS, hl, hn, hWT, hTL, TS_c wtI (TS_t (TS_t hTS)), h0, h1, hX, hA0⟩)
set_option maxHeartbeats 1000000 in
theorem sm_idiv {p : Program} {l : Launch} {e : Env} {R : Room} {s : State} {m : MethodId} {args : Array Value} {below : List Frame} {meth : Method} {c : Code} {Q : State → Prop} {M : Nat} {G : va_G} {cA : Nat → ClassId} {ex : Nat → Nat → Value} {X : Nat × (Nat → Int32)} {A : Nat → Prop} {nL n0 z0 : Nat} {ad0 : Nat → Nat} {E : Cal} {ret : Option FieldType}  {ln res pc pc' : Nat} {ls st ls' st' : List PV} {σ σ' : St}
    (C : Cx p s m args meth c M G cA ex X A nL) (hd : decode (mT M).2.1 pc = .ok (.idiv, 1)) (h : stI E ret (.idiv) ln res pc ls st σ = some (Sum.inl (pc', ls', st', σ')))
    (hg : Good (fun H locs cells slots g => W p l e R s m args below meth c H locs cells slots Q g) m G cA ex X A s.heap n0 z0 nL ad0 pc' ls' st' σ') : Good (fun H locs cells slots g => W p l e R s m args below meth c H locs cells slots Q g) m G cA ex X A s.heap n0 z0 nL ad0 pc ls st σ := by
    intro ad lsJ H locs hr
    obtain ⟨hP, hD, hS, hl, hn, hWT, hTL, hTS, h0, h1, hX, hA0⟩ := hr
    obtain ⟨hx, hb, hml, hown, hnm, htb, hK, hE0, hNW, hA⟩ := C
    have hex := hE0.2.2.1
    unfold stI at h
    dsimp only at h
    obtain ⟨y0, r0, hn1, rfl⟩ := pI_inv h; replace h := hn1; clear hn1
    obtain ⟨x0, r1, hn1, rfl⟩ := pI_inv h; replace h := hn1; clear hn1
    have hgd := (guard_inv h).1; replace h := (guard_inv h).2
    cases go_inv h
    exact lv_idiv hx hb hd (by simpa using hgd) (hg ad lsJ H locs ⟨hP, hD, hS, hl, hn, hWT, hTL, TS_c wtI (TS_t (TS_t hTS)), h0, h1, hX, hA0⟩)
set_option maxHeartbeats 1000000 in
theorem sm_irem {p : Program} {l : Launch} {e : Env} {R : Room} {s : State} {m : MethodId} {args : Array Value} {below : List Frame} {meth : Method} {c : Code} {Q : State → Prop} {M : Nat} {G : va_G} {cA : Nat → ClassId} {ex : Nat → Nat → Value} {X : Nat × (Nat → Int32)} {A : Nat → Prop} {nL n0 z0 : Nat} {ad0 : Nat → Nat} {E : Cal} {ret : Option FieldType}  {ln res pc pc' : Nat} {ls st ls' st' : List PV} {σ σ' : St}
    (C : Cx p s m args meth c M G cA ex X A nL) (hd : decode (mT M).2.1 pc = .ok (.irem, 1)) (h : stI E ret (.irem) ln res pc ls st σ = some (Sum.inl (pc', ls', st', σ')))
    (hg : Good (fun H locs cells slots g => W p l e R s m args below meth c H locs cells slots Q g) m G cA ex X A s.heap n0 z0 nL ad0 pc' ls' st' σ') : Good (fun H locs cells slots g => W p l e R s m args below meth c H locs cells slots Q g) m G cA ex X A s.heap n0 z0 nL ad0 pc ls st σ := by
    intro ad lsJ H locs hr
    obtain ⟨hP, hD, hS, hl, hn, hWT, hTL, hTS, h0, h1, hX, hA0⟩ := hr
    obtain ⟨hx, hb, hml, hown, hnm, htb, hK, hE0, hNW, hA⟩ := C
    have hex := hE0.2.2.1
    unfold stI at h
    dsimp only at h
    obtain ⟨y0, r0, hn1, rfl⟩ := pI_inv h; replace h := hn1; clear hn1
    obtain ⟨x0, r1, hn1, rfl⟩ := pI_inv h; replace h := hn1; clear hn1
    have hgd := (guard_inv h).1; replace h := (guard_inv h).2
    cases go_inv h
    exact lv_irem hx hb hd (by simpa using hgd) (hg ad lsJ H locs ⟨hP, hD, hS, hl, hn, hWT, hTL, TS_c wtI (TS_t (TS_t hTS)), h0, h1, hX, hA0⟩)
set_option maxHeartbeats 1000000 in
theorem sm_ladd {p : Program} {l : Launch} {e : Env} {R : Room} {s : State} {m : MethodId} {args : Array Value} {below : List Frame} {meth : Method} {c : Code} {Q : State → Prop} {M : Nat} {G : va_G} {cA : Nat → ClassId} {ex : Nat → Nat → Value} {X : Nat × (Nat → Int32)} {A : Nat → Prop} {nL n0 z0 : Nat} {ad0 : Nat → Nat} {E : Cal} {ret : Option FieldType}  {ln res pc pc' : Nat} {ls st ls' st' : List PV} {σ σ' : St}
    (C : Cx p s m args meth c M G cA ex X A nL) (hd : decode (mT M).2.1 pc = .ok (.ladd, 1)) (h : stI E ret (.ladd) ln res pc ls st σ = some (Sum.inl (pc', ls', st', σ')))
    (hg : Good (fun H locs cells slots g => W p l e R s m args below meth c H locs cells slots Q g) m G cA ex X A s.heap n0 z0 nL ad0 pc' ls' st' σ') : Good (fun H locs cells slots g => W p l e R s m args below meth c H locs cells slots Q g) m G cA ex X A s.heap n0 z0 nL ad0 pc ls st σ := by
    intro ad lsJ H locs hr
    obtain ⟨hP, hD, hS, hl, hn, hWT, hTL, hTS, h0, h1, hX, hA0⟩ := hr
    obtain ⟨hx, hb, hml, hown, hnm, htb, hK, hE0, hNW, hA⟩ := C
    have hex := hE0.2.2.1
    unfold stI at h
    dsimp only at h
    obtain ⟨y0, r0, hn1, rfl⟩ := pL_inv h; replace h := hn1; clear hn1
    obtain ⟨x0, r1, hn1, rfl⟩ := pL_inv h; replace h := hn1; clear hn1
    cases go_inv h
    exact lv_ladd hx hb hd (hg ad lsJ H locs ⟨hP, hD, hS, hl, hn, hWT, hTL, TS_c wtL (TS_t (TS_t hTS)), h0, h1, hX, hA0⟩)
set_option maxHeartbeats 1000000 in
theorem sm_lmul {p : Program} {l : Launch} {e : Env} {R : Room} {s : State} {m : MethodId} {args : Array Value} {below : List Frame} {meth : Method} {c : Code} {Q : State → Prop} {M : Nat} {G : va_G} {cA : Nat → ClassId} {ex : Nat → Nat → Value} {X : Nat × (Nat → Int32)} {A : Nat → Prop} {nL n0 z0 : Nat} {ad0 : Nat → Nat} {E : Cal} {ret : Option FieldType}  {ln res pc pc' : Nat} {ls st ls' st' : List PV} {σ σ' : St}
    (C : Cx p s m args meth c M G cA ex X A nL) (hd : decode (mT M).2.1 pc = .ok (.lmul, 1)) (h : stI E ret (.lmul) ln res pc ls st σ = some (Sum.inl (pc', ls', st', σ')))
    (hg : Good (fun H locs cells slots g => W p l e R s m args below meth c H locs cells slots Q g) m G cA ex X A s.heap n0 z0 nL ad0 pc' ls' st' σ') : Good (fun H locs cells slots g => W p l e R s m args below meth c H locs cells slots Q g) m G cA ex X A s.heap n0 z0 nL ad0 pc ls st σ := by
    intro ad lsJ H locs hr
    obtain ⟨hP, hD, hS, hl, hn, hWT, hTL, hTS, h0, h1, hX, hA0⟩ := hr
    obtain ⟨hx, hb, hml, hown, hnm, htb, hK, hE0, hNW, hA⟩ := C
    have hex := hE0.2.2.1
    unfold stI at h
    dsimp only at h
    obtain ⟨y0, r0, hn1, rfl⟩ := pL_inv h; replace h := hn1; clear hn1
    obtain ⟨x0, r1, hn1, rfl⟩ := pL_inv h; replace h := hn1; clear hn1
    cases go_inv h
    exact lv_lmul hx hb hd (hg ad lsJ H locs ⟨hP, hD, hS, hl, hn, hWT, hTL, TS_c wtL (TS_t (TS_t hTS)), h0, h1, hX, hA0⟩)
set_option maxHeartbeats 1000000 in
theorem sm_land {p : Program} {l : Launch} {e : Env} {R : Room} {s : State} {m : MethodId} {args : Array Value} {below : List Frame} {meth : Method} {c : Code} {Q : State → Prop} {M : Nat} {G : va_G} {cA : Nat → ClassId} {ex : Nat → Nat → Value} {X : Nat × (Nat → Int32)} {A : Nat → Prop} {nL n0 z0 : Nat} {ad0 : Nat → Nat} {E : Cal} {ret : Option FieldType}  {ln res pc pc' : Nat} {ls st ls' st' : List PV} {σ σ' : St}
    (C : Cx p s m args meth c M G cA ex X A nL) (hd : decode (mT M).2.1 pc = .ok (.land, 1)) (h : stI E ret (.land) ln res pc ls st σ = some (Sum.inl (pc', ls', st', σ')))
    (hg : Good (fun H locs cells slots g => W p l e R s m args below meth c H locs cells slots Q g) m G cA ex X A s.heap n0 z0 nL ad0 pc' ls' st' σ') : Good (fun H locs cells slots g => W p l e R s m args below meth c H locs cells slots Q g) m G cA ex X A s.heap n0 z0 nL ad0 pc ls st σ := by
    intro ad lsJ H locs hr
    obtain ⟨hP, hD, hS, hl, hn, hWT, hTL, hTS, h0, h1, hX, hA0⟩ := hr
    obtain ⟨hx, hb, hml, hown, hnm, htb, hK, hE0, hNW, hA⟩ := C
    have hex := hE0.2.2.1
    unfold stI at h
    dsimp only at h
    obtain ⟨y0, r0, hn1, rfl⟩ := pL_inv h; replace h := hn1; clear hn1
    obtain ⟨x0, r1, hn1, rfl⟩ := pL_inv h; replace h := hn1; clear hn1
    cases go_inv h
    exact lv_land hx hb hd (hg ad lsJ H locs ⟨hP, hD, hS, hl, hn, hWT, hTL, TS_c wtL (TS_t (TS_t hTS)), h0, h1, hX, hA0⟩)
set_option maxHeartbeats 1000000 in
theorem sm_lor {p : Program} {l : Launch} {e : Env} {R : Room} {s : State} {m : MethodId} {args : Array Value} {below : List Frame} {meth : Method} {c : Code} {Q : State → Prop} {M : Nat} {G : va_G} {cA : Nat → ClassId} {ex : Nat → Nat → Value} {X : Nat × (Nat → Int32)} {A : Nat → Prop} {nL n0 z0 : Nat} {ad0 : Nat → Nat} {E : Cal} {ret : Option FieldType}  {ln res pc pc' : Nat} {ls st ls' st' : List PV} {σ σ' : St}
    (C : Cx p s m args meth c M G cA ex X A nL) (hd : decode (mT M).2.1 pc = .ok (.lor, 1)) (h : stI E ret (.lor) ln res pc ls st σ = some (Sum.inl (pc', ls', st', σ')))
    (hg : Good (fun H locs cells slots g => W p l e R s m args below meth c H locs cells slots Q g) m G cA ex X A s.heap n0 z0 nL ad0 pc' ls' st' σ') : Good (fun H locs cells slots g => W p l e R s m args below meth c H locs cells slots Q g) m G cA ex X A s.heap n0 z0 nL ad0 pc ls st σ := by
    intro ad lsJ H locs hr
    obtain ⟨hP, hD, hS, hl, hn, hWT, hTL, hTS, h0, h1, hX, hA0⟩ := hr
    obtain ⟨hx, hb, hml, hown, hnm, htb, hK, hE0, hNW, hA⟩ := C
    have hex := hE0.2.2.1
    unfold stI at h
    dsimp only at h
    obtain ⟨y0, r0, hn1, rfl⟩ := pL_inv h; replace h := hn1; clear hn1
    obtain ⟨x0, r1, hn1, rfl⟩ := pL_inv h; replace h := hn1; clear hn1
    cases go_inv h
    exact lv_lor hx hb hd (hg ad lsJ H locs ⟨hP, hD, hS, hl, hn, hWT, hTL, TS_c wtL (TS_t (TS_t hTS)), h0, h1, hX, hA0⟩)
set_option maxHeartbeats 1000000 in
theorem sm_ldiv {p : Program} {l : Launch} {e : Env} {R : Room} {s : State} {m : MethodId} {args : Array Value} {below : List Frame} {meth : Method} {c : Code} {Q : State → Prop} {M : Nat} {G : va_G} {cA : Nat → ClassId} {ex : Nat → Nat → Value} {X : Nat × (Nat → Int32)} {A : Nat → Prop} {nL n0 z0 : Nat} {ad0 : Nat → Nat} {E : Cal} {ret : Option FieldType}  {ln res pc pc' : Nat} {ls st ls' st' : List PV} {σ σ' : St}
    (C : Cx p s m args meth c M G cA ex X A nL) (hd : decode (mT M).2.1 pc = .ok (.ldiv, 1)) (h : stI E ret (.ldiv) ln res pc ls st σ = some (Sum.inl (pc', ls', st', σ')))
    (hg : Good (fun H locs cells slots g => W p l e R s m args below meth c H locs cells slots Q g) m G cA ex X A s.heap n0 z0 nL ad0 pc' ls' st' σ') : Good (fun H locs cells slots g => W p l e R s m args below meth c H locs cells slots Q g) m G cA ex X A s.heap n0 z0 nL ad0 pc ls st σ := by
    intro ad lsJ H locs hr
    obtain ⟨hP, hD, hS, hl, hn, hWT, hTL, hTS, h0, h1, hX, hA0⟩ := hr
    obtain ⟨hx, hb, hml, hown, hnm, htb, hK, hE0, hNW, hA⟩ := C
    have hex := hE0.2.2.1
    unfold stI at h
    dsimp only at h
    obtain ⟨y0, r0, hn1, rfl⟩ := pL_inv h; replace h := hn1; clear hn1
    obtain ⟨x0, r1, hn1, rfl⟩ := pL_inv h; replace h := hn1; clear hn1
    have hgd := (guard_inv h).1; replace h := (guard_inv h).2
    cases go_inv h
    exact lv_ldiv hx hb hd (by simpa using hgd) (hg ad lsJ H locs ⟨hP, hD, hS, hl, hn, hWT, hTL, TS_c wtL (TS_t (TS_t hTS)), h0, h1, hX, hA0⟩)
set_option maxHeartbeats 1000000 in
theorem sm_lrem {p : Program} {l : Launch} {e : Env} {R : Room} {s : State} {m : MethodId} {args : Array Value} {below : List Frame} {meth : Method} {c : Code} {Q : State → Prop} {M : Nat} {G : va_G} {cA : Nat → ClassId} {ex : Nat → Nat → Value} {X : Nat × (Nat → Int32)} {A : Nat → Prop} {nL n0 z0 : Nat} {ad0 : Nat → Nat} {E : Cal} {ret : Option FieldType}  {ln res pc pc' : Nat} {ls st ls' st' : List PV} {σ σ' : St}
    (C : Cx p s m args meth c M G cA ex X A nL) (hd : decode (mT M).2.1 pc = .ok (.lrem, 1)) (h : stI E ret (.lrem) ln res pc ls st σ = some (Sum.inl (pc', ls', st', σ')))
    (hg : Good (fun H locs cells slots g => W p l e R s m args below meth c H locs cells slots Q g) m G cA ex X A s.heap n0 z0 nL ad0 pc' ls' st' σ') : Good (fun H locs cells slots g => W p l e R s m args below meth c H locs cells slots Q g) m G cA ex X A s.heap n0 z0 nL ad0 pc ls st σ := by
    intro ad lsJ H locs hr
    obtain ⟨hP, hD, hS, hl, hn, hWT, hTL, hTS, h0, h1, hX, hA0⟩ := hr
    obtain ⟨hx, hb, hml, hown, hnm, htb, hK, hE0, hNW, hA⟩ := C
    have hex := hE0.2.2.1
    unfold stI at h
    dsimp only at h
    obtain ⟨y0, r0, hn1, rfl⟩ := pL_inv h; replace h := hn1; clear hn1
    obtain ⟨x0, r1, hn1, rfl⟩ := pL_inv h; replace h := hn1; clear hn1
    have hgd := (guard_inv h).1; replace h := (guard_inv h).2
    cases go_inv h
    exact lv_lrem hx hb hd (by simpa using hgd) (hg ad lsJ H locs ⟨hP, hD, hS, hl, hn, hWT, hTL, TS_c wtL (TS_t (TS_t hTS)), h0, h1, hX, hA0⟩)
set_option maxHeartbeats 1000000 in
theorem sm_lshl {p : Program} {l : Launch} {e : Env} {R : Room} {s : State} {m : MethodId} {args : Array Value} {below : List Frame} {meth : Method} {c : Code} {Q : State → Prop} {M : Nat} {G : va_G} {cA : Nat → ClassId} {ex : Nat → Nat → Value} {X : Nat × (Nat → Int32)} {A : Nat → Prop} {nL n0 z0 : Nat} {ad0 : Nat → Nat} {E : Cal} {ret : Option FieldType}  {ln res pc pc' : Nat} {ls st ls' st' : List PV} {σ σ' : St}
    (C : Cx p s m args meth c M G cA ex X A nL) (hd : decode (mT M).2.1 pc = .ok (.lshl, 1)) (h : stI E ret (.lshl) ln res pc ls st σ = some (Sum.inl (pc', ls', st', σ')))
    (hg : Good (fun H locs cells slots g => W p l e R s m args below meth c H locs cells slots Q g) m G cA ex X A s.heap n0 z0 nL ad0 pc' ls' st' σ') : Good (fun H locs cells slots g => W p l e R s m args below meth c H locs cells slots Q g) m G cA ex X A s.heap n0 z0 nL ad0 pc ls st σ := by
    intro ad lsJ H locs hr
    obtain ⟨hP, hD, hS, hl, hn, hWT, hTL, hTS, h0, h1, hX, hA0⟩ := hr
    obtain ⟨hx, hb, hml, hown, hnm, htb, hK, hE0, hNW, hA⟩ := C
    have hex := hE0.2.2.1
    unfold stI at h
    dsimp only at h
    obtain ⟨y0, r0, hn1, rfl⟩ := pI_inv h; replace h := hn1; clear hn1
    obtain ⟨x0, r1, hn1, rfl⟩ := pL_inv h; replace h := hn1; clear hn1
    cases go_inv h
    exact lv_lshl hx hb hd rfl (hg ad lsJ H locs ⟨hP, hD, hS, hl, hn, hWT, hTL, TS_c wtL (TS_t (TS_t hTS)), h0, h1, hX, hA0⟩)
set_option maxHeartbeats 1000000 in
theorem sm_lcmp {p : Program} {l : Launch} {e : Env} {R : Room} {s : State} {m : MethodId} {args : Array Value} {below : List Frame} {meth : Method} {c : Code} {Q : State → Prop} {M : Nat} {G : va_G} {cA : Nat → ClassId} {ex : Nat → Nat → Value} {X : Nat × (Nat → Int32)} {A : Nat → Prop} {nL n0 z0 : Nat} {ad0 : Nat → Nat} {E : Cal} {ret : Option FieldType}  {ln res pc pc' : Nat} {ls st ls' st' : List PV} {σ σ' : St}
    (C : Cx p s m args meth c M G cA ex X A nL) (hd : decode (mT M).2.1 pc = .ok (.lcmp, 1)) (h : stI E ret (.lcmp) ln res pc ls st σ = some (Sum.inl (pc', ls', st', σ')))
    (hg : Good (fun H locs cells slots g => W p l e R s m args below meth c H locs cells slots Q g) m G cA ex X A s.heap n0 z0 nL ad0 pc' ls' st' σ') : Good (fun H locs cells slots g => W p l e R s m args below meth c H locs cells slots Q g) m G cA ex X A s.heap n0 z0 nL ad0 pc ls st σ := by
    intro ad lsJ H locs hr
    obtain ⟨hP, hD, hS, hl, hn, hWT, hTL, hTS, h0, h1, hX, hA0⟩ := hr
    obtain ⟨hx, hb, hml, hown, hnm, htb, hK, hE0, hNW, hA⟩ := C
    have hex := hE0.2.2.1
    unfold stI at h
    dsimp only at h
    obtain ⟨y0, r0, hn1, rfl⟩ := pL_inv h; replace h := hn1; clear hn1
    obtain ⟨x0, r1, hn1, rfl⟩ := pL_inv h; replace h := hn1; clear hn1
    cases go_inv h
    exact W.lcmp hx hb hd (hg ad lsJ H locs ⟨hP, hD, hS, hl, hn, hWT, hTL, TS_c wtI (TS_t (TS_t hTS)), h0, h1, hX, hA0⟩)
set_option maxHeartbeats 1000000 in
theorem sm_ineg {p : Program} {l : Launch} {e : Env} {R : Room} {s : State} {m : MethodId} {args : Array Value} {below : List Frame} {meth : Method} {c : Code} {Q : State → Prop} {M : Nat} {G : va_G} {cA : Nat → ClassId} {ex : Nat → Nat → Value} {X : Nat × (Nat → Int32)} {A : Nat → Prop} {nL n0 z0 : Nat} {ad0 : Nat → Nat} {E : Cal} {ret : Option FieldType}  {ln res pc pc' : Nat} {ls st ls' st' : List PV} {σ σ' : St}
    (C : Cx p s m args meth c M G cA ex X A nL) (hd : decode (mT M).2.1 pc = .ok (.ineg, 1)) (h : stI E ret (.ineg) ln res pc ls st σ = some (Sum.inl (pc', ls', st', σ')))
    (hg : Good (fun H locs cells slots g => W p l e R s m args below meth c H locs cells slots Q g) m G cA ex X A s.heap n0 z0 nL ad0 pc' ls' st' σ') : Good (fun H locs cells slots g => W p l e R s m args below meth c H locs cells slots Q g) m G cA ex X A s.heap n0 z0 nL ad0 pc ls st σ := by
    intro ad lsJ H locs hr
    obtain ⟨hP, hD, hS, hl, hn, hWT, hTL, hTS, h0, h1, hX, hA0⟩ := hr
    obtain ⟨hx, hb, hml, hown, hnm, htb, hK, hE0, hNW, hA⟩ := C
    have hex := hE0.2.2.1
    unfold stI at h
    dsimp only at h
    obtain ⟨y0, r0, hn1, rfl⟩ := pI_inv h; replace h := hn1; clear hn1
    cases go_inv h
    exact lv_ineg hx hb hd (hg ad lsJ H locs ⟨hP, hD, hS, hl, hn, hWT, hTL, TS_c wtI (TS_t hTS), h0, h1, hX, hA0⟩)
set_option maxHeartbeats 1000000 in
theorem sm_i2b {p : Program} {l : Launch} {e : Env} {R : Room} {s : State} {m : MethodId} {args : Array Value} {below : List Frame} {meth : Method} {c : Code} {Q : State → Prop} {M : Nat} {G : va_G} {cA : Nat → ClassId} {ex : Nat → Nat → Value} {X : Nat × (Nat → Int32)} {A : Nat → Prop} {nL n0 z0 : Nat} {ad0 : Nat → Nat} {E : Cal} {ret : Option FieldType}  {ln res pc pc' : Nat} {ls st ls' st' : List PV} {σ σ' : St}
    (C : Cx p s m args meth c M G cA ex X A nL) (hd : decode (mT M).2.1 pc = .ok (.i2b, 1)) (h : stI E ret (.i2b) ln res pc ls st σ = some (Sum.inl (pc', ls', st', σ')))
    (hg : Good (fun H locs cells slots g => W p l e R s m args below meth c H locs cells slots Q g) m G cA ex X A s.heap n0 z0 nL ad0 pc' ls' st' σ') : Good (fun H locs cells slots g => W p l e R s m args below meth c H locs cells slots Q g) m G cA ex X A s.heap n0 z0 nL ad0 pc ls st σ := by
    intro ad lsJ H locs hr
    obtain ⟨hP, hD, hS, hl, hn, hWT, hTL, hTS, h0, h1, hX, hA0⟩ := hr
    obtain ⟨hx, hb, hml, hown, hnm, htb, hK, hE0, hNW, hA⟩ := C
    have hex := hE0.2.2.1
    unfold stI at h
    dsimp only at h
    obtain ⟨y0, r0, hn1, rfl⟩ := pI_inv h; replace h := hn1; clear hn1
    cases go_inv h
    exact lv_i2b hx hb hd rfl (hg ad lsJ H locs ⟨hP, hD, hS, hl, hn, hWT, hTL, TS_c wtI (TS_t hTS), h0, h1, hX, hA0⟩)
set_option maxHeartbeats 1000000 in
theorem sm_i2c {p : Program} {l : Launch} {e : Env} {R : Room} {s : State} {m : MethodId} {args : Array Value} {below : List Frame} {meth : Method} {c : Code} {Q : State → Prop} {M : Nat} {G : va_G} {cA : Nat → ClassId} {ex : Nat → Nat → Value} {X : Nat × (Nat → Int32)} {A : Nat → Prop} {nL n0 z0 : Nat} {ad0 : Nat → Nat} {E : Cal} {ret : Option FieldType}  {ln res pc pc' : Nat} {ls st ls' st' : List PV} {σ σ' : St}
    (C : Cx p s m args meth c M G cA ex X A nL) (hd : decode (mT M).2.1 pc = .ok (.i2c, 1)) (h : stI E ret (.i2c) ln res pc ls st σ = some (Sum.inl (pc', ls', st', σ')))
    (hg : Good (fun H locs cells slots g => W p l e R s m args below meth c H locs cells slots Q g) m G cA ex X A s.heap n0 z0 nL ad0 pc' ls' st' σ') : Good (fun H locs cells slots g => W p l e R s m args below meth c H locs cells slots Q g) m G cA ex X A s.heap n0 z0 nL ad0 pc ls st σ := by
    intro ad lsJ H locs hr
    obtain ⟨hP, hD, hS, hl, hn, hWT, hTL, hTS, h0, h1, hX, hA0⟩ := hr
    obtain ⟨hx, hb, hml, hown, hnm, htb, hK, hE0, hNW, hA⟩ := C
    have hex := hE0.2.2.1
    unfold stI at h
    dsimp only at h
    obtain ⟨y0, r0, hn1, rfl⟩ := pI_inv h; replace h := hn1; clear hn1
    cases go_inv h
    exact lv_i2c hx hb hd rfl (hg ad lsJ H locs ⟨hP, hD, hS, hl, hn, hWT, hTL, TS_c wtI (TS_t hTS), h0, h1, hX, hA0⟩)
set_option maxHeartbeats 1000000 in
theorem sm_i2l {p : Program} {l : Launch} {e : Env} {R : Room} {s : State} {m : MethodId} {args : Array Value} {below : List Frame} {meth : Method} {c : Code} {Q : State → Prop} {M : Nat} {G : va_G} {cA : Nat → ClassId} {ex : Nat → Nat → Value} {X : Nat × (Nat → Int32)} {A : Nat → Prop} {nL n0 z0 : Nat} {ad0 : Nat → Nat} {E : Cal} {ret : Option FieldType}  {ln res pc pc' : Nat} {ls st ls' st' : List PV} {σ σ' : St}
    (C : Cx p s m args meth c M G cA ex X A nL) (hd : decode (mT M).2.1 pc = .ok (.i2l, 1)) (h : stI E ret (.i2l) ln res pc ls st σ = some (Sum.inl (pc', ls', st', σ')))
    (hg : Good (fun H locs cells slots g => W p l e R s m args below meth c H locs cells slots Q g) m G cA ex X A s.heap n0 z0 nL ad0 pc' ls' st' σ') : Good (fun H locs cells slots g => W p l e R s m args below meth c H locs cells slots Q g) m G cA ex X A s.heap n0 z0 nL ad0 pc ls st σ := by
    intro ad lsJ H locs hr
    obtain ⟨hP, hD, hS, hl, hn, hWT, hTL, hTS, h0, h1, hX, hA0⟩ := hr
    obtain ⟨hx, hb, hml, hown, hnm, htb, hK, hE0, hNW, hA⟩ := C
    have hex := hE0.2.2.1
    unfold stI at h
    dsimp only at h
    obtain ⟨y0, r0, hn1, rfl⟩ := pI_inv h; replace h := hn1; clear hn1
    cases go_inv h
    exact lv_i2l hx hb hd rfl (hg ad lsJ H locs ⟨hP, hD, hS, hl, hn, hWT, hTL, TS_c wtL (TS_t hTS), h0, h1, hX, hA0⟩)
set_option maxHeartbeats 1000000 in
theorem sm_l2i {p : Program} {l : Launch} {e : Env} {R : Room} {s : State} {m : MethodId} {args : Array Value} {below : List Frame} {meth : Method} {c : Code} {Q : State → Prop} {M : Nat} {G : va_G} {cA : Nat → ClassId} {ex : Nat → Nat → Value} {X : Nat × (Nat → Int32)} {A : Nat → Prop} {nL n0 z0 : Nat} {ad0 : Nat → Nat} {E : Cal} {ret : Option FieldType}  {ln res pc pc' : Nat} {ls st ls' st' : List PV} {σ σ' : St}
    (C : Cx p s m args meth c M G cA ex X A nL) (hd : decode (mT M).2.1 pc = .ok (.l2i, 1)) (h : stI E ret (.l2i) ln res pc ls st σ = some (Sum.inl (pc', ls', st', σ')))
    (hg : Good (fun H locs cells slots g => W p l e R s m args below meth c H locs cells slots Q g) m G cA ex X A s.heap n0 z0 nL ad0 pc' ls' st' σ') : Good (fun H locs cells slots g => W p l e R s m args below meth c H locs cells slots Q g) m G cA ex X A s.heap n0 z0 nL ad0 pc ls st σ := by
    intro ad lsJ H locs hr
    obtain ⟨hP, hD, hS, hl, hn, hWT, hTL, hTS, h0, h1, hX, hA0⟩ := hr
    obtain ⟨hx, hb, hml, hown, hnm, htb, hK, hE0, hNW, hA⟩ := C
    have hex := hE0.2.2.1
    unfold stI at h
    dsimp only at h
    obtain ⟨y0, r0, hn1, rfl⟩ := pL_inv h; replace h := hn1; clear hn1
    cases go_inv h
    exact lv_l2i hx hb hd rfl (hg ad lsJ H locs ⟨hP, hD, hS, hl, hn, hWT, hTL, TS_c wtI (TS_t hTS), h0, h1, hX, hA0⟩)
set_option maxHeartbeats 1000000 in
theorem sm_dup {p : Program} {l : Launch} {e : Env} {R : Room} {s : State} {m : MethodId} {args : Array Value} {below : List Frame} {meth : Method} {c : Code} {Q : State → Prop} {M : Nat} {G : va_G} {cA : Nat → ClassId} {ex : Nat → Nat → Value} {X : Nat × (Nat → Int32)} {A : Nat → Prop} {nL n0 z0 : Nat} {ad0 : Nat → Nat} {E : Cal} {ret : Option FieldType}  {ln res pc pc' : Nat} {ls st ls' st' : List PV} {σ σ' : St}
    (C : Cx p s m args meth c M G cA ex X A nL) (hd : decode (mT M).2.1 pc = .ok (.dup, 1)) (h : stI E ret (.dup) ln res pc ls st σ = some (Sum.inl (pc', ls', st', σ')))
    (hg : Good (fun H locs cells slots g => W p l e R s m args below meth c H locs cells slots Q g) m G cA ex X A s.heap n0 z0 nL ad0 pc' ls' st' σ') : Good (fun H locs cells slots g => W p l e R s m args below meth c H locs cells slots Q g) m G cA ex X A s.heap n0 z0 nL ad0 pc ls st σ := by
    intro ad lsJ H locs hr
    obtain ⟨hP, hD, hS, hl, hn, hWT, hTL, hTS, h0, h1, hX, hA0⟩ := hr
    obtain ⟨hx, hb, hml, hown, hnm, htb, hK, hE0, hNW, hA⟩ := C
    have hex := hE0.2.2.1
    unfold stI at h
    dsimp only at h
    split at h
    · have hgd := (guard_inv h).1; replace h := (guard_inv h).2
      cases go_inv h
      exact lv_dup hx hb hd (trv_cat1 hex (by simpa using hgd)) (hg ad lsJ H locs ⟨hP, hD, hS, hl, hn, hWT, hTL, TS_c (TS_h hTS) hTS, h0, h1, hX, hA0⟩)
    · cases h
set_option maxHeartbeats 1000000 in
theorem sm_pop {p : Program} {l : Launch} {e : Env} {R : Room} {s : State} {m : MethodId} {args : Array Value} {below : List Frame} {meth : Method} {c : Code} {Q : State → Prop} {M : Nat} {G : va_G} {cA : Nat → ClassId} {ex : Nat → Nat → Value} {X : Nat × (Nat → Int32)} {A : Nat → Prop} {nL n0 z0 : Nat} {ad0 : Nat → Nat} {E : Cal} {ret : Option FieldType}  {ln res pc pc' : Nat} {ls st ls' st' : List PV} {σ σ' : St}
    (C : Cx p s m args meth c M G cA ex X A nL) (hd : decode (mT M).2.1 pc = .ok (.pop, 1)) (h : stI E ret (.pop) ln res pc ls st σ = some (Sum.inl (pc', ls', st', σ')))
    (hg : Good (fun H locs cells slots g => W p l e R s m args below meth c H locs cells slots Q g) m G cA ex X A s.heap n0 z0 nL ad0 pc' ls' st' σ') : Good (fun H locs cells slots g => W p l e R s m args below meth c H locs cells slots Q g) m G cA ex X A s.heap n0 z0 nL ad0 pc ls st σ := by
    intro ad lsJ H locs hr
    obtain ⟨hP, hD, hS, hl, hn, hWT, hTL, hTS, h0, h1, hX, hA0⟩ := hr
    obtain ⟨hx, hb, hml, hown, hnm, htb, hK, hE0, hNW, hA⟩ := C
    have hex := hE0.2.2.1
    unfold stI at h
    dsimp only at h
    split at h
    · have hgd := (guard_inv h).1; replace h := (guard_inv h).2
      cases go_inv h
      exact lv_pop hx hb hd (trv_cat1 hex (by simpa using hgd)) (hg ad lsJ H locs ⟨hP, hD, hS, hl, hn, hWT, hTL, TS_t hTS, h0, h1, hX, hA0⟩)
    · cases h
set_option maxHeartbeats 1000000 in
theorem sm_dup_x1 {p : Program} {l : Launch} {e : Env} {R : Room} {s : State} {m : MethodId} {args : Array Value} {below : List Frame} {meth : Method} {c : Code} {Q : State → Prop} {M : Nat} {G : va_G} {cA : Nat → ClassId} {ex : Nat → Nat → Value} {X : Nat × (Nat → Int32)} {A : Nat → Prop} {nL n0 z0 : Nat} {ad0 : Nat → Nat} {E : Cal} {ret : Option FieldType}  {ln res pc pc' : Nat} {ls st ls' st' : List PV} {σ σ' : St}
    (C : Cx p s m args meth c M G cA ex X A nL) (hd : decode (mT M).2.1 pc = .ok (.dup_x1, 1)) (h : stI E ret (.dup_x1) ln res pc ls st σ = some (Sum.inl (pc', ls', st', σ')))
    (hg : Good (fun H locs cells slots g => W p l e R s m args below meth c H locs cells slots Q g) m G cA ex X A s.heap n0 z0 nL ad0 pc' ls' st' σ') : Good (fun H locs cells slots g => W p l e R s m args below meth c H locs cells slots Q g) m G cA ex X A s.heap n0 z0 nL ad0 pc ls st σ := by
    intro ad lsJ H locs hr
    obtain ⟨hP, hD, hS, hl, hn, hWT, hTL, hTS, h0, h1, hX, hA0⟩ := hr
    obtain ⟨hx, hb, hml, hown, hnm, htb, hK, hE0, hNW, hA⟩ := C
    have hex := hE0.2.2.1
    unfold stI at h
    dsimp only at h
    split at h
    · have hgd := (guard_inv h).1; replace h := (guard_inv h).2
      simp only [Bool.and_eq_true, Bool.not_eq_true'] at hgd
      cases go_inv h
      exact lv_dup_x1 hx hb hd (trv_cat1 hex hgd.1) (trv_cat1 hex hgd.2) (hg ad lsJ H locs ⟨hP, hD, hS, hl, hn, hWT, hTL, TS_c (TS_h hTS) (TS_c (TS_h (TS_t hTS)) (TS_c (TS_h hTS) (TS_t (TS_t hTS)))), h0, h1, hX, hA0⟩)
    · cases h
set_option maxHeartbeats 1000000 in
theorem sm_dup2 {p : Program} {l : Launch} {e : Env} {R : Room} {s : State} {m : MethodId} {args : Array Value} {below : List Frame} {meth : Method} {c : Code} {Q : State → Prop} {M : Nat} {G : va_G} {cA : Nat → ClassId} {ex : Nat → Nat → Value} {X : Nat × (Nat → Int32)} {A : Nat → Prop} {nL n0 z0 : Nat} {ad0 : Nat → Nat} {E : Cal} {ret : Option FieldType}  {ln res pc pc' : Nat} {ls st ls' st' : List PV} {σ σ' : St}
    (C : Cx p s m args meth c M G cA ex X A nL) (hd : decode (mT M).2.1 pc = .ok (.dup2, 1)) (h : stI E ret (.dup2) ln res pc ls st σ = some (Sum.inl (pc', ls', st', σ')))
    (hg : Good (fun H locs cells slots g => W p l e R s m args below meth c H locs cells slots Q g) m G cA ex X A s.heap n0 z0 nL ad0 pc' ls' st' σ') : Good (fun H locs cells slots g => W p l e R s m args below meth c H locs cells slots Q g) m G cA ex X A s.heap n0 z0 nL ad0 pc ls st σ := by
    intro ad lsJ H locs hr
    obtain ⟨hP, hD, hS, hl, hn, hWT, hTL, hTS, h0, h1, hX, hA0⟩ := hr
    obtain ⟨hx, hb, hml, hown, hnm, htb, hK, hE0, hNW, hA⟩ := C
    have hex := hE0.2.2.1
    unfold stI at h
    dsimp only at h
    split at h
    · rename_i v w r
      cases ev : is2 v with
      | true =>
        rw [ev, cond_true] at h
        cases go_inv h
        exact lv_dup2_2 hx hb hd (trv_c2 hex ev) (hg ad lsJ H locs ⟨hP, hD, hS, hl, hn, hWT, hTL, TS_c (TS_h hTS) hTS, h0, h1, hX, hA0⟩)
      | false =>
        rw [ev, cond_false] at h
        have hgd := (guard_inv h).1; replace h := (guard_inv h).2
        cases go_inv h
        exact lv_dup2_11 hx hb hd (trv_cat1 hex ev) (trv_cat1 hex (by simpa using hgd)) (hg ad lsJ H locs ⟨hP, hD, hS, hl, hn, hWT, hTL, TS_c (TS_h hTS) (TS_c (TS_h (TS_t hTS)) hTS), h0, h1, hX, hA0⟩)
    · cases h
set_option maxHeartbeats 1000000 in
theorem sm_ifCond {p : Program} {l : Launch} {e : Env} {R : Room} {s : State} {m : MethodId} {args : Array Value} {below : List Frame} {meth : Method} {c : Code} {Q : State → Prop} {M : Nat} {G : va_G} {cA : Nat → ClassId} {ex : Nat → Nat → Value} {X : Nat × (Nat → Int32)} {A : Nat → Prop} {nL n0 z0 : Nat} {ad0 : Nat → Nat} {E : Cal} {ret : Option FieldType} {i0 : Jvm.ClassFile.Cond} {i1 : Int} {ln res pc pc' : Nat} {ls st ls' st' : List PV} {σ σ' : St}
    (C : Cx p s m args meth c M G cA ex X A nL) (hd : decode (mT M).2.1 pc = .ok ((.ifCond i0 i1), 3)) (h : stI E ret (.ifCond i0 i1) ln res pc ls st σ = some (Sum.inl (pc', ls', st', σ')))
    (hg : Good (fun H locs cells slots g => W p l e R s m args below meth c H locs cells slots Q g) m G cA ex X A s.heap n0 z0 nL ad0 pc' ls' st' σ') : Good (fun H locs cells slots g => W p l e R s m args below meth c H locs cells slots Q g) m G cA ex X A s.heap n0 z0 nL ad0 pc ls st σ := by
    intro ad lsJ H locs hr
    obtain ⟨hP, hD, hS, hl, hn, hWT, hTL, hTS, h0, h1, hX, hA0⟩ := hr
    obtain ⟨hx, hb, hml, hown, hnm, htb, hK, hE0, hNW, hA⟩ := C
    have hex := hE0.2.2.1
    unfold stI at h
    dsimp only at h
    obtain ⟨x0, r0, hn1, rfl⟩ := pI_inv h; replace h := hn1; clear hn1
    have hgd := (guard_inv h).1; replace h := (guard_inv h).2
    have hj : (pc : Int) + i1 = (jt pc i1 : Int) := (Int.toNat_of_nonneg (of_decide_eq_true hgd)).symm
    have hk := hg ad lsJ H locs
    cases i0
    case eq =>
      refine lv_if_eq hx hb hd hj (fun hc => ?_) (fun hc => ?_)
      · simp only [condI, decide_eq_true_eq, hc, decide_true, Bool.not_true, Bool.not_false, decide_false, cond_true, cond_false, not_true, not_false_eq_true, ne_eq] at h
        cases go_inv h
        exact hk ⟨hP, hD, hS, hl, hn, hWT, hTL, TS_t hTS, h0, h1, hX, hA0⟩
      · simp only [condI, hc, decide_true, Bool.not_true, Bool.not_false, decide_false, cond_true, cond_false, Classical.not_not, not_true, not_false_eq_true, ne_eq] at h hc
        first | (simp only [hc, decide_true, decide_false, Bool.not_true, Bool.not_false, cond_true, cond_false] at h) | skip
        cases go_inv h
        exact hk ⟨hP, hD, hS, hl, hn, hWT, hTL, TS_t hTS, h0, h1, hX, hA0⟩
    case ne =>
      refine lv_if_ne hx hb hd hj (fun hc => ?_) (fun hc => ?_)
      · simp only [condI, decide_eq_true_eq, hc, decide_true, Bool.not_true, Bool.not_false, decide_false, cond_true, cond_false, not_true, not_false_eq_true, ne_eq] at h
        cases go_inv h
        exact hk ⟨hP, hD, hS, hl, hn, hWT, hTL, TS_t hTS, h0, h1, hX, hA0⟩
      · simp only [condI, hc, decide_true, Bool.not_true, Bool.not_false, decide_false, cond_true, cond_false, Classical.not_not, not_true, not_false_eq_true, ne_eq] at h hc
        first | (simp only [hc, decide_true, decide_false, Bool.not_true, Bool.not_false, cond_true, cond_false] at h) | skip
        cases go_inv h
        exact hk ⟨hP, hD, hS, hl, hn, hWT, hTL, TS_t hTS, h0, h1, hX, hA0⟩
    case lt =>
      refine lv_if_lt hx hb hd hj (fun hc => ?_) (fun hc => ?_)
      · simp only [condI, decide_eq_true_eq, hc, decide_true, Bool.not_true, Bool.not_false, decide_false, cond_true, cond_false, not_true, not_false_eq_true, ne_eq] at h
        cases go_inv h
        exact hk ⟨hP, hD, hS, hl, hn, hWT, hTL, TS_t hTS, h0, h1, hX, hA0⟩
      · simp only [condI, hc, decide_true, Bool.not_true, Bool.not_false, decide_false, cond_true, cond_false, Classical.not_not, not_true, not_false_eq_true, ne_eq] at h hc
        first | (simp only [hc, decide_true, decide_false, Bool.not_true, Bool.not_false, cond_true, cond_false] at h) | skip
        cases go_inv h
        exact hk ⟨hP, hD, hS, hl, hn, hWT, hTL, TS_t hTS, h0, h1, hX, hA0⟩
    case ge =>
      refine lv_if_ge hx hb hd hj (fun hc => ?_) (fun hc => ?_)
      · simp only [condI, decide_eq_true_eq, hc, decide_true, Bool.not_true, Bool.not_false, decide_false, cond_true, cond_false, not_true, not_false_eq_true, ne_eq] at h
        cases go_inv h
        exact hk ⟨hP, hD, hS, hl, hn, hWT, hTL, TS_t hTS, h0, h1, hX, hA0⟩
      · simp only [condI, hc, decide_true, Bool.not_true, Bool.not_false, decide_false, cond_true, cond_false, Classical.not_not, not_true, not_false_eq_true, ne_eq] at h hc
        first | (simp only [hc, decide_true, decide_false, Bool.not_true, Bool.not_false, cond_true, cond_false] at h) | skip
        cases go_inv h
        exact hk ⟨hP, hD, hS, hl, hn, hWT, hTL, TS_t hTS, h0, h1, hX, hA0⟩
    case gt =>
      refine lv_if_gt hx hb hd hj (fun hc => ?_) (fun hc => ?_)
      · simp only [condI, decide_eq_true_eq, hc, decide_true, Bool.not_true, Bool.not_false, decide_false, cond_true, cond_false, not_true, not_false_eq_true, ne_eq] at h
        cases go_inv h
        exact hk ⟨hP, hD, hS, hl, hn, hWT, hTL, TS_t hTS, h0, h1, hX, hA0⟩
      · simp only [condI, hc, decide_true, Bool.not_true, Bool.not_false, decide_false, cond_true, cond_false, Classical.not_not, not_true, not_false_eq_true, ne_eq] at h hc
        first | (simp only [hc, decide_true, decide_false, Bool.not_true, Bool.not_false, cond_true, cond_false] at h) | skip
        cases go_inv h
        exact hk ⟨hP, hD, hS, hl, hn, hWT, hTL, TS_t hTS, h0, h1, hX, hA0⟩
    case le =>
      refine lv_if_le hx hb hd hj (fun hc => ?_) (fun hc => ?_)
      · simp only [condI, decide_eq_true_eq, hc, decide_true, Bool.not_true, Bool.not_false, decide_false, cond_true, cond_false, not_true, not_false_eq_true, ne_eq] at h
        cases go_inv h
        exact hk ⟨hP, hD, hS, hl, hn, hWT, hTL, TS_t hTS, h0, h1, hX, hA0⟩
      · simp only [condI, hc, decide_true, Bool.not_true, Bool.not_false, decide_false, cond_true, cond_false, Classical.not_not, not_true, not_false_eq_true, ne_eq] at h hc
        first | (simp only [hc, decide_true, decide_false, Bool.not_true, Bool.not_false, cond_true, cond_false] at h) | skip
        cases go_inv h
        exact hk ⟨hP, hD, hS, hl, hn, hWT, hTL, TS_t hTS, h0, h1, hX, hA0⟩
set_option maxHeartbeats 1000000 in
theorem sm_if_icmp {p : Program} {l : Launch} {e : Env} {R : Room} {s : State} {m : MethodId} {args : Array Value} {below : List Frame} {meth : Method} {c : Code} {Q : State → Prop} {M : Nat} {G : va_G} {cA : Nat → ClassId} {ex : Nat → Nat → Value} {X : Nat × (Nat → Int32)} {A : Nat → Prop} {nL n0 z0 : Nat} {ad0 : Nat → Nat} {E : Cal} {ret : Option FieldType} {i0 : Jvm.ClassFile.Cond} {i1 : Int} {ln res pc pc' : Nat} {ls st ls' st' : List PV} {σ σ' : St}
    (C : Cx p s m args meth c M G cA ex X A nL) (hd : decode (mT M).2.1 pc = .ok ((.if_icmp i0 i1), 3)) (h : stI E ret (.if_icmp i0 i1) ln res pc ls st σ = some (Sum.inl (pc', ls', st', σ')))
    (hg : Good (fun H locs cells slots g => W p l e R s m args below meth c H locs cells slots Q g) m G cA ex X A s.heap n0 z0 nL ad0 pc' ls' st' σ') : Good (fun H locs cells slots g => W p l e R s m args below meth c H locs cells slots Q g) m G cA ex X A s.heap n0 z0 nL ad0 pc ls st σ := by
    intro ad lsJ H locs hr
    obtain ⟨hP, hD, hS, hl, hn, hWT, hTL, hTS, h0, h1, hX, hA0⟩ := hr
    obtain ⟨hx, hb, hml, hown, hnm, htb, hK, hE0, hNW, hA⟩ := C
    have hex := hE0.2.2.1
    unfold stI at h
    dsimp only at h
    obtain ⟨y0, r0, hn1, rfl⟩ := pI_inv h; replace h := hn1; clear hn1
    obtain ⟨x0, r1, hn1, rfl⟩ := pI_inv h; replace h := hn1; clear hn1
    have hgd := (guard_inv h).1; replace h := (guard_inv h).2
    have hj : (pc : Int) + i1 = (jt pc i1 : Int) := (Int.toNat_of_nonneg (of_decide_eq_true hgd)).symm
    have hk := hg ad lsJ H locs
    cases i0
    case eq =>
      refine lv_icmp_eq hx hb hd hj (fun hc => ?_) (fun hc => ?_)
      · simp only [condI, decide_eq_true_eq, hc, decide_true, Bool.not_true, Bool.not_false, decide_false, cond_true, cond_false, not_true, not_false_eq_true, ne_eq] at h
        cases go_inv h
        exact hk ⟨hP, hD, hS, hl, hn, hWT, hTL, TS_t (TS_t hTS), h0, h1, hX, hA0⟩
      · simp only [condI, hc, decide_true, Bool.not_true, Bool.not_false, decide_false, cond_true, cond_false, Classical.not_not, not_true, not_false_eq_true, ne_eq] at h hc
        first | (simp only [hc, decide_true, decide_false, Bool.not_true, Bool.not_false, cond_true, cond_false] at h) | skip
        cases go_inv h
        exact hk ⟨hP, hD, hS, hl, hn, hWT, hTL, TS_t (TS_t hTS), h0, h1, hX, hA0⟩
    case ne =>
      refine lv_icmp_ne hx hb hd hj (fun hc => ?_) (fun hc => ?_)
      · simp only [condI, decide_eq_true_eq, hc, decide_true, Bool.not_true, Bool.not_false, decide_false, cond_true, cond_false, not_true, not_false_eq_true, ne_eq] at h
        cases go_inv h
        exact hk ⟨hP, hD, hS, hl, hn, hWT, hTL, TS_t (TS_t hTS), h0, h1, hX, hA0⟩
      · simp only [condI, hc, decide_true, Bool.not_true, Bool.not_false, decide_false, cond_true, cond_false, Classical.not_not, not_true, not_false_eq_true, ne_eq] at h hc
        first | (simp only [hc, decide_true, decide_false, Bool.not_true, Bool.not_false, cond_true, cond_false] at h) | skip
        cases go_inv h
        exact hk ⟨hP, hD, hS, hl, hn, hWT, hTL, TS_t (TS_t hTS), h0, h1, hX, hA0⟩
    case lt =>
      refine lv_icmp_lt hx hb hd hj (fun hc => ?_) (fun hc => ?_)
      · simp only [condI, decide_eq_true_eq, hc, decide_true, Bool.not_true, Bool.not_false, decide_false, cond_true, cond_false, not_true, not_false_eq_true, ne_eq] at h
        cases go_inv h
        exact hk ⟨hP, hD, hS, hl, hn, hWT, hTL, TS_t (TS_t hTS), h0, h1, hX, hA0⟩
      · simp only [condI, hc, decide_true, Bool.not_true, Bool.not_false, decide_false, cond_true, cond_false, Classical.not_not, not_true, not_false_eq_true, ne_eq] at h hc
        first | (simp only [hc, decide_true, decide_false, Bool.not_true, Bool.not_false, cond_true, cond_false] at h) | skip
        cases go_inv h
        exact hk ⟨hP, hD, hS, hl, hn, hWT, hTL, TS_t (TS_t hTS), h0, h1, hX, hA0⟩
    case ge =>
      refine lv_icmp_ge hx hb hd hj (fun hc => ?_) (fun hc => ?_)
      · simp only [condI, decide_eq_true_eq, hc, decide_true, Bool.not_true, Bool.not_false, decide_false, cond_true, cond_false, not_true, not_false_eq_true, ne_eq] at h
        cases go_inv h
        exact hk ⟨hP, hD, hS, hl, hn, hWT, hTL, TS_t (TS_t hTS), h0, h1, hX, hA0⟩
      · simp only [condI, hc, decide_true, Bool.not_true, Bool.not_false, decide_false, cond_true, cond_false, Classical.not_not, not_true, not_false_eq_true, ne_eq] at h hc
        first | (simp only [hc, decide_true, decide_false, Bool.not_true, Bool.not_false, cond_true, cond_false] at h) | skip
        cases go_inv h
        exact hk ⟨hP, hD, hS, hl, hn, hWT, hTL, TS_t (TS_t hTS), h0, h1, hX, hA0⟩
    case gt =>
      refine lv_icmp_gt hx hb hd hj (fun hc => ?_) (fun hc => ?_)
      · simp only [condI, decide_eq_true_eq, hc, decide_true, Bool.not_true, Bool.not_false, decide_false, cond_true, cond_false, not_true, not_false_eq_true, ne_eq] at h
        cases go_inv h
        exact hk ⟨hP, hD, hS, hl, hn, hWT, hTL, TS_t (TS_t hTS), h0, h1, hX, hA0⟩
      · simp only [condI, hc, decide_true, Bool.not_true, Bool.not_false, decide_false, cond_true, cond_false, Classical.not_not, not_true, not_false_eq_true, ne_eq] at h hc
        first | (simp only [hc, decide_true, decide_false, Bool.not_true, Bool.not_false, cond_true, cond_false] at h) | skip
        cases go_inv h
        exact hk ⟨hP, hD, hS, hl, hn, hWT, hTL, TS_t (TS_t hTS), h0, h1, hX, hA0⟩
    case le =>
      refine lv_icmp_le hx hb hd hj (fun hc => ?_) (fun hc => ?_)
      · simp only [condI, decide_eq_true_eq, hc, decide_true, Bool.not_true, Bool.not_false, decide_false, cond_true, cond_false, not_true, not_false_eq_true, ne_eq] at h
        cases go_inv h
        exact hk ⟨hP, hD, hS, hl, hn, hWT, hTL, TS_t (TS_t hTS), h0, h1, hX, hA0⟩
      · simp only [condI, hc, decide_true, Bool.not_true, Bool.not_false, decide_false, cond_true, cond_false, Classical.not_not, not_true, not_false_eq_true, ne_eq] at h hc
        first | (simp only [hc, decide_true, decide_false, Bool.not_true, Bool.not_false, cond_true, cond_false] at h) | skip
        cases go_inv h
        exact hk ⟨hP, hD, hS, hl, hn, hWT, hTL, TS_t (TS_t hTS), h0, h1, hX, hA0⟩
set_option maxHeartbeats 1000000 in
theorem sm_goto {p : Program} {l : Launch} {e : Env} {R : Room} {s : State} {m : MethodId} {args : Array Value} {below : List Frame} {meth : Method} {c : Code} {Q : State → Prop} {M : Nat} {G : va_G} {cA : Nat → ClassId} {ex : Nat → Nat → Value} {X : Nat × (Nat → Int32)} {A : Nat → Prop} {nL n0 z0 : Nat} {ad0 : Nat → Nat} {E : Cal} {ret : Option FieldType} {i0 : Int} {ln res pc pc' : Nat} {ls st ls' st' : List PV} {σ σ' : St}
    (C : Cx p s m args meth c M G cA ex X A nL) (hd : decode (mT M).2.1 pc = .ok ((.goto i0), 3)) (h : stI E ret (.goto i0) ln res pc ls st σ = some (Sum.inl (pc', ls', st', σ')))
    (hg : Good (fun H locs cells slots g => W p l e R s m args below meth c H locs cells slots Q g) m G cA ex X A s.heap n0 z0 nL ad0 pc' ls' st' σ') : Good (fun H locs cells slots g => W p l e R s m args below meth c H locs cells slots Q g) m G cA ex X A s.heap n0 z0 nL ad0 pc ls st σ := by
    intro ad lsJ H locs hr
    obtain ⟨hP, hD, hS, hl, hn, hWT, hTL, hTS, h0, h1, hX, hA0⟩ := hr
    obtain ⟨hx, hb, hml, hown, hnm, htb, hK, hE0, hNW, hA⟩ := C
    have hex := hE0.2.2.1
    unfold stI at h
    dsimp only at h
    have hgd := (guard_inv h).1; replace h := (guard_inv h).2
    have hj : (pc : Int) + i0 = (jt pc i0 : Int) := (Int.toNat_of_nonneg (of_decide_eq_true hgd)).symm
    cases go_inv h
    exact lv_goto hx hb hd hj (hg ad lsJ H locs ⟨hP, hD, hS, hl, hn, hWT, hTL, hTS, h0, h1, hX, hA0⟩)
set_option maxHeartbeats 1000000 in
theorem sm_ifnonnull {p : Program} {l : Launch} {e : Env} {R : Room} {s : State} {m : MethodId} {args : Array Value} {below : List Frame} {meth : Method} {c : Code} {Q : State → Prop} {M : Nat} {G : va_G} {cA : Nat → ClassId} {ex : Nat → Nat → Value} {X : Nat × (Nat → Int32)} {A : Nat → Prop} {nL n0 z0 : Nat} {ad0 : Nat → Nat} {E : Cal} {ret : Option FieldType} {i0 : Int} {ln res pc pc' : Nat} {ls st ls' st' : List PV} {σ σ' : St}
    (C : Cx p s m args meth c M G cA ex X A nL) (hd : decode (mT M).2.1 pc = .ok ((.ifnonnull i0), 3)) (h : stI E ret (.ifnonnull i0) ln res pc ls st σ = some (Sum.inl (pc', ls', st', σ')))
    (hg : Good (fun H locs cells slots g => W p l e R s m args below meth c H locs cells slots Q g) m G cA ex X A s.heap n0 z0 nL ad0 pc' ls' st' σ') : Good (fun H locs cells slots g => W p l e R s m args below meth c H locs cells slots Q g) m G cA ex X A s.heap n0 z0 nL ad0 pc ls st σ := by
    intro ad lsJ H locs hr
    obtain ⟨hP, hD, hS, hl, hn, hWT, hTL, hTS, h0, h1, hX, hA0⟩ := hr
    obtain ⟨hx, hb, hml, hown, hnm, htb, hK, hE0, hNW, hA⟩ := C
    have hex := hE0.2.2.1
    unfold stI at h
    dsimp only at h
    obtain ⟨a0, t0, r0, hn1, rfl⟩ := pR_inv h; replace h := hn1; clear hn1
    have hgd := (guard_inv h).1; replace h := (guard_inv h).2
    rw [Bool.and_eq_true, Bool.or_eq_true] at hgd
    have hj : (pc : Int) + i0 = (jt pc i0 : Int) := (Int.toNat_of_nonneg (of_decide_eq_true hgd.1)).symm
    cases go_inv h
    have hk := hg ad lsJ H locs ⟨hP, hD, hS, hl, hn, hWT, hTL, TS_t hTS, h0, h1, hX, hA0⟩
    rw [List.map_cons]
    have hrf : ∃ b, trv ad ex (vR a0 t0) = .ref b := by
      rcases hgd.2 with q | q
      · cases Nat.eq_of_beq_eq_true q
        obtain ⟨q1, v1, hq1, -⟩ := hE0.2.2.2.1 a0
        exact ⟨q1, hq1⟩
      · exact ⟨_, trv_w (Nat.le_of_ble_eq_true q)⟩
    obtain ⟨b, hb9⟩ := hrf
    rw [hb9]
    exact lv_ifnonnull hx hb hd hj hk
set_option maxHeartbeats 1000000 in
theorem sm_tableswitch {p : Program} {l : Launch} {e : Env} {R : Room} {s : State} {m : MethodId} {args : Array Value} {below : List Frame} {meth : Method} {c : Code} {Q : State → Prop} {M : Nat} {G : va_G} {cA : Nat → ClassId} {ex : Nat → Nat → Value} {X : Nat × (Nat → Int32)} {A : Nat → Prop} {nL n0 z0 : Nat} {ad0 : Nat → Nat} {E : Cal} {ret : Option FieldType} {i0 : Int} {i1 : Int} {i2 : Int} {i3 : Array Int} {ln res pc pc' : Nat} {ls st ls' st' : List PV} {σ σ' : St}
    (C : Cx p s m args meth c M G cA ex X A nL) (hd : decode (mT M).2.1 pc = .ok ((.tableswitch i0 i1 i2 i3), ln)) (h : stI E ret (.tableswitch i0 i1 i2 i3) ln res pc ls st σ = some (Sum.inl (pc', ls', st', σ')))
    (hg : Good (fun H locs cells slots g => W p l e R s m args below meth c H locs cells slots Q g) m G cA ex X A s.heap n0 z0 nL ad0 pc' ls' st' σ') : Good (fun H locs cells slots g => W p l e R s m args below meth c H locs cells slots Q g) m G cA ex X A s.heap n0 z0 nL ad0 pc ls st σ := by
    intro ad lsJ H locs hr
    obtain ⟨hP, hD, hS, hl, hn, hWT, hTL, hTS, h0, h1, hX, hA0⟩ := hr
    obtain ⟨hx, hb, hml, hown, hnm, htb, hK, hE0, hNW, hA⟩ := C
    have hex := hE0.2.2.1
    unfold stI at h
    dsimp only at h
    obtain ⟨x0, r0, hn1, rfl⟩ := pI_inv h; replace h := hn1; clear hn1
    obtain ⟨o, ho, h, hc⟩ := swT_inv h
    cases go_inv h
    have hj : (pc : Int) + o = (jt pc o : Int) := (Int.toNat_of_nonneg ho).symm
    rcases hc with ⟨hc, rfl⟩ | ⟨hc1, hc2, hc3⟩
    · exact lv_tableOut hx hb hd hc hj (hg ad lsJ H locs ⟨hP, hD, hS, hl, hn, hWT, hTL, TS_t hTS, h0, h1, hX, hA0⟩)
    · exact lv_tableIn hx hb hd hc1 hc2 hc3 hj (hg ad lsJ H locs ⟨hP, hD, hS, hl, hn, hWT, hTL, TS_t hTS, h0, h1, hX, hA0⟩)
set_option maxHeartbeats 1000000 in
theorem sm_lookupswitch {p : Program} {l : Launch} {e : Env} {R : Room} {s : State} {m : MethodId} {args : Array Value} {below : List Frame} {meth : Method} {c : Code} {Q : State → Prop} {M : Nat} {G : va_G} {cA : Nat → ClassId} {ex : Nat → Nat → Value} {X : Nat × (Nat → Int32)} {A : Nat → Prop} {nL n0 z0 : Nat} {ad0 : Nat → Nat} {E : Cal} {ret : Option FieldType} {i0 : Int} {i1 : Array (Int × Int)} {ln res pc pc' : Nat} {ls st ls' st' : List PV} {σ σ' : St}
    (C : Cx p s m args meth c M G cA ex X A nL) (hd : decode (mT M).2.1 pc = .ok ((.lookupswitch i0 i1), ln)) (h : stI E ret (.lookupswitch i0 i1) ln res pc ls st σ = some (Sum.inl (pc', ls', st', σ')))
    (hg : Good (fun H locs cells slots g => W p l e R s m args below meth c H locs cells slots Q g) m G cA ex X A s.heap n0 z0 nL ad0 pc' ls' st' σ') : Good (fun H locs cells slots g => W p l e R s m args below meth c H locs cells slots Q g) m G cA ex X A s.heap n0 z0 nL ad0 pc ls st σ := by
    intro ad lsJ H locs hr
    obtain ⟨hP, hD, hS, hl, hn, hWT, hTL, hTS, h0, h1, hX, hA0⟩ := hr
    obtain ⟨hx, hb, hml, hown, hnm, htb, hK, hE0, hNW, hA⟩ := C
    have hex := hE0.2.2.1
    unfold stI at h
    dsimp only at h
    obtain ⟨x0, r0, hn1, rfl⟩ := pI_inv h; replace h := hn1; clear hn1
    have hgd := (guard_inv h).1; replace h := (guard_inv h).2
    simp only [Bool.and_eq_true] at hgd
    cases go_inv h
    have hj := (Int.toNat_of_nonneg (of_decide_eq_true hgd.2)).symm
    exact lv_lookup hx hb hd hgd.1 rfl hj (hg ad lsJ H locs ⟨hP, hD, hS, hl, hn, hWT, hTL, TS_t hTS, h0, h1, hX, hA0⟩)
