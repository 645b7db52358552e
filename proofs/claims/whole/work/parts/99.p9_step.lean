/-! ===== one turn, all instructions ===== -/
set_option maxHeartbeats 4000000 in
theorem sim_step {p : Program} {l : Launch} {e : Env} {R : Room} {s : State} {m : MethodId} {args : Array Value} {below : List Frame} {meth : Method} {c : Code} {Q : State → Prop} {M : Nat} {G : va_G} {cA : Nat → ClassId} {ex : Nat → Nat → Value} {X : Nat × (Nat → Int32)} {A : Nat → Prop} {nL n0 z0 : Nat} {ad0 : Nat → Nat} {E : Cal} {ret : Option FieldType} {en : Instr × Nat × Nat × Nat} {pc pc' d : Nat} {ls st ls' st' : List PV} {σ σ' : St}
    (C : Cx p s m args meth c M G cA ex X A nL) (hck : chkE (mT M).1.cls (decide ((mT M).1.name = "<init>")) en = true) (hd : decode (mT M).2.1 pc = .ok (en.1, en.2.1)) (h : stI E ret en.1 en.2.1 en.2.2.1 pc ls st σ = some (Sum.inl (pc', ls', st', σ')))
    (hE : ∀ M' as r σ1, E M' as σ = some (r, σ1) → TS σ as → mOK M' = true ∧ 1 ≤ d ∧ Ctr l (d - 1) M' as σ r σ1) (hR : d + 1 ≤ R.frames ∧ 100 * (d + 1) ≤ R.locals) (hroom : len σ' - n0 ≤ R.cells ∧ slo σ' - z0 ≤ R.slots) (hk9 : WT9 σ' ∧ TS σ' ls' ∧ TS σ' st' ∧ Gr σ σ') (hTS : TS σ st)
    (hg : Good (fun H locs cells slots g => W p l e R s m args below meth c H locs cells slots Q g) m G cA ex X A s.heap n0 z0 nL ad0 pc' ls' st' σ') : Good (fun H locs cells slots g => W p l e R s m args below meth c H locs cells slots Q g) m G cA ex X A s.heap n0 z0 nL ad0 pc ls st σ := by
  obtain ⟨i, ln, res, pos⟩ := en
  dsimp only at hck hd h
  unfold chkE at hck
  dsimp only at hck
  cases i
  case iconst =>
    dsimp only at hck
    have q := Nat.eq_of_beq_eq_true hck
    subst q
    exact sm_iconst C hd h hg
  case bipush =>
    dsimp only at hck
    have q := Nat.eq_of_beq_eq_true hck
    subst q
    exact sm_bipush C hd h hg
  case sipush =>
    dsimp only at hck
    have q := Nat.eq_of_beq_eq_true hck
    subst q
    exact sm_sipush C hd h hg
  case lconst =>
    dsimp only at hck
    have q := Nat.eq_of_beq_eq_true hck
    subst q
    exact sm_lconst C hd h hg
  case iload_n =>
    dsimp only at hck
    have q := Nat.eq_of_beq_eq_true hck
    subst q
    exact sm_iload_n C hd h hg
  case iload =>
    dsimp only at hck
    have q := Nat.eq_of_beq_eq_true hck
    subst q
    exact sm_iload C hd h hg
  case lload_n =>
    dsimp only at hck
    have q := Nat.eq_of_beq_eq_true hck
    subst q
    exact sm_lload_n C hd h hg
  case lload =>
    dsimp only at hck
    have q := Nat.eq_of_beq_eq_true hck
    subst q
    exact sm_lload C hd h hg
  case aload_n =>
    dsimp only at hck
    have q := Nat.eq_of_beq_eq_true hck
    subst q
    exact sm_aload_n C hd h hg
  case aload =>
    dsimp only at hck
    have q := Nat.eq_of_beq_eq_true hck
    subst q
    exact sm_aload C hd h hg
  case istore_n =>
    dsimp only at hck
    have q := Nat.eq_of_beq_eq_true hck
    subst q
    exact sm_istore_n C hd h hg
  case istore =>
    dsimp only at hck
    have q := Nat.eq_of_beq_eq_true hck
    subst q
    exact sm_istore C hd h hg
  case lstore_n =>
    dsimp only at hck
    have q := Nat.eq_of_beq_eq_true hck
    subst q
    exact sm_lstore_n C hd h hg
  case lstore =>
    dsimp only at hck
    have q := Nat.eq_of_beq_eq_true hck
    subst q
    exact sm_lstore C hd h hg
  case astore_n =>
    dsimp only at hck
    have q := Nat.eq_of_beq_eq_true hck
    subst q
    exact sm_astore_n C hd h hg
  case astore =>
    dsimp only at hck
    have q := Nat.eq_of_beq_eq_true hck
    subst q
    exact sm_astore C hd h hg
  case iinc =>
    dsimp only at hck
    have q := Nat.eq_of_beq_eq_true hck
    subst q
    exact sm_iinc C hd h hg
  case iadd =>
    dsimp only at hck
    have q := Nat.eq_of_beq_eq_true hck
    subst q
    exact sm_iadd C hd h hg
  case isub =>
    dsimp only at hck
    have q := Nat.eq_of_beq_eq_true hck
    subst q
    exact sm_isub C hd h hg
  case imul =>
    dsimp only at hck
    have q := Nat.eq_of_beq_eq_true hck
    subst q
    exact sm_imul C hd h hg
  case iand =>
    dsimp only at hck
    have q := Nat.eq_of_beq_eq_true hck
    subst q
    exact sm_iand C hd h hg
  case ior =>
    dsimp only at hck
    have q := Nat.eq_of_beq_eq_true hck
    subst q
    exact sm_ior C hd h hg
  case ixor =>
    dsimp only at hck
    have q := Nat.eq_of_beq_eq_true hck
    subst q
    exact sm_ixor C hd h hg
  case ishl =>
    dsimp only at hck
    have q := Nat.eq_of_beq_eq_true hck
    subst q
    exact sm_ishl C hd h hg
  case ishr =>
    dsimp only at hck
    have q := Nat.eq_of_beq_eq_true hck
    subst q
    exact sm_ishr C hd h hg
  case iushr =>
    dsimp only at hck
    have q := Nat.eq_of_beq_eq_true hck
    subst q
    exact sm_iushr C hd h hg
  case idiv =>
    dsimp only at hck
    have q := Nat.eq_of_beq_eq_true hck
    subst q
    exact sm_idiv C hd h hg
  case irem =>
    dsimp only at hck
    have q := Nat.eq_of_beq_eq_true hck
    subst q
    exact sm_irem C hd h hg
  case ladd =>
    dsimp only at hck
    have q := Nat.eq_of_beq_eq_true hck
    subst q
    exact sm_ladd C hd h hg
  case lmul =>
    dsimp only at hck
    have q := Nat.eq_of_beq_eq_true hck
    subst q
    exact sm_lmul C hd h hg
  case land =>
    dsimp only at hck
    have q := Nat.eq_of_beq_eq_true hck
    subst q
    exact sm_land C hd h hg
  case lor =>
    dsimp only at hck
    have q := Nat.eq_of_beq_eq_true hck
    subst q
    exact sm_lor C hd h hg
  case ldiv =>
    dsimp only at hck
    have q := Nat.eq_of_beq_eq_true hck
    subst q
    exact sm_ldiv C hd h hg
  case lrem =>
    dsimp only at hck
    have q := Nat.eq_of_beq_eq_true hck
    subst q
    exact sm_lrem C hd h hg
  case lshl =>
    dsimp only at hck
    have q := Nat.eq_of_beq_eq_true hck
    subst q
    exact sm_lshl C hd h hg
  case lcmp =>
    dsimp only at hck
    have q := Nat.eq_of_beq_eq_true hck
    subst q
    exact sm_lcmp C hd h hg
  case ineg =>
    dsimp only at hck
    have q := Nat.eq_of_beq_eq_true hck
    subst q
    exact sm_ineg C hd h hg
  case i2b =>
    dsimp only at hck
    have q := Nat.eq_of_beq_eq_true hck
    subst q
    exact sm_i2b C hd h hg
  case i2c =>
    dsimp only at hck
    have q := Nat.eq_of_beq_eq_true hck
    subst q
    exact sm_i2c C hd h hg
  case i2l =>
    dsimp only at hck
    have q := Nat.eq_of_beq_eq_true hck
    subst q
    exact sm_i2l C hd h hg
  case l2i =>
    dsimp only at hck
    have q := Nat.eq_of_beq_eq_true hck
    subst q
    exact sm_l2i C hd h hg
  case dup =>
    dsimp only at hck
    have q := Nat.eq_of_beq_eq_true hck
    subst q
    exact sm_dup C hd h hg
  case pop =>
    dsimp only at hck
    have q := Nat.eq_of_beq_eq_true hck
    subst q
    exact sm_pop C hd h hg
  case dup_x1 =>
    dsimp only at hck
    have q := Nat.eq_of_beq_eq_true hck
    subst q
    exact sm_dup_x1 C hd h hg
  case dup2 =>
    dsimp only at hck
    have q := Nat.eq_of_beq_eq_true hck
    subst q
    exact sm_dup2 C hd h hg
  case ifCond =>
    dsimp only at hck
    have q := Nat.eq_of_beq_eq_true hck
    subst q
    exact sm_ifCond C hd h hg
  case if_icmp =>
    dsimp only at hck
    have q := Nat.eq_of_beq_eq_true hck
    subst q
    exact sm_if_icmp C hd h hg
  case goto =>
    dsimp only at hck
    have q := Nat.eq_of_beq_eq_true hck
    subst q
    exact sm_goto C hd h hg
  case ifnonnull =>
    dsimp only at hck
    have q := Nat.eq_of_beq_eq_true hck
    subst q
    exact sm_ifnonnull C hd h hg
  case tableswitch =>
    dsimp only at hck
    exact sm_tableswitch C hd h hg
  case lookupswitch =>
    dsimp only at hck
    exact sm_lookupswitch C hd h hg
  case getfield =>
    dsimp only at hck
    simp only [Bool.and_eq_true, Nat.beq_eq] at hck
    obtain ⟨rfl, h2⟩ := hck
    cases e46 : (res / 64).beq 46 with
    | true =>
      rw [e46, cond_true] at h2
      simp only [Bool.or_eq_true, Bool.and_eq_true] at h2
      exact sm_getfS C hd h e46 (h2.elim (fun q => Or.inl ⟨q.1, TBL_of q.2⟩) (fun q => Or.inr ⟨q.1, TBL_of q.2⟩)) hg
    | false =>
      rw [e46, cond_false] at h2
      exact sm_getfield C hd h h2 hk9.2.2.1 hg
  case putfield =>
    dsimp only at hck
    simp only [Bool.and_eq_true, Nat.beq_eq] at hck
    obtain ⟨rfl, h2, h3⟩ := hck
    exact sm_putfield C hd h h2 h3 ⟨hk9.1, hk9.2.1, hk9.2.2.1⟩ hg
  case getstatic =>
    dsimp only at hck
    simp only [Bool.and_eq_true, Nat.beq_eq] at hck
    obtain ⟨rfl, h2, h3⟩ := hck
    exact sm_getstatic C hd h h2 (TBL_of h3) hg
  case iaload =>
    dsimp only at hck
    have q := Nat.eq_of_beq_eq_true hck
    subst q
    exact sm_iaload C hd h hg
  case baload =>
    dsimp only at hck
    have q := Nat.eq_of_beq_eq_true hck
    subst q
    exact sm_baload C hd h hg
  case laload =>
    dsimp only at hck
    have q := Nat.eq_of_beq_eq_true hck
    subst q
    exact sm_laload C hd h hg
  case iastore =>
    dsimp only at hck
    have q := Nat.eq_of_beq_eq_true hck
    subst q
    exact sm_iastore C hd h hg
  case bastore =>
    dsimp only at hck
    have q := Nat.eq_of_beq_eq_true hck
    subst q
    exact sm_bastore C hd h hg
  case lastore =>
    dsimp only at hck
    have q := Nat.eq_of_beq_eq_true hck
    subst q
    exact sm_lastore C hd h hg
  case arraylength =>
    dsimp only at hck
    have q := Nat.eq_of_beq_eq_true hck
    subst q
    exact sm_arraylength C hd h hg
  case aaload =>
    dsimp only at hck
    have q := Nat.eq_of_beq_eq_true hck
    subst q
    exact sm_aaload C hd h hk9.2.2.1 hg
  case aastore =>
    dsimp only at hck
    have q := Nat.eq_of_beq_eq_true hck
    subst q
    exact sm_aastore C hd h ⟨hk9.1, hk9.2.1, hk9.2.2.1⟩ hg
  case ldc =>
    dsimp only at hck
    simp only [Bool.and_eq_true, Nat.beq_eq] at hck
    obtain ⟨rfl, h2⟩ := hck
    cases e2 : (res % 2).beq 0 with
    | true => rw [e2, cond_true] at h2; exact sm_ldc C hd h e2 (TBL_of h2) hg
    | false => rw [e2, cond_false] at h2; exact sm_ldcS C hd h e2 h2 hg
  case ldc_w =>
    dsimp only at hck
    simp only [Bool.and_eq_true, Nat.beq_eq] at hck
    obtain ⟨rfl, h2, h3⟩ := hck
    exact sm_ldc_w C hd h (TBL_of h3) hg
  case ldc2_w =>
    dsimp only at hck
    simp only [Bool.and_eq_true, Nat.beq_eq] at hck
    obtain ⟨rfl, h3⟩ := hck
    exact sm_ldc2_w C hd h (TBL_of h3) hg
  case new =>
    dsimp only at hck
    simp only [Bool.and_eq_true, Nat.beq_eq] at hck
    obtain ⟨rfl, h2⟩ := hck
    split at h2
    · rename_i K T N hc
      exact sm_new C hd h ⟨K, T, N, hc, TBL_of h2⟩ hroom ⟨hk9.1, hk9.2.1, hk9.2.2.1⟩ hg
    · cases h2
  case newarray =>
    dsimp only at hck
    simp only [Bool.and_eq_true, Nat.beq_eq] at hck
    obtain ⟨rfl, h2⟩ := hck
    exact sm_newarray C hd h (TBL_of h2) hroom ⟨hk9.1, hk9.2.1, hk9.2.2.1⟩ hg
  case anewarray =>
    dsimp only at hck
    simp only [Bool.and_eq_true, Bool.or_eq_true, Nat.beq_eq] at hck
    obtain ⟨rfl, h2⟩ := hck
    exact sm_anewarray C hd h (h2.elim (fun q => Or.inl ⟨q.1, TBL_of q.2⟩) (fun q => Or.inr ⟨q.1, TBL_of q.2⟩)) hroom ⟨hk9.1, hk9.2.1, hk9.2.2.1⟩ hg
  case invokevirtual =>
    dsimp only at hck
    simp only [Bool.and_eq_true, Nat.beq_eq] at hck
    obtain ⟨rfl, h2⟩ := hck
    have h9 : callN E res pc ls st σ = some (Sum.inl (pc', ls', st', σ')) := h
    obtain ⟨as, rest, hst, -, -, -, r, σ1, hc, -⟩ := callN_inv h9
    have hTa : TS σ as := fun v hv => hTS v (by rw [hst]; exact List.mem_append_left _ (List.mem_reverse.mpr hv))
    obtain ⟨hm, hd1, hct⟩ := hE _ _ _ _ hc hTa
    exact sm_invokevirtual (d := d - 1) C hd h h2 hm (fun as0 rest0 r0 σ0 e0 h0 => (hE _ _ _ _ h0 (fun v hv => hTS v (by rw [e0]; exact List.mem_append_left _ (List.mem_reverse.mpr hv)))).2.2) ⟨by omega, by omega⟩ hroom hk9 hg
  case invokestatic =>
    dsimp only at hck
    simp only [Bool.and_eq_true, Nat.beq_eq] at hck
    obtain ⟨rfl, h2⟩ := hck
    cases e1 : isP res with
    | true =>
      rw [e1, cond_true] at h2
      have h2 := TBL_of h2
      cases e2 : res.beq 1001 with
      | true => rw [e2, cond_true] at h2; exact sm_copy C hd h e1 e2 h2 ⟨by omega, by omega⟩ hg
      | false =>
        rw [e2, cond_false] at h2
        cases e3 : res.beq 1002 with
        | true => rw [e3, cond_true] at h2; exact sm_mmax C hd h e1 e3 h2 ⟨by omega, by omega⟩ hroom hg
        | false =>
          rw [e3, cond_false] at h2
          cases e4 : res.beq 1003 with
          | true => rw [e4, cond_true] at h2; exact sm_mmin C hd h e1 e4 h2 ⟨by omega, by omega⟩ hroom hg
          | false =>
            rw [e4, cond_false] at h2
            have e5 : res.beq 1004 = true := by
              unfold isP at e1
              simp only [Bool.and_eq_true, Nat.ble_eq] at e1
              rw [← Bool.not_eq_true, Nat.beq_eq] at e2 e3 e4
              rw [Nat.beq_eq]; omega
            exact sm_lmax C hd h e1 e5 h2 ⟨by omega, by omega⟩ hroom hg
    | false =>
      rw [e1, cond_false] at h2
      have h9 : callN E res pc ls st σ = some (Sum.inl (pc', ls', st', σ')) := by unfold stI at h; dsimp only at h; rw [e1, cond_false] at h; exact h
      obtain ⟨as, rest, hst, -, -, -, r, σ1, hc, -⟩ := callN_inv h9
      have hTa : TS σ as := fun v hv => hTS v (by rw [hst]; exact List.mem_append_left _ (List.mem_reverse.mpr hv))
      obtain ⟨hm, hd1, hct⟩ := hE _ _ _ _ hc hTa
      exact sm_invokestatic (d := d - 1) C hd h e1 h2 hm (fun as0 rest0 r0 σ0 e0 h0 => (hE _ _ _ _ h0 (fun v hv => hTS v (by rw [e0]; exact List.mem_append_left _ (List.mem_reverse.mpr hv)))).2.2) ⟨by omega, by omega⟩ hroom hk9 hg
  case invokespecial =>
    dsimp only at hck
    simp only [Bool.and_eq_true, Nat.beq_eq] at hck
    obtain ⟨rfl, h2⟩ := hck
    cases e1 : res.beq 1000 with
    | true =>
      rw [e1, cond_true] at h2
      exact sm_objinit C hd h e1 (TBL_of h2) ⟨by omega, by omega⟩ hg
    | false =>
      rw [e1, cond_false] at h2
      have h9 : callN E res pc ls st σ = some (Sum.inl (pc', ls', st', σ')) := by unfold stI at h; dsimp only at h; rw [e1, cond_false] at h; exact h
      obtain ⟨as, rest, hst, -, -, -, r, σ1, hc, -⟩ := callN_inv h9
      have hTa : TS σ as := fun v hv => hTS v (by rw [hst]; exact List.mem_append_left _ (List.mem_reverse.mpr hv))
      obtain ⟨hm, hd1, hct⟩ := hE _ _ _ _ hc hTa
      exact sm_invokespecial (d := d - 1) C hd h e1 h2 hm (fun as0 rest0 r0 σ0 e0 h0 => (hE _ _ _ _ h0 (fun v hv => hTS v (by rw [e0]; exact List.mem_append_left _ (List.mem_reverse.mpr hv)))).2.2) ⟨by omega, by omega⟩ hroom hk9 hg
  case athrow =>
    unfold stI at h
    dsimp only at h
    cases h
  all_goals (first | (cases hck; done) | (unfold stI at h; dsimp only at h; split at h <;> first | (cases h; done) | (replace h := (guard_inv h).2; cases h; done)))
