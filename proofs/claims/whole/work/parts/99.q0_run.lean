/-! ===== whole walks, contracts ===== -/
theorem codeAt_chk {b : ByteArray} {own : String} {ini : Bool} : ∀ {code : List (Instr × Nat × Nat × Nat)} {p0 pc : Nat} {en : Instr × Nat × Nat × Nat}, chkL b own ini p0 code = true → codeAt code pc = some en → (isTh en.1 = true ∨ decode b (p0 + pc) = .ok (en.1, en.2.1)) ∧ chkE own ini en = true
  | [], _, _, _, _, h => by cases h
  | e :: r, p0, pc, en, hc, h => by
    unfold chkL at hc
    simp only [Bool.and_eq_true] at hc
    obtain ⟨h1, h2, h3⟩ := hc
    unfold codeAt at h
    cases e0 : pc.beq 0 with
    | true =>
      rw [e0, cond_true] at h
      cases h
      cases Nat.eq_of_beq_eq_true e0
      refine ⟨?_, h2⟩
      rw [Bool.or_eq_true] at h1
      rcases h1 with h1 | h1
      · exact Or.inl h1
      refine Or.inr ?_
      unfold dcd at h1
      rw [Nat.add_zero]
      split at h1
      · rename_i i' l' hd
        simp only [Bool.and_eq_true, decide_eq_true_eq, Nat.beq_eq] at h1
        rw [hd, h1.1, h1.2]
      · cases h1
    | false =>
      rw [e0, cond_false] at h
      cases e1 : Nat.ble e.2.1 pc with
      | false => rw [e1, cond_false] at h; cases h
      | true =>
        rw [e1, cond_true] at h
        have h4 := codeAt_chk h3 h
        have h5 := Nat.le_of_ble_eq_true e1
        rw [show p0 + e.2.1 + (pc - e.2.1) = p0 + pc by omega] at h4
        exact h4
theorem codeAt_mem : ∀ {code : List (Instr × Nat × Nat × Nat)} {pc : Nat} {en : Instr × Nat × Nat × Nat}, codeAt code pc = some en → en ∈ code
  | [], _, _, h => by cases h
  | e :: r, pc, en, h => by
    unfold codeAt at h
    cases e0 : pc.beq 0 with
    | true => rw [e0, cond_true] at h; cases h; exact List.mem_cons_self
    | false =>
      rw [e0, cond_false] at h
      cases e1 : Nat.ble e.2.1 pc with
      | false => rw [e1, cond_false] at h; cases h
      | true => rw [e1, cond_true] at h; exact List.mem_cons_of_mem _ (codeAt_mem h)
set_option maxHeartbeats 1000000 in
theorem sim_run {p : Program} {l : Launch} {e : Env} {R : Room} {s : State} {m : MethodId} {args : Array Value} {below : List Frame} {meth : Method} {c : Code} {Q : State → Prop} {M : Nat} {G : va_G} {cA : Nat → ClassId} {ex : Nat → Nat → Value} {X : Nat × (Nat → Int32)} {A : Nat → Prop} {nL n0 z0 d : Nat} {ad0 : Nat → Nat} {E : Cal} {K : MT} {r : Option PV} {σ' : St}
    (C : Cx p s m args meth c M G cA ex X A nL) (hPE : PE E) (hck : chkL (mT M).2.1 (mT M).1.cls (decide ((mT M).1.name = "<init>")) 0 K.1 = true)
    (hE : ∀ M' as σ r σ1, E M' as σ = some (r, σ1) → WT9 σ → TS σ as → mOK M' = true ∧ 1 ≤ d ∧ Ctr l (d - 1) M' as σ r σ1) (hR : d + 1 ≤ R.frames ∧ 100 * (d + 1) ≤ R.locals) (hroom : len σ' - n0 ≤ R.cells ∧ slo σ' - z0 ≤ R.slots)
    (hfin : ∀ pc ls st σ en, en ∈ K.1 → decode (mT M).2.1 pc = .ok (en.1, en.2.1) → chkE (mT M).1.cls (decide ((mT M).1.name = "<init>")) en = true → stI E K.2.1 en.1 en.2.1 en.2.2.1 pc ls st σ = some (Sum.inr (r, σ')) → Good (fun H locs cells slots g => W p l e R s m args below meth c H locs cells slots Q g) m G cA ex X A s.heap n0 z0 nL ad0 pc ls st σ) :
    ∀ n pc ls st σ, run E K n pc ls st σ = some (r, σ') → Good (fun H locs cells slots g => W p l e R s m args below meth c H locs cells slots Q g) m G cA ex X A s.heap n0 z0 nL ad0 pc ls st σ := by
  intro n
  induction n with
  | zero => intro pc ls st σ h; cases h
  | succ n ih =>
    intro pc ls st σ h ad lsJ H locs hr
    have hr1 := hr
    obtain ⟨-, -, -, -, -, hWT, hTL, hTS, -, -, -, -⟩ := hr1
    unfold run at h
    cases hs : stp E K pc ls st σ with
    | none => rw [hs] at h; cases h
    | some y =>
      rw [hs] at h
      unfold stp at hs
      split at hs
      · rename_i en hen
        obtain ⟨hd, hce⟩ := codeAt_chk hck hen
        rw [Nat.zero_add] at hd
        have hd : decode (mT M).2.1 pc = .ok (en.1, en.2.1) := by
          rcases hd with q | q
          · exfalso
            obtain ⟨i9, ln9, res9, pos9⟩ := en
            cases i9 <;> first | (cases q; done) | (cases hs; done)
          · exact q
        have hk := kp_all hPE hWT hTL hTS hs
        cases y with
        | inl q =>
          obtain ⟨pc', ls', st', σ1⟩ := q
          have hk : WT9 σ1 ∧ TS σ1 ls' ∧ TS σ1 st' ∧ Gr σ σ1 := hk
          have h : run E K n pc' ls' st' σ1 = some (r, σ') := h
          obtain ⟨g1, g2, g3⟩ := pe_run hPE _ _ _ _ _ _ _ h hk.1 hk.2.1 hk.2.2.1
          have q1 := Gr_len g3
          have q2 := Gr_slo g3
          exact sim_step C hce hd hs (fun M' as r1 σ2 h1 h2 => hE M' as σ r1 σ2 h1 hWT h2) hR ⟨by omega, by omega⟩ hk hTS (ih _ _ _ _ h) ad lsJ H locs hr
        | inr q =>
          have h : some q = some (r, σ') := h
          cases h
          exact hfin _ _ _ _ en (codeAt_mem hen) hd hce hs ad lsJ H locs hr
      · cases hs
theorem ent_c (v : PV) (r : List PV) : ent (v :: r) = (bif is2 v then [v, vU] else [v]) ++ ent r := by
  rcases v with x | x | ⟨o, t⟩ <;> rfl
theorem ent_len {ad : Nat → Nat} {ex : Nat → Nat → Value} (hex : ∀ t a, (∃ b, ex t a = .ref b) ∨ ex t a = .null) : ∀ (as : List PV), (lg_sl (as.map (trv ad ex))).length = (ent as).length
  | [] => rfl
  | v :: r => by
    have ih := ent_len (ad := ad) hex r
    rw [ent_c, List.length_append, ← ih]
    unfold lg_sl
    rw [List.map_cons, List.flatMap_cons, List.length_append]
    cases e : is2 v with
    | true => rw [if_pos (trv_c2 hex e)]; rfl
    | false => rw [if_neg (by rw [trv_cat1 hex e]; decide)]; rfl
theorem lvl_rep {f : PV → Value} : ∀ {n i : Nat}, lvl f (List.replicate n vU) i = []
  | 0, _ => rfl
  | n + 1, i => by
    rw [List.replicate_succ]
    show lvl f (List.replicate n vU) (i + 1) = []
    exact lvl_rep
theorem lvl_ent {ad : Nat → Nat} {ex : Nat → Nat → Value} (hex : ∀ t a, (∃ b, ex t a = .ref b) ∨ ex t a = .null) {n : Nat} : ∀ {as : List PV} {i : Nat} {q : Nat × Value}, q ∈ lvl (trv ad ex) (ent as ++ List.replicate n vU) i → q ∈ lv_args i (as.map (trv ad ex))
  | [], i, q, h => by
    rw [show ent [] ++ List.replicate n vU = List.replicate n vU from rfl, lvl_rep] at h
    cases h
  | v :: r, i, q, h => by
    rw [ent_c] at h
    rw [List.map_cons]
    unfold lv_args
    cases e : is2 v with
    | true =>
      rw [e] at h
      have h : q ∈ (bif isU v then lvl (trv ad ex) (ent r ++ List.replicate n vU) (i + 1 + 1) else (i, trv ad ex v) :: lvl (trv ad ex) (ent r ++ List.replicate n vU) (i + 1 + 1)) := h
      rw [if_pos (trv_c2 hex e)]
      cases e2 : isU v with
      | true => rw [e2] at h; exact List.mem_cons_of_mem _ (lvl_ent hex h)
      | false =>
        rw [e2] at h
        rcases List.mem_cons.mp h with e3 | e3
        · exact List.mem_cons.mpr (Or.inl e3)
        · exact List.mem_cons_of_mem _ (lvl_ent hex e3)
    | false =>
      rw [e] at h
      have h : q ∈ (bif isU v then lvl (trv ad ex) (ent r ++ List.replicate n vU) (i + 1) else (i, trv ad ex v) :: lvl (trv ad ex) (ent r ++ List.replicate n vU) (i + 1)) := h
      rw [if_neg (by rw [trv_cat1 hex e]; decide)]
      cases e2 : isU v with
      | true => rw [e2] at h; exact List.mem_cons_of_mem _ (lvl_ent hex h)
      | false =>
        rw [e2] at h
        rcases List.mem_cons.mp h with e3 | e3
        · exact List.mem_cons.mpr (Or.inl e3)
        · exact List.mem_cons_of_mem _ (lvl_ent hex e3)
theorem entry_len {as : List PV} {n : Nat} (h : (ent as).length ≤ n) : (entry as n).length = n := by
  unfold entry; simp; omega
theorem retOK_f {ret : Option FieldType} {x : Int32} (h : retOK ret x = true) : ∃ ty, ret = some ty ∧ narrow ty (.int x) = .int x := by
  unfold retOK at h
  split at h
  · exact ⟨_, rfl, rfl⟩
  · simp only [Bool.or_eq_true, decide_eq_true_eq] at h
    rcases h with rfl | rfl
    · exact ⟨_, rfl, rfl⟩
    · exact ⟨_, rfl, rfl⟩
  · exact ⟨_, rfl, by show Value.int x.toInt8.toInt32 = _; rw [of_decide_eq_true h]⟩
  · refine ⟨_, rfl, ?_⟩
    have := of_decide_eq_true h
    show Value.int _ = _
    exact congrArg Value.int this
  · cases h
/-- only a return ends a walk -/
def NoR (x : Nx) : Prop := ∀ q, x ≠ some (Sum.inr q)
theorem nr_go {pc : Nat} {ls st : List PV} {σ : St} : NoR (go pc ls st σ) := fun q h => by cases go_inv h
theorem nr_0 : NoR none := fun q h => by cases h
theorem nr_g {b : Bool} {x : Nx} (h : NoR x) : NoR (guard b x) := fun q h2 => h q (guard_inv h2).2
theorem nr_b {b : Bool} {x y : Nx} (h : NoR x) (h2 : NoR y) : NoR (bif b then x else y) := by cases b <;> assumption
theorem nr_I {st : List PV} {f : Int32 → List PV → Nx} (h : ∀ x r, NoR (f x r)) : NoR (pI st f) := fun q h2 => by obtain ⟨x, r, h3, -⟩ := pI_inv h2; exact h x r q h3
theorem nr_L {st : List PV} {f : Int64 → List PV → Nx} (h : ∀ x r, NoR (f x r)) : NoR (pL st f) := fun q h2 => by obtain ⟨x, r, h3, -⟩ := pL_inv h2; exact h x r q h3
theorem nr_R {st : List PV} {f : Nat → Nat → List PV → Nx} (h : ∀ a t r, NoR (f a t r)) : NoR (pR st f) := fun q h2 => by obtain ⟨a, t, r, h3, -⟩ := pR_inv h2; exact h a t r q h3
theorem nr_lI {ls : List PV} {k : Nat} {f : Int32 → Nx} (h : ∀ x, NoR (f x)) : NoR (ldI ls k f) := fun q h2 => by obtain ⟨x, -, h3⟩ := ldI_inv h2; exact h x q h3
theorem nr_lL {ls : List PV} {k : Nat} {f : Int64 → Nx} (h : ∀ x, NoR (f x)) : NoR (ldL ls k f) := fun q h2 => by obtain ⟨x, -, h3⟩ := ldL_inv h2; exact h x q h3
theorem nr_lR {ls : List PV} {k : Nat} {f : Nat → Nat → Nx} (h : ∀ a t, NoR (f a t)) : NoR (ldR ls k f) := fun q h2 => by obtain ⟨a, t, -, h3⟩ := ldR_inv h2; exact h a t q h3
theorem nr_c {E : Cal} {res pc : Nat} {ls st : List PV} {σ : St} : NoR (callN E res pc ls st σ) := fun q h => by obtain ⟨_, _, _, _, _, _, _, _, _, h2⟩ := callN_inv h; cases h2
theorem nr_cp {pc : Nat} {ls st : List PV} {σ : St} : NoR (copyN pc ls st σ) := fun q h => by obtain ⟨_, _, _, _, _, _, _, _, _, _, _, _, _, _, h2⟩ := copyN_inv h; rcases h2 with ⟨_, _, ⟨_, h2⟩ | ⟨_, h2⟩⟩ | ⟨_, _, _, h2⟩ <;> cases h2
theorem nr_p {res pc : Nat} {ls st : List PV} {σ : St} : NoR (primN res pc ls st σ) := by
  unfold primN
  exact nr_b nr_cp (nr_b (nr_I fun _ _ => nr_I fun _ _ => nr_g nr_go) (nr_b (nr_I fun _ _ => nr_I fun _ _ => nr_g nr_go) (nr_L fun _ _ => nr_L fun _ _ => nr_g nr_go)))
theorem nr_f {c f a : Nat} {σ : St} {r : List PV} {k : List PV → Nx} (h : ∀ l, NoR (k l)) : NoR (getF c f a σ r k) := fun q h2 => by rcases getF_inv h2 with ⟨_, h3⟩ | ⟨_, h3⟩ | ⟨_, _, h3⟩ <;> exact h _ q h3
theorem nr_s {pc : Nat} {d lo hi : Int} {offs : Array Int} {x : Int32} {k : Nat → Nx} (h : ∀ p, NoR (k p)) : NoR (swT pc d lo hi offs x k) := fun q h2 => by obtain ⟨_, _, h3, _⟩ := swT_inv h2; exact h _ q h3
def isRet (i : Instr) : Bool := match i with
  | .ireturn => true
  | .lreturn => true
  | .areturn => true
  | .return_ => true
  | _ => false
set_option maxHeartbeats 2000000 in
theorem nr_all {E : Cal} {ret : Option FieldType} {i : Instr} {l res pc : Nat} {ls st : List PV} {σ : St} (hi : isRet i = false) : NoR (stI E ret i l res pc ls st σ) := by
  unfold stI
  cases i
  case ireturn => cases hi
  case lreturn => cases hi
  case areturn => cases hi
  case return_ => cases hi
  all_goals (dsimp only; repeat (first | exact nr_go | exact nr_0 | exact nr_c | exact nr_cp | exact nr_p | refine nr_g ?_ | refine nr_b ?_ ?_ | refine nr_I (fun _ _ => ?_) | refine nr_L (fun _ _ => ?_) | refine nr_R (fun _ _ _ => ?_) | refine nr_lI (fun _ => ?_) | refine nr_lL (fun _ => ?_) | refine nr_lR (fun _ _ => ?_) | refine nr_f (fun _ => ?_) | refine nr_s (fun _ => ?_) | split))
theorem isLong_f {ret : Option FieldType} (h : isLong ret = true) : ret = some .long := by
  unfold isLong at h
  split at h
  · rfl
  · cases h
theorem isVoid_f {ret : Option FieldType} (h : isVoid ret = true) : ret = none := by
  unfold isVoid at h
  split at h
  · rfl
  · cases h
/-- a return -/
theorem ret_fin {p : Program} {l : Launch} {e : Env} {R : Room} {s : State} {m : MethodId} {args : Array Value} {below : List Frame} {meth : Method} {c : Code} {M : Nat} {G : va_G} {cA : Nat → ClassId} {ex : Nat → Nat → Value} {X : Nat × (Nat → Int32)} {nL sz : Nat} {ad0 : Nat → Nat} {E : Cal} {ret : Option FieldType} {r : Option PV} {σ0 σ σ' : St} {en : Instr × Nat × Nat × Nat} {pc : Nat} {ls st : List PV}
    (C : Cx p s m args meth c M G cA ex X (va_A (wW ad0 cA σ0) sz) nL) (hlocks : meth.locks = false) (hret : meth.sig.returnType = ret) (hra : isAr en.1 = true → isRf ret = true) (hd : decode (mT M).2.1 pc = .ok (en.1, en.2.1)) (hck : chkE (mT M).1.cls (decide ((mT M).1.name = "<init>")) en = true) (h : stI E ret en.1 en.2.1 en.2.2.1 pc ls st σ = some (Sum.inr (r, σ'))) :
    Good (fun H locs cells slots g => W p l e R s m args below meth c H locs cells slots (MQ below (CPost G cA ex ad0 σ0 sz r σ') args s (len σ' - len σ0) (slo σ' - slo σ0) (va_A (wW ad0 cA σ0) sz)) g) m G cA ex X (va_A (wW ad0 cA σ0) sz) s.heap (len σ0) (slo σ0) nL ad0 pc ls st σ := by
  intro ad lsJ H locs hr
  obtain ⟨hP, hD, hS, hl, hn, hWT, hTL, hTS, h0, h1, hX, hA0⟩ := hr
  obtain ⟨hx, hb, hml, hown, hnm, htb, hK, hE0, hNW, hA⟩ := C
  obtain ⟨i, ln, res, pos⟩ := en
  dsimp only at hd hck h hra
  have fin : ∀ t : State, t.heap = H → ∀ v : Option PV, CPost G cA ex ad0 σ0 sz v σ args s (.returned (v.map (trv ad ex))) t := fun t ht v => ⟨ad, hA0, rfl, by rw [ht]; exact hP, hD, hS.F ht⟩
  cases er : isRet i with
  | false => exact absurd h (nr_all er _)
  | true =>
  unfold chkE at hck
  unfold stI at h
  cases i
  case ireturn =>
    dsimp only at hck h hd
    have q := Nat.eq_of_beq_eq_true hck
    subst q
    split at h
    · have hg := (guard_inv h).1
      have h2 := (guard_inv h).2
      cases h2
      obtain ⟨ty, e1, e2⟩ := retOK_f hg
      exact W.zret (Qc := CPost G cA ex ad0 σ0 sz (some (vI _)) σ) hx hb (hret.trans e1) e2 (fun t ht _ => fin t ht (some (vI _))) hS.2.2 hd hlocks
    · cases h
  case lreturn =>
    dsimp only at hck h hd
    have q := Nat.eq_of_beq_eq_true hck
    subst q
    split at h
    · have hg := isLong_f (guard_inv h).1
      have h2 := (guard_inv h).2
      cases h2
      exact W.lret (Qc := CPost G cA ex ad0 σ0 sz (some (vL _)) σ) hx hb (hret.trans hg) (fun t ht _ => fin t ht (some (vL _))) hS.2.2 hd hlocks
    · cases h
  case return_ =>
    dsimp only at hck h hd
    have q := Nat.eq_of_beq_eq_true hck
    subst q
    split at h
    · have hg := isVoid_f (guard_inv h).1
      have h2 := (guard_inv h).2
      cases h2
      exact W.vret (Qc := CPost G cA ex ad0 σ0 sz none σ) hx hb (hret.trans hg) (fun t ht _ => fin t ht none) hS.2.2 hd hlocks
    · cases h
  case areturn =>
    dsimp only at hck h hd
    have q := Nat.eq_of_beq_eq_true hck
    subst q
    have hra := hra rfl
    split at h
    · rename_i a9 t9
      cases h
      have hv : trv ad ex (vR a9 t9) = .null ∨ ∃ b, trv ad ex (vR a9 t9) = .ref b := (trv_ref hE0.2.2.1 a9 t9).elim Or.inr Or.inl
      obtain ⟨rt, e1, e2⟩ : ∃ rt, ret = some rt ∧ ((∃ n, rt = .object n) ∨ ∃ t, rt = .array t) := by
        unfold isRf at hra
        split at hra
        · exact ⟨_, rfl, Or.inl ⟨_, rfl⟩⟩
        · exact ⟨_, rfl, Or.inr ⟨_, rfl⟩⟩
        · cases hra
      exact W.aret (Qc := CPost G cA ex ad0 σ0 sz (some (vR a9 t9)) σ) hx hb (hret.trans e1) e2 hv (fun t ht _ => fin t ht (some (vR a9 t9))) hS.2.2 hd hlocks
    · cases h
  all_goals cases er
