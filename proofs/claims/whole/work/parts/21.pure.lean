/-! ===== THE PURE SIDE: walks as propositions ===== -/
def Lq (E E' : Cal) : Prop := ∀ M as σ x, E M as σ = some x → E' M as σ = some x
theorem stI_mono {E E' : Cal} (h : Lq E E') {ret : Option FieldType} {i : Instr} {l res pc : Nat} {ls st : List PV} {σ : St} {y} (hs : stI E ret i l res pc ls st σ = some y) : stI E' ret i l res pc ls st σ = some y := by
  have hc : ∀ y, callN E res pc ls st σ = some y → callN E' res pc ls st σ = some y := by
    intro y hy
    unfold callN at hy ⊢
    cases hb : (Nat.ble (res / 1024 % 64) st.length && (Nat.ble (catS (st.drop (res / 1024 % 64))) 8 && rcv (res / 65536) (st.take (res / 1024 % 64)).reverse)) with
    | false => rw [hb] at hy; cases hy
    | true =>
      rw [hb] at hy
      simp only [cond_true] at hy ⊢
      cases hE : E (res % 1024) (st.take (res / 1024 % 64)).reverse σ with
      | none => rw [hE] at hy; cases hy
      | some x => rw [hE] at hy; rw [h _ _ _ _ hE]; exact hy
  cases i
  case invokevirtual => exact hc y hs
  case invokestatic =>
    unfold stI at hs ⊢
    dsimp only at hs ⊢
    cases e : isP res with
    | true => rw [e] at hs; exact hs
    | false => rw [e] at hs; exact hc y hs
  case invokespecial =>
    unfold stI at hs ⊢
    dsimp only at hs ⊢
    cases e : res.beq 1000 with
    | true => rw [e] at hs; exact hs
    | false => rw [e] at hs; exact hc y hs
  all_goals exact hs
theorem stp_mono {E E' : Cal} (h : Lq E E') {K : MT} {pc : Nat} {ls st : List PV} {σ : St} {y} (hs : stp E K pc ls st σ = some y) : stp E' K pc ls st σ = some y := by
  unfold stp at hs ⊢
  split at hs
  · exact stI_mono h hs
  · cases hs
theorem run_mono {E E' : Cal} (h : Lq E E') {K : MT} : ∀ {n n' pc : Nat} {ls st : List PV} {σ : St} {x}, n ≤ n' → run E K n pc ls st σ = some x → run E' K n' pc ls st σ = some x
  | 0, _, _, _, _, _, _, _, hr => by cases hr
  | n + 1, 0, _, _, _, _, _, hn, _ => absurd hn (by omega)
  | n + 1, n' + 1, pc, ls, st, σ, x, hn, hr => by
    unfold run at hr ⊢
    cases hs : stp E K pc ls st σ with
    | none => rw [hs] at hr; cases hr
    | some y =>
      rw [hs] at hr
      rw [stp_mono h hs]
      cases y with
      | inl q =>
        obtain ⟨a, b, c, d⟩ := q
        exact run_mono h (by omega) hr
      | inr q => exact hr
theorem exec_mono {tb : Nat → MT} {N N' : Nat} (hN : N ≤ N') : ∀ d, Lq (exec tb N d) (exec tb N' d)
  | 0 => fun _ _ _ _ h => by cases h
  | d + 1 => fun M as σ x h => by
    unfold exec at h ⊢
    cases e : Nat.ble (ent as).length (tb M).2.2 with
    | false => rw [e] at h; cases h
    | true => rw [e] at h; exact run_mono (exec_mono hN d) hN h
def At (d : Nat) (K : MT) (pc : Nat) (ls st : List PV) (σ : St) (Q : Option PV → St → Prop) : Prop := ∃ N r σ', run (exec tab N d) K N pc ls st σ = some (r, σ') ∧ Q r σ'
def Ca (d M : Nat) (as : List PV) (σ : St) (Q : Option PV → St → Prop) : Prop := ∃ N r σ', exec tab N d M as σ = some (r, σ') ∧ Q r σ'
theorem at_go {d : Nat} {K : MT} {pc pc' : Nat} {ls ls' st st' : List PV} {σ σ' : St} {Q : Option PV → St → Prop} (h : ∀ E, stp E K pc ls st σ = go pc' ls' st' σ') : At d K pc ls st σ Q ↔ At d K pc' ls' st' σ' Q := by
  constructor
  · rintro ⟨N, r, σ1, h1, h2⟩
    cases N with
    | zero => cases h1
    | succ N =>
      unfold run at h1
      rw [h] at h1
      exact ⟨N + 1, r, σ1, run_mono (fun _ _ _ _ q => q) (Nat.le_succ N) h1, h2⟩
  · rintro ⟨N, r, σ1, h1, h2⟩
    refine ⟨N + 1, r, σ1, ?_, h2⟩
    unfold run
    rw [h]
    exact run_mono (exec_mono (Nat.le_succ N) d) (Nat.le_refl N) h1
theorem at_no {d : Nat} {K : MT} {pc : Nat} {ls st : List PV} {σ : St} {Q : Option PV → St → Prop} (h : ∀ E, stp E K pc ls st σ = none) : At d K pc ls st σ Q ↔ False := by
  constructor
  · rintro ⟨N, r, σ1, h1, h2⟩
    cases N with
    | zero => cases h1
    | succ N => unfold run at h1; rw [h] at h1; cases h1
  · exact False.elim
theorem at_gd {d : Nat} {K : MT} {pc pc' : Nat} {ls ls' st st' : List PV} {σ σ' : St} {Q : Option PV → St → Prop} {b : Bool} (h : ∀ E, stp E K pc ls st σ = guard b (go pc' ls' st' σ')) : At d K pc ls st σ Q ↔ (b = true ∧ At d K pc' ls' st' σ' Q) := by
  cases b with
  | true => rw [at_go (K := K) (pc := pc) h]; simp
  | false => rw [at_no (K := K) (pc := pc) h]; simp
theorem at_br {d : Nat} {K : MT} {pc a c : Nat} {ls ls' st st' : List PV} {σ σ' : St} {Q : Option PV → St → Prop} {P : Prop} [Decidable P] (h : ∀ E, stp E K pc ls st σ = go (bif decide P then a else c) ls' st' σ') : At d K pc ls st σ Q ↔ (if P then At d K a ls' st' σ' Q else At d K c ls' st' σ' Q) := by
  rw [at_go (K := K) (pc := pc) h]
  by_cases hp : P
  · rw [if_pos hp]; simp only [hp, decide_true, cond_true]
  · rw [if_neg hp]; simp only [hp, decide_false, cond_false]
theorem at_brn {d : Nat} {K : MT} {pc a c : Nat} {ls ls' st st' : List PV} {σ σ' : St} {Q : Option PV → St → Prop} {P : Prop} [Decidable P] (h : ∀ E, stp E K pc ls st σ = go (bif !(decide P) then a else c) ls' st' σ') : At d K pc ls st σ Q ↔ (if P then At d K c ls' st' σ' Q else At d K a ls' st' σ' Q) := by
  rw [at_go (K := K) (pc := pc) h]
  by_cases hp : P
  · rw [if_pos hp]; simp only [hp, decide_true, Bool.not_true, cond_false]
  · rw [if_neg hp]; simp only [hp, decide_false, Bool.not_false, cond_true]
theorem at_ret {d : Nat} {K : MT} {pc : Nat} {ls st : List PV} {σ : St} {Q : Option PV → St → Prop} {r : Option PV} {b : Bool} (h : ∀ E, stp E K pc ls st σ = guard b (some (Sum.inr (r, σ)))) : At d K pc ls st σ Q ↔ (b = true ∧ Q r σ) := by
  constructor
  · rintro ⟨N, r1, σ1, h1, h2⟩
    cases N with
    | zero => cases h1
    | succ N =>
      unfold run at h1
      rw [h] at h1
      cases b with
      | true => cases h1; exact ⟨rfl, h2⟩
      | false => cases h1
  · rintro ⟨rfl, h2⟩
    refine ⟨1, r, σ, ?_, h2⟩
    unfold run
    rw [h]; rfl
theorem at_call {d : Nat} {K : MT} {pc M : Nat} {ls st as rest : List PV} {σ : St} {Q : Option PV → St → Prop} (h : ∀ E, stp E K pc ls st σ = match (E M as σ) with
    | some (some v, σ') => go (pc + 3) ls (v :: rest) σ'
    | some (none, σ') => go (pc + 3) ls rest σ'
    | none => none) : At d K pc ls st σ Q ↔ Ca d M as σ (fun r σ' => At d K (pc + 3) ls (r.toList ++ rest) σ' Q) := by
  constructor
  · rintro ⟨N, r, σ1, h1, h2⟩
    cases N with
    | zero => cases h1
    | succ N =>
      unfold run at h1
      rw [h] at h1
      cases hE : exec tab (N + 1) d M as σ with
      | none => rw [hE] at h1; cases h1
      | some x =>
        obtain ⟨r1, σ2⟩ := x
        rw [hE] at h1
        refine ⟨N + 1, r1, σ2, hE, N + 1, r, σ1, ?_, h2⟩
        cases r1 with
        | none => exact run_mono (fun _ _ _ _ q => q) (Nat.le_succ N) h1
        | some v => exact run_mono (fun _ _ _ _ q => q) (Nat.le_succ N) h1
  · rintro ⟨N, r, σ1, h1, N2, r2, σ2, h2, h3⟩
    refine ⟨N + N2 + 1, r2, σ2, ?_, h3⟩
    unfold run
    rw [h, exec_mono (show N ≤ N + N2 + 1 by omega) d _ _ _ _ h1]
    cases r with
    | none => exact run_mono (exec_mono (by omega) d) (by omega) h2
    | some v => exact run_mono (exec_mono (by omega) d) (by omega) h2
theorem ca_at {d M : Nat} {as : List PV} {σ : St} {Q : Option PV → St → Prop} {K : MT} {ls : List PV} (hK : tab M = K) (hl : Nat.ble (ent as).length K.2.2 = true) (he : entry as K.2.2 = ls) : Ca (d + 1) M as σ Q ↔ At d K 0 ls [] σ Q := by
  subst hK; subst he
  constructor
  · rintro ⟨N, r, σ1, h1, h2⟩
    refine ⟨N, r, σ1, ?_, h2⟩
    unfold exec at h1
    rw [hl] at h1
    exact h1
  · rintro ⟨N, r, σ1, h1, h2⟩
    refine ⟨N, r, σ1, ?_, h2⟩
    unfold exec
    rw [hl]
    exact h1
/-- a call whose end is known -/
theorem ca_iff {d M : Nat} {as : List PV} {σ σ1 : St} {r : Option PV} (h : Ca d M as σ (fun a b => a = r ∧ b = σ1)) (Q : Option PV → St → Prop) : Ca d M as σ Q ↔ Q r σ1 := by
  obtain ⟨N, r0, σ0, h1, rfl, rfl⟩ := h
  constructor
  · rintro ⟨N2, r2, σ2, h2, h3⟩
    have a1 := exec_mono (Nat.le_max_left N N2) d _ _ _ _ h1
    have a2 := exec_mono (Nat.le_max_right N N2) d _ _ _ _ h2
    rw [a1] at a2
    cases a2
    exact h3
  · exact fun q => ⟨N, r0, σ0, h1, q⟩
theorem ca_mono {d M : Nat} {as : List PV} {σ : St} {Q Q' : Option PV → St → Prop} (h : Ca d M as σ Q) (hq : ∀ r σ', Q r σ' → Q' r σ') : Ca d M as σ Q' := by
  obtain ⟨N, r, σ', h1, h2⟩ := h
  exact ⟨N, r, σ', h1, hq _ _ h2⟩
theorem at_mono {d : Nat} {K : MT} {pc : Nat} {ls st : List PV} {σ : St} {Q Q' : Option PV → St → Prop} (h : At d K pc ls st σ Q) (hq : ∀ r σ', Q r σ' → Q' r σ') : At d K pc ls st σ Q' := by
  obtain ⟨N, r, σ', h1, h2⟩ := h
  exact ⟨N, r, σ', h1, hq _ _ h2⟩
theorem is2I {x : Int32} : is2 (vI x) = false := rfl
theorem is2R {o : Option Nat} {t : Nat} : is2 (vO o t) = false := rfl
