/-! ===== the start: both objects are made by what the machine does on the empty memory ===== -/
def stz : St := (fun _ _ => 0, fun _ _ => 0, fun _ _ => none, [], (0, fun _ => 0))
/-- the memory with another script -/
def pX (s : Nat × (Nat → Int32)) (σ : St) : St := (σ.1, σ.2.1, σ.2.2.1, σ.2.2.2.1, s)
def mN (s : Nat × (Nat → Int32)) (x : Nx) : Nx := match x with
  | some (Sum.inl (a, b, c, σ)) => some (Sum.inl (a, b, c, pX s σ))
  | some (Sum.inr (v, σ)) => some (Sum.inr (v, pX s σ))
  | none => none
def mC (s : Nat × (Nat → Int32)) (x : Option (Option PV × St)) : Option (Option PV × St) := match x with
  | some (v, σ) => some (v, pX s σ)
  | none => none
def ini : List Nat := [73, 46, 8, 62, 0, 39, 28, 244, 216, 255, 256, 22, 124]
/-- instructions that never look at the script -/
def okE (e : Instr × Nat × Nat × Nat) : Bool := match e.1 with
  | .aastore => true
  | .aload_n _ => true
  | .anewarray _ => true
  | .areturn => true
  | .athrow => true
  | .bipush _ => true
  | .dup => true
  | .getfield _ => true
  | .getstatic _ => true
  | .goto _ => true
  | .iastore => true
  | .iconst _ => true
  | .ifCond _ _ => true
  | .if_icmp _ _ => true
  | .iinc _ _ => true
  | .iload_n _ => true
  | .ireturn => true
  | .ishl => true
  | .istore_n _ => true
  | .ldc _ => true
  | .new _ => true
  | .newarray _ => true
  | .putfield _ => true
  | .return_ => true
  | .sipush _ => true
  | .invokespecial _ => e.2.2.1.beq 1000 || ini.contains (e.2.2.1 % 1024)
  | .invokestatic _ => !(isP e.2.2.1) && ini.contains (e.2.2.1 % 1024)
  | _ => false
theorem ini_ok : ini.all (fun M => (tab M).1.all okE) = true := by decide +kernel
section PX
variable {s : Nat × (Nat → Int32)} {E : Cal}
theorem mN_pI {st : List PV} {f : Int32 → List PV → Nx} : mN s (pI st f) = pI st (fun x r => mN s (f x r)) := by
  unfold pI; split <;> rfl
theorem mN_pL {st : List PV} {f : Int64 → List PV → Nx} : mN s (pL st f) = pL st (fun x r => mN s (f x r)) := by
  unfold pL; split <;> rfl
theorem mN_pR {st : List PV} {f : Nat → Nat → List PV → Nx} : mN s (pR st f) = pR st (fun x t r => mN s (f x t r)) := by
  unfold pR; split <;> rfl
theorem mN_guard {b : Bool} {x : Nx} : mN s (guard b x) = guard b (mN s x) := by cases b <;> rfl
theorem mN_cond {b : Bool} {x y : Nx} : mN s (bif b then x else y) = bif b then mN s x else mN s y := by cases b <;> rfl
theorem mN_ldI {ls : List PV} {i : Nat} {f : Int32 → Nx} : mN s (ldI ls i f) = ldI ls i (fun x => mN s (f x)) := by
  unfold ldI; split <;> rfl
theorem mN_ldR {ls : List PV} {i : Nat} {f : Nat → Nat → Nx} : mN s (ldR ls i f) = ldR ls i (fun x t => mN s (f x t)) := by
  unfold ldR; split <;> rfl
theorem mN_go {pc : Nat} {ls st : List PV} {σ : St} : mN s (go pc ls st σ) = go pc ls st (pX s σ) := rfl
theorem mN_no : mN s none = none := rfl
theorem mN_getF {c f a : Nat} {σ : St} {r : List PV} {k : List PV → Nx} : mN s (getF c f a σ r k) = getF c f a (pX s σ) r (fun q => mN s (k q)) := by
  unfold getF
  rw [mN_cond, mN_cond, mN_cond]; rfl
theorem mN_callN {res pc : Nat} {ls st : List PV} {σ : St} (hE : ∀ as σ, E (res % 1024) as (pX s σ) = mC s (E (res % 1024) as σ)) : callN E res pc ls st (pX s σ) = mN s (callN E res pc ls st σ) := by
  unfold callN
  rw [mN_cond, hE]
  cases E (res % 1024) (st.take (res / 1024 % 64)).reverse σ with
  | none => rfl
  | some x =>
    obtain ⟨v, σ'⟩ := x
    cases v <;> rfl
def okC (E : Cal) (s : Nat × (Nat → Int32)) : Prop := ∀ M, ini.contains M = true → ∀ as σ, E M as (pX s σ) = mC s (E M as σ)
theorem px_stI (hE : okC E s) {ret : Option FieldType} {i : Instr} {l res pos pc : Nat} {ls st : List PV} {σ : St} (h : okE (i, l, res, pos) = true) : stI E ret i l res pc ls st (pX s σ) = mN s (stI E ret i l res pc ls st σ) := by
  cases i
  case invokespecial q =>
    have h' : (res.beq 1000 || ini.contains (res % 1024)) = true := h
    unfold stI
    dsimp only
    cases e : res.beq 1000 with
    | true =>
      simp only [cond_true, mN_pR, mN_guard, mN_go]
    | false =>
      rw [e, Bool.false_or] at h'
      simp only [cond_false]
      exact mN_callN (hE _ h')
  case invokestatic q =>
    have h' : (!(isP res) && ini.contains (res % 1024)) = true := h
    unfold stI
    dsimp only
    cases e : isP res with
    | true => rw [e] at h'; cases h'
    | false =>
      rw [e, Bool.not_false, Bool.true_and] at h'
      simp only [cond_false]
      exact mN_callN (hE _ h')
  case dup => unfold stI; dsimp only; split
              · rw [mN_guard]; rfl
              · rfl
  case ireturn => unfold stI; dsimp only; split
                  · rw [mN_guard]; rfl
                  · rfl
  case areturn => unfold stI; dsimp only; split <;> rfl
  case return_ => unfold stI; dsimp only; split
                  · rw [mN_guard]; rfl
                  · rfl
  all_goals first
    | (exfalso; exact Bool.false_ne_true h)
    | (unfold stI; dsimp only; simp only [mN_pI, mN_pL, mN_pR, mN_guard, mN_cond, mN_ldI, mN_ldR, mN_getF, mN_go, mN_no]; rfl)
    | (unfold stI; dsimp only; simp only [mN_pI, mN_pL, mN_pR, mN_guard, mN_cond, mN_ldI, mN_ldR, mN_getF, mN_go, mN_no])
theorem codeAt_ok : ∀ {K : List (Instr × Nat × Nat × Nat)} {pc : Nat} {e : Instr × Nat × Nat × Nat}, K.all okE = true → codeAt K pc = some e → okE e = true
  | [], _, _, _, h => by cases h
  | k :: r, pc, e, ha, h => by
    rw [List.all_cons, Bool.and_eq_true] at ha
    unfold codeAt at h
    cases e1 : pc.beq 0 with
    | true => rw [e1] at h; simp only [cond_true] at h; cases h; exact ha.1
    | false =>
      rw [e1] at h; simp only [cond_false] at h
      cases e2 : Nat.ble k.2.1 pc with
      | true => rw [e2] at h; simp only [cond_true] at h; exact codeAt_ok ha.2 h
      | false => rw [e2] at h; cases h
theorem px_stp (hE : okC E s) {K : MT} (hK : K.1.all okE = true) {pc : Nat} {ls st : List PV} {σ : St} : stp E K pc ls st (pX s σ) = mN s (stp E K pc ls st σ) := by
  unfold stp
  cases e : codeAt K.1 pc with
  | none => rfl
  | some q =>
    obtain ⟨i, l, res, pos⟩ := q
    exact px_stI hE (codeAt_ok hK e)
theorem px_run (hE : okC E s) {K : MT} (hK : K.1.all okE = true) : ∀ {n pc : Nat} {ls st : List PV} {σ : St}, run E K n pc ls st (pX s σ) = mC s (run E K n pc ls st σ)
  | 0, _, _, _, _ => rfl
  | n + 1, pc, ls, st, σ => by
    unfold run
    rw [px_stp hE hK]
    cases stp E K pc ls st σ with
    | none => rfl
    | some y =>
      cases y with
      | inl q => obtain ⟨a, b, c, σ'⟩ := q; exact px_run hE hK
      | inr q => obtain ⟨v, σ'⟩ := q; rfl
theorem px_exec {N : Nat} : ∀ d, okC (exec tab N d) s
  | 0 => fun _ _ _ _ => rfl
  | d + 1 => fun M hM as σ => by
    have hK : (tab M).1.all okE = true := List.all_eq_true.mp ini_ok M (by simpa using hM)
    unfold exec
    cases Nat.ble (ent as).length (tab M).2.2 with
    | false => rfl
    | true => exact px_run (px_exec d) hK
end PX
/-- ints that the start sets -/
def stI0 : List (Nat × Nat × Int32) := [(1, 1, 0), (0, 3, 0), (83, 1, 0), (89, 1, -1), (91, 1, -1), (93, 1, -1), (95, 1, -1), (98, 252, 0), (97, 4, 0), (97, 6, 0), (97, 20, -1), (106, 0, -1), (106, 1, -1), (106, 2, -1), (106, 3, -1), (106, 4, -1), (106, 5, -1), (106, 6, -1), (115, 0, 0), (115, 1, 0), (115, 2, 0), (115, 3, 0), (86, 1, 0), (86, 3, 0)]
def fac (σ : St) : Bool := (sS σ).length.beq 119 && (Nat.ble ((sS σ).map Prod.snd).sum 5000 && (xfR.all (fun p => decide (rR σ p.1 p.2.1 = some p.2.2)) && (xfS.all (fun p => decide (sh σ p.1 = p.2)) && (mfR.all (fun p => decide (rR σ 97 p.1 = some p.2)) && (mfS.all (fun p => decide (sh σ p.1 = p.2)) && (stI0.all (fun p => decide (rI σ p.1 p.2.1 = p.2.2)) && (decide (rR σ 86 0 = some 87) && decide (sh σ 87 = (23, 16)))))))))
def chk0 : Bool := match exec tab 400 20 73 [vR 0 8] (nw stz 8 10) with
  | some (none, σ1) => (sS σ1).length.beq 97 && (match exec tab 400 20 124 [vR 97 9] (nw σ1 9 33) with
    | some (none, σ) => fac σ
    | _ => false)
  | _ => false
theorem chk0_t : chk0 = true := by decide +kernel
