/-! ===== a method's contract out of its callees' ===== -/
set_option maxHeartbeats 1000000 in
theorem ctr_one {l : Launch} {N d M : Nat} {as : List PV} {σ : St} {r : Option PV} {σ' : St} (hE : ∀ M' as σ r σ1, exec tab N d M' as σ = some (r, σ1) → WT9 σ → TS σ as → mOK M' = true ∧ 1 ≤ d ∧ Ctr l (d - 1) M' as σ r σ1)
    (h : exec tab N (d + 1) M as σ = some (r, σ')) (hWT : WT9 σ) (hTA : TS σ as) : mOK M = true ∧ Ctr l d M as σ r σ' := by
  unfold exec at h
  cases e0 : Nat.ble (ent as).length (tab M).2.2 with
  | false => rw [e0] at h; cases h
  | true =>
    rw [e0, cond_true] at h
    have hle := Nat.le_of_ble_eq_true e0
    have hchk : chkM M = true := by
      rcases chk_all M with q | q
      · exfalso
        cases N with
        | zero => cases h
        | succ N =>
          unfold run stp at h
          rw [q] at h
          cases h
      · exact q
    unfold chkM at hchk
    simp only [Bool.and_eq_true] at hchk
    obtain ⟨hm, hck⟩ := hchk
    refine ⟨hm, ?_⟩
    obtain ⟨hmx, hpl, hcode, hini⟩ := mOK_f hm
    intro G cA ex X ad sz hX
    refine Met.ofW (cc := (mT M).2.1) (maxL := (tab M).2.2) (ret := (tab M).2.1) hpl rfl ?_
    intro p e s m args below meth c s₁ B hml hP
    obtain ⟨rfl, hsz, hPP, hK, hD, hEX, hNW⟩ := hP
    have hts := atoms_spec (ws := mW M) B.pre
    have hown : s.vm.findClass (mT M).1.cls = some m.cls := findClass_of_methodNamed B.named
    have hnm : meth.name = (mT M).1.name := (name_of_methodNamed B.named B.method).1
    have hex := hEX.2.2.1
    have C : Cx p s m (as.map (trv ad ex)).toArray meth c M G cA ex X (va_A (wW ad cA σ) sz) (tab M).2.2 := ⟨B.exec, B.bytes, hml, hown, hnm, fun w hw => hts w (List.mem_cons_of_mem _ hw), hK, by rw [← hsz] at hEX ⊢; exact hEX, hNW, fun q hq => Or.inr (by rw [← hsz]; exact hq)⟩
    have hg := sim_run (R := (headSpec (mW M) (rmD d (len σ' - len σ) (slo σ' - slo σ))).room) (n0 := len σ) (z0 := slo σ) (ad0 := ad) (d := d) (σ' := σ') (K := tab M)
      (Q := MQ below (CPost G cA ex ad σ sz r σ') (as.map (trv ad ex)).toArray s (len σ' - len σ) (slo σ' - slo σ) (va_A (wW ad cA σ) sz)) (l := l) (e := e) (below := below)
      C (pe_exec d) hck hE ⟨Nat.le_refl _, Nat.le_refl _⟩ ⟨Nat.le_refl _, Nat.le_refl _⟩
      (fun pc ls st σ1 en hen hd hce hs => ret_fin C B.notSynchronized B.returns (fun q => (mOK_r hm).elim id (fun z => by rw [z en hen] at q; cases q)) hd hce hs) N 0 (entry as (tab M).2.2) [] σ h
    have hl := lv_entry (as.map (trv ad ex)) (n := (tab M).2.2) (by rw [ent_len hex]; exact hle)
    rw [lg_entry_eq]
    generalize (lg_sl (as.map (trv ad ex)) ++ List.replicate ((tab M).2.2 - (lg_sl (as.map (trv ad ex))).length) Slot.unset).toArray = ls at hl ⊢
    have hl2 : lv_has ls (tab M).2.2 (lvl (trv ad ex) (entry as (tab M).2.2) 0) := ⟨hl.1, hl.2.1, fun q hq => hl.2.2 q (lvl_ent hex hq)⟩
    have key := hg ad ls s.heap [] ⟨hPP, hD.self, va_S.rf, hl2, entry_len hle, hWT, TS_entry hTA, (fun v hv => by cases hv), Nat.le_refl _, Nat.le_refl _, hX, fun _ _ => rfl⟩
    exact W.cs (Nat.sub_self _).symm (Nat.sub_self _).symm key
/-! ===== every call of the small machine that ends is a contract ===== -/
theorem ctr_exec {l : Launch} {N : Nat} : ∀ (d M : Nat) (as : List PV) (σ : St) (r : Option PV) (σ' : St), exec tab N (d + 1) M as σ = some (r, σ') → WT9 σ → TS σ as → mOK M = true ∧ Ctr l d M as σ r σ' := by
  intro d
  induction d with
  | zero =>
    intro M as σ r σ' h hWT hTA
    exact ctr_one (fun _ _ _ _ _ h => by cases h) h hWT hTA
  | succ d ih =>
    intro M as σ r σ' h hWT hTA
    exact ctr_one (fun M' as σ r σ1 h h2 h3 => by
      obtain ⟨a1, a2⟩ := ih M' as σ r σ1 h h2 h3
      exact ⟨a1, by omega, a2⟩) h hWT hTA
