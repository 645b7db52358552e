/-! ===== CONTRACTS: a call of the small machine that ends is a contract of the real one ===== -/
def mW (M : Nat) : List Jvm.Cond := .code (mT M).1 (mT M).2.1 (tab M).2.2 (tab M).2.1 :: TBL
def rmD (d mc ms : Nat) : Room := { frames := d + 1, cells := mc, slots := ms, locals := 100 * (d + 1) }
def CPre (G : va_G) (cA : Nat → ClassId) (ex : Nat → Nat → Value) (X : Nat × (Nat → Int32)) (ad : Nat → Nat) (σ : St) (as : List PV) (sz : Nat) : Array Value → State → Prop :=
  va_Pc (as.map (trv ad ex)) (fun U => U.heap.size = sz ∧ va_P G vwCl (wW ad cA σ) U.heap ∧ va_K G vwCl (tys cA) U ∧ va_D (fun _ => True) (wW ad cA σ) ∧ EXT ex X (va_A (wW ad cA σ) sz) U U.heap ∧ NW ex U)
def CPost (G : va_G) (cA : Nat → ClassId) (ex : Nat → Nat → Value) (ad : Nat → Nat) (σ : St) (sz : Nat) (r : Option PV) (σ' : St) : Array Value → State → Outcome → State → Prop :=
  fun _ st oc t => ∃ ad', (∀ k, k < len σ → ad' k = ad k) ∧ oc = .returned (r.map (trv ad' ex)) ∧ va_P G vwCl (wW ad' cA σ') t.heap ∧ va_D (va_A (wW ad cA σ) sz) (wW ad' cA σ') ∧ va_F (va_A (wW ad cA σ) sz) st t
def Ctr (l : Launch) (d M : Nat) (as : List PV) (σ : St) (r : Option PV) (σ' : St) : Prop :=
  ∀ G cA ex X ad sz, sX σ = X → Met l (mT M).1 (mW M) (rmD d (len σ' - len σ) (slo σ' - slo σ)) (CPre G cA ex X ad σ as sz) (CPost G cA ex ad σ sz r σ') (len σ' - len σ) (slo σ' - slo σ) (va_A (wW ad cA σ) sz)
theorem JX_moved {ex : Nat → Nat → Value} {A : Nat → Prop} {u U : State} {H : Heap} (hvm : u.vm.Alike U.vm) (h : JX ex A u H) : JX ex A U H := by
  obtain ⟨h1, ⟨d1, a1, b1, c1⟩, ⟨d2, a2, b2, c2⟩, h4, h5⟩ := h
  refine ⟨fun k => ?_, ⟨d1, a1, b1.moved hvm, c1.moved hvm⟩, ⟨d2, a2, b2.moved hvm, c2.moved hvm⟩, h4.moved hvm, h5.moved hvm⟩
  obtain ⟨q, v, e1, e2, g1, g2, g3, g4⟩ := h1 k
  exact ⟨q, v, e1, e2, g1.moved hvm, g2.moved hvm, g3.moved hvm, g4.moved hvm⟩
theorem JX_kept {ex : Nat → Nat → Value} {A B : Nat → Prop} {U : State} {H H1 : Heap} (h : JX ex A U H) (hq : ∀ a : Nat, a < H.size → ¬ A a → H1[a]? = H[a]?) (hAB : ∀ q, B q → A q) : JX ex B U H1 := by
  obtain ⟨h1, ⟨d1, a1, b1, c1⟩, ⟨d2, a2, b2, c2⟩, h4, h5⟩ := h
  refine ⟨fun k => ?_, ⟨d1, a1, (b1.kept hq).narrow hAB, (c1.kept hq).narrow hAB⟩, ⟨d2, a2, (b2.kept hq).narrow hAB, (c2.kept hq).narrow hAB⟩, (h4.kept hq).narrow hAB, (h5.kept hq).narrow hAB⟩
  obtain ⟨q, v, e1, e2, g1, g2, g3, g4⟩ := h1 k
  exact ⟨q, v, e1, e2, (g1.kept hq).narrow hAB, (g2.kept hq).narrow hAB, (g3.kept hq).narrow hAB, (g4.kept hq).narrow hAB⟩
theorem EXT_moved {ex : Nat → Nat → Value} {X : Nat × (Nat → Int32)} {A : Nat → Prop} {u U : State} {H : Heap} (hvm : u.vm.Alike U.vm) (h : EXT ex X A u H) : EXT ex X A U H := by
  obtain ⟨⟨b, b1, b2, b3, b4⟩, ⟨t, t1, t2, t3⟩, h3, h4⟩ := h
  exact ⟨⟨b, b1, b2.moved hvm, b3, b4⟩, ⟨t, t1, t2.moved hvm, t3.moved hvm⟩, h3, JX_moved hvm h4⟩
theorem EXT_kept {ex : Nat → Nat → Value} {X : Nat × (Nat → Int32)} {A B : Nat → Prop} {U : State} {H H1 : Heap} (h : EXT ex X A U H) (hz : H.size ≤ H1.size) (hq : ∀ a : Nat, a < H.size → ¬ A a → H1[a]? = H[a]?) (hAB : ∀ q, B q → A q) : EXT ex X B U H1 := by
  obtain ⟨⟨b, b1, b2, b3, b4⟩, ⟨t, t1, t2, t3⟩, h3, h4⟩ := h
  exact ⟨⟨b, b1, b2.kept (hq b b3 b4), Nat.lt_of_lt_of_le b3 hz, fun q => b4 (hAB _ q)⟩, ⟨t, t1, (t2.kept hq).narrow hAB, (t3.kept hq).narrow hAB⟩, h3, JX_kept h4 hq hAB⟩
theorem NW_same {ex : Nat → Nat → Value} {u U : State} (hv : u.vm = U.vm) (h : NW ex u) : NW ex U :=
  ⟨fun q hq => va_Nw.same rfl hv (h.1 q hq), va_AO.moved (by rw [hv]; exact Vm.Alike.refl _) h.2.1, va_AO.moved (by rw [hv]; exact Vm.Alike.refl _) h.2.2.1, fun k w hk => by
    obtain ⟨q, hq, hr⟩ := h.2.2.2 k w hk
    exact ⟨q, hq, vk_R.same hv.symm hr⟩⟩
theorem NW_warm {ex : Nat → Nat → Value} {s U : State} (hW : s.WarmedH U.vm) (h : NW ex s) : NW ex U := ⟨fun q hq => va_Nw.warmM hW (h.1 q hq), va_AO.moved hW.alike h.2.1, va_AO.moved hW.alike h.2.2.1, fun k w hk => by
    obtain ⟨q, hq, hr⟩ := h.2.2.2 k w hk
    exact ⟨q, hq, hr.warm hW⟩⟩
theorem CPre_blind {G : va_G} {cA : Nat → ClassId} {ex : Nat → Nat → Value} {X : Nat × (Nat → Int32)} {ad : Nat → Nat} {σ : St} {as : List PV} {sz : Nat} : FrameBlind (CPre G cA ex X ad σ as sz) := by
  intro a U g mk q
  obtain ⟨q0, q1, qP, qK, qD, qE, qN⟩ := q
  exact ⟨q0, q1, qP, va_K.moved (u := U) (U := U.calling g mk a) (Vm.Alike.refl U.vm) qK, qD, EXT_moved (u := U) (U := U.calling g mk a) (Vm.Alike.refl U.vm) qE, NW_same (u := U) (U := U.calling g mk a) rfl qN⟩
theorem CPre_of {G : va_G} {cA : Nat → ClassId} {ex : Nat → Nat → Value} {X : Nat × (Nat → Int32)} {ad : Nat → Nat} {σ : St} {as : List PV} {s : State} {H : Heap} {A : Nat → Prop} {locs : List Loc}
    (hP : va_P G vwCl (wW ad cA σ) H) (hD : va_D A (wW ad cA σ)) (hS : va_S A s.heap H locs) (hK : va_K G vwCl (tys cA) s) (hE : EXT ex X A s s.heap) (hN : NW ex s) (hF : ∀ q, va_A (wW ad cA σ) H.size q → A q) :
    ∀ U : State, U.heap = H → s.WarmedH U.vm → CPre G cA ex X ad σ as H.size (as.map (trv ad ex)).toArray U := by
  intro U hU hW
  refine ⟨rfl, by rw [hU], by rw [hU]; exact hP, va_K.moved hW.alike hK, hD.weaken (fun _ _ _ _ => trivial), ?_, NW_warm hW hN⟩
  rw [hU]
  exact EXT_moved hW.alike (EXT_kept hE hS.1 hS.2.1 hF)
theorem hF_of {cA : Nat → ClassId} {ad : Nat → Nat} {σ : St} {s : State} {H : Heap} {A : Nat → Prop} {locs : List Loc} (hD : va_D A (wW ad cA σ)) (hS : va_S A s.heap H locs) (hA : ∀ q, s.heap.size ≤ q → A q) : ∀ q, va_A (wW ad cA σ) H.size q → A q := by
  intro q h
  rcases h with ⟨k, e, h⟩ | h
  · exact hD.2 k (q, e) h
  · exact hA q (Nat.le_trans hS.1 h)
theorem va_callG {p : Program} {l : Launch} {e : Env} {R : Room} {s : State} {m : MethodId} {args : Array Value} {below : List Frame} {meth : Method} {c : Code} {H : Heap} {locs : List Loc} {cells slots mc ms pc : Nat} {Q : State → Prop} {ls : Array Slot} {rest st0 : List Value} {Qa : State → Outcome → State → Prop} {free : Addr → Prop}
    (hr : va_Run p l e R s m args below meth c H locs cells slots mc ms (F0 m pc ls st0) rest Qa free)
    (kk : ∀ (v : Option Value) (st₀ t : State) (H1 : Heap) (L : List Loc), st₀.heap = H → t.heap = H1 → Qa st₀ (.returned v) t → (∀ q ∈ L, free q.base) → W p l e R s m args below meth c H1 (locs ++ L) (cells + mc) (slots + ms) Q (F0 m (pc + 3) ls (v.toList ++ rest))) :
    W p l e R s m args below meth c H locs cells slots Q (F0 m pc ls st0) := by
  intro T hT X
  obtain ⟨v, st₀, t, T', L, h0, X', hL, e1, e2, hq, st⟩ := hr T hT X
  obtain ⟨t2, a1, b1⟩ := kk v st₀ t T'.heap L h0 e1.symm hq hL T' rfl X'
  exact ⟨t2, st t2 a1, b1⟩
/-- behind a call: the caller's state -/
theorem RS_back {G : va_G} {cA : Nat → ClassId} {ex : Nat → Nat → Value} {X : Nat × (Nat → Int32)} {A : Nat → Prop} {s : State} {n0 z0 nL : Nat} {ad0 ad ad' : Nat → Nat} {σ σ' : St} {ls st st' : List PV} {lsJ : Array Slot} {H H1 : Heap} {locs L : List Loc} {st₀ t : State} (hA : ∀ q, s.heap.size ≤ q → A q)
    (hr : RS G cA ex X A s.heap n0 z0 nL ad0 ad σ ls st lsJ H locs) (hk9 : WT9 σ' ∧ TS σ' ls ∧ TS σ' st' ∧ Gr σ σ') (h0 : st₀.heap = H) (h1 : t.heap = H1) (ha : ∀ k, k < len σ → ad' k = ad k) (hP1 : va_P G vwCl (wW ad' cA σ') t.heap) (hD1 : va_D (va_A (wW ad cA σ) H.size) (wW ad' cA σ')) (hF1 : va_F (va_A (wW ad cA σ) H.size) st₀ t) (hL : ∀ q ∈ L, va_A (wW ad cA σ) H.size q.base) :
    RS G cA ex X A s.heap n0 z0 nL ad0 ad' σ' ls st' lsJ H1 (locs ++ L) := by
  obtain ⟨hP, hD, hS, hl, hn, hWT, hTL, hTS, c0, c1, hX, hA0⟩ := hr
  have hF := hF_of hD hS hA
  obtain ⟨k1, k2, k3, k4⟩ := hk9
  rw [← h0] at hF1
  obtain ⟨f1, f2⟩ := hF1
  rw [h0, h1] at f1
  refine ⟨by rw [← h1]; exact hP1, hD1.weaken (fun _ q _ h => hF q.1 h), ⟨Nat.le_trans hS.1 f1, fun q q1 q2 => ?_, fun q hq => ?_⟩, by rw [lvl_ag ha hTL]; exact hl, hn, k1, k2, k3, Nat.le_trans c0 (Gr_len k4), Nat.le_trans c1 (Gr_slo k4), k4.2.trans hX, fun k hk => (ha k (Nat.lt_of_lt_of_le hk c0)).trans (hA0 k hk)⟩
  · have q3 : q < H.size := Nat.lt_of_lt_of_le q1 hS.1
    have f3 := f2 q (by rw [h0]; exact q3) (fun z => q2 (hF q (by rw [h0] at z; exact z)))
    rw [h0, h1] at f3
    rw [f3]
    exact hS.2.1 q q1 q2
  · rcases List.mem_append.mp hq with h | h
    · exact hS.2.2 q h
    · exact hF _ (hL q h)
theorem tbl_in {M' : Nat} (hcode : Jvm.Cond.code (mT M').1 (mT M').2.1 (tab M').2.2 (tab M').2.1 ∈ TBL) : GoodIn TBL (mW M') := by
  intro w hw
  have : w ∈ TBL := (List.mem_cons.mp hw).elim (fun e => e ▸ hcode) id
  exact ⟨this, good_of_word (TBL_good this)⟩
theorem tbl_ins {ws : List Jvm.Cond} {M' : Nat} (hcode : Jvm.Cond.code (mT M').1 (mT M').2.1 (tab M').2.2 (tab M').2.1 ∈ TBL) (h : ∀ w ∈ ws, w ∈ TBL) : GoodIn TBL (ws ++ mW M') := by
  intro w hw
  rcases List.mem_append.mp hw with q | q
  · exact ⟨h w q, good_of_word (TBL_good (h w q))⟩
  · exact tbl_in hcode w q
