/-! THE CLAIM OUT OF ONE WALK OF THE LAW'S BODY. Your part is whole_start (and what it stands on); all else here is the same for every law, but numbers. -/
def R_law : String := "FindingsWebLaw"
def lw_P (b : Addr) (xs : List Int32) (args : Array Value) (s : State) : Prop := args = #[.ref b] ∧ s.IntsAt b xs ∧ xs.length ≤ 3072 ∧ (Jvm.Cond.and given_1 narrow_1).before args s = true
def lw_Q (_ : Array Value) (s : State) (o : Outcome) (t : State) : Prop := o = .returned (some (.int 1)) ∧ Framed s o t [] 600000 7302250
def lw_Z (below : List Frame) (a : Array Value) (s : State) : State → Prop := fun t => ∃ o, t.status = .running ∧ Ended t below o ∧ lw_Q a s o t
/-- the law's own end, with 1 on the stack, nothing written that was there before, its room as the claim has it -/
theorem lw_ret {p : Program} {l : Launch} {e : Env} {s : State} {m : MethodId} {below : List Frame} {meth : Method} {c : Code} {b : Nat} (hx : p.tables.exec = Jvm.exec) (hb : c.code = code) (hr : meth.sig.returnType = ret) (hlocks : meth.locks = false) {pc : Nat} {H : Heap} {ls : Array Slot} (hdg : decode code pc = .ok (.ireturn, 1)) : W p l e room_1 s m #[Value.ref b] below meth c H [] 600000 7302250 (lw_Z below #[Value.ref b] s) (F0 m pc ls [.int 1]) := by
  intro T hT X
  obtain ⟨fs, hret, hrun, hended, hW, hframe⟩ := X.leave (v := some (.int 1)) (hlocks := hlocks) (fun h => by rw [hr] at h; cases h)
  have hmeth' : T.vm.method? m = some meth := X.method'
  refine ⟨T.setFrames fs, ?_, .returned (some (.int 1)), hrun, hended, rfl, ⟨_, rfl⟩, hW, hframe⟩
  jvm_step X.here [X.here.top, hx, hb, hdg, hmeth', hr, ret, narrow_b1]
  (try refine ⟨rfl, ?_⟩); (try refine ⟨rfl, ?_⟩)
  first | (intro acts; rw [hret _ acts rfl rfl rfl]) | rw [hret _ _ rfl rfl rfl]
  exact Steps.refl _
/-- what holds at the law's entry: the machine, the code, the tables' words (any of lw_tbl by 'hts w (by decide +kernel)'), the script of L ints xs at the cell b, what the Statement gives of the start (any of its parts by flat_of_before) -/
def lw_At (p : Program) (s : State) (m : MethodId) (meth : Method) (c : Code) (b L : Nat) (xs : Nat → Int32) : Prop :=
  p.tables.exec = Jvm.exec ∧ c.code = code ∧ meth.sig.returnType = ret ∧ c.maxLocals = 4 ∧ s.vm.findClass R_law = some m.cls ∧ (∀ w ∈ lw_tbl, w.before #[Value.ref b] s = true) ∧ va_X b L xs s s.heap ∧ b < s.heap.size ∧ meth.locks = false ∧ meth.name = "law" ∧ (Jvm.Cond.and given_1 narrow_1).before #[Value.ref b] s = true

theorem st_tys {s : State} {b : Nat} (hts : ∀ w ∈ lw_tbl, w.before #[Value.ref b] s = true) : ∃ cA : Nat → ClassId, ∀ (k : Nat) (q : ClassId × FieldType), (tys cA)[k]? = some q → ArrOfT s q.1 q.2 ∧ va_RA s q.1 q.2 := by
  obtain ⟨c20, k20, p20, a20, b20, d20⟩ := Cond.arrayClass_spec (hts (.arrayClass .int) (List.mem_of_getElem? (i := 163) (by decide +kernel)))
  obtain ⟨c21, k21, p21, a21, b21, d21⟩ := Cond.arrayClass_spec (hts (.arrayClass .long) (List.mem_of_getElem? (i := 337) (by decide +kernel)))
  obtain ⟨c22, k22, p22, a22, b22, d22⟩ := Cond.arrayClass_spec (hts (.arrayClass .boolean) (List.mem_of_getElem? (i := 1197) (by decide +kernel)))
  obtain ⟨c23, k23, p23, a23, b23, d23⟩ := Cond.arrayClass_spec (hts (.arrayClass .byte) (List.mem_of_getElem? (i := 316) (by decide +kernel)))
  obtain ⟨p24, c24, k24, e24, -, b24, d24, a24⟩ := Cond.arrayOver_spec (hts (.arrayOver (.object "FindingsWeb$Node")) (List.mem_of_getElem? (i := 105) (by decide +kernel)))
  obtain ⟨p25, c25, k25, e25, -, b25, d25, a25⟩ := Cond.arrayOver_spec (hts (.arrayOver (.object "FindingsWeb$Sheet")) (List.mem_of_getElem? (i := 318) (by decide +kernel)))
  refine ⟨fun t => if t = 20 then c20 else if t = 21 then c21 else if t = 22 then c22 else if t = 23 then c23 else if t = 24 then c24 else c25, fun k q h => ?_⟩
  match k, h with
  | 0, h => cases h; exact ⟨fun n z => ⟨fun k h => (by cases h), k20, b20, p20, d20⟩, a20⟩
  | 1, h => cases h; exact ⟨fun n z => ⟨fun k h => (by cases h), k21, b21, p21, d21⟩, a21⟩
  | 2, h => cases h; exact ⟨fun n z => ⟨fun k h => (by cases h), k22, b22, p22, d22⟩, a22⟩
  | 3, h => cases h; exact ⟨fun n z => ⟨fun k h => (by cases h), k23, b23, p23, d23⟩, a23⟩
  | 4, h => cases h; exact ⟨fun n z => ⟨fun k h => (by cases h), k24, b24, p24, d24⟩, k24, p24, b24, d24, e24, a24⟩
  | 5, h => cases h; exact ⟨fun n z => ⟨fun k h => (by cases h), k25, b25, p25, d25⟩, k25, p25, b25, d25, e25, a25⟩
  | k + 6, h => cases h
theorem st_G {s : State} {b : Nat} (hts : ∀ w ∈ TBL, w.before #[Value.ref b] s = true) : ∃ G : va_G, ∀ (c : Nat) (q : vw_C), vwCl[c]? = some q → u_Kn s q.1 q.2.1 q.2.2 (G.1 c) (G.2 c) := by
  have key : ∀ c : Nat, ∃ p : ClassId × (Nat → Nat), ∀ q : vw_C, vwCl[c]? = some q → u_Kn s q.1 q.2.1 q.2.2 p.1 p.2 := by
    intro c
    cases h : vwCl[c]? with
    | none => exact ⟨(0, fun _ => 0), fun q hq => by cases hq⟩
    | some q =>
      obtain ⟨K, T, N⟩ := q
      obtain ⟨-, -, hin, hins, -⟩ := cls_facts h
      obtain ⟨cC, iS, hk⟩ := u_known hts hin (hts _ hins)
      exact ⟨(cC, iS), fun q hq => by cases hq; exact hk⟩
  exact ⟨(fun c => (Classical.choose (key c)).1, fun c => (Classical.choose (key c)).2), fun c q hq => Classical.choose_spec (key c) q hq⟩
theorem st_NW {s : State} {b : Nat} {ex : Nat → Nat → Value} (hts : ∀ w ∈ lw_tbl, w.before #[Value.ref b] s = true) (h4 : ∀ (k : Nat) (w : String × Nat × String), txT[k]? = some w → ∃ q, ex 46 k = .ref q ∧ vk_R w.1 w.2.1 w.2.2 q s) : NW ex s := by
  refine ⟨fun q hq => va_Nw.of rfl (hts _ ?_), va_AO.of (hts _ (List.mem_of_getElem? (i := 105) (by decide +kernel))), va_AO.of (hts _ (List.mem_of_getElem? (i := 318) (by decide +kernel))), h4⟩
  unfold nestL at hq
  simp only [List.mem_cons, List.not_mem_nil, or_false] at hq
  rcases hq with rfl | rfl | rfl | rfl | rfl | rfl
  · exact List.mem_of_getElem? (i := 107) (by decide +kernel)
  · exact List.mem_of_getElem? (i := 181) (by decide +kernel)
  · exact List.mem_of_getElem? (i := 203) (by decide +kernel)
  · exact List.mem_of_getElem? (i := 226) (by decide +kernel)
  · exact List.mem_of_getElem? (i := 252) (by decide +kernel)
  · exact List.mem_of_getElem? (i := 320) (by decide +kernel)
theorem st_needs {s : State} {b : Nat} {A : Nat → Prop} (hts : ∀ w ∈ lw_tbl, w.before #[Value.ref b] s = true) (hgv : (Jvm.Cond.and given_1 narrow_1).before #[Value.ref b] s = true) (hA : ∀ a : Nat, a < s.heap.size → ¬ A a) :
    ∃ t, va_Z "FindingsWeb$Tape" "NEEDS" "[I" (.ref t) A s s.heap ∧ va_T .int t 8 (fun j => .int (([3, 3, 3, 3, 5, 2, 2, 4] : List Int32).getD j 0)) A s s.heap := by
  have hs := flat_of_before _ hgv
  have harr : (Jvm.Cond.arrayOf (.static "FindingsWeb$Tape" "NEEDS" "[I") .int).before #[Value.ref b] s = true := hs _ (by decide +kernel)
  have hlen : (Jvm.Cond.eq (.length (.static "FindingsWeb$Tape" "NEEDS" "[I")) (.int 8)).before #[Value.ref b] s = true := hs _ (by decide +kernel)
  have hel : ∀ j : Nat, j < 8 → (Jvm.Cond.eq (.elem (.static "FindingsWeb$Tape" "NEEDS" "[I") (.int (Int32.ofNat j))) (.int (([3, 3, 3, 3, 5, 2, 2, 4] : List Int32).getD j 0))).before #[Value.ref b] s = true := by
    intro j hj
    match j, hj with
    | 0, _ => exact hs _ (by decide +kernel)
    | 1, _ => exact hs _ (by decide +kernel)
    | 2, _ => exact hs _ (by decide +kernel)
    | 3, _ => exact hs _ (by decide +kernel)
    | 4, _ => exact hs _ (by decide +kernel)
    | 5, _ => exact hs _ (by decide +kernel)
    | 6, _ => exact hs _ (by decide +kernel)
    | 7, _ => exact hs _ (by decide +kernel)
  obtain ⟨t, ht, hT⟩ := va_Tof (N := 8) (f := fun j => .int (([3, 3, 3, 3, 5, 2, 2, 4] : List Int32).getD j 0)) (A := A) (by decide) harr (va_eqt hlen) (fun j hj => va_eqt (hel j hj)) hA
  exact ⟨t, va_Zof (hts _ (List.mem_of_getElem? (i := 549) (by decide +kernel))) (hts _ (List.mem_of_getElem? (i := 74) (by decide +kernel))) ht hA, hT⟩
set_option maxHeartbeats 4000000 in
theorem whole_start {p : Program} {e : Env} {s : State} {m : MethodId} {below : List Frame} {meth : Method} {c : Code} (l : Launch) (hflags : l.flags = flags0) {b L : Nat} {xs : Nat → Int32} (hL : L ≤ 3072) (C0 : lw_At p s m meth c b L xs) : W p l e room_1 s m #[Value.ref b] below meth c s.heap [] 0 0 (lw_Z below #[Value.ref b] s) (entryFrame m ([Value.ref b] : List Value).toArray 4) := by
  obtain ⟨hx, hb, hr, hml, hown, hts, hX, hbl, hlocks, hnm, hgv⟩ := C0
  obtain ⟨N, σ', hrun, hcl, hsl⟩ := law_pure L hL xs
  have hcl : len σ' ≤ 121 := hcl
  have hsl : slo σ' ≤ 6000 := hsl
  have hA0 : ∀ a : Nat, a < s.heap.size → ¬ (fun q : Nat => s.heap.size ≤ q) a := fun a h q => absurd h (Nat.not_lt.mpr q)
  have htb : ∀ w ∈ TBL, w.before #[Value.ref b] s = true := fun w hw => (List.mem_append.mp (List.mem_filter.mp hw).1).elim (fun q => sel2_ok hts w q) (fun q => hts w q)
  obtain ⟨cA, hcA⟩ := st_tys hts
  obtain ⟨G, hG⟩ := st_G htb
  obtain ⟨tN, hZ, hT⟩ := st_needs (A := fun q : Nat => s.heap.size ≤ q) hts hgv hA0
  obtain ⟨ex, hx40, hx41, hrf, hJX, htxt⟩ := st_ex (b := b) (tN := tN) (A := fun q : Nat => s.heap.size ≤ q) hts hgv hA0
  have hEX : EXT ex (L, xs) (fun q : Nat => s.heap.size ≤ q) s s.heap := ⟨⟨b, hx40, hX, hbl, hA0 b hbl⟩, ⟨tN, hx41, hZ, hT⟩, hrf, hJX⟩
  have C : Cx p s m #[Value.ref b] meth c 280 G cA ex (L, xs) (fun q : Nat => s.heap.size ≤ q) 4 := ⟨hx, hb, hml, hown, hnm, htb, ⟨hG, hcA⟩, hEX, st_NW hts htxt, fun _ h => h⟩
  have hWT : WT9 (st0 L xs) := fun k hk => absurd hk (Nat.not_lt_zero k)
  have hg := sim_run (R := room_1) (n0 := 0) (z0 := 0) (ad0 := fun _ => 0) (d := 100) (σ' := σ') (K := kL_law) (Q := lw_Z below #[Value.ref b] s) (l := l) (e := e) (below := below) (r := some (vI 1))
    C (pe_exec 100) qL_law (fun M' as σ r σ1 h h2 h3 => by
      obtain ⟨a1, a2⟩ := ctr_exec (l := l) 99 M' as σ r σ1 h h2 h3
      exact ⟨a1, by decide, a2⟩) ⟨by decide, by decide⟩ ⟨by show len σ' - 0 ≤ 600000; omega, by show slo σ' - 0 ≤ 7302250; omega⟩
    (fun pc ls st σ en hen hd hce hs => by
      intro ad lsJ H locs hRS
      obtain ⟨hP, hD, hS, hl, hn, hWT, hTL, hTS, h0, h1, hXX, hA1⟩ := hRS
      obtain ⟨i, ln, res, pos⟩ := en
      dsimp only at hd hce hs
      cases er : isRet i with
      | false => exact absurd hs (nr_all er _)
      | true =>
      unfold chkE at hce
      unfold stI at hs
      cases i
      case ireturn =>
        dsimp only at hce hs hd
        have q := Nat.eq_of_beq_eq_true hce
        subst q
        split at hs
        · have hg := (guard_inv hs).1
          have h2 := (guard_inv hs).2
          cases h2
          exact va_forget hS.2.2 (W.widen (k := 600000) (n := 7302250) (by omega) (by omega) (lw_ret hx hb hr hlocks hd))
        · cases hs
      case lreturn =>
        dsimp only at hce hs hd
        split at hs
        · have h2 := (guard_inv hs).2
          cases h2
        · cases hs
      case return_ =>
        dsimp only at hce hs hd
        split at hs
        · have h2 := (guard_inv hs).2
          cases h2
        · cases hs
      case areturn =>
        dsimp only at hs
        split at hs
        · cases hs
        · cases hs
      all_goals cases er)
    N 0 [vR 0 40, vU, vU, vU] [] (st0 L xs) hrun
  have hl := lv_entry ([.ref b]) (n := 4) (Nat.le_of_ble_eq_true rfl)
  rw [lg_entry_eq]
  generalize (lg_sl ([.ref b]) ++ List.replicate (4 - (lg_sl ([.ref b])).length) Slot.unset).toArray = ls at hl ⊢
  have e40 : lvl (trv (fun _ => 0) ex) [vR 0 40, vU, vU, vU] 0 = [(0, .ref b)] := by
    show [(0, ex 40 0)] = _
    rw [hx40]
  have hl2 : lv_has ls 4 (lvl (trv (fun _ => 0) ex) [vR 0 40, vU, vU, vU] 0) := by
    rw [e40]; exact ⟨hl.1, hl.2.1, hl.2.2⟩
  exact hg (fun _ => 0) ls s.heap [] ⟨fun k q h => by simp [wW, len, sS, st0] at h, ⟨fun i j p q h => by simp [wW, len, sS, st0] at h, fun k q h => by simp [wW, len, sS, st0] at h⟩, va_S.rf, hl2, rfl, hWT, (fun v hv => by
    simp only [List.mem_cons, List.not_mem_nil, or_false] at hv
    rcases hv with rfl | rfl | rfl | rfl
    · intro q; exact absurd q (by decide)
    · exact trivial
    · exact trivial
    · exact trivial), (fun v hv => by cases hv), Nat.zero_le _, Nat.zero_le _, rfl, fun _ _ => rfl⟩
-- ===== YOUR PART ENDS =====
set_option maxHeartbeats 4000000 in
theorem lw_walk (l : Launch) (hflags : l.flags = flags0) (b : Addr) (xs : List Int32) : MetFree l x (headSpec (Jvm.Cond.code x code maxLocals ret :: tables_1) room_1) (lw_P b xs) (fun _ _ _ _ _ => True) lw_Q := by
  refine MetFree.of_bodyS (code := code) (maxLocals := maxLocals) (ret := ret) (by decide) ?_ ?_
  · intro args s m h hn
    obtain ⟨meth, c, h1, h2, h3, h4, h5, h6, -, -⟩ := Cond.code_spec hn (atoms_spec (ws := Jvm.Cond.code x code maxLocals ret :: tables_1) h _ List.mem_cons_self)
    exact ⟨meth, c, h1, h2, h3, h4, h5, h6⟩
  · intro p e s m args below meth c s₁ B hml0 hP _
    obtain ⟨rfl, hx, hbd, hgv⟩ := hP
    obtain ⟨scr, harrAt, hlist, hof, hsmall⟩ := hx
    obtain ⟨hcb, hkn, -, -⟩ := State.arrayAt?_spec harrAt
    have hown : s.vm.findClass R_law = some m.cls := findClass_of_methodNamed B.named
    have hts0 : ∀ c ∈ (Jvm.Cond.code x code maxLocals ret :: tables_1), c.before #[Value.ref b] s = true := atoms_spec (ws := Jvm.Cond.code x code maxLocals ret :: tables_1) B.pre
    have hts : ∀ w ∈ lw_tbl, w.before #[Value.ref b] s = true := k2_hts_sels lw_privs (fun w hw => hts0 w (List.mem_cons_of_mem _ hw)) lw_privs_ok
    have hml : c.maxLocals = 4 := B.maxLocals_eq (hts0 _ List.mem_cons_self)
    have X₀ : Stand p l e room_1 s m #[Value.ref b] below meth c s₁ [] 0 0 := Stand.of_body B
    have hh0 : s₁.heap = s.heap := by rw [B.state]; rfl
    have hsz : scr.slots.size = xs.length := by rw [← Array.length_toList, hlist, List.length_map]
    have hval : ∀ j : Nat, j < xs.length → scr.slots[j]? = some (.int (xs.getD j 0)) := fun j hj => by
      rw [← Array.getElem?_toList, hlist]
      simp [hj]
    have hbl : b < s.heap.size := (Array.getElem?_eq_some_iff.mp hcb).1
    have hX : va_X b xs.length (fun j => xs.getD j 0) s s.heap := ⟨scr, hcb, hof, hkn, hsz, hval⟩
    have K : W p l e room_1 s m #[Value.ref b] below meth c s₁.heap [] 0 0 (lw_Z below #[Value.ref b] s) (entryFrame m ([Value.ref b] : List Value).toArray 4) := by
      rw [hh0]
      exact whole_start l hflags hbd ⟨B.exec, B.bytes, B.returns, hml, hown, hts, hX, hbl, B.notSynchronized, (name_of_methodNamed B.named B.method).1, hgv⟩
    obtain ⟨t, a1, o, b1, b2, b3⟩ := K s₁ rfl X₀
    exact ⟨t, o, a1, b1, b2, b3⟩
theorem lw_pre_spec {args : Array Value} {s : State} (h : (Jvm.Cond.and given_1 narrow_1).before args s = true) (hr : rest_1_c.before args s = true) : ∃ (b : Addr) (xs : List Int32), lw_P b xs args s := by
  have hs := flat_of_before _ h
  have hq := flat_of_before _ hr
  have hc : (Cond.count 1).before args s = true := hs _ (by decide +kernel)
  have harr : (Cond.arrayOf (.arg 0) .int).before args s = true := hs _ (by decide +kernel)
  have hle : (Cond.le (.length (.arg 0)) (.int 3072)).before args s = true := hs _ (by decide +kernel)
  have hlen : (Cond.isInt (.length (.arg 0))).before args s = true := hq _ (by decide +kernel)
  have hall : (Cond.all (.arg 0) (.isInt (.elem (.arg 0) (.index 0)))).before args s = true := hq _ (by decide +kernel)
  obtain ⟨b, xs, hb, hx⟩ := State.ints_of_pre rfl harr hlen hall
  have hsm : xs.length < 2 ^ 31 := hx.choose_spec.2.2.2
  have hev : (Term.length (.arg 0)).eval args s none [] s = some (.int xs.length.toInt32) := hx.length_eval hb
  have hv := Cond.le_ints hev (show (Term.int 3072).eval args s none [] s = some (.int 3072) from rfl)
  have hd : xs.length.toInt32 ≤ 3072 := by
    simpa [Cond.before, Cond.holds, hv] using hle
  have hN : xs.length ≤ 3072 := (Int32.ofNat_le_ofNat hsm (by decide)).mp (show Int32.ofNat xs.length ≤ Int32.ofNat 3072 from hd)
  exact ⟨b, xs, Cond.one_arg hc (show args[0]? = some (.ref b) from hb), hx, hN, h⟩
theorem lw_comes (l : Launch) (hflags : l.flags = flags0) : Comes l x (Jvm.Cond.code x code maxLocals ret :: tables_1) room_1 (fun tb e args s => Calls_1 tb e args s ∧ rest_1 tb e args s ∧ Pre_1 tb e args s)
    (fun _ _ args s o t => lw_Q args s o t) := by
  intro p e ha hc hk s m args below hf hfit hheap happ hpre
  obtain ⟨b, xs, hP⟩ := lw_pre_spec hpre.2.2 hpre.2.1
  obtain ⟨k, o, h1, h2, h3, hQ⟩ := lw_walk l hflags b xs p e ha hc hk s m args below hf ((Spec.applies_iff_loose hf).mp happ).1 hP trivial
  exact ⟨k, o, h1, h2, h3, hQ⟩
theorem lw_frame {s t : State} {o : Outcome} {args : Array Value} (h : Framed s o t [] 600000 7302250) :
    Framed s o t (fieldLocs frame_1_writes args s ++ arrayLocs frame_1_arrays args s ++ staticLocs frame_1_statics s) 600000 7302250 := h
theorem lw_limb (L : Cond) (hL : ∀ (args : Array Value) (s t : State), L.after args s (.returned (some (.int 1))) t = true) :
    ArmFor flags0 classFile x code maxLocals ret World_1 tables_1 room_1 Calls_1 rest_1 Pre_1
      (fun tb e a s o t => postC L tb e a s o t ∧ Framed s o t (fieldLocs frame_1_writes a s ++ arrayLocs frame_1_arrays a s ++ staticLocs frame_1_statics s) 600000 7302250) := by
  intro l hflags _ _ p e ha hc hk s m args below hf hfit hheap happ hpre
  obtain ⟨k, o, h1, h2, h3, rfl, hF⟩ := lw_comes l hflags p e ha hc hk s m args below hf hfit hheap happ hpre
  exact ⟨k, _, h1, h2, h3, hL args s _, lw_frame hF⟩
theorem i_vc : Claimed_1_1 ∧ Claimed_1_2 := ⟨lw_limb limb_1_1 (fun args s t => by simp [limb_1_1, Cond.after, Cond.holds, Cond.value]), lw_limb limb_1_2 (fun args s t => Cond.after_iff.mpr (by
  first | (rw [show limb_1_2 = Cond.eq .result (.int 1) from rfl, Cond.eq_ints (x := 1) (y := 1) rfl rfl]; simp; done) | (simp [limb_1_2, Cond.value, Term.eval]; done)))⟩
