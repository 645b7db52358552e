/-! ===== THE SMALL MACHINE keeps its types ===== -/
theorem pI_inv {st : List PV} {f : Int32 → List PV → Nx} {y} (h : pI st f = some y) : ∃ x r, f x r = some y ∧ st = vI x :: r := by
  unfold pI at h
  split at h
  · exact ⟨_, _, h, rfl⟩
  · cases h
theorem pL_inv {st : List PV} {f : Int64 → List PV → Nx} {y} (h : pL st f = some y) : ∃ x r, f x r = some y ∧ st = vL x :: r := by
  unfold pL at h
  split at h
  · exact ⟨_, _, h, rfl⟩
  · cases h
theorem pR_inv {st : List PV} {f : Nat → Nat → List PV → Nx} {y} (h : pR st f = some y) : ∃ a t r, f a t r = some y ∧ st = vR a t :: r := by
  unfold pR at h
  split at h
  · exact ⟨_, _, _, h, rfl⟩
  · cases h
theorem guard_inv {b : Bool} {x : Nx} {y} (h : guard b x = some y) : b = true ∧ x = some y := by
  unfold guard at h
  split at h
  · exact ⟨rfl, h⟩
  · cases h
theorem ldI_inv {ls : List PV} {k : Nat} {f : Int32 → Nx} {y} (h : ldI ls k f = some y) : ∃ x, ls[k]? = some (vI x) ∧ f x = some y := by
  unfold ldI at h
  split at h
  · exact ⟨_, by assumption, h⟩
  · cases h
theorem ldL_inv {ls : List PV} {k : Nat} {f : Int64 → Nx} {y} (h : ldL ls k f = some y) : ∃ x, ls[k]? = some (vL x) ∧ f x = some y := by
  unfold ldL at h
  split at h
  · exact ⟨_, by assumption, h⟩
  · cases h
theorem ldR_inv {ls : List PV} {k : Nat} {f : Nat → Nat → Nx} {y} (h : ldR ls k f = some y) : ∃ a t, ls[k]? = some (vR a t) ∧ f a t = some y := by
  unfold ldR at h
  split at h
  · exact ⟨_, _, by assumption, h⟩
  · cases h
theorem go_inv {pc : Nat} {ls st : List PV} {σ : St} {y} (h : go pc ls st σ = some y) : y = Sum.inl (pc, ls, st, σ) := by
  unfold go at h
  exact (Option.some.inj h).symm
def len (σ : St) : Nat := (sS σ).length
def slo (σ : St) : Nat := ((sS σ).map Prod.snd).sum
def wt (σ : St) (v : PV) : Prop := match v with
  | Sum.inr (Sum.inr (some a, t)) => t < 40 → a < len σ ∧ (sh σ a).1 = t
  | _ => True
def TS (σ : St) (l : List PV) : Prop := ∀ v, v ∈ l → wt σ v
def okT (t : Nat) : Bool := Nat.blt t 10 || (Nat.ble 20 t && Nat.ble t 25)
def WT9 (σ : St) : Prop := ∀ k, k < len σ → okT (sh σ k).1 = true ∧ ((sh σ k).1 < 20 → (sh σ k).2 = nF (sh σ k).1) ∧ ((sh σ k).1 < 20 → ∀ f a, 100 ≤ ft (sh σ k).1 f → rR σ k f = some a → a < len σ ∧ (sh σ a).1 = ft (sh σ k).1 f - 100) ∧
  (24 ≤ (sh σ k).1 → ∀ i a, rR σ k i = some a → a < len σ ∧ (sh σ a).1 = (sh σ k).1 - 22) ∧ ((sh σ k).1 = 23 → ∀ i, (rI σ k i).toInt8.toInt32 = rI σ k i)
def Gr (σ σ' : St) : Prop := (∃ l, sS σ' = sS σ ++ l) ∧ sX σ' = sX σ
theorem Gr_rf {σ : St} : Gr σ σ := ⟨⟨[], (List.append_nil _).symm⟩, rfl⟩
theorem Gr_tr {a b c : St} (h : Gr a b) (h2 : Gr b c) : Gr a c := by
  obtain ⟨⟨l, h⟩, e⟩ := h; obtain ⟨⟨l2, h2⟩, e2⟩ := h2
  exact ⟨⟨l ++ l2, by rw [h2, h, List.append_assoc]⟩, e2.trans e⟩
theorem Gr_len {a b : St} (h : Gr a b) : len a ≤ len b := by
  obtain ⟨⟨l, h⟩, -⟩ := h
  unfold len
  rw [h, List.length_append]; omega
theorem Gr_slo {a b : St} (h : Gr a b) : slo a ≤ slo b := by
  obtain ⟨⟨l, h⟩, -⟩ := h
  unfold slo
  rw [h, List.map_append, List.sum_append]; omega
theorem Gr_sh {a b : St} (h : Gr a b) {k : Nat} (hk : k < len a) : sh b k = sh a k := by
  obtain ⟨⟨l, h⟩, -⟩ := h
  unfold sh
  rw [h]
  simp only [List.getD_eq_getElem?_getD]
  rw [List.getElem?_append_left hk]
theorem Gr_wt {a b : St} (h : Gr a b) {v : PV} (hv : wt a v) : wt b v := by
  unfold wt at hv ⊢
  split at hv
  · intro ht
    obtain ⟨h1, h2⟩ := hv ht
    exact ⟨Nat.lt_of_lt_of_le h1 (Gr_len h), by rw [Gr_sh h h1]; exact h2⟩
  · exact trivial
theorem Gr_ts {a b : St} (h : Gr a b) {l : List PV} (hv : TS a l) : TS b l := fun v hm => Gr_wt h (hv v hm)
theorem wtI {σ : St} {x : Int32} : wt σ (vI x) := trivial
theorem wtL {σ : St} {x : Int64} : wt σ (vL x) := trivial
theorem wtU {σ : St} : wt σ vU := trivial
theorem TS_c {σ : St} {v : PV} {l : List PV} (h1 : wt σ v) (h : TS σ l) : TS σ (v :: l) := fun w hw => (List.mem_cons.mp hw).elim (fun e => e ▸ h1) (h w)
theorem TS_t {σ : St} {v : PV} {l : List PV} (h : TS σ (v :: l)) : TS σ l := fun w hw => h w (List.mem_cons_of_mem _ hw)
theorem TS_h {σ : St} {v : PV} {l : List PV} (h : TS σ (v :: l)) : wt σ v := h v List.mem_cons_self
theorem TS_at {σ : St} {l : List PV} {k : Nat} {v : PV} (h : TS σ l) (hk : l[k]? = some v) : wt σ v := h v (List.mem_of_getElem? hk)
theorem TS_set {σ : St} {l : List PV} {k : Nat} {v : PV} (h : TS σ l) (hv : wt σ v) : TS σ (l.set k v) := fun w hw => (List.mem_or_eq_of_mem_set hw).elim (h w) (fun e => e ▸ hv)
theorem TS_kill {σ : St} {l : List PV} {k : Nat} (h : TS σ l) : TS σ (kill l k) := by
  unfold kill
  split
  · exact TS_set h wtU
  · exact h
theorem TS_set1 {σ : St} {l : List PV} {k : Nat} {v : PV} (h : TS σ l) (hv : wt σ v) : TS σ (set1 l k v) := TS_set (TS_kill h) hv
theorem TS_set2 {σ : St} {l : List PV} {k : Nat} {v : PV} (h : TS σ l) (hv : wt σ v) : TS σ (set2 l k v) := TS_set (TS_set (TS_kill h) hv) wtU
theorem WT_wI {σ : St} (h : WT9 σ) (k i : Nat) (x : Int32) (hx : (sh σ k).1 = 23 → x.toInt8.toInt32 = x) : WT9 (wI σ k i x) := by
  intro q hq
  obtain ⟨a1, a2, a3, a4, a5⟩ := h q hq
  refine ⟨a1, a2, a3, a4, fun e j => ?_⟩
  have e : (sh σ q).1 = 23 := e
  rw [rI_wI]
  split
  · rename_i z; exact hx (by rw [← z.1]; exact e)
  · exact a5 e j
theorem txL_a : ∀ k, k < 15 → ∀ c, c ∈ txL k → c < 128 := by decide
theorem txL_no {a : Nat} (h : ¬ a < 15) : txL a = txL 0 := by
  unfold txL
  rw [List.getD_eq_getElem?_getD, List.getElem?_eq_none (show txB.length ≤ a by have : txB.length = 15 := rfl; omega)]; rfl
theorem tx_8 (a i : Nat) : (Int32.ofNat ((txL a).getD i 0)).toInt8.toInt32 = Int32.ofNat ((txL a).getD i 0) := by
  have h0 : ∀ c, c ∈ txL a → c < 128 := by
    by_cases q : a < 15
    · exact txL_a a q
    · rw [txL_no q]; exact txL_a 0 (by decide)
  have h : (txL a).getD i 0 < 128 := by
    rw [List.getD_eq_getElem?_getD]
    cases e : (txL a)[i]? with
    | none => show 0 < 128; decide
    | some c => exact h0 c (List.mem_of_getElem? e)
  exact i2b_c _ h
theorem WT_cX {σ : St} (h : WT9 σ) (a s k d n : Nat) : WT9 (cX σ a s k d n) := by
  intro q hq
  obtain ⟨a1, a2, a3, a4, a5⟩ := h q hq
  refine ⟨a1, a2, a3, a4, fun e j => ?_⟩
  show (if q = k ∧ d ≤ j ∧ j < d + n then (xa σ 44 a).2 (s + (j - d)) else rI σ q j).toInt8.toInt32 = (if q = k ∧ d ≤ j ∧ j < d + n then (xa σ 44 a).2 (s + (j - d)) else rI σ q j)
  split
  · exact tx_8 a _
  · exact a5 e j
theorem WT_wL {σ : St} (h : WT9 σ) (k i : Nat) (x : Int64) : WT9 (wL σ k i x) := h
theorem WT_cI {σ : St} (h : WT9 σ) (a s k d n : Nat) (hx : (sh σ k).1 = 23 → ∀ j, (rI σ a j).toInt8.toInt32 = rI σ a j) : WT9 (cI σ a s k d n) := by
  intro q hq
  obtain ⟨a1, a2, a3, a4, a5⟩ := h q hq
  refine ⟨a1, a2, a3, a4, fun e j => ?_⟩
  have e : (sh σ q).1 = 23 := e
  rw [rI_cI]
  split
  · rename_i z; exact hx (by rw [← z.1]; exact e) _
  · exact a5 e j
theorem WT_cL {σ : St} (h : WT9 σ) (a s k d n : Nat) : WT9 (cL σ a s k d n) := h
theorem WT_wRo {σ : St} (h : WT9 σ) {k i b : Nat} (hk : k < len σ) (hb : b < len σ) (h1 : (sh σ k).1 < 20 → 100 ≤ ft (sh σ k).1 i → (sh σ b).1 = ft (sh σ k).1 i - 100) (h2 : 24 ≤ (sh σ k).1 → (sh σ b).1 = (sh σ k).1 - 22) : WT9 (wR σ k i (some b)) := by
  intro q hq
  obtain ⟨a1, a2, a3, a4, a5⟩ := h q hq
  refine ⟨a1, a2, fun hl f a hf hr => ?_, fun hl f a hr => ?_, a5⟩
  · rw [rR_wR] at hr
    split at hr
    · rename_i e
      obtain ⟨rfl, rfl⟩ := e
      cases hr
      exact ⟨hb, h1 hl hf⟩
    · exact a3 hl f a hf hr
  · rw [rR_wR] at hr
    split at hr
    · rename_i e
      obtain ⟨rfl, rfl⟩ := e
      cases hr
      exact ⟨hb, h2 hl⟩
    · exact a4 hl f a hr
theorem nw_sS {σ : St} {t n : Nat} : sS (nw σ t n) = sS σ ++ [(t, n)] := rfl
theorem nw_gr {σ : St} {t n : Nat} : Gr σ (nw σ t n) := ⟨⟨_, nw_sS⟩, rfl⟩
theorem nw_len {σ : St} {t n : Nat} : len (nw σ t n) = len σ + 1 := by
  unfold len; rw [nw_sS]; simp
theorem nw_slo {σ : St} {t n : Nat} : slo (nw σ t n) = slo σ + n := by
  unfold slo; rw [nw_sS]; simp
theorem nw_sh {σ : St} {t n : Nat} : sh (nw σ t n) (len σ) = (t, n) := by
  unfold sh len; rw [nw_sS]; simp
theorem nw_wt {σ : St} {t n : Nat} : wt (nw σ t n) (vR (sS σ).length t) := fun _ => ⟨by rw [nw_len]; exact Nat.lt_succ_self _, by have h := @nw_sh σ t n; unfold len at h; rw [h]⟩
theorem WT_nw {σ : St} (h : WT9 σ) {t n : Nat} (h1 : okT t = true) (h2 : t < 20 → n = nF t) : WT9 (nw σ t n) := by
  intro k hk
  rw [nw_len] at hk
  have hr : ∀ i, rR (nw σ t n) k i = if k = (sS σ).length then none else rR σ k i := fun i => rfl
  by_cases e : k = len σ
  · subst e
    rw [nw_sh]
    have hr : ∀ i, rR (nw σ t n) (len σ) i = none := fun i => by rw [hr i]; exact if_pos rfl
    exact ⟨h1, h2, fun _ f a _ q => absurd ((hr f).symm.trans q) (fun z => by cases z), fun _ i a q => absurd ((hr i).symm.trans q) (fun z => by cases z), fun _ i => by rw [show rI (nw σ t n) (len σ) i = 0 from if_pos rfl]; rfl⟩
  · have hk' : k < len σ := by omega
    have hr : ∀ i, rR (nw σ t n) k i = rR σ k i := fun i => by rw [hr i]; exact if_neg e
    obtain ⟨a1, a2, a3, a4, a5⟩ := h k hk'
    rw [Gr_sh nw_gr hk']
    refine ⟨a1, a2, fun hl f a hf q => ?_, fun hl i a q => ?_, fun e5 i => by rw [show rI (nw σ t n) k i = rI σ k i from if_neg e]; exact a5 e5 i⟩
    · rw [hr] at q
      obtain ⟨b1, b2⟩ := a3 hl f a hf q
      exact ⟨by rw [nw_len]; omega, by rw [Gr_sh nw_gr b1]; exact b2⟩
    · rw [hr] at q
      obtain ⟨b1, b2⟩ := a4 hl i a q
      exact ⟨by rw [nw_len]; omega, by rw [Gr_sh nw_gr b1]; exact b2⟩
def PE (E : Cal) : Prop := ∀ M as σ r σ', E M as σ = some (r, σ') → WT9 σ → TS σ as → WT9 σ' ∧ (∀ v, r = some v → wt σ' v) ∧ Gr σ σ'
/-- what a turn keeps -/
def Kp (σ : St) (y : (Nat × List PV × List PV × St) ⊕ (Option PV × St)) : Prop := match y with
  | Sum.inl (_, ls', st', σ') => WT9 σ' ∧ TS σ' ls' ∧ TS σ' st' ∧ Gr σ σ'
  | Sum.inr (r, σ') => WT9 σ' ∧ (∀ v, r = some v → wt σ' v) ∧ Gr σ σ'
-- GEN
theorem callN_inv {E : Cal} {res pc : Nat} {ls st : List PV} {σ : St} {y} (h : callN E res pc ls st σ = some y) : ∃ as rest, st = as.reverse ++ rest ∧ as.length = res / 1024 % 64 ∧ catS rest ≤ 8 ∧ rcv (res / 65536) as = true ∧ ∃ r σ', E (res % 1024) as σ = some (r, σ') ∧ y = Sum.inl (pc + 3, ls, r.toList ++ rest, σ') := by
  unfold callN at h
  cases hc : (Nat.ble (res / 1024 % 64) st.length && (Nat.ble (catS (st.drop (res / 1024 % 64))) 8 && rcv (res / 65536) (st.take (res / 1024 % 64)).reverse)) with
  | false => rw [hc] at h; cases h
  | true =>
    rw [hc] at h
    simp only [Bool.and_eq_true, Nat.ble_eq] at hc
    obtain ⟨h1, h2, h3⟩ := hc
    refine ⟨(st.take (res / 1024 % 64)).reverse, st.drop (res / 1024 % 64), ?_, ?_, h2, h3, ?_⟩
    · rw [List.reverse_reverse, List.take_append_drop]
    · simp; omega
    · simp only [cond_true] at h
      split at h
      · rename_i v σ' hE
        exact ⟨some v, σ', hE, go_inv h⟩
      · rename_i σ' hE
        exact ⟨none, σ', hE, go_inv h⟩
      · cases h
theorem copyN_inv {pc : Nat} {ls st : List PV} {σ : St} {y} (h : copyN pc ls st σ = some y) : ∃ n dp b tb sp a ta r, st = vI n :: vI dp :: vR b tb :: vI sp :: vR a ta :: r ∧ ¬ sp < 0 ∧ ¬ dp < 0 ∧ ¬ n < 0 ∧ dp.toNatClampNeg + n.toNatClampNeg ≤ (sh σ b).2 ∧ catS r ≤ 8 ∧
    ((ta = tb ∧ sp.toNatClampNeg + n.toNatClampNeg ≤ (sh σ a).2 ∧ (((tb = 20 ∨ tb = 23) ∧ y = Sum.inl (pc + 3, ls, r, cI σ a sp.toNatClampNeg b dp.toNatClampNeg n.toNatClampNeg)) ∨ (tb = 21 ∧ y = Sum.inl (pc + 3, ls, r, cL σ a sp.toNatClampNeg b dp.toNatClampNeg n.toNatClampNeg)))) ∨
     (ta = 44 ∧ tb = 23 ∧ sp.toNatClampNeg + n.toNatClampNeg ≤ (xa σ 44 a).1 ∧ y = Sum.inl (pc + 3, ls, r, cX σ a sp.toNatClampNeg b dp.toNatClampNeg n.toNatClampNeg))) := by
  unfold copyN at h
  obtain ⟨n, r, hn, rfl⟩ := pI_inv h; replace h := hn; clear hn
  obtain ⟨dp, r, hn, rfl⟩ := pI_inv h; replace h := hn; clear hn
  obtain ⟨b, tb, r, hn, rfl⟩ := pR_inv h; replace h := hn; clear hn
  obtain ⟨sp, r, hn, rfl⟩ := pI_inv h; replace h := hn; clear hn
  obtain ⟨a, ta, r, hn, rfl⟩ := pR_inv h; replace h := hn; clear hn
  cases e44 : ta.beq 44 with
  | true =>
    rw [e44, cond_true] at h
    have hg := (guard_inv h).1; replace h := (guard_inv h).2
    simp only [Bool.and_eq_true, Nat.beq_eq, Bool.not_eq_true', decide_eq_false_iff_not, decide_eq_true_eq, Nat.ble_eq] at hg
    obtain ⟨h0, h1, h2, h3, h4, h5, h6⟩ := hg
    exact ⟨n, dp, b, tb, sp, a, ta, r, rfl, h1, h2, h3, h5, h6, Or.inr ⟨Nat.eq_of_beq_eq_true e44, h0, h4, go_inv h⟩⟩
  | false =>
    rw [e44, cond_false] at h
    have hg := (guard_inv h).1; replace h := (guard_inv h).2
    simp only [Bool.and_eq_true, Nat.beq_eq, Bool.not_eq_true', decide_eq_false_iff_not, decide_eq_true_eq, Nat.ble_eq] at hg
    obtain ⟨rfl, h1, h2, h3, h4, h5, h6⟩ := hg
    refine ⟨n, dp, b, ta, sp, a, ta, r, rfl, h1, h2, h3, h5, h6, Or.inl ⟨rfl, h4, ?_⟩⟩
    cases e : (ta.beq 20 || ta.beq 23) with
    | true =>
      rw [e] at h
      rw [Bool.or_eq_true] at e
      exact Or.inl ⟨e.elim (fun q => Or.inl (Nat.eq_of_beq_eq_true q)) (fun q => Or.inr (Nat.eq_of_beq_eq_true q)), go_inv h⟩
    | false =>
      rw [e] at h
      cases e2 : ta.beq 21 with
      | true => rw [e2] at h; exact Or.inr ⟨Nat.eq_of_beq_eq_true e2, go_inv h⟩
      | false => rw [e2] at h; cases h
theorem nar8 (x : Int32) : (vp_nar .byte x).toInt8.toInt32 = vp_nar .byte x := by
  show (x.toInt8.toInt32).toInt8.toInt32 = x.toInt8.toInt32
  rw [Int8.toInt8_toInt32]
theorem getF_inv {c f a : Nat} {σ : St} {r : List PV} {k : List PV → Nx} {y} (h : getF c f a σ r k = some y) : (ft c f = 1 ∧ k (vL (rL σ a f) :: r) = some y) ∨ (100 ≤ ft c f ∧ k (vO (rR σ a f) (ft c f - 100) :: r) = some y) ∨ (ft c f ≤ 3 ∧ ft c f ≠ 1 ∧ k (vI (rI σ a f) :: r) = some y) := by
  unfold getF at h
  cases e : (ft c f).beq 1 with
  | true => rw [e] at h; exact Or.inl ⟨Nat.eq_of_beq_eq_true e, h⟩
  | false =>
    rw [e] at h
    cases e2 : Nat.ble 100 (ft c f) with
    | true => rw [e2] at h; exact Or.inr (Or.inl ⟨Nat.le_of_ble_eq_true e2, h⟩)
    | false =>
      rw [e2] at h
      cases e3 : Nat.ble (ft c f) 3 with
      | true => rw [e3] at h; exact Or.inr (Or.inr ⟨Nat.le_of_ble_eq_true e3, Nat.ne_of_beq_eq_false e, h⟩)
      | false => rw [e3] at h; cases h
theorem swT_inv {pc : Nat} {d lo hi : Int} {offs : Array Int} {x : Int32} {k : Nat → Nx} {y} (h : swT pc d lo hi offs x k = some y) : ∃ o, 0 ≤ (pc : Int) + o ∧ k (jt pc o) = some y ∧ (((x.toInt < lo ∨ hi < x.toInt) ∧ o = d) ∨ (¬ x.toInt < lo ∧ ¬ hi < x.toInt ∧ offs[(x.toInt - lo).toNat]? = some o)) := by
  unfold swT at h
  split at h
  · rename_i hc
    have hg := (guard_inv h).1; replace h := (guard_inv h).2
    exact ⟨d, of_decide_eq_true hg, h, Or.inl ⟨hc, rfl⟩⟩
  · rename_i hc
    split at h
    · rename_i o ho
      have hg := (guard_inv h).1; replace h := (guard_inv h).2
      exact ⟨o, of_decide_eq_true hg, h, Or.inr ⟨fun q => hc (Or.inl q), fun q => hc (Or.inr q), ho⟩⟩
    · cases h
theorem ft_lt {c f : Nat} (h : 100 ≤ ft c f) : c < 10 := by
  by_cases q : c < 10
  · exact q
  · exfalso
    have e : FT.getD c [] = [] := by
      rw [List.getD_eq_getElem?_getD, List.getElem?_eq_none (show FT.length ≤ c by have : FT.length = 10 := rfl; omega)]; rfl
    unfold ft at h
    rw [e] at h
    simp at h
theorem ft_tag (c f : Nat) : ft c f - 100 < 40 := by
  have key : ∀ l ∈ FT, ∀ x ∈ l, x - 100 < 40 := by decide
  unfold ft
  rw [List.getD_eq_getElem?_getD, List.getD_eq_getElem?_getD]
  cases h : FT[c]? with
  | none => simp
  | some l =>
    simp only [Option.getD_some]
    cases h2 : l[f]? with
    | none => simp
    | some x => exact key l (List.mem_of_getElem? h) x (List.mem_of_getElem? h2)
theorem nar_lt {c f : Nat} {x : Int32} (h : narOK (ft c f) x = true) : c < 10 := by
  by_cases q : c < 10
  · exact q
  · exfalso
    have e : ft c f = 98 := by
      unfold ft
      rw [List.getD_eq_getElem?_getD (l := FT), List.getElem?_eq_none (show (FT.length) ≤ c by have : FT.length = 10 := rfl; omega)]
      rfl
    rw [e] at h
    exact Bool.false_ne_true h
theorem kp_iconst {E : Cal} (hE : PE E) {ret : Option FieldType} {i0 : Int} {l res pc : Nat} {ls st : List PV} {σ : St} {y} (hW : WT9 σ) (hL : TS σ ls) (hS : TS σ st) (h : stI E ret (.iconst i0) l res pc ls st σ = some y) : Kp σ y := by
    unfold stI at h
    dsimp only at h
    cases go_inv h; exact ⟨hW, hL, TS_c wtI hS, Gr_rf⟩
theorem kp_bipush {E : Cal} (hE : PE E) {ret : Option FieldType} {i0 : Int} {l res pc : Nat} {ls st : List PV} {σ : St} {y} (hW : WT9 σ) (hL : TS σ ls) (hS : TS σ st) (h : stI E ret (.bipush i0) l res pc ls st σ = some y) : Kp σ y := by
    unfold stI at h
    dsimp only at h
    cases go_inv h; exact ⟨hW, hL, TS_c wtI hS, Gr_rf⟩
theorem kp_sipush {E : Cal} (hE : PE E) {ret : Option FieldType} {i0 : Int} {l res pc : Nat} {ls st : List PV} {σ : St} {y} (hW : WT9 σ) (hL : TS σ ls) (hS : TS σ st) (h : stI E ret (.sipush i0) l res pc ls st σ = some y) : Kp σ y := by
    unfold stI at h
    dsimp only at h
    cases go_inv h; exact ⟨hW, hL, TS_c wtI hS, Gr_rf⟩
theorem kp_lconst {E : Cal} (hE : PE E) {ret : Option FieldType} {i0 : Fin 2} {l res pc : Nat} {ls st : List PV} {σ : St} {y} (hW : WT9 σ) (hL : TS σ ls) (hS : TS σ st) (h : stI E ret (.lconst i0) l res pc ls st σ = some y) : Kp σ y := by
    unfold stI at h
    dsimp only at h
    cases go_inv h; exact ⟨hW, hL, TS_c wtL hS, Gr_rf⟩
theorem kp_iload_n {E : Cal} (hE : PE E) {ret : Option FieldType} {i0 : Fin 4} {l res pc : Nat} {ls st : List PV} {σ : St} {y} (hW : WT9 σ) (hL : TS σ ls) (hS : TS σ st) (h : stI E ret (.iload_n i0) l res pc ls st σ = some y) : Kp σ y := by
    unfold stI at h
    dsimp only at h
    obtain ⟨x0, hx, h⟩ := ldI_inv h; cases go_inv h; exact ⟨hW, hL, TS_c wtI hS, Gr_rf⟩
theorem kp_iload {E : Cal} (hE : PE E) {ret : Option FieldType} {i0 : Nat} {l res pc : Nat} {ls st : List PV} {σ : St} {y} (hW : WT9 σ) (hL : TS σ ls) (hS : TS σ st) (h : stI E ret (.iload i0) l res pc ls st σ = some y) : Kp σ y := by
    unfold stI at h
    dsimp only at h
    obtain ⟨x0, hx, h⟩ := ldI_inv h; cases go_inv h; exact ⟨hW, hL, TS_c wtI hS, Gr_rf⟩
theorem kp_lload_n {E : Cal} (hE : PE E) {ret : Option FieldType} {i0 : Fin 4} {l res pc : Nat} {ls st : List PV} {σ : St} {y} (hW : WT9 σ) (hL : TS σ ls) (hS : TS σ st) (h : stI E ret (.lload_n i0) l res pc ls st σ = some y) : Kp σ y := by
    unfold stI at h
    dsimp only at h
    obtain ⟨x0, hx, h⟩ := ldL_inv h; cases go_inv h; exact ⟨hW, hL, TS_c wtL hS, Gr_rf⟩
theorem kp_lload {E : Cal} (hE : PE E) {ret : Option FieldType} {i0 : Nat} {l res pc : Nat} {ls st : List PV} {σ : St} {y} (hW : WT9 σ) (hL : TS σ ls) (hS : TS σ st) (h : stI E ret (.lload i0) l res pc ls st σ = some y) : Kp σ y := by
    unfold stI at h
    dsimp only at h
    obtain ⟨x0, hx, h⟩ := ldL_inv h; cases go_inv h; exact ⟨hW, hL, TS_c wtL hS, Gr_rf⟩
theorem kp_aload_n {E : Cal} (hE : PE E) {ret : Option FieldType} {i0 : Fin 4} {l res pc : Nat} {ls st : List PV} {σ : St} {y} (hW : WT9 σ) (hL : TS σ ls) (hS : TS σ st) (h : stI E ret (.aload_n i0) l res pc ls st σ = some y) : Kp σ y := by
    unfold stI at h
    dsimp only at h
    obtain ⟨a0, t0, hx, h⟩ := ldR_inv h; cases go_inv h; exact ⟨hW, hL, TS_c (TS_at hL hx) hS, Gr_rf⟩
theorem kp_aload {E : Cal} (hE : PE E) {ret : Option FieldType} {i0 : Nat} {l res pc : Nat} {ls st : List PV} {σ : St} {y} (hW : WT9 σ) (hL : TS σ ls) (hS : TS σ st) (h : stI E ret (.aload i0) l res pc ls st σ = some y) : Kp σ y := by
    unfold stI at h
    dsimp only at h
    obtain ⟨a0, t0, hx, h⟩ := ldR_inv h; cases go_inv h; exact ⟨hW, hL, TS_c (TS_at hL hx) hS, Gr_rf⟩
theorem kp_istore_n {E : Cal} (hE : PE E) {ret : Option FieldType} {i0 : Fin 4} {l res pc : Nat} {ls st : List PV} {σ : St} {y} (hW : WT9 σ) (hL : TS σ ls) (hS : TS σ st) (h : stI E ret (.istore_n i0) l res pc ls st σ = some y) : Kp σ y := by
    unfold stI at h
    dsimp only at h
    obtain ⟨x0, r0, hn, rfl⟩ := pI_inv h; replace h := hn; clear hn; replace h := (guard_inv h).2; cases go_inv h; exact ⟨hW, TS_set1 hL wtI, TS_t hS, Gr_rf⟩
theorem kp_istore {E : Cal} (hE : PE E) {ret : Option FieldType} {i0 : Nat} {l res pc : Nat} {ls st : List PV} {σ : St} {y} (hW : WT9 σ) (hL : TS σ ls) (hS : TS σ st) (h : stI E ret (.istore i0) l res pc ls st σ = some y) : Kp σ y := by
    unfold stI at h
    dsimp only at h
    obtain ⟨x0, r0, hn, rfl⟩ := pI_inv h; replace h := hn; clear hn; replace h := (guard_inv h).2; cases go_inv h; exact ⟨hW, TS_set1 hL wtI, TS_t hS, Gr_rf⟩
theorem kp_lstore_n {E : Cal} (hE : PE E) {ret : Option FieldType} {i0 : Fin 4} {l res pc : Nat} {ls st : List PV} {σ : St} {y} (hW : WT9 σ) (hL : TS σ ls) (hS : TS σ st) (h : stI E ret (.lstore_n i0) l res pc ls st σ = some y) : Kp σ y := by
    unfold stI at h
    dsimp only at h
    obtain ⟨x0, r0, hn, rfl⟩ := pL_inv h; replace h := hn; clear hn; replace h := (guard_inv h).2; cases go_inv h; exact ⟨hW, TS_set2 hL wtL, TS_t hS, Gr_rf⟩
theorem kp_lstore {E : Cal} (hE : PE E) {ret : Option FieldType} {i0 : Nat} {l res pc : Nat} {ls st : List PV} {σ : St} {y} (hW : WT9 σ) (hL : TS σ ls) (hS : TS σ st) (h : stI E ret (.lstore i0) l res pc ls st σ = some y) : Kp σ y := by
    unfold stI at h
    dsimp only at h
    obtain ⟨x0, r0, hn, rfl⟩ := pL_inv h; replace h := hn; clear hn; replace h := (guard_inv h).2; cases go_inv h; exact ⟨hW, TS_set2 hL wtL, TS_t hS, Gr_rf⟩
theorem kp_astore_n {E : Cal} (hE : PE E) {ret : Option FieldType} {i0 : Fin 4} {l res pc : Nat} {ls st : List PV} {σ : St} {y} (hW : WT9 σ) (hL : TS σ ls) (hS : TS σ st) (h : stI E ret (.astore_n i0) l res pc ls st σ = some y) : Kp σ y := by
    unfold stI at h
    dsimp only at h
    obtain ⟨a0, t0, r0, hn, rfl⟩ := pR_inv h; replace h := hn; clear hn; replace h := (guard_inv h).2; cases go_inv h; exact ⟨hW, TS_set1 hL (TS_h hS), TS_t hS, Gr_rf⟩
theorem kp_astore {E : Cal} (hE : PE E) {ret : Option FieldType} {i0 : Nat} {l res pc : Nat} {ls st : List PV} {σ : St} {y} (hW : WT9 σ) (hL : TS σ ls) (hS : TS σ st) (h : stI E ret (.astore i0) l res pc ls st σ = some y) : Kp σ y := by
    unfold stI at h
    dsimp only at h
    obtain ⟨a0, t0, r0, hn, rfl⟩ := pR_inv h; replace h := hn; clear hn; replace h := (guard_inv h).2; cases go_inv h; exact ⟨hW, TS_set1 hL (TS_h hS), TS_t hS, Gr_rf⟩
theorem kp_iinc {E : Cal} (hE : PE E) {ret : Option FieldType} {i0 : Nat} {i1 : Int} {l res pc : Nat} {ls st : List PV} {σ : St} {y} (hW : WT9 σ) (hL : TS σ ls) (hS : TS σ st) (h : stI E ret (.iinc i0 i1) l res pc ls st σ = some y) : Kp σ y := by
    unfold stI at h
    dsimp only at h
    obtain ⟨x0, hx, h⟩ := ldI_inv h; replace h := (guard_inv h).2; cases go_inv h; exact ⟨hW, TS_set1 hL wtI, hS, Gr_rf⟩
theorem kp_iadd {E : Cal} (hE : PE E) {ret : Option FieldType}  {l res pc : Nat} {ls st : List PV} {σ : St} {y} (hW : WT9 σ) (hL : TS σ ls) (hS : TS σ st) (h : stI E ret (.iadd) l res pc ls st σ = some y) : Kp σ y := by
    unfold stI at h
    dsimp only at h
    obtain ⟨y0, r0, hn, rfl⟩ := pI_inv h; replace h := hn; clear hn; obtain ⟨x0, r1, hn, rfl⟩ := pI_inv h; replace h := hn; clear hn; cases go_inv h; exact ⟨hW, hL, TS_c wtI (TS_t (TS_t hS)), Gr_rf⟩
theorem kp_isub {E : Cal} (hE : PE E) {ret : Option FieldType}  {l res pc : Nat} {ls st : List PV} {σ : St} {y} (hW : WT9 σ) (hL : TS σ ls) (hS : TS σ st) (h : stI E ret (.isub) l res pc ls st σ = some y) : Kp σ y := by
    unfold stI at h
    dsimp only at h
    obtain ⟨y0, r0, hn, rfl⟩ := pI_inv h; replace h := hn; clear hn; obtain ⟨x0, r1, hn, rfl⟩ := pI_inv h; replace h := hn; clear hn; cases go_inv h; exact ⟨hW, hL, TS_c wtI (TS_t (TS_t hS)), Gr_rf⟩
theorem kp_imul {E : Cal} (hE : PE E) {ret : Option FieldType}  {l res pc : Nat} {ls st : List PV} {σ : St} {y} (hW : WT9 σ) (hL : TS σ ls) (hS : TS σ st) (h : stI E ret (.imul) l res pc ls st σ = some y) : Kp σ y := by
    unfold stI at h
    dsimp only at h
    obtain ⟨y0, r0, hn, rfl⟩ := pI_inv h; replace h := hn; clear hn; obtain ⟨x0, r1, hn, rfl⟩ := pI_inv h; replace h := hn; clear hn; cases go_inv h; exact ⟨hW, hL, TS_c wtI (TS_t (TS_t hS)), Gr_rf⟩
theorem kp_iand {E : Cal} (hE : PE E) {ret : Option FieldType}  {l res pc : Nat} {ls st : List PV} {σ : St} {y} (hW : WT9 σ) (hL : TS σ ls) (hS : TS σ st) (h : stI E ret (.iand) l res pc ls st σ = some y) : Kp σ y := by
    unfold stI at h
    dsimp only at h
    obtain ⟨y0, r0, hn, rfl⟩ := pI_inv h; replace h := hn; clear hn; obtain ⟨x0, r1, hn, rfl⟩ := pI_inv h; replace h := hn; clear hn; cases go_inv h; exact ⟨hW, hL, TS_c wtI (TS_t (TS_t hS)), Gr_rf⟩
theorem kp_ior {E : Cal} (hE : PE E) {ret : Option FieldType}  {l res pc : Nat} {ls st : List PV} {σ : St} {y} (hW : WT9 σ) (hL : TS σ ls) (hS : TS σ st) (h : stI E ret (.ior) l res pc ls st σ = some y) : Kp σ y := by
    unfold stI at h
    dsimp only at h
    obtain ⟨y0, r0, hn, rfl⟩ := pI_inv h; replace h := hn; clear hn; obtain ⟨x0, r1, hn, rfl⟩ := pI_inv h; replace h := hn; clear hn; cases go_inv h; exact ⟨hW, hL, TS_c wtI (TS_t (TS_t hS)), Gr_rf⟩
theorem kp_ixor {E : Cal} (hE : PE E) {ret : Option FieldType}  {l res pc : Nat} {ls st : List PV} {σ : St} {y} (hW : WT9 σ) (hL : TS σ ls) (hS : TS σ st) (h : stI E ret (.ixor) l res pc ls st σ = some y) : Kp σ y := by
    unfold stI at h
    dsimp only at h
    obtain ⟨y0, r0, hn, rfl⟩ := pI_inv h; replace h := hn; clear hn; obtain ⟨x0, r1, hn, rfl⟩ := pI_inv h; replace h := hn; clear hn; cases go_inv h; exact ⟨hW, hL, TS_c wtI (TS_t (TS_t hS)), Gr_rf⟩
theorem kp_ishl {E : Cal} (hE : PE E) {ret : Option FieldType}  {l res pc : Nat} {ls st : List PV} {σ : St} {y} (hW : WT9 σ) (hL : TS σ ls) (hS : TS σ st) (h : stI E ret (.ishl) l res pc ls st σ = some y) : Kp σ y := by
    unfold stI at h
    dsimp only at h
    obtain ⟨y0, r0, hn, rfl⟩ := pI_inv h; replace h := hn; clear hn; obtain ⟨x0, r1, hn, rfl⟩ := pI_inv h; replace h := hn; clear hn; cases go_inv h; exact ⟨hW, hL, TS_c wtI (TS_t (TS_t hS)), Gr_rf⟩
theorem kp_ishr {E : Cal} (hE : PE E) {ret : Option FieldType}  {l res pc : Nat} {ls st : List PV} {σ : St} {y} (hW : WT9 σ) (hL : TS σ ls) (hS : TS σ st) (h : stI E ret (.ishr) l res pc ls st σ = some y) : Kp σ y := by
    unfold stI at h
    dsimp only at h
    obtain ⟨y0, r0, hn, rfl⟩ := pI_inv h; replace h := hn; clear hn; obtain ⟨x0, r1, hn, rfl⟩ := pI_inv h; replace h := hn; clear hn; cases go_inv h; exact ⟨hW, hL, TS_c wtI (TS_t (TS_t hS)), Gr_rf⟩
theorem kp_iushr {E : Cal} (hE : PE E) {ret : Option FieldType}  {l res pc : Nat} {ls st : List PV} {σ : St} {y} (hW : WT9 σ) (hL : TS σ ls) (hS : TS σ st) (h : stI E ret (.iushr) l res pc ls st σ = some y) : Kp σ y := by
    unfold stI at h
    dsimp only at h
    obtain ⟨y0, r0, hn, rfl⟩ := pI_inv h; replace h := hn; clear hn; obtain ⟨x0, r1, hn, rfl⟩ := pI_inv h; replace h := hn; clear hn; cases go_inv h; exact ⟨hW, hL, TS_c wtI (TS_t (TS_t hS)), Gr_rf⟩
theorem kp_idiv {E : Cal} (hE : PE E) {ret : Option FieldType}  {l res pc : Nat} {ls st : List PV} {σ : St} {y} (hW : WT9 σ) (hL : TS σ ls) (hS : TS σ st) (h : stI E ret (.idiv) l res pc ls st σ = some y) : Kp σ y := by
    unfold stI at h
    dsimp only at h
    obtain ⟨y0, r0, hn, rfl⟩ := pI_inv h; replace h := hn; clear hn; obtain ⟨x0, r1, hn, rfl⟩ := pI_inv h; replace h := hn; clear hn; replace h := (guard_inv h).2; cases go_inv h; exact ⟨hW, hL, TS_c wtI (TS_t (TS_t hS)), Gr_rf⟩
theorem kp_irem {E : Cal} (hE : PE E) {ret : Option FieldType}  {l res pc : Nat} {ls st : List PV} {σ : St} {y} (hW : WT9 σ) (hL : TS σ ls) (hS : TS σ st) (h : stI E ret (.irem) l res pc ls st σ = some y) : Kp σ y := by
    unfold stI at h
    dsimp only at h
    obtain ⟨y0, r0, hn, rfl⟩ := pI_inv h; replace h := hn; clear hn; obtain ⟨x0, r1, hn, rfl⟩ := pI_inv h; replace h := hn; clear hn; replace h := (guard_inv h).2; cases go_inv h; exact ⟨hW, hL, TS_c wtI (TS_t (TS_t hS)), Gr_rf⟩
theorem kp_ladd {E : Cal} (hE : PE E) {ret : Option FieldType}  {l res pc : Nat} {ls st : List PV} {σ : St} {y} (hW : WT9 σ) (hL : TS σ ls) (hS : TS σ st) (h : stI E ret (.ladd) l res pc ls st σ = some y) : Kp σ y := by
    unfold stI at h
    dsimp only at h
    obtain ⟨y0, r0, hn, rfl⟩ := pL_inv h; replace h := hn; clear hn; obtain ⟨x0, r1, hn, rfl⟩ := pL_inv h; replace h := hn; clear hn; cases go_inv h; exact ⟨hW, hL, TS_c wtL (TS_t (TS_t hS)), Gr_rf⟩
theorem kp_lmul {E : Cal} (hE : PE E) {ret : Option FieldType}  {l res pc : Nat} {ls st : List PV} {σ : St} {y} (hW : WT9 σ) (hL : TS σ ls) (hS : TS σ st) (h : stI E ret (.lmul) l res pc ls st σ = some y) : Kp σ y := by
    unfold stI at h
    dsimp only at h
    obtain ⟨y0, r0, hn, rfl⟩ := pL_inv h; replace h := hn; clear hn; obtain ⟨x0, r1, hn, rfl⟩ := pL_inv h; replace h := hn; clear hn; cases go_inv h; exact ⟨hW, hL, TS_c wtL (TS_t (TS_t hS)), Gr_rf⟩
theorem kp_land {E : Cal} (hE : PE E) {ret : Option FieldType}  {l res pc : Nat} {ls st : List PV} {σ : St} {y} (hW : WT9 σ) (hL : TS σ ls) (hS : TS σ st) (h : stI E ret (.land) l res pc ls st σ = some y) : Kp σ y := by
    unfold stI at h
    dsimp only at h
    obtain ⟨y0, r0, hn, rfl⟩ := pL_inv h; replace h := hn; clear hn; obtain ⟨x0, r1, hn, rfl⟩ := pL_inv h; replace h := hn; clear hn; cases go_inv h; exact ⟨hW, hL, TS_c wtL (TS_t (TS_t hS)), Gr_rf⟩
theorem kp_lor {E : Cal} (hE : PE E) {ret : Option FieldType}  {l res pc : Nat} {ls st : List PV} {σ : St} {y} (hW : WT9 σ) (hL : TS σ ls) (hS : TS σ st) (h : stI E ret (.lor) l res pc ls st σ = some y) : Kp σ y := by
    unfold stI at h
    dsimp only at h
    obtain ⟨y0, r0, hn, rfl⟩ := pL_inv h; replace h := hn; clear hn; obtain ⟨x0, r1, hn, rfl⟩ := pL_inv h; replace h := hn; clear hn; cases go_inv h; exact ⟨hW, hL, TS_c wtL (TS_t (TS_t hS)), Gr_rf⟩
theorem kp_ldiv {E : Cal} (hE : PE E) {ret : Option FieldType}  {l res pc : Nat} {ls st : List PV} {σ : St} {y} (hW : WT9 σ) (hL : TS σ ls) (hS : TS σ st) (h : stI E ret (.ldiv) l res pc ls st σ = some y) : Kp σ y := by
    unfold stI at h
    dsimp only at h
    obtain ⟨y0, r0, hn, rfl⟩ := pL_inv h; replace h := hn; clear hn; obtain ⟨x0, r1, hn, rfl⟩ := pL_inv h; replace h := hn; clear hn; replace h := (guard_inv h).2; cases go_inv h; exact ⟨hW, hL, TS_c wtL (TS_t (TS_t hS)), Gr_rf⟩
theorem kp_lrem {E : Cal} (hE : PE E) {ret : Option FieldType}  {l res pc : Nat} {ls st : List PV} {σ : St} {y} (hW : WT9 σ) (hL : TS σ ls) (hS : TS σ st) (h : stI E ret (.lrem) l res pc ls st σ = some y) : Kp σ y := by
    unfold stI at h
    dsimp only at h
    obtain ⟨y0, r0, hn, rfl⟩ := pL_inv h; replace h := hn; clear hn; obtain ⟨x0, r1, hn, rfl⟩ := pL_inv h; replace h := hn; clear hn; replace h := (guard_inv h).2; cases go_inv h; exact ⟨hW, hL, TS_c wtL (TS_t (TS_t hS)), Gr_rf⟩
theorem kp_lshl {E : Cal} (hE : PE E) {ret : Option FieldType}  {l res pc : Nat} {ls st : List PV} {σ : St} {y} (hW : WT9 σ) (hL : TS σ ls) (hS : TS σ st) (h : stI E ret (.lshl) l res pc ls st σ = some y) : Kp σ y := by
    unfold stI at h
    dsimp only at h
    obtain ⟨y0, r0, hn, rfl⟩ := pI_inv h; replace h := hn; clear hn; obtain ⟨x0, r1, hn, rfl⟩ := pL_inv h; replace h := hn; clear hn; cases go_inv h; exact ⟨hW, hL, TS_c wtL (TS_t (TS_t hS)), Gr_rf⟩
theorem kp_lcmp {E : Cal} (hE : PE E) {ret : Option FieldType}  {l res pc : Nat} {ls st : List PV} {σ : St} {y} (hW : WT9 σ) (hL : TS σ ls) (hS : TS σ st) (h : stI E ret (.lcmp) l res pc ls st σ = some y) : Kp σ y := by
    unfold stI at h
    dsimp only at h
    obtain ⟨y0, r0, hn, rfl⟩ := pL_inv h; replace h := hn; clear hn; obtain ⟨x0, r1, hn, rfl⟩ := pL_inv h; replace h := hn; clear hn; cases go_inv h; exact ⟨hW, hL, TS_c wtI (TS_t (TS_t hS)), Gr_rf⟩
theorem kp_ineg {E : Cal} (hE : PE E) {ret : Option FieldType}  {l res pc : Nat} {ls st : List PV} {σ : St} {y} (hW : WT9 σ) (hL : TS σ ls) (hS : TS σ st) (h : stI E ret (.ineg) l res pc ls st σ = some y) : Kp σ y := by
    unfold stI at h
    dsimp only at h
    obtain ⟨y0, r0, hn, rfl⟩ := pI_inv h; replace h := hn; clear hn; cases go_inv h; exact ⟨hW, hL, TS_c wtI (TS_t hS), Gr_rf⟩
theorem kp_i2b {E : Cal} (hE : PE E) {ret : Option FieldType}  {l res pc : Nat} {ls st : List PV} {σ : St} {y} (hW : WT9 σ) (hL : TS σ ls) (hS : TS σ st) (h : stI E ret (.i2b) l res pc ls st σ = some y) : Kp σ y := by
    unfold stI at h
    dsimp only at h
    obtain ⟨y0, r0, hn, rfl⟩ := pI_inv h; replace h := hn; clear hn; cases go_inv h; exact ⟨hW, hL, TS_c wtI (TS_t hS), Gr_rf⟩
theorem kp_i2c {E : Cal} (hE : PE E) {ret : Option FieldType}  {l res pc : Nat} {ls st : List PV} {σ : St} {y} (hW : WT9 σ) (hL : TS σ ls) (hS : TS σ st) (h : stI E ret (.i2c) l res pc ls st σ = some y) : Kp σ y := by
    unfold stI at h
    dsimp only at h
    obtain ⟨y0, r0, hn, rfl⟩ := pI_inv h; replace h := hn; clear hn; cases go_inv h; exact ⟨hW, hL, TS_c wtI (TS_t hS), Gr_rf⟩
theorem kp_i2l {E : Cal} (hE : PE E) {ret : Option FieldType}  {l res pc : Nat} {ls st : List PV} {σ : St} {y} (hW : WT9 σ) (hL : TS σ ls) (hS : TS σ st) (h : stI E ret (.i2l) l res pc ls st σ = some y) : Kp σ y := by
    unfold stI at h
    dsimp only at h
    obtain ⟨y0, r0, hn, rfl⟩ := pI_inv h; replace h := hn; clear hn; cases go_inv h; exact ⟨hW, hL, TS_c wtL (TS_t hS), Gr_rf⟩
theorem kp_l2i {E : Cal} (hE : PE E) {ret : Option FieldType}  {l res pc : Nat} {ls st : List PV} {σ : St} {y} (hW : WT9 σ) (hL : TS σ ls) (hS : TS σ st) (h : stI E ret (.l2i) l res pc ls st σ = some y) : Kp σ y := by
    unfold stI at h
    dsimp only at h
    obtain ⟨y0, r0, hn, rfl⟩ := pL_inv h; replace h := hn; clear hn; cases go_inv h; exact ⟨hW, hL, TS_c wtI (TS_t hS), Gr_rf⟩
theorem kp_dup {E : Cal} (hE : PE E) {ret : Option FieldType}  {l res pc : Nat} {ls st : List PV} {σ : St} {y} (hW : WT9 σ) (hL : TS σ ls) (hS : TS σ st) (h : stI E ret (.dup) l res pc ls st σ = some y) : Kp σ y := by
    unfold stI at h
    dsimp only at h
    split at h
    · replace h := (guard_inv h).2; cases go_inv h; exact ⟨hW, hL, TS_c (TS_h hS) hS, Gr_rf⟩
    · cases h
theorem kp_pop {E : Cal} (hE : PE E) {ret : Option FieldType}  {l res pc : Nat} {ls st : List PV} {σ : St} {y} (hW : WT9 σ) (hL : TS σ ls) (hS : TS σ st) (h : stI E ret (.pop) l res pc ls st σ = some y) : Kp σ y := by
    unfold stI at h
    dsimp only at h
    split at h
    · replace h := (guard_inv h).2; cases go_inv h; exact ⟨hW, hL, TS_t hS, Gr_rf⟩
    · cases h
theorem kp_dup_x1 {E : Cal} (hE : PE E) {ret : Option FieldType}  {l res pc : Nat} {ls st : List PV} {σ : St} {y} (hW : WT9 σ) (hL : TS σ ls) (hS : TS σ st) (h : stI E ret (.dup_x1) l res pc ls st σ = some y) : Kp σ y := by
    unfold stI at h
    dsimp only at h
    split at h
    · replace h := (guard_inv h).2; cases go_inv h; exact ⟨hW, hL, TS_c (TS_h hS) (TS_c (TS_h (TS_t hS)) (TS_c (TS_h hS) (TS_t (TS_t hS)))), Gr_rf⟩
    · cases h
theorem kp_dup2 {E : Cal} (hE : PE E) {ret : Option FieldType}  {l res pc : Nat} {ls st : List PV} {σ : St} {y} (hW : WT9 σ) (hL : TS σ ls) (hS : TS σ st) (h : stI E ret (.dup2) l res pc ls st σ = some y) : Kp σ y := by
    unfold stI at h
    dsimp only at h
    split at h
    · rename_i v w r
      cases e : is2 v with
      | true => rw [e] at h; cases go_inv h; exact ⟨hW, hL, TS_c (TS_h hS) hS, Gr_rf⟩
      | false => rw [e] at h; replace h := (guard_inv h).2; cases go_inv h; exact ⟨hW, hL, TS_c (TS_h hS) (TS_c (TS_h (TS_t hS)) hS), Gr_rf⟩
    · cases h
theorem kp_ifCond {E : Cal} (hE : PE E) {ret : Option FieldType} {i0 : Jvm.ClassFile.Cond} {i1 : Int} {l res pc : Nat} {ls st : List PV} {σ : St} {y} (hW : WT9 σ) (hL : TS σ ls) (hS : TS σ st) (h : stI E ret (.ifCond i0 i1) l res pc ls st σ = some y) : Kp σ y := by
    unfold stI at h
    dsimp only at h
    obtain ⟨y0, r0, hn, rfl⟩ := pI_inv h; replace h := hn; clear hn; replace h := (guard_inv h).2; cases go_inv h; exact ⟨hW, hL, TS_t hS, Gr_rf⟩
theorem kp_if_icmp {E : Cal} (hE : PE E) {ret : Option FieldType} {i0 : Jvm.ClassFile.Cond} {i1 : Int} {l res pc : Nat} {ls st : List PV} {σ : St} {y} (hW : WT9 σ) (hL : TS σ ls) (hS : TS σ st) (h : stI E ret (.if_icmp i0 i1) l res pc ls st σ = some y) : Kp σ y := by
    unfold stI at h
    dsimp only at h
    obtain ⟨y0, r0, hn, rfl⟩ := pI_inv h; replace h := hn; clear hn; obtain ⟨x0, r1, hn, rfl⟩ := pI_inv h; replace h := hn; clear hn; replace h := (guard_inv h).2; cases go_inv h; exact ⟨hW, hL, TS_t (TS_t hS), Gr_rf⟩
theorem kp_goto {E : Cal} (hE : PE E) {ret : Option FieldType} {i0 : Int} {l res pc : Nat} {ls st : List PV} {σ : St} {y} (hW : WT9 σ) (hL : TS σ ls) (hS : TS σ st) (h : stI E ret (.goto i0) l res pc ls st σ = some y) : Kp σ y := by
    unfold stI at h
    dsimp only at h
    replace h := (guard_inv h).2; cases go_inv h; exact ⟨hW, hL, hS, Gr_rf⟩
theorem kp_ifnonnull {E : Cal} (hE : PE E) {ret : Option FieldType} {i0 : Int} {l res pc : Nat} {ls st : List PV} {σ : St} {y} (hW : WT9 σ) (hL : TS σ ls) (hS : TS σ st) (h : stI E ret (.ifnonnull i0) l res pc ls st σ = some y) : Kp σ y := by
    unfold stI at h
    dsimp only at h
    obtain ⟨a0, t0, r0, hn, rfl⟩ := pR_inv h; replace h := hn; clear hn; replace h := (guard_inv h).2; cases go_inv h; exact ⟨hW, hL, TS_t hS, Gr_rf⟩
theorem kp_tableswitch {E : Cal} (hE : PE E) {ret : Option FieldType} {i0 : Int} {i1 : Int} {i2 : Int} {i3 : Array Int} {l res pc : Nat} {ls st : List PV} {σ : St} {y} (hW : WT9 σ) (hL : TS σ ls) (hS : TS σ st) (h : stI E ret (.tableswitch i0 i1 i2 i3) l res pc ls st σ = some y) : Kp σ y := by
    unfold stI at h
    dsimp only at h
    obtain ⟨y0, r0, hn, rfl⟩ := pI_inv h; replace h := hn; clear hn; obtain ⟨o, -, h, -⟩ := swT_inv h; cases go_inv h; exact ⟨hW, hL, TS_t hS, Gr_rf⟩
theorem kp_lookupswitch {E : Cal} (hE : PE E) {ret : Option FieldType} {i0 : Int} {i1 : Array (Int × Int)} {l res pc : Nat} {ls st : List PV} {σ : St} {y} (hW : WT9 σ) (hL : TS σ ls) (hS : TS σ st) (h : stI E ret (.lookupswitch i0 i1) l res pc ls st σ = some y) : Kp σ y := by
    unfold stI at h
    dsimp only at h
    obtain ⟨y0, r0, hn, rfl⟩ := pI_inv h; replace h := hn; clear hn; replace h := (guard_inv h).2; cases go_inv h; exact ⟨hW, hL, TS_t hS, Gr_rf⟩
theorem kp_getfield {E : Cal} (hE : PE E) {ret : Option FieldType} {i0 : Nat} {l res pc : Nat} {ls st : List PV} {σ : St} {y} (hW : WT9 σ) (hL : TS σ ls) (hS : TS σ st) (h : stI E ret (.getfield i0) l res pc ls st σ = some y) : Kp σ y := by
    unfold stI at h
    dsimp only at h
    obtain ⟨a0, t0, r0, hn, rfl⟩ := pR_inv h; replace h := hn; clear hn; have ht := (guard_inv h).1; replace h := (guard_inv h).2
    have ht := Nat.eq_of_beq_eq_true ht
    cases e : t0.beq 46 with
    | true =>
      rw [e] at h
      cases e2 : (res % 64).beq 0 with
      | true => rw [e2] at h; cases go_inv h; exact ⟨hW, hL, TS_c (fun q => absurd q (by decide)) (TS_t hS), Gr_rf⟩
      | false => rw [e2] at h; cases go_inv h; exact ⟨hW, hL, TS_c wtI (TS_t hS), Gr_rf⟩
    | false =>
      rw [e, cond_false] at h
      rcases getF_inv h with ⟨-, h⟩ | ⟨hf, h⟩ | ⟨-, -, h⟩
      · cases go_inv h; exact ⟨hW, hL, TS_c wtL (TS_t hS), Gr_rf⟩
      · cases go_inv h
        refine ⟨hW, hL, TS_c ?_ (TS_t hS), Gr_rf⟩
        cases hr : rR σ a0 (res % 64) with
        | none => exact trivial
        | some b =>
          intro hlt
          have h1 : t0 < 40 → a0 < len σ ∧ (sh σ a0).1 = t0 := TS_h hS
          have ht10 : t0 < 10 := by
            rw [ht]
            exact ft_lt hf
          obtain ⟨h2, h3⟩ := h1 (by omega)
          obtain ⟨-, -, q3, -⟩ := hW a0 h2
          have h4 := q3 (by omega) (res % 64) b (by rw [h3, ht]; exact hf) hr
          rw [h3, ht] at h4
          exact h4
      · cases go_inv h; exact ⟨hW, hL, TS_c wtI (TS_t hS), Gr_rf⟩
theorem kp_putfield {E : Cal} (hE : PE E) {ret : Option FieldType} {i0 : Nat} {l res pc : Nat} {ls st : List PV} {σ : St} {y} (hW : WT9 σ) (hL : TS σ ls) (hS : TS σ st) (h : stI E ret (.putfield i0) l res pc ls st σ = some y) : Kp σ y := by
    unfold stI at h
    dsimp only at h
    cases e : (ft (res / 64) (res % 64)).beq 1 with
    | true =>
      rw [e] at h
      obtain ⟨x0, r0, hn, rfl⟩ := pL_inv h; replace h := hn; clear hn; obtain ⟨a0, t0, r1, hn, rfl⟩ := pR_inv h; replace h := hn; clear hn; have ht := (guard_inv h).1; replace h := (guard_inv h).2
      cases go_inv h; exact ⟨WT_wL hW _ _ _, hL, TS_t (TS_t hS), Gr_rf⟩
    | false =>
      rw [e] at h
      cases e2 : Nat.ble 100 (ft (res / 64) (res % 64)) with
      | true =>
        rw [e2] at h
        obtain ⟨b0, tb, r0, hn, rfl⟩ := pR_inv h; replace h := hn; clear hn; obtain ⟨a0, t0, r1, hn, rfl⟩ := pR_inv h; replace h := hn; clear hn; have ht := (guard_inv h).1; replace h := (guard_inv h).2
        simp only [Bool.and_eq_true, Nat.beq_eq] at ht
        obtain ⟨ht, htb⟩ := ht
        have hf := Nat.le_of_ble_eq_true e2
        have h10 : t0 < 10 := by rw [ht]; exact ft_lt hf
        have h40 : tb < 40 := by rw [htb]; exact ft_tag _ _
        have h1 : t0 < 40 → a0 < len σ ∧ (sh σ a0).1 = t0 := TS_h (TS_t hS)
        have h2 : tb < 40 → b0 < len σ ∧ (sh σ b0).1 = tb := TS_h hS
        obtain ⟨h3, h4⟩ := h1 (by omega)
        obtain ⟨h5, h6⟩ := h2 h40
        cases go_inv h
        refine ⟨WT_wRo hW h3 h5 (fun _ _ => by rw [h4, ht, h6, htb]) (fun q => by omega), hL, fun v hv => TS_t (TS_t hS) v hv, Gr_rf⟩
      | false =>
        rw [e2] at h
        obtain ⟨x0, r0, hn, rfl⟩ := pI_inv h; replace h := hn; clear hn; obtain ⟨a0, t0, r1, hn, rfl⟩ := pR_inv h; replace h := hn; clear hn; have ht := (guard_inv h).1; replace h := (guard_inv h).2
        rw [Bool.and_eq_true] at ht
        have h10 : t0 < 10 := by rw [Nat.eq_of_beq_eq_true ht.1]; exact nar_lt ht.2
        have h1 : t0 < 40 → a0 < len σ ∧ (sh σ a0).1 = t0 := TS_h (TS_t hS)
        have h3 := (h1 (by omega)).2
        cases go_inv h; exact ⟨WT_wI hW _ _ _ (fun q => by omega), hL, TS_t (TS_t hS), Gr_rf⟩
theorem kp_getstatic {E : Cal} (hE : PE E) {ret : Option FieldType} {i0 : Nat} {l res pc : Nat} {ls st : List PV} {σ : St} {y} (hW : WT9 σ) (hL : TS σ ls) (hS : TS σ st) (h : stI E ret (.getstatic i0) l res pc ls st σ = some y) : Kp σ y := by
    unfold stI at h
    dsimp only at h
    cases go_inv h
    refine ⟨hW, hL, TS_c ?_ hS, Gr_rf⟩
    cases res.beq 1 with
    | true => exact fun q => absurd q (by decide)
    | false => cases res.beq 5 with
      | true => exact fun q => absurd q (by decide)
      | false => cases res.beq 6 with
        | true => exact fun q => absurd q (by decide)
        | false => cases res.beq 7 with
          | true => exact fun q => absurd q (by decide)
          | false => cases res.beq 3 with
            | true => exact trivial
            | false => cases res.beq 4 <;> exact trivial
theorem kp_iaload {E : Cal} (hE : PE E) {ret : Option FieldType}  {l res pc : Nat} {ls st : List PV} {σ : St} {y} (hW : WT9 σ) (hL : TS σ ls) (hS : TS σ st) (h : stI E ret (.iaload) l res pc ls st σ = some y) : Kp σ y := by
    unfold stI at h
    dsimp only at h
    obtain ⟨j0, r0, hn, rfl⟩ := pI_inv h; replace h := hn; clear hn; obtain ⟨a0, t0, r1, hn, rfl⟩ := pR_inv h; replace h := hn; clear hn; have ht := (guard_inv h).1; replace h := (guard_inv h).2; cases go_inv h; exact ⟨hW, hL, TS_c wtI (TS_t (TS_t hS)), Gr_rf⟩
theorem kp_baload {E : Cal} (hE : PE E) {ret : Option FieldType}  {l res pc : Nat} {ls st : List PV} {σ : St} {y} (hW : WT9 σ) (hL : TS σ ls) (hS : TS σ st) (h : stI E ret (.baload) l res pc ls st σ = some y) : Kp σ y := by
    unfold stI at h
    dsimp only at h
    obtain ⟨j0, r0, hn, rfl⟩ := pI_inv h; replace h := hn; clear hn; obtain ⟨a0, t0, r1, hn, rfl⟩ := pR_inv h; replace h := hn; clear hn; 
    cases e : (t0.beq 22 || t0.beq 23) with
    | true => rw [e] at h; replace h := (guard_inv h).2; cases go_inv h; exact ⟨hW, hL, TS_c wtI (TS_t (TS_t hS)), Gr_rf⟩
    | false => rw [e] at h; replace h := (guard_inv h).2; cases go_inv h; exact ⟨hW, hL, TS_c wtI (TS_t (TS_t hS)), Gr_rf⟩
theorem kp_laload {E : Cal} (hE : PE E) {ret : Option FieldType}  {l res pc : Nat} {ls st : List PV} {σ : St} {y} (hW : WT9 σ) (hL : TS σ ls) (hS : TS σ st) (h : stI E ret (.laload) l res pc ls st σ = some y) : Kp σ y := by
    unfold stI at h
    dsimp only at h
    obtain ⟨j0, r0, hn, rfl⟩ := pI_inv h; replace h := hn; clear hn; obtain ⟨a0, t0, r1, hn, rfl⟩ := pR_inv h; replace h := hn; clear hn; have ht := (guard_inv h).1; replace h := (guard_inv h).2; cases go_inv h; exact ⟨hW, hL, TS_c wtL (TS_t (TS_t hS)), Gr_rf⟩
theorem kp_aaload {E : Cal} (hE : PE E) {ret : Option FieldType}  {l res pc : Nat} {ls st : List PV} {σ : St} {y} (hW : WT9 σ) (hL : TS σ ls) (hS : TS σ st) (h : stI E ret (.aaload) l res pc ls st σ = some y) : Kp σ y := by
    unfold stI at h
    dsimp only at h
    obtain ⟨j0, r0, hn, rfl⟩ := pI_inv h; replace h := hn; clear hn; obtain ⟨a0, t0, r1, hn, rfl⟩ := pR_inv h; replace h := hn; clear hn; have ht := (guard_inv h).1; replace h := (guard_inv h).2; 
    simp only [Bool.and_eq_true, Bool.or_eq_true, Nat.beq_eq] at ht
    cases go_inv h
    refine ⟨hW, hL, TS_c ?_ (TS_t (TS_t hS)), Gr_rf⟩
    cases hr : rR σ a0 j0.toNatClampNeg with
    | none => exact trivial
    | some b =>
      intro _
      have h1 : t0 < 40 → a0 < len σ ∧ (sh σ a0).1 = t0 := TS_h (TS_t hS)
      rcases ht.1 with rfl | rfl
      · obtain ⟨h2, h3⟩ := h1 (by omega)
        have h4 := (hW a0 h2).2.2.2.1 (by omega) _ b hr
        rw [h3] at h4; exact h4
      · obtain ⟨h2, h3⟩ := h1 (by omega)
        have h4 := (hW a0 h2).2.2.2.1 (by omega) _ b hr
        rw [h3] at h4; exact h4
theorem kp_iastore {E : Cal} (hE : PE E) {ret : Option FieldType}  {l res pc : Nat} {ls st : List PV} {σ : St} {y} (hW : WT9 σ) (hL : TS σ ls) (hS : TS σ st) (h : stI E ret (.iastore) l res pc ls st σ = some y) : Kp σ y := by
    unfold stI at h
    dsimp only at h
    obtain ⟨x0, r0, hn, rfl⟩ := pI_inv h; replace h := hn; clear hn; obtain ⟨j0, r1, hn, rfl⟩ := pI_inv h; replace h := hn; clear hn; obtain ⟨a0, t0, r2, hn, rfl⟩ := pR_inv h; replace h := hn; clear hn; have ht := (guard_inv h).1; replace h := (guard_inv h).2; 
    rw [Bool.and_eq_true] at ht
    have h1 : t0 < 40 → a0 < len σ ∧ (sh σ a0).1 = t0 := TS_h (TS_t (TS_t hS))
    have h7 := Nat.eq_of_beq_eq_true ht.1
    have h3 := (h1 (by omega)).2
    cases go_inv h; exact ⟨WT_wI hW _ _ _ (fun q => by omega), hL, TS_t (TS_t (TS_t hS)), Gr_rf⟩
theorem kp_bastore {E : Cal} (hE : PE E) {ret : Option FieldType}  {l res pc : Nat} {ls st : List PV} {σ : St} {y} (hW : WT9 σ) (hL : TS σ ls) (hS : TS σ st) (h : stI E ret (.bastore) l res pc ls st σ = some y) : Kp σ y := by
    unfold stI at h
    dsimp only at h
    obtain ⟨x0, r0, hn, rfl⟩ := pI_inv h; replace h := hn; clear hn; obtain ⟨j0, r1, hn, rfl⟩ := pI_inv h; replace h := hn; clear hn; obtain ⟨a0, t0, r2, hn, rfl⟩ := pR_inv h; replace h := hn; clear hn; have ht := (guard_inv h).1; replace h := (guard_inv h).2; 
    simp only [Bool.and_eq_true, Bool.or_eq_true, Nat.beq_eq] at ht
    have h1 : t0 < 40 → a0 < len σ ∧ (sh σ a0).1 = t0 := TS_h (TS_t (TS_t hS))
    have h7 : t0 = 22 ∨ t0 = 23 := ht.1
    have h3 := (h1 (by omega)).2
    cases go_inv h; exact ⟨WT_wI hW _ _ _ (fun q => by
      have e : t0.beq 22 = false := by rw [← Bool.not_eq_true, Nat.beq_eq]; omega
      rw [e]; exact nar8 x0), hL, TS_t (TS_t (TS_t hS)), Gr_rf⟩
theorem kp_lastore {E : Cal} (hE : PE E) {ret : Option FieldType}  {l res pc : Nat} {ls st : List PV} {σ : St} {y} (hW : WT9 σ) (hL : TS σ ls) (hS : TS σ st) (h : stI E ret (.lastore) l res pc ls st σ = some y) : Kp σ y := by
    unfold stI at h
    dsimp only at h
    obtain ⟨x0, r0, hn, rfl⟩ := pL_inv h; replace h := hn; clear hn; obtain ⟨j0, r1, hn, rfl⟩ := pI_inv h; replace h := hn; clear hn; obtain ⟨a0, t0, r2, hn, rfl⟩ := pR_inv h; replace h := hn; clear hn; have ht := (guard_inv h).1; replace h := (guard_inv h).2; cases go_inv h; exact ⟨WT_wL hW _ _ _, hL, TS_t (TS_t (TS_t hS)), Gr_rf⟩
theorem kp_aastore {E : Cal} (hE : PE E) {ret : Option FieldType}  {l res pc : Nat} {ls st : List PV} {σ : St} {y} (hW : WT9 σ) (hL : TS σ ls) (hS : TS σ st) (h : stI E ret (.aastore) l res pc ls st σ = some y) : Kp σ y := by
    unfold stI at h
    dsimp only at h
    obtain ⟨b0, tb, r0, hn, rfl⟩ := pR_inv h; replace h := hn; clear hn; obtain ⟨j0, r1, hn, rfl⟩ := pI_inv h; replace h := hn; clear hn; obtain ⟨a0, t0, r2, hn, rfl⟩ := pR_inv h; replace h := hn; clear hn; have ht := (guard_inv h).1; replace h := (guard_inv h).2
    simp only [Bool.and_eq_true, Bool.or_eq_true, Nat.beq_eq] at ht
    have h1 : t0 < 40 → a0 < len σ ∧ (sh σ a0).1 = t0 := TS_h (TS_t (TS_t hS))
    have h2 : tb < 40 → b0 < len σ ∧ (sh σ b0).1 = tb := TS_h hS
    have h7 : (t0 = 24 ∧ tb = 2) ∨ (t0 = 25 ∧ tb = 3) := ht.1
    obtain ⟨h3, h4⟩ := h1 (by omega)
    obtain ⟨h5, h6⟩ := h2 (by omega)
    cases go_inv h
    exact ⟨WT_wRo hW h3 h5 (fun q => by omega) (fun q => by omega), hL, fun v hv => TS_t (TS_t (TS_t hS)) v hv, Gr_rf⟩
theorem kp_arraylength {E : Cal} (hE : PE E) {ret : Option FieldType}  {l res pc : Nat} {ls st : List PV} {σ : St} {y} (hW : WT9 σ) (hL : TS σ ls) (hS : TS σ st) (h : stI E ret (.arraylength) l res pc ls st σ = some y) : Kp σ y := by
    unfold stI at h
    dsimp only at h
    obtain ⟨a0, t0, r0, hn, rfl⟩ := pR_inv h; replace h := hn; clear hn; replace h := (guard_inv h).2; cases go_inv h; exact ⟨hW, hL, TS_c wtI (TS_t hS), Gr_rf⟩
theorem kp_new {E : Cal} (hE : PE E) {ret : Option FieldType} {i0 : Nat} {l res pc : Nat} {ls st : List PV} {σ : St} {y} (hW : WT9 σ) (hL : TS σ ls) (hS : TS σ st) (h : stI E ret (.new i0) l res pc ls st σ = some y) : Kp σ y := by
    unfold stI at h
    dsimp only at h
    have hg := (guard_inv h).1; replace h := (guard_inv h).2
    have hg := Nat.lt_of_lt_of_le (Nat.lt_succ_self _) (Nat.le_of_ble_eq_true hg)
    cases go_inv h
    exact ⟨WT_nw hW (by unfold okT; simp; omega) (fun _ => rfl), Gr_ts nw_gr hL, TS_c nw_wt (Gr_ts nw_gr hS), nw_gr⟩
theorem kp_newarray {E : Cal} (hE : PE E) {ret : Option FieldType} {i0 : ArrayType} {l res pc : Nat} {ls st : List PV} {σ : St} {y} (hW : WT9 σ) (hL : TS σ ls) (hS : TS σ st) (h : stI E ret (.newarray i0) l res pc ls st σ = some y) : Kp σ y := by
    unfold stI at h
    dsimp only at h
    obtain ⟨n0, r0, hn, rfl⟩ := pI_inv h; replace h := hn; clear hn; have hg := (guard_inv h).1; replace h := (guard_inv h).2
    cases go_inv h
    refine ⟨WT_nw hW ?_ ?_, Gr_ts nw_gr hL, TS_c nw_wt (Gr_ts nw_gr (TS_t hS)), nw_gr⟩ <;> (cases i0 <;> first | rfl | (simp [aTag] at hg; done) | (intro q; exact absurd q (by decide)))
theorem kp_anewarray {E : Cal} (hE : PE E) {ret : Option FieldType} {i0 : Nat} {l res pc : Nat} {ls st : List PV} {σ : St} {y} (hW : WT9 σ) (hL : TS σ ls) (hS : TS σ st) (h : stI E ret (.anewarray i0) l res pc ls st σ = some y) : Kp σ y := by
    unfold stI at h
    dsimp only at h
    obtain ⟨n0, r0, hn, rfl⟩ := pI_inv h; replace h := hn; clear hn; have hg := (guard_inv h).1; replace h := (guard_inv h).2
    simp only [Bool.and_eq_true, Bool.or_eq_true, Nat.beq_eq] at hg
    have h7 : res = 24 ∨ res = 25 := hg.2.2
    cases go_inv h
    exact ⟨WT_nw hW (by rcases h7 with rfl | rfl <;> rfl) (fun q => by omega), Gr_ts nw_gr hL, TS_c nw_wt (Gr_ts nw_gr (TS_t hS)), nw_gr⟩
theorem kp_ldc {E : Cal} (hE : PE E) {ret : Option FieldType} {i0 : Nat} {l res pc : Nat} {ls st : List PV} {σ : St} {y} (hW : WT9 σ) (hL : TS σ ls) (hS : TS σ st) (h : stI E ret (.ldc i0) l res pc ls st σ = some y) : Kp σ y := by
    unfold stI at h
    dsimp only at h
    cases e : (res % 2).beq 0 with
    | true => rw [e] at h; cases go_inv h; exact ⟨hW, hL, TS_c wtI hS, Gr_rf⟩
    | false => rw [e] at h; cases go_inv h; exact ⟨hW, hL, TS_c (fun q => absurd q (by decide)) hS, Gr_rf⟩
theorem kp_ldc_w {E : Cal} (hE : PE E) {ret : Option FieldType} {i0 : Nat} {l res pc : Nat} {ls st : List PV} {σ : St} {y} (hW : WT9 σ) (hL : TS σ ls) (hS : TS σ st) (h : stI E ret (.ldc_w i0) l res pc ls st σ = some y) : Kp σ y := by
    unfold stI at h
    dsimp only at h
    cases go_inv h; exact ⟨hW, hL, TS_c wtI hS, Gr_rf⟩
theorem kp_ldc2_w {E : Cal} (hE : PE E) {ret : Option FieldType} {i0 : Nat} {l res pc : Nat} {ls st : List PV} {σ : St} {y} (hW : WT9 σ) (hL : TS σ ls) (hS : TS σ st) (h : stI E ret (.ldc2_w i0) l res pc ls st σ = some y) : Kp σ y := by
    unfold stI at h
    dsimp only at h
    cases go_inv h; exact ⟨hW, hL, TS_c wtL hS, Gr_rf⟩
theorem kp_invokevirtual {E : Cal} (hE : PE E) {ret : Option FieldType} {i0 : Nat} {l res pc : Nat} {ls st : List PV} {σ : St} {y} (hW : WT9 σ) (hL : TS σ ls) (hS : TS σ st) (h : stI E ret (.invokevirtual i0) l res pc ls st σ = some y) : Kp σ y := by
    unfold stI at h
    dsimp only at h
    obtain ⟨as, rest, rfl, -, -, -, r, σ', hc, rfl⟩ := callN_inv h
    obtain ⟨h1, h2, h3⟩ := hE _ _ _ _ _ hc hW (fun v hv => hS v (List.mem_append_left _ (List.mem_reverse.mpr hv)))
    refine ⟨h1, Gr_ts h3 hL, fun v hv => ?_, h3⟩
    rcases List.mem_append.mp hv with hv | hv
    · exact h2 v (Option.mem_toList.mp hv)
    · exact Gr_wt h3 (hS v (List.mem_append_right _ hv))
theorem kp_invokestatic {E : Cal} (hE : PE E) {ret : Option FieldType} {i0 : Nat} {l res pc : Nat} {ls st : List PV} {σ : St} {y} (hW : WT9 σ) (hL : TS σ ls) (hS : TS σ st) (h : stI E ret (.invokestatic i0) l res pc ls st σ = some y) : Kp σ y := by
    unfold stI at h
    dsimp only at h
    cases e : isP res with
    | true =>
      rw [e, cond_true] at h
      unfold primN at h
      cases e1 : res.beq 1001 with
      | false =>
        rw [e1, cond_false] at h
        cases e2 : res.beq 1002 with
        | true => rw [e2] at h; obtain ⟨y0, r0, hn, rfl⟩ := pI_inv h; replace h := hn; clear hn; obtain ⟨x0, r1, hn, rfl⟩ := pI_inv h; replace h := hn; clear hn; replace h := (guard_inv h).2; cases go_inv h; exact ⟨hW, hL, TS_c wtI (TS_t (TS_t hS)), Gr_rf⟩
        | false =>
          rw [e2, cond_false] at h
          cases e3 : res.beq 1003 with
          | true => rw [e3] at h; obtain ⟨y0, r0, hn, rfl⟩ := pI_inv h; replace h := hn; clear hn; obtain ⟨x0, r1, hn, rfl⟩ := pI_inv h; replace h := hn; clear hn; replace h := (guard_inv h).2; cases go_inv h; exact ⟨hW, hL, TS_c wtI (TS_t (TS_t hS)), Gr_rf⟩
          | false => rw [e3, cond_false] at h; obtain ⟨y0, r0, hn, rfl⟩ := pL_inv h; replace h := hn; clear hn; obtain ⟨x0, r1, hn, rfl⟩ := pL_inv h; replace h := hn; clear hn; replace h := (guard_inv h).2; cases go_inv h; exact ⟨hW, hL, TS_c wtL (TS_t (TS_t hS)), Gr_rf⟩
      | true =>
      rw [e1, cond_true] at h
      obtain ⟨n, dp, b, tb, sp, a, ta, r, rfl, -, -, -, -, -, ⟨rfl, -, ⟨h7, h2⟩ | ⟨h7, h2⟩⟩ | ⟨-, -, -, h2⟩⟩ := copyN_inv h
      · cases h2
        have wa : ta < 40 → a < len σ ∧ (sh σ a).1 = ta := TS_h (TS_t (TS_t (TS_t (TS_t hS))))
        have wb : ta < 40 → b < len σ ∧ (sh σ b).1 = ta := TS_h (TS_t (TS_t hS))
        have wa := wa (by omega)
        have wb := wb (by omega)
        exact ⟨WT_cI hW _ _ _ _ _ (fun q => (hW a wa.1).2.2.2.2 (by omega)), hL, TS_t (TS_t (TS_t (TS_t (TS_t hS)))), Gr_rf⟩
      · cases h2
        exact ⟨hW, hL, TS_t (TS_t (TS_t (TS_t (TS_t hS)))), Gr_rf⟩
      · cases h2
        exact ⟨WT_cX hW _ _ _ _ _, hL, TS_t (TS_t (TS_t (TS_t (TS_t hS)))), Gr_rf⟩
    | false =>
    rw [e] at h
    obtain ⟨as, rest, rfl, -, -, -, r, σ', hc, rfl⟩ := callN_inv h
    obtain ⟨h1, h2, h3⟩ := hE _ _ _ _ _ hc hW (fun v hv => hS v (List.mem_append_left _ (List.mem_reverse.mpr hv)))
    refine ⟨h1, Gr_ts h3 hL, fun v hv => ?_, h3⟩
    rcases List.mem_append.mp hv with hv | hv
    · exact h2 v (Option.mem_toList.mp hv)
    · exact Gr_wt h3 (hS v (List.mem_append_right _ hv))
theorem kp_invokespecial {E : Cal} (hE : PE E) {ret : Option FieldType} {i0 : Nat} {l res pc : Nat} {ls st : List PV} {σ : St} {y} (hW : WT9 σ) (hL : TS σ ls) (hS : TS σ st) (h : stI E ret (.invokespecial i0) l res pc ls st σ = some y) : Kp σ y := by
    unfold stI at h
    dsimp only at h
    cases e : res.beq 1000 with
    | true => rw [e] at h; obtain ⟨a0, t0, r0, hn, rfl⟩ := pR_inv h; replace h := hn; clear hn; replace h := (guard_inv h).2; cases go_inv h; exact ⟨hW, hL, TS_t hS, Gr_rf⟩
    | false =>
    rw [e] at h
    obtain ⟨as, rest, rfl, -, -, -, r, σ', hc, rfl⟩ := callN_inv h
    obtain ⟨h1, h2, h3⟩ := hE _ _ _ _ _ hc hW (fun v hv => hS v (List.mem_append_left _ (List.mem_reverse.mpr hv)))
    refine ⟨h1, Gr_ts h3 hL, fun v hv => ?_, h3⟩
    rcases List.mem_append.mp hv with hv | hv
    · exact h2 v (Option.mem_toList.mp hv)
    · exact Gr_wt h3 (hS v (List.mem_append_right _ hv))
theorem kp_ireturn {E : Cal} (hE : PE E) {ret : Option FieldType}  {l res pc : Nat} {ls st : List PV} {σ : St} {y} (hW : WT9 σ) (hL : TS σ ls) (hS : TS σ st) (h : stI E ret (.ireturn) l res pc ls st σ = some y) : Kp σ y := by
    unfold stI at h
    dsimp only at h
    split at h
    · replace h := (guard_inv h).2; cases h; exact ⟨hW, fun v hv => (by cases hv; trivial), Gr_rf⟩
    · cases h
theorem kp_lreturn {E : Cal} (hE : PE E) {ret : Option FieldType}  {l res pc : Nat} {ls st : List PV} {σ : St} {y} (hW : WT9 σ) (hL : TS σ ls) (hS : TS σ st) (h : stI E ret (.lreturn) l res pc ls st σ = some y) : Kp σ y := by
    unfold stI at h
    dsimp only at h
    split at h
    · replace h := (guard_inv h).2; cases h; exact ⟨hW, fun v hv => (by cases hv; trivial), Gr_rf⟩
    · cases h
theorem kp_areturn {E : Cal} (hE : PE E) {ret : Option FieldType}  {l res pc : Nat} {ls st : List PV} {σ : St} {y} (hW : WT9 σ) (hL : TS σ ls) (hS : TS σ st) (h : stI E ret (.areturn) l res pc ls st σ = some y) : Kp σ y := by
    unfold stI at h
    dsimp only at h
    split at h
    · cases h; exact ⟨hW, fun v hv => (by cases hv; exact TS_h hS), Gr_rf⟩
    · cases h
theorem kp_return_ {E : Cal} (hE : PE E) {ret : Option FieldType}  {l res pc : Nat} {ls st : List PV} {σ : St} {y} (hW : WT9 σ) (hL : TS σ ls) (hS : TS σ st) (h : stI E ret (.return_) l res pc ls st σ = some y) : Kp σ y := by
    unfold stI at h
    dsimp only at h
    split at h
    · replace h := (guard_inv h).2; cases h; exact ⟨hW, fun v hv => (by cases hv), Gr_rf⟩
    · cases h
theorem kp_all {E : Cal} (hE : PE E) {ret : Option FieldType} {i : Instr} {l res pc : Nat} {ls st : List PV} {σ : St} {y} (hW : WT9 σ) (hL : TS σ ls) (hS : TS σ st) (h : stI E ret i l res pc ls st σ = some y) : Kp σ y := by
  cases i
  case iconst => exact kp_iconst hE hW hL hS h
  case bipush => exact kp_bipush hE hW hL hS h
  case sipush => exact kp_sipush hE hW hL hS h
  case lconst => exact kp_lconst hE hW hL hS h
  case iload_n => exact kp_iload_n hE hW hL hS h
  case iload => exact kp_iload hE hW hL hS h
  case lload_n => exact kp_lload_n hE hW hL hS h
  case lload => exact kp_lload hE hW hL hS h
  case aload_n => exact kp_aload_n hE hW hL hS h
  case aload => exact kp_aload hE hW hL hS h
  case istore_n => exact kp_istore_n hE hW hL hS h
  case istore => exact kp_istore hE hW hL hS h
  case lstore_n => exact kp_lstore_n hE hW hL hS h
  case lstore => exact kp_lstore hE hW hL hS h
  case astore_n => exact kp_astore_n hE hW hL hS h
  case astore => exact kp_astore hE hW hL hS h
  case iinc => exact kp_iinc hE hW hL hS h
  case iadd => exact kp_iadd hE hW hL hS h
  case isub => exact kp_isub hE hW hL hS h
  case imul => exact kp_imul hE hW hL hS h
  case iand => exact kp_iand hE hW hL hS h
  case ior => exact kp_ior hE hW hL hS h
  case ixor => exact kp_ixor hE hW hL hS h
  case ishl => exact kp_ishl hE hW hL hS h
  case ishr => exact kp_ishr hE hW hL hS h
  case iushr => exact kp_iushr hE hW hL hS h
  case idiv => exact kp_idiv hE hW hL hS h
  case irem => exact kp_irem hE hW hL hS h
  case ladd => exact kp_ladd hE hW hL hS h
  case lmul => exact kp_lmul hE hW hL hS h
  case land => exact kp_land hE hW hL hS h
  case lor => exact kp_lor hE hW hL hS h
  case ldiv => exact kp_ldiv hE hW hL hS h
  case lrem => exact kp_lrem hE hW hL hS h
  case lshl => exact kp_lshl hE hW hL hS h
  case lcmp => exact kp_lcmp hE hW hL hS h
  case ineg => exact kp_ineg hE hW hL hS h
  case i2b => exact kp_i2b hE hW hL hS h
  case i2c => exact kp_i2c hE hW hL hS h
  case i2l => exact kp_i2l hE hW hL hS h
  case l2i => exact kp_l2i hE hW hL hS h
  case dup => exact kp_dup hE hW hL hS h
  case pop => exact kp_pop hE hW hL hS h
  case dup_x1 => exact kp_dup_x1 hE hW hL hS h
  case dup2 => exact kp_dup2 hE hW hL hS h
  case ifCond => exact kp_ifCond hE hW hL hS h
  case if_icmp => exact kp_if_icmp hE hW hL hS h
  case goto => exact kp_goto hE hW hL hS h
  case ifnonnull => exact kp_ifnonnull hE hW hL hS h
  case tableswitch => exact kp_tableswitch hE hW hL hS h
  case lookupswitch => exact kp_lookupswitch hE hW hL hS h
  case getfield => exact kp_getfield hE hW hL hS h
  case putfield => exact kp_putfield hE hW hL hS h
  case getstatic => exact kp_getstatic hE hW hL hS h
  case iaload => exact kp_iaload hE hW hL hS h
  case baload => exact kp_baload hE hW hL hS h
  case laload => exact kp_laload hE hW hL hS h
  case aaload => exact kp_aaload hE hW hL hS h
  case iastore => exact kp_iastore hE hW hL hS h
  case bastore => exact kp_bastore hE hW hL hS h
  case lastore => exact kp_lastore hE hW hL hS h
  case aastore => exact kp_aastore hE hW hL hS h
  case arraylength => exact kp_arraylength hE hW hL hS h
  case new => exact kp_new hE hW hL hS h
  case newarray => exact kp_newarray hE hW hL hS h
  case anewarray => exact kp_anewarray hE hW hL hS h
  case ldc => exact kp_ldc hE hW hL hS h
  case ldc_w => exact kp_ldc_w hE hW hL hS h
  case ldc2_w => exact kp_ldc2_w hE hW hL hS h
  case invokevirtual => exact kp_invokevirtual hE hW hL hS h
  case invokestatic => exact kp_invokestatic hE hW hL hS h
  case invokespecial => exact kp_invokespecial hE hW hL hS h
  case ireturn => exact kp_ireturn hE hW hL hS h
  case lreturn => exact kp_lreturn hE hW hL hS h
  case areturn => exact kp_areturn hE hW hL hS h
  case return_ => exact kp_return_ hE hW hL hS h
  all_goals (unfold stI at h; cases h)
theorem pe_run {E : Cal} (hE : PE E) {M : MT} : ∀ n pc ls st σ r σ', run E M n pc ls st σ = some (r, σ') → WT9 σ → TS σ ls → TS σ st → WT9 σ' ∧ (∀ v, r = some v → wt σ' v) ∧ Gr σ σ' := by
  intro n
  induction n with
  | zero => intro pc ls st σ r σ' h; cases h
  | succ n ih =>
    intro pc ls st σ r σ' h hW hL hS
    unfold run at h
    cases hs : stp E M pc ls st σ with
    | none => rw [hs] at h; cases h
    | some y =>
      rw [hs] at h
      unfold stp at hs
      split at hs
      · have hk := kp_all hE hW hL hS hs
        cases y with
        | inl q =>
          obtain ⟨pc', ls', st', σ1⟩ := q
          obtain ⟨h1, h2, h3, h4⟩ := hk
          obtain ⟨g1, g2, g3⟩ := ih _ _ _ _ _ _ h h1 h2 h3
          exact ⟨g1, g2, Gr_tr h4 g3⟩
        | inr q =>
          cases h
          exact hk
      · cases hs
theorem TS_ent {σ : St} : ∀ {as : List PV}, TS σ as → TS σ (ent as)
  | [], _ => fun v hv => by cases hv
  | v :: r, h => by
    have ih := TS_ent (TS_t h)
    unfold ent
    split
    · rename_i e; cases e
    · rename_i e; cases e; exact TS_c wtL (TS_c wtU ih)
    · rename_i e; cases e; exact TS_c (TS_h h) ih
theorem TS_entry {σ : St} {as : List PV} {n : Nat} (h : TS σ as) : TS σ (entry as n) := fun v hv => by
  rcases List.mem_append.mp hv with q | q
  · exact TS_ent h v q
  · rw [List.eq_of_mem_replicate q]; exact wtU
theorem pe_exec {tb : Nat → MT} {N : Nat} : ∀ d, PE (exec tb N d) := by
  intro d
  induction d with
  | zero => intro M as σ r σ' h; cases h
  | succ d ih =>
    intro M as σ r σ' h hW hA
    unfold exec at h
    cases e : Nat.ble (ent as).length (tb M).2.2 with
    | false => rw [e] at h; cases h
    | true =>
      rw [e] at h
      exact pe_run ih _ _ _ _ _ _ _ h hW (TS_entry hA) (fun v hv => by cases hv)
