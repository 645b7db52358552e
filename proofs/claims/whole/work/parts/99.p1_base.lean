/-! ===== THE SMALL MACHINE AND THE REAL ONE ===== -/
/-- a pure value as the real one has it: objects by their addresses -/
def trv (ad : Nat → Nat) (ex : Nat → Nat → Value) (v : PV) : Value := match v with
  | Sum.inl x => .int x
  | Sum.inr (Sum.inl x) => .long x
  | Sum.inr (Sum.inr (none, _)) => .null
  | Sum.inr (Sum.inr (some a, t)) => bif Nat.blt t 40 then .ref (ad a) else ex t a
def fval (ad : Nat → Nat) (σ : St) (a c f : Nat) : Value := bif (ft c f).beq 1 then .long (rL σ a f) else bif Nat.ble 100 (ft c f) then va_rf ((rR σ a f).map ad) else .int (rI σ a f)
def arrE (ad : Nat → Nat) (σ : St) (k t n : Nat) : vp_A := (n, bif t.beq 21 then .inr (.inl (rL σ k)) else bif Nat.ble 24 t then .inr (.inr (.inr (.inr (fun i => (rR σ k i).map ad)))) else .inl (rI σ k))
def eW (ad : Nat → Nat) (cA : Nat → ClassId) (σ : St) (k : Nat) : Nat × va_E := (ad k, bif Nat.blt (sh σ k).1 20 then .inr ((sh σ k).1, (List.range (nF (sh σ k).1)).map (fval ad σ k (sh σ k).1)) else .inl (cA (sh σ k).1, arrE ad σ k (sh σ k).1 (sh σ k).2))
def wW (ad : Nat → Nat) (cA : Nat → ClassId) (σ : St) : va_W := (List.range (len σ)).map (eW ad cA σ)
def tys (cA : Nat → ClassId) : List (ClassId × FieldType) := [(cA 20, .int), (cA 21, .long), (cA 22, .boolean), (cA 23, .byte), (cA 24, .object "FindingsWeb$Node"), (cA 25, .object "FindingsWeb$Sheet")]
def TBL : List Jvm.Cond := (SEL2 ++ lw_tbl).filter goodWord
theorem TBL_of {p : Nat} {w : Jvm.Cond} (h : wAt p w = true) : w ∈ TBL := by
  unfold wAt at h
  simp only [Bool.and_eq_true, decide_eq_true_eq] at h
  exact List.mem_filter.mpr ⟨List.mem_append_right _ (List.mem_of_getElem? h.1), h.2⟩
theorem TBL_ofS {w : Jvm.Cond} (h : wS w = true) : w ∈ TBL := by
  unfold wS at h
  simp only [Bool.and_eq_true, Bool.or_eq_true, decide_eq_true_eq] at h
  exact List.mem_filter.mpr ⟨h.1.elim (fun q => List.mem_append_right _ (List.mem_of_getElem? q)) (fun q => List.mem_append_left _ q), h.2⟩
theorem TBL_good {w : Jvm.Cond} (h : w ∈ TBL) : goodWord w = true := (List.mem_filter.mp h).2
def NW (ex : Nat → Nat → Value) (U : State) : Prop := (∀ q ∈ nestL, va_Nw (.methodLinkNest q.1 q.2.1 q.2.2 "FindingsWeb") U) ∧ va_AO "FindingsWeb$Node" U ∧ va_AO "FindingsWeb$Sheet" U ∧ ∀ (k : Nat) (w : String × Nat × String), txT[k]? = some w → ∃ q, ex 46 k = .ref q ∧ vk_R w.1 w.2.1 w.2.2 q U
/-- a text of the class -/
def JS (ex : Nat → Nat → Value) (A : Nat → Prop) (U : State) (H : Heap) (k : Nat) : Prop := ∃ q v, ex 46 k = .ref q ∧ ex 44 k = .ref v ∧ va_O "java/lang/String" q A U H ∧ va_OF "java/lang/String" "coder" "B" (.int 0) q A U H ∧ va_OF "java/lang/String" "value" "[B" (.ref v) q A U H ∧ va_T .byte v (txL k).length (fun j => .int (Int32.ofNat ((txL k).getD j 0))) A U H
def dgV (t j : Nat) : Nat := if t = 42 then 48 + j % 10 else 48 + j / 10
/-- the JDK's digits -/
def JD (ex : Nat → Nat → Value) (A : Nat → Prop) (U : State) (H : Heap) (t : Nat) (n : String) : Prop := ∃ d, (∀ a, ex t a = .ref d) ∧ va_Z "java/lang/Integer" n "[B" (.ref d) A U H ∧ va_T .byte d 100 (fun j => .int (Int32.ofNat (dgV t j))) A U H
def JX (ex : Nat → Nat → Value) (A : Nat → Prop) (U : State) (H : Heap) : Prop := (∀ k, JS ex A U H k) ∧ JD ex A U H 42 "DigitOnes" ∧ JD ex A U H 43 "DigitTens" ∧ va_Z "java/lang/String" "COMPACT_STRINGS" "Z" (.int 1) A U H ∧ va_Z "jdk/internal/util/Preconditions" "SIOOBE_FORMATTER" "Ljava/util/function/BiFunction;" (ex 45 0) A U H
def EXT (ex : Nat → Nat → Value) (X : Nat × (Nat → Int32)) (A : Nat → Prop) (U : State) (H : Heap) : Prop :=
  (∃ b, (∀ a, ex 40 a = .ref b) ∧ va_X b X.1 X.2 U H ∧ b < H.size ∧ ¬ A b) ∧
  (∃ t, (∀ a, ex 41 a = .ref t) ∧ va_Z "FindingsWeb$Tape" "NEEDS" "[I" (.ref t) A U H ∧ va_T .int t 8 (fun j => .int (([3, 3, 3, 3, 5, 2, 2, 4] : List Int32).getD j 0)) A U H) ∧
  (∀ t a, ((∃ b, ex t a = .ref b) ∨ ex t a = .null)) ∧ JX ex A U H
def Wt : Type := Heap → List Loc → Nat → Nat → JFrame → Prop
def isU (v : PV) : Bool := match v with
  | Sum.inr (Sum.inr (none, t)) => t.beq 99
  | _ => false
def lvl (f : PV → Value) : List PV → Nat → List (Nat × Value)
  | [], _ => []
  | v :: r, i => bif isU v then lvl f r (i + 1) else (i, f v) :: lvl f r (i + 1)
theorem lvl_mem {f : PV → Value} : ∀ {ls : List PV} {i : Nat} {q : Nat × Value}, q ∈ lvl f ls i ↔ ∃ j v, ls[j]? = some v ∧ isU v = false ∧ q = (i + j, f v)
  | [], i, q => by simp [lvl]
  | v :: r, i, q => by
    have ih := fun q => @lvl_mem f r (i + 1) q
    unfold lvl
    constructor
    · intro h
      cases e : isU v with
      | true =>
        rw [e] at h
        obtain ⟨j, w, h1, h2, rfl⟩ := (ih q).mp h
        exact ⟨j + 1, w, h1, h2, by rw [show i + 1 + j = i + (j + 1) by omega]⟩
      | false =>
        rw [e] at h
        rcases List.mem_cons.mp h with rfl | h
        · exact ⟨0, v, rfl, e, rfl⟩
        · obtain ⟨j, w, h1, h2, rfl⟩ := (ih q).mp h
          exact ⟨j + 1, w, h1, h2, by rw [show i + 1 + j = i + (j + 1) by omega]⟩
    · rintro ⟨j, w, h1, h2, rfl⟩
      cases j with
      | zero =>
        cases h1
        rw [h2]
        exact List.mem_cons_self
      | succ j =>
        have h3 := (ih (i + (j + 1), f w)).mpr ⟨j, w, h1, h2, by rw [show i + 1 + j = i + (j + 1) by omega]⟩
        cases e : isU v with
        | true => exact h3
        | false => exact List.mem_cons_of_mem _ h3
theorem lvl_at {f : PV → Value} {ls : List PV} {lsJ : Array Slot} {nL k : Nat} {v : PV} (h : lv_has lsJ nL (lvl f ls 0)) (hk : ls[k]? = some v) (hu : isU v = false) : lsJ[k]? = some (.val (f v)) := by
  have h1 := h.2.2 (0 + k, f v) (lvl_mem.mpr ⟨k, v, hk, hu, rfl⟩)
  rw [Nat.zero_add] at h1
  exact h1
theorem kill_get {ls : List PV} {k j : Nat} {w : PV} (h : (kill ls k)[j]? = some w) (hu : isU w = false) : ls[j]? = some w ∧ (j + 1 = k → is2 w = false) := by
  unfold kill at h
  split at h
  · rename_i x hx
    by_cases e : j = k - 1
    · subst e
      rw [List.getElem?_set_self ((List.getElem?_eq_some_iff.mp hx).1)] at h
      cases h
      cases hu
    · rw [List.getElem?_set_ne (fun q => e q.symm)] at h
      exact ⟨h, fun q => absurd (by omega) e⟩
  · rename_i hx
    refine ⟨h, fun q => ?_⟩
    cases e : is2 w with
    | false => rfl
    | true =>
      exfalso
      have : j = k - 1 := by omega
      subst this
      unfold is2 at e
      split at e
      · exact hx _ h
      · cases e
theorem kill_len {ls : List PV} {k : Nat} : (kill ls k).length = ls.length := by
  unfold kill
  split <;> simp
theorem set1_len {ls : List PV} {k : Nat} {v : PV} : (set1 ls k v).length = ls.length := by
  unfold set1; rw [List.length_set, kill_len]
theorem set2_len {ls : List PV} {k : Nat} {v : PV} : (set2 ls k v).length = ls.length := by
  unfold set2; rw [List.length_set, List.length_set, kill_len]
theorem lvl_set1 {f : PV → Value} (hf : ∀ v, (f v).category = 2 → is2 v = true) {ls : List PV} {k nL : Nat} {v : PV} {l2 : Array Slot} {x : Value} (hx : f v = x)
    (h : lv_has l2 nL ((k, x) :: (lvl f ls 0).filter (fun q => !(q.1 == k) && !(q.1 + 1 == k && q.2.category == 2)))) : lv_has l2 nL (lvl f (set1 ls k v) 0) := by
  subst hx
  refine ⟨h.1, h.2.1, fun q hq => h.2.2 q ?_⟩
  obtain ⟨j, w, h1, h2, rfl⟩ := lvl_mem.mp hq
  rw [Nat.zero_add]
  unfold set1 at h1
  by_cases e : j = k
  · subst e
    rw [List.getElem?_set] at h1
    simp only [if_true] at h1
    split at h1
    · cases h1; exact List.mem_cons_self
    · cases h1
  · rw [List.getElem?_set_ne (fun q => e q.symm)] at h1
    obtain ⟨h3, h4⟩ := kill_get h1 h2
    refine List.mem_cons_of_mem _ (List.mem_filter.mpr ⟨lvl_mem.mpr ⟨j, w, h3, h2, by rw [Nat.zero_add]⟩, ?_⟩)
    simp only [Bool.and_eq_true, Bool.not_eq_true', beq_eq_false_iff_ne, ne_eq, Bool.and_eq_false_iff]
    refine ⟨e, ?_⟩
    by_cases e2 : j + 1 = k
    · refine Or.inr fun q => ?_
      have := h4 e2
      rw [hf w q] at this
      cases this
    · exact Or.inl e2
theorem lvl_set2 {f : PV → Value} (hf : ∀ v, (f v).category = 2 → is2 v = true) {ls : List PV} {k nL : Nat} {v : PV} {l2 : Array Slot} {x : Value} (hx : f v = x)
    (h : lv_has l2 nL ((k, x) :: (lvl f ls 0).filter (fun q => !(q.1 == k) && (!(q.1 == k + 1) && !(q.1 + 1 == k && q.2.category == 2))))) : lv_has l2 nL (lvl f (set2 ls k v) 0) := by
  subst hx
  refine ⟨h.1, h.2.1, fun q hq => h.2.2 q ?_⟩
  obtain ⟨j, w, h1, h2, rfl⟩ := lvl_mem.mp hq
  rw [Nat.zero_add]
  unfold set2 at h1
  by_cases e0 : j = k + 1
  · subst e0
    rw [List.getElem?_set] at h1
    simp only [if_true] at h1
    split at h1
    · cases h1; cases h2
    · cases h1
  rw [List.getElem?_set_ne (fun q => e0 q.symm)] at h1
  by_cases e : j = k
  · subst e
    rw [List.getElem?_set] at h1
    simp only [if_true] at h1
    split at h1
    · cases h1; exact List.mem_cons_self
    · cases h1
  · rw [List.getElem?_set_ne (fun q => e q.symm)] at h1
    obtain ⟨h3, h4⟩ := kill_get h1 h2
    refine List.mem_cons_of_mem _ (List.mem_filter.mpr ⟨lvl_mem.mpr ⟨j, w, h3, h2, by rw [Nat.zero_add]⟩, ?_⟩)
    simp only [Bool.and_eq_true, Bool.not_eq_true', beq_eq_false_iff_ne, ne_eq, Bool.and_eq_false_iff]
    refine ⟨e, e0, ?_⟩
    by_cases e2 : j + 1 = k
    · refine Or.inr fun q => ?_
      have := h4 e2
      rw [hf w q] at this
      cases this
    · exact Or.inl e2
theorem trv_cat {ad : Nat → Nat} {ex : Nat → Nat → Value} (hex : ∀ t a, (∃ b, ex t a = .ref b) ∨ ex t a = .null) (v : PV) : (trv ad ex v).category = cat v := by
  unfold trv
  split
  · rfl
  · rfl
  · rfl
  · rename_i a t
    cases Nat.blt t 40 with
    | true => rfl
    | false =>
      rcases hex t a with ⟨b, h⟩ | h
      · show (ex t a).category = _
        rw [h]; rfl
      · show (ex t a).category = _
        rw [h]; rfl
theorem trv_cat2 {ad : Nat → Nat} {ex : Nat → Nat → Value} (hex : ∀ t a, (∃ b, ex t a = .ref b) ∨ ex t a = .null) (v : PV) (h : (trv ad ex v).category = 2) : is2 v = true := by
  rw [trv_cat hex] at h
  cases e : is2 v with
  | true => rfl
  | false => unfold cat at h; rw [e] at h; cases h
theorem trv_cat1 {ad : Nat → Nat} {ex : Nat → Nat → Value} (hex : ∀ t a, (∃ b, ex t a = .ref b) ∨ ex t a = .null) {v : PV} (h : is2 v = false) : (trv ad ex v).category = 1 := by
  rw [trv_cat hex]; unfold cat; rw [h]; rfl
theorem trv_c2 {ad : Nat → Nat} {ex : Nat → Nat → Value} (hex : ∀ t a, (∃ b, ex t a = .ref b) ∨ ex t a = .null) {v : PV} (h : is2 v = true) : (trv ad ex v).category = 2 := by
  rw [trv_cat hex]; unfold cat; rw [h]; rfl
theorem trv_sum {ad : Nat → Nat} {ex : Nat → Nat → Value} (hex : ∀ t a, (∃ b, ex t a = .ref b) ∨ ex t a = .null) : ∀ (l : List PV), ((l.map (trv ad ex)).map fun v => v.category).sum = catS l
  | [] => rfl
  | v :: r => by
    show (trv ad ex v).category + ((r.map (trv ad ex)).map fun v => v.category).sum = cat v + catS r
    rw [trv_sum hex r, trv_cat hex]
theorem trv_ref {ad : Nat → Nat} {ex : Nat → Nat → Value} (hex : ∀ t a, (∃ b, ex t a = .ref b) ∨ ex t a = .null) (a t : Nat) : (∃ b, trv ad ex (vR a t) = .ref b) ∨ trv ad ex (vR a t) = .null := by
  show (∃ b, (bif Nat.blt t 40 then Value.ref (ad a) else ex t a) = .ref b) ∨ (bif Nat.blt t 40 then Value.ref (ad a) else ex t a) = .null
  cases Nat.blt t 40 with
  | true => exact Or.inl ⟨_, rfl⟩
  | false => exact hex t a
theorem trv_w {ad : Nat → Nat} {ex : Nat → Nat → Value} {a t : Nat} (h : t < 40) : trv ad ex (vR a t) = .ref (ad a) := by
  show (bif Nat.blt t 40 then Value.ref (ad a) else ex t a) = _
  rw [show Nat.blt t 40 = true from Nat.ble_eq.mpr h]; rfl
def RS (G : va_G) (cA : Nat → ClassId) (ex : Nat → Nat → Value) (X : Nat × (Nat → Int32)) (A : Nat → Prop) (H0 : Heap) (n0 z0 nL : Nat) (ad0 ad : Nat → Nat) (σ : St) (ls st : List PV) (lsJ : Array Slot) (H : Heap) (locs : List Loc) : Prop :=
  va_P G vwCl (wW ad cA σ) H ∧ va_D A (wW ad cA σ) ∧ va_S A H0 H locs ∧ lv_has lsJ nL (lvl (trv ad ex) ls 0) ∧ ls.length = nL ∧ WT9 σ ∧ TS σ ls ∧ TS σ st ∧ n0 ≤ len σ ∧ z0 ≤ slo σ ∧ sX σ = X ∧ ∀ k, k < n0 → ad k = ad0 k
def Good (w : Wt) (m : MethodId) (G : va_G) (cA : Nat → ClassId) (ex : Nat → Nat → Value) (X : Nat × (Nat → Int32)) (A : Nat → Prop) (H0 : Heap) (n0 z0 nL : Nat) (ad0 : Nat → Nat) (pc : Nat) (ls st : List PV) (σ : St) : Prop :=
  ∀ ad lsJ H locs, RS G cA ex X A H0 n0 z0 nL ad0 ad σ ls st lsJ H locs → w H locs (len σ - n0) (slo σ - z0) (F0 m pc lsJ (st.map (trv ad ex)))
def Cx (p : Program) (s : State) (m : MethodId) (args : Array Value) (meth : Method) (c : Code) (M : Nat) (G : va_G) (cA : Nat → ClassId) (ex : Nat → Nat → Value) (X : Nat × (Nat → Int32)) (A : Nat → Prop) (nL : Nat) : Prop :=
  p.tables.exec = Jvm.exec ∧ c.code = (mT M).2.1 ∧ c.maxLocals = nL ∧ s.vm.findClass (mT M).1.cls = some m.cls ∧ meth.name = (mT M).1.name ∧ (∀ w ∈ TBL, w.before args s = true) ∧ va_K G vwCl (tys cA) s ∧ EXT ex X A s s.heap ∧ NW ex s ∧ ∀ q, s.heap.size ≤ q → A q
theorem wW_len {ad : Nat → Nat} {cA : Nat → ClassId} {σ : St} : (wW ad cA σ).length = len σ := by unfold wW; simp
theorem wW_at {ad : Nat → Nat} {cA : Nat → ClassId} {σ : St} {k : Nat} (h : k < len σ) : (wW ad cA σ)[k]? = some (eW ad cA σ k) := by
  unfold wW
  rw [List.getElem?_map, List.getElem?_range h]; rfl
theorem wW_set {ad : Nat → Nat} {cA : Nat → ClassId} {σ σ' : St} {k : Nat} {e : va_E} (hs : sS σ' = sS σ) (ho : ∀ j, j ≠ k → eW ad cA σ' j = eW ad cA σ j) (he : eW ad cA σ' k = (ad k, e)) : (wW ad cA σ).set k (ad k, e) = wW ad cA σ' := by
  apply List.ext_getElem?
  intro j
  have hl : len σ' = len σ := by unfold len; rw [hs]
  by_cases h : j < len σ
  · rw [wW_at (σ := σ') (by omega)]
    by_cases e1 : j = k
    · subst e1
      rw [List.getElem?_set_self (by rw [wW_len]; exact h), he]
    · rw [List.getElem?_set_ne (fun q => e1 q.symm), wW_at h, ho j e1]
  · rw [List.getElem?_eq_none (by rw [List.length_set, wW_len]; omega), List.getElem?_eq_none (by rw [wW_len]; omega)]
theorem eW_arr {ad : Nat → Nat} {cA : Nat → ClassId} {σ : St} {k t : Nat} (h : (sh σ k).1 = t) (h20 : 20 ≤ t) : eW ad cA σ k = (ad k, .inl (cA t, arrE ad σ k t (sh σ k).2)) := by
  unfold eW
  rw [h, show Nat.blt t 20 = false from by rw [← Bool.not_eq_true]; intro q; have := Nat.le_of_ble_eq_true q; omega]; rfl
theorem eW_obj {ad : Nat → Nat} {cA : Nat → ClassId} {σ : St} {k t : Nat} (h : (sh σ k).1 = t) (h20 : t < 20) : eW ad cA σ k = (ad k, .inr (t, (List.range (nF t)).map (fval ad σ k t))) := by
  unfold eW
  rw [h, show Nat.blt t 20 = true from Nat.ble_eq.mpr h20]; rfl
theorem eW_eq {ad ad' : Nat → Nat} {cA : Nat → ClassId} {σ σ' : St} {j : Nat} (h : sh σ' j = sh σ j) (ha : ad' j = ad j) (hI : rI σ' j = rI σ j) (hL : rL σ' j = rL σ j) (hR : (sh σ j).1 < 20 ∨ 24 ≤ (sh σ j).1 → ∀ i, ((sh σ j).1 < 20 → 100 ≤ ft (sh σ j).1 i) → (rR σ' j i).map ad' = (rR σ j i).map ad) : eW ad' cA σ' j = eW ad cA σ j := by
  unfold eW
  rw [h, ha]
  cases e : Nat.blt (sh σ j).1 20 with
  | true =>
    have hlt := Nat.le_of_ble_eq_true e
    simp only [cond_true]
    congr 2
    congr 1
    apply List.map_congr_left
    intro f _
    unfold fval
    cases e1 : (ft (sh σ j).1 f).beq 1 with
    | true => simp only [cond_true]; rw [hL]
    | false =>
      cases e2 : Nat.ble 100 (ft (sh σ j).1 f) with
      | true => simp only [cond_true, cond_false]; rw [hR (Or.inl hlt) f (fun _ => Nat.le_of_ble_eq_true e2)]
      | false => simp only [cond_false]; rw [hI]
  | false =>
    simp only [cond_false]
    unfold arrE
    rw [hI, hL]
    cases e1 : (sh σ j).1.beq 21 with
    | true => rfl
    | false =>
      cases e2 : Nat.ble 24 (sh σ j).1 with
      | true =>
        have h24 := Nat.le_of_ble_eq_true e2
        simp only [cond_true, cond_false]
        congr 8
        funext i
        exact hR (Or.inr h24) i (fun q => by omega)
      | false => rfl
theorem eW_n {ad : Nat → Nat} {cA : Nat → ClassId} {σ σ' : St} {j : Nat} (h : sS σ' = sS σ) (hI : rI σ' j = rI σ j) (hL : rL σ' j = rL σ j) (hR : rR σ' j = rR σ j) : eW ad cA σ' j = eW ad cA σ j :=
  eW_eq (by unfold sh; rw [h]) rfl hI hL (fun _ i _ => by rw [hR])
/-- a field of an object is written -/
theorem fs_set {ad : Nat → Nat} {σ σ' : St} {k c f : Nat} {v : Value} (hf : f < nF c) (h1 : fval ad σ' k c f = v) (h2 : ∀ j, j ≠ f → fval ad σ' k c j = fval ad σ k c j) : (List.range (nF c)).map (fval ad σ' k c) = ((List.range (nF c)).map (fval ad σ k c)).set f v := by
  apply List.ext_getElem?
  intro j
  by_cases h : j < nF c
  · rw [List.getElem?_map, List.getElem?_range h]
    by_cases e : j = f
    · subst e
      rw [List.getElem?_set_self (by simp; exact h), ← h1]; rfl
    · rw [List.getElem?_set_ne (fun q => e q.symm), List.getElem?_map, List.getElem?_range h]
      show some _ = some _
      rw [h2 j e]
  · rw [List.getElem?_eq_none (by simp; omega), List.getElem?_eq_none (by simp; omega)]
theorem fs_at {ad : Nat → Nat} {σ : St} {k c f : Nat} (hf : f < nF c) : ((List.range (nF c)).map (fval ad σ k c))[f]? = some (fval ad σ k c f) := by
  rw [List.getElem?_map, List.getElem?_range hf]; rfl
