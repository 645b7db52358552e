/-! ===== the reference's whole state ===== -/
abbrev MSt : Type := Net × Option Net × List Nat × (Nat → Option (Nat × Nat × (Nat → Int64)))
def Fr9 (σ σ' : St) : Prop := (∀ a, a < 97 → rI σ' a = rI σ a) ∧ (∀ a, a < 97 → rL σ' a = rL σ a) ∧ (∀ a b, rR σ' a b = rR σ a b) ∧ sS σ' = sS σ ∧ sX σ' = sX σ
theorem Fr9_rf {σ : St} : Fr9 σ σ := ⟨fun _ _ => rfl, fun _ _ => rfl, fun _ _ => rfl, rfl, rfl⟩
theorem Fr9_tr {a b c : St} (h : Fr9 a b) (h2 : Fr9 b c) : Fr9 a c := ⟨fun x hx => (h2.1 x hx).trans (h.1 x hx), fun x hx => (h2.2.1 x hx).trans (h.2.1 x hx), fun x y => (h2.2.2.1 x y).trans (h.2.2.1 x y), h2.2.2.2.1.trans h.2.2.2.1, h2.2.2.2.2.trans h.2.2.2.2⟩
theorem Fr9_wI {σ : St} {k i : Nat} {x : Int32} (hk : 97 ≤ k) : Fr9 σ (wI σ k i x) := ⟨fun a ha => rI_wI_n (by omega), fun _ _ => rfl, fun _ _ => rfl, rfl, rfl⟩
theorem Fr9_wL {σ : St} {k i : Nat} {x : Int64} (hk : 97 ≤ k) : Fr9 σ (wL σ k i x) := ⟨fun _ _ => rfl, fun a ha => rL_wL_n (by omega), fun _ _ => rfl, rfl, rfl⟩
/-- only the web's array changes -/
def Fw9 (σ σ' : St) : Prop := (∀ a, a ≠ 98 → rI σ' a = rI σ a) ∧ (∀ a, a ≠ 98 → rL σ' a = rL σ a) ∧ (∀ a b, rR σ' a b = rR σ a b) ∧ sS σ' = sS σ ∧ sX σ' = sX σ
theorem Fw9_rf {σ : St} : Fw9 σ σ := ⟨fun _ _ => rfl, fun _ _ => rfl, fun _ _ => rfl, rfl, rfl⟩
theorem Fw9_tr {a b c : St} (h : Fw9 a b) (h2 : Fw9 b c) : Fw9 a c := ⟨fun x hx => (h2.1 x hx).trans (h.1 x hx), fun x hx => (h2.2.1 x hx).trans (h.2.1 x hx), fun x y => (h2.2.2.1 x y).trans (h.2.2.1 x y), h2.2.2.2.1.trans h.2.2.2.1, h2.2.2.2.2.trans h.2.2.2.2⟩
theorem Fw9_wI {σ : St} {k i : Nat} {x : Int32} (hk : k = 98) : Fw9 σ (wI σ k i x) := ⟨fun a ha => rI_wI_n (by omega), fun _ _ => rfl, fun _ _ => rfl, rfl, rfl⟩
theorem Fw9_Fr9 {σ σ' : St} (h : Fw9 σ σ') : Fr9 σ σ' := ⟨fun a ha => h.1 a (by omega), fun a ha => h.2.1 a (by omega), h.2.2.1, h.2.2.2.1, h.2.2.2.2⟩
def shOf (σ : St) (f : Nat → Option (Nat × Nat × (Nat → Int64))) : Prop := ∀ j, j < 4 → match f j with
  | none => rI σ 115 j = 0
  | some (t, n, g) => rI σ 115 j = 1 ∧ t ≤ 2 ∧ rI σ 116 j = nI t ∧ rI σ 117 j = nI n ∧ n ≤ 40 ∧ ∀ i, i < n → rL σ 118 (40 * j + i) = g i
def tpOf (σ : St) (l : List Nat) : Prop := rI σ 97 6 = nI l.length ∧ l.length ≤ 60 ∧ ∀ i (h : i < l.length), rI σ 101 i = nI l[i] ∧ l[i] < 256
def MS (σ : St) (S : MSt) : Prop := MI σ S.1 ∧ (rI σ 97 4 = if S.2.1.isSome then 1 else 0) ∧ (∀ K, S.2.1 = some K → MN σ 99 K ∧ NV K) ∧ tpOf σ S.2.2.1 ∧ (∀ i, i < 7 → rI σ 106 i = -1) ∧ rI σ 97 20 = -1 ∧ shOf σ S.2.2.2
/-- only the web's array changes -/
theorem MS_web {σ σ' : St} {S : MSt} {N : Net} (h : MS σ S) (hI : ∀ a, a ≠ 98 → rI σ' a = rI σ a) (hL : ∀ a, rL σ' a = rL σ a) (hR : ∀ a b, rR σ' a b = rR σ a b) (hs : sS σ' = sS σ) (h1 : MN σ' 98 N) (h2 : NV N) : MS σ' (N, S.2) := by
  obtain ⟨⟨a1, a2, a3⟩, b, c, d, e, f, g⟩ := h
  refine ⟨⟨⟨fun p hp => by rw [hR]; exact a1.1 p hp, fun p hp => by unfold sh; rw [hs]; exact a1.2 p hp⟩, h1, h2⟩, by rw [hI 97 (by decide)]; exact b, fun K hK => ?_, ?_, fun i hi => by rw [hI 106 (by decide)]; exact e i hi, by rw [hI 97 (by decide)]; exact f, ?_⟩
  · obtain ⟨q1, q2⟩ := c K hK
    refine ⟨?_, q2⟩
    unfold MN
    rw [hI 99 (by decide)]; exact q1
  · unfold tpOf
    rw [hI 97 (by decide), hI 101 (by decide)]; exact d
  · unfold shOf
    rw [hI 115 (by decide), hI 116 (by decide), hI 117 (by decide), hL 118]; exact g
def bad : Int32 := -2
/-- an argument that names a node or a value -/
def pN (m : Nat) (n : Int32) : Option Nat := if 0 ≤ n ∧ n < nI m then some n.toNatClampNeg else none
theorem pN_some {m : Nat} (hm : m < 2 ^ 31) {n : Int32} {k : Nat} : pN m n = some k ↔ k < m ∧ n = nI k := by
  unfold pN
  constructor
  · intro h
    split at h
    · rename_i hc
      obtain ⟨j, hj, rfl⟩ := (lt_nI hm).mp hc
      cases h
      rw [nI_clamp (by omega)]
      exact ⟨hj, rfl⟩
    · cases h
  · rintro ⟨hk, rfl⟩
    rw [if_pos ((lt_nI hm).mpr ⟨k, hk, rfl⟩), nI_clamp (by omega)]
theorem pN_none {m : Nat} {n : Int32} : pN m n = none ↔ ¬ (0 ≤ n ∧ n < nI m) := by
  unfold pN
  split
  · rename_i h; simp [h]
  · rename_i h; simp [h]
def setFD (N : Net) (k : Nat) (w : Nat) (o : Option Nat) : Net := (N.1, fun j => if j = k then (nS N k, nK N k, nP N k, nQ N k, if w = 4 then o else nF1 N k, if w = 4 then nD N k else o) else N.2.1 j, N.2.2)
/-- told (w 4), done (w 5) -/
def becS (N : Net) (w : Nat) (n v : Int32) : Int32 × Net := match pN (nM N) n with
  | none => (-2, N)
  | some k => if v = -1 then (oI (if w = 4 then nF1 N k else nD N k), setFD N k w none) else match pN (nS N k) v with
    | none => (-2, N)
    | some u => (oI (if w = 4 then nF1 N k else nD N k), setFD N k w (some u))
theorem setFD_NV {N : Net} (h : NV N) {k w : Nat} {o : Option Nat} (ho : ∀ v, o = some v → v < nS N k) : NV (setFD N k w o) := by
  refine ⟨h.1, fun j hj => ?_⟩
  obtain ⟨a1, a2, a3, a4, a5, a6, a7, a8, a9⟩ := h.2 j hj
  by_cases e : j = k
  · subst e
    have e1 : ∀ x : Net, (setFD N j w o).2.1 j = (nS N j, nK N j, nP N j, nQ N j, if w = 4 then o else nF1 N j, if w = 4 then nD N j else o) := fun _ => if_pos rfl
    unfold nS nK nP nQ nF1 nD
    rw [e1 N]
    refine ⟨a1, a2, a3, a4, a5, fun v hv => ?_, fun v hv => ?_, a8, a9⟩
    · by_cases hw : w = 4
      · simp only [hw, if_true] at hv; exact ho v hv
      · simp only [hw, if_false] at hv; exact a6 v hv
    · by_cases hw : w = 4
      · simp only [hw, if_true] at hv; exact a7 v hv
      · simp only [hw, if_false] at hv; exact ho v hv
  · have e1 : (setFD N k w o).2.1 j = N.2.1 j := if_neg e
    unfold nS nK nP nQ nF1 nD
    rw [e1]
    exact ⟨a1, a2, a3, a4, a5, a6, a7, a8, a9⟩
theorem setFD_MN {σ : St} {a : Nat} {N : Net} (h : MN σ a N) (h7 : nM N ≤ 7) {k w : Nat} (hk : k < nM N) (hw : w = 4 ∨ w = 5) {o : Option Nat} : MN (wI σ a (36 * k + w) (oI o)) a (setFD N k w o) := by
  have hi : ∀ i, i ≠ 36 * k + w → rI (wI σ a (36 * k + w) (oI o)) a i = rI σ a i := fun i hi => by rw [rI_wI, if_neg (fun q => hi q.2)]
  have hs : rI (wI σ a (36 * k + w) (oI o)) a (36 * k + w) = oI o := by rw [rI_wI, if_pos ⟨rfl, rfl⟩]
  refine ⟨by rw [hi _ (by omega)]; exact h.1, fun j hj => ?_⟩
  obtain ⟨a1, a2, a3, a4, a5, a6, a7, a8⟩ := h.2 j hj
  have hne : j ≠ k → ∀ x, x < 36 → 36 * j + x ≠ 36 * k + w := fun q x hx => by omega
  by_cases e : j = k
  · subst e
    have e1 : (setFD N j w o).2.1 j = (nS N j, nK N j, nP N j, nQ N j, if w = 4 then o else nF1 N j, if w = 4 then nD N j else o) := if_pos rfl
    unfold nS nK nP nQ nF1 nD
    rw [e1]
    refine ⟨by rw [hi _ (by omega)]; exact a1, by rw [hi _ (by omega)]; exact a2, by rw [hi _ (by omega)]; exact a3, by rw [hi _ (by omega)]; exact a4, ?_, ?_, fun v hv => by rw [hi _ (by omega)]; exact a7 v hv, fun r hr v hv => by rw [hi _ (by omega)]; exact a8 r hr v hv⟩
    · rcases hw with rfl | rfl
      · exact hs
      · rw [hi _ (by omega)]; exact a5
    · rcases hw with rfl | rfl
      · rw [hi _ (by omega)]; exact a6
      · exact hs
  · have e1 : (setFD N k w o).2.1 j = N.2.1 j := if_neg e
    have q := hne e
    unfold nS nK nP nQ nF1 nD
    rw [e1]
    exact ⟨by rw [hi _ (q _ (by omega))]; exact a1, by rw [hi _ (q _ (by omega))]; exact a2, by rw [hi _ (q _ (by omega))]; exact a3, by rw [hi _ (q _ (by omega))]; exact a4, by rw [hi _ (q _ (by omega))]; exact a5, by rw [hi _ (q _ (by omega))]; exact a6, fun v hv => by rw [hi _ (q _ (by omega))]; exact a7 v hv, fun r hr v hv => by rw [hi _ (q _ (by omega))]; exact a8 r hr v hv⟩
