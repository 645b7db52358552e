/-! ===== the web as numbers ===== -/
def oI (o : Option Nat) : Int32 := match o with
  | none => -1
  | some n => nI n
/-- how many nodes; of each: size, kind, p, q, finding, done; hints; tables -/
abbrev Net : Type := Nat × (Nat → Nat × Nat × Option Nat × Option Nat × Option Nat × Option Nat) × (Nat → Nat → Nat) × (Nat → Nat → Nat → Nat)
def nM (N : Net) : Nat := N.1
def nS (N : Net) (k : Nat) : Nat := (N.2.1 k).1
def nK (N : Net) (k : Nat) : Nat := (N.2.1 k).2.1
def nP (N : Net) (k : Nat) : Option Nat := (N.2.1 k).2.2.1
def nQ (N : Net) (k : Nat) : Option Nat := (N.2.1 k).2.2.2.1
def nF1 (N : Net) (k : Nat) : Option Nat := (N.2.1 k).2.2.2.2.1
def nD (N : Net) (k : Nat) : Option Nat := (N.2.1 k).2.2.2.2.2
def nH (N : Net) (k v : Nat) : Nat := N.2.2.1 k v
def nT (N : Net) (k r v : Nat) : Nat := N.2.2.2 k r v
/-- the web's own rules -/
def NV (N : Net) : Prop := nM N ≤ 7 ∧ ∀ k, k < nM N → (nS N k = 2 ∨ nS N k = 3) ∧ nK N k ≤ 3 ∧ (∀ j, nP N k = some j → j < k) ∧ (∀ j, nQ N k = some j → j < k ∧ ∃ i, nP N k = some i ∧ i ≠ j) ∧ (nK N k ≠ 0 → nP N k ≠ none) ∧
  (∀ v, nF1 N k = some v → v < nS N k) ∧ (∀ v, nD N k = some v → v < nS N k) ∧ (∀ v, v < 3 → nH N k v ≤ 9) ∧ ∀ r, r < 9 → nT N k r 0 + nT N k r 1 + nT N k r 2 = 12 ∧ (nS N k = 2 → nT N k r 2 = 0)
/-- an array of the reference holds a web -/
def MN (σ : St) (a : Nat) (N : Net) : Prop := rI σ a 252 = nI (nM N) ∧ ∀ k, k < nM N → rI σ a (36 * k + 0) = nI (nS N k) ∧ rI σ a (36 * k + 1) = nI (nK N k) ∧ rI σ a (36 * k + 2) = oI (nP N k) ∧ rI σ a (36 * k + 3) = oI (nQ N k) ∧ rI σ a (36 * k + 4) = oI (nF1 N k) ∧ rI σ a (36 * k + 5) = oI (nD N k) ∧
  (∀ v, v < 3 → rI σ a (36 * k + (6 + v)) = nI (nH N k v)) ∧ ∀ r, r < 9 → ∀ v, v < 3 → rI σ a (36 * k + (9 + (3 * r + v))) = nI (nT N k r v)
/-- the reference stands, with this web -/
def MI (σ : St) (N : Net) : Prop := MF σ ∧ MN σ 98 N ∧ NV N
theorem oI_none (o : Option Nat) (h : ∀ j, o = some j → j < 2 ^ 31) : oI o = -1 ↔ o = none := by
  cases o with
  | none => simp [oI]
  | some j =>
    simp only [oI, reduceCtorEq, iff_false]
    intro q
    have h1 := nI_toInt (h j rfl)
    rw [q] at h1
    have : ((-1 : Int32)).toInt = -1 := by decide
    omega
theorem oI_nn : oI none = -1 := rfl
theorem oI_ss {j : Nat} : oI (some j) = nI j := rfl
theorem nI_m1 {j : Nat} (h : j < 2 ^ 31) : (nI j = -1) = False := by
  refine eq_false (fun q => ?_)
  have h1 := nI_toInt h
  rw [q] at h1
  have : ((-1 : Int32)).toInt = -1 := by decide
  omega
theorem one_nI : (1 : Int32) = nI 1 := rfl
theorem lt_nI {n : Int32} {m : Nat} (hm : m < 2 ^ 31) : (0 ≤ n ∧ n < nI m) ↔ ∃ k, k < m ∧ n = nI k := by
  constructor
  · rintro ⟨h1, h2⟩
    obtain ⟨j, hj, rfl⟩ := nI_of (x := n) (by rw [Int32.not_lt]; exact h1)
    exact ⟨j, (nI_ltI hj hm).mp h2, rfl⟩
  · rintro ⟨k, hk, rfl⟩
    exact ⟨nI_pos' (by omega), (nI_ltI (by omega) hm).mpr hk⟩
theorem b2_ok {p : Prop} [Decidable p] : retOK (some .boolean) (b2 p) = true := by unfold b2; split <;> rfl
theorem b2_0 {p : Prop} [Decidable p] : b2 p = 0 ↔ ¬ p := by unfold b2; split <;> simp [*]
theorem MI_f {σ : St} {N : Net} (h : MI σ N) : MF σ := h.1
theorem MI_m {σ : St} {N : Net} (h : MI σ N) : rI σ 98 252 = nI (nM N) := h.2.1.1
theorem MI_7 {σ : St} {N : Net} (h : MI σ N) : nM N ≤ 7 := h.2.2.1
theorem i_many {d : Nat} {Q : Option PV → St → Prop} {σ : St} {N : Net} (h : MI σ N) : Ca (d + 1) 126 [vR 97 9] σ Q ↔ Q (some (vI (nI (nM N)))) σ := by rw [m_many h.1, MI_m h]
theorem i_isNode {d : Nat} {Q : Option PV → St → Prop} {σ : St} {N : Net} (h : MI σ N) {n : Int32} : Ca (d + 2) 128 [vR 97 9, vI n] σ Q ↔ Q (some (vI (b2 (0 ≤ n ∧ n < nI (nM N))))) σ := m_isNode h.1 (MI_m h) (MI_7 h)
section IS
variable {d : Nat} {Q : Option PV → St → Prop} {σ : St} {N : Net} {k : Nat}
theorem i_is0 (h : MI σ N) (hk : k < nM N) : Ca (d + 1) 127 [vR 97 9, vI (nI k), vI 0] σ Q ↔ Q (some (vI (nI (nS N k)))) σ := by
  have := MI_7 h
  rw [show (0 : Int32) = nI 0 from rfl, m_is h.1 (by omega), (h.2.1.2 k hk).1]
theorem i_is1 (h : MI σ N) (hk : k < nM N) : Ca (d + 1) 127 [vR 97 9, vI (nI k), vI 1] σ Q ↔ Q (some (vI (nI (nK N k)))) σ := by
  have := MI_7 h
  rw [show (1 : Int32) = nI 1 from rfl, m_is h.1 (by omega), (h.2.1.2 k hk).2.1]
theorem i_is2 (h : MI σ N) (hk : k < nM N) : Ca (d + 1) 127 [vR 97 9, vI (nI k), vI 2] σ Q ↔ Q (some (vI (oI (nP N k)))) σ := by
  have := MI_7 h
  rw [show (2 : Int32) = nI 2 from rfl, m_is h.1 (by omega), (h.2.1.2 k hk).2.2.1]
theorem i_is3 (h : MI σ N) (hk : k < nM N) : Ca (d + 1) 127 [vR 97 9, vI (nI k), vI 3] σ Q ↔ Q (some (vI (oI (nQ N k)))) σ := by
  have := MI_7 h
  rw [show (3 : Int32) = nI 3 from rfl, m_is h.1 (by omega), (h.2.1.2 k hk).2.2.2.1]
theorem i_is4 (h : MI σ N) (hk : k < nM N) : Ca (d + 1) 127 [vR 97 9, vI (nI k), vI 4] σ Q ↔ Q (some (vI (oI (nF1 N k)))) σ := by
  have := MI_7 h
  rw [show (4 : Int32) = nI 4 from rfl, m_is h.1 (by omega), (h.2.1.2 k hk).2.2.2.2.1]
theorem i_is5 (h : MI σ N) (hk : k < nM N) : Ca (d + 1) 127 [vR 97 9, vI (nI k), vI 5] σ Q ↔ Q (some (vI (oI (nD N k)))) σ := by
  have := MI_7 h
  rw [show (5 : Int32) = nI 5 from rfl, m_is h.1 (by omega), (h.2.1.2 k hk).2.2.2.2.2.1]
theorem i_isH (h : MI σ N) (hk : k < nM N) {v : Nat} (hv : v < 3) : Ca (d + 1) 127 [vR 97 9, vI (nI k), vI (nI (6 + v))] σ Q ↔ Q (some (vI (nI (nH N k v)))) σ := by
  have := MI_7 h
  rw [m_is h.1 (by omega), (h.2.1.2 k hk).2.2.2.2.2.2.1 v hv]
theorem i_is6 (h : MI σ N) (hk : k < nM N) : Ca (d + 1) 127 [vR 97 9, vI (nI k), vI 6] σ Q ↔ Q (some (vI (nI (nH N k 0)))) σ := i_isH h hk (v := 0) (by decide)
theorem i_is7 (h : MI σ N) (hk : k < nM N) : Ca (d + 1) 127 [vR 97 9, vI (nI k), vI 7] σ Q ↔ Q (some (vI (nI (nH N k 1)))) σ := i_isH h hk (v := 1) (by decide)
theorem i_is8 (h : MI σ N) (hk : k < nM N) : Ca (d + 1) 127 [vR 97 9, vI (nI k), vI 8] σ Q ↔ Q (some (vI (nI (nH N k 2)))) σ := i_isH h hk (v := 2) (by decide)
theorem NV_s (h : MI σ N) (hk : k < nM N) : nS N k = 2 ∨ nS N k = 3 := (h.2.2.2 k hk).1
theorem i_isValue (h : MI σ N) (hk : k < nM N) {v : Int32} : Ca (d + 2) 129 [vR 97 9, vI (nI k), vI v] σ Q ↔ Q (some (vI (b2 (0 ≤ v ∧ v < nI (nS N k))))) σ := by
  have hs := NV_s h hk
  rw [ca_at (K := kX9_isValue) (ls := [vR 97 9, vI (nI k), vI v]) rfl rfl rfl]
  simp only [z_X9_isValue_0, z_X9_isValue_1, z_X9_isValue_2, z_X9_isValue_3, z_X9_isValue_4, z_X9_isValue_5, z_X9_isValue_6, z_X9_isValue_9, z_X9_isValue_10, z_X9_isValue_11, z_X9_isValue_12, z_X9_isValue_15, true_and, i_is0 h hk, m_in, true_and, Option.toList_some, Option.toList_none, List.cons_append, List.nil_append, is2IT, is2RT, if_true, if_false]
  simp only [i64_0, i64_le, le_pred (show nS N k < 2 ^ 30 by omega), b2_ok, true_and]
theorem NV_p (h : MI σ N) (hk : k < nM N) {j : Nat} (hj : nP N k = some j) : j < k := (h.2.2.2 k hk).2.2.1 j hj
theorem NV_q (h : MI σ N) (hk : k < nM N) {j : Nat} (hj : nQ N k = some j) : j < k := ((h.2.2.2 k hk).2.2.2.1 j hj).1
def rowsN (N : Net) (k : Nat) : Nat := (match nP N k with | none => 1 | some j => nS N j) * (match nQ N k with | none => 1 | some j => nS N j)
theorem i_rowsOf (h : MI σ N) (hk : k < nM N) : Ca (d + 2) 130 [vR 97 9, vI (nI k)] σ Q ↔ Q (some (vI (nI (rowsN N k)))) σ := by
  have h7 := MI_7 h
  rw [ca_at (K := kX9_rowsOf) (ls := [vR 97 9, vI (nI k), vU, vU]) rfl rfl rfl]
  unfold rowsN
  cases hp : nP N k with
  | none =>
    cases hq : nQ N k with
    | none =>
      simp only [z_X9_rowsOf_0, z_X9_rowsOf_1, z_X9_rowsOf_2, z_X9_rowsOf_3, z_X9_rowsOf_6, z_X9_rowsOf_7, z_X9_rowsOf_8, z_X9_rowsOf_9, z_X9_rowsOf_10, z_X9_rowsOf_13, z_X9_rowsOf_14, z_X9_rowsOf_15, z_X9_rowsOf_16, z_X9_rowsOf_19, z_X9_rowsOf_20, z_X9_rowsOf_23, z_X9_rowsOf_24, z_X9_rowsOf_25, z_X9_rowsOf_26, z_X9_rowsOf_29, z_X9_rowsOf_30, z_X9_rowsOf_31, z_X9_rowsOf_34, z_X9_rowsOf_35, z_X9_rowsOf_38, z_X9_rowsOf_39, z_X9_rowsOf_40, z_X9_rowsOf_41, z_X9_rowsOf_44, z_X9_rowsOf_45, i_is2 h hk, i_is3 h hk, hp, hq, oI_nn, true_and, Option.toList_some, Option.toList_none, List.cons_append, List.nil_append, is2IT, is2RT, if_true, if_false]; rfl
    | some j =>
      have hj := NV_q h hk hq
      simp only [z_X9_rowsOf_0, z_X9_rowsOf_1, z_X9_rowsOf_2, z_X9_rowsOf_3, z_X9_rowsOf_6, z_X9_rowsOf_7, z_X9_rowsOf_8, z_X9_rowsOf_9, z_X9_rowsOf_10, z_X9_rowsOf_13, z_X9_rowsOf_14, z_X9_rowsOf_15, z_X9_rowsOf_16, z_X9_rowsOf_19, z_X9_rowsOf_20, z_X9_rowsOf_23, z_X9_rowsOf_24, z_X9_rowsOf_25, z_X9_rowsOf_26, z_X9_rowsOf_29, z_X9_rowsOf_30, z_X9_rowsOf_31, z_X9_rowsOf_34, z_X9_rowsOf_35, z_X9_rowsOf_38, z_X9_rowsOf_39, z_X9_rowsOf_40, z_X9_rowsOf_41, z_X9_rowsOf_44, z_X9_rowsOf_45, i_is2 h hk, i_is3 h hk, hp, hq, oI_nn, oI_ss, nI_m1 (show j < 2 ^ 31 by omega), i_is0 h (show j < nM N by omega), true_and, Option.toList_some, Option.toList_none, List.cons_append, List.nil_append, is2IT, is2RT, if_true, if_false]
      simp only [one_nI, pk_mul]
  | some i =>
    have hi := NV_p h hk hp
    cases hq : nQ N k with
    | none =>
      simp only [z_X9_rowsOf_0, z_X9_rowsOf_1, z_X9_rowsOf_2, z_X9_rowsOf_3, z_X9_rowsOf_6, z_X9_rowsOf_7, z_X9_rowsOf_8, z_X9_rowsOf_9, z_X9_rowsOf_10, z_X9_rowsOf_13, z_X9_rowsOf_14, z_X9_rowsOf_15, z_X9_rowsOf_16, z_X9_rowsOf_19, z_X9_rowsOf_20, z_X9_rowsOf_23, z_X9_rowsOf_24, z_X9_rowsOf_25, z_X9_rowsOf_26, z_X9_rowsOf_29, z_X9_rowsOf_30, z_X9_rowsOf_31, z_X9_rowsOf_34, z_X9_rowsOf_35, z_X9_rowsOf_38, z_X9_rowsOf_39, z_X9_rowsOf_40, z_X9_rowsOf_41, z_X9_rowsOf_44, z_X9_rowsOf_45, i_is2 h hk, i_is3 h hk, hp, hq, oI_nn, oI_ss, nI_m1 (show i < 2 ^ 31 by omega), i_is0 h (show i < nM N by omega), true_and, Option.toList_some, Option.toList_none, List.cons_append, List.nil_append, is2IT, is2RT, if_true, if_false]
      simp only [one_nI, pk_mul]
    | some j =>
      have hj := NV_q h hk hq
      simp only [z_X9_rowsOf_0, z_X9_rowsOf_1, z_X9_rowsOf_2, z_X9_rowsOf_3, z_X9_rowsOf_6, z_X9_rowsOf_7, z_X9_rowsOf_8, z_X9_rowsOf_9, z_X9_rowsOf_10, z_X9_rowsOf_13, z_X9_rowsOf_14, z_X9_rowsOf_15, z_X9_rowsOf_16, z_X9_rowsOf_19, z_X9_rowsOf_20, z_X9_rowsOf_23, z_X9_rowsOf_24, z_X9_rowsOf_25, z_X9_rowsOf_26, z_X9_rowsOf_29, z_X9_rowsOf_30, z_X9_rowsOf_31, z_X9_rowsOf_34, z_X9_rowsOf_35, z_X9_rowsOf_38, z_X9_rowsOf_39, z_X9_rowsOf_40, z_X9_rowsOf_41, z_X9_rowsOf_44, z_X9_rowsOf_45, i_is2 h hk, i_is3 h hk, hp, hq, oI_ss, nI_m1 (show i < 2 ^ 31 by omega), nI_m1 (show j < 2 ^ 31 by omega), i_is0 h (show i < nM N by omega), i_is0 h (show j < nM N by omega), true_and, Option.toList_some, Option.toList_none, List.cons_append, List.nil_append, is2IT, is2RT, if_true, if_false, pk_mul]
end IS
