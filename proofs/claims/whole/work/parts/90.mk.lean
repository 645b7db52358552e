/-! ===== the class: a node is made ===== -/
section NW
variable {d w k : Nat} {Q : Option PV → St → Prop} {σ : St}
theorem c_setRow (hX : XF σ) (hw : Wk w) (hk : k < 7) {r : Nat} (hr : r < 9) {a b c : Int32} : Ca (d + 1) 15 [vR (nO w k) 2, vI (nI r), vI a, vI b, vI c] σ Q ↔ Q none (wI (wI (wI σ (cO w k) (3 * r) a) (cO w k) (3 * r + 1) b) (cO w k) (3 * r + 2) c) := by
  rw [ca_at (K := kX1_setRow) (ls := [vR (nO w k) 2, vI (nI r), vI a, vI b, vI c, vU]) rfl rfl rfl]
  have e : nI (r * 3) = nI (3 * r) := by rw [Nat.mul_comm]
  have e0 : nI r * (3 : Int32) = nI (3 * r) := by rw [← e]; exact pk_mul r 3
  have e1 : nI (3 * r) + (1 : Int32) = nI (3 * r + 1) := nI_add _ 1
  have e2 : nI (3 * r) + (2 : Int32) = nI (3 * r + 2) := nI_add _ 2
  simp (disch := first | exact is2I | exact is2R | omega) only [z_X1_setRow_0, z_X1_setRow_1, z_X1_setRow_2, z_X1_setRow_3, z_X1_setRow_5, z_X1_setRow_6, z_X1_setRow_9, z_X1_setRow_11, z_X1_setRow_12, z_X1_setRow_13, z_X1_setRow_14, z_X1_setRow_17, z_X1_setRow_19, z_X1_setRow_20, z_X1_setRow_21, z_X1_setRow_22, z_X1_setRow_23, z_X1_setRow_24, z_X1_setRow_27, z_X1_setRow_29, z_X1_setRow_30, z_X1_setRow_31, z_X1_setRow_33, z_X1_setRow_34, xw_c hX hw hk, xs_c hX hw hk, rR_wI, sh_wI, e0, e1, e2, kIn, kCl, true_and, Option.toList_some, Option.toList_none, List.cons_append, List.nil_append, is2IT, is2RT, if_true, if_false]
theorem c_setHints (hX : XF σ) (hw : Wk w) (hk : k < 7) {a b c : Int32} : Ca (d + 1) 16 [vR (nO w k) 2, vI a, vI b, vI c] σ Q ↔ Q none (wI (wI (wI σ (hO w k) 0 a) (hO w k) 1 b) (hO w k) 2 c) := by
  rw [ca_at (K := kX1_setHints) (ls := [vR (nO w k) 2, vI a, vI b, vI c]) rfl rfl rfl]
  simp (disch := first | exact is2I | exact is2R | omega) only [z_X1_setHints_0, z_X1_setHints_1, z_X1_setHints_4, z_X1_setHints_5, z_X1_setHints_6, z_X1_setHints_7, z_X1_setHints_8, z_X1_setHints_11, z_X1_setHints_12, z_X1_setHints_13, z_X1_setHints_14, z_X1_setHints_15, z_X1_setHints_18, z_X1_setHints_19, z_X1_setHints_20, z_X1_setHints_21, xw_h hX hw hk, xs_h hX hw hk, rR_wI, sh_wI, kInL, kClL, true_and, Option.toList_some, Option.toList_none, List.cons_append, List.nil_append, is2IT, is2RT, if_true, if_false]
def mdF (s t : Nat) (q : Option Nat) (x y : Nat) : Nat := if t = 3 then (x + y) % s else min (if q = none then x else if t = 1 then max x y else min x y) (s - 1)
theorem mdF_N {N : Net} {x y : Nat} : madeN N k x y = mdF (nS N k) (nK N k) (nQ N k) x y := rfl
theorem mdF_3 {s t : Nat} {q : Option Nat} {x y : Nat} (hs : s = 2 ∨ s = 3) : mdF s t q x y < 3 := by
  unfold mdF
  split
  · have := Nat.mod_lt (x + y) (show 0 < s by omega); omega
  · have := Nat.min_le_right (if q = none then x else if t = 1 then max x y else min x y) (s - 1); omega
theorem kMax {a b : Nat} (ha : a < 2 ^ 31) (hb : b < 2 ^ 31) : (if nI a < nI b then nI b else nI a) = nI (max a b) := by
  by_cases c : a < b
  · rw [if_pos ((nI_ltI ha hb).mpr c), Nat.max_eq_right (by omega)]
  · rw [if_neg (fun q => c ((nI_ltI ha hb).mp q)), Nat.max_eq_left (by omega)]
theorem kMin {a b : Nat} (ha : a < 2 ^ 31) (hb : b < 2 ^ 31) : (if nI b < nI a then nI b else nI a) = nI (min a b) := by
  by_cases c : b < a
  · rw [if_pos ((nI_ltI hb ha).mpr c), Nat.min_eq_right (by omega)]
  · rw [if_neg (fun q => c ((nI_ltI hb ha).mp q)), Nat.min_eq_left (by omega)]
theorem c_made {s t x y : Nat} {q : Option Nat} (h3 : rI σ (nO w k) 3 = nI t) (h2 : rI σ (nO w k) 2 = nI s) (h5 : rI σ (nO w k) 5 = oI q) (hs : s = 2 ∨ s = 3) (ht : t ≤ 3) (hq : ∀ j, q = some j → j < 7) (hx : x < 3) (hy : y < 3) : Ca (d + 1) 14 [vR (nO w k) 2, vI (nI x), vI (nI y)] σ Q ↔ Q (some (vI (nI (mdF s t q x y)))) σ := by
  have eq := oI_none' (o := q) (fun j q => by have := hq j q; omega)
  have s1 : nI s - (1 : Int32) = nI (s - 1) := pk_sub (a := s) (b := 1) (by omega)
  have r2 : nI (x + y) - nI (x + y) / (2 : Int32) * (2 : Int32) = nI ((x + y) % 2) := pk_rem (d := 2) (by omega) (by decide) (by decide)
  have r3 : nI (x + y) - nI (x + y) / (3 : Int32) * (3 : Int32) = nI ((x + y) % 3) := pk_rem (d := 3) (by omega) (by decide) (by decide)
  have g2 : ((!(decide ((2 : Int32) = 0))) = true) = True := by decide
  have g3 : ((!(decide ((3 : Int32) = 0))) = true) = True := by decide
  rw [ca_at (K := kX1_made) (ls := [vR (nO w k) 2, vI (nI x), vI (nI y), vU, vU]) rfl rfl rfl]
  by_cases c3 : t = 3
  · have em : mdF s t q x y = (x + y) % s := if_pos c3
    rw [em]
    rcases hs with rfl | rfl
    · simp (disch := first | exact is2I | exact is2R | omega) only [z_X1_made_0, z_X1_made_1, z_X1_made_4, z_X1_made_5, z_X1_made_8, z_X1_made_9, z_X1_made_10, z_X1_made_11, z_X1_made_12, z_X1_made_13, z_X1_made_16, z_X1_made_17, z_X1_made_20, z_X1_made_21, z_X1_made_22, z_X1_made_23, z_X1_made_26, z_X1_made_27, z_X1_made_28, z_X1_made_29, h3, h2, kEL, c3, nI_add, r2, g2, true_and, Option.toList_some, Option.toList_none, List.cons_append, List.nil_append, is2IT, is2RT, if_true, if_false]
    · have n32 : ¬ (3 = 2) := by decide
      simp (disch := first | exact is2I | exact is2R | omega) only [z_X1_made_0, z_X1_made_1, z_X1_made_4, z_X1_made_5, z_X1_made_8, z_X1_made_9, z_X1_made_10, z_X1_made_11, z_X1_made_12, z_X1_made_13, z_X1_made_16, z_X1_made_17, z_X1_made_20, z_X1_made_21, z_X1_made_22, z_X1_made_23, z_X1_made_26, z_X1_made_27, z_X1_made_28, z_X1_made_29, h3, h2, kEL, c3, n32, nI_add, r3, g3, true_and, Option.toList_some, Option.toList_none, List.cons_append, List.nil_append, is2IT, is2RT, if_true, if_false]
  · have em : mdF s t q x y = min (if q = none then x else if t = 1 then max x y else min x y) (s - 1) := if_neg c3
    rw [em]
    cases q with
    | none =>
      rw [if_pos rfl]
      rw [oI_nn] at h5
      have mm1 : (if nI x < nI x then nI x else nI x) = nI x := by split <;> rfl
      by_cases c1 : t = 1
      · subst c1
        simp (disch := first | exact is2I | exact is2R | omega) only [z_X1_made_0, z_X1_made_1, z_X1_made_4, z_X1_made_5, z_X1_made_8, z_X1_made_9, z_X1_made_10, z_X1_made_11, z_X1_made_12, z_X1_made_13, z_X1_made_16, z_X1_made_17, z_X1_made_20, z_X1_made_21, z_X1_made_22, z_X1_made_23, z_X1_made_26, z_X1_made_27, z_X1_made_28, z_X1_made_29, z_X1_made_30, z_X1_made_31, z_X1_made_34, z_X1_made_35, z_X1_made_38, z_X1_made_39, z_X1_made_42, z_X1_made_43, z_X1_made_44, z_X1_made_45, z_X1_made_48, z_X1_made_49, z_X1_made_52, z_X1_made_53, z_X1_made_54, z_X1_made_57, z_X1_made_60, z_X1_made_61, z_X1_made_62, z_X1_made_65, z_X1_made_67, z_X1_made_69, z_X1_made_70, z_X1_made_73, z_X1_made_74, z_X1_made_75, z_X1_made_78, h3, h2, h5, kEL, c3, s1, mm1, kMin, true_and, Option.toList_some, Option.toList_none, List.cons_append, List.nil_append, is2IT, is2RT, if_true, if_false]
      · simp (disch := first | exact is2I | exact is2R | omega) only [z_X1_made_0, z_X1_made_1, z_X1_made_4, z_X1_made_5, z_X1_made_8, z_X1_made_9, z_X1_made_10, z_X1_made_11, z_X1_made_12, z_X1_made_13, z_X1_made_16, z_X1_made_17, z_X1_made_20, z_X1_made_21, z_X1_made_22, z_X1_made_23, z_X1_made_26, z_X1_made_27, z_X1_made_28, z_X1_made_29, z_X1_made_30, z_X1_made_31, z_X1_made_34, z_X1_made_35, z_X1_made_38, z_X1_made_39, z_X1_made_42, z_X1_made_43, z_X1_made_44, z_X1_made_45, z_X1_made_48, z_X1_made_49, z_X1_made_52, z_X1_made_53, z_X1_made_54, z_X1_made_57, z_X1_made_60, z_X1_made_61, z_X1_made_62, z_X1_made_65, z_X1_made_67, z_X1_made_69, z_X1_made_70, z_X1_made_73, z_X1_made_74, z_X1_made_75, z_X1_made_78, h3, h2, h5, kEL, c3, c1, s1, mm1, kMin, true_and, Option.toList_some, Option.toList_none, List.cons_append, List.nil_append, is2IT, is2RT, if_true, if_false]
    | some j =>
      have j7 := hq j rfl
      rw [if_neg (fun z => by cases z)]
      rw [oI_ss] at h5
      by_cases c1 : t = 1
      · subst c1
        rw [if_pos rfl]
        simp (disch := first | exact is2I | exact is2R | omega) only [z_X1_made_0, z_X1_made_1, z_X1_made_4, z_X1_made_5, z_X1_made_8, z_X1_made_9, z_X1_made_10, z_X1_made_11, z_X1_made_12, z_X1_made_13, z_X1_made_16, z_X1_made_17, z_X1_made_20, z_X1_made_21, z_X1_made_22, z_X1_made_23, z_X1_made_26, z_X1_made_27, z_X1_made_28, z_X1_made_29, z_X1_made_30, z_X1_made_31, z_X1_made_34, z_X1_made_35, z_X1_made_38, z_X1_made_39, z_X1_made_42, z_X1_made_43, z_X1_made_44, z_X1_made_45, z_X1_made_48, z_X1_made_49, z_X1_made_52, z_X1_made_53, z_X1_made_54, z_X1_made_57, z_X1_made_60, z_X1_made_61, z_X1_made_62, z_X1_made_65, z_X1_made_67, z_X1_made_69, z_X1_made_70, z_X1_made_73, z_X1_made_74, z_X1_made_75, z_X1_made_78, h3, h2, h5, kM1, kEL, c3, s1, kMax, kMin, true_and, Option.toList_some, Option.toList_none, List.cons_append, List.nil_append, is2IT, is2RT, if_true, if_false]
      · rw [if_neg c1]
        simp (disch := first | exact is2I | exact is2R | omega) only [z_X1_made_0, z_X1_made_1, z_X1_made_4, z_X1_made_5, z_X1_made_8, z_X1_made_9, z_X1_made_10, z_X1_made_11, z_X1_made_12, z_X1_made_13, z_X1_made_16, z_X1_made_17, z_X1_made_20, z_X1_made_21, z_X1_made_22, z_X1_made_23, z_X1_made_26, z_X1_made_27, z_X1_made_28, z_X1_made_29, z_X1_made_30, z_X1_made_31, z_X1_made_34, z_X1_made_35, z_X1_made_38, z_X1_made_39, z_X1_made_42, z_X1_made_43, z_X1_made_44, z_X1_made_45, z_X1_made_48, z_X1_made_49, z_X1_made_52, z_X1_made_53, z_X1_made_54, z_X1_made_57, z_X1_made_60, z_X1_made_61, z_X1_made_62, z_X1_made_65, z_X1_made_67, z_X1_made_69, z_X1_made_70, z_X1_made_73, z_X1_made_74, z_X1_made_75, z_X1_made_78, h3, h2, h5, kM1, kEL, c3, c1, s1, kMin, true_and, Option.toList_some, Option.toList_none, List.cons_append, List.nil_append, is2IT, is2RT, if_true, if_false]
/-- a number of a new node's row -/
def rwF (s t : Nat) (q : Option Nat) (x y v : Nat) : Nat := if t = 0 then tb0 s v else if v = mdF s t q x y then 12 else 0
theorem wI_twice {a m : Nat} {z : Int32} (f : Nat → Int32) (i : Nat) (hm : m < 3) (e : ∀ v, v < 3 → f v = if v = m then z else 0) : wI (wI (wI (wI σ a i 0) a (i + 1) 0) a (i + 2) 0) a (i + m) z = wI (wI (wI σ a i (f 0)) a (i + 1) (f 1)) a (i + 2) (f 2) := by
  rw [e 0 (by decide), e 1 (by decide), e 2 (by decide)]
  refine congrArg (fun g => ((g, σ.2) : St)) (funext fun x => funext fun b => ?_)
  show rI (wI (wI (wI (wI σ a i 0) a (i + 1) 0) a (i + 2) 0) a (i + m) z) x b = rI (wI (wI (wI σ a i (if 0 = m then z else 0)) a (i + 1) (if 1 = m then z else 0)) a (i + 2) (if 2 = m then z else 0)) x b
  simp only [rI_wI]
  rcases (show m = 0 ∨ m = 1 ∨ m = 2 by omega) with rfl | rfl | rfl
  · by_cases q0 : x = a ∧ b = i
    · rw [if_pos (show x = a ∧ b = i + 0 from q0), if_neg (by omega), if_neg (by omega), if_pos q0]; rfl
    · rw [if_neg (show ¬ (x = a ∧ b = i + 0) from q0), if_neg q0, if_neg q0]; rfl
  · by_cases q0 : x = a ∧ b = i + 1
    · rw [if_pos q0, if_neg (by omega), if_pos q0]; rfl
    · rw [if_neg q0, if_neg q0, if_neg q0]; rfl
  · by_cases q0 : x = a ∧ b = i + 2
    · rw [if_pos q0, if_pos q0]; rfl
    · rw [if_neg q0, if_neg q0, if_neg q0]; rfl
theorem c_beginRow {s t x y r : Nat} {q : Option Nat} (hX : XF σ) (hw : Wk w) (hk : k < 7) (hr : r < 9) (h3 : rI σ (nO w k) 3 = nI t) (h2 : rI σ (nO w k) 2 = nI s) (h5 : rI σ (nO w k) 5 = oI q) (hs : s = 2 ∨ s = 3) (ht : t ≤ 3) (hq : ∀ j, q = some j → j < 7) (hx : x < 3) (hy : y < 3) : Ca (d + 2) 13 [vR (nO w k) 2, vI (nI r), vI (nI x), vI (nI y)] σ Q ↔ Q none (wI (wI (wI σ (cO w k) (3 * r) (nI (rwF s t q x y 0))) (cO w k) (3 * r + 1) (nI (rwF s t q x y 1))) (cO w k) (3 * r + 2) (nI (rwF s t q x y 2))) := by
  rw [ca_at (K := kX1_beginRow) (ls := [vR (nO w k) 2, vI (nI r), vI (nI x), vI (nI y)]) rfl rfl rfl]
  by_cases c0 : t = 0
  · have e : ∀ v, rwF s t q x y v = tb0 s v := fun v => if_pos c0
    rw [e, e, e]
    rcases hs with rfl | rfl
    · simp (disch := first | exact is2I | exact is2R | omega) only [z_X1_beginRow_0, z_X1_beginRow_1, z_X1_beginRow_4, z_X1_beginRow_7, z_X1_beginRow_8, z_X1_beginRow_9, z_X1_beginRow_10, z_X1_beginRow_11, z_X1_beginRow_12, z_X1_beginRow_15, z_X1_beginRow_16, z_X1_beginRow_19, z_X1_beginRow_20, z_X1_beginRow_21, z_X1_beginRow_22, z_X1_beginRow_23, z_X1_beginRow_24, z_X1_beginRow_25, z_X1_beginRow_28, z_X1_beginRow_29, z_X1_beginRow_31, z_X1_beginRow_32, z_X1_beginRow_35, z_X1_beginRow_36, z_X1_beginRow_39, z_X1_beginRow_40, z_X1_beginRow_43, z_X1_beginRow_44, z_X1_beginRow_45, z_X1_beginRow_47, z_X1_beginRow_49, z_X1_beginRow_50, z_X1_beginRow_53, z_X1_beginRow_56, z_X1_beginRow_57, z_X1_beginRow_58, z_X1_beginRow_59, z_X1_beginRow_60, z_X1_beginRow_61, z_X1_beginRow_64, h3, h2, kEL, c0, c_setRow hX hw hk hr, Option.toList_none, List.nil_append, true_and, Option.toList_some, Option.toList_none, List.cons_append, List.nil_append, is2IT, is2RT, if_true, if_false]
      exact Iff.rfl
    · have n32 : ¬ (3 = 2) := by decide
      simp (disch := first | exact is2I | exact is2R | omega) only [z_X1_beginRow_0, z_X1_beginRow_1, z_X1_beginRow_4, z_X1_beginRow_7, z_X1_beginRow_8, z_X1_beginRow_9, z_X1_beginRow_10, z_X1_beginRow_11, z_X1_beginRow_12, z_X1_beginRow_15, z_X1_beginRow_16, z_X1_beginRow_19, z_X1_beginRow_20, z_X1_beginRow_21, z_X1_beginRow_22, z_X1_beginRow_23, z_X1_beginRow_24, z_X1_beginRow_25, z_X1_beginRow_28, z_X1_beginRow_29, z_X1_beginRow_31, z_X1_beginRow_32, z_X1_beginRow_35, z_X1_beginRow_36, z_X1_beginRow_39, z_X1_beginRow_40, z_X1_beginRow_43, z_X1_beginRow_44, z_X1_beginRow_45, z_X1_beginRow_47, z_X1_beginRow_49, z_X1_beginRow_50, z_X1_beginRow_53, z_X1_beginRow_56, z_X1_beginRow_57, z_X1_beginRow_58, z_X1_beginRow_59, z_X1_beginRow_60, z_X1_beginRow_61, z_X1_beginRow_64, h3, h2, kEL, c0, n32, c_setRow hX hw hk hr, Option.toList_none, List.nil_append, true_and, Option.toList_some, Option.toList_none, List.cons_append, List.nil_append, is2IT, is2RT, if_true, if_false]
      exact Iff.rfl
  · have e : ∀ v, v < 3 → nI (rwF s t q x y v) = if v = mdF s t q x y then (12 : Int32) else 0 := fun v _ => by
      rw [show rwF s t q x y v = if v = mdF s t q x y then 12 else 0 from if_neg c0]
      split <;> rfl
    have m3 := mdF_3 (t := t) (q := q) (x := x) (y := y) hs
    have tw := wI_twice (σ := σ) (a := cO w k) (m := mdF s t q x y) (z := 12) (fun v => nI (rwF s t q x y v)) (3 * r) m3 e
    have hX2 : XF (wI (wI (wI σ (cO w k) (3 * r) 0) (cO w k) (3 * r + 1) 0) (cO w k) (3 * r + 2) 0) := ⟨fun p hp => hX.1 p hp, fun p hp => hX.2 p hp⟩
    have k3 : ∀ i, rI (wI (wI (wI σ (cO w k) (3 * r) 0) (cO w k) (3 * r + 1) 0) (cO w k) (3 * r + 2) 0) (nO w k) i = rI σ (nO w k) i := fun i => by
      have ne : nO w k ≠ cO w k := by unfold nO cO; omega
      rw [rI_wI_n ne, rI_wI_n ne, rI_wI_n ne]
    have h3' := (k3 3).trans h3
    have h2' := (k3 2).trans h2
    have h5' := (k3 5).trans h5
    have e0 : nI r * (3 : Int32) = nI (3 * r) := by rw [Nat.mul_comm]; exact pk_mul r 3
    simp (disch := first | exact is2I | exact is2R | omega) only [z_X1_beginRow_0, z_X1_beginRow_1, z_X1_beginRow_4, z_X1_beginRow_7, z_X1_beginRow_8, z_X1_beginRow_9, z_X1_beginRow_10, z_X1_beginRow_11, z_X1_beginRow_12, z_X1_beginRow_15, z_X1_beginRow_16, z_X1_beginRow_19, z_X1_beginRow_20, z_X1_beginRow_21, z_X1_beginRow_22, z_X1_beginRow_23, z_X1_beginRow_24, z_X1_beginRow_25, z_X1_beginRow_28, z_X1_beginRow_29, z_X1_beginRow_31, z_X1_beginRow_32, z_X1_beginRow_64, h3, kEL, c0, c_setRow hX hw hk hr, Option.toList_none, List.nil_append, xw_c hX hw hk, xs_c hX hw hk, rR_wI, sh_wI, e0, c_made h3' h2' h5' hs ht hq hx hy, nI_add, kIn, kCl, true_and, Option.toList_some, Option.toList_none, List.cons_append, List.nil_append, is2IT, is2RT, if_true, if_false]
    rw [tw]
/-- rows of a new node, as they are filled -/
def rwI (s t : Nat) (q : Option Nat) (sq : Nat) (i : Nat) : Int32 := nI (rwF s t q (i / 3 / sq) (i / 3 % sq) (i % 3))
theorem rw_at {s t sq x y : Nat} {q : Option Nat} (hy : y < sq) {v : Nat} (hv : v < 3) : rwI s t q sq (3 * (x * sq + y) + v) = nI (rwF s t q x y v) := by
  unfold rwI
  have e1 : (3 * (x * sq + y) + v) / 3 = x * sq + y := by omega
  have e2 : (3 * (x * sq + y) + v) % 3 = v := by omega
  have e3 : (x * sq + y) / sq = x := by rw [Nat.add_comm, Nat.add_mul_div_right _ _ (by omega), Nat.div_eq_of_lt hy, Nat.zero_add]
  have e4 : (x * sq + y) % sq = y := by rw [Nat.add_comm, Nat.add_mul_mod_self_right, Nat.mod_eq_of_lt hy]
  rw [e1, e2, e3, e4]
theorem rw_step {s t sq x y : Nat} {q : Option Nat} (hy : y < sq) : wI (wI (wI (fI σ (cO w k) 0 (3 * (x * sq + y)) (rwI s t q sq)) (cO w k) (3 * (x * sq + y)) (nI (rwF s t q x y 0))) (cO w k) (3 * (x * sq + y) + 1) (nI (rwF s t q x y 1))) (cO w k) (3 * (x * sq + y) + 2) (nI (rwF s t q x y 2)) = fI σ (cO w k) 0 (3 * (x * sq + (y + 1))) (rwI s t q sq) := by
  rw [fI_s0 (show nI (rwF s t q x y 0) = rwI s t q sq (3 * (x * sq + y)) from (rw_at hy (show 0 < 3 by decide)).symm), fI_s0 (show nI (rwF s t q x y 1) = rwI s t q sq (3 * (x * sq + y) + 1) from (rw_at hy (show 1 < 3 by decide)).symm), fI_s0 (show nI (rwF s t q x y 2) = rwI s t q sq (3 * (x * sq + y) + 1 + 1) from (rw_at hy (show 2 < 3 by decide)).symm), show 3 * (x * sq + (y + 1)) = 3 * (x * sq + y) + 2 + 1 by omega]
theorem XF_fI {a b n : Nat} {f : Nat → Int32} (hX : XF σ) : XF (fI σ a b n f) := ⟨fun p hp => hX.1 p hp, fun p hp => hX.2 p hp⟩
theorem br_in {s t sp sq x : Nat} {q : Option Nat} (hX : XF σ) (hw : Wk w) (hk : k < 7) (h3 : rI σ (nO w k) 3 = nI t) (h2 : rI σ (nO w k) 2 = nI s) (h5 : rI σ (nO w k) 5 = oI q) (h6 : rI σ (nO w k) 6 = nI (sp * sq)) (hs : s = 2 ∨ s = 3) (ht : t ≤ 3) (hq : ∀ j, q = some j → j < 7) (hp3 : sp ≤ 3) (hq3 : sq ≤ 3) (hx : x < sp) : ∀ r y, y + r = sq → (At (d + 2) kX1_beginRows 31 [vR (nO w k) 2, vI (nI sp), vI (nI sq), vI (nI (x * sq + y)), vI (nI x), vI (nI y)] [] (fI σ (cO w k) 0 (3 * (x * sq + y)) (rwI s t q sq)) Q ↔ At (d + 2) kX1_beginRows 63 [vR (nO w k) 2, vI (nI sp), vI (nI sq), vI (nI (x * sq + sq)), vI (nI x), vI (nI sq)] [] (fI σ (cO w k) 0 (3 * (x * sq + sq)) (rwI s t q sq)) Q)
  | 0, y, hy => by
    have : y = sq := by omega
    subst this
    simp (disch := first | exact is2I | exact is2R | omega) only [z_X1_beginRows_31, z_X1_beginRows_33, z_X1_beginRows_34, kLe, Nat.le_refl, true_and, Option.toList_some, Option.toList_none, List.cons_append, List.nil_append, is2IT, is2RT, if_true, if_false]
  | r + 1, y, hy => by
    have c : ¬ sq ≤ y := by omega
    have m1 : (x + 1) * sq ≤ sp * sq := Nat.mul_le_mul_right _ hx
    have m2 : (x + 1) * sq = x * sq + sq := Nat.succ_mul x sq
    have m9 : sp * sq ≤ 3 * 3 := Nat.mul_le_mul hp3 hq3
    have c2 : ¬ sp * sq ≤ x * sq + y := by omega
    have hX2 := XF_fI (a := cO w k) (b := 0) (n := 3 * (x * sq + y)) (f := rwI s t q sq) hX
    have ne : nO w k ≠ cO w k := by unfold nO cO; omega
    have kk : ∀ i, rI (fI σ (cO w k) 0 (3 * (x * sq + y)) (rwI s t q sq)) (nO w k) i = rI σ (nO w k) i := fun i => fI_out ne
    have h3' := (kk 3).trans h3
    have h2' := (kk 2).trans h2
    have h5' := (kk 5).trans h5
    have h6' := (kk 6).trans h6
    have ev : nI y + (1 : Int32) = nI (y + 1) := nI_add y 1
    have ew : nI (x * sq + y) + (1 : Int32) = nI (x * sq + (y + 1)) := nI_add _ 1
    simp (disch := first | exact is2I | exact is2R | omega) only [z_X1_beginRows_31, z_X1_beginRows_33, z_X1_beginRows_34, z_X1_beginRows_37, z_X1_beginRows_38, z_X1_beginRows_39, z_X1_beginRows_42, z_X1_beginRows_45, z_X1_beginRows_46, z_X1_beginRows_47, z_X1_beginRows_50, z_X1_beginRows_52, z_X1_beginRows_54, h6', kLe, c, c2, ew, c_beginRow hX2 hw hk (show x * sq + y < 9 by omega) h3' h2' h5' hs ht hq (show x < 3 by omega) (show y < 3 by omega), rw_step (show y < sq by omega), Option.toList_none, List.nil_append, z_X1_beginRows_57, ev, true_and, Option.toList_some, Option.toList_none, List.cons_append, List.nil_append, is2IT, is2RT, if_true, if_false]
    rw [z_X1_beginRows_60]
    exact br_in hX hw hk h3 h2 h5 h6 hs ht hq hp3 hq3 hx r (y + 1) (by omega)
theorem br_out {s t sp sq : Nat} {q : Option Nat} (hX : XF σ) (hw : Wk w) (hk : k < 7) (h3 : rI σ (nO w k) 3 = nI t) (h2 : rI σ (nO w k) 2 = nI s) (h5 : rI σ (nO w k) 5 = oI q) (h6 : rI σ (nO w k) 6 = nI (sp * sq)) (hs : s = 2 ∨ s = 3) (ht : t ≤ 3) (hq : ∀ j, q = some j → j < 7) (hp3 : sp ≤ 3) (hq3 : sq ≤ 3) : ∀ r x l5, x + r = sp → (At (d + 2) kX1_beginRows 22 [vR (nO w k) 2, vI (nI sp), vI (nI sq), vI (nI (x * sq)), vI (nI x), l5] [] (fI σ (cO w k) 0 (3 * (x * sq)) (rwI s t q sq)) Q ↔ Q none (fI σ (cO w k) 0 (3 * (sp * sq)) (rwI s t q sq)))
  | 0, x, l5, hx => by
    have : x = sp := by omega
    subst this
    simp (disch := first | exact is2I | exact is2R | omega) only [z_X1_beginRows_22, z_X1_beginRows_24, z_X1_beginRows_25, z_X1_beginRows_69, kLe, Nat.le_refl, true_and, Option.toList_some, Option.toList_none, List.cons_append, List.nil_append, is2IT, is2RT, if_true, if_false]
  | r + 1, x, l5, hx => by
    have c : ¬ sp ≤ x := by omega
    have ev : nI x + (1 : Int32) = nI (x + 1) := nI_add x 1
    have l := @br_in d w k Q σ s t sp sq x q hX hw hk h3 h2 h5 h6 hs ht hq hp3 hq3 (by omega) sq 0 (by omega)
    have m2 : (x + 1) * sq = x * sq + sq := Nat.succ_mul x sq
    have e0 : nI (x * sq + 0) = nI (x * sq) := rfl
    have n2 := br_out hX hw hk h3 h2 h5 h6 hs ht hq hp3 hq3 r (x + 1) (vI (nI sq)) (by omega)
    rw [m2] at n2
    simp (disch := first | exact is2I | exact is2R | omega) only [z_X1_beginRows_22, z_X1_beginRows_24, z_X1_beginRows_25, z_X1_beginRows_28, z_X1_beginRows_29, kLe, c, true_and, Option.toList_some, Option.toList_none, List.cons_append, List.nil_append, is2IT, is2RT, if_true, if_false]
    refine l.trans ?_
    simp (disch := first | exact is2I | exact is2R | omega) only [z_X1_beginRows_63, ev, true_and, Option.toList_some, Option.toList_none, List.cons_append, List.nil_append, is2IT, is2RT, if_true, if_false]
    rw [z_X1_beginRows_66]
    exact n2
theorem c_beginRows {s t sp sq : Nat} {q : Option Nat} (hX : XF σ) (hw : Wk w) (hk : k < 7) (h3 : rI σ (nO w k) 3 = nI t) (h2 : rI σ (nO w k) 2 = nI s) (h5 : rI σ (nO w k) 5 = oI q) (hs : s = 2 ∨ s = 3) (ht : t ≤ 3) (hq : ∀ j, q = some j → j < 7) (hp3 : sp ≤ 3) (hq3 : sq ≤ 3) : Ca (d + 3) 12 [vR (nO w k) 2, vI (nI sp), vI (nI sq)] σ Q ↔ Q none (fI (wI (wI σ (nO w k) 7 (nI sq)) (nO w k) 6 (nI (sp * sq))) (cO w k) 0 (3 * (sp * sq)) (rwI s t q sq)) := by
  have m9 : sp * sq ≤ 3 * 3 := Nat.mul_le_mul hp3 hq3
  have mi : (if (9 : Int32) < nI (sp * sq) then (9 : Int32) else nI (sp * sq)) = nI (sp * sq) := if_neg (fun q => by
    have := (nI_ltI (a := 9) (b := sp * sq) (by decide) (by omega)).mp q
    omega)
  rw [ca_at (K := kX1_beginRows) (ls := [vR (nO w k) 2, vI (nI sp), vI (nI sq), vU, vU, vU]) rfl rfl rfl]
  simp (disch := first | exact is2I | exact is2R | omega) only [z_X1_beginRows_0, z_X1_beginRows_1, z_X1_beginRows_2, z_X1_beginRows_5, z_X1_beginRows_6, z_X1_beginRows_7, z_X1_beginRows_8, z_X1_beginRows_9, z_X1_beginRows_11, z_X1_beginRows_14, z_X1_beginRows_17, z_X1_beginRows_18, z_X1_beginRows_19, z_X1_beginRows_20, pk_mul, mi, true_and, Option.toList_some, Option.toList_none, List.cons_append, List.nil_append, is2IT, is2RT, if_true, if_false]
  have hX2 : XF (wI (wI σ (nO w k) 7 (nI sq)) (nO w k) 6 (nI (sp * sq))) := ⟨fun p hp => hX.1 p hp, fun p hp => hX.2 p hp⟩
  have kk : ∀ i, i < 6 → rI (wI (wI σ (nO w k) 7 (nI sq)) (nO w k) 6 (nI (sp * sq))) (nO w k) i = rI σ (nO w k) i := fun i hi => by rw [rI_wI, if_neg (by omega), rI_wI, if_neg (by omega)]
  have l := @br_out d w k Q _ s t sp sq q hX2 hw hk ((kk 3 (by decide)).trans h3) ((kk 2 (by decide)).trans h2) ((kk 5 (by decide)).trans h5) (by rw [rI_wI, if_pos ⟨rfl, rfl⟩]) hs ht hq hp3 hq3 sp 0 vU (by omega)
  rw [Nat.zero_mul, Nat.mul_zero, fI_0] at l
  exact l
end NW
