/-! ===== the class: those near ===== -/
def NR0 (σ : St) (nr : Nat → Nat) : Prop := ∀ i, i < 7 → rI σ 75 i = nI (nr i) ∧ nr i < 128
def I75 (a _i : Nat) : Bool := a.beq 75
def uS (x k : Int32) : Int32 := (x.toUInt32 >>> (Int32.toUInt32 k &&& Int32.toUInt32 31)).toInt32
def bc1 (x : Int32) : Int32 := x - (uS x 1 &&& 1431655765)
def bc2 (x : Int32) : Int32 := (x &&& 858993459) + (uS x 2 &&& 858993459)
def bc3 (x : Int32) : Int32 := (x + uS x 4) &&& 252645135
def bc4 (x : Int32) : Int32 := x + uS x 8
def bc5 (x : Int32) : Int32 := x + uS x 16
theorem bc_ok : ∀ x, x < 128 → bc5 (bc4 (bc3 (bc2 (bc1 (nI x))))) &&& 63 = nI (pop7 x) := by decide +kernel
theorem m_bitc {d x : Nat} {Q : Option PV → St → Prop} {σ : St} (hx : x < 128) : Ca (d + 1) 232 [vI (nI x)] σ Q ↔ Q (some (vI (nI (pop7 x)))) σ := by
  rw [ca_at (K := kJ6_bitCount_0f7a4) (ls := [vI (nI x)]) rfl rfl rfl, ← bc_ok x hx]
  simp (disch := first | exact is2I | exact is2R | omega) only [z_J6_bitCount_0f7a4_0, z_J6_bitCount_0f7a4_1, z_J6_bitCount_0f7a4_2, z_J6_bitCount_0f7a4_3, z_J6_bitCount_0f7a4_4, z_J6_bitCount_0f7a4_7, z_J6_bitCount_0f7a4_8, z_J6_bitCount_0f7a4_9, z_J6_bitCount_0f7a4_10, z_J6_bitCount_0f7a4_11, z_J6_bitCount_0f7a4_14, z_J6_bitCount_0f7a4_15, z_J6_bitCount_0f7a4_16, z_J6_bitCount_0f7a4_17, z_J6_bitCount_0f7a4_18, z_J6_bitCount_0f7a4_21, z_J6_bitCount_0f7a4_22, z_J6_bitCount_0f7a4_23, z_J6_bitCount_0f7a4_24, z_J6_bitCount_0f7a4_25, z_J6_bitCount_0f7a4_26, z_J6_bitCount_0f7a4_27, z_J6_bitCount_0f7a4_28, z_J6_bitCount_0f7a4_29, z_J6_bitCount_0f7a4_32, z_J6_bitCount_0f7a4_33, z_J6_bitCount_0f7a4_34, z_J6_bitCount_0f7a4_35, z_J6_bitCount_0f7a4_36, z_J6_bitCount_0f7a4_38, z_J6_bitCount_0f7a4_39, z_J6_bitCount_0f7a4_40, z_J6_bitCount_0f7a4_41, z_J6_bitCount_0f7a4_42, z_J6_bitCount_0f7a4_43, z_J6_bitCount_0f7a4_45, z_J6_bitCount_0f7a4_46, z_J6_bitCount_0f7a4_47, z_J6_bitCount_0f7a4_48, z_J6_bitCount_0f7a4_49, z_J6_bitCount_0f7a4_51, z_J6_bitCount_0f7a4_52, true_and, Option.toList_some, Option.toList_none, List.cons_append, List.nil_append, is2IT, is2RT, if_true, if_false]
  exact Iff.rfl
theorem m_near {d a b : Nat} {Q : Option PV → St → Prop} {σ : St} {nr : Nat → Nat} (hX : XF σ) (ha : a < 7) (hb : b < 7) (hab : a ≠ b) (hn : NR0 σ nr) (hQ : ∀ σ', Fm I75 noL σ σ' → NR0 σ' (prs nr a b) → Q none σ') : Ca (d + 1) 2 [vR 74 1, vI (nI a), vI (nI b)] σ Q := by
  rw [ca_at (K := kX0_bringNear) (ls := [vR 74 1, vI (nI a), vI (nI b)]) rfl rfl rfl]
  have n1 : ¬ (75 = 75 ∧ b = a) := fun q => hab q.2.symm
  obtain ⟨x1, x2⟩ := hn a ha
  obtain ⟨y1, y2⟩ := hn b hb
  simp (disch := first | exact is2I | exact is2R | omega) only [z_X0_bringNear_0, z_X0_bringNear_1, z_X0_bringNear_4, z_X0_bringNear_5, z_X0_bringNear_6, z_X0_bringNear_7, z_X0_bringNear_8, z_X0_bringNear_9, z_X0_bringNear_10, z_X0_bringNear_11, z_X0_bringNear_12, z_X0_bringNear_13, z_X0_bringNear_16, z_X0_bringNear_17, z_X0_bringNear_18, z_X0_bringNear_19, z_X0_bringNear_20, z_X0_bringNear_21, z_X0_bringNear_22, z_X0_bringNear_23, z_X0_bringNear_24, xf_r0_0 hX, xf_r0_1 hX, xf_r0_2 hX, xf_r0_4 hX, xf_r0_5 hX, xf_r0_6 hX, xf_r0_7 hX, xf_r0_8 hX, xf_r0_9 hX, xf_r70_0 hX, xf_r70_1 hX, xf_r70_2 hX, xf_r74_0 hX, xf_r74_1 hX, xf_r74_2 hX, xf_r74_3 hX, xf_r79_0 hX, xf_r79_1 hX, xf_r79_2 hX, xf_r83_0 hX, xf_r83_7 hX, xf_r88_0 hX, xf_r88_1 hX, xf_r88_2 hX, xf_r88_3 hX, xf_s0 hX, xf_s70 hX, xf_s71 hX, xf_s72 hX, xf_s73 hX, xf_s74 hX, xf_s75 hX, xf_s76 hX, xf_s77 hX, xf_s78 hX, xf_s79 hX, xf_s80 hX, xf_s81 hX, xf_s82 hX, xf_s83 hX, xf_s84 hX, xf_s85 hX, xf_s86 hX, xf_s88 hX, xf_s89 hX, xf_s90 hX, xf_s91 hX, xf_s92 hX, xf_s93 hX, xf_s94 hX, xf_s95 hX, xf_s96 hX, rR_wI, sh_wI, kIn, kCl, x1, kShl b (by omega), kOr, true_and, Option.toList_some, Option.toList_none, List.cons_append, List.nil_append, is2IT, is2RT, if_true, if_false]
  have r2 : rI (wI σ 75 a (nI (nr a ||| 2 ^ b))) 75 b = nI (nr b) := by rw [rI_wI, if_neg n1]; exact y1
  simp (disch := first | exact is2I | exact is2R | omega) only [r2, kShl a (by omega), kOr]
  refine hQ _ (Fm_tr (Fm_wI rfl) (Fm_wI rfl)) (fun i hi => ?_)
  unfold prs
  rw [rI_wI, rI_wI]
  by_cases c1 : i = b
  · rw [if_pos ⟨rfl, c1⟩, if_pos c1]; exact ⟨rfl, or128 y2 ha⟩
  · rw [if_neg (fun q => c1 q.2), if_neg c1]
    by_cases c2 : i = a
    · rw [if_pos ⟨rfl, c2⟩, if_pos c2]; exact ⟨rfl, or128 x2 hb⟩
    · rw [if_neg (fun q => c2 q.2), if_neg c2]; exact hn i hi
/-! what the class's fillOf finds -/
def fcO (nr : Nat → Nat) (n : Nat) : Nat → Nat → Nat → Nat
  | 0, _, v => v
  | r + 1, i, v => fcO nr n r (i + 1) (if (nr n).testBit i = true then v + pop7 (dif (dif (nr n) (nr i)) (2 ^ i)) else v)
theorem fcO_le {nr : Nat → Nat} {n : Nat} (hn : nr n < 128) : ∀ r i v, fcO nr n r i v ≤ v + r * 7
  | 0, _, v => by show v ≤ _; omega
  | r + 1, i, v => by
    show fcO nr n r (i + 1) (if (nr n).testBit i = true then v + pop7 (dif (dif (nr n) (nr i)) (2 ^ i)) else v) ≤ _
    by_cases c : (nr n).testBit i = true
    · rw [if_pos c]
      have h1 := fcO_le hn r (i + 1) (v + pop7 (dif (dif (nr n) (nr i)) (2 ^ i)))
      have h2 := pop7_le (dif (dif (nr n) (nr i)) (2 ^ i)) (dif_128 (dif_128 hn))
      omega
    · rw [if_neg c]
      have h1 := fcO_le hn r (i + 1) v
      omega
theorem fc_l {d n : Nat} {Q : Option PV → St → Prop} {σ : St} {nr : Nat → Nat} (hX : XF σ) (hN : NR0 σ nr) (hn : n < 7) : ∀ r i v, i + r = 7 → v + r * 7 < 100 → (At (d + 1) kX0_fillOf 4 [vR 74 1, vI (nI n), vI (nI v), vI (nI i)] [] σ Q ↔ Q (some (vI (nI (fcO nr n r i v / 2)))) σ)
  | 0, i, v, hi, hv => by
    have : i = 7 := by omega
    subst this
    have e : nI v / (2 : Int32) = nI (v / 2) := pk_div (a := v) (d := 2) (by omega) (by decide) (by decide)
    simp (disch := first | exact is2I | exact is2R | omega) only [z_X0_fillOf_4, z_X0_fillOf_5, z_X0_fillOf_7, z_X0_fillOf_59, z_X0_fillOf_60, z_X0_fillOf_61, z_X0_fillOf_62, kLLe, kLe, Nat.le_refl, fcO, e, show ((!(decide ((2 : Int32) = 0))) = true) = True from by decide, true_and, Option.toList_some, Option.toList_none, List.cons_append, List.nil_append, is2IT, is2RT, if_true, if_false]
  | r + 1, i, v, hi, hv => by
    have c : ¬ 7 ≤ i := by omega
    obtain ⟨x1, x2⟩ := hN n hn
    obtain ⟨y1, y2⟩ := hN i (by omega)
    have d1 : dif (dif (nr n) (nr i)) (2 ^ i) < 128 := dif_128 (dif_128 x2)
    have p7 := pop7_le _ d1
    simp (disch := first | exact is2I | exact is2R | omega) only [z_X0_fillOf_4, z_X0_fillOf_5, z_X0_fillOf_7, z_X0_fillOf_10, z_X0_fillOf_11, z_X0_fillOf_14, z_X0_fillOf_15, z_X0_fillOf_16, z_X0_fillOf_17, z_X0_fillOf_18, z_X0_fillOf_19, z_X0_fillOf_20, z_X0_fillOf_23, z_X0_fillOf_26, z_X0_fillOf_27, z_X0_fillOf_28, z_X0_fillOf_31, z_X0_fillOf_32, z_X0_fillOf_33, z_X0_fillOf_34, z_X0_fillOf_37, z_X0_fillOf_38, z_X0_fillOf_39, z_X0_fillOf_40, z_X0_fillOf_41, z_X0_fillOf_42, z_X0_fillOf_43, z_X0_fillOf_44, z_X0_fillOf_45, z_X0_fillOf_46, z_X0_fillOf_47, z_X0_fillOf_48, z_X0_fillOf_51, z_X0_fillOf_52, z_X0_fillOf_53, xf_r0_0 hX, xf_r0_1 hX, xf_r0_2 hX, xf_r0_4 hX, xf_r0_5 hX, xf_r0_6 hX, xf_r0_7 hX, xf_r0_8 hX, xf_r0_9 hX, xf_r70_0 hX, xf_r70_1 hX, xf_r70_2 hX, xf_r74_0 hX, xf_r74_1 hX, xf_r74_2 hX, xf_r74_3 hX, xf_r79_0 hX, xf_r79_1 hX, xf_r79_2 hX, xf_r83_0 hX, xf_r83_7 hX, xf_r88_0 hX, xf_r88_1 hX, xf_r88_2 hX, xf_r88_3 hX, xf_s0 hX, xf_s70 hX, xf_s71 hX, xf_s72 hX, xf_s73 hX, xf_s74 hX, xf_s75 hX, xf_s76 hX, xf_s77 hX, xf_s78 hX, xf_s79 hX, xf_s80 hX, xf_s81 hX, xf_s82 hX, xf_s83 hX, xf_s84 hX, xf_s85 hX, xf_s86 hX, xf_s88 hX, xf_s89 hX, xf_s90 hX, xf_s91 hX, xf_s92 hX, xf_s93 hX, xf_s94 hX, xf_s95 hX, xf_s96 hX, kLLe, kLe, c, kIn, kCl, x1, y1, kHas (show nr n < 2 ^ 31 by omega) (show i < 31 by omega), kShl i (by omega), kDif, m_bitc d1, nI_add, b2_0, kAL, fcO, true_and, Option.toList_some, Option.toList_none, List.cons_append, List.nil_append, is2IT, is2RT, if_true, if_false]
    have nx : ∀ v, v + r * 7 < 100 → (At (d + 1) kX0_fillOf 56 [vR 74 1, vI (nI n), vI (nI v), vI (nI (i + 1))] [] σ Q ↔ Q (some (vI (nI (fcO nr n r (i + 1) v / 2)))) σ) := fun v hv => by
      rw [z_X0_fillOf_56, fc_l hX hN hn r (i + 1) v (by omega) hv]
    cases e1 : (nr n).testBit i with
    | false =>
      simp only [Bool.false_eq_true, not_false_eq_true, if_true, if_false]; exact nx v (by omega)
    | true =>
      simp only [not_true_eq_false, if_true, if_false]; exact nx _ (by omega)
def fcS (nr : Nat → Nat) (n : Nat) : Nat := fcO nr n 7 0 0 / 2
theorem c_fillOf {d n : Nat} {Q : Option PV → St → Prop} {σ : St} {nr : Nat → Nat} (hX : XF σ) (hN : NR0 σ nr) (hn : n < 7) : Ca (d + 2) 5 [vR 74 1, vI (nI n)] σ Q ↔ Q (some (vI (nI (fcS nr n)))) σ := by
  rw [ca_at (K := kX0_fillOf) (ls := [vR 74 1, vI (nI n), vU, vU]) rfl rfl rfl]
  have l := @fc_l d n Q σ nr hX hN hn 7 0 0 (by omega) (by omega)
  simp only [z_X0_fillOf_0, z_X0_fillOf_1, z_X0_fillOf_2, z_X0_fillOf_3, true_and, Option.toList_some, Option.toList_none, List.cons_append, List.nil_append, is2IT, is2RT, if_true, if_false]
  exact l
