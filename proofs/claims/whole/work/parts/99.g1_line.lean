/-! ===== the line: letters put behind each other ===== -/
/-- what new objects hold is bounded -/
def Sz (σ σ' : St) : Prop := ((sS σ').map Prod.snd).sum + 70 * (sS σ).length ≤ ((sS σ).map Prod.snd).sum + 70 * (sS σ').length
theorem Sz_eq {σ σ' : St} (h : sS σ' = sS σ) : Sz σ σ' := by unfold Sz; rw [h]; exact Nat.le_refl _
theorem Sz_tr {a b c : St} (h : Sz a b) (h2 : Sz b c) : Sz a c := by unfold Sz at *; omega
def Fb (σ σ' : St) : Prop := (∀ a i, a < 119 → a ≠ 86 → a ≠ 87 → rI σ' a i = rI σ a i) ∧ (∀ a i, a < 119 → rL σ' a i = rL σ a i) ∧ (∀ a b, a < 119 → (a = 86 → b ≠ 0) → rR σ' a b = rR σ a b) ∧ (∀ a, a < 119 → sh σ' a = sh σ a) ∧ sX σ' = sX σ ∧ Sz σ σ'
theorem Fb_rf {σ : St} : Fb σ σ := ⟨fun _ _ _ _ _ => rfl, fun _ _ _ => rfl, fun _ _ _ _ => rfl, fun _ _ => rfl, rfl, Sz_eq rfl⟩
theorem Fb_tr {a b c : St} (h : Fb a b) (h2 : Fb b c) : Fb a c := ⟨fun x i q1 q2 q3 => (h2.1 x i q1 q2 q3).trans (h.1 x i q1 q2 q3), fun x i q => (h2.2.1 x i q).trans (h.2.1 x i q), fun x y q1 q2 => (h2.2.2.1 x y q1 q2).trans (h.2.2.1 x y q1 q2), fun x q => (h2.2.2.2.1 x q).trans (h.2.2.2.1 x q), h2.2.2.2.2.1.trans h.2.2.2.2.1, Sz_tr h.2.2.2.2.2 h2.2.2.2.2.2⟩
theorem Fb_wI {σ : St} {k i : Nat} {x : Int32} (hk : k = 86 ∨ k = 87 ∨ 119 ≤ k) : Fb σ (wI σ k i x) := ⟨fun a j q1 q2 q3 => by rw [rI_wI, if_neg (fun z => by omega)], fun _ _ _ => rfl, fun _ _ _ _ => rfl, fun _ _ => rfl, rfl, Sz_eq rfl⟩
/-- where the letters lie: which array, how long, how many objects there are -/
def Kc (k cap n : Nat) : Prop := (k = 87 ∧ cap = 16 ∧ n = 119) ∨ (k = 119 ∧ cap = 34 ∧ n = 120) ∨ (k = 120 ∧ cap = 70 ∧ n = 121)
def SB (σ : St) (L : List Nat) (k cap : Nat) : Prop := Kc k cap (sS σ).length ∧ rR σ 86 0 = some k ∧ sh σ k = (23, cap) ∧ rI σ 86 1 = 0 ∧ rI σ 86 3 = nI L.length ∧ L.length ≤ cap ∧ ∀ i (h : i < L.length), rI σ k i = nI L[i]
def SB0 (σ : St) : Prop := ∃ k cap c, Kc k cap (sS σ).length ∧ rR σ 86 0 = some k ∧ sh σ k = (23, cap) ∧ rI σ 86 1 = 0 ∧ rI σ 86 3 = nI c ∧ c ≤ 70
theorem SB_0 {σ : St} {L : List Nat} {k cap : Nat} (h : SB σ L k cap) : SB0 σ := by
  obtain ⟨h1, h2, h3, h4, h5, h6, -⟩ := h
  exact ⟨k, cap, L.length, h1, h2, h3, h4, h5, by unfold Kc at h1; omega⟩
theorem Kc_k {k cap n : Nat} (h : Kc k cap n) : k < n ∧ (k = 87 ∨ 119 ≤ k) ∧ 16 ≤ cap ∧ cap ≤ 70 ∧ 119 ≤ n := by unfold Kc at h; omega
theorem sS_nw {σ : St} {t l : Nat} : sS (nw σ t l) = sS σ ++ [(t, l)] := rfl
theorem sh_nw_o {σ : St} {t l a : Nat} (h : a < (sS σ).length) : sh (nw σ t l) a = sh σ a := by
  unfold sh
  rw [sS_nw, List.getD_eq_getElem?_getD, List.getD_eq_getElem?_getD, List.getElem?_append_left h]
theorem sh_nw_s {σ : St} {t l : Nat} : sh (nw σ t l) (sS σ).length = (t, l) := by
  unfold sh
  rw [sS_nw, List.getD_eq_getElem?_getD, List.getElem?_append_right (Nat.le_refl _), Nat.sub_self]; rfl
theorem rI_nw {σ : St} {t l a i : Nat} : rI (nw σ t l) a i = if a = (sS σ).length then 0 else rI σ a i := rfl
theorem rL_nw {σ : St} {t l a i : Nat} : rL (nw σ t l) a i = if a = (sS σ).length then 0 else rL σ a i := rfl
theorem rR_nw {σ : St} {t l a i : Nat} : rR (nw σ t l) a i = if a = (sS σ).length then none else rR σ a i := rfl
theorem rR_wR {σ : St} {k i a b : Nat} {x : Option Nat} : rR (wR σ k i x) a b = if a = k ∧ b = i then x else rR σ a b := rfl
theorem rI_wR {σ : St} {k i a b : Nat} {x : Option Nat} : rI (wR σ k i x) a b = rI σ a b := rfl
theorem sh_wR {σ : St} {k i a : Nat} {x : Option Nat} : sh (wR σ k i x) a = sh σ a := rfl
theorem z31 : ((0 : Int32) &&& 31) = 0 := by decide
section JB
variable {d : Nat} {Q : Option PV → St → Prop} {σ : St}
theorem j_isLat (h1 : rI σ 86 1 = 0) : Ca (d + 1) 227 [vR 86 0] σ Q ↔ Q (some (vI 1)) σ := by
  rw [ca_at (K := kJ5_isLatin1_aae02) (ls := [vR 86 0]) rfl rfl rfl]
  have n10 : ((1 : Int32) = 0) = False := eq_false (by decide)
  simp only [z_J5_isLatin1_aae02_0, z_J5_isLatin1_aae02_3, z_J5_isLatin1_aae02_6, z_J5_isLatin1_aae02_7, z_J5_isLatin1_aae02_10, z_J5_isLatin1_aae02_13, z_J5_isLatin1_aae02_14, z_J5_isLatin1_aae02_17, z_J5_isLatin1_aae02_18, n10, h1, rk_b1, true_and, Option.toList_some, Option.toList_none, List.cons_append, List.nil_append, is2IT, is2RT, if_true, if_false]
theorem j_newLen {o m p : Nat} (ho : o < 1000) (hm : m ≤ p) (hp : p < 1000) (h0 : 0 < p) : Ca (d + 1) 275 [vI (nI o), vI (nI m), vI (nI p)] σ Q ↔ Q (some (vI (nI (o + p)))) σ := by
  rw [ca_at (K := kJ8_newLength_cabcc) (ls := [vI (nI o), vI (nI m), vI (nI p), vU]) rfl rfl rfl]
  have e : max m p = p := Nat.max_eq_right hm
  have c1 : ¬ (nI (o + p) ≤ (0 : Int32)) := fun q => by have := (nI_leI (a := o + p) (b := 0) (by omega) (by decide)).mp q; omega
  have c2 : ¬ ((2147483639 : Int32) < nI (o + p)) := fun q => by have := (nI_ltI (a := 2147483639) (b := o + p) (by decide) (by omega)).mp q; omega
  simp (disch := first | exact is2I | exact is2R | omega) only [z_J8_newLength_cabcc_0, z_J8_newLength_cabcc_1, z_J8_newLength_cabcc_2, z_J8_newLength_cabcc_3, z_J8_newLength_cabcc_6, z_J8_newLength_cabcc_7, z_J8_newLength_cabcc_8, z_J8_newLength_cabcc_9, z_J8_newLength_cabcc_10, z_J8_newLength_cabcc_13, z_J8_newLength_cabcc_14, z_J8_newLength_cabcc_16, z_J8_newLength_cabcc_19, z_J8_newLength_cabcc_20, kMax, e, nI_add, c1, c2, true_and, Option.toList_some, Option.toList_none, List.cons_append, List.nil_append, is2IT, is2RT, if_true, if_false]
theorem j_newCap {L : List Nat} {k cap m : Nat} (h : SB σ L k cap) (hm : cap ≤ m) (hm2 : m ≤ 2 * cap + 2) : Ca (d + 2) 219 [vR 86 0, vI (nI m)] σ Q ↔ Q (some (vI (nI (2 * cap + 2)))) σ := by
  obtain ⟨h1, h2, h3, h4, h5, h6, -⟩ := h
  have kc := Kc_k h1
  rw [ca_at (K := kJ5_newCapacity_0f7a4) (ls := [vR 86 0, vI (nI m), vU, vU, vU, vU]) rfl rfl rfl]
  have es : nI m - nI cap = nI (m - cap) := pk_sub hm
  have e2 : (2 : Int32) <<< ((0 : Int32) &&& 31) = 2 := by decide
  have el : ∀ x : Int32, x <<< ((0 : Int32) &&& 31) = x := fun x => by rw [z31]; exact Int32.shiftLeft_zero
  have er : ∀ x : Int32, x >>> ((0 : Int32) &&& 31) = x := fun x => by rw [z31]; exact Int32.shiftRight_zero
  have nm : (nI (cap + (cap + 2)) = (2147483647 : Int32)) = False := eq_false (fun q => by have := (nI_eq (a := cap + (cap + 2)) (b := 2147483647) (by omega) (by decide)).mp q; omega)
  have e3 : cap + (cap + 2) = 2 * cap + 2 := by omega
  simp (disch := first | exact is2I | exact is2R | omega) only [z_J5_newCapacity_0f7a4_0, z_J5_newCapacity_0f7a4_1, z_J5_newCapacity_0f7a4_4, z_J5_newCapacity_0f7a4_4x, z_J5_newCapacity_0f7a4_5, z_J5_newCapacity_0f7a4_6, z_J5_newCapacity_0f7a4_7, z_J5_newCapacity_0f7a4_8, z_J5_newCapacity_0f7a4_11, z_J5_newCapacity_0f7a4_12, z_J5_newCapacity_0f7a4_13, z_J5_newCapacity_0f7a4_14, z_J5_newCapacity_0f7a4_15, z_J5_newCapacity_0f7a4_16, z_J5_newCapacity_0f7a4_18, z_J5_newCapacity_0f7a4_19, z_J5_newCapacity_0f7a4_21, z_J5_newCapacity_0f7a4_22, z_J5_newCapacity_0f7a4_23, z_J5_newCapacity_0f7a4_24, z_J5_newCapacity_0f7a4_27, z_J5_newCapacity_0f7a4_28, z_J5_newCapacity_0f7a4_29, z_J5_newCapacity_0f7a4_32, z_J5_newCapacity_0f7a4_34, z_J5_newCapacity_0f7a4_36, z_J5_newCapacity_0f7a4_38, z_J5_newCapacity_0f7a4_51, z_J5_newCapacity_0f7a4_53, z_J5_newCapacity_0f7a4_54, z_J5_newCapacity_0f7a4_57, z_J5_newCapacity_0f7a4_58, h2, h3, h4, kArr, el, er, es, kAL, j_newLen (show cap < 1000 by omega) (show m - cap ≤ cap + 2 by omega) (show cap + 2 < 1000 by omega) (show 0 < cap + 2 by omega), nm, e3, true_and, Option.toList_some, Option.toList_none, List.cons_append, List.nil_append, is2IT, is2RT, if_true, if_false]
  rw [e3] at nm
  simp (disch := first | exact is2I | exact is2R | omega) only [nm, er, true_and, Option.toList_some, Option.toList_none, List.cons_append, List.nil_append, is2IT, is2RT, if_true, if_false]
theorem j_copyOf {k cap n : Nat} (hs : sh σ k = (23, cap)) (hk : k < (sS σ).length) (hn : cap < n) (hn2 : n < 1000) (hQ : Q (some (vR (sS σ).length 23)) (cI (nw σ 23 n) k 0 (sS σ).length 0 cap)) : Ca (d + 1) 274 [vR k 23, vI (nI n)] σ Q := by
  rw [ca_at (K := kJ7_copyOf_9075b) (ls := [vR k 23, vI (nI n), vU]) rfl rfl rfl]
  have c1 : ¬ (n = cap) := by omega
  have g1 : (!(decide (nI n < 0)) && (decide ((nI n).toNatClampNeg ≤ 65536) && !(Nat.beq 23 98))) = true := by
    rw [kDecNeg (show n < 2 ^ 31 by omega), kCl (show n < 2 ^ 31 by omega), kDecLe (show n ≤ 65536 by omega)]; rfl
  have s1 : sh (nw σ 23 (nI n).toNatClampNeg) k = (23, cap) := by rw [sh_nw_o hk]; exact hs
  have s2 : sh (nw σ 23 (nI n).toNatClampNeg) (sS σ).length = (23, n) := by rw [sh_nw_s, kCl (show n < 2 ^ 31 by omega)]
  have em : (if nI n < nI cap then nI n else nI cap) = nI cap := if_neg (fun q => by have := (nI_ltI (a := n) (b := cap) (by omega) (by omega)).mp q; omega)
  have g2 : (!(decide ((0 : Int32) < 0)) && (!(decide ((0 : Int32) < 0)) && (!(decide (nI cap < 0)) && (decide ((0 : Int32).toNatClampNeg + (nI cap).toNatClampNeg ≤ cap) && (decide ((0 : Int32).toNatClampNeg + (nI cap).toNatClampNeg ≤ n) && true))))) = true := by
    rw [kDecNeg (show cap < 2 ^ 31 by omega), kCl (show cap < 2 ^ 31 by omega), show (0 : Int32).toNatClampNeg = 0 by decide, Nat.zero_add, kDecLe (Nat.le_refl cap), kDecLe (show cap ≤ n by omega)]; rfl
  simp (disch := first | exact is2I | exact is2R | omega) only [z_J7_copyOf_9075b_0, z_J7_copyOf_9075b_1, z_J7_copyOf_9075b_2, z_J7_copyOf_9075b_2x, z_J7_copyOf_9075b_3, z_J7_copyOf_9075b_14, z_J7_copyOf_9075b_15, z_J7_copyOf_9075b_17, z_J7_copyOf_9075b_18, z_J7_copyOf_9075b_19, z_J7_copyOf_9075b_20, z_J7_copyOf_9075b_21, z_J7_copyOf_9075b_22, z_J7_copyOf_9075b_23, z_J7_copyOf_9075b_23x, z_J7_copyOf_9075b_24, z_J7_copyOf_9075b_25, z_J7_copyOf_9075b_28b, z_J7_copyOf_9075b_31, z_J7_copyOf_9075b_32, hs, kArr, kEq, c1, g1, s1, s2, em, g2, true_and, Option.toList_some, Option.toList_none, List.cons_append, List.nil_append, is2IT, is2RT, if_true, if_false]
  rw [kCl (show n < 2 ^ 31 by omega), kCl (show cap < 2 ^ 31 by omega), show (0 : Int32).toNatClampNeg = 0 by decide]
  exact hQ
theorem j_ensure {L : List Nat} {k cap m : Nat} (h : SB σ L k cap) (hm : m ≤ 70) (hm2 : m ≤ L.length + 6) (hQ : ∀ σ' k' cap', SB σ' L k' cap' → m ≤ cap' → Fb σ σ' → Q none σ') : Ca (d + 3) 218 [vR 86 0, vI (nI m)] σ Q := by
  have h0 := h
  obtain ⟨h1, h2, h3, h4, h5, h6, h7⟩ := h
  have kc := Kc_k h1
  rw [ca_at (K := kJ5_ensureCapacityInternal_d00df) (ls := [vR 86 0, vI (nI m), vU]) rfl rfl rfl]
  have el : ∀ x : Int32, x <<< ((0 : Int32) &&& 31) = x := fun x => by rw [z31]; exact Int32.shiftLeft_zero
  have er : ∀ x : Int32, x >>> ((0 : Int32) &&& 31) = x := fun x => by rw [z31]; exact Int32.shiftRight_zero
  simp (disch := first | exact is2I | exact is2R | omega) only [z_J5_ensureCapacityInternal_d00df_0, z_J5_ensureCapacityInternal_d00df_1, z_J5_ensureCapacityInternal_d00df_4, z_J5_ensureCapacityInternal_d00df_4x, z_J5_ensureCapacityInternal_d00df_5, z_J5_ensureCapacityInternal_d00df_6, z_J5_ensureCapacityInternal_d00df_9, z_J5_ensureCapacityInternal_d00df_10, z_J5_ensureCapacityInternal_d00df_11, z_J5_ensureCapacityInternal_d00df_12, z_J5_ensureCapacityInternal_d00df_13, h2, h3, h4, kArr, er, true_and, Option.toList_some, Option.toList_none, List.cons_append, List.nil_append, is2IT, is2RT, if_true, if_false]
  by_cases c : m ≤ cap
  · have le : nI m - nI cap ≤ (0 : Int32) := by
      have e : (nI m - nI cap).toInt = (m : Int) - cap := pk_sub_toInt (by omega) (by omega)
      rw [Int32.le_iff_toInt_le, e]
      have : (0 : Int32).toInt = 0 := by decide
      omega
    simp (disch := first | exact is2I | exact is2R | omega) only [z_J5_ensureCapacityInternal_d00df_14, z_J5_ensureCapacityInternal_d00df_38, le, true_and, Option.toList_some, Option.toList_none, List.cons_append, List.nil_append, is2IT, is2RT, if_true, if_false]
    exact hQ σ k cap h0 c Fb_rf
  · have es : nI m - nI cap = nI (m - cap) := pk_sub (by omega)
    have le : ¬ (nI (m - cap) ≤ (0 : Int32)) := fun q => by have := (nI_leI (a := m - cap) (b := 0) (by omega) (by decide)).mp q; omega
    simp (disch := first | exact is2I | exact is2R | omega) only [z_J5_ensureCapacityInternal_d00df_14, z_J5_ensureCapacityInternal_d00df_17, z_J5_ensureCapacityInternal_d00df_18, z_J5_ensureCapacityInternal_d00df_19, z_J5_ensureCapacityInternal_d00df_22, z_J5_ensureCapacityInternal_d00df_23, z_J5_ensureCapacityInternal_d00df_24, z_J5_ensureCapacityInternal_d00df_27, z_J5_ensureCapacityInternal_d00df_28, z_J5_ensureCapacityInternal_d00df_31, z_J5_ensureCapacityInternal_d00df_32, es, le, h2, h4, el, j_newCap (d := d) h0 (show cap ≤ m by omega) (show m ≤ 2 * cap + 2 by omega), true_and, Option.toList_some, Option.toList_none, List.cons_append, List.nil_append, is2IT, is2RT, if_true, if_false]
    refine j_copyOf (d := d + 1) h3 kc.1 (by omega) (by omega) ?_
    simp (disch := first | exact is2I | exact is2R | omega) only [z_J5_ensureCapacityInternal_d00df_35, z_J5_ensureCapacityInternal_d00df_38, true_and, Option.toList_some, Option.toList_none, List.cons_append, List.nil_append, is2IT, is2RT, if_true, if_false]
    have hK : Kc (sS σ).length (2 * cap + 2) ((sS σ).length + 1) := by
      unfold Kc at h1 ⊢
      have c70 : cap < 70 := by omega
      omega
    have k2 := Kc_k hK
    have kn : k ≠ (sS σ).length := by omega
    refine hQ _ (sS σ).length (2 * cap + 2) ⟨?_, ?_, ?_, ?_, ?_, ?_, fun i hi => ?_⟩ (by omega) ⟨fun a i q1 q2 q3 => ?_, fun a i q1 => ?_, fun a b q1 q2 => ?_, fun a q1 => ?_, rfl, ?_⟩
    · show Kc _ _ (sS σ ++ [(23, 2 * cap + 2)]).length
      rw [List.length_append]; exact hK
    · rw [rR_wR, if_pos ⟨rfl, rfl⟩]
    · exact sh_nw_s
    · rw [rI_wR, rI_cI, if_neg (fun z => by omega), rI_nw, if_neg (by omega)]; exact h4
    · rw [rI_wR, rI_cI, if_neg (fun z => by omega), rI_nw, if_neg (by omega)]; exact h5
    · omega
    · rw [rI_wR, rI_cI, if_pos ⟨rfl, Nat.zero_le _, by omega⟩, rI_nw, if_neg kn, Nat.zero_add, Nat.sub_zero]; exact h7 i hi
    · rw [rI_wR, rI_cI, if_neg (fun z => by omega), rI_nw, if_neg (by omega)]
    · show rL (nw σ 23 (2 * cap + 2)) a i = _
      rw [rL_nw, if_neg (by omega)]
    · rw [rR_wR, if_neg (fun z => q2 z.1 z.2)]
      show rR (nw σ 23 (2 * cap + 2)) a b = _
      rw [rR_nw, if_neg (by omega)]
    · show sh (nw σ 23 (2 * cap + 2)) a = _
      rw [sh_nw_o (by omega)]
    · show ((sS σ ++ [(23, 2 * cap + 2)]).map Prod.snd).sum + 70 * (sS σ).length ≤ ((sS σ).map Prod.snd).sum + 70 * (sS σ ++ [(23, 2 * cap + 2)]).length
      rw [List.map_append, List.sum_append, List.length_append]
      simp only [List.map_cons, List.map_nil, List.sum_cons, List.sum_nil, List.length_cons, List.length_nil]
      omega
theorem nbyte : ∀ c, c < 128 → vp_nar .byte (nI c) = nI c := by decide +kernel
theorem i2b_c : ∀ c, c < 128 → (nI c).toInt8.toInt32 = nI c := by decide +kernel
/-- letters behind those that stand -/
theorem SB_put {L : List Nat} {k cap : Nat} (h : SB σ L k cap) (M : List Nat) (hc : L.length + M.length ≤ cap) {σ' : St} (hk : ∀ i, rI σ' k i = if L.length ≤ i ∧ i < L.length + M.length then nI (M.getD (i - L.length) 0) else rI σ k i) (h86 : rI σ' 86 1 = 0) (h863 : rI σ' 86 3 = nI (L.length + M.length)) (hR : rR σ' 86 0 = rR σ 86 0) (hs : sS σ' = sS σ) : SB σ' (L ++ M) k cap := by
  obtain ⟨h1, h2, h3, h4, h5, h6, h7⟩ := h
  refine ⟨by rw [hs]; exact h1, by rw [hR]; exact h2, by unfold sh; rw [hs]; exact h3, h86, by rw [h863, List.length_append], by rw [List.length_append]; exact hc, fun i hi => ?_⟩
  rw [List.length_append] at hi
  rw [hk]
  by_cases c : i < L.length
  · rw [if_neg (by omega), List.getElem_append_left c]; exact h7 i c
  · rw [if_pos ⟨by omega, hi⟩, List.getElem_append_right (by omega), List.getD_eq_getElem?_getD, List.getElem?_eq_getElem (by omega)]; rfl
theorem j_appC {L : List Nat} {k cap c : Nat} (h : SB σ L k cap) (hl : L.length < 60) (hc : c < 128) (hQ : ∀ σ' k' cap', SB σ' (L ++ [c]) k' cap' → Fb σ σ' → Q (some (vR 86 0)) σ') : Ca (d + 5) 246 [vR 86 0, vI (nI c)] σ Q := by
  rw [ca_at (K := kJ4_append_cf468) (ls := [vR 86 0, vI (nI c)]) rfl rfl rfl]
  simp (disch := first | exact is2I | exact is2R | omega) only [z_J4_append_cf468_0, z_J4_append_cf468_1, z_J4_append_cf468_2, true_and, Option.toList_some, Option.toList_none, List.cons_append, List.nil_append, is2IT, is2RT, if_true, if_false]
  rw [ca_at (K := kJ5_append_3fe6f) (ls := [vR 86 0, vI (nI c)]) rfl rfl rfl]
  have h5 := h.2.2.2.2.1
  simp (disch := first | exact is2I | exact is2R | omega) only [z_J5_append_3fe6f_0, z_J5_append_3fe6f_1, z_J5_append_3fe6f_2, z_J5_append_3fe6f_5, z_J5_append_3fe6f_6, z_J5_append_3fe6f_7, h5, kAL, true_and, Option.toList_some, Option.toList_none, List.cons_append, List.nil_append, is2IT, is2RT, if_true, if_false]
  refine j_ensure (d := d) h (by omega) (by omega) (fun σ1 k1 cap1 g1 g2 g3 => ?_)
  have g1' := g1
  obtain ⟨a1, a2, a3, a4, a5, a6, a7⟩ := g1
  have kc := Kc_k a1
  have n10 : ((1 : Int32) = 0) = False := eq_false (by decide)
  have ce : ∀ Q : Option PV → St → Prop, Ca (d + 3) 252 [vI (nI c)] σ1 Q ↔ Q (some (vI 1)) σ1 := fun Q => by
    rw [ca_at (K := kJ1_canEncode_fc78d) (ls := [vI (nI c)]) rfl rfl rfl]
    have c5 : ¬ (255 < c) := by omega
    simp (disch := first | exact is2I | exact is2R | omega) only [z_J1_canEncode_fc78d_0, z_J1_canEncode_fc78d_1, z_J1_canEncode_fc78d_4, z_J1_canEncode_fc78d_7, z_J1_canEncode_fc78d_8, z_J1_canEncode_fc78d_11, z_J1_canEncode_fc78d_12, kLLt, c5, rk_b1, true_and, Option.toList_some, Option.toList_none, List.cons_append, List.nil_append, is2IT, is2RT, if_true, if_false]
  have s2 : sh (wI σ1 86 3 (nI (L.length + 1))) k1 = (23, cap1) := a3
  simp (disch := first | exact is2I | exact is2R | omega) only [z_J5_append_3fe6f_10, z_J5_append_3fe6f_11, z_J5_append_3fe6f_14, z_J5_append_3fe6f_17, z_J5_append_3fe6f_18, z_J5_append_3fe6f_21, z_J5_append_3fe6f_24, z_J5_append_3fe6f_25, z_J5_append_3fe6f_28, z_J5_append_3fe6f_29, z_J5_append_3fe6f_30, z_J5_append_3fe6f_33, z_J5_append_3fe6f_34, z_J5_append_3fe6f_35, z_J5_append_3fe6f_36, z_J5_append_3fe6f_39, z_J5_append_3fe6f_40, z_J5_append_3fe6f_41, z_J5_append_3fe6f_42, z_J5_append_3fe6f_75, z_J5_append_3fe6f_76, j_isLat a4, n10, ce, a2, a5, rR_wI, kAL, s2, kIn, kCl, i2b_c c hc, nbyte c hc, Option.toList_none, List.nil_append, true_and, Option.toList_some, Option.toList_none, List.cons_append, List.nil_append, is2IT, is2RT, if_true, if_false]
  simp (disch := first | exact is2I | exact is2R | omega) only [z_J4_append_cf468_5, z_J4_append_cf468_6, z_J4_append_cf468_7, Option.toList_some, List.cons_append, List.nil_append, true_and, Option.toList_some, Option.toList_none, List.cons_append, List.nil_append, is2IT, is2RT, if_true, if_false]
  have k86 : k1 ≠ 86 := by omega
  refine hQ _ k1 cap1 (SB_put g1' [c] (by show L.length + 1 ≤ cap1; omega) (fun i => ?_) ?_ ?_ rfl rfl) (Fb_tr g3 (Fb_tr (Fb_wI (Or.inl rfl)) (Fb_wI (Or.inr kc.2.1))))
  · show _ = if L.length ≤ i ∧ i < L.length + 1 then _ else _
    rw [rI_wI]
    by_cases e : i = L.length
    · rw [if_pos ⟨rfl, e⟩, if_pos ⟨by omega, by omega⟩, e, Nat.sub_self]; rfl
    · rw [if_neg (fun q => e q.2), if_neg (by omega), rI_wI_n k86]
  · rw [rI_wI_n (fun q => k86 q.symm), rI_wI, if_neg (fun q => absurd q.2 (by decide))]; exact a4
  · rw [rI_wI_n (fun q => k86 q.symm), rI_wI, if_pos ⟨rfl, rfl⟩]; rfl
theorem j_size {n : Nat} (hn : n < 10) : Ca (d + 1) 231 [vI (nI n)] σ Q ↔ Q (some (vI 1)) σ := by
  rw [ca_at (K := kJ6_stringSize_0f7a4) (ls := [vI (nI n), vU, vU, vU]) rfl rfl rfl]
  have c0 : ¬ (nI n < 0) := nI_pos (by omega)
  have c1 : ¬ ((10 : Int32) ≤ 1) := by decide
  have c2 : ∀ n, n < 10 → ¬ (-nI n ≤ (-10 : Int32)) := by decide
  have e1 : (1 : Int32) + 0 = 1 := by decide
  have c2n := c2 n hn
  simp (disch := first | exact is2I | exact is2R | omega) only [z_J6_stringSize_0f7a4_0, z_J6_stringSize_0f7a4_1, z_J6_stringSize_0f7a4_2, z_J6_stringSize_0f7a4_3, z_J6_stringSize_0f7a4_6, z_J6_stringSize_0f7a4_7, z_J6_stringSize_0f7a4_8, z_J6_stringSize_0f7a4_9, z_J6_stringSize_0f7a4_10, z_J6_stringSize_0f7a4_11, z_J6_stringSize_0f7a4_13, z_J6_stringSize_0f7a4_14, z_J6_stringSize_0f7a4_15, z_J6_stringSize_0f7a4_16, z_J6_stringSize_0f7a4_17, z_J6_stringSize_0f7a4_19, z_J6_stringSize_0f7a4_22, z_J6_stringSize_0f7a4_23, z_J6_stringSize_0f7a4_24, z_J6_stringSize_0f7a4_27, z_J6_stringSize_0f7a4_28, z_J6_stringSize_0f7a4_29, z_J6_stringSize_0f7a4_30, c0, c1, c2n, e1, true_and, Option.toList_some, Option.toList_none, List.cons_append, List.nil_append, is2IT, is2RT, if_true, if_false]
theorem j_digit {k p n : Nat} {cap : Nat} (hs : sh σ k = (23, cap)) (hn : n < 10) (hp : p < cap) (hc : cap < 1000) : Ca (d + 1) 230 [vI (nI n), vI (nI (p + 1)), vR k 23] σ Q ↔ Q (some (vI (nI p))) (wI σ k p (nI (48 + n))) := by
  rw [ca_at (K := kJ6_getChars_ba4f3) (ls := [vI (nI n), vI (nI (p + 1)), vR k 23, vU, vU, vU, vU]) rfl rfl rfl]
  have c0 : 0 ≤ nI n := nI_pos' (by omega)
  have c1 : ∀ n, n < 10 → (-100 : Int32) < -nI n := by decide
  have c2 : ∀ n, n < 10 → (-9 : Int32) ≤ -nI n := by decide
  have c1n := c1 n hn
  have c2n := c2 n hn
  have en : - -nI n = nI n := Int32.neg_neg
  have es : nI (p + 1) + (-1 : Int32) = nI p := by rw [show nI (p + 1) = nI p + 1 from (nI_add p 1).symm, Int32.add_assoc, show (1 : Int32) + -1 = 0 by decide, Int32.add_zero]
  have x1 : (xa σ 42 0).1 = 100 := rfl
  have x2 : (xa σ 42 0).2 n = nI (48 + n % 10) := rfl
  have n3 : 48 + n % 10 = 48 + n := by omega
  simp (disch := first | exact is2I | exact is2R | omega) only [z_J6_getChars_ba4f3_0, z_J6_getChars_ba4f3_1, z_J6_getChars_ba4f3_3, z_J6_getChars_ba4f3_4, z_J6_getChars_ba4f3_7, z_J6_getChars_ba4f3_8, z_J6_getChars_ba4f3_11, z_J6_getChars_ba4f3_12, z_J6_getChars_ba4f3_14, z_J6_getChars_ba4f3_16, z_J6_getChars_ba4f3_19, z_J6_getChars_ba4f3_20, z_J6_getChars_ba4f3_21, z_J6_getChars_ba4f3_22, z_J6_getChars_ba4f3_23, z_J6_getChars_ba4f3_25, z_J6_getChars_ba4f3_72, z_J6_getChars_ba4f3_73, z_J6_getChars_ba4f3_76, z_J6_getChars_ba4f3_78, z_J6_getChars_ba4f3_81, z_J6_getChars_ba4f3_82, z_J6_getChars_ba4f3_83o, z_J6_getChars_ba4f3_84, z_J6_getChars_ba4f3_85, z_J6_getChars_ba4f3_86, z_J6_getChars_ba4f3_88, z_J6_getChars_ba4f3_104, z_J6_getChars_ba4f3_106, z_J6_getChars_ba4f3_118, z_J6_getChars_ba4f3_120, c0, c1n, c2n, en, es, x1, x2, n3, kIn, kCl, hs, nbyte (48 + n) (by omega), true_and, Option.toList_some, Option.toList_none, List.cons_append, List.nil_append, is2IT, is2RT, if_true, if_false]
theorem j_appI {L : List Nat} {k cap n : Nat} (h : SB σ L k cap) (hl : L.length < 60) (hn : n < 10) (hQ : ∀ σ' k' cap', SB σ' (L ++ [48 + n]) k' cap' → Fb σ σ' → Q (some (vR 86 0)) σ') : Ca (d + 5) 247 [vR 86 0, vI (nI n)] σ Q := by
  rw [ca_at (K := kJ4_append_bf812) (ls := [vR 86 0, vI (nI n)]) rfl rfl rfl]
  simp (disch := first | exact is2I | exact is2R | omega) only [z_J4_append_bf812_0, z_J4_append_bf812_1, z_J4_append_bf812_2, true_and, Option.toList_some, Option.toList_none, List.cons_append, List.nil_append, is2IT, is2RT, if_true, if_false]
  rw [ca_at (K := kJ5_append_c97b9) (ls := [vR 86 0, vI (nI n), vU, vU]) rfl rfl rfl]
  have h5 := h.2.2.2.2.1
  simp (disch := first | exact is2I | exact is2R | omega) only [z_J5_append_c97b9_0, z_J5_append_c97b9_1, z_J5_append_c97b9_4, z_J5_append_c97b9_5, z_J5_append_c97b9_6, z_J5_append_c97b9_7, z_J5_append_c97b9_10, z_J5_append_c97b9_11, z_J5_append_c97b9_12, z_J5_append_c97b9_13, z_J5_append_c97b9_14, h5, j_size hn, kAL, true_and, Option.toList_some, Option.toList_none, List.cons_append, List.nil_append, is2IT, is2RT, if_true, if_false]
  refine j_ensure (d := d) h (by omega) (by omega) (fun σ1 k1 cap1 g1 g2 g3 => ?_)
  have g1' := g1
  obtain ⟨a1, a2, a3, a4, a5, a6, a7⟩ := g1
  have kc := Kc_k a1
  have n10 : ((1 : Int32) = 0) = False := eq_false (by decide)
  simp (disch := first | exact is2I | exact is2R | omega) only [z_J5_append_c97b9_17, z_J5_append_c97b9_18, z_J5_append_c97b9_21, z_J5_append_c97b9_24, z_J5_append_c97b9_25, z_J5_append_c97b9_26, z_J5_append_c97b9_27, z_J5_append_c97b9_30, z_J5_append_c97b9_33, z_J5_append_c97b9_34, z_J5_append_c97b9_48, z_J5_append_c97b9_49, z_J5_append_c97b9_50, z_J5_append_c97b9_53, z_J5_append_c97b9_54, j_isLat a4, n10, a2, j_digit (p := L.length) a3 hn (by omega) (by omega), rR_wI, Option.toList_none, List.nil_append, true_and, Option.toList_some, Option.toList_none, List.cons_append, List.nil_append, is2IT, is2RT, if_true, if_false]
  simp (disch := first | exact is2I | exact is2R | omega) only [z_J4_append_bf812_5, z_J4_append_bf812_6, z_J4_append_bf812_7, Option.toList_some, List.cons_append, List.nil_append, true_and, Option.toList_some, Option.toList_none, List.cons_append, List.nil_append, is2IT, is2RT, if_true, if_false]
  have k86 : k1 ≠ 86 := by omega
  refine hQ _ k1 cap1 (SB_put g1' [48 + n] (by show L.length + 1 ≤ cap1; omega) (fun i => ?_) ?_ ?_ rfl rfl) (Fb_tr g3 (Fb_tr (Fb_wI (Or.inr kc.2.1)) (Fb_wI (Or.inl rfl))))
  · show _ = if L.length ≤ i ∧ i < L.length + 1 then _ else _
    rw [rI_wI_n k86, rI_wI]
    by_cases e : i = L.length
    · rw [if_pos ⟨rfl, e⟩, if_pos ⟨by omega, by omega⟩, e, Nat.sub_self]; rfl
    · rw [if_neg (fun q => e q.2), if_neg (by omega)]
  · rw [rI_wI, if_neg (fun q => absurd q.2 (by decide)), rI_wI_n (fun q => k86 q.symm)]; exact a4
  · rw [rI_wI, if_pos ⟨rfl, rfl⟩]; rfl
theorem j_appS {L : List Nat} {k cap t : Nat} (h : SB σ L k cap) (hl : L.length < 60) (ht : t < 15) (hQ : ∀ σ' k' cap', SB σ' (L ++ txL t) k' cap' → Fb σ σ' → Q (some (vR 86 0)) σ') : Ca (d + 5) 245 [vR 86 0, vR t 46] σ Q := by
  have l6 := tx_6 t ht
  rw [ca_at (K := kJ4_append_15ec4) (ls := [vR 86 0, vR t 46]) rfl rfl rfl]
  simp (disch := first | exact is2I | exact is2R | omega) only [z_J4_append_15ec4_0, z_J4_append_15ec4_1, z_J4_append_15ec4_2, true_and, Option.toList_some, Option.toList_none, List.cons_append, List.nil_append, is2IT, is2RT, if_true, if_false]
  rw [ca_at (K := kJ5_append_cf1ce) (ls := [vR 86 0, vR t 46, vU]) rfl rfl rfl]
  have h5 := h.2.2.2.2.1
  simp (disch := first | exact is2I | exact is2R | omega) only [z_J5_append_cf1ce_0, z_J5_append_cf1ce_1, z_J5_append_cf1ce_9, z_J5_append_cf1ce_10, z_J5_append_cf1ce_13, z_J5_append_cf1ce_14, z_J5_append_cf1ce_15, z_J5_append_cf1ce_16, z_J5_append_cf1ce_19, z_J5_append_cf1ce_20, z_J5_append_cf1ce_21, h5, j_len, nI_add, true_and, Option.toList_some, Option.toList_none, List.cons_append, List.nil_append, is2IT, is2RT, if_true, if_false]
  refine j_ensure (d := d) h (by omega) (by omega) (fun σ1 k1 cap1 g1 g2 g3 => ?_)
  have g1' := g1
  obtain ⟨a1, a2, a3, a4, a5, a6, a7⟩ := g1
  have kc := Kc_k a1
  have k86 : k1 ≠ 86 := by omega
  have put : ∀ Q : Option PV → St → Prop, Ca (d + 3) 229 [vR 86 0, vI (nI L.length), vR t 46] σ1 Q ↔ Q none (cX σ1 t 0 k1 L.length (txL t).length) := fun Q => by
    rw [ca_at (K := kJ5_putStringAt_47b60) (ls := [vR 86 0, vI (nI L.length), vR t 46]) rfl rfl rfl]
    have infl : ∀ Q : Option PV → St → Prop, Ca (d + 2) 228 [vR 86 0, vR t 46] σ1 Q ↔ Q none σ1 := fun Q => by
      have n10 : ((1 : Int32) = 0) = False := eq_false (by decide)
      rw [ca_at (K := kJ5_inflateIfNeededFor_a7421) (ls := [vR 86 0, vR t 46]) rfl rfl rfl]
      simp (disch := first | exact is2I | exact is2R | omega) only [z_J5_inflateIfNeededFor_a7421_0, z_J5_inflateIfNeededFor_a7421_3, z_J5_inflateIfNeededFor_a7421_6, z_J5_inflateIfNeededFor_a7421_7, z_J5_inflateIfNeededFor_a7421_10, z_J5_inflateIfNeededFor_a7421_11, z_J5_inflateIfNeededFor_a7421_14, z_J5_inflateIfNeededFor_a7421_21, n10, a4, j_coder, true_and, Option.toList_some, Option.toList_none, List.cons_append, List.nil_append, is2IT, is2RT, if_true, if_false]
    have gb : ∀ Q : Option PV → St → Prop, Ca (d + 2) 238 [vR t 46, vR k1 23, vI (nI L.length), vI 0] σ1 Q ↔ Q none (cX σ1 t 0 k1 L.length (txL t).length) := fun Q => by
      rw [ca_at (K := kJ0_getBytes_840e7) (ls := [vR t 46, vR k1 23, vI (nI L.length), vI 0]) rfl rfl rfl]
      have el : ∀ x : Int32, x <<< ((0 : Int32) &&& 31) = x := fun x => by rw [z31]; exact Int32.shiftLeft_zero
      have e2 : (xa σ1 44 t).1 = (txL t).length := rfl
      have g : (!(decide ((0 : Int32) < 0)) && (!(decide (nI L.length < 0)) && (!(decide (nI (txL t).length < 0)) && (decide ((0 : Int32).toNatClampNeg + (nI (txL t).length).toNatClampNeg ≤ (txL t).length) && (decide ((nI L.length).toNatClampNeg + (nI (txL t).length).toNatClampNeg ≤ cap1) && true))))) = true := by
        rw [kDecNeg (show L.length < 2 ^ 31 by omega), kDecNeg (show (txL t).length < 2 ^ 31 by omega), kCl (show L.length < 2 ^ 31 by omega), kCl (show (txL t).length < 2 ^ 31 by omega), show (0 : Int32).toNatClampNeg = 0 by decide, Nat.zero_add, kDecLe (Nat.le_refl _), kDecLe (show L.length + (txL t).length ≤ cap1 by omega)]; rfl
      simp (disch := first | exact is2I | exact is2R | omega) only [z_J0_getBytes_840e7_0, z_J0_getBytes_840e7_1, z_J0_getBytes_840e7_4, z_J0_getBytes_840e7_5, z_J0_getBytes_840e7_8, z_J0_getBytes_840e7_9, z_J0_getBytes_840e7_12, z_J0_getBytes_840e7_13, z_J0_getBytes_840e7_14, z_J0_getBytes_840e7_15, z_J0_getBytes_840e7_16, z_J0_getBytes_840e7_17, z_J0_getBytes_840e7_18, z_J0_getBytes_840e7_21x, z_J0_getBytes_840e7_22x, z_J0_getBytes_840e7_25, z_J0_getBytes_840e7_43, j_coder, el, e2, kArr, a3, g, true_and, Option.toList_some, Option.toList_none, List.cons_append, List.nil_append, is2IT, is2RT, if_true, if_false]
      rw [kCl (show L.length < 2 ^ 31 by omega), kCl (show (txL t).length < 2 ^ 31 by omega), show (0 : Int32).toNatClampNeg = 0 by decide]
    simp (disch := first | exact is2I | exact is2R | omega) only [z_J5_putStringAt_47b60_0, z_J5_putStringAt_47b60_1, z_J5_putStringAt_47b60_2, z_J5_putStringAt_47b60_5, z_J5_putStringAt_47b60_6, z_J5_putStringAt_47b60_7, z_J5_putStringAt_47b60_10, z_J5_putStringAt_47b60_11, z_J5_putStringAt_47b60_12, z_J5_putStringAt_47b60_15, z_J5_putStringAt_47b60_18, infl, gb, a2, a4, Option.toList_none, List.nil_append, true_and, Option.toList_some, Option.toList_none, List.cons_append, List.nil_append, is2IT, is2RT, if_true, if_false]
  have r5 : rI (cX σ1 t 0 k1 L.length (txL t).length) 86 3 = nI L.length := by
    show (if 86 = k1 ∧ _ then _ else rI σ1 86 3) = _
    rw [if_neg (fun q => k86 q.1.symm)]; exact a5
  simp (disch := first | exact is2I | exact is2R | omega) only [z_J5_append_cf1ce_24, z_J5_append_cf1ce_25, z_J5_append_cf1ce_26, z_J5_append_cf1ce_29, z_J5_append_cf1ce_30, z_J5_append_cf1ce_33, z_J5_append_cf1ce_34, z_J5_append_cf1ce_35, z_J5_append_cf1ce_38, z_J5_append_cf1ce_39, z_J5_append_cf1ce_40, z_J5_append_cf1ce_43, z_J5_append_cf1ce_44, a5, put, r5, nI_add, Option.toList_none, List.nil_append, true_and, Option.toList_some, Option.toList_none, List.cons_append, List.nil_append, is2IT, is2RT, if_true, if_false]
  simp (disch := first | exact is2I | exact is2R | omega) only [z_J4_append_15ec4_5, z_J4_append_15ec4_6, z_J4_append_15ec4_7, Option.toList_some, List.cons_append, List.nil_append, true_and, Option.toList_some, Option.toList_none, List.cons_append, List.nil_append, is2IT, is2RT, if_true, if_false]
  have rX : ∀ a i, rI (cX σ1 t 0 k1 L.length (txL t).length) a i = if a = k1 ∧ L.length ≤ i ∧ i < L.length + (txL t).length then nI ((txL t).getD (0 + (i - L.length)) 0) else rI σ1 a i := fun _ _ => rfl
  refine hQ _ k1 cap1 (SB_put g1' (txL t) (by omega) (fun i => ?_) ?_ ?_ rfl rfl) (Fb_tr g3 (Fb_tr (show Fb σ1 (cX σ1 t 0 k1 L.length (txL t).length) from ⟨fun a i q1 q2 q3 => ?_, fun _ _ _ => rfl, fun _ _ _ _ => rfl, fun _ _ => rfl, rfl, Sz_eq rfl⟩) (Fb_wI (Or.inl rfl))))
  · rw [rI_wI_n k86, rX, Nat.zero_add]
    by_cases e : L.length ≤ i ∧ i < L.length + (txL t).length
    · rw [if_pos ⟨rfl, e⟩, if_pos e]
    · rw [if_neg (fun q => e q.2), if_neg e]
  · rw [rI_wI, if_neg (fun q => absurd q.2 (by decide)), rX, if_neg (fun q => k86 q.1.symm)]; exact a4
  · rw [rI_wI, if_pos ⟨rfl, rfl⟩]
  · rw [rX, if_neg (fun q => by omega)]
theorem j_setLen (h : SB0 σ) (hQ : ∀ σ' k cap, SB σ' [] k cap → Fb σ σ' → Q none σ') : Ca (d + 5) 249 [vR 86 0, vI 0] σ Q := by
  obtain ⟨k, cap, c, h1, h2, h3, h4, h5, h6⟩ := h
  have kc := Kc_k h1
  rw [ca_at (K := kJ4_setLength_d00df) (ls := [vR 86 0, vI 0]) rfl rfl rfl]
  simp (disch := first | exact is2I | exact is2R | omega) only [z_J4_setLength_d00df_0, z_J4_setLength_d00df_1, z_J4_setLength_d00df_2, true_and, Option.toList_some, Option.toList_none, List.cons_append, List.nil_append, is2IT, is2RT, if_true, if_false]
  rw [ca_at (K := kJ5_setLength_d00df) (ls := [vR 86 0, vI 0]) rfl rfl rfl]
  have g0 : (0 : Int32) ≤ 0 := by decide
  have er : ∀ x : Int32, x >>> ((0 : Int32) &&& 31) = x := fun x => by rw [z31]; exact Int32.shiftRight_zero
  have le : (0 : Int32) - nI cap ≤ (0 : Int32) := by
    have e : ((0 : Int32) - nI cap).toInt = ((0 : Nat) : Int) - cap := pk_sub_toInt (a := 0) (by omega) (by omega)
    rw [Int32.le_iff_toInt_le, e]
    have : (0 : Int32).toInt = 0 := by decide
    omega
  have ens : ∀ Q : Option PV → St → Prop, Ca (d + 3) 218 [vR 86 0, vI 0] σ Q ↔ Q none σ := fun Q => by
    rw [ca_at (K := kJ5_ensureCapacityInternal_d00df) (ls := [vR 86 0, vI 0, vU]) rfl rfl rfl]
    simp (disch := first | exact is2I | exact is2R | omega) only [z_J5_ensureCapacityInternal_d00df_0, z_J5_ensureCapacityInternal_d00df_1, z_J5_ensureCapacityInternal_d00df_4, z_J5_ensureCapacityInternal_d00df_4x, z_J5_ensureCapacityInternal_d00df_5, z_J5_ensureCapacityInternal_d00df_6, z_J5_ensureCapacityInternal_d00df_9, z_J5_ensureCapacityInternal_d00df_10, z_J5_ensureCapacityInternal_d00df_11, z_J5_ensureCapacityInternal_d00df_12, z_J5_ensureCapacityInternal_d00df_13, z_J5_ensureCapacityInternal_d00df_14, z_J5_ensureCapacityInternal_d00df_38, h2, h3, h4, kArr, er, le, true_and, Option.toList_some, Option.toList_none, List.cons_append, List.nil_append, is2IT, is2RT, if_true, if_false]
  have ge : (0 : Int32) ≤ nI c := nI_pos' (by omega)
  simp (disch := first | exact is2I | exact is2R | omega) only [z_J5_setLength_d00df_0, z_J5_setLength_d00df_1, z_J5_setLength_d00df_13, z_J5_setLength_d00df_14, z_J5_setLength_d00df_15, z_J5_setLength_d00df_18, z_J5_setLength_d00df_19, z_J5_setLength_d00df_22, z_J5_setLength_d00df_23, z_J5_setLength_d00df_63, z_J5_setLength_d00df_64, z_J5_setLength_d00df_67, z_J5_setLength_d00df_68, g0, ens, h5, ge, Option.toList_none, List.nil_append, true_and, Option.toList_some, Option.toList_none, List.cons_append, List.nil_append, is2IT, is2RT, if_true, if_false]
  have fin : ∀ σ1, (∀ a i, ¬ (a = 86 ∧ i = 2) → rI σ1 a i = rI σ a i) → Fb σ σ1 → rR σ1 86 0 = rR σ 86 0 → sS σ1 = sS σ → At (d + 3) kJ5_setLength_d00df 76 [vR 86 0, vI 0] [] σ1 (fun r σ2 => At (d + 4) kJ4_setLength_d00df 5 [vR 86 0, vI 0] (r.toList ++ []) σ2 Q) := fun σ1 g1 g2 g3 g4 => by
    simp (disch := first | exact is2I | exact is2R | omega) only [z_J5_setLength_d00df_76, z_J5_setLength_d00df_77, z_J5_setLength_d00df_78, z_J5_setLength_d00df_81, z_J4_setLength_d00df_5, Option.toList_none, List.nil_append, true_and, Option.toList_some, Option.toList_none, List.cons_append, List.nil_append, is2IT, is2RT, if_true, if_false]
    refine hQ _ k cap ⟨by rw [show sS (wI σ1 86 3 0) = sS σ from g4]; exact h1, by rw [rR_wI, g3]; exact h2, by unfold sh; rw [show sS (wI σ1 86 3 0) = sS σ from g4]; exact h3, by rw [rI_wI, if_neg (fun q => absurd q.2 (by decide)), g1 _ _ (by decide)]; exact h4, by rw [rI_wI, if_pos ⟨rfl, rfl⟩]; rfl, Nat.zero_le _, fun i hi => absurd hi (Nat.not_lt_zero i)⟩ (Fb_tr g2 (Fb_wI (Or.inl rfl)))
  by_cases c0 : nI c ≤ (0 : Int32)
  · rw [if_pos c0]
    exact fin σ (fun _ _ _ => rfl) Fb_rf rfl rfl
  · rw [if_neg c0]
    simp (disch := first | exact is2I | exact is2R | omega) only [z_J5_setLength_d00df_71, z_J5_setLength_d00df_72, z_J5_setLength_d00df_73, show (narOK 2 1 = true) = True from eq_true rfl, true_and, Option.toList_some, Option.toList_none, List.cons_append, List.nil_append, is2IT, is2RT, if_true, if_false]
    exact fin _ (fun a i q => by rw [rI_wI, if_neg q]) (Fb_wI (Or.inl rfl)) rfl rfl
theorem j_sbLen {L : List Nat} {k cap : Nat} (h : SB σ L k cap) : Ca (d + 2) 250 [vR 86 0] σ Q ↔ Q (some (vI (nI L.length))) σ := by
  rw [ca_at (K := kJ4_length_8abf5) (ls := [vR 86 0]) rfl rfl rfl]
  simp (disch := first | exact is2I | exact is2R | omega) only [z_J4_length_8abf5_0, z_J4_length_8abf5_1, true_and, Option.toList_some, Option.toList_none, List.cons_append, List.nil_append, is2IT, is2RT, if_true, if_false]
  rw [ca_at (K := kJ5_length_8abf5) (ls := [vR 86 0]) rfl rfl rfl]
  simp (disch := first | exact is2I | exact is2R | omega) only [z_J5_length_8abf5_0, z_J5_length_8abf5_1, z_J5_length_8abf5_4, z_J4_length_8abf5_4, h.2.2.2.2.1, Option.toList_some, List.cons_append, List.nil_append, true_and, Option.toList_some, Option.toList_none, List.cons_append, List.nil_append, is2IT, is2RT, if_true, if_false]
theorem j_sbChar {L : List Nat} {k cap i : Nat} (h : SB σ L k cap) (hi : i < L.length) (h8 : L[i] < 256) : Ca (d + 4) 248 [vR 86 0, vI (nI i)] σ Q ↔ Q (some (vI (nI L[i]))) σ := by
  obtain ⟨a1, a2, a3, a4, a5, a6, a7⟩ := h
  have kc := Kc_k a1
  have er : ∀ x : Int32, x >>> ((0 : Int32) &&& 31) = x := fun x => by rw [z31]; exact Int32.shiftRight_zero
  have em : (if nI cap < nI L.length then nI cap else nI L.length) = nI L.length := if_neg (fun q => by have := (nI_ltI (a := cap) (b := L.length) (by omega) (by omega)).mp q; omega)
  rw [ca_at (K := kJ4_charAt_5068e) (ls := [vR 86 0, vI (nI i)]) rfl rfl rfl]
  simp (disch := first | exact is2I | exact is2R | omega) only [z_J4_charAt_5068e_0, z_J4_charAt_5068e_1, z_J4_charAt_5068e_2, true_and, Option.toList_some, Option.toList_none, List.cons_append, List.nil_append, is2IT, is2RT, if_true, if_false]
  rw [ca_at (K := kJ5_charAt_5068e) (ls := [vR 86 0, vI (nI i), vU, vU, vU]) rfl rfl rfl]
  simp (disch := first | exact is2I | exact is2R | omega) only [z_J5_charAt_5068e_0, z_J5_charAt_5068e_1, z_J5_charAt_5068e_4, z_J5_charAt_5068e_5, z_J5_charAt_5068e_6, z_J5_charAt_5068e_9, z_J5_charAt_5068e_10, z_J5_charAt_5068e_11, z_J5_charAt_5068e_14, z_J5_charAt_5068e_15, z_J5_charAt_5068e_15x, z_J5_charAt_5068e_16, z_J5_charAt_5068e_17, z_J5_charAt_5068e_18, z_J5_charAt_5068e_21, z_J5_charAt_5068e_23, z_J5_charAt_5068e_24, z_J5_charAt_5068e_26, z_J5_charAt_5068e_29, z_J5_charAt_5068e_30, z_J5_charAt_5068e_33, z_J5_charAt_5068e_34, z_J5_charAt_5068e_35b, z_J5_charAt_5068e_36, z_J5_charAt_5068e_39, z_J5_charAt_5068e_40, z_J5_charAt_5068e_41, z_J4_charAt_5068e_5, a2, a3, a4, a5, kArr, er, em, j_chk hi (show L.length < 1000 by omega), kIn, kCl, a7 i hi, byt L[i] h8, byk L[i] h8, Option.toList_none, List.nil_append, true_and, Option.toList_some, Option.toList_none, List.cons_append, List.nil_append, is2IT, is2RT, if_true, if_false]
end JB
