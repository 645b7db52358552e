/-! ===== worlds: the numbers ===== -/
abbrev Wd : Type := Nat → Nat
def up (ω : Wd) (k v : Nat) : Wd := fun i => if i = k then v else ω i
theorem up_s {ω : Wd} {k v : Nat} : up ω k v k = v := if_pos rfl
theorem up_n {ω : Wd} {k v i : Nat} (h : i ≠ k) : up ω k v i = ω i := if_neg h
def xP (N : Net) (ω : Wd) (k : Nat) : Nat := match nP N k with | none => 0 | some p => ω p
def yQ (N : Net) (ω : Wd) (k : Nat) : Nat := match nQ N k with | none => 0 | some q => ω q
def sP (N : Net) (k : Nat) : Nat := match nP N k with | none => 1 | some p => nS N p
def sQ (N : Net) (k : Nat) : Nat := match nQ N k with | none => 1 | some q => nS N q
def madeN (N : Net) (k x y : Nat) : Nat := if nK N k = 3 then (x + y) % nS N k else (let z := if nQ N k = none then x else if nK N k = 1 then max x y else min x y; min z (nS N k - 1))
def tabN (N : Net) (k x y v : Nat) : Nat := if nK N k = 0 then nT N k (x * sQ N k + y) v else if v = madeN N k x y then 12 else 0
def numW (N : Net) (ω : Wd) (k v : Nat) : Nat := match nD N k with | some d => if v = d then 12 else 0 | none => tabN N k (xP N ω k) (yQ N ω k) v
def facW (N : Net) (ω : Wd) (k v : Nat) : Nat := match nF1 N k with | some f => if v = f then numW N ω k v * nH N k v else 0 | none => numW N ω k v * nH N k v
theorem rowsN_s {N : Net} {k : Nat} : rowsN N k = sP N k * sQ N k := rfl
/-- a world's low nodes stand in an array -/
def Wld (σ : St) (a : Nat) (N : Net) (ω : Wd) (k : Nat) : Prop := ∀ i, i < k → rI σ a i = nI (ω i) ∧ ω i < nS N i
theorem NV_sv {N : Net} (h : NV N) {k : Nat} (hk : k < nM N) : nS N k = 2 ∨ nS N k = 3 := (h.2 k hk).1
theorem tab_in {N : Net} (h : NV N) {k : Nat} (hk : k < nM N) {ω : Wd} (hw : ∀ i, i < k → ω i < nS N i) : xP N ω k < sP N k ∧ yQ N ω k < sQ N k ∧ sP N k ≤ 3 ∧ sQ N k ≤ 3 ∧ xP N ω k * sQ N k + yQ N ω k < 9 := by
  have hp : xP N ω k < sP N k ∧ sP N k ≤ 3 := by
    unfold xP sP
    cases e : nP N k with
    | none => exact ⟨by decide, by decide⟩
    | some p =>
      have := (h.2 k hk).2.2.1 p e
      have s := NV_sv h (show p < nM N by omega)
      exact ⟨hw p this, by show nS N p ≤ 3; omega⟩
  have hq : yQ N ω k < sQ N k ∧ sQ N k ≤ 3 := by
    unfold yQ sQ
    cases e : nQ N k with
    | none => exact ⟨by decide, by decide⟩
    | some p =>
      have := ((h.2 k hk).2.2.2.1 p e).1
      have s := NV_sv h (show p < nM N by omega)
      exact ⟨hw p this, by show nS N p ≤ 3; omega⟩
  refine ⟨hp.1, hq.1, hp.2, hq.2, ?_⟩
  have h1 : xP N ω k ≤ 2 := by omega
  have h2 : xP N ω k * sQ N k ≤ 2 * sQ N k := Nat.mul_le_mul_right _ h1
  omega
theorem NV_t12 {N : Net} (h : NV N) {k r v : Nat} (hk : k < nM N) (hr : r < 9) (hv : v < 3) : nT N k r v ≤ 12 := by
  have := ((h.2 k hk).2.2.2.2.2.2.2.2 r hr).1
  rcases (show v = 0 ∨ v = 1 ∨ v = 2 by omega) with rfl | rfl | rfl <;> omega
theorem tabN_12 {N : Net} (h : NV N) {k : Nat} (hk : k < nM N) {ω : Wd} (hw : ∀ i, i < k → ω i < nS N i) {v : Nat} (hv : v < 3) : tabN N k (xP N ω k) (yQ N ω k) v ≤ 12 := by
  unfold tabN
  split
  · exact NV_t12 h hk (tab_in h hk hw).2.2.2.2 hv
  · split <;> omega
theorem numW_12 {N : Net} (h : NV N) {k : Nat} (hk : k < nM N) {ω : Wd} (hw : ∀ i, i < k → ω i < nS N i) {v : Nat} (hv : v < 3) : numW N ω k v ≤ 12 := by
  unfold numW
  split
  · split <;> omega
  · exact tabN_12 h hk hw hv
theorem facW_108 {N : Net} (h : NV N) {k : Nat} (hk : k < nM N) {ω : Wd} (hw : ∀ i, i < k → ω i < nS N i) {v : Nat} (hv : v < 3) : facW N ω k v ≤ 108 := by
  have h1 := numW_12 h hk hw hv
  have h2 := (h.2 k hk).2.2.2.2.2.2.2.1 v hv
  have h3 : numW N ω k v * nH N k v ≤ 12 * 9 := Nat.mul_le_mul h1 h2
  unfold facW
  split
  · split <;> omega
  · omega
/-! ===== numberOf, same, numberNow, factor of the reference ===== -/
theorem m_same {d : Nat} {Q : Option PV → St → Prop} {σ : St} {N : Net} {k v u : Nat} (h : MI σ N) (hk : k < nM N) (hv : v < 3) (hu : u < 3) : Ca (d + 2) 159 [vR 97 9, vI (nI k), vI (nI v), vI (nI u)] σ Q ↔ Q (some (vI (nI (if v = min u (nS N k - 1) then 12 else 0)))) σ := by
  have hs := NV_s h hk
  rw [ca_at (K := kX9_same) (ls := [vR 97 9, vI (nI k), vI (nI v), vI (nI u)]) rfl rfl rfl]
  simp (disch := omega) only [z_X9_same_0, z_X9_same_1, z_X9_same_2, z_X9_same_3, z_X9_same_4, z_X9_same_5, z_X9_same_8, z_X9_same_11, z_X9_same_12, z_X9_same_15, z_X9_same_16, z_X9_same_17, z_X9_same_18, z_X9_same_21, z_X9_same_22, z_X9_same_23, z_X9_same_26, z_X9_same_28, z_X9_same_31, z_X9_same_32, i_is0 h hk, kLe, kEq, kSL, true_and, Option.toList_some, Option.toList_none, List.cons_append, List.nil_append, is2IT, is2RT, if_true, if_false]
  by_cases c : nS N k ≤ u
  · rw [if_pos c]
    simp (disch := omega) only [z_X9_same_0, z_X9_same_1, z_X9_same_2, z_X9_same_3, z_X9_same_4, z_X9_same_5, z_X9_same_8, z_X9_same_11, z_X9_same_12, z_X9_same_15, z_X9_same_16, z_X9_same_17, z_X9_same_18, z_X9_same_21, z_X9_same_22, z_X9_same_23, z_X9_same_26, z_X9_same_28, z_X9_same_31, z_X9_same_32, i_is0 h hk, kLe, kEq, kSL, true_and, Option.toList_some, Option.toList_none, List.cons_append, List.nil_append, is2IT, is2RT, if_true, if_false]
    rw [show min u (nS N k - 1) = nS N k - 1 by omega]
    split <;> rfl
  · rw [if_neg c]
    rw [show min u (nS N k - 1) = u by omega]
    split <;> rfl
set_option maxHeartbeats 1000000 in
theorem m_numberOf {d : Nat} {Q : Option PV → St → Prop} {σ : St} {N : Net} {ω : Wd} {k v : Nat} (h : MI σ N) (hk : k < nM N) (hv : v < 3) (hw : Wld σ 105 N ω k) : Ca (d + 3) 158 [vR 97 9, vI (nI k), vI (nI v)] σ Q ↔ Q (some (vI (nI (tabN N k (xP N ω k) (yQ N ω k) v)))) σ := by
  have h7 := MI_7 h
  have hF := MI_f h
  have hs := NV_s h hk
  have hK := NV_k h hk
  have hin := tab_in h.2.2 hk (fun i hi => (hw i hi).2)
  rw [ca_at (K := kX9_numberOf) (ls := [vR 97 9, vI (nI k), vI (nI v), vU, vU, vU, vU]) rfl rfl rfl]
  have hk4 : nK N k = 0 ∨ nK N k = 1 ∨ nK N k = 2 ∨ nK N k = 3 := by omega
  unfold tabN madeN
  cases hp : nP N k with
  | none =>
    have hq : nQ N k = none := by
      cases e : nQ N k with
      | none => rfl
      | some q =>
        obtain ⟨i, h1, _⟩ := ((h.2.2.2 k hk).2.2.2.1 q e).2
        rw [hp] at h1; cases h1
    have k0 : nK N k = 0 := by
      by_cases e : nK N k = 0
      · exact e
      · exact absurd hp ((h.2.2.2 k hk).2.2.2.2.1 e)
    have ex : xP N ω k = 0 := by unfold xP; rw [hp]
    have ey : yQ N ω k = 0 := by unfold yQ; rw [hq]
    simp (disch := omega) only [z_X9_numberOf_0, z_X9_numberOf_1, z_X9_numberOf_2, z_X9_numberOf_3, z_X9_numberOf_6, z_X9_numberOf_7, z_X9_numberOf_8, z_X9_numberOf_9, z_X9_numberOf_10, z_X9_numberOf_13, z_X9_numberOf_15, z_X9_numberOf_16, z_X9_numberOf_17, z_X9_numberOf_20, z_X9_numberOf_21, z_X9_numberOf_24, z_X9_numberOf_25, z_X9_numberOf_28, z_X9_numberOf_29, z_X9_numberOf_30, z_X9_numberOf_32, z_X9_numberOf_34, z_X9_numberOf_35, z_X9_numberOf_38, z_X9_numberOf_39, z_X9_numberOf_42, z_X9_numberOf_43, z_X9_numberOf_46, z_X9_numberOf_48, z_X9_numberOf_49, z_X9_numberOf_51, z_X9_numberOf_52, z_X9_numberOf_53, z_X9_numberOf_54, z_X9_numberOf_84, z_X9_numberOf_85, z_X9_numberOf_86, z_X9_numberOf_88, z_X9_numberOf_89, z_X9_numberOf_91, z_X9_numberOf_92, z_X9_numberOf_95, z_X9_numberOf_97, z_X9_numberOf_100, z_X9_numberOf_102, z_X9_numberOf_103, z_X9_numberOf_105, z_X9_numberOf_106, z_X9_numberOf_109, z_X9_numberOf_110, z_X9_numberOf_112, z_X9_numberOf_113, z_X9_numberOf_114, z_X9_numberOf_115, z_X9_numberOf_116, z_X9_numberOf_117, z_X9_numberOf_120, z_X9_numberOf_121, z_X9_numberOf_122, z_X9_numberOf_123, z_X9_numberOf_124, z_X9_numberOf_126, z_X9_numberOf_127, z_X9_numberOf_130, z_X9_numberOf_132, z_X9_numberOf_134, z_X9_numberOf_137, z_X9_numberOf_139, z_X9_numberOf_142, z_X9_numberOf_144, z_X9_numberOf_147, z_X9_numberOf_148, z_X9_numberOf_149, z_X9_numberOf_150, z_X9_numberOf_151, z_X9_numberOf_153, z_X9_numberOf_154, z_X9_numberOf_157, z_X9_numberOf_159, z_X9_numberOf_161, z_X9_numberOf_164, z_X9_numberOf_166, z_X9_numberOf_169, z_X9_numberOf_171, z_X9_numberOf_174, z_X9_numberOf_175, z_X9_numberOf_176, z_X9_numberOf_178, z_X9_numberOf_180, z_X9_numberOf_181, z_X9_numberOf_182, z_X9_numberOf_183, z_X9_numberOf_184, z_X9_numberOf_187, z_X9_numberOf_188, z_X9_numberOf_191, z_X9_numberOf_193, z_X9_numberOf_196, z_X9_numberOf_197, i_is1 h hk, i_is2 h hk, i_is3 h hk, hp, hq, k0, oI_nn, kLM, kAL, kLA, nI_add, i_isT h hk (r := 0) (v := v) (by decide) hv, z_X9_numberOf_57_0, ex, ey, true_and, Option.toList_some, Option.toList_none, List.cons_append, List.nil_append, is2IT, is2RT, if_true, if_false]
    rw [show (9 : Int32) + 3 * 0 + nI v = nI (9 + (3 * 0 + v)) by rw [show (9 : Int32) + 3 * 0 = nI 9 from rfl, nI_add]; congr 1, i_isT h hk (by decide) hv]
    simp only [z_X9_numberOf_0, z_X9_numberOf_1, z_X9_numberOf_2, z_X9_numberOf_3, z_X9_numberOf_6, z_X9_numberOf_7, z_X9_numberOf_8, z_X9_numberOf_9, z_X9_numberOf_10, z_X9_numberOf_13, z_X9_numberOf_15, z_X9_numberOf_16, z_X9_numberOf_17, z_X9_numberOf_20, z_X9_numberOf_21, z_X9_numberOf_24, z_X9_numberOf_25, z_X9_numberOf_28, z_X9_numberOf_29, z_X9_numberOf_30, z_X9_numberOf_32, z_X9_numberOf_34, z_X9_numberOf_35, z_X9_numberOf_38, z_X9_numberOf_39, z_X9_numberOf_42, z_X9_numberOf_43, z_X9_numberOf_46, z_X9_numberOf_48, z_X9_numberOf_49, z_X9_numberOf_51, z_X9_numberOf_52, z_X9_numberOf_53, z_X9_numberOf_54, z_X9_numberOf_84, z_X9_numberOf_85, z_X9_numberOf_86, z_X9_numberOf_88, z_X9_numberOf_89, z_X9_numberOf_91, z_X9_numberOf_92, z_X9_numberOf_95, z_X9_numberOf_97, z_X9_numberOf_100, z_X9_numberOf_102, z_X9_numberOf_103, z_X9_numberOf_105, z_X9_numberOf_106, z_X9_numberOf_109, z_X9_numberOf_110, z_X9_numberOf_112, z_X9_numberOf_113, z_X9_numberOf_114, z_X9_numberOf_115, z_X9_numberOf_116, z_X9_numberOf_117, z_X9_numberOf_120, z_X9_numberOf_121, z_X9_numberOf_122, z_X9_numberOf_123, z_X9_numberOf_124, z_X9_numberOf_126, z_X9_numberOf_127, z_X9_numberOf_130, z_X9_numberOf_132, z_X9_numberOf_134, z_X9_numberOf_137, z_X9_numberOf_139, z_X9_numberOf_142, z_X9_numberOf_144, z_X9_numberOf_147, z_X9_numberOf_148, z_X9_numberOf_149, z_X9_numberOf_150, z_X9_numberOf_151, z_X9_numberOf_153, z_X9_numberOf_154, z_X9_numberOf_157, z_X9_numberOf_159, z_X9_numberOf_161, z_X9_numberOf_164, z_X9_numberOf_166, z_X9_numberOf_169, z_X9_numberOf_171, z_X9_numberOf_174, z_X9_numberOf_175, z_X9_numberOf_176, z_X9_numberOf_178, z_X9_numberOf_180, z_X9_numberOf_181, z_X9_numberOf_182, z_X9_numberOf_183, z_X9_numberOf_184, z_X9_numberOf_187, z_X9_numberOf_188, z_X9_numberOf_191, z_X9_numberOf_193, z_X9_numberOf_196, z_X9_numberOf_197, true_and, Option.toList_some, Option.toList_none, List.cons_append, List.nil_append, is2IT, is2RT, if_true, if_false]
    rw [Nat.zero_mul]
  | some p =>
    have pk := NV_p h hk hp
    obtain ⟨wp, wpl⟩ := hw p pk
    have sp := NV_s h (show p < nM N by omega)
    have ex : xP N ω k = ω p := by unfold xP; rw [hp]
    cases hq : nQ N k with
    | none =>
      have ey : yQ N ω k = 0 := by unfold yQ; rw [hq]
      have esq : sQ N k = 1 := by unfold sQ; rw [hq]
      rcases hk4 with k0 | k0 | k0 | k0
      · simp (disch := omega) only [z_X9_numberOf_0, z_X9_numberOf_1, z_X9_numberOf_2, z_X9_numberOf_3, z_X9_numberOf_6, z_X9_numberOf_7, z_X9_numberOf_8, z_X9_numberOf_9, z_X9_numberOf_10, z_X9_numberOf_13, z_X9_numberOf_15, z_X9_numberOf_16, z_X9_numberOf_17, z_X9_numberOf_20, z_X9_numberOf_21, z_X9_numberOf_24, z_X9_numberOf_25, z_X9_numberOf_28, z_X9_numberOf_29, z_X9_numberOf_30, z_X9_numberOf_32, z_X9_numberOf_34, z_X9_numberOf_35, z_X9_numberOf_38, z_X9_numberOf_39, z_X9_numberOf_42, z_X9_numberOf_43, z_X9_numberOf_46, z_X9_numberOf_48, z_X9_numberOf_49, z_X9_numberOf_51, z_X9_numberOf_52, z_X9_numberOf_53, z_X9_numberOf_54, z_X9_numberOf_84, z_X9_numberOf_85, z_X9_numberOf_86, z_X9_numberOf_88, z_X9_numberOf_89, z_X9_numberOf_91, z_X9_numberOf_92, z_X9_numberOf_95, z_X9_numberOf_97, z_X9_numberOf_100, z_X9_numberOf_102, z_X9_numberOf_103, z_X9_numberOf_105, z_X9_numberOf_106, z_X9_numberOf_109, z_X9_numberOf_110, z_X9_numberOf_112, z_X9_numberOf_113, z_X9_numberOf_114, z_X9_numberOf_115, z_X9_numberOf_116, z_X9_numberOf_117, z_X9_numberOf_120, z_X9_numberOf_121, z_X9_numberOf_122, z_X9_numberOf_123, z_X9_numberOf_124, z_X9_numberOf_126, z_X9_numberOf_127, z_X9_numberOf_130, z_X9_numberOf_132, z_X9_numberOf_134, z_X9_numberOf_137, z_X9_numberOf_139, z_X9_numberOf_142, z_X9_numberOf_144, z_X9_numberOf_147, z_X9_numberOf_148, z_X9_numberOf_149, z_X9_numberOf_150, z_X9_numberOf_151, z_X9_numberOf_153, z_X9_numberOf_154, z_X9_numberOf_157, z_X9_numberOf_159, z_X9_numberOf_161, z_X9_numberOf_164, z_X9_numberOf_166, z_X9_numberOf_169, z_X9_numberOf_171, z_X9_numberOf_174, z_X9_numberOf_175, z_X9_numberOf_176, z_X9_numberOf_178, z_X9_numberOf_180, z_X9_numberOf_181, z_X9_numberOf_182, z_X9_numberOf_183, z_X9_numberOf_184, z_X9_numberOf_187, z_X9_numberOf_188, z_X9_numberOf_191, z_X9_numberOf_193, z_X9_numberOf_196, z_X9_numberOf_197, mf_r1 hF, mf_r2 hF, mf_r3 hF, mf_r5 hF, mf_r10 hF, mf_r11 hF, mf_r13 hF, mf_r15 hF, mf_r16 hF, mf_r19 hF, mf_r21 hF, mf_r22 hF, mf_r23 hF, mf_r24 hF, mf_r25 hF, mf_r26 hF, mf_r27 hF, mf_r29 hF, mf_r30 hF, mf_r31 hF, mf_r32 hF, mf_s98 hF, mf_s99 hF, mf_s100 hF, mf_s101 hF, mf_s102 hF, mf_s103 hF, mf_s104 hF, mf_s105 hF, mf_s106 hF, mf_s107 hF, mf_s108 hF, mf_s109 hF, mf_s110 hF, mf_s111 hF, mf_s112 hF, mf_s113 hF, mf_s114 hF, mf_s115 hF, mf_s116 hF, mf_s117 hF, mf_s118 hF, i_is1 h hk, i_is2 h hk, i_is3 h hk, hp, hq, k0, oI_nn, oI_ss, kM1, kCl, kIn, wp, kLM, kAL, kLA, nI_add, z_X9_numberOf_57_0, ex, ey, esq, true_and, Option.toList_some, Option.toList_none, List.cons_append, List.nil_append, is2IT, is2RT, if_true, if_false]
        rw [show 9 + 3 * ω p + v = 9 + (3 * ω p + v) by omega, i_isT h hk (by omega) hv]
        simp only [z_X9_numberOf_0, z_X9_numberOf_1, z_X9_numberOf_2, z_X9_numberOf_3, z_X9_numberOf_6, z_X9_numberOf_7, z_X9_numberOf_8, z_X9_numberOf_9, z_X9_numberOf_10, z_X9_numberOf_13, z_X9_numberOf_15, z_X9_numberOf_16, z_X9_numberOf_17, z_X9_numberOf_20, z_X9_numberOf_21, z_X9_numberOf_24, z_X9_numberOf_25, z_X9_numberOf_28, z_X9_numberOf_29, z_X9_numberOf_30, z_X9_numberOf_32, z_X9_numberOf_34, z_X9_numberOf_35, z_X9_numberOf_38, z_X9_numberOf_39, z_X9_numberOf_42, z_X9_numberOf_43, z_X9_numberOf_46, z_X9_numberOf_48, z_X9_numberOf_49, z_X9_numberOf_51, z_X9_numberOf_52, z_X9_numberOf_53, z_X9_numberOf_54, z_X9_numberOf_84, z_X9_numberOf_85, z_X9_numberOf_86, z_X9_numberOf_88, z_X9_numberOf_89, z_X9_numberOf_91, z_X9_numberOf_92, z_X9_numberOf_95, z_X9_numberOf_97, z_X9_numberOf_100, z_X9_numberOf_102, z_X9_numberOf_103, z_X9_numberOf_105, z_X9_numberOf_106, z_X9_numberOf_109, z_X9_numberOf_110, z_X9_numberOf_112, z_X9_numberOf_113, z_X9_numberOf_114, z_X9_numberOf_115, z_X9_numberOf_116, z_X9_numberOf_117, z_X9_numberOf_120, z_X9_numberOf_121, z_X9_numberOf_122, z_X9_numberOf_123, z_X9_numberOf_124, z_X9_numberOf_126, z_X9_numberOf_127, z_X9_numberOf_130, z_X9_numberOf_132, z_X9_numberOf_134, z_X9_numberOf_137, z_X9_numberOf_139, z_X9_numberOf_142, z_X9_numberOf_144, z_X9_numberOf_147, z_X9_numberOf_148, z_X9_numberOf_149, z_X9_numberOf_150, z_X9_numberOf_151, z_X9_numberOf_153, z_X9_numberOf_154, z_X9_numberOf_157, z_X9_numberOf_159, z_X9_numberOf_161, z_X9_numberOf_164, z_X9_numberOf_166, z_X9_numberOf_169, z_X9_numberOf_171, z_X9_numberOf_174, z_X9_numberOf_175, z_X9_numberOf_176, z_X9_numberOf_178, z_X9_numberOf_180, z_X9_numberOf_181, z_X9_numberOf_182, z_X9_numberOf_183, z_X9_numberOf_184, z_X9_numberOf_187, z_X9_numberOf_188, z_X9_numberOf_191, z_X9_numberOf_193, z_X9_numberOf_196, z_X9_numberOf_197, true_and, Option.toList_some, Option.toList_none, List.cons_append, List.nil_append, is2IT, is2RT, if_true, if_false]
        rw [Nat.mul_one, Nat.add_zero]
      · simp (disch := omega) only [z_X9_numberOf_0, z_X9_numberOf_1, z_X9_numberOf_2, z_X9_numberOf_3, z_X9_numberOf_6, z_X9_numberOf_7, z_X9_numberOf_8, z_X9_numberOf_9, z_X9_numberOf_10, z_X9_numberOf_13, z_X9_numberOf_15, z_X9_numberOf_16, z_X9_numberOf_17, z_X9_numberOf_20, z_X9_numberOf_21, z_X9_numberOf_24, z_X9_numberOf_25, z_X9_numberOf_28, z_X9_numberOf_29, z_X9_numberOf_30, z_X9_numberOf_32, z_X9_numberOf_34, z_X9_numberOf_35, z_X9_numberOf_38, z_X9_numberOf_39, z_X9_numberOf_42, z_X9_numberOf_43, z_X9_numberOf_46, z_X9_numberOf_48, z_X9_numberOf_49, z_X9_numberOf_51, z_X9_numberOf_52, z_X9_numberOf_53, z_X9_numberOf_54, z_X9_numberOf_84, z_X9_numberOf_85, z_X9_numberOf_86, z_X9_numberOf_88, z_X9_numberOf_89, z_X9_numberOf_91, z_X9_numberOf_92, z_X9_numberOf_95, z_X9_numberOf_97, z_X9_numberOf_100, z_X9_numberOf_102, z_X9_numberOf_103, z_X9_numberOf_105, z_X9_numberOf_106, z_X9_numberOf_109, z_X9_numberOf_110, z_X9_numberOf_112, z_X9_numberOf_113, z_X9_numberOf_114, z_X9_numberOf_115, z_X9_numberOf_116, z_X9_numberOf_117, z_X9_numberOf_120, z_X9_numberOf_121, z_X9_numberOf_122, z_X9_numberOf_123, z_X9_numberOf_124, z_X9_numberOf_126, z_X9_numberOf_127, z_X9_numberOf_130, z_X9_numberOf_132, z_X9_numberOf_134, z_X9_numberOf_137, z_X9_numberOf_139, z_X9_numberOf_142, z_X9_numberOf_144, z_X9_numberOf_147, z_X9_numberOf_148, z_X9_numberOf_149, z_X9_numberOf_150, z_X9_numberOf_151, z_X9_numberOf_153, z_X9_numberOf_154, z_X9_numberOf_157, z_X9_numberOf_159, z_X9_numberOf_161, z_X9_numberOf_164, z_X9_numberOf_166, z_X9_numberOf_169, z_X9_numberOf_171, z_X9_numberOf_174, z_X9_numberOf_175, z_X9_numberOf_176, z_X9_numberOf_178, z_X9_numberOf_180, z_X9_numberOf_181, z_X9_numberOf_182, z_X9_numberOf_183, z_X9_numberOf_184, z_X9_numberOf_187, z_X9_numberOf_188, z_X9_numberOf_191, z_X9_numberOf_193, z_X9_numberOf_196, z_X9_numberOf_197, mf_r1 hF, mf_r2 hF, mf_r3 hF, mf_r5 hF, mf_r10 hF, mf_r11 hF, mf_r13 hF, mf_r15 hF, mf_r16 hF, mf_r19 hF, mf_r21 hF, mf_r22 hF, mf_r23 hF, mf_r24 hF, mf_r25 hF, mf_r26 hF, mf_r27 hF, mf_r29 hF, mf_r30 hF, mf_r31 hF, mf_r32 hF, mf_s98 hF, mf_s99 hF, mf_s100 hF, mf_s101 hF, mf_s102 hF, mf_s103 hF, mf_s104 hF, mf_s105 hF, mf_s106 hF, mf_s107 hF, mf_s108 hF, mf_s109 hF, mf_s110 hF, mf_s111 hF, mf_s112 hF, mf_s113 hF, mf_s114 hF, mf_s115 hF, mf_s116 hF, mf_s117 hF, mf_s118 hF, i_is1 h hk, i_is2 h hk, i_is3 h hk, hp, hq, k0, oI_nn, oI_ss, kM1, kCl, kIn, wp, kLM, kAL, kLA, nI_add, z_X9_numberOf_57_1, m_same h hk hv, ex, ey, esq, true_and, Option.toList_some, Option.toList_none, List.cons_append, List.nil_append, is2IT, is2RT, if_true, if_false]
        simp
      · simp (disch := omega) only [z_X9_numberOf_0, z_X9_numberOf_1, z_X9_numberOf_2, z_X9_numberOf_3, z_X9_numberOf_6, z_X9_numberOf_7, z_X9_numberOf_8, z_X9_numberOf_9, z_X9_numberOf_10, z_X9_numberOf_13, z_X9_numberOf_15, z_X9_numberOf_16, z_X9_numberOf_17, z_X9_numberOf_20, z_X9_numberOf_21, z_X9_numberOf_24, z_X9_numberOf_25, z_X9_numberOf_28, z_X9_numberOf_29, z_X9_numberOf_30, z_X9_numberOf_32, z_X9_numberOf_34, z_X9_numberOf_35, z_X9_numberOf_38, z_X9_numberOf_39, z_X9_numberOf_42, z_X9_numberOf_43, z_X9_numberOf_46, z_X9_numberOf_48, z_X9_numberOf_49, z_X9_numberOf_51, z_X9_numberOf_52, z_X9_numberOf_53, z_X9_numberOf_54, z_X9_numberOf_84, z_X9_numberOf_85, z_X9_numberOf_86, z_X9_numberOf_88, z_X9_numberOf_89, z_X9_numberOf_91, z_X9_numberOf_92, z_X9_numberOf_95, z_X9_numberOf_97, z_X9_numberOf_100, z_X9_numberOf_102, z_X9_numberOf_103, z_X9_numberOf_105, z_X9_numberOf_106, z_X9_numberOf_109, z_X9_numberOf_110, z_X9_numberOf_112, z_X9_numberOf_113, z_X9_numberOf_114, z_X9_numberOf_115, z_X9_numberOf_116, z_X9_numberOf_117, z_X9_numberOf_120, z_X9_numberOf_121, z_X9_numberOf_122, z_X9_numberOf_123, z_X9_numberOf_124, z_X9_numberOf_126, z_X9_numberOf_127, z_X9_numberOf_130, z_X9_numberOf_132, z_X9_numberOf_134, z_X9_numberOf_137, z_X9_numberOf_139, z_X9_numberOf_142, z_X9_numberOf_144, z_X9_numberOf_147, z_X9_numberOf_148, z_X9_numberOf_149, z_X9_numberOf_150, z_X9_numberOf_151, z_X9_numberOf_153, z_X9_numberOf_154, z_X9_numberOf_157, z_X9_numberOf_159, z_X9_numberOf_161, z_X9_numberOf_164, z_X9_numberOf_166, z_X9_numberOf_169, z_X9_numberOf_171, z_X9_numberOf_174, z_X9_numberOf_175, z_X9_numberOf_176, z_X9_numberOf_178, z_X9_numberOf_180, z_X9_numberOf_181, z_X9_numberOf_182, z_X9_numberOf_183, z_X9_numberOf_184, z_X9_numberOf_187, z_X9_numberOf_188, z_X9_numberOf_191, z_X9_numberOf_193, z_X9_numberOf_196, z_X9_numberOf_197, mf_r1 hF, mf_r2 hF, mf_r3 hF, mf_r5 hF, mf_r10 hF, mf_r11 hF, mf_r13 hF, mf_r15 hF, mf_r16 hF, mf_r19 hF, mf_r21 hF, mf_r22 hF, mf_r23 hF, mf_r24 hF, mf_r25 hF, mf_r26 hF, mf_r27 hF, mf_r29 hF, mf_r30 hF, mf_r31 hF, mf_r32 hF, mf_s98 hF, mf_s99 hF, mf_s100 hF, mf_s101 hF, mf_s102 hF, mf_s103 hF, mf_s104 hF, mf_s105 hF, mf_s106 hF, mf_s107 hF, mf_s108 hF, mf_s109 hF, mf_s110 hF, mf_s111 hF, mf_s112 hF, mf_s113 hF, mf_s114 hF, mf_s115 hF, mf_s116 hF, mf_s117 hF, mf_s118 hF, i_is1 h hk, i_is2 h hk, i_is3 h hk, hp, hq, k0, oI_nn, oI_ss, kM1, kCl, kIn, wp, kLM, kAL, kLA, nI_add, z_X9_numberOf_57_2, m_same h hk hv, ex, ey, esq, true_and, Option.toList_some, Option.toList_none, List.cons_append, List.nil_append, is2IT, is2RT, if_true, if_false]
        simp
      · simp (disch := omega) only [z_X9_numberOf_0, z_X9_numberOf_1, z_X9_numberOf_2, z_X9_numberOf_3, z_X9_numberOf_6, z_X9_numberOf_7, z_X9_numberOf_8, z_X9_numberOf_9, z_X9_numberOf_10, z_X9_numberOf_13, z_X9_numberOf_15, z_X9_numberOf_16, z_X9_numberOf_17, z_X9_numberOf_20, z_X9_numberOf_21, z_X9_numberOf_24, z_X9_numberOf_25, z_X9_numberOf_28, z_X9_numberOf_29, z_X9_numberOf_30, z_X9_numberOf_32, z_X9_numberOf_34, z_X9_numberOf_35, z_X9_numberOf_38, z_X9_numberOf_39, z_X9_numberOf_42, z_X9_numberOf_43, z_X9_numberOf_46, z_X9_numberOf_48, z_X9_numberOf_49, z_X9_numberOf_51, z_X9_numberOf_52, z_X9_numberOf_53, z_X9_numberOf_54, z_X9_numberOf_84, z_X9_numberOf_85, z_X9_numberOf_86, z_X9_numberOf_88, z_X9_numberOf_89, z_X9_numberOf_91, z_X9_numberOf_92, z_X9_numberOf_95, z_X9_numberOf_97, z_X9_numberOf_100, z_X9_numberOf_102, z_X9_numberOf_103, z_X9_numberOf_105, z_X9_numberOf_106, z_X9_numberOf_109, z_X9_numberOf_110, z_X9_numberOf_112, z_X9_numberOf_113, z_X9_numberOf_114, z_X9_numberOf_115, z_X9_numberOf_116, z_X9_numberOf_117, z_X9_numberOf_120, z_X9_numberOf_121, z_X9_numberOf_122, z_X9_numberOf_123, z_X9_numberOf_124, z_X9_numberOf_126, z_X9_numberOf_127, z_X9_numberOf_130, z_X9_numberOf_132, z_X9_numberOf_134, z_X9_numberOf_137, z_X9_numberOf_139, z_X9_numberOf_142, z_X9_numberOf_144, z_X9_numberOf_147, z_X9_numberOf_148, z_X9_numberOf_149, z_X9_numberOf_150, z_X9_numberOf_151, z_X9_numberOf_153, z_X9_numberOf_154, z_X9_numberOf_157, z_X9_numberOf_159, z_X9_numberOf_161, z_X9_numberOf_164, z_X9_numberOf_166, z_X9_numberOf_169, z_X9_numberOf_171, z_X9_numberOf_174, z_X9_numberOf_175, z_X9_numberOf_176, z_X9_numberOf_178, z_X9_numberOf_180, z_X9_numberOf_181, z_X9_numberOf_182, z_X9_numberOf_183, z_X9_numberOf_184, z_X9_numberOf_187, z_X9_numberOf_188, z_X9_numberOf_191, z_X9_numberOf_193, z_X9_numberOf_196, z_X9_numberOf_197, mf_r1 hF, mf_r2 hF, mf_r3 hF, mf_r5 hF, mf_r10 hF, mf_r11 hF, mf_r13 hF, mf_r15 hF, mf_r16 hF, mf_r19 hF, mf_r21 hF, mf_r22 hF, mf_r23 hF, mf_r24 hF, mf_r25 hF, mf_r26 hF, mf_r27 hF, mf_r29 hF, mf_r30 hF, mf_r31 hF, mf_r32 hF, mf_s98 hF, mf_s99 hF, mf_s100 hF, mf_s101 hF, mf_s102 hF, mf_s103 hF, mf_s104 hF, mf_s105 hF, mf_s106 hF, mf_s107 hF, mf_s108 hF, mf_s109 hF, mf_s110 hF, mf_s111 hF, mf_s112 hF, mf_s113 hF, mf_s114 hF, mf_s115 hF, mf_s116 hF, mf_s117 hF, mf_s118 hF, i_is1 h hk, i_is2 h hk, i_is3 h hk, i_is0 h hk, hp, hq, k0, oI_nn, oI_ss, kM1, kCl, kIn, wp, kLM, kAL, kLA, nI_add, z_X9_numberOf_57_d, ex, ey, esq, true_and, Option.toList_some, Option.toList_none, List.cons_append, List.nil_append, is2IT, is2RT, if_true, if_false]
        sorry
    | some q =>
      have qk := NV_q h hk hq
      obtain ⟨wq, wql⟩ := hw q qk
      have sq := NV_s h (show q < nM N by omega)
      have ey : yQ N ω k = ω q := by unfold yQ; rw [hq]
      have esq : sQ N k = nS N q := by unfold sQ; rw [hq]
      sorry
