/-! ===== the class: the tree's clusters ===== -/
def ITr (a _i : Nat) : Bool := decide (79 ≤ a ∧ a ≤ 82)
theorem XF_fm {I : Nat → Nat → Bool} {L : Nat → Bool} {σ σ' : St} (hX : XF σ) (hf : Fm I L σ σ') : XF σ' := ⟨fun p hp => by rw [hf.2.2.1]; exact hX.1 p hp, fun p hp => by unfold sh; rw [hf.2.2.2.1]; exact hX.2 p hp⟩
theorem TC_add {σ : St} {C : List Nat} {g : Nat} (h : TC σ C) (h6 : C.length < 7) (hg : g < 128) : TC (wI (wI σ 79 3 (nI (C.length + 1))) 80 C.length (nI g)) (C ++ [g]) := by
  have el : (C ++ [g]).length = C.length + 1 := List.length_append
  refine ⟨by rw [rI_wI_n (by decide), rI_wI, if_pos ⟨rfl, rfl⟩, el], by omega, fun j hj => ?_⟩
  rw [rI_wI]
  by_cases c : j = C.length
  · subst c
    have e : (C ++ [g])[C.length] = g := by simp
    rw [if_pos ⟨rfl, rfl⟩, e]
    exact ⟨rfl, hg⟩
  · have hj2 : j < C.length := by omega
    rw [if_neg (fun q => c q.2), rI_wI_n (by decide), List.getElem_append_left hj2]
    exact h.2.2 j hj2
theorem gro_l {d m : Nat} {Q : Option PV → St → Prop} {σ0 : St} {L : List (Nat × Nat × Nat)} {CE : List Nat} (hX0 : XF σ0) (hm : m ≤ 7) (hO : OL0 σ0 L) (hB : OB m L) (hL : L.length = m) (hQ : ∀ σ' k, Fm ITr noL σ0 σ' → TC σ' CE → At (d + 2) kX4_grow 59 [vR 79 5, vR 74 1, vI (nI m), vI (nI k)] [] σ' Q) : ∀ r k σ C, k + r = m → C.length ≤ k → Fm ITr noL σ0 σ → TC σ C → (L.drop k).foldl (fun C e => addC C e.2.2) C = CE → At (d + 2) kX4_grow 7 [vR 79 5, vR 74 1, vI (nI m), vI (nI k)] [] σ Q
  | 0, k, σ, C, hk, hCk, hf, hC, he => by
    have : k = m := by omega
    subst this
    rw [← hL, List.drop_length] at he
    have he' : C = CE := he
    subst he'
    simp (disch := first | exact is2I | exact is2R | omega) only [z_X4_grow_7, z_X4_grow_8, z_X4_grow_9, kLe, Nat.le_refl, true_and, Option.toList_some, Option.toList_none, List.cons_append, List.nil_append, is2IT, is2RT, if_true, if_false]
    exact hQ σ k hf hC
  | r + 1, k, σ, C, hk, hCk, hf, hC, he => by
    have hX : XF σ := XF_fm hX0 hf
    have c : ¬ m ≤ k := by omega
    have c7 : ¬ 7 ≤ k := by omega
    have hkl : k < L.length := by omega
    have hg : rI σ 78 k = nI L[k].2.2 := by rw [hf.1 78 k rfl]; exact (hO k hkl).2.2
    have g8 : L[k].2.2 < 128 := (hB L[k] (List.getElem_mem hkl)).2.2
    have ev : nI k + (1 : Int32) = nI (k + 1) := nI_add k 1
    rw [show L.drop k = L[k] :: L.drop (k + 1) from List.drop_eq_getElem_cons hkl, List.foldl_cons] at he
    have nx : ∀ σ1, Fm ITr noL σ0 σ1 → TC σ1 (addC C L[k].2.2) → At (d + 2) kX4_grow 53 [vR 79 5, vR 74 1, vI (nI m), vI (nI k)] [] σ1 Q := fun σ1 q1 q2 => by
      have := @addC_le C L[k].2.2
      simp (disch := first | exact is2I | exact is2R | omega) only [z_X4_grow_53, ev, true_and, Option.toList_some, Option.toList_none, List.cons_append, List.nil_append, is2IT, is2RT, if_true, if_false]
      rw [z_X4_grow_56]
      exact gro_l hX0 hm hO hB hL hQ r (k + 1) σ1 _ (by omega) (by omega) q1 q2 he
    simp (disch := first | exact is2I | exact is2R | omega) only [z_X4_grow_7, z_X4_grow_8, z_X4_grow_9, z_X4_grow_12, z_X4_grow_13, z_X4_grow_15, z_X4_grow_18, z_X4_grow_19, z_X4_grow_20, z_X4_grow_23, z_X4_grow_24, z_X4_grow_25, z_X4_grow_28, xf_r0_0 hX, xf_r0_1 hX, xf_r0_2 hX, xf_r0_4 hX, xf_r0_5 hX, xf_r0_6 hX, xf_r0_7 hX, xf_r0_8 hX, xf_r0_9 hX, xf_r70_0 hX, xf_r70_1 hX, xf_r70_2 hX, xf_r74_0 hX, xf_r74_1 hX, xf_r74_2 hX, xf_r74_3 hX, xf_r79_0 hX, xf_r79_1 hX, xf_r79_2 hX, xf_r83_0 hX, xf_r83_7 hX, xf_r88_0 hX, xf_r88_1 hX, xf_r88_2 hX, xf_r88_3 hX, xf_s0 hX, xf_s70 hX, xf_s71 hX, xf_s72 hX, xf_s73 hX, xf_s74 hX, xf_s75 hX, xf_s76 hX, xf_s77 hX, xf_s78 hX, xf_s79 hX, xf_s80 hX, xf_s81 hX, xf_s82 hX, xf_s83 hX, xf_s84 hX, xf_s85 hX, xf_s86 hX, xf_s88 hX, xf_s89 hX, xf_s90 hX, xf_s91 hX, xf_s92 hX, xf_s93 hX, xf_s94 hX, xf_s95 hX, xf_s96 hX, kLe, kLLe, c, c7, kIn, kCl, hg, c_isInOne hX hC g8, b2_0, true_and, Option.toList_some, Option.toList_none, List.cons_append, List.nil_append, is2IT, is2RT, if_true, if_false]
    by_cases e : (C.any fun x => dif L[k].2.2 x == 0) = true
    · rw [if_neg (fun q => q e)]
      have ea : addC C L[k].2.2 = C := if_pos e
      exact nx σ hf (by rw [ea]; exact hC)
    · rw [if_pos e]
      have ea : addC C L[k].2.2 = C ++ [L[k].2.2] := if_neg e
      have n1 : ¬ (78 = 79 ∧ k = 3) := fun q => absurd q.1 (by decide)
      have g2 : rI (wI σ 79 3 (nI (C.length + 1))) 78 k = nI L[k].2.2 := by rw [rI_wI_n (by decide)]; exact hg
      simp (disch := first | exact is2I | exact is2R | omega) only [z_X4_grow_31, z_X4_grow_32, z_X4_grow_35, z_X4_grow_36, z_X4_grow_37, z_X4_grow_40, z_X4_grow_41, z_X4_grow_42, z_X4_grow_43, z_X4_grow_46, z_X4_grow_47, z_X4_grow_50, z_X4_grow_51, z_X4_grow_52, xf_r0_0 hX, xf_r0_1 hX, xf_r0_2 hX, xf_r0_4 hX, xf_r0_5 hX, xf_r0_6 hX, xf_r0_7 hX, xf_r0_8 hX, xf_r0_9 hX, xf_r70_0 hX, xf_r70_1 hX, xf_r70_2 hX, xf_r74_0 hX, xf_r74_1 hX, xf_r74_2 hX, xf_r74_3 hX, xf_r79_0 hX, xf_r79_1 hX, xf_r79_2 hX, xf_r83_0 hX, xf_r83_7 hX, xf_r88_0 hX, xf_r88_1 hX, xf_r88_2 hX, xf_r88_3 hX, xf_s0 hX, xf_s70 hX, xf_s71 hX, xf_s72 hX, xf_s73 hX, xf_s74 hX, xf_s75 hX, xf_s76 hX, xf_s77 hX, xf_s78 hX, xf_s79 hX, xf_s80 hX, xf_s81 hX, xf_s82 hX, xf_s83 hX, xf_s84 hX, xf_s85 hX, xf_s86 hX, xf_s88 hX, xf_s89 hX, xf_s90 hX, xf_s91 hX, xf_s92 hX, xf_s93 hX, xf_s94 hX, xf_s95 hX, xf_s96 hX, rR_wI, sh_wI, hC.1, kAL, kIn, kCl, g2, true_and, Option.toList_some, Option.toList_none, List.cons_append, List.nil_append, is2IT, is2RT, if_true, if_false]
      exact nx _ (Fm_tr hf (Fm_tr (Fm_wI rfl) (Fm_wI rfl))) (by rw [ea]; exact TC_add hC (by omega) g8)
