/-! ===== the class: the tree grows ===== -/
def TC (σ : St) (C : List Nat) : Prop := rI σ 79 3 = nI C.length ∧ C.length ≤ 7 ∧ ∀ j (h : j < C.length), rI σ 80 j = nI C[j] ∧ C[j] < 128
theorem io_l {d g : Nat} {Q : Option PV → St → Prop} {σ : St} {C : List Nat} (hX : XF σ) (hC : TC σ C) (hg : g < 128) : ∀ r c, c + r = C.length → (At d kX4_isInOne 2 [vR 79 5, vI (nI g), vI (nI c)] [] σ Q ↔ Q (some (vI (b2 (((C.drop c).any fun x => dif g x == 0) = true)))) σ)
  | 0, c, hc => by
    have h7 := hC.2.1
    have : c = C.length := by omega
    subst this
    rw [List.drop_length]
    simp (disch := first | exact is2I | exact is2R | omega) only [z_X4_isInOne_2, z_X4_isInOne_3, z_X4_isInOne_4, z_X4_isInOne_7, z_X4_isInOne_31, z_X4_isInOne_32, hC.1, kLe, Nat.le_refl, rk_b0, true_and, Option.toList_some, Option.toList_none, List.cons_append, List.nil_append, is2IT, is2RT, if_true, if_false]
    exact Iff.rfl
  | r + 1, c, hc => by
    have h7 := hC.2.1
    have hcl : c < C.length := by omega
    have cc : ¬ C.length ≤ c := by omega
    obtain ⟨x1, x2⟩ := hC.2.2 c hcl
    have hd := @dif_128 g C[c] hg
    rw [show C.drop c = C[c] :: C.drop (c + 1) from List.drop_eq_getElem_cons hcl, List.any_cons]
    have ih := io_l (d := d) (Q := Q) hX hC hg r (c + 1) (by omega)
    simp (disch := first | exact is2I | exact is2R | omega) only [z_X4_isInOne_2, z_X4_isInOne_3, z_X4_isInOne_4, z_X4_isInOne_7, z_X4_isInOne_10, z_X4_isInOne_11, z_X4_isInOne_12, z_X4_isInOne_15, z_X4_isInOne_16, z_X4_isInOne_17, z_X4_isInOne_18, z_X4_isInOne_19, z_X4_isInOne_20, z_X4_isInOne_23, z_X4_isInOne_24, z_X4_isInOne_25, xf_r0_0 hX, xf_r0_1 hX, xf_r0_2 hX, xf_r0_4 hX, xf_r0_5 hX, xf_r0_6 hX, xf_r0_7 hX, xf_r0_8 hX, xf_r0_9 hX, xf_r70_0 hX, xf_r70_1 hX, xf_r70_2 hX, xf_r74_0 hX, xf_r74_1 hX, xf_r74_2 hX, xf_r74_3 hX, xf_r79_0 hX, xf_r79_1 hX, xf_r79_2 hX, xf_r83_0 hX, xf_r83_7 hX, xf_r88_0 hX, xf_r88_1 hX, xf_r88_2 hX, xf_r88_3 hX, xf_s0 hX, xf_s70 hX, xf_s71 hX, xf_s72 hX, xf_s73 hX, xf_s74 hX, xf_s75 hX, xf_s76 hX, xf_s77 hX, xf_s78 hX, xf_s79 hX, xf_s80 hX, xf_s81 hX, xf_s82 hX, xf_s83 hX, xf_s84 hX, xf_s85 hX, xf_s86 hX, xf_s88 hX, xf_s89 hX, xf_s90 hX, xf_s91 hX, xf_s92 hX, xf_s93 hX, xf_s94 hX, xf_s95 hX, xf_s96 hX, hC.1, kLe, cc, kIn, kCl, x1, kDif, kEL, kAL, rk_b1, true_and, Option.toList_some, Option.toList_none, List.cons_append, List.nil_append, is2IT, is2RT, if_true, if_false]
    by_cases c1 : dif g C[c] = 0
    · have e : (dif g C[c] == 0) = true := by simp [c1]
      rw [e, Bool.true_or]
      simp only [c1, not_true_eq_false, if_false]
      exact Iff.rfl
    · have e : (dif g C[c] == 0) = false := by simp [c1]
      rw [e, Bool.false_or]
      simp only [c1, not_false_eq_true, if_true]
      rw [z_X4_isInOne_28]
      exact ih
theorem c_isInOne {d g : Nat} {Q : Option PV → St → Prop} {σ : St} {C : List Nat} (hX : XF σ) (hC : TC σ C) (hg : g < 128) : Ca (d + 1) 41 [vR 79 5, vI (nI g)] σ Q ↔ Q (some (vI (b2 ((C.any fun x => dif g x == 0) = true)))) σ := by
  rw [ca_at (K := kX4_isInOne) (ls := [vR 79 5, vI (nI g), vU]) rfl rfl rfl]
  have l := @io_l d g Q σ C hX hC hg C.length 0 (by omega)
  simp only [z_X4_isInOne_0, z_X4_isInOne_1, true_and, Option.toList_some, Option.toList_none, List.cons_append, List.nil_append, is2IT, is2RT, if_true, if_false]
  exact l
