/-! ===== node of the reference: its two loops ===== -/
theorem node_l1 {d : Nat} {Q : Option PV → St → Prop} {σ : St} {l1 l2 l3 l4 l5 : PV} {a : Nat} (hF : MF σ) (ha : a ≤ 216) : ∀ f v, v + f = 3 → (At d kX9_node 161 [vR 97 9, l1, l2, l3, l4, l5, vI (nI a), vI (nI v)] [] (fI σ 98 (a + 6) v (fun _ => 1)) Q ↔ At d kX9_node 187 [vR 97 9, l1, l2, l3, l4, l5, vI (nI a), vI (nI 3)] [] (fI σ 98 (a + 6) 3 (fun _ => 1)) Q)
  | 0, v, hv => by
    have : v = 3 := by omega
    subst this
    simp only [z_X9_node_161, z_X9_node_163, z_X9_node_164]
    rw [if_pos (show (3 : Int32) ≤ nI 3 by decide)]
  | f + 1, v, hv => by
    have c : ¬ ((3 : Int32) ≤ nI v) := Int32.not_le.mpr ((nI_ltI (b := 3) (by omega) (by decide)).mpr (by omega))
    have e0 : nI a + (6 : Int32) + nI v = nI (a + 6 + v) := by rw [show (6 : Int32) = nI 6 from rfl, nI_add, nI_add]
    have i0 : inB (nI (a + 6 + v)) 253 = true := inB_nI (by omega) (by decide)
    have t0 : (nI (a + 6 + v)).toNatClampNeg = a + 6 + v := nI_clamp (by omega)
    have e1 : nI v + (1 : Int32) = nI (v + 1) := nI_add v 1
    simp only [z_X9_node_161, z_X9_node_163, z_X9_node_164, z_X9_node_167, z_X9_node_168, z_X9_node_171, z_X9_node_173, z_X9_node_175, z_X9_node_176, z_X9_node_178, z_X9_node_179, z_X9_node_180, z_X9_node_181, c, mf_r1 hF, mf_r2 hF, mf_r3 hF, mf_r5 hF, mf_r10 hF, mf_r11 hF, mf_r13 hF, mf_r15 hF, mf_r16 hF, mf_r19 hF, mf_r21 hF, mf_r22 hF, mf_r23 hF, mf_r24 hF, mf_r25 hF, mf_r26 hF, mf_r27 hF, mf_r29 hF, mf_r30 hF, mf_r31 hF, mf_r32 hF, mf_s98 hF, mf_s99 hF, mf_s100 hF, mf_s101 hF, mf_s102 hF, mf_s103 hF, mf_s104 hF, mf_s105 hF, mf_s106 hF, mf_s107 hF, mf_s108 hF, mf_s109 hF, mf_s110 hF, mf_s111 hF, mf_s112 hF, mf_s113 hF, mf_s114 hF, mf_s115 hF, mf_s116 hF, mf_s117 hF, mf_s118 hF, rR_fI, sh_fI, e0, i0, t0, e1, true_and, Option.toList_some, Option.toList_none, List.cons_append, List.nil_append, is2IT, is2RT, if_true, if_false]
    rw [z_X9_node_184, fI_s rfl, node_l1 hF ha f (v + 1) (by omega)]
/-- a fresh node's table -/
def tb0 (s v : Nat) : Nat := if s = 3 then 4 else if v = 2 then 0 else 6
theorem mod3 {j : Nat} (hj : j < 2 ^ 31) : nI j - nI j / 3 * 3 = nI (j % 3) := by
  have e : nI j / (3 : Int32) = nI (j / 3) := by
    apply Int32.toInt_inj.mp
    rw [Int32.toInt_div, nI_toInt hj, nI_toInt (show j / 3 < 2 ^ 31 by omega), show (3 : Int32).toInt = 3 from by decide]
    rw [Int.tdiv_eq_ediv_of_nonneg (by omega), Int.bmod_eq_of_le (by omega) (by omega)]
    rfl
  rw [e, show (3 : Int32) = nI 3 from rfl, pk_mul]
  have h2 : nI j = nI (j / 3 * 3) + nI (j % 3) := by rw [nI_add]; congr 1; omega
  rw [h2, Int32.add_comm, Int32.add_sub_cancel]
theorem node_l2 {d : Nat} {Q : Option PV → St → Prop} {σ : St} {l2 l3 l4 l5 : PV} {a s : Nat} (hF : MF σ) (ha : a ≤ 216) (hs : s = 2 ∨ s = 3) : ∀ f v, v + f = 27 → (At d kX9_node 190 [vR 97 9, vI (nI s), l2, l3, l4, l5, vI (nI a), vI (nI v)] [] (fI σ 98 (a + 9) v (fun j => nI (tb0 s (j % 3)))) Q ↔ At d kX9_node 239 [vR 97 9, vI (nI s), l2, l3, l4, l5, vI (nI a), vI (nI 27)] [] (fI σ 98 (a + 9) 27 (fun j => nI (tb0 s (j % 3)))) Q)
  | 0, v, hv => by
    have : v = 27 := by omega
    subst this
    simp only [z_X9_node_190, z_X9_node_192, z_X9_node_194]
    rw [if_pos (show (27 : Int32) ≤ nI 27 by decide)]
  | f + 1, v, hv => by
    have c : ¬ ((27 : Int32) ≤ nI v) := Int32.not_le.mpr ((nI_ltI (b := 27) (by omega) (by decide)).mpr (by omega))
    have e0 : nI a + (9 : Int32) + nI v = nI (a + 9 + v) := by rw [show (9 : Int32) = nI 9 from rfl, nI_add, nI_add]
    have i0 : inB (nI (a + 9 + v)) 253 = true := inB_nI (by omega) (by decide)
    have t0 : (nI (a + 9 + v)).toNatClampNeg = a + 9 + v := nI_clamp (by omega)
    have e1 : nI v + (1 : Int32) = nI (v + 1) := nI_add v 1
    have z3 : (!(decide ((3 : Int32) = 0))) = true := by decide
    have c2 : (nI (v % 3) = (2 : Int32)) = (v % 3 = 2) := propext (nI_eq (b := 2) (by omega) (by decide))
    by_cases h3 : s = 3
    · subst h3
      have q3 : (nI 3 = (3 : Int32)) = True := eq_true rfl
      simp only [z_X9_node_190, z_X9_node_192, z_X9_node_194, z_X9_node_197, z_X9_node_198, z_X9_node_201, z_X9_node_203, z_X9_node_205, z_X9_node_206, z_X9_node_208, z_X9_node_209, z_X9_node_210, z_X9_node_211, z_X9_node_214, z_X9_node_215, z_X9_node_218, z_X9_node_220, z_X9_node_221, z_X9_node_222, z_X9_node_223, z_X9_node_226, z_X9_node_227, z_X9_node_230, z_X9_node_232, z_X9_node_233, c, mf_r1 hF, mf_r2 hF, mf_r3 hF, mf_r5 hF, mf_r10 hF, mf_r11 hF, mf_r13 hF, mf_r15 hF, mf_r16 hF, mf_r19 hF, mf_r21 hF, mf_r22 hF, mf_r23 hF, mf_r24 hF, mf_r25 hF, mf_r26 hF, mf_r27 hF, mf_r29 hF, mf_r30 hF, mf_r31 hF, mf_r32 hF, mf_s98 hF, mf_s99 hF, mf_s100 hF, mf_s101 hF, mf_s102 hF, mf_s103 hF, mf_s104 hF, mf_s105 hF, mf_s106 hF, mf_s107 hF, mf_s108 hF, mf_s109 hF, mf_s110 hF, mf_s111 hF, mf_s112 hF, mf_s113 hF, mf_s114 hF, mf_s115 hF, mf_s116 hF, mf_s117 hF, mf_s118 hF, rR_fI, sh_fI, e0, i0, t0, e1, q3, true_and, Option.toList_some, Option.toList_none, List.cons_append, List.nil_append, is2IT, is2RT, if_true, if_false]
      rw [z_X9_node_236, fI_s (f := fun j => nI (tb0 3 (j % 3))) (n := v) (show (4 : Int32) = nI (tb0 3 (v % 3)) from rfl), node_l2 hF ha (Or.inr rfl) f (v + 1) (by omega)]
    · have hs2 : s = 2 := by omega
      subst hs2
      have q3 : (nI 2 = (3 : Int32)) = False := eq_false (by decide)
      by_cases h2 : v % 3 = 2
      · have x : (0 : Int32) = nI (tb0 2 (v % 3)) := by rw [h2]; rfl
        simp only [z_X9_node_190, z_X9_node_192, z_X9_node_194, z_X9_node_197, z_X9_node_198, z_X9_node_201, z_X9_node_203, z_X9_node_205, z_X9_node_206, z_X9_node_208, z_X9_node_209, z_X9_node_210, z_X9_node_211, z_X9_node_214, z_X9_node_215, z_X9_node_218, z_X9_node_220, z_X9_node_221, z_X9_node_222, z_X9_node_223, z_X9_node_226, z_X9_node_227, z_X9_node_230, z_X9_node_232, z_X9_node_233, c, mf_r1 hF, mf_r2 hF, mf_r3 hF, mf_r5 hF, mf_r10 hF, mf_r11 hF, mf_r13 hF, mf_r15 hF, mf_r16 hF, mf_r19 hF, mf_r21 hF, mf_r22 hF, mf_r23 hF, mf_r24 hF, mf_r25 hF, mf_r26 hF, mf_r27 hF, mf_r29 hF, mf_r30 hF, mf_r31 hF, mf_r32 hF, mf_s98 hF, mf_s99 hF, mf_s100 hF, mf_s101 hF, mf_s102 hF, mf_s103 hF, mf_s104 hF, mf_s105 hF, mf_s106 hF, mf_s107 hF, mf_s108 hF, mf_s109 hF, mf_s110 hF, mf_s111 hF, mf_s112 hF, mf_s113 hF, mf_s114 hF, mf_s115 hF, mf_s116 hF, mf_s117 hF, mf_s118 hF, rR_fI, sh_fI, e0, i0, t0, e1, q3, mod3 (show v < 2 ^ 31 by omega), c2, h2, nI22, z3, true_and, Option.toList_some, Option.toList_none, List.cons_append, List.nil_append, is2IT, is2RT, if_true, if_false]
        rw [z_X9_node_236, fI_s (f := fun j => nI (tb0 2 (j % 3))) (n := v) x, node_l2 hF ha (Or.inl rfl) f (v + 1) (by omega)]
      · have x : (6 : Int32) = nI (tb0 2 (v % 3)) := by unfold tb0; rw [if_neg (by decide), if_neg h2]; rfl
        simp only [z_X9_node_190, z_X9_node_192, z_X9_node_194, z_X9_node_197, z_X9_node_198, z_X9_node_201, z_X9_node_203, z_X9_node_205, z_X9_node_206, z_X9_node_208, z_X9_node_209, z_X9_node_210, z_X9_node_211, z_X9_node_214, z_X9_node_215, z_X9_node_218, z_X9_node_220, z_X9_node_221, z_X9_node_222, z_X9_node_223, z_X9_node_226, z_X9_node_227, z_X9_node_230, z_X9_node_232, z_X9_node_233, c, mf_r1 hF, mf_r2 hF, mf_r3 hF, mf_r5 hF, mf_r10 hF, mf_r11 hF, mf_r13 hF, mf_r15 hF, mf_r16 hF, mf_r19 hF, mf_r21 hF, mf_r22 hF, mf_r23 hF, mf_r24 hF, mf_r25 hF, mf_r26 hF, mf_r27 hF, mf_r29 hF, mf_r30 hF, mf_r31 hF, mf_r32 hF, mf_s98 hF, mf_s99 hF, mf_s100 hF, mf_s101 hF, mf_s102 hF, mf_s103 hF, mf_s104 hF, mf_s105 hF, mf_s106 hF, mf_s107 hF, mf_s108 hF, mf_s109 hF, mf_s110 hF, mf_s111 hF, mf_s112 hF, mf_s113 hF, mf_s114 hF, mf_s115 hF, mf_s116 hF, mf_s117 hF, mf_s118 hF, rR_fI, sh_fI, e0, i0, t0, e1, q3, mod3 (show v < 2 ^ 31 by omega), c2, h2, z3, true_and, Option.toList_some, Option.toList_none, List.cons_append, List.nil_append, is2IT, is2RT, if_true, if_false]
        rw [z_X9_node_236, fI_s (f := fun j => nI (tb0 2 (j % 3))) (n := v) x, node_l2 hF ha (Or.inl rfl) f (v + 1) (by omega)]
