/-! ===== texts that the class names; words read ===== -/
def txL (k : Nat) : List Nat := txB.getD k [110, 111, 100, 101]
theorem tx_b : ∀ k, k < 15 → ∀ i, i < 7 → (txL k).getD i 0 < 128 := by decide
theorem tx_6 : ∀ k, k < 15 → (txL k).length ≤ 6 := by decide
theorem byt : ∀ c, c < 256 → ((nI c &&& 255).toUInt32 % 65536).toInt32 = nI c := by decide +kernel
theorem byk : ∀ c, c < 256 → retOK (some .char) (nI c) = true := by decide +kernel
section JS
variable {d : Nat} {Q : Option PV → St → Prop} {σ : St}
theorem j_coder {k : Nat} : Ca (d + 1) 239 [vR k 46] σ Q ↔ Q (some (vI 0)) σ := by
  rw [ca_at (K := kJ0_coder_7d493) (ls := [vR k 46]) rfl rfl rfl]
  have n10 : ((1 : Int32) = 0) = False := eq_false (by decide)
  simp only [z_J0_coder_7d493_0, z_J0_coder_7d493_3, z_J0_coder_7d493_6, z_J0_coder_7d493_7, z_J0_coder_7d493_10, z_J0_coder_7d493_13, z_J0_coder_7d493_14, n10, show (retOK (some .byte) 0 = true) = True from eq_true (by decide), true_and, Option.toList_some, Option.toList_none, List.cons_append, List.nil_append, is2IT, is2RT, if_true, if_false]
theorem j_isL {k : Nat} : Ca (d + 1) 240 [vR k 46] σ Q ↔ Q (some (vI 1)) σ := by
  rw [ca_at (K := kJ0_isLatin1_aae02) (ls := [vR k 46]) rfl rfl rfl]
  have n10 : ((1 : Int32) = 0) = False := eq_false (by decide)
  simp only [z_J0_isLatin1_aae02_0, z_J0_isLatin1_aae02_3, z_J0_isLatin1_aae02_6, z_J0_isLatin1_aae02_7, z_J0_isLatin1_aae02_10, z_J0_isLatin1_aae02_13, z_J0_isLatin1_aae02_14, z_J0_isLatin1_aae02_17, z_J0_isLatin1_aae02_18, n10, rk_b1, true_and, Option.toList_some, Option.toList_none, List.cons_append, List.nil_append, is2IT, is2RT, if_true, if_false]
theorem j_len {k : Nat} : Ca (d + 2) 236 [vR k 46] σ Q ↔ Q (some (vI (nI (txL k).length))) σ := by
  rw [ca_at (K := kJ0_length_8abf5) (ls := [vR k 46]) rfl rfl rfl]
  have e0 : ∀ n : Nat, Int32.ofNat n >>> ((0 : Int32) &&& 31) = nI n := fun n => by
    rw [show ((0 : Int32) &&& 31) = 0 by decide]
    exact Int32.shiftRight_zero
  simp only [z_J0_length_8abf5_0, z_J0_length_8abf5_1, z_J0_length_8abf5_4x, z_J0_length_8abf5_5, z_J0_length_8abf5_6, z_J0_length_8abf5_9, z_J0_length_8abf5_10, j_coder, e0, true_and, Option.toList_some, Option.toList_none, List.cons_append, List.nil_append, is2IT, is2RT, if_true, if_false]
  exact Iff.rfl
theorem j_chk3 {i n : Nat} {k t : Nat} (hi : i < n) (hn : n < 1000) : Ca (d + 1) 277 [vI (nI i), vI (nI n), vR k t] σ Q ↔ Q (some (vI (nI i))) σ := by
  rw [ca_at (K := kJ3_checkIndex_8e157) (ls := [vI (nI i), vI (nI n), vR k t]) rfl rfl rfl]
  have n0 : ¬ (nI i < 0) := nI_pos (by omega)
  simp (disch := first | exact is2I | exact is2R | omega) only [z_J3_checkIndex_8e157_0, z_J3_checkIndex_8e157_1, z_J3_checkIndex_8e157_4, z_J3_checkIndex_8e157_5, z_J3_checkIndex_8e157_6, z_J3_checkIndex_8e157_16, z_J3_checkIndex_8e157_17, n0, kLt, hi, true_and, Option.toList_some, Option.toList_none, List.cons_append, List.nil_append, is2IT, is2RT, if_true, if_false]
theorem j_chk {i n : Nat} (hi : i < n) (hn : n < 1000) : Ca (d + 2) 241 [vI (nI i), vI (nI n)] σ Q ↔ Q none σ := by
  rw [ca_at (K := kJ0_checkIndex_df160) (ls := [vI (nI i), vI (nI n)]) rfl rfl rfl]
  simp (disch := first | exact is2I | exact is2R | omega) only [z_J0_checkIndex_df160_0, z_J0_checkIndex_df160_1, z_J0_checkIndex_df160_2, z_J0_checkIndex_df160_5, z_J0_checkIndex_df160_8, z_J0_checkIndex_df160_9, j_chk3 hi hn, true_and, Option.toList_some, Option.toList_none, List.cons_append, List.nil_append, is2IT, is2RT, if_true, if_false]
theorem j_char {k i : Nat} (hk : k < 15) (hi : i < (txL k).length) : Ca (d + 4) 237 [vR k 46, vI (nI i)] σ Q ↔ Q (some (vI (nI ((txL k).getD i 0)))) σ := by
  have l6 := tx_6 k hk
  have b := tx_b k hk i (by omega)
  have n10 : ((1 : Int32) = 0) = False := eq_false (by decide)
  rw [ca_at (K := kJ0_charAt_5068e) (ls := [vR k 46, vI (nI i)]) rfl rfl rfl]
  have e2 : (xa σ 44 k).1 = (txL k).length := rfl
  have e3 : (xa σ 44 k).2 i = nI ((txL k).getD i 0) := rfl
  have inner : ∀ Q : Option PV → St → Prop, Ca (d + 3) 251 [vR k 44, vI (nI i)] σ Q ↔ Q (some (vI (nI ((txL k).getD i 0)))) σ := fun Q => by
    rw [ca_at (K := kJ1_charAt_3b067) (ls := [vR k 44, vI (nI i)]) rfl rfl rfl]
    simp (disch := first | exact is2I | exact is2R | omega) only [z_J1_charAt_3b067_0, z_J1_charAt_3b067_1, z_J1_charAt_3b067_2x, e2, kArr, z_J1_charAt_3b067_3, j_chk hi (show (txL k).length < 1000 by omega), z_J1_charAt_3b067_6, z_J1_charAt_3b067_7, z_J1_charAt_3b067_8x, e2, kIn, kCl, e3, z_J1_charAt_3b067_9, z_J1_charAt_3b067_12, z_J1_charAt_3b067_13, z_J1_charAt_3b067_14, byt ((txL k).getD i 0) (show (txL k).getD i 0 < 256 by omega), byk ((txL k).getD i 0) (show (txL k).getD i 0 < 256 by omega), Option.toList_none, List.nil_append, true_and, Option.toList_some, Option.toList_none, List.cons_append, List.nil_append, is2IT, is2RT, if_true, if_false]
  simp (disch := first | exact is2I | exact is2R | omega) only [z_J0_charAt_5068e_0, z_J0_charAt_5068e_1, z_J0_charAt_5068e_4, z_J0_charAt_5068e_7, z_J0_charAt_5068e_8, z_J0_charAt_5068e_11, z_J0_charAt_5068e_12, z_J0_charAt_5068e_15, j_isL, n10, inner, byk ((txL k).getD i 0) (show (txL k).getD i 0 < 256 by omega), true_and, Option.toList_some, Option.toList_none, List.cons_append, List.nil_append, is2IT, is2RT, if_true, if_false]
theorem c_wordOf {k : Nat} (hk : k < 8) : Ca (d + 1) 36 [vI (nI k)] σ Q ↔ Q (some (vR k 46)) σ := by
  rw [ca_at (K := kX3_wordOf) (ls := [vI (nI k)]) rfl rfl rfl]
  rcases (show k = 0 ∨ k = 1 ∨ k = 2 ∨ k = 3 ∨ k = 4 ∨ k = 5 ∨ k = 6 ∨ k = 7 by omega) with rfl | rfl | rfl | rfl | rfl | rfl | rfl | rfl
  · simp only [z_X3_wordOf_0, z_X3_wordOf_1_0, z_X3_wordOf_44, z_X3_wordOf_46, true_and, Option.toList_some, Option.toList_none, List.cons_append, List.nil_append, is2IT, is2RT, if_true, if_false]
  · simp only [z_X3_wordOf_0, z_X3_wordOf_1_1, z_X3_wordOf_47, z_X3_wordOf_49, true_and, Option.toList_some, Option.toList_none, List.cons_append, List.nil_append, is2IT, is2RT, if_true, if_false]
  · simp only [z_X3_wordOf_0, z_X3_wordOf_1_2, z_X3_wordOf_50, z_X3_wordOf_52, true_and, Option.toList_some, Option.toList_none, List.cons_append, List.nil_append, is2IT, is2RT, if_true, if_false]
  · simp only [z_X3_wordOf_0, z_X3_wordOf_1_3, z_X3_wordOf_53, z_X3_wordOf_55, true_and, Option.toList_some, Option.toList_none, List.cons_append, List.nil_append, is2IT, is2RT, if_true, if_false]
  · simp only [z_X3_wordOf_0, z_X3_wordOf_1_4, z_X3_wordOf_56, z_X3_wordOf_58, true_and, Option.toList_some, Option.toList_none, List.cons_append, List.nil_append, is2IT, is2RT, if_true, if_false]
  · simp only [z_X3_wordOf_0, z_X3_wordOf_1_5, z_X3_wordOf_59, z_X3_wordOf_61, true_and, Option.toList_some, Option.toList_none, List.cons_append, List.nil_append, is2IT, is2RT, if_true, if_false]
  · simp only [z_X3_wordOf_0, z_X3_wordOf_1_6, z_X3_wordOf_62, z_X3_wordOf_64, true_and, Option.toList_some, Option.toList_none, List.cons_append, List.nil_append, is2IT, is2RT, if_true, if_false]
  · have z7 : ¬ (0 ≤ nI 7 ∧ nI 7 < nI 7) := by decide
    simp (disch := first | exact z7 | omega) only [z_X3_wordOf_0, z_X3_wordOf_1_d, z_X3_wordOf_65, z_X3_wordOf_67, true_and, Option.toList_some, Option.toList_none, List.cons_append, List.nil_append, is2IT, is2RT, if_true, if_false]
theorem c_isLt {b : Nat} (hb : b < 256) : Ca (d + 1) 37 [vI (nI b)] σ Q ↔ Q (some (vI (b2 (isLt b = true)))) σ := by
  rw [ca_at (K := kX3_isLetter) (ls := [vI (nI b)]) rfl rfl rfl]
  simp (disch := first | exact is2I | exact is2R | omega) only [z_X3_isLetter_0, z_X3_isLetter_1, z_X3_isLetter_3, z_X3_isLetter_6, z_X3_isLetter_7, z_X3_isLetter_9, z_X3_isLetter_12, z_X3_isLetter_13, z_X3_isLetter_16, z_X3_isLetter_17, kLtL, kLLt, kLeL, kLLe, rk_b0, rk_b1, true_and, Option.toList_some, Option.toList_none, List.cons_append, List.nil_append, is2IT, is2RT, if_true, if_false]
  by_cases c1 : b < 97
  · rw [if_pos c1, b2_f (fun q => by have := (of_decide_eq_true q).1; omega)]
  · rw [if_neg c1]
    by_cases c2 : 122 < b
    · rw [if_pos c2, b2_f (fun q => by have := (of_decide_eq_true q).2; omega)]
    · rw [if_neg c2, b2_t (show isLt b = true from decide_eq_true ⟨by omega, by omega⟩)]
theorem c_isDg {b : Nat} (hb : b < 256) : Ca (d + 1) 38 [vI (nI b)] σ Q ↔ Q (some (vI (b2 (isDg b = true)))) σ := by
  rw [ca_at (K := kX3_isDigit) (ls := [vI (nI b)]) rfl rfl rfl]
  simp (disch := first | exact is2I | exact is2R | omega) only [z_X3_isDigit_0, z_X3_isDigit_1, z_X3_isDigit_3, z_X3_isDigit_6, z_X3_isDigit_7, z_X3_isDigit_9, z_X3_isDigit_12, z_X3_isDigit_13, z_X3_isDigit_16, z_X3_isDigit_17, kLtL, kLLt, kLeL, kLLe, rk_b0, rk_b1, true_and, Option.toList_some, Option.toList_none, List.cons_append, List.nil_append, is2IT, is2RT, if_true, if_false]
  by_cases c1 : b < 48
  · rw [if_pos c1, b2_f (fun q => by have := (of_decide_eq_true q).1; omega)]
  · rw [if_neg c1]
    by_cases c2 : 57 < b
    · rw [if_pos c2, b2_f (fun q => by have := (of_decide_eq_true q).2; omega)]
    · rw [if_neg c2, b2_t (show isDg b = true from decide_eq_true ⟨by omega, by omega⟩)]
/-- a word stands from a to b -/
def rdW (T : List Nat) (a b : Nat) (w : List Nat) : Bool := decide (w.length = b - a) && (List.range' 0 w.length).all fun i => decide (T[a + i]? = some (w.getD i 0))
theorem tp_at {T : List Nat} (h : tpC σ T) {i : Nat} (hi : i < T.length) : rI σ 84 i = nI T[i] := (h.2.2 i hi).1
theorem c_isRead {T : List Nat} {a b k : Nat} (hX : XF σ) (hT : tpC σ T) (h2 : rI σ 83 2 = nI b) (h3 : rI σ 83 3 = nI a) (hab : a ≤ b) (hb : b ≤ T.length) (hk : k < 15) : Ca (d + 5) 35 [vR 83 4, vR k 46] σ Q ↔ Q (some (vI (b2 (rdW T a b (txL k) = true)))) σ := by
  have l6 := tx_6 k hk
  have t60 := hT.2.1
  rw [ca_at (K := kX3_isRead) (ls := [vR 83 4, vR k 46, vU]) rfl rfl rfl]
  unfold rdW
  have es : nI b - nI a = nI (b - a) := pk_sub hab
  simp (disch := first | exact is2I | exact is2R | omega) only [z_X3_isRead_0, z_X3_isRead_1, z_X3_isRead_4, z_X3_isRead_5, z_X3_isRead_8, z_X3_isRead_9, z_X3_isRead_12, z_X3_isRead_13, z_X3_isRead_16, z_X3_isRead_17, j_len, h2, h3, es, kEq, rk_b0, true_and, Option.toList_some, Option.toList_none, List.cons_append, List.nil_append, is2IT, is2RT, if_true, if_false]
  by_cases c : (txL k).length = b - a
  · rw [if_pos c, decide_eq_true c, Bool.true_and]
    have loop : ∀ r i, i + r = (txL k).length → (At (d + 4) kX3_isRead 20 [vR 83 4, vR k 46, vI (nI i)] [] σ Q ↔ Q (some (vI (b2 (((List.range' i r).all fun i => decide (T[a + i]? = some ((txL k).getD i 0))) = true)))) σ) := by
      intro r
      induction r with
      | zero =>
        intro i hi
        have hi' : i = (txL k).length := by omega
        subst hi'
        simp (disch := first | exact is2I | exact is2R | omega) only [z_X3_isRead_20, z_X3_isRead_21, z_X3_isRead_22, z_X3_isRead_25, z_X3_isRead_55, z_X3_isRead_56, j_len, kLe, Nat.le_refl, rk_b1, true_and, Option.toList_some, Option.toList_none, List.cons_append, List.nil_append, is2IT, is2RT, if_true, if_false]
        exact Iff.rfl
      | succ r ih =>
        intro i hi
        have c1 : ¬ (txL k).length ≤ i := by omega
        have hai : a + i < T.length := by omega
        have ev : nI i + (1 : Int32) = nI (i + 1) := nI_add i 1
        have bk := tx_b k hk i (by omega)
        have t8 := (hT.2.2 (a + i) hai).2
        rw [List.range'_succ, List.all_cons, List.getElem?_eq_getElem hai]
        simp (disch := first | exact is2I | exact is2R | omega) only [z_X3_isRead_20, z_X3_isRead_21, z_X3_isRead_22, z_X3_isRead_25, z_X3_isRead_28, z_X3_isRead_29, z_X3_isRead_32, z_X3_isRead_33, z_X3_isRead_36, z_X3_isRead_37, z_X3_isRead_38, z_X3_isRead_38x, z_X3_isRead_39, z_X3_isRead_40, z_X3_isRead_41, z_X3_isRead_44, j_len, kLe, c1, xf_r83_0 hX, xf_s84 hX, h3, nI_add, kIn, kCl, tp_at hT hai, j_char hk (show i < (txL k).length by omega), kEq, true_and, Option.toList_some, Option.toList_none, List.cons_append, List.nil_append, is2IT, is2RT, if_true, if_false]
        by_cases c2 : T[a + i] = (txL k).getD i 0
        · rw [if_pos c2, decide_eq_true (show some T[a + i] = some ((txL k).getD i 0) by rw [c2]), Bool.true_and]
          simp (disch := first | exact is2I | exact is2R | omega) only [z_X3_isRead_49, ev, true_and, Option.toList_some, Option.toList_none, List.cons_append, List.nil_append, is2IT, is2RT, if_true, if_false]
          rw [z_X3_isRead_52]
          exact ih (i + 1) (by omega)
        · rw [if_neg c2, decide_eq_false (fun q => c2 (Option.some.inj q)), Bool.false_and]
          simp (disch := first | exact is2I | exact is2R | omega) only [z_X3_isRead_47, z_X3_isRead_48, rk_b0, true_and, Option.toList_some, Option.toList_none, List.cons_append, List.nil_append, is2IT, is2RT, if_true, if_false]
          exact Iff.rfl
    have l := loop (txL k).length 0 (by omega)
    simp (disch := first | exact is2I | exact is2R | omega) only [z_X3_isRead_18, z_X3_isRead_19, true_and, Option.toList_some, Option.toList_none, List.cons_append, List.nil_append, is2IT, is2RT, if_true, if_false]
    exact l
  · rw [if_neg c, decide_eq_false c, Bool.false_and]
    exact Iff.rfl
end JS
theorem rd_4 {T : List Nat} {a b x y z u : Nat} (h0 : x ≠ 0) (h1 : y ≠ 0) (h2 : z ≠ 0) (h3 : u ≠ 0) : rdW T a b [x, y, z, u] = isW T a b x y z u 0 := by
  rw [Bool.eq_iff_iff]
  unfold rdW isW ltAt
  rw [if_neg h0, if_neg h1, if_neg h2, if_neg h3, if_pos rfl]
  simp only [List.length_cons, List.length_nil, List.range'_succ, List.range'_zero, List.all_cons, List.all_nil, Bool.and_eq_true, decide_eq_true_eq, Bool.and_true, List.getD_cons_zero, List.getD_cons_succ, Nat.zero_add, Nat.reduceAdd]
  constructor
  · rintro ⟨e, q0, q1, q2, q3⟩
    exact ⟨by omega, ⟨by omega, q0⟩, ⟨by omega, q1⟩, ⟨by omega, q2⟩, ⟨by omega, q3⟩, by omega⟩
  · rintro ⟨e, ⟨p0, q0⟩, ⟨p1, q1⟩, ⟨p2, q2⟩, ⟨p3, q3⟩, p4⟩
    exact ⟨by omega, q0, q1, q2, q3⟩
theorem rd_3 {T : List Nat} {a b x y z : Nat} (h0 : x ≠ 0) (h1 : y ≠ 0) (h2 : z ≠ 0) : rdW T a b [x, y, z] = isW T a b x y z 0 0 := by
  rw [Bool.eq_iff_iff]
  unfold rdW isW ltAt
  rw [if_neg h0, if_neg h1, if_neg h2, if_pos rfl, if_pos rfl]
  simp only [List.length_cons, List.length_nil, List.range'_succ, List.range'_zero, List.all_cons, List.all_nil, Bool.and_eq_true, decide_eq_true_eq, Bool.and_true, List.getD_cons_zero, List.getD_cons_succ, Nat.zero_add, Nat.reduceAdd]
  constructor
  · rintro ⟨e, q0, q1, q2⟩
    exact ⟨by omega, ⟨by omega, q0⟩, ⟨by omega, q1⟩, ⟨by omega, q2⟩, by omega, by omega⟩
  · rintro ⟨e, ⟨p0, q0⟩, ⟨p1, q1⟩, ⟨p2, q2⟩, p3, p4⟩
    exact ⟨by omega, q0, q1, q2⟩
theorem rd_5 {T : List Nat} {a b x y z u v : Nat} (h0 : x ≠ 0) (h1 : y ≠ 0) (h2 : z ≠ 0) (h3 : u ≠ 0) (h4 : v ≠ 0) : rdW T a b [x, y, z, u, v] = isW T a b x y z u v := by
  rw [Bool.eq_iff_iff]
  unfold rdW isW ltAt
  rw [if_neg h0, if_neg h1, if_neg h2, if_neg h3, if_neg h4]
  simp only [List.length_cons, List.length_nil, List.range'_succ, List.range'_zero, List.all_cons, List.all_nil, Bool.and_eq_true, decide_eq_true_eq, Bool.and_true, List.getD_cons_zero, List.getD_cons_succ, Nat.zero_add, Nat.reduceAdd]
  constructor
  · rintro ⟨e, q0, q1, q2, q3, q4⟩
    exact ⟨by omega, ⟨by omega, q0⟩, ⟨by omega, q1⟩, ⟨by omega, q2⟩, ⟨by omega, q3⟩, by omega, q4⟩
  · rintro ⟨e, ⟨p0, q0⟩, ⟨p1, q1⟩, ⟨p2, q2⟩, ⟨p3, q3⟩, p4, q4⟩
    exact ⟨by omega, q0, q1, q2, q3, q4⟩
def fwR (T : List Nat) (a b : Nat) : Nat → Nat → Option Nat
  | 0, _ => none
  | r + 1, k => if rdW T a b (txL k) = true then some k else fwR T a b r (k + 1)
theorem fwR_wc {T : List Nat} {a b : Nat} : fwR T a b 8 0 = wcR T a b := by
  have e0 : rdW T a b (txL 0) = isW T a b 110 111 100 101 0 := rd_4 (by decide) (by decide) (by decide) (by decide)
  have e1 : rdW T a b (txL 1) = isW T a b 109 111 115 116 0 := rd_4 (by decide) (by decide) (by decide) (by decide)
  have e2 : rdW T a b (txL 2) = isW T a b 108 101 97 115 116 := rd_5 (by decide) (by decide) (by decide) (by decide) (by decide)
  have e3 : rdW T a b (txL 3) = isW T a b 115 117 109 0 0 := rd_3 (by decide) (by decide) (by decide)
  have e4 : rdW T a b (txL 4) = isW T a b 114 111 119 0 0 := rd_3 (by decide) (by decide) (by decide)
  have e5 : rdW T a b (txL 5) = isW T a b 116 111 108 100 0 := rd_4 (by decide) (by decide) (by decide) (by decide)
  have e6 : rdW T a b (txL 6) = isW T a b 100 111 110 101 0 := rd_4 (by decide) (by decide) (by decide) (by decide)
  have e7 : rdW T a b (txL 7) = isW T a b 104 105 110 116 0 := rd_4 (by decide) (by decide) (by decide) (by decide)
  unfold wcR
  simp only [fwR, Nat.zero_add, Nat.reduceAdd, e0, e1, e2, e3, e4, e5, e6, e7]
theorem fw_l {d : Nat} {Q : Option PV → St → Prop} {σ : St} {T : List Nat} {a b : Nat} (hX : XF σ) (hT : tpC σ T) (h2 : rI σ 83 2 = nI b) (h3 : rI σ 83 3 = nI a) (hab : a ≤ b) (hb : b ≤ T.length) : ∀ r k, k + r = 8 → (At (d + 5) kX3_findWord 2 [vR 83 4, vI (nI k)] [] σ Q ↔ Q (some (vI (oI (fwR T a b r k)))) σ)
  | 0, k, hk => by
    have : k = 8 := by omega
    subst this
    simp (disch := first | exact is2I | exact is2R | omega) only [z_X3_findWord_2, z_X3_findWord_3, z_X3_findWord_5, z_X3_findWord_27, z_X3_findWord_28, show ((8 : Int32) ≤ nI 8) = True from eq_true (by decide), true_and, Option.toList_some, Option.toList_none, List.cons_append, List.nil_append, is2IT, is2RT, if_true, if_false]
    exact Iff.rfl
  | r + 1, k, hk => by
    have c : ¬ 8 ≤ k := by omega
    have ev : nI k + (1 : Int32) = nI (k + 1) := nI_add k 1
    have es : fwR T a b (r + 1) k = if rdW T a b (txL k) = true then some k else fwR T a b r (k + 1) := rfl
    rw [es]
    simp (disch := first | exact is2I | exact is2R | omega) only [z_X3_findWord_2, z_X3_findWord_3, z_X3_findWord_5, z_X3_findWord_8, z_X3_findWord_9, z_X3_findWord_10, z_X3_findWord_13, z_X3_findWord_16, kLLe, c, c_wordOf (show k < 8 by omega), c_isRead hX hT h2 h3 hab hb (show k < 15 by omega), b2_0, true_and, Option.toList_some, Option.toList_none, List.cons_append, List.nil_append, is2IT, is2RT, if_true, if_false]
    by_cases cr : rdW T a b (txL k) = true
    · rw [if_pos cr, if_neg (fun q => q cr)]
      simp (disch := first | exact is2I | exact is2R | omega) only [z_X3_findWord_19, z_X3_findWord_20, true_and, Option.toList_some, Option.toList_none, List.cons_append, List.nil_append, is2IT, is2RT, if_true, if_false]
      exact Iff.rfl
    · rw [if_neg cr, if_pos cr]
      simp (disch := first | exact is2I | exact is2R | omega) only [z_X3_findWord_21, ev, true_and, Option.toList_some, Option.toList_none, List.cons_append, List.nil_append, is2IT, is2RT, if_true, if_false]
      rw [z_X3_findWord_24]
      exact fw_l hX hT h2 h3 hab hb r (k + 1) (by omega)
theorem c_findWord {d : Nat} {Q : Option PV → St → Prop} {σ : St} {T : List Nat} {a b : Nat} (hX : XF σ) (hT : tpC σ T) (h2 : rI σ 83 2 = nI b) (h3 : rI σ 83 3 = nI a) (hab : a ≤ b) (hb : b ≤ T.length) : Ca (d + 6) 34 [vR 83 4] σ Q ↔ Q (some (vI (oI (wcR T a b)))) σ := by
  rw [ca_at (K := kX3_findWord) (ls := [vR 83 4, vU]) rfl rfl rfl]
  have l := @fw_l d Q σ T a b hX hT h2 h3 hab hb 8 0 (by omega)
  rw [fwR_wc] at l
  simp only [z_X3_findWord_0, z_X3_findWord_1, true_and, Option.toList_some, Option.toList_none, List.cons_append, List.nil_append, is2IT, is2RT, if_true, if_false]
  exact l
