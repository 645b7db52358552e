/-! ===== what the Statement gives of the texts, the digits and the two flags ===== -/
def FLw : List Jvm.Cond := flatC (Jvm.Cond.and given_1 narrow_1)
def gAt (p : Nat) (w : Jvm.Cond) : Bool := decide (FLw[p]? = some w)
def tmS (k : Nat) : Jvm.Term := match txT[k]? with
  | some q => .string q.1 q.2.1
  | none => .string "" 0
def vlS (k : Nat) : Jvm.Term := .field (tmS k) "java/lang/String" "value" "[B"
def stP : List Nat := [246, 254, 263, 274, 284, 295, 308, 322, 337, 354, 373, 391, 408, 430, 453]
def srP : List Nat := [482, 483, 484, 485, 486, 487, 488, 489, 708, 709, 710, 741, 742, 743, 745]
def gS (k : Nat) : Bool := gAt (stP.getD k 0) (.exactly (tmS k) "java/lang/String") && (gAt (stP.getD k 0 + 1) (.eq (.field (tmS k) "java/lang/String" "coder" "B") (.int 0)) && (gAt (stP.getD k 0 + 2) (.arrayOf (vlS k) .byte) && (gAt (stP.getD k 0 + 3) (.eq (.length (vlS k)) (.int (Int32.ofNat (txL k).length))) && (List.range (txL k).length).all fun j => gAt (stP.getD k 0 + 4 + j) (.eq (.elem (vlS k) (.int (Int32.ofNat j))) (.int (Int32.ofNat ((txL k).getD j 0)))))))
theorem gS_ok : (List.range 15).all gS = true := by decide +kernel
def gR (k : Nat) : Bool := match txT[k]? with
  | some q => decide (lw_tbl[srP.getD k 0]? = some (.stringRef q.1 q.2.1 q.2.2))
  | none => false
theorem gR_ok : (List.range 15).all gR = true := by decide +kernel
def dgT (n : String) : Jvm.Term := .static "java/lang/Integer" n "[B"
def gD (t p : Nat) (n : String) : Bool := gAt p (.arrayOf (dgT n) .byte) && (gAt (p + 1) (.eq (.length (dgT n)) (.int 100)) && (List.range 100).all fun j => gAt (p + 2 + j) (.eq (.elem (dgT n) (.int (Int32.ofNat j))) (.int (Int32.ofNat (dgV t j)))))
theorem gD1_ok : gD 42 21 "DigitOnes" = true := by decide +kernel
theorem gD2_ok : gD 43 124 "DigitTens" = true := by decide +kernel
theorem gC_ok : gAt 4 (.eq (.static "java/lang/String" "COMPACT_STRINGS" "Z") (.int 1)) = true ∧ gAt 5 (.isRef (.static "jdk/internal/util/Preconditions" "SIOOBE_FORMATTER" "Ljava/util/function/BiFunction;")) = true := by constructor <;> decide +kernel
def lAt (p : Nat) (w : Jvm.Cond) : Bool := decide (lw_tbl[p]? = some w)
theorem lz_ok : lAt 653 (.laysStatic "java/lang/Integer" "DigitOnes" "[B") = true ∧ lAt 655 (.laysStatic "java/lang/Integer" "DigitTens" "[B") = true ∧ lAt 295 (.laysStatic "java/lang/String" "COMPACT_STRINGS" "Z") = true ∧ lAt 518 (.laysStatic "jdk/internal/util/Preconditions" "SIOOBE_FORMATTER" "Ljava/util/function/BiFunction;") = true ∧ lAt 88 (.initialized "java/lang/Integer") = true ∧ lAt 77 (.initialized "java/lang/String") = true ∧ lAt 83 (.initialized "jdk/internal/util/Preconditions") = true := by refine ⟨?_, ?_, ?_, ?_, ?_, ?_, ?_⟩ <;> decide +kernel
section GV
variable {s : State} {b : Nat} {A : Nat → Prop}
theorem g_of (hgv : (Jvm.Cond.and given_1 narrow_1).before #[Value.ref b] s = true) {p : Nat} {w : Jvm.Cond} (h : gAt p w = true) : w.before #[Value.ref b] s = true :=
  flat_of_before _ hgv w (List.mem_of_getElem? (of_decide_eq_true h))
theorem l_of (hts : ∀ w ∈ lw_tbl, w.before #[Value.ref b] s = true) {p : Nat} {w : Jvm.Cond} (h : lAt p w = true) : w.before #[Value.ref b] s = true := hts w (List.mem_of_getElem? (of_decide_eq_true h))
theorem g_str (hgv : (Jvm.Cond.and given_1 narrow_1).before #[Value.ref b] s = true) (hA : ∀ a : Nat, a < s.heap.size → ¬ A a) (k : Nat) (hk : k < 15) : ∃ q v, (tmS k).eval #[Value.ref b] s none [] s = some (.ref q) ∧ va_O "java/lang/String" q A s s.heap ∧ va_OF "java/lang/String" "coder" "B" (.int 0) q A s s.heap ∧ va_OF "java/lang/String" "value" "[B" (.ref v) q A s s.heap ∧ va_T .byte v (txL k).length (fun j => .int (Int32.ofNat ((txL k).getD j 0))) A s s.heap := by
  have h := List.all_eq_true.mp gS_ok k (List.mem_range.mpr hk)
  unfold gS at h
  simp only [Bool.and_eq_true] at h
  obtain ⟨h1, h2, h3, h4, h5⟩ := h
  obtain ⟨a, c, cA, kA, q1, q2, q3, q4, q5, q6, -⟩ := Cond.exactly_spec (args := #[Value.ref b]) (first := s) (o := none) (s := s) (idx := []) (t := tmS k) (cls := "java/lang/String") (g_of hgv h1)
  have hl : (txL k).length < 2 ^ 31 := Nat.lt_of_le_of_lt (tx_6 k hk) (by decide)
  obtain ⟨t, ht, hT⟩ := va_Tof (N := (txL k).length) (f := fun j => .int (Int32.ofNat ((txL k).getD j 0))) (A := A) hl (g_of hgv h3) (va_eqt (g_of hgv h4)) (fun j hj => va_eqt (g_of hgv (List.all_eq_true.mp h5 j (List.mem_range.mpr hj)))) hA
  exact ⟨a, t, q1, ⟨cA, q3, q5, by rw [q6]; exact q2, hA a (Array.getElem?_eq_some_iff.mp q3).1⟩, vk_OFof q1 (va_eqt (g_of hgv h2)) hA, vk_OFof q1 ht hA, hT⟩
theorem g_dig (hts : ∀ w ∈ lw_tbl, w.before #[Value.ref b] s = true) (hgv : (Jvm.Cond.and given_1 narrow_1).before #[Value.ref b] s = true) (hA : ∀ a : Nat, a < s.heap.size → ¬ A a) {t p : Nat} {n : String} (h : gD t p n = true) (hl : (Jvm.Cond.laysStatic "java/lang/Integer" n "[B").before #[Value.ref b] s = true) : ∃ d, va_Z "java/lang/Integer" n "[B" (.ref d) A s s.heap ∧ va_T .byte d 100 (fun j => .int (Int32.ofNat (dgV t j))) A s s.heap := by
  unfold gD at h
  simp only [Bool.and_eq_true] at h
  obtain ⟨h1, h2, h3⟩ := h
  obtain ⟨d, hd, hT⟩ := va_Tof (N := 100) (f := fun j => .int (Int32.ofNat (dgV t j))) (A := A) (by decide) (g_of hgv h1) (va_eqt (g_of hgv h2)) (fun j hj => va_eqt (g_of hgv (List.all_eq_true.mp h3 j (List.mem_range.mpr hj)))) hA
  exact ⟨d, va_Zof hl (l_of hts lz_ok.2.2.2.2.1) hd hA, hT⟩
end GV
/-- a private method of the builder's upper part is what a builder's call of it selects -/
theorem up_sel {y : MethodName} {s : State} {args : Array Value} (h0 : (Jvm.Cond.selects "java/lang/StringBuilder" yJ5_isLatin1_aae02 yJ5_isLatin1_aae02).before args s = true) (hc : y.cls = yJ5_isLatin1_aae02.cls) (hy : y.cls ≠ "java/lang/invoke/MethodHandle" ∧ y.cls ≠ "java/lang/invoke/VarHandle") (hp : (Jvm.Cond.privateMethod y).before args s = true) (hi : (Jvm.Cond.instanceMethod y).before args s = true) : (Jvm.Cond.selects "java/lang/StringBuilder" y y).before args s = true := by
  obtain ⟨c2, -, m2, q1, -, q3, -, kP, hkP, hkPi⟩ := Cond.selects_spec h0
  obtain ⟨mk, mM, hn, hm, -, -⟩ := Cond.instanceMethod_spec hi
  have hf : s.methodFound? y.cls y.name y.desc = some mk := State.methodFound?_of_named hn hy
  have e : mk.cls = m2.cls := Option.some.inj ((findClass_of_methodNamed hn).symm.trans (hc ▸ findClass_of_methodNamed q3))
  have hs : selectMethod {} s.vm c2 mk = .method mk := selectMethod_private hm (Cond.privateMethod_at hp mk mM hn hm)
  simp only [Cond.before, Cond.holds, Cond.value, q1, hf, hn, hs, e, hkP]
  simp; exact hkPi
def upP : List (Nat × Nat) := [(587, 588), (591, 592), (687, 688), (719, 720), (727, 728), (731, 732)]
theorem up_ok : lAt 620 (.selects "java/lang/StringBuilder" yJ5_isLatin1_aae02 yJ5_isLatin1_aae02) = true ∧ (upL.zip upP).all (fun q => decide (q.1.cls = yJ5_isLatin1_aae02.cls) && (decide (q.1.cls ≠ "java/lang/invoke/MethodHandle") && (decide (q.1.cls ≠ "java/lang/invoke/VarHandle") && (lAt q.2.1 (.privateMethod q.1) && lAt q.2.2 (.instanceMethod q.1))))) = true := by constructor <;> decide +kernel
theorem sel2_ok {s : State} {b : Nat} (hts : ∀ w ∈ lw_tbl, w.before #[Value.ref b] s = true) : ∀ w ∈ SEL2, w.before #[Value.ref b] s = true := by
  intro w hw
  unfold SEL2 at hw
  obtain ⟨y, hy, rfl⟩ := List.mem_map.mp hw
  obtain ⟨q, hq, rfl⟩ : ∃ q, q ∈ upL.zip upP ∧ q.1 = y := by
    have e : (upL.zip upP).map Prod.fst = upL := rfl
    rw [← e] at hy
    exact List.mem_map.mp hy
  have h := List.all_eq_true.mp up_ok.2 q hq
  simp only [Bool.and_eq_true, decide_eq_true_eq] at h
  exact up_sel (l_of hts up_ok.1) h.1 ⟨h.2.1, h.2.2.1⟩ (l_of hts h.2.2.2.1) (l_of hts h.2.2.2.2)
theorem st_ex {s : State} {b tN : Nat} {A : Nat → Prop} (hts : ∀ w ∈ lw_tbl, w.before #[Value.ref b] s = true) (hgv : (Jvm.Cond.and given_1 narrow_1).before #[Value.ref b] s = true) (hA : ∀ a : Nat, a < s.heap.size → ¬ A a) :
    ∃ ex : Nat → Nat → Value, (∀ a, ex 40 a = .ref b) ∧ (∀ a, ex 41 a = .ref tN) ∧ (∀ t a, (∃ q, ex t a = .ref q) ∨ ex t a = .null) ∧ JX ex A s s.heap ∧ ∀ (k : Nat) (w : String × Nat × String), txT[k]? = some w → ∃ q, ex 46 k = .ref q ∧ vk_R w.1 w.2.1 w.2.2 q s := by
  have h0 : ∀ k : Nat, ∃ q : Nat × Nat, k < 15 → (tmS k).eval #[Value.ref b] s none [] s = some (.ref q.1) ∧ va_O "java/lang/String" q.1 A s s.heap ∧ va_OF "java/lang/String" "coder" "B" (.int 0) q.1 A s s.heap ∧ va_OF "java/lang/String" "value" "[B" (.ref q.2) q.1 A s s.heap ∧ va_T .byte q.2 (txL k).length (fun j => .int (Int32.ofNat ((txL k).getD j 0))) A s s.heap := by
    intro k
    by_cases hk : k < 15
    · obtain ⟨q, v, h⟩ := g_str hgv hA k hk
      exact ⟨(q, v), fun _ => h⟩
    · exact ⟨(0, 0), fun h => absurd h hk⟩
  obtain ⟨ad, had⟩ : ∃ ad : Nat → Nat × Nat, ∀ k : Nat, k < 15 → (tmS k).eval #[Value.ref b] s none [] s = some (.ref (ad k).1) ∧ va_O "java/lang/String" (ad k).1 A s s.heap ∧ va_OF "java/lang/String" "coder" "B" (.int 0) (ad k).1 A s s.heap ∧ va_OF "java/lang/String" "value" "[B" (.ref (ad k).2) (ad k).1 A s s.heap ∧ va_T .byte (ad k).2 (txL k).length (fun j => .int (Int32.ofNat ((txL k).getD j 0))) A s s.heap := ⟨fun k => Classical.choose (h0 k), fun k => Classical.choose_spec (h0 k)⟩
  obtain ⟨d1, z1, T1⟩ := g_dig hts hgv hA gD1_ok (l_of hts lz_ok.1)
  obtain ⟨d2, z2, T2⟩ := g_dig hts hgv hA gD2_ok (l_of hts lz_ok.2.1)
  have hcs := va_Zof (l_of hts lz_ok.2.2.1) (l_of hts lz_ok.2.2.2.2.2.1) (va_eqt (g_of hgv gC_ok.1)) hA
  obtain ⟨v45, hv45, hfm⟩ : ∃ v : Value, ((∃ q, v = .ref q) ∨ v = .null) ∧ va_Z "jdk/internal/util/Preconditions" "SIOOBE_FORMATTER" "Ljava/util/function/BiFunction;" v A s s.heap := by
    rcases va_Zqof (l_of hts lz_ok.2.2.2.1) (l_of hts lz_ok.2.2.2.2.2.2) (g_of hgv gC_ok.2) hA with h | ⟨t, h⟩
    · exact ⟨.null, Or.inr rfl, h⟩
    · exact ⟨.ref t, Or.inl ⟨t, rfl⟩, h⟩
  refine ⟨fun t a => if t = 40 then .ref b else if t = 41 then .ref tN else if t = 42 then .ref d1 else if t = 43 then .ref d2 else if t = 44 then .ref (ad (if a < 15 then a else 0)).2 else if t = 46 then .ref (ad (if a < 15 then a else 0)).1 else if t = 45 then v45 else .null, fun _ => rfl, fun _ => rfl, fun t a => ?_, ⟨fun k => ?_, ⟨d1, fun _ => rfl, z1, T1⟩, ⟨d2, fun _ => rfl, z2, T2⟩, hcs, hfm⟩, fun k w hw => ?_⟩
  · dsimp only
    repeat' split
    all_goals first
      | exact Or.inl ⟨_, rfl⟩
      | exact hv45
      | exact Or.inr rfl
  · by_cases hk : k < 15
    · obtain ⟨-, h2, h3, h4, h5⟩ := had k hk
      exact ⟨(ad k).1, (ad k).2, by show Value.ref (ad (if k < 15 then k else 0)).1 = _; rw [if_pos hk], by show Value.ref (ad (if k < 15 then k else 0)).2 = _; rw [if_pos hk], h2, h3, h4, h5⟩
    · obtain ⟨-, h2, h3, h4, h5⟩ := had 0 (by decide)
      exact ⟨(ad 0).1, (ad 0).2, by show Value.ref (ad (if k < 15 then k else 0)).1 = _; rw [if_neg hk], by show Value.ref (ad (if k < 15 then k else 0)).2 = _; rw [if_neg hk], h2, h3, h4, by rw [txL_no hk]; exact h5⟩
  · have hk : k < 15 := (List.getElem?_eq_some_iff.mp hw).1
    have h1 := (had k hk).1
    have hr := List.all_eq_true.mp gR_ok k (List.mem_range.mpr hk)
    unfold gR at hr
    rw [hw] at hr
    unfold tmS at h1
    rw [hw] at h1
    exact ⟨(ad k).1, by show Value.ref (ad (if k < 15 then k else 0)).1 = _; rw [if_pos hk], vk_R.of (hts _ (List.mem_of_getElem? (of_decide_eq_true hr))) h1⟩
