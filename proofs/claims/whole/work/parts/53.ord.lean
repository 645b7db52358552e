/-! ===== bits; the order; leaves ===== -/
theorem pop7_s : ∀ x, x < 128 → x ≠ 0 → pop7 x = pop7 (x &&& (x - 1)) + 1 ∧ x &&& (x - 1) < x := by decide +kernel
theorem pop7_0 : pop7 0 = 0 := rfl
theorem pop7_le : ∀ x, x < 128 → pop7 x ≤ 7 := by decide +kernel
theorem bit_l {d : Nat} {Q : Option PV → St → Prop} {σ : St} {l0 : Int32} : ∀ n x c, x ≤ n → x < 128 → (At d kX9_bits 4 [vI l0, vI (nI c), vI (nI x)] [] σ Q ↔ Q (some (vI (nI (c + pop7 x)))) σ)
  | 0, x, c, hn, hx => by
    have : x = 0 := by omega
    subst this
    simp (disch := first | exact is2I | exact is2R | omega) only [z_X9_bits_4, z_X9_bits_5, z_X9_bits_20, z_X9_bits_21, kEL, pop7_0, Nat.add_zero, true_and, Option.toList_some, Option.toList_none, List.cons_append, List.nil_append, is2IT, is2RT, if_true, if_false]
  | n + 1, x, c, hn, hx => by
    by_cases c0 : x = 0
    · exact bit_l n x c (by omega) hx
    · obtain ⟨p1, p2⟩ := pop7_s x hx c0
      simp (disch := first | exact is2I | exact is2R | omega) only [z_X9_bits_4, z_X9_bits_5, z_X9_bits_8, z_X9_bits_11, z_X9_bits_12, z_X9_bits_13, z_X9_bits_14, z_X9_bits_15, z_X9_bits_16, kEL, c0, kAL, kSL, kAnd, true_and, Option.toList_some, Option.toList_none, List.cons_append, List.nil_append, is2IT, is2RT, if_true, if_false]
      rw [z_X9_bits_17, bit_l n (x &&& (x - 1)) (c + 1) (by omega) (by omega), p1, show c + 1 + pop7 (x &&& (x - 1)) = c + (pop7 (x &&& (x - 1)) + 1) by omega]
theorem m_bits {d x : Nat} {Q : Option PV → St → Prop} {σ : St} (hx : x < 128) : Ca (d + 1) 123 [vI (nI x)] σ Q ↔ Q (some (vI (nI (pop7 x)))) σ := by
  rw [ca_at (K := kX9_bits) (ls := [vI (nI x), vU, vU]) rfl rfl rfl]
  have l := @bit_l d Q σ (nI x) 128 x 0 (by omega) hx
  rw [Nat.zero_add] at l
  simp only [z_X9_bits_0, z_X9_bits_1, z_X9_bits_2, z_X9_bits_3, true_and, Option.toList_some, Option.toList_none, List.cons_append, List.nil_append, is2IT, is2RT, if_true, if_false]
  exact l
def selR (nr : Nat → Nat) (g m : Nat) : Nat → Nat → Option Nat → Option Nat
  | 0, _, o => o
  | r + 1, n, o => selR nr g m r (n + 1) (if g.testBit n = true then o else match o with
    | none => some n
    | some f => if filS nr f m ≤ filS nr n m then some f else some n)
def selS (nr : Nat → Nat) (g m : Nat) : Nat := (selR nr g m m 0 none).getD 0
def ordR (m : Nat) : Nat → Nat → (Nat → Nat) → List (Nat × Nat × Nat) → List (Nat × Nat × Nat)
  | 0, _, _, L => L
  | r + 1, g, nr, L => ordR m r (g ||| 2 ^ selS nr g m) (lvS nr (selS nr g m) m) (L ++ [(selS nr g m, filS nr (selS nr g m) m, nr (selS nr g m) ||| 2 ^ selS nr g m)])
def ordS (N : Net) : List (Nat × Nat × Nat) := ordR (nM N) (nM N) 0 (nrS N) []
theorem sel_some {nr : Nat → Nat} {g m : Nat} : ∀ r n o, (∃ f, o = some f ∧ f < n ∧ g.testBit f = false) ∨ (∃ x, n ≤ x ∧ x < n + r ∧ g.testBit x = false) → (∀ f, o = some f → f < n ∧ g.testBit f = false) → ∃ f, selR nr g m r n o = some f ∧ f < n + r ∧ g.testBit f = false
  | 0, n, o, h, ho => by
    rcases h with ⟨f, h1, h2, h3⟩ | ⟨x, h1, h2, _⟩
    · exact ⟨f, h1, h2, h3⟩
    · omega
  | r + 1, n, o, h, ho => by
    show ∃ f, selR nr g m r (n + 1) (if g.testBit n = true then o else match o with
      | none => some n
      | some f => if filS nr f m ≤ filS nr n m then some f else some n) = some f ∧ f < n + (r + 1) ∧ g.testBit f = false
    have key : ∀ o', (∀ f, o' = some f → f < n + 1 ∧ g.testBit f = false) → ((∃ f, o' = some f) ∨ ∃ x, n + 1 ≤ x ∧ x < n + 1 + r ∧ g.testBit x = false) → ∃ f, selR nr g m r (n + 1) o' = some f ∧ f < n + (r + 1) ∧ g.testBit f = false := fun o' h1 h2 => by
      obtain ⟨f, a, b, c⟩ := sel_some r (n + 1) o' (h2.imp (fun ⟨f, q⟩ => ⟨f, q, (h1 f q).1, (h1 f q).2⟩) id) h1
      exact ⟨f, a, by omega, c⟩
    cases e : g.testBit n with
    | true =>
      rw [if_pos rfl]
      refine key o (fun f q => ⟨by have := (ho f q).1; omega, (ho f q).2⟩) ?_
      rcases h with ⟨f, h1, _, _⟩ | ⟨x, h1, h2, h3⟩
      · exact Or.inl ⟨f, h1⟩
      · refine Or.inr ⟨x, ?_, by omega, h3⟩
        by_cases q : x = n
        · rw [q, e] at h3; cases h3
        · omega
    | false =>
      rw [if_neg (fun q => by cases q)]
      cases o with
      | none => exact key (some n) (fun f q => by cases q; exact ⟨by omega, e⟩) (Or.inl ⟨n, rfl⟩)
      | some f =>
        have hf := ho f rfl
        dsimp only
        by_cases c : filS nr f m ≤ filS nr n m
        · rw [if_pos c]; exact key (some f) (fun y q => by cases q; exact ⟨by omega, hf.2⟩) (Or.inl ⟨f, rfl⟩)
        · rw [if_neg c]; exact key (some n) (fun y q => by cases q; exact ⟨by omega, e⟩) (Or.inl ⟨n, rfl⟩)
theorem unseen_d : ∀ m, m < 8 → ∀ g, g < 128 → ∀ x, x < m → g.testBit x = false → unseen (g ||| 2 ^ x) m + 1 = unseen g m := by decide +kernel
theorem unseen_ex {g m : Nat} (h : 0 < unseen g m) : ∃ x, x < m ∧ g.testBit x = false := by
  unfold unseen at h
  obtain ⟨x, hx⟩ := List.exists_mem_of_length_pos h
  rw [List.mem_filter, List.mem_range'_1] at hx
  exact ⟨x, by omega, by simpa using hx.2⟩
theorem selS_ok {nr : Nat → Nat} {g m : Nat} (h : 0 < unseen g m) : selR nr g m m 0 none = some (selS nr g m) ∧ selS nr g m < m ∧ g.testBit (selS nr g m) = false := by
  obtain ⟨x, h1, h2⟩ := unseen_ex h
  obtain ⟨f, a, b, c⟩ := sel_some (nr := nr) m 0 none (Or.inr ⟨x, Nat.zero_le _, by omega, h2⟩) (fun f q => by cases q)
  have e : selS nr g m = f := by unfold selS; rw [a]; rfl
  rw [e]
  exact ⟨a, by omega, c⟩
theorem se_l {d g : Nat} {Q : Option PV → St → Prop} {σ : St} {N : Net} {nr : Nat → Nat} {k : Nat} (h : MI σ N) (hN : NR σ nr) (hg : g < 128) : ∀ r n o, n + r = nM N → (∀ f, o = some f → f < nM N) → (At (d + 2) kX9_order 21 [vR 97 9, vI (nI g), vI (nI k), vI (oI o), vI (nI n)] [] σ Q ↔ At (d + 2) kX9_order 67 [vR 97 9, vI (nI g), vI (nI k), vI (oI (selR nr g (nM N) r n o)), vI (nI (nM N))] [] σ Q)
  | 0, n, o, hn, ho => by
    have h7 := MI_7 h
    have : n = nM N := by omega
    subst this
    simp (disch := first | exact is2I | exact is2R | omega) only [z_X9_order_21, z_X9_order_23, z_X9_order_24, z_X9_order_27, i_many h, kLe, Nat.le_refl, selR, true_and, Option.toList_some, Option.toList_none, List.cons_append, List.nil_append, is2IT, is2RT, if_true, if_false]
  | r + 1, n, o, hn, ho => by
    have h7 := MI_7 h
    have hn1 : n < nM N := by omega
    have c : ¬ nM N ≤ n := by omega
    have ev : nI n + (1 : Int32) = nI (n + 1) := nI_add n 1
    have nx : ∀ o, (∀ f, o = some f → f < nM N) → (At (d + 2) kX9_order 61 [vR 97 9, vI (nI g), vI (nI k), vI (oI o), vI (nI n)] [] σ Q ↔ At (d + 2) kX9_order 67 [vR 97 9, vI (nI g), vI (nI k), vI (oI (selR nr g (nM N) r (n + 1) o)), vI (nI (nM N))] [] σ Q) := fun o ho => by
      simp (disch := first | exact is2I | exact is2R | omega) only [z_X9_order_61, ev, true_and, Option.toList_some, Option.toList_none, List.cons_append, List.nil_append, is2IT, is2RT, if_true, if_false]
      rw [z_X9_order_64, se_l h hN hg r (n + 1) o (by omega) ho]
    have take : At (d + 2) kX9_order 58 [vR 97 9, vI (nI g), vI (nI k), vI (oI o), vI (nI n)] [] σ Q ↔ At (d + 2) kX9_order 67 [vR 97 9, vI (nI g), vI (nI k), vI (oI (selR nr g (nM N) r (n + 1) (some n))), vI (nI (nM N))] [] σ Q := by
      have s := nx (some n) (fun f q => by cases q; exact hn1)
      rw [oI_ss] at s
      simp (disch := first | exact is2I | exact is2R | omega) only [z_X9_order_58, z_X9_order_60, true_and, Option.toList_some, Option.toList_none, List.cons_append, List.nil_append, is2IT, is2RT, if_true, if_false]
      exact s
    simp (disch := first | exact is2I | exact is2R | omega) only [z_X9_order_21, z_X9_order_23, z_X9_order_24, z_X9_order_27, z_X9_order_30, z_X9_order_31, z_X9_order_33, z_X9_order_36, i_many h, kLe, c, m_has (show g < 2 ^ 31 by omega) (show n < 31 by omega), b2_0, selR, true_and, Option.toList_some, Option.toList_none, List.cons_append, List.nil_append, is2IT, is2RT, if_true, if_false]
    cases e : g.testBit n with
    | true =>
      simp only [not_true_eq_false, if_false, if_true]
      exact nx o ho
    | false =>
      simp only [Bool.false_eq_true, not_false_eq_true, if_true, if_false]
      cases o with
      | none =>
        rw [oI_nn] at take ⊢
        simp (disch := first | exact is2I | exact is2R | omega) only [z_X9_order_39, z_X9_order_40, z_X9_order_41, true_and, Option.toList_some, Option.toList_none, List.cons_append, List.nil_append, is2IT, is2RT, if_true, if_false]
        exact take
      | some f =>
        have hf := ho f rfl
        have s := nx (some f) ho
        rw [oI_ss] at take s ⊢
        have e1 := filS_le (nr := nr) (n := n) h7
        have e2 := filS_le (nr := nr) (n := f) h7
        simp (disch := first | exact is2I | exact is2R | omega) only [z_X9_order_39, z_X9_order_40, z_X9_order_41, z_X9_order_44, z_X9_order_45, z_X9_order_47, z_X9_order_50, z_X9_order_51, z_X9_order_52, z_X9_order_55, kM1, m_fillOf h hN hn1, m_fillOf h hN hf, kLe, true_and, Option.toList_some, Option.toList_none, List.cons_append, List.nil_append, is2IT, is2RT, if_true, if_false]
        by_cases c2 : filS nr f (nM N) ≤ filS nr n (nM N)
        · rw [if_pos c2, if_pos c2]; exact s
        · rw [if_neg c2, if_neg c2]; exact take
def OL (σ : St) (L : List (Nat × Nat × Nat)) : Prop := ∀ j (h : j < L.length), rI σ 110 j = nI L[j].1 ∧ rI σ 111 j = nI L[j].2.1 ∧ rI σ 112 j = nI L[j].2.2
def OB (m : Nat) (L : List (Nat × Nat × Nat)) : Prop := ∀ e, e ∈ L → e.1 < m ∧ e.2.1 < 100 ∧ e.2.2 < 128
theorem OL_add {σ σ' : St} {L : List (Nat × Nat × Nat)} {e : Nat × Nat × Nat} (h : OL σ L) (h1 : ∀ i, rI σ' 110 i = if i = L.length then nI e.1 else rI σ 110 i) (h2 : ∀ i, rI σ' 111 i = if i = L.length then nI e.2.1 else rI σ 111 i) (h3 : ∀ i, rI σ' 112 i = if i = L.length then nI e.2.2 else rI σ 112 i) : OL σ' (L ++ [e]) := by
  intro j hj
  rw [List.length_append] at hj
  by_cases c : j = L.length
  · subst c
    have g : (L ++ [e])[L.length] = e := by simp
    rw [h1, h2, h3, if_pos rfl, if_pos rfl, if_pos rfl, g]
    exact ⟨rfl, rfl, rfl⟩
  · have hj2 : j < L.length := by
      have : [e].length = 1 := rfl
      omega
    rw [h1, h2, h3, if_neg c, if_neg c, if_neg c, List.getElem_append_left hj2]
    exact h j hj2
theorem or_l {d : Nat} {Q : Option PV → St → Prop} {N : Net} {σ0 : St} {LE : List (Nat × Nat × Nat)} (h : MI σ0 N) (hQ : ∀ σ', Fm ILV noL σ0 σ' → OL σ' LE → OB (nM N) LE → LE.length = nM N → Q none σ') : ∀ r k σ g nr L l3 l4, k + r = nM N → L.length = k → unseen g (nM N) = r → g < 128 → Fm ILV noL σ0 σ → NR σ nr → OL σ L → OB (nM N) L → ordR (nM N) r g nr L = LE → is2 l3 = false → At (d + 3) kX9_order 8 [vR 97 9, vI (nI g), vI (nI k), l3, l4] [] σ Q
  | 0, k, σ, g, nr, L, l3, l4, hk, hL, hu, hg, hf, hN, hO, hB, he, h3 => by
    have h7 := MI_7 h
    have m1 : MI σ N := MI_fm h hf (fun _ => rfl)
    have : k = nM N := by omega
    subst this
    have he' : L = LE := he
    subst he'
    simp (disch := first | exact is2I | exact is2R | omega) only [z_X9_order_8, z_X9_order_9, z_X9_order_10, z_X9_order_13, z_X9_order_85, i_many m1, kLe, Nat.le_refl, true_and, Option.toList_some, Option.toList_none, List.cons_append, List.nil_append, is2IT, is2RT, if_true, if_false]
    exact hQ σ hf hO hB hL
  | r + 1, k, σ, g, nr, L, l3, l4, hk, hL, hu, hg, hf, hN, hO, hB, he, h3 => by
    have h7 := MI_7 h
    have m1 : MI σ N := MI_fm h hf (fun _ => rfl)
    have c : ¬ nM N ≤ k := by omega
    obtain ⟨s1, s2, s3⟩ := selS_ok (nr := nr) (show 0 < unseen g (nM N) by omega)
    have l := @se_l (d + 1) g Q σ N nr k m1 hN hg (nM N) 0 none (by omega) (fun f q => by cases q)
    rw [oI_nn, s1, oI_ss] at l
    simp (disch := first | exact is2I | exact is2R | omega) only [z_X9_order_8, z_X9_order_9, z_X9_order_10, z_X9_order_13, z_X9_order_16, z_X9_order_17, z_X9_order_18, z_X9_order_19, i_many m1, kLe, c, true_and, Option.toList_some, Option.toList_none, List.cons_append, List.nil_append, is2IT, is2RT, if_true, if_false]
    refine l.mpr ?_
    simp (disch := first | exact is2I | exact is2R | omega) only [z_X9_order_67, z_X9_order_68, z_X9_order_69, z_X9_order_70, true_and, Option.toList_some, Option.toList_none, List.cons_append, List.nil_append, is2IT, is2RT, if_true, if_false]
    obtain ⟨x1, x2⟩ := hN (selS nr g (nM N)) (by omega)
    refine m_leavesAs (d := d) m1 s2 (by omega) hN (fun σ' q1 q2 q3 q4 q5 => ?_)
    have ev : nI k + (1 : Int32) = nI (k + 1) := nI_add k 1
    simp (disch := first | exact is2I | exact is2R | omega) only [z_X9_order_73, z_X9_order_74, z_X9_order_75, z_X9_order_76, z_X9_order_77, z_X9_order_78, z_X9_order_79, kShl _ (show selS nr g (nM N) < 31 by omega), kOr, ev, Option.toList_none, List.nil_append, is2IT, is2RT, if_true, if_false, true_and]
    rw [z_X9_order_82]
    have hu2 := unseen_d (nM N) (by omega) g hg _ s2 s3
    subst hL
    refine or_l h hQ r (L.length + 1) σ' _ _ (L ++ [(selS nr g (nM N), filS nr (selS nr g (nM N)) (nM N), nr (selS nr g (nM N)) ||| 2 ^ selS nr g (nM N))]) _ _ (by omega) (by rw [List.length_append]; rfl) (by omega) (or128 hg (by omega)) (Fm_tr hf q1) q2 (OL_add hO q3 q4 q5) (fun e he2 => ?_) he rfl
    rcases List.mem_append.mp he2 with q | q
    · exact hB e q
    · rw [List.mem_singleton] at q
      rw [q]
      exact ⟨s2, filS_le h7, or128 x2 (by omega)⟩
theorem unseen_0 : ∀ m, m < 8 → unseen 0 m = m := by decide
theorem m_order {d : Nat} {Q : Option PV → St → Prop} {N : Net} {σ : St} (h : MI σ N) (hQ : ∀ σ', Fm ILV noL σ σ' → OL σ' (ordS N) → OB (nM N) (ordS N) → (ordS N).length = nM N → Q none σ') : Ca (d + 4) 192 [vR 97 9] σ Q := by
  have h7 := MI_7 h
  rw [ca_at (K := kX9_order) (ls := [vR 97 9, vU, vU, vU, vU]) rfl rfl rfl]
  simp only [z_X9_order_0, z_X9_order_1, true_and, Option.toList_some, Option.toList_none, List.cons_append, List.nil_append, is2IT, is2RT, if_true, if_false]
  refine m_nears (d := d + 1) h (fun σ1 q1 q2 => ?_)
  have f1 : Fm ILV noL σ σ1 := Fm_mono q1 (fun a i => ILV_109) (fun _ q => q)
  simp only [z_X9_order_4, z_X9_order_5, z_X9_order_6, z_X9_order_7, true_and, Option.toList_some, Option.toList_none, List.cons_append, List.nil_append, is2IT, is2RT, if_true, if_false]
  exact or_l (d := d) h hQ (nM N) 0 σ1 0 (nrS N) [] vU vU (by omega) rfl (unseen_0 _ (by omega)) (by decide) f1 q2 (fun j hj => absurd hj (Nat.not_lt_zero j)) (fun e he => by cases he) rfl rfl
theorem Sc_ilv {σ σ' : St} (h : Fm ILV noL σ σ') : Sc σ σ' := Fm_mono h (fun a i q => by
  have q := of_decide_eq_true q
  unfold I9
  exact decide_eq_true (by omega)) (fun a q => by cases q)
def leavF (N : Net) (k w : Int32) : Int32 := match pN 4 w with
  | none => -2
  | some j => match pN (nM N) k with
    | none => -12
    | some i => match (ordS N)[i]? with
      | none => 0
      | some e => if j = 0 then nI e.1 else if j = 1 then nI e.2.1 else if j = 2 then nI (pop7 e.2.2) - 1 else nI e.2.2
theorem m_leaves {d : Nat} {Q : Option PV → St → Prop} {σ : St} {N : Net} {k w : Int32} (h : MI σ N) (hQ : ∀ σ', Sc σ σ' → Q (some (vI (leavF N k w))) σ') : Ca (d + 5) 193 [vR 97 9, vI k, vI w] σ Q := by
  have h7 := MI_7 h
  rw [ca_at (K := kX9_leaves) (ls := [vR 97 9, vI k, vI w]) rfl rfl rfl]
  unfold leavF at hQ
  simp (disch := first | exact is2I | exact is2R | omega) only [z_X9_leaves_0, z_X9_leaves_1, z_X9_leaves_2, z_X9_leaves_3, z_X9_leaves_6, z_X9_leaves_9, m_in, i64_0, i64_3, b2_0, true_and, Option.toList_some, Option.toList_none, List.cons_append, List.nil_append, is2IT, is2RT, if_true, if_false]
  cases hw : pN 4 w with
  | none =>
    rw [hw] at hQ
    rw [if_pos (pN_none.mp hw)]
    simp only [z_X9_leaves_12, z_X9_leaves_14, true_and, Option.toList_some, Option.toList_none, List.cons_append, List.nil_append, is2IT, is2RT, if_true, if_false]
    exact hQ σ Fm_rf
  | some j =>
    rw [hw] at hQ
    obtain ⟨hj, rfl⟩ := (pN_some (by decide)).mp hw
    have hW : 0 ≤ nI j ∧ nI j < nI 4 := (lt_nI (by decide)).mpr ⟨j, hj, rfl⟩
    rw [if_neg (fun q => q hW)]
    simp (disch := first | exact is2I | exact is2R | omega) only [z_X9_leaves_15, z_X9_leaves_16, z_X9_leaves_17, z_X9_leaves_18, z_X9_leaves_19, z_X9_leaves_22, z_X9_leaves_23, z_X9_leaves_24, z_X9_leaves_25, z_X9_leaves_28, i_many h, m_in, i64_0, i64_le, le_pred (show nM N < 2 ^ 30 by omega), b2_0, true_and, Option.toList_some, Option.toList_none, List.cons_append, List.nil_append, is2IT, is2RT, if_true, if_false]
    cases hk : pN (nM N) k with
    | none =>
      rw [hk] at hQ
      rw [if_pos (pN_none.mp hk)]
      simp only [z_X9_leaves_31, z_X9_leaves_33, true_and, Option.toList_some, Option.toList_none, List.cons_append, List.nil_append, is2IT, is2RT, if_true, if_false]
      exact hQ σ Fm_rf
    | some i =>
      rw [hk] at hQ
      obtain ⟨hi, rfl⟩ := (pN_some (by omega)).mp hk
      have hK : 0 ≤ nI i ∧ nI i < nI (nM N) := (lt_nI (by omega)).mpr ⟨i, hi, rfl⟩
      rw [if_neg (fun q => q hK)]
      simp (disch := first | exact is2I | exact is2R | omega) only [z_X9_leaves_34, z_X9_leaves_35, true_and, Option.toList_some, Option.toList_none, List.cons_append, List.nil_append, is2IT, is2RT, if_true, if_false]
      refine m_order (d := d) h (fun σ' q1 q2 q3 q4 => ?_)
      have fin := hQ σ' (Sc_ilv q1)
      have hil : i < (ordS N).length := by omega
      obtain ⟨o1, o2, o3⟩ := q2 i hil
      obtain ⟨b1, b2, b3⟩ := q3 _ (List.getElem_mem hil)
      have hF := (MI_fm h q1 (fun _ => rfl)).1
      have ee := List.getElem?_eq_getElem hil
      dsimp only at fin
      rw [ee] at fin
      dsimp only at fin
      rcases (show j = 0 ∨ j = 1 ∨ j = 2 ∨ j = 3 by omega) with rfl | rfl | rfl | rfl
      · simp (disch := first | exact is2I | exact is2R | omega) only [z_X9_leaves_38, z_X9_leaves_39, z_X9_leaves_42, z_X9_leaves_43, z_X9_leaves_46, z_X9_leaves_47, z_X9_leaves_48, z_X9_leaves_90, mf_r1 hF, mf_r2 hF, mf_r3 hF, mf_r5 hF, mf_r10 hF, mf_r11 hF, mf_r13 hF, mf_r15 hF, mf_r16 hF, mf_r19 hF, mf_r21 hF, mf_r22 hF, mf_r23 hF, mf_r24 hF, mf_r25 hF, mf_r26 hF, mf_r27 hF, mf_r29 hF, mf_r30 hF, mf_r31 hF, mf_r32 hF, mf_s98 hF, mf_s99 hF, mf_s100 hF, mf_s101 hF, mf_s102 hF, mf_s103 hF, mf_s104 hF, mf_s105 hF, mf_s106 hF, mf_s107 hF, mf_s108 hF, mf_s109 hF, mf_s110 hF, mf_s111 hF, mf_s112 hF, mf_s113 hF, mf_s114 hF, mf_s115 hF, mf_s116 hF, mf_s117 hF, mf_s118 hF, kEL, kIn, kCl, o1, true_and, Option.toList_some, Option.toList_none, List.cons_append, List.nil_append, is2IT, is2RT, if_true, if_false]
        exact fin
      · have z1 : ¬ (1 = 0) := by decide
        simp (disch := first | exact is2I | exact is2R | omega) only [z_X9_leaves_38, z_X9_leaves_39, z_X9_leaves_42, z_X9_leaves_43, z_X9_leaves_46, z_X9_leaves_47, z_X9_leaves_48, z_X9_leaves_51, z_X9_leaves_52, z_X9_leaves_53, z_X9_leaves_56, z_X9_leaves_57, z_X9_leaves_60, z_X9_leaves_61, z_X9_leaves_62, z_X9_leaves_90, mf_r1 hF, mf_r2 hF, mf_r3 hF, mf_r5 hF, mf_r10 hF, mf_r11 hF, mf_r13 hF, mf_r15 hF, mf_r16 hF, mf_r19 hF, mf_r21 hF, mf_r22 hF, mf_r23 hF, mf_r24 hF, mf_r25 hF, mf_r26 hF, mf_r27 hF, mf_r29 hF, mf_r30 hF, mf_r31 hF, mf_r32 hF, mf_s98 hF, mf_s99 hF, mf_s100 hF, mf_s101 hF, mf_s102 hF, mf_s103 hF, mf_s104 hF, mf_s105 hF, mf_s106 hF, mf_s107 hF, mf_s108 hF, mf_s109 hF, mf_s110 hF, mf_s111 hF, mf_s112 hF, mf_s113 hF, mf_s114 hF, mf_s115 hF, mf_s116 hF, mf_s117 hF, mf_s118 hF, kEL, kIn, kCl, o2, z1, true_and, Option.toList_some, Option.toList_none, List.cons_append, List.nil_append, is2IT, is2RT, if_true, if_false]
        exact fin
      · have z1 : ¬ (2 = 0) := by decide
        have z2 : ¬ (2 = 1) := by decide
        simp (disch := first | exact is2I | exact is2R | omega) only [z_X9_leaves_38, z_X9_leaves_39, z_X9_leaves_42, z_X9_leaves_43, z_X9_leaves_46, z_X9_leaves_47, z_X9_leaves_48, z_X9_leaves_51, z_X9_leaves_52, z_X9_leaves_53, z_X9_leaves_56, z_X9_leaves_57, z_X9_leaves_60, z_X9_leaves_61, z_X9_leaves_62, z_X9_leaves_65, z_X9_leaves_66, z_X9_leaves_67, z_X9_leaves_70, z_X9_leaves_71, z_X9_leaves_74, z_X9_leaves_75, z_X9_leaves_76, z_X9_leaves_79, z_X9_leaves_80, z_X9_leaves_81, z_X9_leaves_90, mf_r1 hF, mf_r2 hF, mf_r3 hF, mf_r5 hF, mf_r10 hF, mf_r11 hF, mf_r13 hF, mf_r15 hF, mf_r16 hF, mf_r19 hF, mf_r21 hF, mf_r22 hF, mf_r23 hF, mf_r24 hF, mf_r25 hF, mf_r26 hF, mf_r27 hF, mf_r29 hF, mf_r30 hF, mf_r31 hF, mf_r32 hF, mf_s98 hF, mf_s99 hF, mf_s100 hF, mf_s101 hF, mf_s102 hF, mf_s103 hF, mf_s104 hF, mf_s105 hF, mf_s106 hF, mf_s107 hF, mf_s108 hF, mf_s109 hF, mf_s110 hF, mf_s111 hF, mf_s112 hF, mf_s113 hF, mf_s114 hF, mf_s115 hF, mf_s116 hF, mf_s117 hF, mf_s118 hF, kEL, kIn, kCl, o3, z1, z2, m_bits b3, true_and, Option.toList_some, Option.toList_none, List.cons_append, List.nil_append, is2IT, is2RT, if_true, if_false]
        exact fin
      · have z1 : ¬ (3 = 0) := by decide
        have z2 : ¬ (3 = 1) := by decide
        have z3 : ¬ (3 = 2) := by decide
        simp (disch := first | exact is2I | exact is2R | omega) only [z_X9_leaves_38, z_X9_leaves_39, z_X9_leaves_42, z_X9_leaves_43, z_X9_leaves_46, z_X9_leaves_47, z_X9_leaves_48, z_X9_leaves_51, z_X9_leaves_52, z_X9_leaves_53, z_X9_leaves_56, z_X9_leaves_57, z_X9_leaves_60, z_X9_leaves_61, z_X9_leaves_62, z_X9_leaves_65, z_X9_leaves_66, z_X9_leaves_67, z_X9_leaves_84, z_X9_leaves_85, z_X9_leaves_88, z_X9_leaves_89, z_X9_leaves_90, mf_r1 hF, mf_r2 hF, mf_r3 hF, mf_r5 hF, mf_r10 hF, mf_r11 hF, mf_r13 hF, mf_r15 hF, mf_r16 hF, mf_r19 hF, mf_r21 hF, mf_r22 hF, mf_r23 hF, mf_r24 hF, mf_r25 hF, mf_r26 hF, mf_r27 hF, mf_r29 hF, mf_r30 hF, mf_r31 hF, mf_r32 hF, mf_s98 hF, mf_s99 hF, mf_s100 hF, mf_s101 hF, mf_s102 hF, mf_s103 hF, mf_s104 hF, mf_s105 hF, mf_s106 hF, mf_s107 hF, mf_s108 hF, mf_s109 hF, mf_s110 hF, mf_s111 hF, mf_s112 hF, mf_s113 hF, mf_s114 hF, mf_s115 hF, mf_s116 hF, mf_s117 hF, mf_s118 hF, kEL, kIn, kCl, o3, z1, z2, z3, true_and, Option.toList_some, Option.toList_none, List.cons_append, List.nil_append, is2IT, is2RT, if_true, if_false]
        exact fin
