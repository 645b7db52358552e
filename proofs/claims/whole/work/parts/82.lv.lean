/-! ===== the class: all leave ===== -/
theorem CI_XF {σ : St} {w : Nat} {N : Net} (h : CI σ w N) : XF σ := h.1
theorem ILV0_70 {a i : Nat} (ha : a < 70) : ILV0 a i = false := decide_eq_false (by omega)
def lst (nr : Nat → Nat) (m : Nat) (o : Option Nat) (l : Nat) : Prop := l < 100 ∧ ∀ f, o = some f → l = filS nr f m
def sel1 (nr : Nat → Nat) (m i : Nat) : Option Nat → Option Nat
  | none => some i
  | some f => if filS nr f m ≤ filS nr i m then some f else some i
theorem selR_s {nr : Nat → Nat} {g m r i : Nat} {o : Option Nat} : selR nr g m (r + 1) i o = selR nr g m r (i + 1) (if g.testBit i = true then o else sel1 nr m i o) := by
  cases o <;> rfl
theorem le_in {d w g k : Nat} {Q : Option PV → St → Prop} {σ : St} {N : Net} {nr : Nat → Nat} (h : CI σ w N) (hS : SY nr (nM N)) (hN : NR0 σ nr) (hg : g < 128) : ∀ r i o l l7, i + r = nM N → (∀ f, o = some f → f < nM N) → lst nr (nM N) o l → is2 l7 = false → (∀ l6 l7, is2 l7 = false → At (d + 3) kX0_leaveByLeastFill 85 [vR 74 1, vR w 6, vI (nI g), vI (nI k), vI (oI (selR nr g (nM N) r i o)), vI (nI l6), vI (nI (nM N)), l7] [] σ Q) → At (d + 3) kX0_leaveByLeastFill 26 [vR 74 1, vR w 6, vI (nI g), vI (nI k), vI (oI o), vI (nI l), vI (nI i), l7] [] σ Q
  | 0, i, o, l, l7, hi, ho, hl, h2, hQ => by
    have h7 := CI_7 h
    have e1 := h.2.2.1.1
    have : i = nM N := by omega
    subst this
    simp (disch := first | exact is2I | exact is2R | omega) only [z_X0_leaveByLeastFill_26, z_X0_leaveByLeastFill_28, z_X0_leaveByLeastFill_29, z_X0_leaveByLeastFill_32, e1, kLe, Nat.le_refl, true_and, Option.toList_some, Option.toList_none, List.cons_append, List.nil_append, is2IT, is2RT, if_true, if_false]
    exact hQ l l7 h2
  | r + 1, i, o, l, l7, hi, ho, hl, h2, hQ => by
    have h7 := CI_7 h
    have e1 := h.2.2.1.1
    have hi1 : i < nM N := by omega
    have c : ¬ nM N ≤ i := by omega
    have ev : nI i + (1 : Int32) = nI (i + 1) := nI_add i 1
    obtain ⟨x1, x2⟩ := hN i (by omega)
    have cf : ∀ Q, (Ca (d + 3) 5 [vR 74 1, vI (nI i)] σ Q ↔ Q (some (vI (nI (filS nr i (nM N))))) σ) := fun Q => by rw [c_fillOf (d := d + 1) h.1 hN (by omega), fcS_fil hS h7 x2]
    have fl := filS_le (nr := nr) (n := i) h7
    have hlt := hl.1
    have es := selR_s (nr := nr) (g := g) (m := nM N) (r := r) (i := i) (o := o)
    rw [es] at hQ
    have nx : ∀ o l l7, (∀ f, o = some f → f < nM N) → lst nr (nM N) o l → is2 l7 = false → (∀ l6 l7, is2 l7 = false → At (d + 3) kX0_leaveByLeastFill 85 [vR 74 1, vR w 6, vI (nI g), vI (nI k), vI (oI (selR nr g (nM N) r (i + 1) o)), vI (nI l6), vI (nI (nM N)), l7] [] σ Q) → At (d + 3) kX0_leaveByLeastFill 79 [vR 74 1, vR w 6, vI (nI g), vI (nI k), vI (oI o), vI (nI l), vI (nI i), l7] [] σ Q := fun o l l7 ho hl h2 hQ => by
      simp (disch := first | exact is2I | exact is2R | omega) only [z_X0_leaveByLeastFill_79, ev, h2, true_and, Option.toList_some, Option.toList_none, List.cons_append, List.nil_append, is2IT, is2RT, if_true, if_false]
      rw [z_X0_leaveByLeastFill_82]
      exact le_in h hS hN hg r (i + 1) o l l7 (by omega) ho hl h2 hQ
    have tk : ∀ o' l', (∀ l6 l7, is2 l7 = false → At (d + 3) kX0_leaveByLeastFill 85 [vR 74 1, vR w 6, vI (nI g), vI (nI k), vI (oI (selR nr g (nM N) r (i + 1) (some i))), vI (nI l6), vI (nI (nM N)), l7] [] σ Q) → At (d + 3) kX0_leaveByLeastFill 71 [vR 74 1, vR w 6, vI (nI g), vI (nI k), vI (oI o'), vI (nI l'), vI (nI i), vI (nI (filS nr i (nM N)))] [] σ Q := fun o' l' hQ => by
      have s := nx (some i) (filS nr i (nM N)) (vI (nI (filS nr i (nM N)))) (fun f q => by cases q; exact hi1) ⟨fl, fun f q => by cases q; rfl⟩ rfl hQ
      rw [oI_ss] at s
      simp (disch := first | exact is2I | exact is2R | omega) only [z_X0_leaveByLeastFill_71, z_X0_leaveByLeastFill_73, z_X0_leaveByLeastFill_75, z_X0_leaveByLeastFill_77, true_and, Option.toList_some, Option.toList_none, List.cons_append, List.nil_append, is2IT, is2RT, if_true, if_false]
      exact s
    simp (disch := first | exact is2I | exact is2R | omega) only [z_X0_leaveByLeastFill_26, z_X0_leaveByLeastFill_28, z_X0_leaveByLeastFill_29, z_X0_leaveByLeastFill_32, z_X0_leaveByLeastFill_35, z_X0_leaveByLeastFill_36, z_X0_leaveByLeastFill_38, z_X0_leaveByLeastFill_39, z_X0_leaveByLeastFill_40, z_X0_leaveByLeastFill_41, z_X0_leaveByLeastFill_44, z_X0_leaveByLeastFill_47, z_X0_leaveByLeastFill_48, z_X0_leaveByLeastFill_50, z_X0_leaveByLeastFill_53, e1, kLe, c, kHas (show g < 2 ^ 31 by omega) (show i < 31 by omega), b2_0, cf, h2, true_and, Option.toList_some, Option.toList_none, List.cons_append, List.nil_append, is2IT, is2RT, if_true, if_false]
    cases e : g.testBit i with
    | true =>
      rw [e, if_pos rfl] at hQ
      simp only [not_true_eq_false, if_false, if_true]
      exact nx o l l7 ho hl h2 hQ
    | false =>
      rw [e, if_neg (fun q => by cases q)] at hQ
      simp only [Bool.false_eq_true, not_false_eq_true, if_true, if_false]
      cases o with
      | none =>
        have s := tk none l hQ
        rw [oI_nn] at s ⊢
        simp (disch := first | exact is2I | exact is2R | omega) only [z_X0_leaveByLeastFill_55, z_X0_leaveByLeastFill_57, z_X0_leaveByLeastFill_58, true_and, Option.toList_some, Option.toList_none, List.cons_append, List.nil_append, is2IT, is2RT, if_true, if_false]
        exact s
      | some f =>
        have hf := ho f rfl
        have el := hl.2 f rfl
        subst el
        have s1 := tk (some f) (filS nr f (nM N))
        have s2 := nx (some f) (filS nr f (nM N)) (vI (nI (filS nr i (nM N)))) ho hl rfl
        rw [oI_ss] at s1 s2 ⊢
        simp (disch := first | exact is2I | exact is2R | omega) only [z_X0_leaveByLeastFill_55, z_X0_leaveByLeastFill_57, z_X0_leaveByLeastFill_58, z_X0_leaveByLeastFill_61, z_X0_leaveByLeastFill_63, z_X0_leaveByLeastFill_65, z_X0_leaveByLeastFill_68, kM1, kLt, true_and, Option.toList_some, Option.toList_none, List.cons_append, List.nil_append, is2IT, is2RT, if_true, if_false]
        by_cases c2 : filS nr f (nM N) ≤ filS nr i (nM N)
        · rw [show sel1 nr (nM N) i (some f) = some f from if_pos c2] at hQ
          rw [if_neg (show ¬ filS nr i (nM N) < filS nr f (nM N) by omega)]; exact s2 hQ
        · rw [show sel1 nr (nM N) i (some f) = some i from if_neg c2] at hQ
          rw [if_pos (show filS nr i (nM N) < filS nr f (nM N) by omega)]; exact s1 hQ
def OL0 (σ : St) (L : List (Nat × Nat × Nat)) : Prop := ∀ j (h : j < L.length), rI σ 76 j = nI L[j].1 ∧ rI σ 77 j = nI L[j].2.1 ∧ rI σ 78 j = nI L[j].2.2
theorem OL0_add {σ σ' : St} {L : List (Nat × Nat × Nat)} {e : Nat × Nat × Nat} (h : OL0 σ L) (h1 : ∀ i, rI σ' 76 i = if i = L.length then nI e.1 else rI σ 76 i) (h2 : ∀ i, rI σ' 77 i = if i = L.length then nI e.2.1 else rI σ 77 i) (h3 : ∀ i, rI σ' 78 i = if i = L.length then nI e.2.2 else rI σ 78 i) : OL0 σ' (L ++ [e]) := by
  intro j hj
  rw [List.length_append] at hj
  by_cases c : j = L.length
  · subst c
    have g : (L ++ [e])[L.length] = e := by simp
    rw [h1, h2, h3, if_pos rfl, if_pos rfl, if_pos rfl, g]
    exact ⟨rfl, rfl, rfl⟩
  · have hj2 : j < L.length := by
      have : [e].length = 1 := rfl
      omega
    rw [h1, h2, h3, if_neg c, if_neg c, if_neg c, List.getElem_append_left hj2]
    exact h j hj2
theorem lo_l {d w : Nat} {Q : Option PV → St → Prop} {N : Net} {σ0 : St} {LE : List (Nat × Nat × Nat)} (h : CI σ0 w N) (hQ : ∀ σ', Fm ILV0 noL σ0 σ' → OL0 σ' LE → OB (nM N) LE → LE.length = nM N → Q none σ') : ∀ r k σ g nr L l4 l5 l6 l7, k + r = nM N → L.length = k → unseen g (nM N) = r → g < 128 → Fm ILV0 noL σ0 σ → NR0 σ nr → SY nr (nM N) → OL0 σ L → OB (nM N) L → ordR (nM N) r g nr L = LE → is2 l4 = false → is2 l5 = false → is2 l6 = false → is2 l7 = false → At (d + 3) kX0_leaveByLeastFill 9 [vR 74 1, vR w 6, vI (nI g), vI (nI k), l4, l5, l6, l7] [] σ Q
  | 0, k, σ, g, nr, L, l4, l5, l6, l7, hk, hL, hu, hg, hf, hN, hS, hO, hB, he, h4, h5, h6, hh => by
    have h7 := CI_7 h
    have m1 : CI σ w N := CI_fm h hf (fun _ _ => ILV0_70)
    have e1 := m1.2.2.1.1
    have : k = nM N := by omega
    subst this
    have he' : L = LE := he
    subst he'
    simp (disch := first | exact is2I | exact is2R | omega) only [z_X0_leaveByLeastFill_9, z_X0_leaveByLeastFill_10, z_X0_leaveByLeastFill_11, z_X0_leaveByLeastFill_14, z_X0_leaveByLeastFill_112, e1, kLe, Nat.le_refl, true_and, Option.toList_some, Option.toList_none, List.cons_append, List.nil_append, is2IT, is2RT, if_true, if_false]
    exact hQ σ hf hO hB hL
  | r + 1, k, σ, g, nr, L, l4, l5, l6, l7, hk, hL, hu, hg, hf, hN, hS, hO, hB, he, h4, h5, h6, hh => by
    have h7 := CI_7 h
    have m1 : CI σ w N := CI_fm h hf (fun _ _ => ILV0_70)
    have e1 := m1.2.2.1.1
    have c : ¬ nM N ≤ k := by omega
    obtain ⟨s1, s2, s3⟩ := selS_ok (nr := nr) (show 0 < unseen g (nM N) by omega)
    simp (disch := first | exact is2I | exact is2R | omega) only [z_X0_leaveByLeastFill_9, z_X0_leaveByLeastFill_10, z_X0_leaveByLeastFill_11, z_X0_leaveByLeastFill_14, z_X0_leaveByLeastFill_17, z_X0_leaveByLeastFill_18, z_X0_leaveByLeastFill_20, z_X0_leaveByLeastFill_21, z_X0_leaveByLeastFill_23, z_X0_leaveByLeastFill_24, e1, kLe, c, h4, h5, h6, hh, true_and, Option.toList_some, Option.toList_none, List.cons_append, List.nil_append, is2IT, is2RT, if_true, if_false]
    refine le_in (d := d) m1 hS hN hg (nM N) 0 none 0 l7 (by omega) (fun f q => by cases q) ⟨by decide, fun f q => by cases q⟩ hh (fun l6 l7 hh => ?_)
    rw [s1, oI_ss]
    simp (disch := first | exact is2I | exact is2R | omega) only [z_X0_leaveByLeastFill_85, z_X0_leaveByLeastFill_87, z_X0_leaveByLeastFill_88, z_X0_leaveByLeastFill_91, z_X0_leaveByLeastFill_92, z_X0_leaveByLeastFill_93, z_X0_leaveByLeastFill_94, z_X0_leaveByLeastFill_96, kM1, not_false_eq_true, if_true, true_and, Option.toList_some, Option.toList_none, List.cons_append, List.nil_append, is2IT, is2RT, if_true, if_false]
    obtain ⟨x1, x2⟩ := hN (selS nr g (nM N)) (by omega)
    refine c_leave (d := d) m1.1 hS h7 s2 (by omega) hN (fun σ' q1 q2 q3 q4 q5 => ?_)
    have ev : nI k + (1 : Int32) = nI (k + 1) := nI_add k 1
    simp (disch := first | exact is2I | exact is2R | omega) only [z_X0_leaveByLeastFill_99, z_X0_leaveByLeastFill_100, z_X0_leaveByLeastFill_101, z_X0_leaveByLeastFill_103, z_X0_leaveByLeastFill_104, z_X0_leaveByLeastFill_105, z_X0_leaveByLeastFill_106, kShl _ (show selS nr g (nM N) < 31 by omega), kOr, ev, hh, Option.toList_none, List.nil_append, true_and, Option.toList_some, Option.toList_none, List.cons_append, List.nil_append, is2IT, is2RT, if_true, if_false]
    rw [z_X0_leaveByLeastFill_109]
    have hu2 := unseen_d (nM N) (by omega) g hg _ s2 s3
    subst hL
    refine lo_l h hQ r (L.length + 1) σ' _ _ (L ++ [(selS nr g (nM N), filS nr (selS nr g (nM N)) (nM N), nr (selS nr g (nM N)) ||| 2 ^ selS nr g (nM N))]) _ _ _ _ (by omega) (by rw [List.length_append]; rfl) (by omega) (or128 hg (by omega)) (Fm_tr hf q1) q2 (by rw [← lcS_lvS hS s2]; exact SY_lcS hS s2) (OL0_add hO q3 q4 q5) (fun e he2 => ?_) he rfl rfl rfl hh
    rcases List.mem_append.mp he2 with q | q
    · exact hB e q
    · rw [List.mem_singleton] at q
      rw [q]
      exact ⟨s2, filS_le h7, or128 x2 (by omega)⟩
theorem c_order {d w : Nat} {Q : Option PV → St → Prop} {N : Net} {σ : St} (h : CI σ w N) (hQ : ∀ σ', Fm ILV0 noL σ σ' → OL0 σ' (ordS N) → OB (nM N) (ordS N) → (ordS N).length = nM N → Q none σ') : Ca (d + 4) 4 [vR 74 1, vR w 6] σ Q := by
  have h7 := CI_7 h
  rw [ca_at (K := kX0_leaveByLeastFill) (ls := [vR 74 1, vR w 6, vU, vU, vU, vU, vU, vU]) rfl rfl rfl]
  simp only [z_X0_leaveByLeastFill_0, z_X0_leaveByLeastFill_1, z_X0_leaveByLeastFill_2, true_and, Option.toList_some, Option.toList_none, List.cons_append, List.nil_append, is2IT, is2RT, if_true, if_false]
  refine c_begin (d := d) h (fun σ1 q1 q2 => ?_)
  have f1 : Fm ILV0 noL σ σ1 := Fm_mono q1 (fun a i => ILV0_75) (fun _ q => q)
  simp only [z_X0_leaveByLeastFill_5, z_X0_leaveByLeastFill_6, z_X0_leaveByLeastFill_7, z_X0_leaveByLeastFill_8, true_and, Option.toList_some, Option.toList_none, List.cons_append, List.nil_append, is2IT, is2RT, if_true, if_false]
  exact lo_l (d := d) h hQ (nM N) 0 σ1 0 (nrS N) [] vU vU vU vU (by omega) rfl (unseen_0 _ (by omega)) (by decide) f1 q2 (SY_nrS h.2.2.2) (fun j hj => absurd hj (Nat.not_lt_zero j)) (fun e he => by cases he) rfl rfl rfl rfl rfl
