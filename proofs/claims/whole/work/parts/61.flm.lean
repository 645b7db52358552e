/-! ===== film, cost, copy: the reference ===== -/
def filmF (N : Net) (f : Shs) (s : Int32) : Int32 × Shs := match pN 4 s with
  | none => (-2, f)
  | some j => if WT N no1 = 0 then (-3, f) else (nI (nM N), fun y => if y = j then some (1, nM N, fun i => lN ((bst N).2 i)) else f y)
def fLb (σ : St) (b n : Nat) (f : Nat → Int64) : St := (σ.1, fun a i => if a = 118 ∧ b ≤ i ∧ i < b + n then f (i - b) else rL σ a i, σ.2.2)
theorem fLb_0 {σ : St} {b : Nat} {f : Nat → Int64} : fLb σ b 0 f = σ := by
  have e : (fun a i => if a = 118 ∧ b ≤ i ∧ i < b + 0 then f (i - b) else rL σ a i) = σ.2.1 := funext fun a => funext fun i => if_neg (fun q => by omega)
  show (σ.1, (fun a i => if a = 118 ∧ b ≤ i ∧ i < b + 0 then f (i - b) else rL σ a i), σ.2.2) = σ
  rw [e]
theorem fLb_s {σ : St} {b n : Nat} {f : Nat → Int64} {x : Int64} (hx : x = f n) : wL (fLb σ b n f) 118 (b + n) x = fLb σ b (n + 1) f := by
  subst hx
  have e : (fun a i => if a = 118 ∧ i = b + n then f n else (if a = 118 ∧ b ≤ i ∧ i < b + n then f (i - b) else rL σ a i)) = (fun a i => if a = 118 ∧ b ≤ i ∧ i < b + (n + 1) then f (i - b) else rL σ a i) := funext fun a => funext fun i => by
    by_cases h1 : a = 118 ∧ i = b + n
    · rw [if_pos h1, if_pos ⟨h1.1, by omega, by omega⟩, h1.2, Nat.add_sub_cancel_left]
    · rw [if_neg h1]
      by_cases h2 : a = 118 ∧ b ≤ i ∧ i < b + n
      · rw [if_pos h2, if_pos ⟨h2.1, h2.2.1, by omega⟩]
      · rw [if_neg h2, if_neg (fun q => h2 ⟨q.1, q.2.1, by
          have : i ≠ b + n := fun w => h1 ⟨q.1, w⟩
          omega⟩)]
  show (σ.1, (fun a i => if a = 118 ∧ i = b + n then f n else (if a = 118 ∧ b ≤ i ∧ i < b + n then f (i - b) else rL σ a i)), σ.2.2) = _
  rw [e]
  rfl
theorem rL_fLb {σ : St} {b n a i : Nat} {f : Nat → Int64} : rL (fLb σ b n f) a i = if a = 118 ∧ b ≤ i ∧ i < b + n then f (i - b) else rL σ a i := rfl
theorem bst_lt {N : Net} (h : NV N) : ∀ i, i < nM N → (bst N).2 i < nS N i ∨ (bst N).2 i = 0 := by
  have key : ∀ f k ω w, k + f = nM N → (∀ i, i < k → ω i < nS N i) → ∀ e, e ∈ lvs N no1 f k ω w → ∀ i, i < nM N → e.1 i < nS N i := by
    intro f
    induction f with
    | zero =>
      intro k ω w hk hw e he i hi
      unfold lvs at he
      by_cases c : w = 0
      · rw [if_pos c] at he; cases he
      · rw [if_neg c, List.mem_singleton] at he
        rw [he]
        exact hw i (by omega)
    | succ f ih =>
      intro k ω w hk hw e he i hi
      unfold lvs at he
      by_cases c : w = 0
      · rw [if_pos c] at he; cases he
      · rw [if_neg c, List.mem_flatMap] at he
        obtain ⟨v, hv, he⟩ := he
        rw [List.mem_range'_1] at hv
        split at he
        · refine ih (k + 1) _ _ (by omega) (fun j hj => ?_) e he i hi
          by_cases cj : j = k
          · rw [cj, up_s]; omega
          · rw [up_n cj]; exact hw j (by omega)
        · cases he
  have fold : ∀ (L : List (Wd × Nat)) (A : Nat × Wd), (∀ e, e ∈ L → ∀ i, i < nM N → e.1 i < nS N i) → (∀ i, i < nM N → A.2 i < nS N i ∨ A.2 i = 0) → ∀ i, i < nM N → (L.foldl stB A).2 i < nS N i ∨ (L.foldl stB A).2 i = 0 := by
    intro L
    induction L with
    | nil => intro A _ hA; exact hA
    | cons e L ih =>
      intro A hL hA
      rw [List.foldl_cons]
      refine ih _ (fun e2 h2 => hL e2 (List.mem_cons_of_mem _ h2)) (fun i hi => ?_)
      unfold stB
      split
      · exact Or.inl (hL e List.mem_cons_self i hi)
      · exact hA i hi
  exact fold (LV N no1) (0, w0) (key (nM N) 0 w0 1 (by omega) (fun i hi => absurd hi (Nat.not_lt_zero i))) (fun i _ => Or.inr rfl)
theorem fi_l {d j : Nat} {Q : Option PV → St → Prop} {σ : St} {N : Net} {l2 : Int32} (h : MI σ N) (hj : j < 4) (hb : ∀ i, i < nM N → rI σ 107 i = nI ((bst N).2 i)) : ∀ r k, k + r = nM N → (At (d + 1) kX9_film 35 [vR 97 9, vI (nI j), vI l2, vI (nI k)] [] (fLb σ (40 * j) k (fun i => lN ((bst N).2 i))) Q ↔ Q (some (vI (nI (nM N)))) (fLb σ (40 * j) (nM N) (fun i => lN ((bst N).2 i))))
  | 0, k, hk => by
    have h7 := MI_7 h
    have : k = nM N := by omega
    subst this
    have m2 : MI (fLb σ (40 * j) (nM N) (fun i => lN ((bst N).2 i))) N := h
    simp (disch := first | exact is2I | exact is2R | omega) only [z_X9_film_35, z_X9_film_36, z_X9_film_37, z_X9_film_40, z_X9_film_67, z_X9_film_68, z_X9_film_71, i_many m2, kLe, Nat.le_refl, true_and, Option.toList_some, Option.toList_none, List.cons_append, List.nil_append, is2IT, is2RT, if_true, if_false]
  | r + 1, k, hk => by
    have h7 := MI_7 h
    have hk1 : k < nM N := by omega
    have m2 : MI (fLb σ (40 * j) k (fun i => lN ((bst N).2 i))) N := h
    have hF2 := m2.1
    have hb2 : rI (fLb σ (40 * j) k (fun i => lN ((bst N).2 i))) 107 k = nI ((bst N).2 k) := hb k hk1
    have hs := NV_s h hk1
    have hl := bst_lt h.2.2 k hk1
    have c : ¬ nM N ≤ k := by omega
    simp (disch := first | exact is2I | exact is2R | omega) only [z_X9_film_35, z_X9_film_36, z_X9_film_37, z_X9_film_40, z_X9_film_43, z_X9_film_44, z_X9_film_47, z_X9_film_49, z_X9_film_50, z_X9_film_51, z_X9_film_52, z_X9_film_53, z_X9_film_54, z_X9_film_57, z_X9_film_58, z_X9_film_59, z_X9_film_60, z_X9_film_61, i_many m2, mf_r1 hF2, mf_r2 hF2, mf_r3 hF2, mf_r5 hF2, mf_r10 hF2, mf_r11 hF2, mf_r13 hF2, mf_r15 hF2, mf_r16 hF2, mf_r19 hF2, mf_r21 hF2, mf_r22 hF2, mf_r23 hF2, mf_r24 hF2, mf_r25 hF2, mf_r26 hF2, mf_r27 hF2, mf_r29 hF2, mf_r30 hF2, mf_r31 hF2, mf_r32 hF2, mf_s98 hF2, mf_s99 hF2, mf_s100 hF2, mf_s101 hF2, mf_s102 hF2, mf_s103 hF2, mf_s104 hF2, mf_s105 hF2, mf_s106 hF2, mf_s107 hF2, mf_s108 hF2, mf_s109 hF2, mf_s110 hF2, mf_s111 hF2, mf_s112 hF2, mf_s113 hF2, mf_s114 hF2, mf_s115 hF2, mf_s116 hF2, mf_s117 hF2, mf_s118 hF2, kLe, c, kLM, nI_add, kIn, kCl, hb2, nI_l, kAL, true_and, Option.toList_some, Option.toList_none, List.cons_append, List.nil_append, is2IT, is2RT, if_true, if_false]
    rw [z_X9_film_64, fLb_s (f := fun i => lN ((bst N).2 i)) rfl, fi_l h hj hb r (k + 1) (by omega)]
theorem m_film {d : Nat} {Q : Option PV → St → Prop} {σ : St} {S : MSt} {s : Int32} (h : MS σ S) (hQ : ∀ σ', MS σ' (S.1, S.2.1, S.2.2.1, (filmF S.1 S.2.2.2 s).2) → Fr9 σ σ' → Q (some (vI (filmF S.1 S.2.2.2 s).1)) σ') : Ca (d + 15) 203 [vR 97 9, vI s] σ Q := by
  have hM := h.1
  have h7 := MI_7 hM
  rw [ca_at (K := kX9_film) (ls := [vR 97 9, vI s, vU, vU]) rfl rfl rfl]
  unfold filmF at hQ
  cases hp : pN 4 s with
  | none =>
    rw [hp] at hQ
    simp (disch := first | exact is2I | exact is2R | omega) only [z_X9_film_0, z_X9_film_1, z_X9_film_4, z_X9_film_7, z_X9_film_9, m_isSheet, b2_0, pN_none.mp hp, not_false_eq_true, true_and, Option.toList_some, Option.toList_none, List.cons_append, List.nil_append, is2IT, is2RT, if_true, if_false]
    exact hQ σ h Fr9_rf
  | some j =>
    rw [hp] at hQ
    obtain ⟨hj, rfl⟩ := (pN_some (by decide)).mp hp
    have hP : 0 ≤ nI j ∧ nI j < nI 4 := (lt_nI (by decide)).mpr ⟨j, hj, rfl⟩
    dsimp only at hQ
    simp (disch := first | exact is2I | exact is2R | omega) only [z_X9_film_0, z_X9_film_1, z_X9_film_4, z_X9_film_7, z_X9_film_9, z_X9_film_10, z_X9_film_11, m_isSheet, b2_0, hP, and_self, not_true_eq_false, true_and, Option.toList_some, Option.toList_none, List.cons_append, List.nil_append, is2IT, is2RT, if_true, if_false]
    refine m_all1 (MS_RQ h) (fun σ1 q1 q2 => ?_)
    have e0 : (lN (WT S.1 no1) = 0) = (WT S.1 no1 = 0) := propext (pk_lEQ (b := 0) (WT_63 hM.2.2) (by decide))
    have h1 := Sc_MS h q1
    simp (disch := first | exact is2I | exact is2R | omega) only [z_X9_film_14, z_X9_film_15, z_X9_film_16, lg_cmp_eq, e0, true_and, Option.toList_some, Option.toList_none, List.cons_append, List.nil_append, is2IT, is2RT, if_true, if_false]
    by_cases c : WT S.1 no1 = 0
    · rw [if_pos c] at hQ ⊢
      simp only [z_X9_film_19, z_X9_film_21, true_and, Option.toList_some, Option.toList_none, List.cons_append, List.nil_append, is2IT, is2RT, if_true, if_false]
      exact hQ σ1 h1 (Sc_Fr9 q1)
    · rw [if_neg c] at hQ ⊢
      simp (disch := first | exact is2I | exact is2R | omega) only [z_X9_film_22, z_X9_film_23, z_X9_film_24, z_X9_film_25, z_X9_film_26, z_X9_film_29, i_many h1.1, true_and, Option.toList_some, Option.toList_none, List.cons_append, List.nil_append, is2IT, is2RT, if_true, if_false]
      have ef : sheetF S.2.2.2 (nI j) 1 (nI (nM S.1)) = (1, fun y => if y = j then some (1, nM S.1, fun _ => 0) else S.2.2.2 y) := by
        unfold sheetF
        rw [hp]
        dsimp only
        rw [if_neg (show ¬ (1 : Int32) = -1 by decide), show pN 3 (1 : Int32) = some 1 from (pN_some (by decide)).mpr ⟨by decide, rfl⟩]
        dsimp only
        rw [if_neg (by rw [nI_ltI (by decide) (by omega)]; omega), (pN_some (by decide)).mpr ⟨by omega, rfl⟩]
      refine m_sheet (d := d + 11) h1 (fun σ2 q3 q4 => ?_)
      rw [ef] at q4
      rw [ef]
      have h2 := q4
      have hb : ∀ i, i < nM S.1 → rI σ2 107 i = nI ((bst S.1).2 i) := fun i hi => by rw [q3.1 107 i rfl]; exact q2 c i hi
      have l1 := @fi_l (d + 13) j Q σ2 S.1 1 h2.1 hj hb (nM S.1) 0 (by omega)
      rw [fLb_0] at l1
      simp (disch := first | exact is2I | exact is2R | omega) only [z_X9_film_32, z_X9_film_33, z_X9_film_34, true_and, Option.toList_some, Option.toList_none, List.cons_append, List.nil_append, is2IT, is2RT, if_true, if_false]
      refine l1.mpr ?_
      have fr : Fm ISh LSh σ2 (fLb σ2 (40 * j) (nM S.1) (fun i => lN ((bst S.1).2 i))) := ⟨fun _ _ _ => rfl, fun a i q => by
        rw [rL_fLb, if_neg (fun z => by rw [z.1] at q; cases q)], fun _ _ => rfl, rfl, rfl⟩
      have ha := sh_at (MS_sh h2) hj
      rw [show (S.1, S.2.1, S.2.2.1, fun y => if y = j then some (1, nM S.1, fun _ => (0 : Int64)) else S.2.2.2 y).2.2.2 j = some (1, nM S.1, fun _ => 0) from if_pos rfl] at ha
      obtain ⟨a1, a2, a3, a4, a5, a6⟩ := ha
      have fin := MS_shn h2 fr (sh_set (MS_sh h2) (j := j) (e := some (1, nM S.1, fun i => lN ((bst S.1).2 i))) ⟨a1, a2, a3, a4, a5, fun i hi => by rw [rL_fLb, if_pos ⟨rfl, by omega, by omega⟩, Nat.add_sub_cancel_left]⟩ (fun y hy cy => ⟨rfl, rfl, rfl, fun i hi => by rw [rL_fLb, if_neg (fun q => by omega)]⟩))
      have ee : (fun y => if y = j then some (1, nM S.1, fun i => lN ((bst S.1).2 i)) else if y = j then some (1, nM S.1, fun _ => (0 : Int64)) else S.2.2.2 y) = fun y => if y = j then some (1, nM S.1, fun i => lN ((bst S.1).2 i)) else S.2.2.2 y := funext fun y => by
        by_cases cy : y = j
        · rw [if_pos cy, if_pos cy]
        · rw [if_neg cy, if_neg cy, if_neg cy]
      have fin2 : MS (fLb σ2 (40 * j) (nM S.1) (fun i => lN ((bst S.1).2 i))) (S.1, S.2.1, S.2.2.1, fun y => if y = j then some (1, nM S.1, fun i => lN ((bst S.1).2 i)) else S.2.2.2 y) := by
        rw [← ee]; exact fin
      exact hQ _ fin2 (Fr9_tr (Sc_Fr9 q1) (Fr9_tr (Fr9_sh q3) (Fr9_sh fr)))
/-! cost -/
def cstI (N : Net) (g : Nat) : Nat → Nat → Nat → Nat
  | 0, _, v => v
  | r + 1, n, v => cstI N g r (n + 1) (v * (if g.testBit n = true then nS N n else 1))
def cstO (N : Net) (G : Nat → Nat) : Nat → Nat → Nat → Nat
  | 0, _, v => v
  | r + 1, k, v => cstO N G r (k + 1) (v + cstI N (G k) (nM N) 0 1)
theorem co_l1 {d k : Nat} {Q : Option PV → St → Prop} {σ : St} {N : Net} {v g : Nat} (h : MI σ N) (hk : k < 7) (hg : g < 128) (hG : rI σ 112 k = nI g) : ∀ r n t, n + r = nM N → (At (d + 1) kX9_costNow 17 [vR 97 9, vI (nI v), vI (nI k), vI (nI t), vI (nI n)] [] σ Q ↔ At (d + 1) kX9_costNow 60 [vR 97 9, vI (nI v), vI (nI k), vI (nI (cstI N g r n t)), vI (nI (nM N))] [] σ Q)
  | 0, n, t, hn => by
    have h7 := MI_7 h
    have : n = nM N := by omega
    subst this
    simp (disch := first | exact is2I | exact is2R | omega) only [z_X9_costNow_17, z_X9_costNow_19, z_X9_costNow_20, z_X9_costNow_23, i_many h, kLe, Nat.le_refl, cstI, true_and, Option.toList_some, Option.toList_none, List.cons_append, List.nil_append, is2IT, is2RT, if_true, if_false]
  | r + 1, n, t, hn => by
    have h7 := MI_7 h
    have hn1 : n < nM N := by omega
    have c : ¬ nM N ≤ n := by omega
    have t1 : nI t * (1 : Int32) = nI (t * 1) := pk_mul t 1
    simp (disch := first | exact is2I | exact is2R | omega) only [z_X9_costNow_17, z_X9_costNow_19, z_X9_costNow_20, z_X9_costNow_23, z_X9_costNow_26, z_X9_costNow_27, z_X9_costNow_28, z_X9_costNow_31, z_X9_costNow_32, z_X9_costNow_33, z_X9_costNow_35, z_X9_costNow_38, z_X9_costNow_41, z_X9_costNow_42, z_X9_costNow_44, z_X9_costNow_45, z_X9_costNow_48, z_X9_costNow_51, z_X9_costNow_52, z_X9_costNow_53, z_X9_costNow_54, i_many h, mf_r1 h.1, mf_r2 h.1, mf_r3 h.1, mf_r5 h.1, mf_r10 h.1, mf_r11 h.1, mf_r13 h.1, mf_r15 h.1, mf_r16 h.1, mf_r19 h.1, mf_r21 h.1, mf_r22 h.1, mf_r23 h.1, mf_r24 h.1, mf_r25 h.1, mf_r26 h.1, mf_r27 h.1, mf_r29 h.1, mf_r30 h.1, mf_r31 h.1, mf_r32 h.1, mf_s98 h.1, mf_s99 h.1, mf_s100 h.1, mf_s101 h.1, mf_s102 h.1, mf_s103 h.1, mf_s104 h.1, mf_s105 h.1, mf_s106 h.1, mf_s107 h.1, mf_s108 h.1, mf_s109 h.1, mf_s110 h.1, mf_s111 h.1, mf_s112 h.1, mf_s113 h.1, mf_s114 h.1, mf_s115 h.1, mf_s116 h.1, mf_s117 h.1, mf_s118 h.1, kLe, c, kIn, kCl, hG, m_has (show g < 2 ^ 31 by omega) (show n < 31 by omega), b2_0, i_is0 h hn1, pk_mul, t1, kAL, cstI, true_and, Option.toList_some, Option.toList_none, List.cons_append, List.nil_append, is2IT, is2RT, if_true, if_false]
    by_cases cb : g.testBit n = true
    · rw [if_neg (fun q => q cb), z_X9_costNow_57, co_l1 h hk hg hG r (n + 1) _ (by omega), if_pos cb]
    · rw [if_pos cb, z_X9_costNow_57, co_l1 h hk hg hG r (n + 1) _ (by omega), if_neg cb]
theorem m_costNow {d : Nat} {Q : Option PV → St → Prop} {σ : St} {N : Net} {G : Nat → Nat} (h : MI σ N) (hG : ∀ k, k < nM N → rI σ 112 k = nI (G k) ∧ G k < 128) : Ca (d + 2) 196 [vR 97 9] σ Q ↔ Q (some (vI (nI (cstO N G (nM N) 0 0)))) σ := by
  have h7 := MI_7 h
  rw [ca_at (K := kX9_costNow) (ls := [vR 97 9, vU, vU, vU, vU]) rfl rfl rfl]
  have loop : ∀ r k v l3 l4, k + r = nM N → (At (d + 1) kX9_costNow 4 [vR 97 9, vI (nI v), vI (nI k), l3, l4] [] σ Q ↔ Q (some (vI (nI (cstO N G r k v)))) σ) := by
    intro r
    induction r with
    | zero =>
      intro k v l3 l4 hk
      have hk' : k = nM N := by omega
      subst hk'
      simp (disch := first | exact is2I | exact is2R | omega) only [z_X9_costNow_4, z_X9_costNow_5, z_X9_costNow_6, z_X9_costNow_9, z_X9_costNow_70, z_X9_costNow_71, i_many h, kLe, Nat.le_refl, cstO, true_and, Option.toList_some, Option.toList_none, List.cons_append, List.nil_append, is2IT, is2RT, if_true, if_false]
    | succ r ih =>
      intro k v l3 l4 hk
      have c : ¬ nM N ≤ k := by omega
      obtain ⟨g1, g2⟩ := hG k (by omega)
      have l1 := @co_l1 d k Q σ N v (G k) h (by omega) g2 g1 (nM N) 0 1 (by omega)
      simp (disch := first | exact is2I | exact is2R | omega) only [z_X9_costNow_4, z_X9_costNow_5, z_X9_costNow_6, z_X9_costNow_9, z_X9_costNow_12, z_X9_costNow_13, z_X9_costNow_14, z_X9_costNow_15, i_many h, kLe, c, true_and, Option.toList_some, Option.toList_none, List.cons_append, List.nil_append, is2IT, is2RT, if_true, if_false]
      refine Iff.trans l1 ?_
      simp (disch := first | exact is2I | exact is2R | omega) only [z_X9_costNow_60, z_X9_costNow_61, z_X9_costNow_62, z_X9_costNow_63, z_X9_costNow_64, nI_add, kAL, cstO, true_and, Option.toList_some, Option.toList_none, List.cons_append, List.nil_append, is2IT, is2RT, if_true, if_false]
      rw [z_X9_costNow_67, ih (k + 1) _ _ _ (by omega)]
  have l := loop (nM N) 0 0 vU vU (by omega)
  simp only [z_X9_costNow_0, z_X9_costNow_1, z_X9_costNow_2, z_X9_costNow_3, true_and, Option.toList_some, Option.toList_none, List.cons_append, List.nil_append, is2IT, is2RT, if_true, if_false]
  exact l
