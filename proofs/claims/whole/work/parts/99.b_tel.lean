/-! ===== what is told: the two ways to weigh guesses are one (pure) ===== -/
def okR (mu : Nat → Option Nat) : Nat → Wd → Bool
  | 0, _ => true
  | k + 1, ω => okR mu k ω && oV (mu k) (ω k)
theorem okR_eq {mu : Nat → Option Nat} : ∀ k (ω ω' : Wd), (∀ i, i < k → ω i = ω' i) → okR mu k ω = okR mu k ω'
  | 0, _, _, _ => rfl
  | k + 1, ω, ω', h => by
    show (okR mu k ω && oV (mu k) (ω k)) = (okR mu k ω' && oV (mu k) (ω' k))
    rw [okR_eq k ω ω' (fun i hi => h i (by omega)), h k (by omega)]
theorem okR_iff {mu : Nat → Option Nat} : ∀ k (ω : Wd), okR mu k ω = true ↔ ∀ i, i < k → oV (mu i) (ω i) = true
  | 0, _ => ⟨fun _ i hi => absurd hi (Nat.not_lt_zero i), fun _ => rfl⟩
  | k + 1, ω => by
    show (okR mu k ω && oV (mu k) (ω k)) = true ↔ _
    rw [Bool.and_eq_true, okR_iff k ω]
    constructor
    · rintro ⟨h1, h2⟩ i hi
      by_cases c : i = k
      · rw [c]; exact h2
      · exact h1 i (by omega)
    · intro h
      exact ⟨fun i hi => h i (by omega), h k (by omega)⟩
def fsm (mu : Nat → Option Nat) (m : Nat) (L : List (Wd × Nat)) : Nat := (L.map fun e => if okR mu m e.1 = true then e.2 else 0).sum
theorem fsm_app {mu : Nat → Option Nat} {m : Nat} {a b : List (Wd × Nat)} : fsm mu m (a ++ b) = fsm mu m a + fsm mu m b := by unfold fsm; rw [List.map_append, List.sum_append]
theorem fsm_lvs {N : Net} {mu : Nat → Option Nat} : ∀ f k ω w, k + f = nM N → fsm mu (nM N) (lvs N no1 f k ω w) = if okR mu k ω = true then w * wsm N mu f k ω else 0 := by
  intro f
  induction f with
  | zero =>
    intro k ω w hk
    have hk' : k = nM N := by omega
    subst hk'
    unfold lvs wsm
    by_cases c : w = 0
    · rw [if_pos c, c]; simp [fsm]
    · rw [if_neg c]; simp [fsm]
  | succ f ih =>
    intro k ω w hk
    unfold lvs wsm
    by_cases c : w = 0
    · rw [if_pos c, c, Nat.zero_mul]; simp [fsm]
    · rw [if_neg c]
      have key : ∀ l : List Nat, fsm mu (nM N) (l.flatMap fun v => if oV (no1 k) v = true then lvs N no1 f (k + 1) (up ω k v) (w * facW N ω k v) else []) = if okR mu k ω = true then w * (l.map fun v => if oV (mu k) v = true then facW N ω k v * wsm N mu f (k + 1) (up ω k v) else 0).sum else 0 := by
        intro l
        induction l with
        | nil => simp [fsm]
        | cons v l il =>
          have o1 : oV (no1 k) v = true := rfl
          have e1 : okR mu (k + 1) (up ω k v) = (okR mu k ω && oV (mu k) v) := by
            show (okR mu k (up ω k v) && oV (mu k) (up ω k v k)) = _
            rw [up_s, okR_eq k (up ω k v) ω (fun i hi => up_n (by omega))]
          rw [List.flatMap_cons, fsm_app, il, List.map_cons, List.sum_cons, if_pos o1, ih (k + 1) _ _ (by omega), e1]
          cases okR mu k ω with
          | false => simp
          | true =>
            cases oV (mu k) v with
            | false => simp
            | true => simp [Nat.mul_add, Nat.mul_assoc]
      exact key _
theorem fsm_LV {N : Net} {mu : Nat → Option Nat} : fsm mu (nM N) (LV N no1) = WT N mu := by
  unfold LV WT
  rw [fsm_lvs _ _ _ _ (by omega), if_pos (show okR mu 0 w0 = true from rfl), Nat.one_mul]
theorem lvs_lt {N : Net} : ∀ f k ω w, k + f = nM N → (∀ i, i < k → ω i < nS N i) → ∀ e, e ∈ lvs N no1 f k ω w → ∀ i, i < nM N → e.1 i < nS N i := by
  intro f
  induction f with
  | zero =>
    intro k ω w hk hw e he i hi
    unfold lvs at he
    by_cases c : w = 0
    · rw [if_pos c] at he; cases he
    · rw [if_neg c, List.mem_singleton] at he
      rw [he]
      exact hw i (by omega)
  | succ f ih =>
    intro k ω w hk hw e he i hi
    unfold lvs at he
    by_cases c : w = 0
    · rw [if_pos c] at he; cases he
    · rw [if_neg c, List.mem_flatMap] at he
      obtain ⟨v, hv, he⟩ := he
      rw [List.mem_range'_1] at hv
      split at he
      · refine ih (k + 1) _ _ (by omega) (fun j hj => ?_) e he i hi
        by_cases cj : j = k
        · rw [cj, up_s]; omega
        · rw [up_n cj]; exact hw j (by omega)
      · cases he
theorem tw_sum {m a i : Nat} : ∀ (L : List (Wd × Nat)) (A : Acc), (L.foldl (std m (some a)) A).2.2.2 i = A.2.2.2 i + (L.map fun e => if i / 9 < m ∧ i % 9 = 3 * e.1 (i / 9) + e.1 a then e.2 else 0).sum
  | [], A => rfl
  | e :: L, A => by
    rw [List.foldl_cons, tw_sum L, List.map_cons, List.sum_cons]
    have : (std m (some a) A e).2.2.2 i = A.2.2.2 i + (if i / 9 < m ∧ i % 9 = 3 * e.1 (i / 9) + e.1 a then e.2 else 0) := by
      unfold std
      dsimp only
      split
      · rfl
      · rfl
    rw [this, Nat.add_assoc]
theorem sum_0 {L : List (Wd × Nat)} {F : Wd × Nat → Nat} (h : ∀ e, e ∈ L → F e = 0) : (L.map F).sum = 0 := by
  induction L with
  | nil => rfl
  | cons e L ih =>
    rw [List.map_cons, List.sum_cons, h e List.mem_cons_self, ih (fun e2 h2 => h e2 (List.mem_cons_of_mem _ h2))]
theorem twS_b {N : Net} (h : NV N) {k j x y : Nat} (hk : k < nM N) (hj : j < nM N) (hkj : ¬ k = j) (hx : x < 3) (hy : y < 3) : twS N k (9 * j + 3 * x + y) = if x < nS N j ∧ y < nS N k then WT N (mu2 k y j x) else 0 := by
  unfold twS
  rw [tw_sum]
  have sk := NV_sv h hk
  have sj := NV_sv h hj
  have d9 : (9 * j + 3 * x + y) / 9 = j := by omega
  have m9 : (9 * j + 3 * x + y) % 9 = 3 * x + y := by omega
  have hl : ∀ e, e ∈ LV N no1 → ∀ i, i < nM N → e.1 i < nS N i := lvs_lt (nM N) 0 w0 1 (by omega) (fun i hi => absurd hi (Nat.not_lt_zero i))
  rw [d9, m9]
  show 0 + _ = _
  rw [Nat.zero_add]
  by_cases c : x < nS N j ∧ y < nS N k
  · rw [if_pos c, ← fsm_LV]
    unfold fsm
    congr 1
    refine List.map_congr_left (fun e he => ?_)
    have l1 := hl e he j hj
    have l2 := hl e he k hk
    have ec : (j < nM N ∧ 3 * x + y = 3 * e.1 j + e.1 k) = (okR (mu2 k y j x) (nM N) e.1 = true) := propext (by
      rw [okR_iff]
      constructor
      · rintro ⟨_, q⟩ i hi
        unfold oV mu2
        refine decide_eq_true ?_
        by_cases c1 : i = j
        · rw [if_pos c1, c1]; exact Or.inr (congrArg some (by omega))
        · rw [if_neg c1]
          by_cases c2 : i = k
          · rw [if_pos c2, c2]; exact Or.inr (congrArg some (by omega))
          · rw [if_neg c2]; exact Or.inl rfl
      · intro q
        have q1 := q j hj
        have q2 := q k hk
        unfold oV mu2 at q1 q2
        rw [if_pos rfl] at q1
        rw [if_neg hkj, if_pos rfl] at q2
        have r1 := of_decide_eq_true q1
        have r2 := of_decide_eq_true q2
        rcases r1 with r1 | r1
        · cases r1
        · rcases r2 with r2 | r2
          · cases r2
          · have := Option.some.inj r1
            have := Option.some.inj r2
            exact ⟨hj, by omega⟩)
    simp only [ec]
  · rw [if_neg c]
    refine sum_0 (fun e he => ?_)
    have l1 := hl e he j hj
    have l2 := hl e he k hk
    rw [if_neg (fun q => c (by omega))]
theorem mx_max {T : Nat → Nat} {b y : Nat} : (if T y ≤ b then b else T y) = max b (T y) := by split <;> omega
theorem gs_max {b t : Nat} : (if t < b then b else t) = max b t := by split <;> omega
theorem gsI_s {N : Net} {k j x r h b : Nat} : gsI N k j x (r + 1) h b = gsI N k j x r (h + 1) (max b (bthN N k h j x)) := by
  show gsI N k j x r (h + 1) (if bthN N k h j x < b then b else bthN N k h j x) = _
  rw [gs_max]
theorem mxR_s {T : Nat → Nat} {r y b : Nat} : mxR T (r + 1) y b = mxR T r (y + 1) (max b (T y)) := by
  show mxR T r (y + 1) (if T y ≤ b then b else T y) = _
  rw [mx_max]
theorem tlO_gs {N : Net} (h : NV N) {k j : Nat} (hk : k < nM N) (hj : j < nM N) (hkj : ¬ k = j) : tlO N k j = gsN N k j := by
  have sk := NV_sv h hk
  have sj := NV_sv h hj
  have bt : ∀ y x, bthN N k y j x = WT N (mu2 k y j x) := fun y x => by unfold bthN; rw [if_neg (fun q => hkj q.1)]
  have row : ∀ x, x < 3 → mxR (fun y => twS N k (9 * j + 3 * x + y)) 3 0 0 = if x < nS N j then gsI N k j x (nS N k) 0 0 else 0 := fun x hx => by
    have t0 := twS_b h hk hj hkj hx (show 0 < 3 by decide)
    have t1 := twS_b h hk hj hkj hx (show 1 < 3 by decide)
    have t2 := twS_b h hk hj hkj hx (show 2 < 3 by decide)
    rw [mxR_s, mxR_s, mxR_s]
    show max (max (max 0 (twS N k (9 * j + 3 * x + 0))) (twS N k (9 * j + 3 * x + 1))) (twS N k (9 * j + 3 * x + 2)) = _
    by_cases c : x < nS N j
    · rw [if_pos c]
      rw [if_pos ⟨c, by omega⟩] at t0
      rw [if_pos ⟨c, by omega⟩] at t1
      rcases sk with s2 | s3
      · rw [s2, gsI_s, gsI_s, bt, bt, t0, t1, t2, if_neg (by omega)]
        show _ = max (max 0 (WT N (mu2 k 0 j x))) (WT N (mu2 k 1 j x))
        omega
      · rw [if_pos ⟨c, by omega⟩] at t2
        rw [s3, gsI_s, gsI_s, gsI_s, bt, bt, bt, t0, t1, t2]
        rfl
    · rw [if_neg c]
      rw [if_neg (fun q => c q.1)] at t0 t1 t2
      rw [t0, t1, t2]; rfl
  have r0 := row 0 (by decide)
  have r1 := row 1 (by decide)
  have r2 := row 2 (by decide)
  unfold tlO gsN
  show 0 + mxR (fun y => twS N k (9 * j + 3 * 0 + y)) 3 0 0 + mxR (fun y => twS N k (9 * j + 3 * 1 + y)) 3 0 0 + mxR (fun y => twS N k (9 * j + 3 * 2 + y)) 3 0 0 = _
  rw [r0, r1, r2]
  rw [if_pos (show 0 < nS N j by omega), if_pos (show 1 < nS N j by omega)]
  rcases sj with s2 | s3
  · rw [if_neg (by omega), s2]; rfl
  · rw [if_pos (by omega), s3]; rfl
theorem gsN_62 {N : Net} (h : NV N) {k j : Nat} (hk : k < nM N) (hj : j < nM N) (hkj : ¬ k = j) : gsN N k j < 2 ^ 63 := by rw [← tlO_gs h hk hj hkj]; exact tlO_63 h
theorem x_tells {d : Nat} {Q : Option PV → St → Prop} {σ : St} {S : MSt} {n o l : Int32} (h : XS σ S) (hQ : ∀ σ', Xc σ σ' → Q (some (vL (tellF S.1 n o l))) σ') : Ca (d + 14) 93 [vR 0 8, vI n, vI o, vI l] σ Q := by
  have hC := h.1
  have h7 := CI_7 hC
  have hX := hC.1
  rw [ca_at (K := kX8_tells) (ls := [vR 0 8, vI n, vI o, vI l]) rfl rfl rfl]
  unfold tellF at hQ
  have bad : (∀ σ', Xc σ σ' → Q (some (vL NOl)) σ') → At (d + 13) kX8_tells 34 [vR 0 8, vI n, vI o, vI l] [] σ Q := fun q => by
    simp only [z_X8_tells_34, z_X8_tells_37, true_and, Option.toList_some, Option.toList_none, List.cons_append, List.nil_append, is2IT, is2RT, if_true, if_false]
    exact q σ Fm_rf
  simp (disch := first | exact is2I | exact is2R | omega) only [z_X8_tells_0, z_X8_tells_1, z_X8_tells_4, z_X8_tells_5, z_X8_tells_8, xf_r0_0 hX, c_has hC, b2_0, true_and, Option.toList_some, Option.toList_none, List.cons_append, List.nil_append, is2IT, is2RT, if_true, if_false]
  cases hp : pN (nM S.1) n with
  | none =>
    rw [hp] at hQ
    rw [if_pos (pN_none.mp hp)]
    exact bad hQ
  | some k =>
    rw [hp] at hQ
    obtain ⟨hk, rfl⟩ := (pN_some (by omega)).mp hp
    rw [if_neg (fun q => q ((lt_nI (by omega)).mpr ⟨k, hk, rfl⟩))]
    dsimp only at hQ
    simp (disch := first | exact is2I | exact is2R | omega) only [z_X8_tells_11, z_X8_tells_12, z_X8_tells_15, z_X8_tells_16, z_X8_tells_19, xf_r0_0 hX, c_has hC, b2_0, true_and, Option.toList_some, Option.toList_none, List.cons_append, List.nil_append, is2IT, is2RT, if_true, if_false]
    cases ho : pN (nM S.1) o with
    | none =>
      rw [ho] at hQ
      rw [if_pos (pN_none.mp ho)]
      exact bad hQ
    | some j =>
      rw [ho] at hQ
      obtain ⟨hj, rfl⟩ := (pN_some (by omega)).mp ho
      rw [if_neg (fun q => q ((lt_nI (by omega)).mpr ⟨j, hj, rfl⟩))]
      dsimp only at hQ
      simp (disch := first | exact is2I | exact is2R | omega) only [z_X8_tells_22, z_X8_tells_23, z_X8_tells_24, kEq, true_and, Option.toList_some, Option.toList_none, List.cons_append, List.nil_append, is2IT, is2RT, if_true, if_false]
      by_cases ckj : k = j
      · rw [if_pos ckj] at hQ ⊢
        exact bad hQ
      · rw [if_neg ckj] at hQ ⊢
        simp (disch := first | exact is2I | exact is2R | omega) only [z_X8_tells_27, z_X8_tells_28, z_X8_tells_31, c_isLine, b2_0, true_and, Option.toList_some, Option.toList_none, List.cons_append, List.nil_append, is2IT, is2RT, if_true, if_false]
        by_cases hl : 0 ≤ l ∧ l < nI 2
        · rw [if_pos hl] at hQ
          rw [if_neg (fun q => q hl)]
          simp (disch := first | exact is2I | exact is2R | omega) only [z_X8_tells_38, z_X8_tells_39, z_X8_tells_42, z_X8_tells_43, z_X8_tells_46, z_X8_tells_47, z_X8_tells_48, xf_r0_0 hX, xf_r0_4 hX, true_and, Option.toList_some, Option.toList_none, List.cons_append, List.nil_append, is2IT, is2RT, if_true, if_false]
          refine c_guess (d := d) hC hk hj (fun σ1 q1 => ?_)
          have m1 := CI_x hC (Iwc_X q1)
          simp (disch := first | exact is2I | exact is2R | omega) only [z_X8_tells_51, z_X8_tells_52, z_X8_tells_55, z_X8_tells_56, z_X8_tells_59, xf_r0_0 m1.1, xf_r0_4 m1.1, Option.toList_some, List.cons_append, List.nil_append, true_and, Option.toList_some, Option.toList_none, List.cons_append, List.nil_append, is2IT, is2RT, if_true, if_false]
          refine c_weighAll (d := d + 1) m1 (fun σ2 q2 => ?_)
          simp (disch := first | exact is2I | exact is2R | omega) only [z_X8_tells_62, z_X8_tells_63, Option.toList_some, List.cons_append, List.nil_append, true_and, Option.toList_some, Option.toList_none, List.cons_append, List.nil_append, is2IT, is2RT, if_true, if_false]
          refine c_frac (d := d + 11) (gsN_62 hC.2.2.2 hk hj ckj) (WT_63 hC.2.2.2) ?_
          simp (disch := first | exact is2I | exact is2R | omega) only [z_X8_tells_66, Option.toList_some, List.cons_append, List.nil_append, true_and, Option.toList_some, Option.toList_none, List.cons_append, List.nil_append, is2IT, is2RT, if_true, if_false]
          rw [← tlO_gs hC.2.2.2 hk hj ckj]
          exact hQ σ2 (Iwc_X (Fm_tr q1 q2))
        · rw [if_neg hl] at hQ
          rw [if_pos hl]
          exact bad hQ
def tg1 (N : Net) (k n : Nat) : Option Nat → Option Nat
  | none => some n
  | some f => if tlO N k n ≤ tlO N k f then some f else some n
theorem tgR_s {N : Net} {k r n : Nat} {o : Option Nat} : tgR N k (r + 1) n o = tgR N k r (n + 1) (if n = k ∨ ¬ nF1 N n = none ∨ ¬ nD N n = none then o else tg1 N k n o) := by
  cases o <;> rfl
def tmL (N : Net) (k : Nat) (o : Option Nat) : Int64 := match o with
  | none => -1
  | some f => lN (tlO N k f)
theorem xtg_l {d k : Nat} {Q : Option PV → St → Prop} {N : Net} {σ0 : St} {oE : Option Nat} (h : CI σ0 1 N) (hk : k < nM N) (hQ : ∀ σ', Fm Iwc noL σ0 σ' → Q (some (vI (oI oE))) σ') : ∀ r n σ o l6 l7 l8, n + r = nM N → (∀ f, o = some f → f < nM N ∧ ¬ k = f) → Fm Iwc noL σ0 σ → tgR N k r n o = oE → At (d + 13) kX8_telling 42 [vR 0 8, vI (nI k), vI (oI o), vL (tmL N k o), vU, vI (nI n), l6, l7, l8] [] σ Q
  | 0, n, σ, o, l6, l7, l8, hn, ho, hf, he => by
    have h7 := CI_7 h
    have m1 := CI_x h (Iwc_X hf)
    have : n = nM N := by omega
    subst this
    have he' : o = oE := he
    subst he'
    simp (disch := first | exact is2I | exact is2R | omega) only [z_X8_telling_42, z_X8_telling_44, z_X8_telling_45, z_X8_telling_48, z_X8_telling_51, z_X8_telling_128, z_X8_telling_129, xf_r0_0 m1.1, m1.2.2.1.1, kLe, Nat.le_refl, true_and, Option.toList_some, Option.toList_none, List.cons_append, List.nil_append, is2IT, is2RT, if_true, if_false]
    exact hQ σ hf
  | r + 1, n, σ, o, l6, l7, l8, hn, ho, hf, he => by
    have h7 := CI_7 h
    have m1 := CI_x h (Iwc_X hf)
    have hX := m1.1
    have hn1 : n < nM N := by omega
    have c : ¬ nM N ≤ n := by omega
    have ev : nI n + (1 : Int32) = nI (n + 1) := nI_add n 1
    obtain ⟨-, -, -, -, -, -, e8, e9, -⟩ := m1.2.2.1.2 n hn1
    have fF := oI_none' (NV_f h.2.2.2 hn1)
    have fD := oI_none' (NV_d h.2.2.2 hn1)
    have he' := he
    rw [tgR_s] at he'
    have nx : ∀ σ1 o l6 l7 l8, (∀ f, o = some f → f < nM N ∧ ¬ k = f) → Fm Iwc noL σ0 σ1 → tgR N k r (n + 1) o = oE → At (d + 13) kX8_telling 122 [vR 0 8, vI (nI k), vI (oI o), vL (tmL N k o), vU, vI (nI n), l6, l7, l8] [] σ1 Q := fun σ1 o l6 l7 l8 g1 g2 g3 => by
      simp (disch := first | exact is2I | exact is2R | omega) only [z_X8_telling_122, ev, true_and, Option.toList_some, Option.toList_none, List.cons_append, List.nil_append, is2IT, is2RT, if_true, if_false]
      rw [z_X8_telling_125]
      exact xtg_l h hk hQ r (n + 1) σ1 o l6 l7 l8 (by omega) g1 g2 g3
    simp (disch := first | exact is2I | exact is2R | omega) only [z_X8_telling_42, z_X8_telling_44, z_X8_telling_45, z_X8_telling_48, z_X8_telling_51, z_X8_telling_54, z_X8_telling_55, z_X8_telling_58, z_X8_telling_61, z_X8_telling_63, z_X8_telling_63s, z_X8_telling_64, z_X8_telling_66, z_X8_telling_68, z_X8_telling_69, xf_r0_0 hX, m1.2.2.1.1, kLe, c, xw_a hX Wk1, xw_n hX Wk1 (show n < 7 by omega), xs_a hX Wk1, kIn, kCl, kEq, true_and, Option.toList_some, Option.toList_none, List.cons_append, List.nil_append, is2IT, is2RT, if_true, if_false]
    by_cases cnk : n = k
    · rw [if_pos (Or.inl cnk)] at he'
      rw [if_pos cnk]
      exact nx σ o _ _ _ ho hf he'
    · rw [if_neg cnk]
      simp (disch := first | exact is2I | exact is2R | omega) only [z_X8_telling_72, z_X8_telling_74, z_X8_telling_77, z_X8_telling_78, e8, fF, true_and, Option.toList_some, Option.toList_none, List.cons_append, List.nil_append, is2IT, is2RT, if_true, if_false]
      by_cases cF : nF1 N n = none
      · rw [if_pos cF]
        simp (disch := first | exact is2I | exact is2R | omega) only [z_X8_telling_81, z_X8_telling_83, z_X8_telling_86, z_X8_telling_87, e9, fD, true_and, Option.toList_some, Option.toList_none, List.cons_append, List.nil_append, is2IT, is2RT, if_true, if_false]
        by_cases cD : nD N n = none
        · rw [if_neg (fun q => q.elim cnk (fun q => q.elim (fun z => z cF) (fun z => z cD)))] at he'
          rw [if_pos cD]
          simp (disch := first | exact is2I | exact is2R | omega) only [z_X8_telling_93, z_X8_telling_94, z_X8_telling_97, z_X8_telling_98, z_X8_telling_101, z_X8_telling_102, z_X8_telling_104, xf_r0_0 hX, xf_r0_4 hX, true_and, Option.toList_some, Option.toList_none, List.cons_append, List.nil_append, is2IT, is2RT, if_true, if_false]
          have ckn : ¬ k = n := fun q => cnk q.symm
          refine c_guess (d := d) m1 hk hn1 (fun σ1 q1 => ?_)
          have f1 := Fm_tr hf q1
          rw [← tlO_gs h.2.2.2 hk hn1 ckn]
          have t63 := @tlO_63 N h.2.2.2 k n
          simp (disch := first | exact is2I | exact is2R | omega) only [z_X8_telling_107, z_X8_telling_109, z_X8_telling_111, z_X8_telling_112, lg_cmp_le, Option.toList_some, List.cons_append, List.nil_append, true_and, Option.toList_some, Option.toList_none, List.cons_append, List.nil_append, is2IT, is2RT, if_true, if_false]
          have tk : ∀ o0 : Option Nat, tgR N k r (n + 1) (some n) = oE → At (d + 13) kX8_telling 116 [vR 0 8, vI (nI k), vI (oI o0), vL (tmL N k o0), vU, vI (nI n), vR (nO 1 n) 2, vL (lN (tlO N k n)), vU] [] σ1 Q := fun o0 g => by
            simp (disch := first | exact is2I | exact is2R | omega) only [z_X8_telling_116, z_X8_telling_118, z_X8_telling_119, z_X8_telling_121, true_and, Option.toList_some, Option.toList_none, List.cons_append, List.nil_append, is2IT, is2RT, if_true, if_false]
            exact nx σ1 (some n) _ _ _ (fun f q => by cases q; exact ⟨hn1, ckn⟩) f1 g
          cases o with
          | none =>
            have nl : ¬ (lN (tlO N k n) ≤ (-1 : Int64)) := fun q => by
              rw [Int64.le_iff_toInt_le, pk_lT t63] at q
              have : (-1 : Int64).toInt = -1 := by decide
              omega
            have t1 := tk none he'
            simp (disch := first | exact is2I | exact is2R | omega) only [z_X8_telling_113, lg_cmp_le, show tmL N k none = -1 from rfl, nl, true_and, Option.toList_some, Option.toList_none, List.cons_append, List.nil_append, is2IT, is2RT, if_true, if_false]
            exact t1
          | some f =>
            have f63 := @tlO_63 N h.2.2.2 k f
            have el : (lN (tlO N k n) ≤ lN (tlO N k f)) = (tlO N k n ≤ tlO N k f) := propext (pk_lLE t63 f63)
            have t1 := tk (some f)
            have s1 := nx σ1 (some f) (vR (nO 1 n) 2) (vL (lN (tlO N k n))) vU ho f1
            have he2 : tgR N k r (n + 1) (if tlO N k n ≤ tlO N k f then some f else some n) = oE := he'
            simp (disch := first | exact is2I | exact is2R | omega) only [z_X8_telling_113, lg_cmp_le, show tmL N k (some f) = lN (tlO N k f) from rfl, el, true_and, Option.toList_some, Option.toList_none, List.cons_append, List.nil_append, is2IT, is2RT, if_true, if_false]
            by_cases cl : tlO N k n ≤ tlO N k f
            · rw [if_pos cl] at he2 ⊢
              exact s1 he2
            · rw [if_neg cl] at he2 ⊢
              exact t1 he2
        · rw [if_pos (Or.inr (Or.inr cD))] at he'
          rw [if_neg cD]
          simp (disch := first | exact is2I | exact is2R | omega) only [z_X8_telling_90, true_and, Option.toList_some, Option.toList_none, List.cons_append, List.nil_append, is2IT, is2RT, if_true, if_false]
          exact nx σ o _ _ _ ho hf he'
      · rw [if_pos (Or.inr (Or.inl cF))] at he'
        rw [if_neg cF]
        exact nx σ o _ _ _ ho hf he'
theorem x_telling {d : Nat} {Q : Option PV → St → Prop} {σ : St} {S : MSt} {n : Int32} (h : XS σ S) (hQ : ∀ σ', Xc σ σ' → Q (some (vI (telgF S.1 n))) σ') : Ca (d + 14) 94 [vR 0 8, vI n] σ Q := by
  have hC := h.1
  have h7 := CI_7 hC
  have hX := hC.1
  rw [ca_at (K := kX8_telling) (ls := [vR 0 8, vI n, vU, vU, vU, vU, vU, vU, vU]) rfl rfl rfl]
  unfold telgF at hQ
  cases hp : pN (nM S.1) n with
  | none =>
    rw [hp] at hQ
    simp (disch := first | exact is2I | exact is2R | omega) only [z_X8_telling_0, z_X8_telling_1, z_X8_telling_4, z_X8_telling_5, z_X8_telling_8, z_X8_telling_11, z_X8_telling_13, xf_r0_0 hX, c_has hC, b2_0, pN_none.mp hp, not_false_eq_true, true_and, Option.toList_some, Option.toList_none, List.cons_append, List.nil_append, is2IT, is2RT, if_true, if_false]
    exact hQ σ Fm_rf
  | some k =>
    rw [hp] at hQ
    obtain ⟨hk, rfl⟩ := (pN_some (by omega)).mp hp
    have hP : 0 ≤ nI k ∧ nI k < nI (nM S.1) := (lt_nI (by omega)).mpr ⟨k, hk, rfl⟩
    dsimp only at hQ
    simp (disch := first | exact is2I | exact is2R | omega) only [z_X8_telling_0, z_X8_telling_1, z_X8_telling_4, z_X8_telling_5, z_X8_telling_8, z_X8_telling_11, z_X8_telling_13, z_X8_telling_14, z_X8_telling_15, z_X8_telling_18, z_X8_telling_19, z_X8_telling_22, xf_r0_0 hX, xf_r0_4 hX, c_has hC, b2_0, hP, and_self, not_true_eq_false, true_and, Option.toList_some, Option.toList_none, List.cons_append, List.nil_append, is2IT, is2RT, if_true, if_false]
    refine c_weighAll (d := d + 1) hC (fun σ1 q1 => ?_)
    have m1 := CI_x hC (Iwc_X q1)
    have w63 := @WT_63 S.1 hC.2.2.2 no1
    have e0 : (lN (WT S.1 no1) = 0) = (WT S.1 no1 = 0) := propext (pk_lEQ (b := 0) w63 (by decide))
    simp (disch := first | exact is2I | exact is2R | omega) only [z_X8_telling_25, z_X8_telling_26, z_X8_telling_27, lg_cmp_eq, e0, Option.toList_some, List.cons_append, List.nil_append, true_and, Option.toList_some, Option.toList_none, List.cons_append, List.nil_append, is2IT, is2RT, if_true, if_false]
    by_cases c : WT S.1 no1 = 0
    · rw [if_pos c] at hQ ⊢
      simp (disch := first | exact is2I | exact is2R | omega) only [z_X8_telling_30, z_X8_telling_32, true_and, Option.toList_some, Option.toList_none, List.cons_append, List.nil_append, is2IT, is2RT, if_true, if_false]
      exact hQ σ1 (Iwc_X q1)
    · rw [if_neg c] at hQ ⊢
      simp (disch := first | exact is2I | exact is2R | omega) only [z_X8_telling_33, z_X8_telling_34, z_X8_telling_35, z_X8_telling_38, z_X8_telling_39, z_X8_telling_40, true_and, Option.toList_some, Option.toList_none, List.cons_append, List.nil_append, is2IT, is2RT, if_true, if_false]
      exact xtg_l (d := d) (oE := tgR S.1 k (nM S.1) 0 none) m1 hk (fun σ2 q2 => hQ σ2 (Iwc_X (Fm_tr q1 q2))) (nM S.1) 0 σ1 none vU vU vU (by omega) (fun f q => by cases q) Fm_rf rfl
