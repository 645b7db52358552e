/-! ===== what tells most ===== -/
def fL (σ : St) (k n : Nat) (f : Nat → Int64) : St := (σ.1, fun a i => if a = k ∧ i < n then f i else rL σ a i, σ.2.2)
theorem fL_0 {σ : St} {k : Nat} {f : Nat → Int64} : fL σ k 0 f = σ := by
  have e : (fun a i => if a = k ∧ i < 0 then f i else rL σ a i) = σ.2.1 := funext fun a => funext fun i => if_neg (fun q => absurd q.2 (Nat.not_lt_zero _))
  show (σ.1, (fun a i => if a = k ∧ i < 0 then f i else rL σ a i), σ.2.2) = σ
  rw [e]
theorem fL_s {σ : St} {k n : Nat} {f : Nat → Int64} {x : Int64} (hx : x = f n) : wL (fL σ k n f) k n x = fL σ k (n + 1) f := by
  subst hx
  have e : (fun a i => if a = k ∧ i = n then f n else (if a = k ∧ i < n then f i else rL σ a i)) = (fun a i => if a = k ∧ i < n + 1 then f i else rL σ a i) := funext fun a => funext fun i => by
    by_cases h1 : a = k ∧ i = n
    · rw [if_pos h1, if_pos ⟨h1.1, by omega⟩, h1.2]
    · rw [if_neg h1]
      by_cases h2 : a = k ∧ i < n
      · rw [if_pos h2, if_pos ⟨h2.1, by omega⟩]
      · rw [if_neg h2, if_neg (fun q => by
          by_cases e2 : i = n
          · exact h1 ⟨q.1, e2⟩
          · exact h2 ⟨q.1, by omega⟩)]
  show (σ.1, (fun a i => if a = k ∧ i = n then f n else (if a = k ∧ i < n then f i else rL σ a i)), σ.2.2) = _
  rw [e]
  rfl
theorem rL_fL {σ : St} {k n a i : Nat} {f : Nat → Int64} : rL (fL σ k n f) a i = if a = k ∧ i < n then f i else rL σ a i := rfl
theorem rI_fL {σ : St} {k n a i : Nat} {f : Nat → Int64} : rI (fL σ k n f) a i = rI σ a i := rfl
theorem Fm_fL {I : Nat → Nat → Bool} {L : Nat → Bool} {σ : St} {k n : Nat} {f : Nat → Int64} (h : L k = true) : Fm I L σ (fL σ k n f) := ⟨fun _ _ _ => rfl, fun a j q => by
  rw [rL_fL]
  split
  · rename_i e; rw [e.1, h] at q; cases q
  · rfl, fun _ _ => rfl, rfl, rfl⟩
def twS (N : Net) (a i : Nat) : Nat := ((LV N no1).foldl (std (nM N) (some a)) (0, 0, w0, fun _ => 0)).2.2.2 i
theorem std_tw {m a i : Nat} : ∀ (L : List (Wd × Nat)) (A : Acc), (L.foldl (std m (some a)) A).2.2.2 i ≤ A.2.2.2 i + sums L
  | [], A => Nat.le_refl _
  | e :: L, A => by
    rw [List.foldl_cons]
    have h := std_tw (m := m) (a := a) (i := i) L (std m (some a) A e)
    have h2 : (std m (some a) A e).2.2.2 i ≤ A.2.2.2 i + e.2 := by
      unfold std
      dsimp only
      split <;> omega
    have e1 : sums (e :: L) = e.2 + sums L := by unfold sums; rw [List.map_cons, List.sum_cons]
    omega
theorem twS_le {N : Net} {a i : Nat} : twS N a i ≤ WT N no1 := by
  have := std_tw (m := nM N) (a := a) (i := i) (LV N no1) (0, 0, w0, fun _ => 0)
  rw [LV_sum] at this
  unfold twS
  dsimp only at this
  omega
theorem by_l {d : Nat} {Q : Option PV → St → Prop} {σ : St} {l0 : Int32} (hF : MF σ) : ∀ f n, n + f = 63 → (At d kX9_byTwos 2 [vR 97 9, vI l0, vI (nI n), vU] [] (fL σ 108 n (fun _ => 0)) Q ↔ At d kX9_byTwos 21 [vR 97 9, vI l0, vI (nI 63), vU] [] (fL σ 108 63 (fun _ => 0)) Q)
  | 0, n, hn => by
    have : n = 63 := by omega
    subst this
    simp (disch := first | exact is2I | exact is2R | omega) only [z_X9_byTwos_2, z_X9_byTwos_3, z_X9_byTwos_5, kLLe, Nat.le_refl, true_and, Option.toList_some, Option.toList_none, List.cons_append, List.nil_append, is2IT, is2RT, if_true, if_false]
  | f + 1, n, hn => by
    have hF2 : MF (fL σ 108 n (fun _ => 0)) := MF_of hF (fun _ _ => rfl) rfl
    have c : ¬ (63 ≤ n) := by omega
    simp (disch := first | exact is2I | exact is2R | omega) only [z_X9_byTwos_2, z_X9_byTwos_3, z_X9_byTwos_5, z_X9_byTwos_8, z_X9_byTwos_9, z_X9_byTwos_12, z_X9_byTwos_13, z_X9_byTwos_14, z_X9_byTwos_15, mf_r1 hF2, mf_r2 hF2, mf_r3 hF2, mf_r5 hF2, mf_r10 hF2, mf_r11 hF2, mf_r13 hF2, mf_r15 hF2, mf_r16 hF2, mf_r19 hF2, mf_r21 hF2, mf_r22 hF2, mf_r23 hF2, mf_r24 hF2, mf_r25 hF2, mf_r26 hF2, mf_r27 hF2, mf_r29 hF2, mf_r30 hF2, mf_r31 hF2, mf_r32 hF2, mf_s98 hF2, mf_s99 hF2, mf_s100 hF2, mf_s101 hF2, mf_s102 hF2, mf_s103 hF2, mf_s104 hF2, mf_s105 hF2, mf_s106 hF2, mf_s107 hF2, mf_s108 hF2, mf_s109 hF2, mf_s110 hF2, mf_s111 hF2, mf_s112 hF2, mf_s113 hF2, mf_s114 hF2, mf_s115 hF2, mf_s116 hF2, mf_s117 hF2, mf_s118 hF2, kLLe, c, kIn, kCl, kAL, true_and, Option.toList_some, Option.toList_none, List.cons_append, List.nil_append, is2IT, is2RT, if_true, if_false]
    rw [z_X9_byTwos_18, fL_s (f := fun _ => 0) rfl, by_l hF f (n + 1) (by omega)]
def I20 (a i : Nat) : Bool := I9 a i || (a.beq 97 && i.beq 20)
theorem I20_c {a i : Nat} (h : I9 a i = true) : I20 a i = true := by unfold I20; rw [h]; rfl
theorem Sc_20 {σ σ' : St} (h : Fm I20 L9 σ σ') (e : rI σ' 97 20 = rI σ 97 20) : Sc σ σ' := ⟨fun a i q => by
  by_cases c : a = 97 ∧ i = 20
  · rw [c.1, c.2]; exact e
  · refine h.1 a i ?_
    unfold I20
    rw [q]
    cases e1 : a.beq 97 with
    | false => rfl
    | true =>
      cases e2 : i.beq 20 with
      | false => rfl
      | true => exact absurd ⟨Nat.eq_of_beq_eq_true e1, Nat.eq_of_beq_eq_true e2⟩ c, h.2⟩
theorem m_byTwos {d a : Nat} {Q : Option PV → St → Prop} {σ : St} {N : Net} (h : RQ σ N) (ha : a < nM N) (hQ : ∀ σ', Sc σ σ' → rL σ' 97 17 = lN (WT N no1) → (∀ i, i < 63 → rL σ' 108 i = lN (twS N a i)) → Q none σ') : Ca (d + 15) 183 [vR 97 9, vI (nI a)] σ Q := by
  have hM := h.1
  have hF := hM.1
  rw [ca_at (K := kX9_byTwos) (ls := [vR 97 9, vI (nI a), vU, vU]) rfl rfl rfl]
  simp only [z_X9_byTwos_0, z_X9_byTwos_1, true_and, Option.toList_some, Option.toList_none, List.cons_append, List.nil_append, is2IT, is2RT, if_true, if_false]
  have l := @by_l (d + 14) Q σ (nI a) hF 63 0 rfl
  rw [fL_0] at l
  refine l.mpr ?_
  have hF2 : MF (fL σ 108 63 (fun _ => 0)) := MF_of hF (fun _ _ => rfl) rfl
  simp only [z_X9_byTwos_21, z_X9_byTwos_22, z_X9_byTwos_23, z_X9_byTwos_26, z_X9_byTwos_27, true_and, Option.toList_some, Option.toList_none, List.cons_append, List.nil_append, is2IT, is2RT, if_true, if_false]
  refine m_all (mu := no1) (ask := some a) (T := fun _ => 0) (fun i v q => by cases q) (fun b q => by cases q; exact ha) (MI_wI (show MI (fL σ 108 63 (fun _ => 0)) N from hM) (by decide)) (fun i hi => ?_) ?_ (fun b q i hi => ?_) (fun σ' q1 q2 => ?_)
  · rw [rI_wI_n (by decide), rI_fL]; exact h.2.1 i hi
  · rw [rI_wI, if_pos ⟨rfl, rfl⟩, oI_ss]
  · rw [rL_wI, rL_fL, if_pos ⟨rfl, hi⟩]; rfl
  · simp only [z_X9_byTwos_30, z_X9_byTwos_31, z_X9_byTwos_32, z_X9_byTwos_33, z_X9_byTwos_36, true_and, Option.toList_some, Option.toList_none, List.cons_append, List.nil_append, is2IT, is2RT, if_true, if_false]
    refine hQ _ (Sc_20 ?_ ?_) ?_ (fun i hi => ?_)
    · exact Fm_tr (Fm_tr (Fm_tr (Fm_fL rfl) (Fm_wI rfl)) (Fm_mono (Sc_w q1) (fun a i => I20_c) (fun _ q => q))) (Fm_wI rfl)
    · rw [rI_wI, if_pos ⟨rfl, rfl⟩, h.2.2]
    · rw [rL_wI, q2.1, std_sum, LV_sum]
      show lN (0 + _) = _
      rw [Nat.zero_add]
    · rw [rL_wI]
      exact q2.2.2.2.2 a rfl i hi
def mxR (T : Nat → Nat) : Nat → Nat → Nat → Nat
  | 0, _, b => b
  | r + 1, y, b => mxR T r (y + 1) (if T y ≤ b then b else T y)
def tlR (T : Nat → Nat) (n : Nat) : Nat → Nat → Nat → Nat
  | 0, _, v => v
  | r + 1, x, v => tlR T n r (x + 1) (v + mxR (fun y => T (9 * n + 3 * x + y)) 3 0 0)
def tlO (N : Net) (a n : Nat) : Nat := tlR (twS N a) n 3 0 0
theorem tl_in {d n x : Nat} {Q : Option PV → St → Prop} {σ : St} {T : Nat → Nat} {l2 : Int64} (hF : MF σ) (hn : n < 7) (hx : x < 3) (hT : ∀ i, i < 63 → rL σ 108 i = lN (T i)) (hb : ∀ i, T i < 2 ^ 62) : ∀ r y b, y + r = 3 → b < 2 ^ 62 → (At d kX9_tellsOf 17 [vR 97 9, vI (nI n), vL l2, vU, vI (nI x), vL (lN b), vU, vI (nI y)] [] σ Q ↔ At d kX9_tellsOf 76 [vR 97 9, vI (nI n), vL l2, vU, vI (nI x), vL (lN (mxR (fun y => T (9 * n + 3 * x + y)) r y b)), vU, vI (nI 3)] [] σ Q)
  | 0, y, b, hy, hb2 => by
    have : y = 3 := by omega
    subst this
    simp (disch := first | exact is2I | exact is2R | omega) only [z_X9_tellsOf_17, z_X9_tellsOf_19, z_X9_tellsOf_20, kLLe, Nat.le_refl, mxR, true_and, Option.toList_some, Option.toList_none, List.cons_append, List.nil_append, is2IT, is2RT, if_true, if_false]
  | r + 1, y, b, hy, hb2 => by
    have c : ¬ (3 ≤ y) := by omega
    have hT1 := hT (9 * n + 3 * x + y) (by omega)
    have hb1 := hb (9 * n + 3 * x + y)
    have e : (lN (T (9 * n + 3 * x + y)) ≤ lN b) = (T (9 * n + 3 * x + y) ≤ b) := propext (pk_lLE (by omega) (by omega))
    simp (disch := first | exact is2I | exact is2R | omega) only [z_X9_tellsOf_17, z_X9_tellsOf_19, z_X9_tellsOf_20, z_X9_tellsOf_23, z_X9_tellsOf_24, z_X9_tellsOf_27, z_X9_tellsOf_29, z_X9_tellsOf_30, z_X9_tellsOf_31, z_X9_tellsOf_32, z_X9_tellsOf_34, z_X9_tellsOf_35, z_X9_tellsOf_36, z_X9_tellsOf_38, z_X9_tellsOf_39, z_X9_tellsOf_40, z_X9_tellsOf_42, z_X9_tellsOf_43, z_X9_tellsOf_46, z_X9_tellsOf_47, z_X9_tellsOf_50, z_X9_tellsOf_52, z_X9_tellsOf_53, z_X9_tellsOf_54, z_X9_tellsOf_55, z_X9_tellsOf_57, z_X9_tellsOf_58, z_X9_tellsOf_59, z_X9_tellsOf_61, z_X9_tellsOf_62, z_X9_tellsOf_63, z_X9_tellsOf_66, z_X9_tellsOf_68, z_X9_tellsOf_70, mf_r1 hF, mf_r2 hF, mf_r3 hF, mf_r5 hF, mf_r10 hF, mf_r11 hF, mf_r13 hF, mf_r15 hF, mf_r16 hF, mf_r19 hF, mf_r21 hF, mf_r22 hF, mf_r23 hF, mf_r24 hF, mf_r25 hF, mf_r26 hF, mf_r27 hF, mf_r29 hF, mf_r30 hF, mf_r31 hF, mf_r32 hF, mf_s98 hF, mf_s99 hF, mf_s100 hF, mf_s101 hF, mf_s102 hF, mf_s103 hF, mf_s104 hF, mf_s105 hF, mf_s106 hF, mf_s107 hF, mf_s108 hF, mf_s109 hF, mf_s110 hF, mf_s111 hF, mf_s112 hF, mf_s113 hF, mf_s114 hF, mf_s115 hF, mf_s116 hF, mf_s117 hF, mf_s118 hF, kLLe, c, kIn, kCl, kAL, kLM, nI_add, hT1, lg_cmp_le, e, mxR, true_and, Option.toList_some, Option.toList_none, List.cons_append, List.nil_append, is2IT, is2RT, if_true, if_false]
    by_cases c2 : T (9 * n + 3 * x + y) ≤ b
    · rw [if_pos c2, if_pos c2, z_X9_tellsOf_73, tl_in hF hn hx hT hb r (y + 1) b (by omega) hb2]
    · rw [if_neg c2, if_neg c2, z_X9_tellsOf_73, tl_in hF hn hx hT hb r (y + 1) _ (by omega) hb1]
theorem tl_out {d n : Nat} {Q : Option PV → St → Prop} {σ : St} {T : Nat → Nat} (hF : MF σ) (hn : n < 7) (hT : ∀ i, i < 63 → rL σ 108 i = lN (T i)) (hb : ∀ i, T i < 2 ^ 62) : ∀ r x v l5 l7, x + r = 3 → (At d kX9_tellsOf 5 [vR 97 9, vI (nI n), vL (lN v), vU, vI (nI x), l5, vU, l7] [] σ Q ↔ Q (some (vL (lN (tlR T n r x v)))) σ)
  | 0, x, v, l5, l7, hx => by
    have : x = 3 := by omega
    subst this
    simp (disch := first | exact is2I | exact is2R | omega) only [z_X9_tellsOf_5, z_X9_tellsOf_7, z_X9_tellsOf_8, z_X9_tellsOf_87, z_X9_tellsOf_88, kLLe, Nat.le_refl, tlR, true_and, Option.toList_some, Option.toList_none, List.cons_append, List.nil_append, is2IT, is2RT, if_true, if_false]
  | r + 1, x, v, l5, l7, hx => by
    have c : ¬ (3 ≤ x) := by omega
    have i1 := @tl_in d n x Q σ T (lN v) hF hn (by omega) hT hb 3 0 0 rfl (by decide)
    simp (disch := first | exact is2I | exact is2R | omega) only [z_X9_tellsOf_5, z_X9_tellsOf_7, z_X9_tellsOf_8, z_X9_tellsOf_11, z_X9_tellsOf_12, z_X9_tellsOf_14, z_X9_tellsOf_15, kLLe, c, true_and, Option.toList_some, Option.toList_none, List.cons_append, List.nil_append, is2IT, is2RT, if_true, if_false]
    refine Iff.trans i1 ?_
    simp (disch := first | exact is2I | exact is2R | omega) only [z_X9_tellsOf_76, z_X9_tellsOf_77, z_X9_tellsOf_79, z_X9_tellsOf_80, z_X9_tellsOf_81, lN_add, kAL, tlR, true_and, Option.toList_some, Option.toList_none, List.cons_append, List.nil_append, is2IT, is2RT, if_true, if_false]
    rw [z_X9_tellsOf_84, tl_out hF hn hT hb r (x + 1) _ _ _ (by omega)]
theorem m_tellsOf {d n : Nat} {Q : Option PV → St → Prop} {σ : St} {T : Nat → Nat} (hF : MF σ) (hn : n < 7) (hT : ∀ i, i < 63 → rL σ 108 i = lN (T i)) (hb : ∀ i, T i < 2 ^ 62) : Ca (d + 1) 184 [vR 97 9, vI (nI n)] σ Q ↔ Q (some (vL (lN (tlR T n 3 0 0)))) σ := by
  rw [ca_at (K := kX9_tellsOf) (ls := [vR 97 9, vI (nI n), vU, vU, vU, vU, vU, vU]) rfl rfl rfl]
  have l := @tl_out d n Q σ T hF hn hT hb 3 0 0 vU vU rfl
  simp only [z_X9_tellsOf_0, z_X9_tellsOf_1, z_X9_tellsOf_2, z_X9_tellsOf_3, true_and, Option.toList_some, Option.toList_none, List.cons_append, List.nil_append, is2IT, is2RT, if_true, if_false]
  exact l
theorem mxR_le {T : Nat → Nat} {B : Nat} (h : ∀ i, T i ≤ B) : ∀ r y b, b ≤ B → mxR T r y b ≤ B
  | 0, _, _, hb => hb
  | r + 1, y, b, hb => by
    unfold mxR
    refine mxR_le h r (y + 1) _ ?_
    split
    · exact hb
    · exact h y
theorem tlR_le {T : Nat → Nat} {n B : Nat} (h : ∀ i, T i ≤ B) : ∀ r x v, tlR T n r x v ≤ v + r * B
  | 0, _, v => by unfold tlR; omega
  | r + 1, x, v => by
    unfold tlR
    have h1 := tlR_le (n := n) h r (x + 1) (v + mxR (fun y => T (9 * n + 3 * x + y)) 3 0 0)
    have h2 := mxR_le (T := fun y => T (9 * n + 3 * x + y)) (fun i => h _) 3 0 0 (Nat.zero_le B)
    have e : (r + 1) * B = r * B + B := Nat.succ_mul r B
    omega
theorem twS_62 {N : Net} (h : NV N) {a i : Nat} : twS N a i < 2 ^ 62 := Nat.lt_of_le_of_lt (Nat.le_trans twS_le (WT_le h)) (by decide)
theorem tlO_63 {N : Net} (h : NV N) {a n : Nat} : tlO N a n < 2 ^ 63 := by
  have h1 := tlR_le (n := n) (T := twS N a) (B := 324 ^ 7) (fun i => Nat.le_trans twS_le (WT_le h)) 3 0 0
  unfold tlO
  have h2 : 324 ^ 7 < 2 ^ 60 := by decide
  omega
def tellF (N : Net) (n o l : Int32) : Int64 := match pN (nM N) n with
  | none => NOl
  | some k => match pN (nM N) o with
    | none => NOl
    | some j => if k = j then NOl else if 0 ≤ l ∧ l < nI 2 then oddS (tlO N k j) (WT N no1) l else NOl
theorem m_tells {d : Nat} {Q : Option PV → St → Prop} {σ : St} {N : Net} {n o l : Int32} (h : RQ σ N) (hQ : ∀ σ', Sc σ σ' → Q (some (vL (tellF N n o l))) σ') : Ca (d + 16) 185 [vR 97 9, vI n, vI o, vI l] σ Q := by
  have hM := h.1
  have h7 := MI_7 hM
  rw [ca_at (K := kX9_tells) (ls := [vR 97 9, vI n, vI o, vI l]) rfl rfl rfl]
  unfold tellF at hQ
  cases hp : pN (nM N) n with
  | none =>
    rw [hp] at hQ
    have hP := pN_none.mp hp
    simp (disch := first | exact is2I | exact is2R | omega) only [z_X9_tells_0, z_X9_tells_1, z_X9_tells_2, z_X9_tells_5, z_X9_tells_8, z_X9_tells_9, z_X9_tells_10, z_X9_tells_13, z_X9_tells_16, z_X9_tells_17, z_X9_tells_18, z_X9_tells_21, z_X9_tells_22, z_X9_tells_23, z_X9_tells_24, z_X9_tells_25, z_X9_tells_28, z_X9_tells_31, z_X9_tells_34, i_isNode hM, b2_0, hP, not_false_eq_true, true_and, Option.toList_some, Option.toList_none, List.cons_append, List.nil_append, is2IT, is2RT, if_true, if_false]
    exact hQ σ Fm_rf
  | some k =>
    rw [hp] at hQ
    obtain ⟨hk, rfl⟩ := (pN_some (by omega)).mp hp
    have hP : 0 ≤ nI k ∧ nI k < nI (nM N) := (lt_nI (by omega)).mpr ⟨k, hk, rfl⟩
    cases hp2 : pN (nM N) o with
    | none =>
      rw [hp2] at hQ
      have hP2 := pN_none.mp hp2
      simp (disch := first | exact is2I | exact is2R | omega) only [z_X9_tells_0, z_X9_tells_1, z_X9_tells_2, z_X9_tells_5, z_X9_tells_8, z_X9_tells_9, z_X9_tells_10, z_X9_tells_13, z_X9_tells_16, z_X9_tells_17, z_X9_tells_18, z_X9_tells_21, z_X9_tells_22, z_X9_tells_23, z_X9_tells_24, z_X9_tells_25, z_X9_tells_28, z_X9_tells_31, z_X9_tells_34, i_isNode hM, b2_0, hP, hP2, and_self, not_true_eq_false, not_false_eq_true, true_and, Option.toList_some, Option.toList_none, List.cons_append, List.nil_append, is2IT, is2RT, if_true, if_false]
      exact hQ σ Fm_rf
    | some j =>
      rw [hp2] at hQ
      dsimp only at hQ
      obtain ⟨hj, rfl⟩ := (pN_some (by omega)).mp hp2
      have hP2 : 0 ≤ nI j ∧ nI j < nI (nM N) := (lt_nI (by omega)).mpr ⟨j, hj, rfl⟩
      simp (disch := first | exact is2I | exact is2R | omega) only [z_X9_tells_0, z_X9_tells_1, z_X9_tells_2, z_X9_tells_5, z_X9_tells_8, z_X9_tells_9, z_X9_tells_10, z_X9_tells_13, z_X9_tells_16, z_X9_tells_17, z_X9_tells_18, i_isNode hM, b2_0, hP, hP2, and_self, not_true_eq_false, kEq, true_and, Option.toList_some, Option.toList_none, List.cons_append, List.nil_append, is2IT, is2RT, if_true, if_false]
      by_cases c1 : k = j
      · rw [if_pos c1] at hQ ⊢
        simp only [z_X9_tells_31, z_X9_tells_34, true_and, Option.toList_some, Option.toList_none, List.cons_append, List.nil_append, is2IT, is2RT, if_true, if_false]
        exact hQ σ Fm_rf
      · rw [if_neg c1] at hQ ⊢
        simp (disch := first | exact is2I | exact is2R | omega) only [z_X9_tells_21, z_X9_tells_22, z_X9_tells_23, z_X9_tells_24, z_X9_tells_25, z_X9_tells_28, m_in, i64_0, i64_1, b2_0, true_and, Option.toList_some, Option.toList_none, List.cons_append, List.nil_append, is2IT, is2RT, if_true, if_false]
        by_cases hl : 0 ≤ l ∧ l < nI 2
        · rw [if_pos hl] at hQ
          rw [if_neg (fun q => q hl)]
          simp (disch := first | exact is2I | exact is2R | omega) only [z_X9_tells_35, z_X9_tells_36, z_X9_tells_37, true_and, Option.toList_some, Option.toList_none, List.cons_append, List.nil_append, is2IT, is2RT, if_true, if_false]
          refine m_byTwos h hk (fun σ' q1 q2 q3 => ?_)
          have fin := hQ σ' q1
          have b63 := WT_63 hM.2.2 (mu := no1)
          have e0 : (lN (WT N no1) = 0) = (WT N no1 = 0) := propext (pk_lEQ (b := 0) b63 (by decide))
          have hF := MF_of hM.1 q1.2.2.1 q1.2.2.2.1
          unfold oddS at fin
          simp (disch := first | exact is2I | exact is2R | omega) only [z_X9_tells_40, z_X9_tells_41, z_X9_tells_44, z_X9_tells_45, z_X9_tells_46, q2, lg_cmp_eq, e0, true_and, Option.toList_some, Option.toList_none, List.cons_append, List.nil_append, is2IT, is2RT, if_true, if_false]
          by_cases c : WT N no1 = 0
          · rw [if_pos c] at fin ⊢
            simp only [z_X9_tells_49, z_X9_tells_52, z_X9_tells_68, true_and, Option.toList_some, Option.toList_none, List.cons_append, List.nil_append, is2IT, is2RT, if_true, if_false]
            exact fin
          · rw [if_neg c] at fin ⊢
            simp (disch := first | exact is2I | exact is2R | omega) only [z_X9_tells_55, z_X9_tells_56, z_X9_tells_57, z_X9_tells_60, z_X9_tells_61, z_X9_tells_64, z_X9_tells_65, m_tellsOf hF (show j < 7 by omega) q3 (fun i => twS_62 hM.2.2), q2, true_and, Option.toList_some, Option.toList_none, List.cons_append, List.nil_append, is2IT, is2RT, if_true, if_false]
            refine m_lowest (tlO_63 hM.2.2) b63 c ?_
            simp only [z_X9_tells_68, true_and, Option.toList_some, Option.toList_none, List.cons_append, List.nil_append, is2IT, is2RT, if_true, if_false]
            exact fin
        · rw [if_neg hl] at hQ
          rw [if_pos hl]
          simp only [z_X9_tells_31, z_X9_tells_34, true_and, Option.toList_some, Option.toList_none, List.cons_append, List.nil_append, is2IT, is2RT, if_true, if_false]
          exact hQ σ Fm_rf
def tgR (N : Net) (k : Nat) : Nat → Nat → Option Nat → Option Nat
  | 0, _, o => o
  | r + 1, n, o => tgR N k r (n + 1) (if n = k ∨ ¬ nF1 N n = none ∨ ¬ nD N n = none then o else match o with
    | none => some n
    | some f => if tlO N k n ≤ tlO N k f then some f else some n)
def telgF (N : Net) (n : Int32) : Int32 := match pN (nM N) n with
  | none => -2
  | some k => if WT N no1 = 0 then -3 else oI (tgR N k (nM N) 0 none)
theorem tg_l {d k : Nat} {Q : Option PV → St → Prop} {σ : St} {N : Net} (h : MI σ N) (hk : k < nM N) (hT : ∀ i, i < 63 → rL σ 108 i = lN (twS N k i)) : ∀ r n o, n + r = nM N → (∀ f, o = some f → f < nM N) → (At (d + 1) kX9_telling 32 [vR 97 9, vI (nI k), vI (oI o), vI (nI n)] [] σ Q ↔ Q (some (vI (oI (tgR N k r n o)))) σ)
  | 0, n, o, hn, ho => by
    have h7 := MI_7 h
    have : n = nM N := by omega
    subst this
    simp (disch := first | exact is2I | exact is2R | omega) only [z_X9_telling_32, z_X9_telling_33, z_X9_telling_34, z_X9_telling_37, z_X9_telling_95, z_X9_telling_96, i_many h, kLe, Nat.le_refl, tgR, true_and, Option.toList_some, Option.toList_none, List.cons_append, List.nil_append, is2IT, is2RT, if_true, if_false]
  | r + 1, n, o, hn, ho => by
    have h7 := MI_7 h
    have hn1 : n < nM N := by omega
    have c : ¬ nM N ≤ n := by omega
    have e1 := oI_none' (NV_f h.2.2 hn1)
    have e2 := oI_none' (NV_d h.2.2 hn1)
    have ev : nI n + (1 : Int32) = nI (n + 1) := nI_add n 1
    have skip : ∀ o, (∀ f, o = some f → f < nM N) → (At (d + 1) kX9_telling 89 [vR 97 9, vI (nI k), vI (oI o), vI (nI n)] [] σ Q ↔ Q (some (vI (oI (tgR N k r (n + 1) o)))) σ) := fun o ho => by
      simp (disch := first | exact is2I | exact is2R | omega) only [z_X9_telling_89, ev, true_and, Option.toList_some, Option.toList_none, List.cons_append, List.nil_append, is2IT, is2RT, if_true, if_false]
      rw [z_X9_telling_92, tg_l h hk hT r (n + 1) o (by omega) ho]
    unfold tgR
    simp (disch := first | exact is2I | exact is2R | omega) only [z_X9_telling_32, z_X9_telling_33, z_X9_telling_34, z_X9_telling_37, z_X9_telling_40, z_X9_telling_41, z_X9_telling_42, z_X9_telling_45, z_X9_telling_46, z_X9_telling_47, z_X9_telling_48, z_X9_telling_51, z_X9_telling_52, z_X9_telling_55, z_X9_telling_56, z_X9_telling_57, z_X9_telling_58, z_X9_telling_61, z_X9_telling_62, z_X9_telling_65, i_many h, kLe, c, kEq, i_is4 h hn1, i_is5 h hn1, e1, e2, true_and, Option.toList_some, Option.toList_none, List.cons_append, List.nil_append, is2IT, is2RT, if_true, if_false]
    by_cases c1 : n = k
    · rw [if_pos c1, if_pos (Or.inl c1)]
      exact skip o ho
    · rw [if_neg c1]
      by_cases c2 : nF1 N n = none
      · rw [if_pos c2]
        by_cases c3 : nD N n = none
        · rw [if_pos c3, if_neg (fun q => q.elim c1 (fun w => w.elim (fun z => z c2) (fun z => z c3)))]
          have take : At (d + 1) kX9_telling 87 [vR 97 9, vI (nI k), vI (oI o), vI (nI n)] [] σ Q ↔ Q (some (vI (oI (tgR N k r (n + 1) (some n))))) σ := by
            have s := skip (some n) (fun f q => by cases q; exact hn1)
            rw [oI_ss] at s
            simp (disch := first | exact is2I | exact is2R | omega) only [z_X9_telling_87, z_X9_telling_88, true_and, Option.toList_some, Option.toList_none, List.cons_append, List.nil_append, is2IT, is2RT, if_true, if_false]
            exact s
          cases o with
          | none =>
            rw [oI_nn] at take ⊢
            simp (disch := first | exact is2I | exact is2R | omega) only [z_X9_telling_68, z_X9_telling_69, z_X9_telling_70, true_and, Option.toList_some, Option.toList_none, List.cons_append, List.nil_append, is2IT, is2RT, if_true, if_false]
            exact take
          | some f =>
            have hf := ho f rfl
            have s := skip (some f) ho
            rw [oI_ss] at take s ⊢
            have hF := h.1
            have t := fun {n : Nat} (hn : n < 7) => fun Q => @m_tellsOf d n Q σ (twS N k) hF hn hT (fun i => twS_62 h.2.2)
            have ec : (lN (tlR (twS N k) n 3 0 0) ≤ lN (tlR (twS N k) f 3 0 0)) = (tlO N k n ≤ tlO N k f) := propext (pk_lLE (tlO_63 h.2.2) (tlO_63 h.2.2))
            simp (disch := first | exact is2I | exact is2R | omega) only [z_X9_telling_68, z_X9_telling_69, z_X9_telling_70, z_X9_telling_73, z_X9_telling_74, z_X9_telling_75, z_X9_telling_78, z_X9_telling_79, z_X9_telling_80, z_X9_telling_83, z_X9_telling_84, kM1, t (show n < 7 by omega), t (show f < 7 by omega), lg_cmp_le, ec, true_and, Option.toList_some, Option.toList_none, List.cons_append, List.nil_append, is2IT, is2RT, if_true, if_false]
            by_cases c4 : tlO N k n ≤ tlO N k f
            · rw [if_pos c4, if_pos c4]; exact s
            · rw [if_neg c4, if_neg c4]; exact take
        · rw [if_neg c3, if_pos (Or.inr (Or.inr c3))]
          exact skip o ho
      · rw [if_neg c2, if_pos (Or.inr (Or.inl c2))]
        exact skip o ho
theorem m_telling {d : Nat} {Q : Option PV → St → Prop} {σ : St} {N : Net} {n : Int32} (h : RQ σ N) (hQ : ∀ σ', Sc σ σ' → Q (some (vI (telgF N n))) σ') : Ca (d + 16) 186 [vR 97 9, vI n] σ Q := by
  have hM := h.1
  have h7 := MI_7 hM
  rw [ca_at (K := kX9_telling) (ls := [vR 97 9, vI n, vU, vU]) rfl rfl rfl]
  unfold telgF at hQ
  cases hp : pN (nM N) n with
  | none =>
    rw [hp] at hQ
    have hP := pN_none.mp hp
    simp (disch := first | exact is2I | exact is2R | omega) only [z_X9_telling_0, z_X9_telling_1, z_X9_telling_2, z_X9_telling_5, z_X9_telling_8, z_X9_telling_10, i_isNode hM, b2_0, hP, not_false_eq_true, true_and, Option.toList_some, Option.toList_none, List.cons_append, List.nil_append, is2IT, is2RT, if_true, if_false]
    exact hQ σ Fm_rf
  | some k =>
    rw [hp] at hQ
    dsimp only at hQ
    obtain ⟨hk, rfl⟩ := (pN_some (by omega)).mp hp
    have hP : 0 ≤ nI k ∧ nI k < nI (nM N) := (lt_nI (by omega)).mpr ⟨k, hk, rfl⟩
    simp (disch := first | exact is2I | exact is2R | omega) only [z_X9_telling_0, z_X9_telling_1, z_X9_telling_2, z_X9_telling_5, z_X9_telling_8, z_X9_telling_10, z_X9_telling_11, z_X9_telling_12, z_X9_telling_13, i_isNode hM, b2_0, hP, and_self, not_true_eq_false, true_and, Option.toList_some, Option.toList_none, List.cons_append, List.nil_append, is2IT, is2RT, if_true, if_false]
    refine m_byTwos h hk (fun σ' q1 q2 q3 => ?_)
    have fin := hQ σ' q1
    have b63 := WT_63 hM.2.2 (mu := no1)
    have e0 : (lN (WT N no1) = 0) = (WT N no1 = 0) := propext (pk_lEQ (b := 0) b63 (by decide))
    simp (disch := first | exact is2I | exact is2R | omega) only [z_X9_telling_16, z_X9_telling_17, z_X9_telling_20, z_X9_telling_21, z_X9_telling_22, q2, lg_cmp_eq, e0, true_and, Option.toList_some, Option.toList_none, List.cons_append, List.nil_append, is2IT, is2RT, if_true, if_false]
    by_cases c : WT N no1 = 0
    · rw [if_pos c] at fin ⊢
      simp only [z_X9_telling_25, z_X9_telling_27, true_and, Option.toList_some, Option.toList_none, List.cons_append, List.nil_append, is2IT, is2RT, if_true, if_false]
      exact fin
    · rw [if_neg c] at fin ⊢
      have l := @tg_l (d + 14) k Q σ' N (MI_fm hM q1 (fun _ => rfl)) hk q3 (nM N) 0 none (by omega) (fun f q => by cases q)
      simp (disch := first | exact is2I | exact is2R | omega) only [z_X9_telling_28, z_X9_telling_29, z_X9_telling_30, z_X9_telling_31, true_and, Option.toList_some, Option.toList_none, List.cons_append, List.nil_append, is2IT, is2RT, if_true, if_false]
      exact l.mpr fin
