/-! ===== shown, lay, film, cost, copy: the reference ===== -/
def muT (N : Net) (g : Nat → Int64) : Nat → Option Nat := fun k => if k < nM N then (match tv (nS N k) (g k) with | some o => o | none => none) else none
theorem muT_3 {N : Net} (h : NV N) {g : Nat → Int64} : ∀ i v, muT N g i = some v → v < 3 := by
  intro i v e
  unfold muT at e
  split at e
  · rename_i hi
    have hs := NV_sv h hi
    cases et : tv (nS N i) (g i) with
    | none => rw [et] at e; cases e
    | some o =>
      rw [et] at e
      have e : o = some v := e
      rw [e] at et
      have := ((tv_some (by omega)).mp et).1
      omega
  · cases e
theorem muT_i {N : Net} (h : NV N) {n : Nat} {g : Nat → Int64} (ht : tldB N n g = true) {k : Nat} (hk : k < nM N) : (g k).toInt32 = oI (muT N g k) ∧ ∀ v, muT N g k = some v → v < nS N k := by
  have hs := NV_sv h hk
  unfold tldB at ht
  simp only [Bool.and_eq_true, List.all_eq_true] at ht
  have := ht.2 k (List.mem_range'_1.mpr ⟨Nat.zero_le _, by omega⟩)
  unfold muT
  rw [if_pos hk]
  cases et : tv (nS N k) (g k) with
  | none => rw [et] at this; cases this
  | some o =>
    cases o with
    | none =>
      rw [tv_none.mp et]
      exact ⟨by decide, fun v q => by cases q⟩
    | some v =>
      obtain ⟨h1, h2⟩ := (tv_some (by omega)).mp et
      rw [h2, lN_i]
      exact ⟨rfl, fun u q => by cases q; exact h1⟩
theorem tldB_n {N : Net} {n : Nat} {g : Nat → Int64} (ht : tldB N n g = true) : n = nM N := by
  unfold tldB at ht
  simp only [Bool.and_eq_true] at ht
  exact of_decide_eq_true ht.1
def shownF (N : Net) (f : Shs) (s l : Int32) : Int64 := match pN 4 s with
  | none => NOl
  | some j => if 0 ≤ l ∧ l < nI 2 then (match f j with
    | none => NOl
    | some e => if tldB N e.2.1 e.2.2 = true then oddS (WT N (muT N e.2.2)) (WT N no1) l else NOl) else NOl
theorem sw_l {d j : Nat} {Q : Option PV → St → Prop} {σ : St} {N : Net} {n : Nat} {g : Nat → Int64} {l : Int32} (h : MI σ N) (hj : j < 4) (hg : ∀ i, i < nM N → rL σ 118 (40 * j + i) = g i) (ht : tldB N n g = true) : ∀ r k, k + r = nM N → (At (d + 1) kX9_shown 40 [vR 97 9, vI (nI j), vI l, vI (nI k)] [] (fI σ 106 0 k (fun i => oI (muT N g i))) Q ↔ At (d + 1) kX9_shown 72 [vR 97 9, vI (nI j), vI l, vI (nI (nM N))] [] (fI σ 106 0 (nM N) (fun i => oI (muT N g i))) Q)
  | 0, k, hk => by
    have h7 := MI_7 h
    have : k = nM N := by omega
    subst this
    simp (disch := first | exact is2I | exact is2R | omega) only [z_X9_shown_40, z_X9_shown_41, z_X9_shown_42, z_X9_shown_45, i_many (MI_fI h (show 106 ≠ 98 by decide)), kLe, Nat.le_refl, true_and, Option.toList_some, Option.toList_none, List.cons_append, List.nil_append, is2IT, is2RT, if_true, if_false]
  | r + 1, k, hk => by
    have h7 := MI_7 h
    have hk1 : k < nM N := by omega
    have hF2 : MF (fI σ 106 0 k (fun i => oI (muT N g i))) := MF_of h.1 (fun _ _ => rfl) rfl
    have c : ¬ nM N ≤ k := by omega
    have hr : rL (fI σ 106 0 k (fun i => oI (muT N g i))) 118 (40 * j + k) = g k := hg k hk1
    have hm := (muT_i h.2.2 ht hk1).1
    simp (disch := first | exact is2I | exact is2R | omega) only [z_X9_shown_40, z_X9_shown_41, z_X9_shown_42, z_X9_shown_45, z_X9_shown_48, z_X9_shown_49, z_X9_shown_52, z_X9_shown_53, z_X9_shown_54, z_X9_shown_57, z_X9_shown_59, z_X9_shown_60, z_X9_shown_61, z_X9_shown_62, z_X9_shown_63, z_X9_shown_64, z_X9_shown_65, z_X9_shown_66, i_many (MI_fI h (show 106 ≠ 98 by decide)), mf_r1 hF2, mf_r2 hF2, mf_r3 hF2, mf_r5 hF2, mf_r10 hF2, mf_r11 hF2, mf_r13 hF2, mf_r15 hF2, mf_r16 hF2, mf_r19 hF2, mf_r21 hF2, mf_r22 hF2, mf_r23 hF2, mf_r24 hF2, mf_r25 hF2, mf_r26 hF2, mf_r27 hF2, mf_r29 hF2, mf_r30 hF2, mf_r31 hF2, mf_r32 hF2, mf_s98 hF2, mf_s99 hF2, mf_s100 hF2, mf_s101 hF2, mf_s102 hF2, mf_s103 hF2, mf_s104 hF2, mf_s105 hF2, mf_s106 hF2, mf_s107 hF2, mf_s108 hF2, mf_s109 hF2, mf_s110 hF2, mf_s111 hF2, mf_s112 hF2, mf_s113 hF2, mf_s114 hF2, mf_s115 hF2, mf_s116 hF2, mf_s117 hF2, mf_s118 hF2, kLe, c, kLM, nI_add, kIn, kCl, hr, hm, kAL, true_and, Option.toList_some, Option.toList_none, List.cons_append, List.nil_append, is2IT, is2RT, if_true, if_false]
    rw [z_X9_shown_69, fI_s0 (f := fun i => oI (muT N g i)) rfl, sw_l h hj hg ht r (k + 1) (by omega)]
theorem m_shown {d : Nat} {Q : Option PV → St → Prop} {σ : St} {S : MSt} {s l : Int32} (h : MS σ S) (hQ : ∀ σ', Sc σ σ' → Q (some (vL (shownF S.1 S.2.2.2 s l))) σ') : Ca (d + 16) 174 [vR 97 9, vI s, vI l] σ Q := by
  have hM := h.1
  have h7 := MI_7 hM
  have hF := hM.1
  have hS := MS_sh h
  have hR := MS_RQ h
  rw [ca_at (K := kX9_shown) (ls := [vR 97 9, vI s, vI l, vU]) rfl rfl rfl]
  unfold shownF at hQ
  cases hp : pN 4 s with
  | none =>
    rw [hp] at hQ
    simp (disch := first | exact is2I | exact is2R | omega) only [z_X9_shown_0, z_X9_shown_1, z_X9_shown_4, z_X9_shown_34, z_X9_shown_37, m_isSheet, b2_0, pN_none.mp hp, not_false_eq_true, true_and, Option.toList_some, Option.toList_none, List.cons_append, List.nil_append, is2IT, is2RT, if_true, if_false]
    exact hQ σ Fm_rf
  | some j =>
    rw [hp] at hQ
    obtain ⟨hj, rfl⟩ := (pN_some (by decide)).mp hp
    have hP : 0 ≤ nI j ∧ nI j < nI 4 := (lt_nI (by decide)).mpr ⟨j, hj, rfl⟩
    dsimp only at hQ
    simp (disch := first | exact is2I | exact is2R | omega) only [z_X9_shown_0, z_X9_shown_1, z_X9_shown_4, z_X9_shown_7, z_X9_shown_8, z_X9_shown_9, z_X9_shown_10, z_X9_shown_11, z_X9_shown_14, m_isSheet, b2_0, hP, and_self, not_true_eq_false, m_in, i64_0, i64_1, true_and, Option.toList_some, Option.toList_none, List.cons_append, List.nil_append, is2IT, is2RT, if_true, if_false]
    have bad : Q (some (vL NOl)) σ → At (d + 15) kX9_shown 34 [vR 97 9, vI (nI j), vI l, vU] [] σ Q := fun q => by simp only [z_X9_shown_34, z_X9_shown_37, true_and, Option.toList_some, Option.toList_none, List.cons_append, List.nil_append, is2IT, is2RT, if_true, if_false]; exact q
    by_cases hl : 0 ≤ l ∧ l < nI 2
    · rw [if_pos hl] at hQ
      rw [if_neg (fun q => q hl)]
      cases hf : S.2.2.2 j with
      | none =>
        rw [hf] at hQ
        simp (disch := first | exact is2I | exact is2R | omega) only [z_X9_shown_17, z_X9_shown_18, z_X9_shown_21, z_X9_shown_22, z_X9_shown_23, mf_r1 hF, mf_r2 hF, mf_r3 hF, mf_r5 hF, mf_r10 hF, mf_r11 hF, mf_r13 hF, mf_r15 hF, mf_r16 hF, mf_r19 hF, mf_r21 hF, mf_r22 hF, mf_r23 hF, mf_r24 hF, mf_r25 hF, mf_r26 hF, mf_r27 hF, mf_r29 hF, mf_r30 hF, mf_r31 hF, mf_r32 hF, mf_s98 hF, mf_s99 hF, mf_s100 hF, mf_s101 hF, mf_s102 hF, mf_s103 hF, mf_s104 hF, mf_s105 hF, mf_s106 hF, mf_s107 hF, mf_s108 hF, mf_s109 hF, mf_s110 hF, mf_s111 hF, mf_s112 hF, mf_s113 hF, mf_s114 hF, mf_s115 hF, mf_s116 hF, mf_s117 hF, mf_s118 hF, kIn, kCl, sh_none hS hj hf, true_and, Option.toList_some, Option.toList_none, List.cons_append, List.nil_append, is2IT, is2RT, if_true, if_false]
        exact bad (hQ σ Fm_rf)
      | some e =>
        obtain ⟨t, n, g⟩ := e
        have ha := sh_at hS hj
        rw [hf] at ha
        obtain ⟨a1, a2, a3, a4, a5, a6⟩ := ha
        have n10 : ((1 : Int32) = 0) = False := eq_false (by decide)
        rw [hf] at hQ
        dsimp only at hQ
        simp (disch := first | exact is2I | exact is2R | omega) only [z_X9_shown_17, z_X9_shown_18, z_X9_shown_21, z_X9_shown_22, z_X9_shown_23, z_X9_shown_26, z_X9_shown_27, z_X9_shown_28, z_X9_shown_31, mf_r1 hF, mf_r2 hF, mf_r3 hF, mf_r5 hF, mf_r10 hF, mf_r11 hF, mf_r13 hF, mf_r15 hF, mf_r16 hF, mf_r19 hF, mf_r21 hF, mf_r22 hF, mf_r23 hF, mf_r24 hF, mf_r25 hF, mf_r26 hF, mf_r27 hF, mf_r29 hF, mf_r30 hF, mf_r31 hF, mf_r32 hF, mf_s98 hF, mf_s99 hF, mf_s100 hF, mf_s101 hF, mf_s102 hF, mf_s103 hF, mf_s104 hF, mf_s105 hF, mf_s106 hF, mf_s107 hF, mf_s108 hF, mf_s109 hF, mf_s110 hF, mf_s111 hF, mf_s112 hF, mf_s113 hF, mf_s114 hF, mf_s115 hF, mf_s116 hF, mf_s117 hF, mf_s118 hF, kIn, kCl, a1, n10, m_isTold hM hj ⟨a1, a2, a3, a4, a5, a6⟩, b2_0, true_and, Option.toList_some, Option.toList_none, List.cons_append, List.nil_append, is2IT, is2RT, if_true, if_false]
        by_cases ct : tldB S.1 n g = true
        · rw [if_pos ct] at hQ
          rw [if_neg (fun q => q ct)]
          have en := tldB_n ct
          have l1 := @sw_l (d + 14) j Q σ S.1 n g l hM hj (fun i hi => a6 i (by omega)) ct (nM S.1) 0 (by omega)
          rw [fI_0] at l1
          simp (disch := first | exact is2I | exact is2R | omega) only [z_X9_shown_38, z_X9_shown_39, true_and, Option.toList_some, Option.toList_none, List.cons_append, List.nil_append, is2IT, is2RT, if_true, if_false]
          refine l1.mpr ?_
          simp (disch := first | exact is2I | exact is2R | omega) only [z_X9_shown_72, z_X9_shown_73, z_X9_shown_74, true_and, Option.toList_some, Option.toList_none, List.cons_append, List.nil_append, is2IT, is2RT, if_true, if_false]
          refine m_oddsNow (d := d) (mu := muT S.1 g) (muT_3 hM.2.2) (MI_fI hM (by decide)) (fun i hi => ?_) (by rw [rI_fI_n (by decide)]; exact hR.2.2) (fun σ' q1 q2 => ?_)
          · rw [rI_fI]
            by_cases c : i < nM S.1
            · rw [if_pos ⟨rfl, by omega, by omega⟩, Nat.sub_zero]
            · rw [if_neg (fun q => by omega), show muT S.1 g i = none from if_neg c]
              exact hR.2.1 i hi
          · simp only [z_X9_shown_77, true_and, Option.toList_some, Option.toList_none, List.cons_append, List.nil_append, is2IT, is2RT, if_true, if_false]
            exact hQ σ' (Sc_of (Fm_tr (Fm_fI (fun i h0 h1 => by unfold I9m; rw [show Nat.beq 106 106 = true from rfl, show Nat.blt i 7 = true from Nat.ble_eq.mpr (by omega)]; exact Bool.or_true _)) q1) hR.2.1 q2)
        · rw [if_neg ct] at hQ
          rw [if_pos ct]
          exact bad (hQ σ Fm_rf)
    · rw [if_neg hl] at hQ
      rw [if_pos hl]
      exact bad (hQ σ Fm_rf)
/-! lay -/
def setF (N : Net) (o : Nat → Option Nat) : Net := (N.1, fun k => (nS N k, nK N k, nP N k, nQ N k, o k, nD N k), N.2.2)
def lyI (σ : St) (o : Nat → Int32) (n : Nat) : St := (fun a i => if a = 98 ∧ i % 36 = 4 ∧ i / 36 < n then o (i / 36) else rI σ a i, σ.2)
theorem lyI_0 {σ : St} {o : Nat → Int32} : lyI σ o 0 = σ := by
  have e : (fun a i => if a = 98 ∧ i % 36 = 4 ∧ i / 36 < 0 then o (i / 36) else rI σ a i) = σ.1 := funext fun a => funext fun i => if_neg (fun q => absurd q.2.2 (Nat.not_lt_zero _))
  show ((fun a i => if a = 98 ∧ i % 36 = 4 ∧ i / 36 < 0 then o (i / 36) else rI σ a i), σ.2) = σ
  rw [e]
theorem lyI_s {σ : St} {o : Nat → Int32} {n : Nat} {x : Int32} (hx : x = o n) : wI (lyI σ o n) 98 (36 * n + 4) x = lyI σ o (n + 1) := by
  subst hx
  have e : (fun a i => if a = 98 ∧ i = 36 * n + 4 then o n else (if a = 98 ∧ i % 36 = 4 ∧ i / 36 < n then o (i / 36) else rI σ a i)) = (fun a i => if a = 98 ∧ i % 36 = 4 ∧ i / 36 < n + 1 then o (i / 36) else rI σ a i) := funext fun a => funext fun i => by
    by_cases h1 : a = 98 ∧ i = 36 * n + 4
    · have e1 : i / 36 = n := by omega
      rw [if_pos h1, if_pos ⟨h1.1, by omega, by omega⟩, e1]
    · rw [if_neg h1]
      by_cases h2 : a = 98 ∧ i % 36 = 4 ∧ i / 36 < n
      · rw [if_pos h2, if_pos ⟨h2.1, h2.2.1, by omega⟩]
      · rw [if_neg h2, if_neg (fun q => by
          by_cases e2 : i / 36 = n
          · exact h1 ⟨q.1, by omega⟩
          · exact h2 ⟨q.1, q.2.1, by omega⟩)]
  show ((fun a i => if a = 98 ∧ i = 36 * n + 4 then o n else (if a = 98 ∧ i % 36 = 4 ∧ i / 36 < n then o (i / 36) else rI σ a i)), σ.2) = _
  rw [e]
  rfl
theorem rI_lyI {σ : St} {o : Nat → Int32} {n a i : Nat} : rI (lyI σ o n) a i = if a = 98 ∧ i % 36 = 4 ∧ i / 36 < n then o (i / 36) else rI σ a i := rfl
theorem setF_NV {N : Net} (h : NV N) {o : Nat → Option Nat} (ho : ∀ k, k < nM N → ∀ v, o k = some v → v < nS N k) : NV (setF N o) := ⟨h.1, fun k hk => by
  obtain ⟨a1, a2, a3, a4, a5, a6, a7, a8, a9⟩ := h.2 k hk
  exact ⟨a1, a2, a3, a4, a5, ho k hk, a7, a8, a9⟩⟩
theorem setF_MN {σ : St} {N : Net} (h : MN σ 98 N) (h7 : nM N ≤ 7) {o : Nat → Option Nat} : MN (lyI σ (fun k => oI (o k)) (nM N)) 98 (setF N o) := by
  have ne : ∀ i, ¬ i % 36 = 4 → rI (lyI σ (fun k => oI (o k)) (nM N)) 98 i = rI σ 98 i := fun i hi => by rw [rI_lyI, if_neg (fun q => hi q.2.1)]
  refine ⟨?_, fun k hk => ?_⟩
  · rw [rI_lyI, if_neg (fun q => by omega)]; exact h.1
  · obtain ⟨a1, a2, a3, a4, a5, a6, a7, a8⟩ := h.2 k hk
    have hk : k < nM N := hk
    refine ⟨by rw [ne _ (by omega)]; exact a1, by rw [ne _ (by omega)]; exact a2, by rw [ne _ (by omega)]; exact a3, by rw [ne _ (by omega)]; exact a4, ?_, by rw [ne _ (by omega)]; exact a6, fun v hv => by rw [ne _ (by omega)]; exact a7 v hv, fun r hr v hv => by rw [ne _ (by omega)]; exact a8 r hr v hv⟩
    rw [rI_lyI, if_pos ⟨rfl, by omega, by omega⟩, show (36 * k + 4) / 36 = k by omega]
    rfl
theorem ly_l {d j : Nat} {Q : Option PV → St → Prop} {σ : St} {N : Net} {n : Nat} {g : Nat → Int64} {l : Int32} (h : MI σ N) (hj : j < 4) (hg : ∀ i, i < nM N → rL σ 118 (40 * j + i) = g i) (ht : tldB N n g = true) : ∀ r k, k + r = nM N → (At (d + 1) kX9_lay 69 [vR 97 9, vI (nI j), vI l, vI (nI k)] [] (lyI σ (fun i => oI (muT N g i)) k) Q ↔ At (d + 1) kX9_lay 106 [vR 97 9, vI (nI j), vI l, vI (nI (nM N))] [] (lyI σ (fun i => oI (muT N g i)) (nM N)) Q)
  | 0, k, hk => by
    have h7 := MI_7 h
    have : k = nM N := by omega
    subst this
    have hF2 : MF (lyI σ (fun i => oI (muT N g i)) (nM N)) := MF_of h.1 (fun _ _ => rfl) rfl
    have hm : rI (lyI σ (fun i => oI (muT N g i)) (nM N)) 98 252 = nI (nM N) := by rw [rI_lyI, if_neg (fun q => by omega)]; exact MI_m h
    simp (disch := first | exact is2I | exact is2R | omega) only [z_X9_lay_69, z_X9_lay_70, z_X9_lay_71, z_X9_lay_74, m_many hF2, hm, kLe, Nat.le_refl, true_and, Option.toList_some, Option.toList_none, List.cons_append, List.nil_append, is2IT, is2RT, if_true, if_false]
  | r + 1, k, hk => by
    have h7 := MI_7 h
    have hk1 : k < nM N := by omega
    have hF2 : MF (lyI σ (fun i => oI (muT N g i)) k) := MF_of h.1 (fun _ _ => rfl) rfl
    have hm : rI (lyI σ (fun i => oI (muT N g i)) k) 98 252 = nI (nM N) := by rw [rI_lyI, if_neg (fun q => by omega)]; exact MI_m h
    have c : ¬ nM N ≤ k := by omega
    have hr : rL (lyI σ (fun i => oI (muT N g i)) k) 118 (40 * j + k) = g k := hg k hk1
    have hx := (muT_i h.2.2 ht hk1).1
    simp (disch := first | exact is2I | exact is2R | omega) only [z_X9_lay_69, z_X9_lay_70, z_X9_lay_71, z_X9_lay_74, z_X9_lay_77, z_X9_lay_78, z_X9_lay_81, z_X9_lay_83, z_X9_lay_84, z_X9_lay_85, z_X9_lay_86, z_X9_lay_87, z_X9_lay_88, z_X9_lay_91, z_X9_lay_93, z_X9_lay_94, z_X9_lay_95, z_X9_lay_96, z_X9_lay_97, z_X9_lay_98, z_X9_lay_99, z_X9_lay_100, m_many hF2, hm, mf_r1 hF2, mf_r2 hF2, mf_r3 hF2, mf_r5 hF2, mf_r10 hF2, mf_r11 hF2, mf_r13 hF2, mf_r15 hF2, mf_r16 hF2, mf_r19 hF2, mf_r21 hF2, mf_r22 hF2, mf_r23 hF2, mf_r24 hF2, mf_r25 hF2, mf_r26 hF2, mf_r27 hF2, mf_r29 hF2, mf_r30 hF2, mf_r31 hF2, mf_r32 hF2, mf_s98 hF2, mf_s99 hF2, mf_s100 hF2, mf_s101 hF2, mf_s102 hF2, mf_s103 hF2, mf_s104 hF2, mf_s105 hF2, mf_s106 hF2, mf_s107 hF2, mf_s108 hF2, mf_s109 hF2, mf_s110 hF2, mf_s111 hF2, mf_s112 hF2, mf_s113 hF2, mf_s114 hF2, mf_s115 hF2, mf_s116 hF2, mf_s117 hF2, mf_s118 hF2, kLe, c, kLM, kAL, nI_add, kIn, kCl, hr, hx, true_and, Option.toList_some, Option.toList_none, List.cons_append, List.nil_append, is2IT, is2RT, if_true, if_false]
    rw [z_X9_lay_103, lyI_s (o := fun i => oI (muT N g i)) rfl, ly_l h hj hg ht r (k + 1) (by omega)]
def layF (N : Net) (f : Shs) (s t : Int32) : Int32 × Net := match pN 4 s with
  | none => (-2, N)
  | some j => match pN 3 t with
    | none => (-2, N)
    | some u => match f j with
      | none => (-11, N)
      | some e => if e.1 = u then (if tldB N e.2.1 e.2.2 = true then (nI (cntR (fndP (setF N (muT N e.2.2))) (nM N) 0 0), setF N (muT N e.2.2)) else (-3, N)) else (-13, N)
theorem m_lay {d : Nat} {Q : Option PV → St → Prop} {σ : St} {S : MSt} {s t : Int32} (h : MS σ S) (hQ : ∀ σ', MS σ' ((layF S.1 S.2.2.2 s t).2, S.2) → Fr9 σ σ' → Q (some (vI (layF S.1 S.2.2.2 s t).1)) σ') : Ca (d + 3) 205 [vR 97 9, vI s, vI t] σ Q := by
  have hM := h.1
  have h7 := MI_7 hM
  have hF := hM.1
  have hS := MS_sh h
  rw [ca_at (K := kX9_lay) (ls := [vR 97 9, vI s, vI t, vU]) rfl rfl rfl]
  unfold layF at hQ
  cases hp : pN 4 s with
  | none =>
    rw [hp] at hQ
    simp (disch := first | exact is2I | exact is2R | omega) only [z_X9_lay_0, z_X9_lay_1, z_X9_lay_4, z_X9_lay_19, z_X9_lay_21, m_isSheet, b2_0, pN_none.mp hp, not_false_eq_true, true_and, Option.toList_some, Option.toList_none, List.cons_append, List.nil_append, is2IT, is2RT, if_true, if_false]
    exact hQ σ h Fr9_rf
  | some j =>
    rw [hp] at hQ
    obtain ⟨hj, rfl⟩ := (pN_some (by decide)).mp hp
    have hP : 0 ≤ nI j ∧ nI j < nI 4 := (lt_nI (by decide)).mpr ⟨j, hj, rfl⟩
    dsimp only at hQ
    simp (disch := first | exact is2I | exact is2R | omega) only [z_X9_lay_0, z_X9_lay_1, z_X9_lay_4, z_X9_lay_7, z_X9_lay_8, z_X9_lay_9, z_X9_lay_10, z_X9_lay_13, z_X9_lay_16, m_isSheet, b2_0, hP, and_self, not_true_eq_false, m_in, i64_0, i64_2', true_and, Option.toList_some, Option.toList_none, List.cons_append, List.nil_append, is2IT, is2RT, if_true, if_false]
    cases hu : pN 3 t with
    | none =>
      rw [hu] at hQ
      rw [if_pos (pN_none.mp hu)]
      simp only [z_X9_lay_19, z_X9_lay_21, true_and, Option.toList_some, Option.toList_none, List.cons_append, List.nil_append, is2IT, is2RT, if_true, if_false]
      exact hQ σ h Fr9_rf
    | some u =>
      rw [hu] at hQ
      obtain ⟨hu3, rfl⟩ := (pN_some (by decide)).mp hu
      rw [if_neg (fun q => q ((lt_nI (by decide)).mpr ⟨u, hu3, rfl⟩))]
      dsimp only at hQ
      cases hf : S.2.2.2 j with
      | none =>
        rw [hf] at hQ
        simp (disch := first | exact is2I | exact is2R | omega) only [z_X9_lay_22, z_X9_lay_23, z_X9_lay_26, z_X9_lay_27, z_X9_lay_28, z_X9_lay_44, z_X9_lay_45, z_X9_lay_48, z_X9_lay_49, z_X9_lay_50, z_X9_lay_53, z_X9_lay_55, mf_r1 hF, mf_r2 hF, mf_r3 hF, mf_r5 hF, mf_r10 hF, mf_r11 hF, mf_r13 hF, mf_r15 hF, mf_r16 hF, mf_r19 hF, mf_r21 hF, mf_r22 hF, mf_r23 hF, mf_r24 hF, mf_r25 hF, mf_r26 hF, mf_r27 hF, mf_r29 hF, mf_r30 hF, mf_r31 hF, mf_r32 hF, mf_s98 hF, mf_s99 hF, mf_s100 hF, mf_s101 hF, mf_s102 hF, mf_s103 hF, mf_s104 hF, mf_s105 hF, mf_s106 hF, mf_s107 hF, mf_s108 hF, mf_s109 hF, mf_s110 hF, mf_s111 hF, mf_s112 hF, mf_s113 hF, mf_s114 hF, mf_s115 hF, mf_s116 hF, mf_s117 hF, mf_s118 hF, kIn, kCl, sh_none hS hj hf, true_and, Option.toList_some, Option.toList_none, List.cons_append, List.nil_append, is2IT, is2RT, if_true, if_false]
        exact hQ σ h Fr9_rf
      | some e =>
        obtain ⟨t, n, g⟩ := e
        have ha := sh_at hS hj
        rw [hf] at ha
        obtain ⟨a1, a2, a3, a4, a5, a6⟩ := ha
        have n10 : ((1 : Int32) = 0) = False := eq_false (by decide)
        rw [hf] at hQ
        dsimp only at hQ
        simp (disch := first | exact is2I | exact is2R | omega) only [z_X9_lay_22, z_X9_lay_23, z_X9_lay_26, z_X9_lay_27, z_X9_lay_28, z_X9_lay_31, z_X9_lay_32, z_X9_lay_35, z_X9_lay_36, z_X9_lay_37, z_X9_lay_38, mf_r1 hF, mf_r2 hF, mf_r3 hF, mf_r5 hF, mf_r10 hF, mf_r11 hF, mf_r13 hF, mf_r15 hF, mf_r16 hF, mf_r19 hF, mf_r21 hF, mf_r22 hF, mf_r23 hF, mf_r24 hF, mf_r25 hF, mf_r26 hF, mf_r27 hF, mf_r29 hF, mf_r30 hF, mf_r31 hF, mf_r32 hF, mf_s98 hF, mf_s99 hF, mf_s100 hF, mf_s101 hF, mf_s102 hF, mf_s103 hF, mf_s104 hF, mf_s105 hF, mf_s106 hF, mf_s107 hF, mf_s108 hF, mf_s109 hF, mf_s110 hF, mf_s111 hF, mf_s112 hF, mf_s113 hF, mf_s114 hF, mf_s115 hF, mf_s116 hF, mf_s117 hF, mf_s118 hF, kIn, kCl, a1, a3, n10, kEq, true_and, Option.toList_some, Option.toList_none, List.cons_append, List.nil_append, is2IT, is2RT, if_true, if_false]
        by_cases ctu : t = u
        · rw [if_pos ctu] at hQ ⊢
          simp (disch := first | exact is2I | exact is2R | omega) only [z_X9_lay_44, z_X9_lay_45, z_X9_lay_48, z_X9_lay_49, z_X9_lay_50, z_X9_lay_53, z_X9_lay_55, z_X9_lay_56, z_X9_lay_57, z_X9_lay_58, z_X9_lay_61, mf_r1 hF, mf_r2 hF, mf_r3 hF, mf_r5 hF, mf_r10 hF, mf_r11 hF, mf_r13 hF, mf_r15 hF, mf_r16 hF, mf_r19 hF, mf_r21 hF, mf_r22 hF, mf_r23 hF, mf_r24 hF, mf_r25 hF, mf_r26 hF, mf_r27 hF, mf_r29 hF, mf_r30 hF, mf_r31 hF, mf_r32 hF, mf_s98 hF, mf_s99 hF, mf_s100 hF, mf_s101 hF, mf_s102 hF, mf_s103 hF, mf_s104 hF, mf_s105 hF, mf_s106 hF, mf_s107 hF, mf_s108 hF, mf_s109 hF, mf_s110 hF, mf_s111 hF, mf_s112 hF, mf_s113 hF, mf_s114 hF, mf_s115 hF, mf_s116 hF, mf_s117 hF, mf_s118 hF, kIn, kCl, a1, n10, m_isTold hM hj ⟨a1, a2, a3, a4, a5, a6⟩, b2_0, true_and, Option.toList_some, Option.toList_none, List.cons_append, List.nil_append, is2IT, is2RT, if_true, if_false]
          by_cases ct : tldB S.1 n g = true
          · rw [if_pos ct] at hQ
            rw [if_neg (fun q => q ct)]
            have en := tldB_n ct
            have l1 := @ly_l (d + 1) j Q σ S.1 n g (nI u) hM hj (fun i hi => a6 i (by omega)) ct (nM S.1) 0 (by omega)
            rw [lyI_0] at l1
            simp (disch := first | exact is2I | exact is2R | omega) only [z_X9_lay_67, z_X9_lay_68, true_and, Option.toList_some, Option.toList_none, List.cons_append, List.nil_append, is2IT, is2RT, if_true, if_false]
            refine l1.mpr ?_
            have nv := setF_NV hM.2.2 (o := muT S.1 g) (fun k hk => (muT_i hM.2.2 ct hk).2)
            have mn := setF_MN (o := muT S.1 g) hM.2.1 h7
            have m2 : MI (lyI σ (fun i => oI (muT S.1 g i)) (nM S.1)) (setF S.1 (muT S.1 g)) := ⟨MF_of hF (fun _ _ => rfl) rfl, mn, nv⟩
            simp (disch := first | exact is2I | exact is2R | omega) only [z_X9_lay_106, z_X9_lay_107, z_X9_lay_110, m_founds m2, true_and, Option.toList_some, Option.toList_none, List.cons_append, List.nil_append, is2IT, is2RT, if_true, if_false]
            exact hQ _ (MS_web h (fun a ha => funext fun i => by rw [rI_lyI, if_neg (fun q => ha q.1)]) (fun _ => rfl) (fun _ _ => rfl) rfl mn nv) ⟨fun a ha => funext fun i => by rw [rI_lyI, if_neg (fun q => by omega)], fun _ _ => rfl, fun _ _ => rfl, rfl, rfl⟩
          · rw [if_neg ct] at hQ
            rw [if_pos ct]
            simp only [z_X9_lay_64, z_X9_lay_66, true_and, Option.toList_some, Option.toList_none, List.cons_append, List.nil_append, is2IT, is2RT, if_true, if_false]
            exact hQ σ h Fr9_rf
        · rw [if_neg ctu] at hQ ⊢
          simp only [z_X9_lay_41, z_X9_lay_43, true_and, Option.toList_some, Option.toList_none, List.cons_append, List.nil_append, is2IT, is2RT, if_true, if_false]
          exact hQ σ h Fr9_rf
