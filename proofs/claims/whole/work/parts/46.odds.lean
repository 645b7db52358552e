/-! ===== the weights together ===== -/
def wsm (N : Net) (mu : Nat → Option Nat) : Nat → Nat → Wd → Nat
  | 0, _, _ => 1
  | f + 1, k, ω => ((List.range' 0 (nS N k)).map fun v => if oV (mu k) v = true then facW N ω k v * wsm N mu f (k + 1) (up ω k v) else 0).sum
def w0 : Wd := fun _ => 0
def WT (N : Net) (mu : Nat → Option Nat) : Nat := wsm N mu (nM N) 0 w0
def LV (N : Net) (mu : Nat → Option Nat) : List (Wd × Nat) := lvs N mu (nM N) 0 w0 1
def sums (L : List (Wd × Nat)) : Nat := (L.map fun e => e.2).sum
theorem sums_app {a b : List (Wd × Nat)} : sums (a ++ b) = sums a + sums b := by unfold sums; rw [List.map_append, List.sum_append]
theorem lvs_sum {N : Net} {mu : Nat → Option Nat} : ∀ f k ω w, sums (lvs N mu f k ω w) = w * wsm N mu f k ω := by
  intro f
  induction f with
  | zero =>
    intro k ω w
    unfold lvs wsm
    by_cases c : w = 0
    · rw [if_pos c, c]; rfl
    · rw [if_neg c]; simp [sums]
  | succ f ih =>
    intro k ω w
    unfold lvs wsm
    by_cases c : w = 0
    · rw [if_pos c, c, Nat.zero_mul]; rfl
    · rw [if_neg c]
      have key : ∀ l : List Nat, sums (l.flatMap fun v => if oV (mu k) v = true then lvs N mu f (k + 1) (up ω k v) (w * facW N ω k v) else []) = w * (l.map fun v => if oV (mu k) v = true then facW N ω k v * wsm N mu f (k + 1) (up ω k v) else 0).sum := by
        intro l
        induction l with
        | nil => rfl
        | cons v l il =>
          rw [List.flatMap_cons, sums_app, il, List.map_cons, List.sum_cons, Nat.mul_add]
          congr 1
          split
          · rw [ih, Nat.mul_assoc]
          · rw [Nat.mul_zero]; rfl
      exact key _
theorem LV_sum {N : Net} {mu : Nat → Option Nat} : sums (LV N mu) = WT N mu := by unfold LV WT; rw [lvs_sum, Nat.one_mul]
theorem std_sum {m : Nat} {ask : Option Nat} : ∀ (L : List (Wd × Nat)) (A : Acc), (L.foldl (std m ask) A).1 = A.1 + sums L
  | [], A => rfl
  | e :: L, A => by
    rw [List.foldl_cons, std_sum L]
    show A.1 + e.2 + sums L = A.1 + (e.2 + sums L)
    omega
theorem sum_le3 {F : Nat → Nat} {B s : Nat} (hs : s ≤ 3) (h : ∀ v, v < s → F v ≤ B) : ((List.range' 0 s).map F).sum ≤ 3 * B := by
  rcases (show s = 0 ∨ s = 1 ∨ s = 2 ∨ s = 3 by omega) with rfl | rfl | rfl | rfl
  · exact Nat.zero_le _
  · have := h 0 (by decide)
    show F 0 + 0 ≤ _; omega
  · have := h 0 (by decide); have := h 1 (by decide)
    show F 0 + (F 1 + 0) ≤ _; omega
  · have := h 0 (by decide); have := h 1 (by decide); have := h 2 (by decide)
    show F 0 + (F 1 + (F 2 + 0)) ≤ _; omega
theorem wsm_le {N : Net} (h : NV N) {mu : Nat → Option Nat} : ∀ f k, k + f = nM N → ∀ ω, (∀ i, i < k → ω i < nS N i) → wsm N mu f k ω ≤ 324 ^ f := by
  intro f
  induction f with
  | zero => intro k _ ω _; exact Nat.le_refl 1
  | succ f ih =>
    intro k hk ω hw
    have hkm : k < nM N := by omega
    have hs := NV_sv h hkm
    unfold wsm
    have := sum_le3 (F := fun v => if oV (mu k) v = true then facW N ω k v * wsm N mu f (k + 1) (up ω k v) else 0) (B := 108 * 324 ^ f) (s := nS N k) (by omega) (fun v hv => by
      split
      · refine Nat.mul_le_mul (facW_108 h hkm hw (by omega)) (ih (k + 1) (by omega) _ (fun i hi => ?_))
        by_cases e : i = k
        · rw [e, up_s]; exact hv
        · rw [up_n e]; exact hw i (by omega)
      · exact Nat.zero_le _)
    rw [Nat.pow_succ]
    omega
theorem WT_le {N : Net} (h : NV N) {mu : Nat → Option Nat} : WT N mu ≤ 324 ^ 7 := Nat.le_trans (wsm_le h (nM N) 0 (by omega) w0 (fun i hi => absurd hi (Nat.not_lt_zero i))) (Nat.pow_le_pow_right (by decide) h.1)
theorem WT_63 {N : Net} (h : NV N) {mu : Nat → Option Nat} : WT N mu < 2 ^ 63 := Nat.lt_of_le_of_lt (WT_le h) (by decide)
/-- the reference at rest, with its scratch -/
def RQ (σ : St) (N : Net) : Prop := MI σ N ∧ MUST σ (fun _ => none) ∧ rI σ 97 20 = -1
theorem MS_RQ {σ : St} {S : MSt} (h : MS σ S) : RQ σ S.1 := ⟨h.1, fun i hi => h.2.2.2.2.1 i hi, h.2.2.2.2.2.1⟩
theorem RQ_sc {σ σ' : St} {N : Net} (h : RQ σ N) (hs : Sc σ σ') : RQ σ' N := ⟨MI_fm h.1 hs (fun _ => rfl), fun i hi => by rw [hs.1 106 i rfl]; exact h.2.1 i hi, by rw [hs.1 97 20 rfl]; exact h.2.2⟩
theorem Sc_w {σ σ' : St} (h : Fm Iw Lw σ σ') : Sc σ σ' := Fm_mono h (fun a i q => by
    have q := of_decide_eq_true q
    unfold I9
    exact decide_eq_true (by omega)) (fun a q => q)
/-- all: sum, greatest, likeliest, by twos of all worlds -/
theorem m_all {d : Nat} {Q : Option PV → St → Prop} {σ : St} {N : Net} {mu : Nat → Option Nat} {ask : Option Nat} {T : Nat → Nat} (hmu : ∀ i v, mu i = some v → v < 3) (ha : ∀ a, ask = some a → a < nM N) (h : MI σ N) (hM : MUST σ mu) (hk : rI σ 97 20 = oI ask) (hT : ∀ a, ask = some a → ∀ i, i < 63 → rL σ 108 i = lN (T i))
    (hQ : ∀ σ', Fm Iw Lw σ σ' → RA σ' (nM N) ask ((LV N mu).foldl (std (nM N) ask) (0, 0, w0, T)) → Q (some (vL (lN (WT N mu)))) σ') : Ca (d + 14) 164 [vR 97 9] σ Q := by
  have h7 := MI_7 h
  rw [ca_at (K := kX9_all) (ls := [vR 97 9]) rfl rfl rfl]
  simp only [z_X9_all_0, z_X9_all_1, z_X9_all_2, z_X9_all_5, z_X9_all_6, z_X9_all_7, z_X9_all_10, z_X9_all_11, z_X9_all_12, z_X9_all_13, z_X9_all_16, z_X9_all_17, z_X9_all_20, true_and, Option.toList_some, Option.toList_none, List.cons_append, List.nil_append, is2IT, is2RT, if_true, if_false]
  have e : d + 13 = (d + 7 - nM N) + nM N + 6 := by omega
  rw [e]
  refine m_goes hmu ha (nM N) 0 (by omega) _ _ _ w0 1 (0, 0, w0, T) h hM hk (fun i hi => absurd hi (Nat.not_lt_zero i)) ⟨?_, ?_, Nat.zero_le _, fun q => absurd q (Nat.lt_irrefl 0), fun a q i hi => ?_⟩ (Nat.le_refl 1) (fun σ' q1 q2 q3 => ?_)
  · rw [rL_wL, if_neg (by decide), rL_wL, if_pos ⟨rfl, rfl⟩]; rfl
  · rw [rL_wL, if_pos ⟨rfl, rfl⟩]; rfl
  · rw [rL_wL, if_neg (fun z => absurd z.1 (by decide)), rL_wL, if_neg (fun z => absurd z.1 (by decide))]
    exact hT a q i hi
  · have f2 : Fm Iw Lw σ σ' := Fm_tr (Fm_tr (Fm_wL rfl) (Fm_wL rfl)) q1
    have es : rL σ' 97 17 = lN (WT N mu) := by
      rw [q2.1, std_sum]
      show lN (0 + sums (LV N mu)) = _
      rw [Nat.zero_add, LV_sum]
    simp only [z_X9_all_0, z_X9_all_1, z_X9_all_2, z_X9_all_5, z_X9_all_6, z_X9_all_7, z_X9_all_10, z_X9_all_11, z_X9_all_12, z_X9_all_13, z_X9_all_16, z_X9_all_17, z_X9_all_20, es, true_and, Option.toList_some, Option.toList_none, List.cons_append, List.nil_append, is2IT, is2RT, if_true, if_false]
    exact hQ σ' f2 q2
def no1 : Nat → Option Nat := fun _ => none
/-- all, at rest -/
theorem m_all0 {d : Nat} {Q : Option PV → St → Prop} {σ : St} {N : Net} (h : RQ σ N) (hQ : ∀ σ', Sc σ σ' → Q (some (vL (lN (WT N no1)))) σ') : Ca (d + 14) 164 [vR 97 9] σ Q :=
  m_all (mu := no1) (ask := none) (T := fun _ => 0) (fun i v q => by cases q) (fun a q => by cases q) h.1 h.2.1 h.2.2 (fun a q => by cases q) (fun σ' q1 _ => hQ σ' (Sc_w q1))
theorem m_weight {d : Nat} {Q : Option PV → St → Prop} {σ : St} {N : Net} (h : RQ σ N) (hQ : ∀ σ', Sc σ σ' → Q (some (vL (lN (WT N no1)))) σ') : Ca (d + 15) 166 [vR 97 9] σ Q := by
  rw [ca_at (K := kX9_weight) (ls := [vR 97 9]) rfl rfl rfl]
  simp only [z_X9_weight_0, z_X9_weight_1, z_X9_weight_4, true_and, Option.toList_some, Option.toList_none, List.cons_append, List.nil_append, is2IT, is2RT, if_true, if_false]
  refine m_all0 h (fun σ' q => ?_)
  simp only [z_X9_weight_0, z_X9_weight_1, z_X9_weight_4, true_and, Option.toList_some, Option.toList_none, List.cons_append, List.nil_append, is2IT, is2RT, if_true, if_false]
  exact hQ σ' q
/-! lowest terms -/
theorem lN_rem {a b : Nat} (ha : a < 2 ^ 63) (hb : b < 2 ^ 63) (h0 : ¬ b = 0) : lN a - lN a / lN b * lN b = lN (a % b) := pk_lRem ha (by omega) hb
theorem gcd_l1 {d : Nat} {Q : Option PV → St → Prop} {σ : St} {l0 l1 l4 : PV} (hl : is2 l4 = false) : ∀ n a b, b ≤ n → a < 2 ^ 63 → b < 2 ^ 63 → ∀ l9, (∀ l9, At d kX9_lowest 31 [l0, vU, l1, vU, l4, vL (lN (Nat.gcd a b)), vU, vL 0, vU, l9, vU] [] σ Q) → At d kX9_lowest 6 [l0, vU, l1, vU, l4, vL (lN a), vU, vL (lN b), vU, l9, vU] [] σ Q := by
  intro n
  induction n with
  | zero =>
    intro a b hn ha hb l9 hq
    have b0 : b = 0 := Nat.le_zero.mp hn
    subst b0
    have := hq l9
    rw [Nat.gcd_zero_right] at this
    simp only [z_X9_lowest_6, z_X9_lowest_8, z_X9_lowest_9, z_X9_lowest_10, lg_cmp_eq, true_and, Option.toList_some, Option.toList_none, List.cons_append, List.nil_append, is2IT, is2RT, if_true, if_false]
    rw [if_pos (show lN 0 = 0 from rfl)]
    exact this
  | succ n ih =>
    intro a b hn ha hb l9 hq
    by_cases c : b = 0
    · exact ih a b (by omega) ha hb l9 hq
    · have e0 : (lN b = 0) = False := eq_false (fun q => c ((pk_lEQ (b := 0) hb (by decide)).mp q))
      have hm : a % b < b := Nat.mod_lt _ (by omega)
      simp only [z_X9_lowest_6, z_X9_lowest_8, z_X9_lowest_9, z_X9_lowest_10, z_X9_lowest_13, z_X9_lowest_15, z_X9_lowest_17, z_X9_lowest_18, z_X9_lowest_20, z_X9_lowest_22, z_X9_lowest_24, z_X9_lowest_26, lg_cmp_eq, e0, decide_false, Bool.not_false, lN_rem ha hb c, hl, true_and, Option.toList_some, Option.toList_none, List.cons_append, List.nil_append, is2IT, is2RT, if_true, if_false]
      rw [z_X9_lowest_28]
      refine ih b (a % b) (by omega) hb (by omega) _ (fun l9 => ?_)
      have := hq l9
      rw [Nat.gcd_comm b (a % b), ← Nat.gcd_rec, Nat.gcd_comm b a]
      exact this
def lowS (a b : Nat) (line : Int32) : Int64 := lN ((if line = 0 then a else b) / Nat.gcd a b)
theorem m_lowest {d : Nat} {Q : Option PV → St → Prop} {σ : St} {a b : Nat} {line : Int32} (ha : a < 2 ^ 63) (hb : b < 2 ^ 63) (h0 : ¬ b = 0) (hQ : Q (some (vL (lowS a b line))) σ) : Ca (d + 1) 168 [vL (lN a), vL (lN b), vI line] σ Q := by
  rw [ca_at (K := kX9_lowest) (ls := [vL (lN a), vU, vL (lN b), vU, vI line, vU, vU, vU, vU, vU, vU]) rfl rfl rfl]
  simp only [z_X9_lowest_0, z_X9_lowest_1, z_X9_lowest_3, z_X9_lowest_4, true_and, Option.toList_some, Option.toList_none, List.cons_append, List.nil_append, is2IT, is2RT, if_true, if_false]
  refine gcd_l1 rfl b a b (Nat.le_refl b) ha hb vU (fun l9 => ?_)
  have g0 : 0 < Nat.gcd a b := Nat.gcd_pos_of_pos_right a (by omega)
  have gb : Nat.gcd a b ≤ b := Nat.gcd_le_right a (by omega)
  have e0 : (lN (Nat.gcd a b) = 0) = False := eq_false (fun q => by have := (pk_lEQ (b := 0) (show Nat.gcd a b < 2 ^ 63 by omega) (by decide)).mp q; omega)
  unfold lowS at hQ
  simp only [z_X9_lowest_31, z_X9_lowest_33, z_X9_lowest_36, z_X9_lowest_37, z_X9_lowest_39, z_X9_lowest_40, z_X9_lowest_43, z_X9_lowest_44, z_X9_lowest_46, z_X9_lowest_47, e0, decide_false, Bool.not_false, true_and, Option.toList_some, Option.toList_none, List.cons_append, List.nil_append, is2IT, is2RT, if_true, if_false]
  by_cases c : line = 0
  · rw [if_pos c] at hQ ⊢
    rw [pk_lDiv ha g0 (by omega)]
    exact hQ
  · rw [if_neg c] at hQ ⊢
    rw [pk_lDiv hb g0 (by omega)]
    exact hQ
/-- a line of above over below -/
def oddS (a b : Nat) (line : Int32) : Int64 := if b = 0 then -3 else lowS a b line
theorem free_l {d : Nat} {Q : Option PV → St → Prop} {σ : St} (hF : MF σ) : ∀ f n, n + f = 7 → (At d kX9_free 2 [vR 97 9, vI (nI n)] [] (fI σ 106 0 n (fun _ => -1)) Q ↔ Q none (fI σ 106 0 7 (fun _ => -1)))
  | 0, n, hn => by
    have : n = 7 := by omega
    subst this
    simp (disch := first | exact is2I | exact is2R | omega) only [z_X9_free_2, z_X9_free_3, z_X9_free_5, z_X9_free_8, z_X9_free_9, z_X9_free_12, z_X9_free_13, z_X9_free_14, z_X9_free_15, z_X9_free_18, z_X9_free_21, kLLe, Nat.le_refl, true_and, Option.toList_some, Option.toList_none, List.cons_append, List.nil_append, is2IT, is2RT, if_true, if_false]
  | f + 1, n, hn => by
    have hF2 : MF (fI σ 106 0 n (fun _ => -1)) := MF_of hF (fun _ _ => rfl) rfl
    have c : ¬ (7 ≤ n) := by omega
    simp (disch := first | exact is2I | exact is2R | omega) only [z_X9_free_2, z_X9_free_3, z_X9_free_5, z_X9_free_8, z_X9_free_9, z_X9_free_12, z_X9_free_13, z_X9_free_14, z_X9_free_15, mf_r1 hF2, mf_r2 hF2, mf_r3 hF2, mf_r5 hF2, mf_r10 hF2, mf_r11 hF2, mf_r13 hF2, mf_r15 hF2, mf_r16 hF2, mf_r19 hF2, mf_r21 hF2, mf_r22 hF2, mf_r23 hF2, mf_r24 hF2, mf_r25 hF2, mf_r26 hF2, mf_r27 hF2, mf_r29 hF2, mf_r30 hF2, mf_r31 hF2, mf_r32 hF2, mf_s98 hF2, mf_s99 hF2, mf_s100 hF2, mf_s101 hF2, mf_s102 hF2, mf_s103 hF2, mf_s104 hF2, mf_s105 hF2, mf_s106 hF2, mf_s107 hF2, mf_s108 hF2, mf_s109 hF2, mf_s110 hF2, mf_s111 hF2, mf_s112 hF2, mf_s113 hF2, mf_s114 hF2, mf_s115 hF2, mf_s116 hF2, mf_s117 hF2, mf_s118 hF2, kLLe, c, kIn, kCl, kAL, true_and, Option.toList_some, Option.toList_none, List.cons_append, List.nil_append, is2IT, is2RT, if_true, if_false]
    rw [z_X9_free_18, fI_s0 (f := fun _ => -1) rfl, free_l hF f (n + 1) (by omega)]
theorem m_free {d : Nat} {Q : Option PV → St → Prop} {σ : St} (hF : MF σ) : Ca (d + 1) 165 [vR 97 9] σ Q ↔ Q none (fI σ 106 0 7 (fun _ => -1)) := by
  rw [ca_at (K := kX9_free) (ls := [vR 97 9, vU]) rfl rfl rfl]
  have l := @free_l d Q σ hF 7 0 rfl
  rw [fI_0] at l
  simp only [z_X9_free_0, z_X9_free_1, true_and, Option.toList_some, Option.toList_none, List.cons_append, List.nil_append, is2IT, is2RT, if_true, if_false]
  exact l
/-- the scratch, with what must be -/
def I9m (a i : Nat) : Bool := I9 a i || (a.beq 106 && Nat.blt i 7)
theorem I9_m {a i : Nat} (h : I9 a i = true) : I9m a i = true := by unfold I9m; rw [h]; rfl
/-- what must be is set, and is free again at the end -/
theorem Sc_of {σ σ' : St} (h : Fm I9m L9 σ σ') (h0 : MUST σ no1) (h1 : MUST σ' no1) : Sc σ σ' := ⟨fun a i q => by
  by_cases c : a = 106 ∧ i < 7
  · rw [c.1, h1 i c.2, h0 i c.2]
  · refine h.1 a i ?_
    unfold I9m
    rw [q]
    cases e : a.beq 106 with
    | false => rfl
    | true =>
      cases e2 : Nat.blt i 7 with
      | false => rfl
      | true => exact absurd ⟨Nat.eq_of_beq_eq_true e, Nat.le_of_ble_eq_true e2⟩ c, h.2⟩
theorem m_oddsNow {d : Nat} {Q : Option PV → St → Prop} {σ : St} {N : Net} {mu : Nat → Option Nat} {line : Int32} (hmu : ∀ i v, mu i = some v → v < 3) (h : MI σ N) (hM : MUST σ mu) (hk : rI σ 97 20 = -1)
    (hQ : ∀ σ', Fm I9m L9 σ σ' → MUST σ' no1 → Q (some (vL (oddS (WT N mu) (WT N no1) line))) σ') : Ca (d + 15) 169 [vR 97 9, vI line] σ Q := by
  have a63 := WT_63 h.2.2 (mu := mu)
  have b63 := WT_63 h.2.2 (mu := no1)
  rw [ca_at (K := kX9_oddsNow) (ls := [vR 97 9, vI line, vU, vU, vU, vU]) rfl rfl rfl]
  simp only [z_X9_oddsNow_0, z_X9_oddsNow_1, true_and, Option.toList_some, Option.toList_none, List.cons_append, List.nil_append, is2IT, is2RT, if_true, if_false]
  refine m_all (mu := mu) (ask := none) (T := fun _ => 0) hmu (fun a q => by cases q) h hM hk (fun a q => by cases q) (fun σ1 q1 _ => ?_)
  have m1 := MI_fm h q1 (fun _ => rfl)
  simp only [z_X9_oddsNow_4, z_X9_oddsNow_5, z_X9_oddsNow_6, true_and, Option.toList_some, Option.toList_none, List.cons_append, List.nil_append, is2IT, is2RT, if_true, if_false]
  refine (m_free (d := d + 13) m1.1).mpr ?_
  simp only [z_X9_oddsNow_9, z_X9_oddsNow_10, true_and, Option.toList_some, Option.toList_none, List.cons_append, List.nil_append, is2IT, is2RT, if_true, if_false]
  have m2 : MI (fI σ1 106 0 7 (fun _ => -1)) N := MI_fI m1 (by decide)
  have M2 : MUST (fI σ1 106 0 7 (fun _ => -1)) no1 := fun i hi => by rw [rI_fI, if_pos ⟨rfl, by omega, by omega⟩]; rfl
  have k2 : rI (fI σ1 106 0 7 (fun _ => -1)) 97 20 = -1 := by rw [rI_fI_n (by decide), q1.1 97 20 rfl]; exact hk
  refine m_all0 ⟨m2, M2, k2⟩ (fun σ' q2 => ?_)
  have e0 : (lN (WT N no1) = 0) = (WT N no1 = 0) := propext (pk_lEQ (b := 0) b63 (by decide))
  have hf : Fm I9m L9 σ σ' := Fm_tr (Fm_tr (Fm_mono (Sc_w q1) (fun a i => I9_m) (fun _ q => q)) (Fm_fI (fun i h0 h1 => by unfold I9m; rw [show Nat.beq 106 106 = true from rfl, show Nat.blt i 7 = true from Nat.ble_eq.mpr (by omega)]; exact Bool.or_true _))) (Fm_mono q2 (fun a i => I9_m) (fun _ q => q))
  have hm' : MUST σ' no1 := fun i hi => by rw [q2.1 106 i rfl]; exact M2 i hi
  have fin := hQ σ' hf hm'
  unfold oddS at fin
  simp only [z_X9_oddsNow_13, z_X9_oddsNow_15, z_X9_oddsNow_17, z_X9_oddsNow_18, z_X9_oddsNow_19, lg_cmp_eq, e0, true_and, Option.toList_some, Option.toList_none, List.cons_append, List.nil_append, is2IT, is2RT, if_true, if_false]
  by_cases c : WT N no1 = 0
  · rw [if_pos c] at fin ⊢
    simp only [z_X9_oddsNow_22, z_X9_oddsNow_25, z_X9_oddsNow_28, z_X9_oddsNow_29, z_X9_oddsNow_31, z_X9_oddsNow_32, z_X9_oddsNow_35, true_and, Option.toList_some, Option.toList_none, List.cons_append, List.nil_append, is2IT, is2RT, if_true, if_false]
    exact fin
  · rw [if_neg c] at fin ⊢
    simp only [z_X9_oddsNow_28, z_X9_oddsNow_29, z_X9_oddsNow_31, z_X9_oddsNow_32, true_and, Option.toList_some, Option.toList_none, List.cons_append, List.nil_append, is2IT, is2RT, if_true, if_false]
    refine m_lowest (d := d + 13) a63 b63 c ?_
    simp only [z_X9_oddsNow_35, true_and, Option.toList_some, Option.toList_none, List.cons_append, List.nil_append, is2IT, is2RT, if_true, if_false]
    exact fin
