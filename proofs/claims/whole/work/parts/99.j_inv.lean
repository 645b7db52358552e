/-! ===== the state between two calls of the law's loop ===== -/
def S00 : MSt := ((0, fun _ => (0, 0, none, none, none, none), fun _ _ => 0, fun _ _ _ => 0), none, [], fun _ => none)
def Iz (σ : St) : Prop := ((sS σ).map Prod.snd).sum + 70 * 119 ≤ 5000 + 70 * (sS σ).length
/-- the class stands with S', the reference with S -/
def LH (X : Nat × (Nat → Int32)) (σ : St) (S S' : MSt) : Prop := XS σ S' ∧ MS σ S ∧ SB0 σ ∧ sX σ = X ∧ Iz σ
def LI (X : Nat × (Nat → Int32)) (σ : St) (S : MSt) : Prop := LH X σ S S
theorem MS_up {σ σ' : St} {S : MSt} (h : MS σ S) (r : ∀ a i, 97 ≤ a → rI σ' a i = rI σ a i) (rl : ∀ a i, 97 ≤ a → rL σ' a i = rL σ a i) (hR : ∀ a b, rR σ' a b = rR σ a b) (hs : sS σ' = sS σ) : MS σ' S := by
  obtain ⟨⟨a1, a2, a3⟩, b, c, d, e, f, g⟩ := h
  have mn : ∀ {a : Nat} {N : Net}, 97 ≤ a → MN σ a N → MN σ' a N := fun {a N} ha hm => by
    have q : rI σ' a = rI σ a := funext fun i => r a i ha
    unfold MN at hm ⊢
    rw [q]; exact hm
  refine ⟨⟨⟨fun p hp => by rw [hR]; exact a1.1 p hp, fun p hp => by unfold sh; rw [hs]; exact a1.2 p hp⟩, mn (by decide) a2, a3⟩, by rw [r 97 4 (by decide)]; exact b, fun K hK => ⟨mn (by decide) (c K hK).1, (c K hK).2⟩, ⟨by rw [r 97 6 (by decide)]; exact d.1, d.2.1, fun i hi => by rw [r 101 i (by decide)]; exact d.2.2 i hi⟩, fun i hi => by rw [r 106 i (by decide)]; exact e i hi, by rw [r 97 20 (by decide)]; exact f, fun j hj => ?_⟩
  exact sh_keep (sh_at g hj) (r 115 j (by decide)) (r 116 j (by decide)) (r 117 j (by decide)) (fun i hi => rl 118 _ (by decide))
theorem MS_Fc {σ σ' : St} {S : MSt} (h : MS σ S) (f : Fc σ σ') : MS σ' S := MS_up h (fun a i q => f.1 a i (decide_eq_false (by omega))) (fun a i q => f.2.1 a i (decide_eq_false (by omega))) f.2.2.1 f.2.2.2.1
theorem SB0_k {σ σ' : St} (h : SB0 σ) (r1 : rI σ' 86 1 = rI σ 86 1) (r3 : rI σ' 86 3 = rI σ 86 3) (hR : ∀ a b, rR σ' a b = rR σ a b) (hs : sS σ' = sS σ) : SB0 σ' := by
  obtain ⟨k, cap, c, h1, h2, h3, h4, h5, h6⟩ := h
  exact ⟨k, cap, c, by rw [hs]; exact h1, by rw [hR]; exact h2, by unfold sh; rw [hs]; exact h3, by rw [r1]; exact h4, by rw [r3]; exact h5, h6⟩
theorem Iz_k {σ σ' : St} (h : Iz σ) (hs : sS σ' = sS σ) : Iz σ' := by unfold Iz at h ⊢; rw [hs]; exact h
theorem LH_Fc {X : Nat × (Nat → Int32)} {σ σ' : St} {S S' : MSt} (h : LI X σ S) (g : XS σ' S') (f : Fc σ σ') : LH X σ' S S' := by
  obtain ⟨h1, h2, h3, h4, h5⟩ := h
  exact ⟨g, MS_Fc h2 f, SB0_k h3 (f.1 86 1 rfl) (f.1 86 3 rfl) f.2.2.1 f.2.2.2.1, f.2.2.2.2.trans h4, Iz_k h5 f.2.2.2.1⟩
theorem LH_Xc {X : Nat × (Nat → Int32)} {σ σ' : St} {S : MSt} (h : LI X σ S) (f : Xc σ σ') : LH X σ' S S := LH_Fc h (XS_sc h.1 f) (Xc_Fc f)
theorem LH_wb {X : Nat × (Nat → Int32)} {σ σ' : St} {S S' : MSt} (h : LI X σ S) (g : XS σ' S') (f : Fm (Iwb 1) noL σ σ') : LH X σ' S S' := LH_Fc h g (Fm_mono f (fun _ _ q => Iwb_ICc q) (fun a q => noL_t a q))
theorem LH_rf {X : Nat × (Nat → Int32)} {σ : St} {S : MSt} (h : LI X σ S) : LH X σ S S := h
theorem LH_fb {X : Nat × (Nat → Int32)} {σ σ' : St} {S : MSt} (h : LI X σ S) (f : Fb σ σ') (g : SB0 σ') : LH X σ' S S := by
  obtain ⟨h1, h2, h3, h4, h5⟩ := h
  refine ⟨XS_fb h1 f, MS_fb h2 f, g, f.2.2.2.2.1.trans h4, ?_⟩
  have q := f.2.2.2.2.2
  unfold Iz at h5 ⊢
  unfold Sz at q
  omega
theorem XS_9 {σ σ' : St} {S : MSt} (h : XS σ S) (f : Fr9 σ σ') : XS σ' S := by
  have hf : Fm (fun a _ => decide (97 ≤ a)) (fun a => decide (97 ≤ a)) σ σ' := ⟨fun a i q => by rw [f.1 a (by have := of_decide_eq_false q; omega)], fun a i q => by rw [f.2.1 a (by have := of_decide_eq_false q; omega)], f.2.2.1, f.2.2.2.1, f.2.2.2.2⟩
  exact XS_fm h hf (fun a i q => decide_eq_false (by omega)) (fun a q1 q2 => decide_eq_false (by omega))
theorem LI_9 {X : Nat × (Nat → Int32)} {σ σ' : St} {S S' : MSt} (h : LH X σ S S') (g : MS σ' S') (f : Fr9 σ σ') : LI X σ' S' := by
  obtain ⟨h1, h2, h3, h4, h5⟩ := h
  exact ⟨XS_9 h1 f, g, SB0_k h3 (by rw [f.1 86 (by decide)]) (by rw [f.1 86 (by decide)]) f.2.2.1 f.2.2.2.1, f.2.2.2.2.trans h4, Iz_k h5 f.2.2.2.1⟩
theorem NV_0 : NV S00.1 := ⟨Nat.zero_le 7, fun k hk => absurd hk (Nat.not_lt_zero k)⟩
theorem fac_LI {X : Nat × (Nat → Int32)} {σ : St} (hX : sX σ = X) (h : fac σ = true) : LI X σ S00 := by
  unfold fac at h
  simp only [Bool.and_eq_true] at h
  obtain ⟨e1, e2, e3, e4, e5, e6, e7, e8, e9⟩ := h
  have n1 : (sS σ).length = 119 := Nat.eq_of_beq_eq_true e1
  have n2 : ((sS σ).map Prod.snd).sum ≤ 5000 := Nat.le_of_ble_eq_true e2
  have xF : XF σ := ⟨fun p hp => of_decide_eq_true (List.all_eq_true.mp e3 p hp), fun p hp => of_decide_eq_true (List.all_eq_true.mp e4 p hp)⟩
  have mF : MF σ := ⟨fun p hp => of_decide_eq_true (List.all_eq_true.mp e5 p hp), fun p hp => of_decide_eq_true (List.all_eq_true.mp e6 p hp)⟩
  have z : ∀ p, p ∈ stI0 → rI σ p.1 p.2.1 = p.2.2 := fun p hp => of_decide_eq_true (List.all_eq_true.mp e7 p hp)
  refine ⟨⟨⟨xF, Wk1, ⟨z (1, 1, 0) (by decide), fun k hk => absurd hk (Nat.not_lt_zero k)⟩, NV_0⟩, z (0, 3, 0) (by decide), fun K hK => (by cases hK), ⟨z (83, 1, 0) (by decide), Nat.zero_le 60, fun i hi => absurd hi (Nat.not_lt_zero i)⟩, fun j hj => ?_⟩,
    ⟨⟨mF, ⟨z (98, 252, 0) (by decide), fun k hk => absurd hk (Nat.not_lt_zero k)⟩, NV_0⟩, z (97, 4, 0) (by decide), fun K hK => (by cases hK), ⟨z (97, 6, 0) (by decide), Nat.zero_le 60, fun i hi => absurd hi (Nat.not_lt_zero i)⟩, fun i hi => ?_, z (97, 20, -1) (by decide), fun j hj => ?_⟩,
    ⟨87, 16, 0, Or.inl ⟨rfl, rfl, n1⟩, of_decide_eq_true e8, of_decide_eq_true e9, z (86, 1, 0) (by decide), z (86, 3, 0) (by decide), Nat.zero_le 70⟩, hX, ?_⟩
  · show rI σ (89 + 2 * j) 1 = -1
    rcases (show j = 0 ∨ j = 1 ∨ j = 2 ∨ j = 3 by omega) with rfl | rfl | rfl | rfl
    · exact z (89, 1, -1) (by decide)
    · exact z (91, 1, -1) (by decide)
    · exact z (93, 1, -1) (by decide)
    · exact z (95, 1, -1) (by decide)
  · rcases (show i = 0 ∨ i = 1 ∨ i = 2 ∨ i = 3 ∨ i = 4 ∨ i = 5 ∨ i = 6 by omega) with rfl | rfl | rfl | rfl | rfl | rfl | rfl
    · exact z (106, 0, -1) (by decide)
    · exact z (106, 1, -1) (by decide)
    · exact z (106, 2, -1) (by decide)
    · exact z (106, 3, -1) (by decide)
    · exact z (106, 4, -1) (by decide)
    · exact z (106, 5, -1) (by decide)
    · exact z (106, 6, -1) (by decide)
  · show rI σ 115 j = 0
    rcases (show j = 0 ∨ j = 1 ∨ j = 2 ∨ j = 3 by omega) with rfl | rfl | rfl | rfl
    · exact z (115, 0, 0) (by decide)
    · exact z (115, 1, 0) (by decide)
    · exact z (115, 2, 0) (by decide)
    · exact z (115, 3, 0) (by decide)
  · unfold Iz; rw [n1]; omega
/-- both objects are made -/
theorem ini_law (X : Nat × (Nat → Int32)) : ∃ σ1 σ, exec tab 400 20 73 [vR 0 8] (nw (pX X stz) 8 10) = some (none, σ1) ∧ (sS σ1).length = 97 ∧ exec tab 400 20 124 [vR 97 9] (nw σ1 9 33) = some (none, σ) ∧ LI X σ S00 := by
  have h := chk0_t
  unfold chk0 at h
  cases e1 : exec tab 400 20 73 [vR 0 8] (nw stz 8 10) with
  | none => rw [e1] at h; cases h
  | some y =>
    obtain ⟨r, τ1⟩ := y
    rw [e1] at h
    cases r with
    | some v => cases h
    | none =>
      dsimp only at h
      rw [Bool.and_eq_true] at h
      obtain ⟨h1, h2⟩ := h
      cases e2 : exec tab 400 20 124 [vR 97 9] (nw τ1 9 33) with
      | none => rw [e2] at h2; cases h2
      | some y =>
        obtain ⟨r, τ⟩ := y
        rw [e2] at h2
        cases r with
        | some v => cases h2
        | none =>
          dsimp only at h2
          refine ⟨pX X τ1, pX X τ, ?_, Nat.eq_of_beq_eq_true h1, ?_, fac_LI rfl h2⟩
          · have q := px_exec (s := X) (N := 400) 20 73 (by decide) [vR 0 8] (nw stz 8 10)
            rw [e1] at q
            exact q
          · have q := px_exec (s := X) (N := 400) 20 124 (by decide) [vR 97 9] (nw τ1 9 33)
            rw [e2] at q
            exact q
