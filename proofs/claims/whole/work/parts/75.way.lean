/-! ===== evidence below a node: both ways of seeking it ===== -/
def Rc (N : Net) : Nat → Nat → Nat → Prop
  | 0, n, j => n = j
  | f + 1, n, j => n = j ∨ ∃ c, ovr N n c = true ∧ c < nM N ∧ Rc N f c j
def RC (N : Net) (n j : Nat) : Prop := ∃ f, Rc N f n j
theorem Rc_rf {N : Net} {f n : Nat} : Rc N f n n := by cases f; rfl; exact Or.inl rfl
theorem Rc_ext {N : Net} : ∀ f n p i, Rc N f n p → ovr N p i = true → i < nM N → Rc N (f + 1) n i
  | 0, n, p, i, h, h2, h3 => by
    have h : n = p := h
    subst h
    exact Or.inr ⟨i, h2, h3, rfl⟩
  | f + 1, n, p, i, h, h2, h3 => by
    rcases h with h | ⟨c, a, b, e⟩
    · subst h; exact Or.inr ⟨i, h2, h3, Rc_rf⟩
    · exact Or.inr ⟨c, a, b, Rc_ext f c p i e h2 h3⟩
theorem Rc_inv {N : Net} : ∀ f n i, Rc N f n i → n = i ∨ ∃ p, ovr N p i = true ∧ i < nM N ∧ Rc N f n p
  | 0, n, i, h => Or.inl h
  | f + 1, n, i, h => by
    rcases h with h | ⟨c, a, b, e⟩
    · exact Or.inl h
    · rcases Rc_inv f c i e with q | ⟨p, q1, q2, q3⟩
      · subst q; exact Or.inr ⟨n, a, b, Rc_rf⟩
      · exact Or.inr ⟨p, q1, q2, Or.inr ⟨c, a, b, q3⟩⟩
theorem ovr_lt {N : Net} (h : NV N) {p c : Nat} (hc : c < nM N) (ho : ovr N p c = true) : p < c := by
  obtain ⟨-, q⟩ := of_decide_eq_true ho
  rcases q with q | q
  · exact (h.2 c hc).2.2.1 p q
  · exact ((h.2 c hc).2.2.2.1 p q).1
theorem Rc_le {N : Net} (h : NV N) : ∀ f n j, Rc N f n j → n ≤ j
  | 0, n, j, e => by have e : n = j := e; omega
  | f + 1, n, j, e => by
    rcases e with e | ⟨c, a, b, e⟩
    · omega
    · have := ovr_lt h b a
      have := Rc_le h f c j e
      omega
theorem hrd_iff {N : Net} (h : NV N) : ∀ f n, nM N ≤ n + f → n < nM N → (hrd N f n = true ↔ ∃ j, j < nM N ∧ RC N n j ∧ evd N j = true)
  | 0, n, h1, h2 => by omega
  | f + 1, n, h1, h2 => by
    rw [hrd_s]
    simp only [Bool.or_eq_true, List.any_eq_true, Bool.and_eq_true]
    constructor
    · rintro (q | q | ⟨c, hc, q1, q2⟩)
      · exact ⟨n, h2, ⟨0, rfl⟩, by unfold evd; rw [q]; rfl⟩
      · exact ⟨n, h2, ⟨0, rfl⟩, by unfold evd; rw [q]; exact Bool.or_true _⟩
      · rw [List.mem_range'_1] at hc
        obtain ⟨j, j1, ⟨f2, j2⟩, j3⟩ := (hrd_iff h f c (by omega) (by omega)).mp q2
        exact ⟨j, j1, ⟨f2 + 1, Or.inr ⟨c, q1, by omega, j2⟩⟩, j3⟩
    · rintro ⟨j, j1, ⟨f2, j2⟩, j3⟩
      have here : n = j → (nF1 N n).isSome = true ∨ hinB N n = true ∨ ∃ x, x ∈ List.range' (n + 1) (nM N - (n + 1)) ∧ ovr N n x = true ∧ hrd N f x = true := fun e => by
        subst e
        unfold evd at j3
        simp only [Bool.or_eq_true] at j3
        exact j3.imp id Or.inl
      cases f2 with
      | zero => exact here j2
      | succ f2 =>
        rcases j2 with e | ⟨c, a, b, e⟩
        · exact here e
        · have := ovr_lt h b a
          exact Or.inr (Or.inr ⟨c, List.mem_range'_1.mpr ⟨by omega, by omega⟩, a, (hrd_iff h f c (by omega) b).mpr ⟨j, j1, ⟨f2, e⟩, j3⟩⟩)
theorem hdA_iff {N : Net} {i g : Nat} : hdA N i g = true ↔ ∃ p, ovr N p i = true ∧ g.testBit p = true := by
  unfold hdA
  simp only [Bool.and_eq_true, Bool.or_eq_true, decide_eq_true_eq]
  constructor
  · rintro ⟨h1, h2 | h2⟩
    · cases ep : nP N i with
      | none => rw [ep] at h2; cases h2
      | some p => rw [ep] at h2; exact ⟨p, decide_eq_true ⟨h1, Or.inl ep⟩, h2⟩
    · cases eq : nQ N i with
      | none => rw [eq] at h2; cases h2
      | some p => rw [eq] at h2; exact ⟨p, decide_eq_true ⟨h1, Or.inr eq⟩, h2⟩
  · rintro ⟨p, h1, h2⟩
    obtain ⟨a, b | b⟩ := of_decide_eq_true h1
    · exact ⟨a, Or.inl (by rw [b]; exact h2)⟩
    · exact ⟨a, Or.inr (by rw [b]; exact h2)⟩
theorem evR_iff {N : Net} (h : NV N) {n : Nat} (hn : n < nM N) : ∀ r i g, i + r = nM N → n ≤ i → (∀ j, g.testBit j = true ↔ RC N n j ∧ (j < i ∨ j = n)) → (evR N n r i g = true ↔ ∃ j, i ≤ j ∧ j < nM N ∧ RC N n j ∧ evd N j = true)
  | 0, i, g, hi, hni, hg => by
    constructor
    · intro q; cases q
    · rintro ⟨j, a, b, _⟩; omega
  | r + 1, i, g, hi, hni, hg => by
    have es : evR N n (r + 1) i g = (if ((if (decide (n < i) && hdA N i g) = true then g ||| 2 ^ i else g).testBit i && evd N i) = true then true else evR N n r (i + 1) (if (decide (n < i) && hdA N i g) = true then g ||| 2 ^ i else g)) := rfl
    have hg' : ∀ j, (if (decide (n < i) && hdA N i g) = true then g ||| 2 ^ i else g).testBit j = true ↔ RC N n j ∧ (j < i + 1 ∨ j = n) := by
      intro j
      have rc : n < i → (hdA N i g = true ↔ RC N n i) := fun hlt => by
        rw [hdA_iff]
        constructor
        · rintro ⟨p, p1, p2⟩
          obtain ⟨f, pf⟩ := ((hg p).mp p2).1
          exact ⟨f + 1, Rc_ext f n p i pf p1 (by omega)⟩
        · rintro ⟨f, pf⟩
          rcases Rc_inv f n i pf with q | ⟨p, q1, q2, q3⟩
          · omega
          · exact ⟨p, q1, (hg p).mpr ⟨⟨f, q3⟩, Or.inl (ovr_lt h q2 q1)⟩⟩
      by_cases c : (decide (n < i) && hdA N i g) = true
      · rw [if_pos c, Nat.testBit_or, Nat.testBit_two_pow, Bool.or_eq_true, hg, decide_eq_true_eq]
        simp only [Bool.and_eq_true, decide_eq_true_eq] at c
        have ri := (rc c.1).mp c.2
        constructor
        · rintro (⟨q1, q2⟩ | q)
          · exact ⟨q1, by omega⟩
          · subst q; exact ⟨ri, by omega⟩
        · rintro ⟨q1, q2⟩
          by_cases e : i = j
          · exact Or.inr e
          · exact Or.inl ⟨q1, by omega⟩
      · rw [if_neg c, hg]
        constructor
        · rintro ⟨q1, q2⟩; exact ⟨q1, by omega⟩
        · rintro ⟨q1, q2⟩
          refine ⟨q1, ?_⟩
          by_cases e : j = i
          · subst e
            by_cases e2 : n < j
            · exact absurd (by rw [decide_eq_true e2, (rc e2).mpr q1]; rfl) c
            · exact Or.inr (by omega)
          · omega
    rw [es]
    have ih := evR_iff h hn r (i + 1) _ (by omega) (by omega) hg'
    generalize (if (decide (n < i) && hdA N i g) = true then g ||| 2 ^ i else g) = g2 at hg' ih
    by_cases c : (g2.testBit i && evd N i) = true
    · rw [if_pos c]
      simp only [Bool.and_eq_true] at c
      exact ⟨fun _ => ⟨i, Nat.le_refl _, by omega, ((hg' i).mp c.1).1, c.2⟩, fun _ => rfl⟩
    · rw [if_neg c, ih]
      constructor
      · rintro ⟨j, a, b⟩; exact ⟨j, by omega, b⟩
      · rintro ⟨j, a, b, q1, q2⟩
        refine ⟨j, ?_, b, q1, q2⟩
        by_cases e : j = i
        · subst e
          exact absurd (by rw [(hg' j).mpr ⟨q1, by omega⟩, q2]; rfl) c
        · omega
theorem evR_hrd {N : Net} (h : NV N) {n : Nat} (hn : n < nM N) : evR N n (nM N - n) n (2 ^ n) = hrd N 7 n := by
  have h1 := evR_iff h hn (nM N - n) n (2 ^ n) (by omega) (Nat.le_refl n) (fun j => by
    rw [Nat.testBit_two_pow, decide_eq_true_eq]
    constructor
    · intro e; subst e; exact ⟨⟨0, rfl⟩, Or.inr rfl⟩
    · rintro ⟨⟨f, q⟩, q2⟩
      have := Rc_le h f n j q
      omega)
  have h2 := hrd_iff h 7 n (by have := h.1; omega) hn
  rw [Bool.eq_iff_iff, h1, h2]
  constructor
  · rintro ⟨j, a, b⟩; exact ⟨j, b⟩
  · rintro ⟨j, a, ⟨f, b⟩, c⟩; exact ⟨j, Rc_le h f n j b, a, ⟨f, b⟩, c⟩
