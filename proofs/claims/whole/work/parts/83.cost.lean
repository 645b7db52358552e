/-! ===== the class: how many are near, what an order costs ===== -/
def cnR (nr : Nat → Nat) (m : Nat) : Nat := sR (fun i => pop7 (nr i)) m 0
theorem sR_le {f : Nat → Nat} {c : Nat} (hf : ∀ i, f i ≤ c) : ∀ r b, sR f r b ≤ r * c
  | 0, _ => by show 0 ≤ _; omega
  | r + 1, b => by
    show f b + sR f r (b + 1) ≤ _
    have h1 := sR_le hf r (b + 1)
    have h2 := hf b
    have e : (r + 1) * c = r * c + c := Nat.succ_mul r c
    omega
theorem cne_l {d w : Nat} {Q : Option PV → St → Prop} {σ : St} {N : Net} {nr : Nat → Nat} (h : CI σ w N) (hN : NR0 σ nr) : ∀ r i v, i + r = nM N → v + r * 7 < 100 → (At (d + 1) kX0_countNear 9 [vR 74 1, vR w 6, vI (nI v), vI (nI i)] [] σ Q ↔ Q (some (vI (nI ((v + sR (fun i => pop7 (nr i)) r i) / 2)))) σ)
  | 0, i, v, hi, hv => by
    have h7 := CI_7 h
    have e1 := h.2.2.1.1
    have : i = nM N := by omega
    subst this
    have e : nI v / (2 : Int32) = nI (v / 2) := pk_div (a := v) (d := 2) (by omega) (by decide) (by decide)
    simp (disch := first | exact is2I | exact is2R | omega) only [z_X0_countNear_9, z_X0_countNear_10, z_X0_countNear_11, z_X0_countNear_14, z_X0_countNear_35, z_X0_countNear_36, z_X0_countNear_37, z_X0_countNear_38, e1, kLe, Nat.le_refl, sR, Nat.add_zero, e, show ((!(decide ((2 : Int32) = 0))) = true) = True from by decide, true_and, Option.toList_some, Option.toList_none, List.cons_append, List.nil_append, is2IT, is2RT, if_true, if_false]
  | r + 1, i, v, hi, hv => by
    have h7 := CI_7 h
    have e1 := h.2.2.1.1
    have c : ¬ nM N ≤ i := by omega
    obtain ⟨x1, x2⟩ := hN i (by omega)
    have p7 := pop7_le _ x2
    have nx := cne_l (d := d) (Q := Q) h hN r (i + 1) (v + pop7 (nr i)) (by omega) (by omega)
    rw [Nat.add_assoc] at nx
    simp (disch := first | exact is2I | exact is2R | omega) only [z_X0_countNear_9, z_X0_countNear_10, z_X0_countNear_11, z_X0_countNear_14, z_X0_countNear_17, z_X0_countNear_18, z_X0_countNear_19, z_X0_countNear_22, z_X0_countNear_23, z_X0_countNear_24, z_X0_countNear_27, z_X0_countNear_28, z_X0_countNear_29, xf_r0_0 h.1, xf_r0_1 h.1, xf_r0_2 h.1, xf_r0_4 h.1, xf_r0_5 h.1, xf_r0_6 h.1, xf_r0_7 h.1, xf_r0_8 h.1, xf_r0_9 h.1, xf_r70_0 h.1, xf_r70_1 h.1, xf_r70_2 h.1, xf_r74_0 h.1, xf_r74_1 h.1, xf_r74_2 h.1, xf_r74_3 h.1, xf_r79_0 h.1, xf_r79_1 h.1, xf_r79_2 h.1, xf_r83_0 h.1, xf_r83_7 h.1, xf_r88_0 h.1, xf_r88_1 h.1, xf_r88_2 h.1, xf_r88_3 h.1, xf_s0 h.1, xf_s70 h.1, xf_s71 h.1, xf_s72 h.1, xf_s73 h.1, xf_s74 h.1, xf_s75 h.1, xf_s76 h.1, xf_s77 h.1, xf_s78 h.1, xf_s79 h.1, xf_s80 h.1, xf_s81 h.1, xf_s82 h.1, xf_s83 h.1, xf_s84 h.1, xf_s85 h.1, xf_s86 h.1, xf_s88 h.1, xf_s89 h.1, xf_s90 h.1, xf_s91 h.1, xf_s92 h.1, xf_s93 h.1, xf_s94 h.1, xf_s95 h.1, xf_s96 h.1, e1, kLe, c, kIn, kCl, x1, m_bitc x2, nI_add, kAL, sR, true_and, Option.toList_some, Option.toList_none, List.cons_append, List.nil_append, is2IT, is2RT, if_true, if_false]
    rw [z_X0_countNear_32]
    exact nx
theorem c_countNear {d w : Nat} {Q : Option PV → St → Prop} {N : Net} {σ : St} (h : CI σ w N) (hQ : ∀ σ', Fm I75 noL σ σ' → Q (some (vI (nI (cnR (nrS N) (nM N) / 2)))) σ') : Ca (d + 4) 3 [vR 74 1, vR w 6] σ Q := by
  have h7 := CI_7 h
  rw [ca_at (K := kX0_countNear) (ls := [vR 74 1, vR w 6, vU, vU]) rfl rfl rfl]
  simp only [z_X0_countNear_0, z_X0_countNear_1, z_X0_countNear_2, true_and, Option.toList_some, Option.toList_none, List.cons_append, List.nil_append, is2IT, is2RT, if_true, if_false]
  refine c_begin (d := d) h (fun σ1 q1 q2 => ?_)
  have m1 : CI σ1 w N := CI_fm h q1 (fun _ _ => I75_70)
  simp only [z_X0_countNear_5, z_X0_countNear_6, z_X0_countNear_7, z_X0_countNear_8, true_and, Option.toList_some, Option.toList_none, List.cons_append, List.nil_append, is2IT, is2RT, if_true, if_false]
  refine (cne_l (d := d + 2) m1 q2 (nM N) 0 0 (by omega) (by omega)).mpr ?_
  rw [Nat.zero_add]
  exact hQ σ1 q1
/-! what an order costs -/
def pdR (N : Net) (g : Nat) : Nat → Nat → Nat → Nat
  | 0, _, v => v
  | r + 1, i, v => pdR N g r (i + 1) (if g.testBit i = true then v * nS N i else v)
def cstR (N : Net) (G : Nat → Nat) : Nat → Nat → Nat → Nat
  | 0, _, v => v
  | r + 1, k, v => cstR N G r (k + 1) (v + pdR N (G k) (nM N) 0 1)
theorem pdR_le {N : Net} (hN : NV N) {g : Nat} : ∀ r i v, i + r = nM N → pdR N g r i v ≤ v * 3 ^ r
  | 0, _, v, _ => by show v ≤ v * 1; omega
  | r + 1, i, v, hi => by
    show pdR N g r (i + 1) (if g.testBit i = true then v * nS N i else v) ≤ _
    have h1 := pdR_le hN (g := g) r (i + 1) (if g.testBit i = true then v * nS N i else v) (by omega)
    have h2 : (if g.testBit i = true then v * nS N i else v) ≤ v * 3 := by
      have hs : nS N i ≤ 3 := by
        rcases NV_sv hN (show i < nM N by omega) with q | q <;> omega
      by_cases c : g.testBit i = true
      · rw [if_pos c]; exact Nat.mul_le_mul (Nat.le_refl v) hs
      · rw [if_neg c]; omega
    have h3 : (if g.testBit i = true then v * nS N i else v) * 3 ^ r ≤ v * 3 * 3 ^ r := Nat.mul_le_mul h2 (Nat.le_refl _)
    have e : v * 3 ^ (r + 1) = v * 3 * 3 ^ r := by rw [Nat.pow_succ, Nat.mul_comm (3 ^ r) 3, Nat.mul_assoc]
    omega
