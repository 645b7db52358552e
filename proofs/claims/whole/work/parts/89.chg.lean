/-! ===== the class: a node changes ===== -/
/-- the same shape: sizes, kinds, parents, tables -/
def Sm (N N' : Net) : Prop := nM N' = nM N ∧ (∀ j, nS N' j = nS N j ∧ nK N' j = nK N j ∧ nP N' j = nP N j ∧ nQ N' j = nQ N j) ∧ ∀ j r v, nT N' j r v = nT N j r v
theorem sQ_of {N N' : Net} {j : Nat} (hq : nQ N' j = nQ N j) (hs : ∀ i, nQ N j = some i → nS N' i = nS N i) : sQ N' j = sQ N j := by
  unfold sQ
  rw [hq]
  cases e : nQ N j with
  | none => rfl
  | some i => exact hs i e
theorem sP_of {N N' : Net} {j : Nat} (hq : nP N' j = nP N j) (hs : ∀ i, nP N j = some i → nS N' i = nS N i) : sP N' j = sP N j := by
  unfold sP
  rw [hq]
  cases e : nP N j with
  | none => rfl
  | some i => exact hs i e
theorem rows_of {N N' : Net} {j : Nat} (h1 : sP N' j = sP N j) (h2 : sQ N' j = sQ N j) : rowsN N' j = rowsN N j := by rw [rowsN_s, rowsN_s, h1, h2]
theorem cT_of {N N' : Net} {j r v : Nat} (h2 : sQ N' j = sQ N j) (hs : nS N' j = nS N j) (hk : nK N' j = nK N j) (hq : nQ N' j = nQ N j) (ht : nK N j = 0 → nT N' j (r / sQ N j * sQ N j + r % sQ N j) v = nT N j (r / sQ N j * sQ N j + r % sQ N j) v) : cT N' j r v = cT N j r v := by
  unfold cT tabN madeN
  rw [h2, hs, hk, hq]
  by_cases c : nK N j = 0
  · rw [if_pos c, if_pos c]; exact ht c
  · rw [if_neg c, if_neg c]
theorem cT_0 {N : Net} {j r v : Nat} (h : nK N j = 0) : cT N j r v = nT N j r v := by
  unfold cT tabN
  rw [if_pos h, Nat.div_add_mod']
theorem NB_cg {σ σ' : St} {w k : Nat} {N N' : Net} (h : NB σ w k N) (h9 : rowsN N k ≤ 9) (e1 : ∀ i, rI σ' (nO w k) i = rI σ (nO w k) i) (e2 : ∀ v, v < 3 → rI σ' (hO w k) v = rI σ (hO w k) v) (e3 : ∀ i, i < 27 → rI σ' (cO w k) i = rI σ (cO w k) i)
    (hs : nS N' k = nS N k) (hk : nK N' k = nK N k) (hp : nP N' k = nP N k) (hq : nQ N' k = nQ N k) (hr : rowsN N' k = rowsN N k) (hsq : sQ N' k = sQ N k) (hf : nF1 N' k = nF1 N k) (hd : nD N' k = nD N k) (hh : ∀ v, v < 3 → nH N' k v = nH N k v) (ht : ∀ r, r < rowsN N k → ∀ v, v < 3 → cT N' k r v = cT N k r v) : NB σ' w k N' := by
  obtain ⟨a1, a2, a3, a4, a5, a6, a7, a8, a9, a10⟩ := h
  unfold NB
  rw [hs, hk, hp, hq, hr, hsq, hf, hd]
  refine ⟨by rw [e1]; exact a1, by rw [e1]; exact a2, by rw [e1]; exact a3, by rw [e1]; exact a4, by rw [e1]; exact a5, by rw [e1]; exact a6, by rw [e1]; exact a7, by rw [e1]; exact a8, fun v hv => by rw [e2 v hv, hh v hv]; exact a9 v hv, fun r hr v hv => by rw [e3 _ (by omega), ht r hr v hv]; exact a10 r hr v hv⟩
theorem Sm_all {N N' : Net} (h : Sm N N') (j : Nat) : rowsN N' j = rowsN N j ∧ sQ N' j = sQ N j ∧ ∀ r v, cT N' j r v = cT N j r v := by
  obtain ⟨-, h2, h3⟩ := h
  have q := sQ_of (h2 j).2.2.2 (fun i _ => (h2 i).1)
  have p := sP_of (h2 j).2.2.1 (fun i _ => (h2 i).1)
  exact ⟨rows_of p q, q, fun r v => cT_of q (h2 j).1 (h2 j).2.1 (h2 j).2.2.2 (fun _ => h3 _ _ _)⟩
/-- only the web's own objects change -/
def Iwb (w a _i : Nat) : Bool := decide (w ≤ a ∧ a ≤ w + 22)
theorem Iwb_n {w k i : Nat} (hk : k < 7) : Iwb w (nO w k) i = true := by unfold Iwb nO; exact decide_eq_true (by omega)
theorem Iwb_h {w k i : Nat} (hk : k < 7) : Iwb w (hO w k) i = true := by unfold Iwb hO; exact decide_eq_true (by omega)
theorem Iwb_c {w k i : Nat} (hk : k < 7) : Iwb w (cO w k) i = true := by unfold Iwb cO; exact decide_eq_true (by omega)
theorem Iwb_w {w i : Nat} : Iwb w w i = true := by unfold Iwb; exact decide_eq_true (by omega)
theorem WB_fm {I : Nat → Nat → Bool} {L : Nat → Bool} {σ σ' : St} {v : Nat} {N : Net} (h : WB σ v N) (h7 : nM N ≤ 7) (hf : Fm I L σ σ') (hI : ∀ a i, v ≤ a → a ≤ v + 22 → I a i = false) : WB σ' v N := by
  have r : ∀ a, v ≤ a → a ≤ v + 22 → rI σ' a = rI σ a := fun a h1 h2 => funext fun i => hf.1 a i (hI a i h1 h2)
  refine ⟨by rw [r v (by omega) (by omega)]; exact h.1, fun k hk => ?_⟩
  have q := h.2 k hk
  unfold NB at q ⊢
  rw [r (nO v k) (by unfold nO; omega) (by unfold nO; omega), r (hO v k) (by unfold hO; omega) (by unfold hO; omega), r (cO v k) (by unfold cO; omega) (by unfold cO; omega)]
  exact q
theorem FD_s {N : Net} {k x : Nat} {o : Option Nat} : (setFD N k x o).2.1 k = (nS N k, nK N k, nP N k, nQ N k, if x = 4 then o else nF1 N k, if x = 4 then nD N k else o) := if_pos rfl
theorem FD_n {N : Net} {k x j : Nat} {o : Option Nat} (h : j ≠ k) : (setFD N k x o).2.1 j = N.2.1 j := if_neg h
theorem Sm_FD {N : Net} {k x : Nat} {o : Option Nat} : Sm N (setFD N k x o) := by
  refine ⟨rfl, fun j => ?_, fun _ _ _ => rfl⟩
  by_cases e : j = k
  · subst e
    have e1 := @FD_s N j x o
    unfold nS nK nP nQ
    rw [e1]
    exact ⟨rfl, rfl, rfl, rfl⟩
  · have e1 := @FD_n N k x j o e
    unfold nS nK nP nQ
    rw [e1]
    exact ⟨rfl, rfl, rfl, rfl⟩
theorem WB_FD {σ : St} {w : Nat} {N : Net} (h : WB σ w N) (hN : NV N) {k f x : Nat} {o : Option Nat} (hx : (f = 8 ∧ x = 4) ∨ (f = 9 ∧ x = 5)) : WB (wI σ (nO w k) f (oI o)) w (setFD N k x o) := by
  have h7 := hN.1
  refine ⟨by rw [rI_wI_n (by unfold nO; omega)]; exact h.1, fun j hj => ?_⟩
  have hj' : j < nM N := hj
  have b := h.2 j hj'
  obtain ⟨s1, s2, s3⟩ := @Sm_all N (setFD N k x o) Sm_FD j
  obtain ⟨t1, t2, t3, t4⟩ := (@Sm_FD N k x o).2.1 j
  have r9 := (rows_9 hN hj').2.1
  have eh : ∀ i, rI (wI σ (nO w k) f (oI o)) (hO w j) i = rI σ (hO w j) i := fun i => by rw [rI_wI_n (by unfold hO nO; omega)]
  have ec : ∀ i, rI (wI σ (nO w k) f (oI o)) (cO w j) i = rI σ (cO w j) i := fun i => by rw [rI_wI_n (by unfold cO nO; omega)]
  by_cases e : j = k
  · subst e
    obtain ⟨a1, a2, a3, a4, a5, a6, a7, a8, a9, a10⟩ := b
    have en : ∀ i, i ≠ f → rI (wI σ (nO w j) f (oI o)) (nO w j) i = rI σ (nO w j) i := fun i hi => by rw [rI_wI, if_neg (fun q => hi q.2)]
    have es : rI (wI σ (nO w j) f (oI o)) (nO w j) f = oI o := by rw [rI_wI, if_pos ⟨rfl, rfl⟩]
    unfold NB
    rw [t1, t2, t3, t4, s1, s2]
    have ff : nF1 (setFD N j x o) j = if x = 4 then o else nF1 N j := by unfold nF1; rw [FD_s]; rfl
    have fd : nD (setFD N j x o) j = if x = 4 then nD N j else o := by unfold nD; rw [FD_s]; rfl
    rw [ff, fd]
    refine ⟨by rw [en 2 (by omega)]; exact a1, by rw [en 3 (by omega)]; exact a2, by rw [en 4 (by omega)]; exact a3, by rw [en 5 (by omega)]; exact a4, by rw [en 6 (by omega)]; exact a5, by rw [en 7 (by omega)]; exact a6, ?_, ?_, fun v hv => by rw [eh]; exact a9 v hv, fun r hr v hv => by rw [ec, s3]; exact a10 r hr v hv⟩
    · rcases hx with ⟨rfl, rfl⟩ | ⟨rfl, rfl⟩
      · exact es
      · rw [en 8 (by decide)]; exact a7
    · rcases hx with ⟨rfl, rfl⟩ | ⟨rfl, rfl⟩
      · rw [en 9 (by decide)]; exact a8
      · exact es
  · have e1 := @FD_n N k x j o e
    refine NB_cg b r9 (fun i => by rw [rI_wI_n (by unfold nO; omega)]) (fun v _ => eh v) (fun i _ => ec i) t1 t2 t3 t4 s1 s2 (by unfold nF1; rw [e1]) (by unfold nD; rw [e1]) (fun _ _ => rfl) (fun r _ v _ => s3 r v)
theorem Sm_H {N : Net} {k a b c : Nat} : Sm N (setH N k a b c) := ⟨rfl, fun _ => ⟨rfl, rfl, rfl, rfl⟩, fun _ _ _ => rfl⟩
theorem WB_H {σ : St} {w : Nat} {N : Net} (h : WB σ w N) (hN : NV N) {k a b c : Nat} : WB (wI (wI (wI σ (hO w k) 0 (nI a)) (hO w k) 1 (nI b)) (hO w k) 2 (nI c)) w (setH N k a b c) := by
  have h7 := hN.1
  have out : ∀ y i, y ≠ hO w k → rI (wI (wI (wI σ (hO w k) 0 (nI a)) (hO w k) 1 (nI b)) (hO w k) 2 (nI c)) y i = rI σ y i := fun y i hy => by rw [rI_wI_n hy, rI_wI_n hy, rI_wI_n hy]
  refine ⟨by rw [out _ _ (by unfold hO; omega)]; exact h.1, fun j hj => ?_⟩
  have hj' : j < nM N := hj
  have bb := h.2 j hj'
  obtain ⟨s1, s2, s3⟩ := @Sm_all N (setH N k a b c) Sm_H j
  have r9 := (rows_9 hN hj').2.1
  by_cases e : j = k
  · subst e
    obtain ⟨a1, a2, a3, a4, a5, a6, a7, a8, a9, a10⟩ := bb
    unfold NB
    rw [s1, s2]
    refine ⟨by rw [out _ _ (by unfold hO nO; omega)]; exact a1, by rw [out _ _ (by unfold hO nO; omega)]; exact a2, by rw [out _ _ (by unfold hO nO; omega)]; exact a3, by rw [out _ _ (by unfold hO nO; omega)]; exact a4, by rw [out _ _ (by unfold hO nO; omega)]; exact a5, by rw [out _ _ (by unfold hO nO; omega)]; exact a6, by rw [out _ _ (by unfold hO nO; omega)]; exact a7, by rw [out _ _ (by unfold hO nO; omega)]; exact a8, fun v hv => ?_, fun r hr v hv => by rw [out _ _ (by unfold hO cO; omega), s3]; exact a10 r hr v hv⟩
    have g : nH (setH N j a b c) j v = if v = 0 then a else if v = 1 then b else c := if_pos rfl
    rw [g]
    rcases (show v = 0 ∨ v = 1 ∨ v = 2 by omega) with rfl | rfl | rfl
    · rw [rI_wI, if_neg (fun q => absurd q.2 (by decide)), rI_wI, if_neg (fun q => absurd q.2 (by decide)), rI_wI, if_pos ⟨rfl, rfl⟩]; rfl
    · rw [rI_wI, if_neg (fun q => absurd q.2 (by decide)), rI_wI, if_pos ⟨rfl, rfl⟩]; rfl
    · rw [rI_wI, if_pos ⟨rfl, rfl⟩]; rfl
  · exact NB_cg bb r9 (fun i => out _ _ (by unfold hO nO; omega)) (fun v _ => out _ _ (by unfold hO; omega)) (fun i _ => out _ _ (by unfold hO cO; omega)) rfl rfl rfl rfl s1 s2 rfl rfl (fun v _ => if_neg e) (fun r _ v _ => s3 r v)
theorem WB_T {σ : St} {w : Nat} {N : Net} (h : WB σ w N) (hN : NV N) {k i a b c : Nat} (hK : nK N k = 0) (hi : i < 9) : WB (wI (wI (wI σ (cO w k) (3 * i) (nI a)) (cO w k) (3 * i + 1) (nI b)) (cO w k) (3 * i + 2) (nI c)) w (setT N k i a b c) := by
  have h7 := hN.1
  have out : ∀ y x, y ≠ cO w k → rI (wI (wI (wI σ (cO w k) (3 * i) (nI a)) (cO w k) (3 * i + 1) (nI b)) (cO w k) (3 * i + 2) (nI c)) y x = rI σ y x := fun y i hy => by rw [rI_wI_n hy, rI_wI_n hy, rI_wI_n hy]
  have sm : ∀ j, rowsN (setT N k i a b c) j = rowsN N j ∧ sQ (setT N k i a b c) j = sQ N j := fun j => ⟨rfl, rfl⟩
  have tg : ∀ j r v, nT (setT N k i a b c) j r v = if j = k ∧ r = i then (if v = 0 then a else if v = 1 then b else c) else nT N j r v := fun _ _ _ => rfl
  refine ⟨by rw [out _ _ (by unfold cO; omega)]; exact h.1, fun j hj => ?_⟩
  have hj' : j < nM N := hj
  have bb := h.2 j hj'
  have r9 := (rows_9 hN hj').2.1
  by_cases e : j = k
  · subst e
    obtain ⟨a1, a2, a3, a4, a5, a6, a7, a8, a9, a10⟩ := bb
    refine ⟨by rw [out _ _ (by unfold cO nO; omega)]; exact a1, by rw [out _ _ (by unfold cO nO; omega)]; exact a2, by rw [out _ _ (by unfold cO nO; omega)]; exact a3, by rw [out _ _ (by unfold cO nO; omega)]; exact a4, by rw [out _ _ (by unfold cO nO; omega)]; exact a5, by rw [out _ _ (by unfold cO nO; omega)]; exact a6, by rw [out _ _ (by unfold cO nO; omega)]; exact a7, by rw [out _ _ (by unfold cO nO; omega)]; exact a8, fun v hv => by rw [out _ _ (by unfold cO hO; omega)]; exact a9 v hv, fun r hr v hv => ?_⟩
    have K0 : nK (setT N j i a b c) j = 0 := hK
    rw [cT_0 K0, tg]
    have q := a10 r hr v hv
    rw [cT_0 hK] at q
    rw [rI_wI, rI_wI, rI_wI]
    by_cases c1 : r = i
    · subst c1
      rw [if_pos (show j = j ∧ r = r from ⟨rfl, rfl⟩)]
      rcases (show v = 0 ∨ v = 1 ∨ v = 2 by omega) with rfl | rfl | rfl
      · rw [if_neg (by omega), if_neg (by omega), if_pos ⟨rfl, rfl⟩]; rfl
      · rw [if_neg (by omega), if_pos ⟨rfl, rfl⟩]; rfl
      · rw [if_pos ⟨rfl, rfl⟩]; rfl
    · rw [if_neg (show ¬ (j = j ∧ r = i) from fun z => c1 z.2), if_neg (by omega), if_neg (by omega), if_neg (by omega)]
      exact q
  · exact NB_cg bb r9 (fun x => out _ _ (by unfold cO nO; omega)) (fun v _ => out _ _ (by unfold cO hO; omega)) (fun x _ => out _ _ (by unfold cO; omega)) rfl rfl rfl rfl rfl rfl rfl rfl (fun v _ => rfl) (fun r _ v _ => cT_of rfl rfl rfl rfl (fun _ => by rw [tg, if_neg (fun z => e z.1)]))
