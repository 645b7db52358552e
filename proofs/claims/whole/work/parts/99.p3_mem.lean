/-! classes: fields' facts -/
def ftOK (t : FieldType) (n : Nat) : Bool := match t with
  | .int => n.beq 0
  | .long => n.beq 1
  | .boolean => n.beq 2
  | .byte => n.beq 3
  | .object _ => Nat.ble 100 n
  | .array _ => Nat.ble 100 n
  | _ => false
theorem cls_facts {c : Nat} {C : String} {T : u_T} {N : Nat} (h : vwCl[c]? = some (C, T, N)) : c < 10 ∧ N = nF c ∧ (∀ w ∈ u_ws C T N, w ∈ TBL) ∧ Jvm.Cond.instantiable C N ∈ TBL ∧ Jvm.Cond.initialized C ∈ TBL := by
  have hl : c < 10 := (List.getElem?_eq_some_iff.mp h).1
  have h1 := List.all_eq_true.mp cTab_ok c (List.mem_range.mpr hl)
  unfold chkCT at h1
  rw [h] at h1
  simp only [Bool.and_eq_true] at h1
  obtain ⟨a1, a2, a3, a4⟩ := h1
  refine ⟨hl, Nat.eq_of_beq_eq_true a1, fun w hw => ?_, TBL_of a2, TBL_of a3⟩
  obtain ⟨k, hk, rfl⟩ := List.mem_map.mp hw
  exact TBL_of (List.all_eq_true.mp a4 k hk)
theorem cls_types {c : Nat} {C : String} {T : u_T} {N : Nat} (h : vwCl[c]? = some (C, T, N)) : (∀ a, a < N → ∀ b, b < N → a ≠ b → (T a).2.1 ≠ (T b).2.1) ∧ ∃ ty : Nat → FieldType, (∀ k, k < N → parseFieldDescriptor (T k).2.2.1 = some (ty k)) ∧ ∀ k, k < N → ftOK (ty k) (ft c k) = true := by
  have hl : c < 10 := (List.getElem?_eq_some_iff.mp h).1
  match c, hl, h with
  | 0, _, h => cases h; exact ⟨nmJ4, tyJ4, tyJ4_ok, by decide +kernel⟩
  | 1, _, h => cases h; exact ⟨nmX0, tyX0, tyX0_ok, by decide +kernel⟩
  | 2, _, h => cases h; exact ⟨nmX1, tyX1, tyX1_ok, by decide +kernel⟩
  | 3, _, h => cases h; exact ⟨nmX2, tyX2, tyX2_ok, by decide +kernel⟩
  | 4, _, h => cases h; exact ⟨nmX3, tyX3, tyX3_ok, by decide +kernel⟩
  | 5, _, h => cases h; exact ⟨nmX4, tyX4, tyX4_ok, by decide +kernel⟩
  | 6, _, h => cases h; exact ⟨nmX6, tyX6, tyX6_ok, by decide +kernel⟩
  | 7, _, h => cases h; exact ⟨nmX7, tyX7, tyX7_ok, by decide +kernel⟩
  | 8, _, h => cases h; exact ⟨nmX8, tyX8, tyX8_ok, by decide +kernel⟩
  | 9, _, h => cases h; exact ⟨nmX9, tyX9, tyX9_ok, by decide +kernel⟩
/-- a value that a field of its kind may hold -/
theorem nar_fit {ty : FieldType} {n : Nat} (h : ftOK ty n = true) :
    (n = 1 → ∀ x : Int64, narrow ty (.long x) = .long x ∧ fits ty (.long x) = true) ∧ (100 ≤ n → ∀ a : Nat, narrow ty (.ref a) = .ref a ∧ fits ty (.ref a) = true) ∧
    (n ≠ 1 → ¬ 100 ≤ n → ∀ x : Int32, narOK n x = true → narrow ty (.int x) = .int x ∧ fits ty (.int x) = true) := by
  cases ty with
  | int => cases Nat.eq_of_beq_eq_true h; exact ⟨fun q => absurd q (by decide), fun q => absurd q (by decide), fun _ _ x _ => ⟨rfl, rfl⟩⟩
  | long => cases Nat.eq_of_beq_eq_true h; exact ⟨fun _ x => ⟨rfl, rfl⟩, fun q => absurd q (by decide), fun q => absurd rfl q⟩
  | boolean =>
    cases Nat.eq_of_beq_eq_true h
    refine ⟨fun q => absurd q (by decide), fun q => absurd q (by decide), fun _ _ x hx => ?_⟩
    have hx : (decide (x = 0) || decide (x = 1)) = true := hx
    rw [Bool.or_eq_true, decide_eq_true_eq, decide_eq_true_eq] at hx
    rcases hx with rfl | rfl
    · exact ⟨rfl, rfl⟩
    · exact ⟨rfl, rfl⟩
  | byte =>
    cases Nat.eq_of_beq_eq_true h
    refine ⟨fun q => absurd q (by decide), fun q => absurd q (by decide), fun _ _ x hx => ?_⟩
    have hx : decide (x.toInt8.toInt32 = x) = true := hx
    rw [decide_eq_true_eq] at hx
    exact ⟨by show Value.int x.toInt8.toInt32 = _; rw [hx], by have := pk_fb x; rw [hx] at this; exact this⟩
  | object C => exact ⟨fun q => (by rw [q] at h; cases h), fun _ a => ⟨rfl, rfl⟩, fun _ q => absurd (Nat.le_of_ble_eq_true h) q⟩
  | array C => exact ⟨fun q => (by rw [q] at h; cases h), fun _ a => ⟨rfl, rfl⟩, fun _ q => absurd (Nat.le_of_ble_eq_true h) q⟩
  | _ => cases h
theorem fld_facts {own : String} {idx res pos : Nat} (h : fldOK own idx res pos = true) : ∃ C T N, vwCl[res / 64]? = some (C, T, N) ∧ res % 64 < N ∧ Jvm.Cond.fieldLink own idx (T (res % 64)).1 (T (res % 64)).2.1 (T (res % 64)).2.2.1 ∈ TBL := by
  unfold fldOK at h
  split at h
  · rename_i C T N hv
    simp only [Bool.and_eq_true] at h
    exact ⟨C, T, N, hv, Nat.le_of_ble_eq_true h.1, TBL_of h.2.2⟩
  · cases h
theorem inB_vp {j : Int32} {n : Nat} (h : inB j n = true) : vp_in j n := by
  unfold inB at h
  simp only [Bool.and_eq_true, Bool.not_eq_true', decide_eq_false_iff_not, decide_eq_true_eq] at h
  intro q
  rcases q with q | q
  · exact h.1 q
  · omega
theorem trv_ag {ad ad' : Nat → Nat} {ex : Nat → Nat → Value} {σ : St} {v : PV} (ha : ∀ k, k < len σ → ad' k = ad k) (h : wt σ v) : trv ad' ex v = trv ad ex v := by
  unfold trv
  split
  · rfl
  · rfl
  · rfl
  · rename_i a t
    cases e : Nat.blt t 40 with
    | false => rfl
    | true =>
      have h1 : t < 40 → a < len σ ∧ (sh σ a).1 = t := h
      simp only [cond_true]
      rw [ha _ (h1 (Nat.le_of_ble_eq_true e)).1]
theorem trv_ags {ad ad' : Nat → Nat} {ex : Nat → Nat → Value} {σ : St} {l : List PV} (ha : ∀ k, k < len σ → ad' k = ad k) (h : TS σ l) : l.map (trv ad' ex) = l.map (trv ad ex) := List.map_congr_left fun v hv => trv_ag ha (h v hv)
theorem lvl_ag {ad ad' : Nat → Nat} {ex : Nat → Nat → Value} {σ : St} (ha : ∀ k, k < len σ → ad' k = ad k) : ∀ {l : List PV} {i : Nat}, TS σ l → lvl (trv ad' ex) l i = lvl (trv ad ex) l i
  | [], _, _ => rfl
  | v :: r, i, h => by
    unfold lvl
    rw [lvl_ag ha (TS_t h), trv_ag ha (TS_h h)]
theorem up_ag {ad : Nat → Nat} {n q : Nat} : ∀ k, k < n → va_up ad n q k = ad k := fun k hk => if_neg (by omega)
theorem trv_O {ad : Nat → Nat} {ex : Nat → Nat → Value} {o : Option Nat} {t : Nat} (h : t < 40) : trv ad ex (vO o t) = va_rf (o.map ad) := by
  cases o with
  | none => rfl
  | some a => exact trv_w h
theorem wW_new {ad : Nat → Nat} {cA : Nat → ClassId} {σ : St} {t n q : Nat} {e : va_E} (hW : WT9 σ) (he : eW (va_up ad (len σ) q) cA (nw σ t n) (len σ) = (q, e)) : wW ad cA σ ++ [(q, e)] = wW (va_up ad (len σ) q) cA (nw σ t n) := by
  apply List.ext_getElem?
  intro j
  by_cases h : j < len σ
  · rw [List.getElem?_append_left (by rw [wW_len]; exact h), wW_at h, wW_at (σ := nw σ t n) (by rw [nw_len]; omega)]
    have hne : j ≠ (sS σ).length := fun q => by unfold len at h; omega
    have hr : ∀ i, rR (nw σ t n) j i = rR σ j i := fun i => if_neg hne
    have hu : ∀ a, a < len σ → va_up ad (len σ) q a = ad a := fun a ha => by unfold va_up; rw [if_neg (by omega)]
    rw [eW_eq (ad := ad) (σ := σ) (Gr_sh nw_gr h) (hu j h) (funext fun i => if_neg hne) (funext fun i => if_neg hne) ?_]
    intro hk i hi
    rw [hr i]
    cases hc : rR σ j i with
    | none => rfl
    | some a =>
      have : a < len σ := by
        obtain ⟨-, -, b3, b4⟩ := hW j h
        rcases hk with hk | hk
        · exact (b3 hk i a (hi hk) hc).1
        · exact (b4.1 hk i a hc).1
      show some _ = some _
      rw [hu a this]
  · by_cases h2 : j = len σ
    · subst h2
      rw [List.getElem?_append_right (by rw [wW_len]; exact Nat.le_refl _), wW_len, Nat.sub_self, wW_at (σ := nw σ t n) (by rw [nw_len]; omega), he]; rfl
    · rw [List.getElem?_eq_none (by rw [List.length_append, wW_len]; simp; omega), List.getElem?_eq_none (by rw [wW_len, nw_len]; omega)]
theorem up_s9 {ad : Nat → Nat} {k q : Nat} : va_up ad k q k = q := if_pos rfl

theorem put_L {ad : Nat → Nat} {cA : Nat → ClassId} {σ : St} {k f t : Nat} {x : Int64} (hf : f < nF t) (hs : (sh σ k).1 = t) (ht : t < 20) (hk : ft t f = 1) : (wW ad cA σ).set k (ad k, .inr (t, ((List.range (nF t)).map (fval ad σ k t)).set f (.long x))) = wW ad cA (wL σ k f x) := by
  refine wW_set rfl (fun j hj => eW_n rfl rfl (rL_wL_n hj) rfl) ?_
  rw [eW_obj (σ := wL σ k f x) hs ht, fs_set (ad := ad) (σ := σ) (σ' := wL σ k f x) (k := k) (v := .long x) hf ?_ ?_]
  · unfold fval; rw [hk]; show Value.long _ = _; rw [rL_wL_s]; unfold vp_updL; rw [if_pos rfl]
  · intro j hj
    unfold fval; rw [rL_wL_s]; unfold vp_updL; rw [if_neg hj]; rfl
theorem put_I {ad : Nat → Nat} {cA : Nat → ClassId} {σ : St} {k f t : Nat} {x : Int32} (hf : f < nF t) (hs : (sh σ k).1 = t) (ht : t < 20) (h1 : (ft t f).beq 1 = false) (h2 : Nat.ble 100 (ft t f) = false) : (wW ad cA σ).set k (ad k, .inr (t, ((List.range (nF t)).map (fval ad σ k t)).set f (.int x))) = wW ad cA (wI σ k f x) := by
  refine wW_set rfl (fun j hj => eW_n rfl (rI_wI_n hj) rfl rfl) ?_
  rw [eW_obj (σ := wI σ k f x) hs ht, fs_set (ad := ad) (σ := σ) (σ' := wI σ k f x) (k := k) (v := .int x) hf ?_ ?_]
  · unfold fval; rw [h1, h2]; show Value.int _ = _; rw [rI_wI_s]; unfold upd; rw [if_pos rfl]
  · intro j hj
    unfold fval; rw [rI_wI_s]; unfold upd; rw [if_neg hj]; rfl
theorem put_R {ad : Nat → Nat} {cA : Nat → ClassId} {σ : St} {k f t b : Nat} (hf : f < nF t) (hs : (sh σ k).1 = t) (ht : t < 20) (h1 : (ft t f).beq 1 = false) (h2 : Nat.ble 100 (ft t f) = true) : (wW ad cA σ).set k (ad k, .inr (t, ((List.range (nF t)).map (fval ad σ k t)).set f (.ref (ad b)))) = wW ad cA (wR σ k f (some b)) := by
  refine wW_set rfl (fun j hj => eW_n rfl rfl rfl (rR_wR_n hj)) ?_
  rw [eW_obj (σ := wR σ k f (some b)) hs ht, fs_set (ad := ad) (σ := σ) (σ' := wR σ k f (some b)) (k := k) (v := .ref (ad b)) hf ?_ ?_]
  · unfold fval; rw [h1, h2]; show va_rf (Option.map ad _) = _; rw [rR_wR_s, if_pos rfl]; rfl
  · intro j hj
    unfold fval; rw [rR_wR_s, if_neg hj]; rfl
theorem set_I {ad : Nat → Nat} {cA : Nat → ClassId} {σ : St} {k i t n : Nat} {x : Int32} (hs : (sh σ k).1 = t) (hn : (sh σ k).2 = n) (h20 : 20 ≤ t) (h1 : t.beq 21 = false) (h2 : Nat.ble 24 t = false) : (wW ad cA σ).set k (ad k, .inl (cA t, (n, .inl (upd (rI σ k) i x)))) = wW ad cA (wI σ k i x) := by
  refine wW_set rfl (fun j hj => eW_n rfl (rI_wI_n hj) rfl rfl) ?_
  rw [eW_arr (σ := wI σ k i x) hs h20]
  unfold arrE
  rw [h1, h2, rI_wI_s]
  show _ = (ad k, Sum.inl (cA t, n, _))
  rw [← hn]; rfl
theorem set_L {ad : Nat → Nat} {cA : Nat → ClassId} {σ : St} {k i n : Nat} {x : Int64} (hs : (sh σ k).1 = 21) (hn : (sh σ k).2 = n) : (wW ad cA σ).set k (ad k, .inl (cA 21, (n, .inr (.inl (vp_updL (rL σ k) i x))))) = wW ad cA (wL σ k i x) := by
  refine wW_set rfl (fun j hj => eW_n rfl rfl (rL_wL_n hj) rfl) ?_
  rw [eW_arr (σ := wL σ k i x) hs (by decide)]
  unfold arrE
  rw [rL_wL_s, ← hn]; rfl
theorem set_R {ad : Nat → Nat} {cA : Nat → ClassId} {σ : St} {k i t n b : Nat} (hs : (sh σ k).1 = t) (hn : (sh σ k).2 = n) (h24 : t = 24 ∨ t = 25) : (wW ad cA σ).set k (ad k, .inl (cA t, (n, .inr (.inr (.inr (.inr (va_up (fun i => (rR σ k i).map ad) i (some (ad b))))))))) = wW ad cA (wR σ k i (some b)) := by
  refine wW_set rfl (fun j hj => eW_n rfl rfl rfl (rR_wR_n hj)) ?_
  rw [eW_arr (σ := wR σ k i (some b)) hs (by omega)]
  unfold arrE
  have e1 : t.beq 21 = false := by rcases h24 with rfl | rfl <;> rfl
  have e2 : Nat.ble 24 t = true := by rcases h24 with rfl | rfl <;> rfl
  have e3 : (fun j => (rR (wR σ k i (some b)) k j).map ad) = va_up (fun i => (rR σ k i).map ad) i (some (ad b)) := by
    funext j
    rw [rR_wR_s]
    unfold va_up
    split <;> rfl
  rw [e1, e2, e3, ← hn]; rfl
theorem cpy_I {ad : Nat → Nat} {cA : Nat → ClassId} {σ : St} {k a sp dp w n : Nat} (hs : (sh σ k).1 = 20) (hn : (sh σ k).2 = n) : (wW ad cA σ).set k (ad k, .inl (cA 20, (n, .inl (va_cpy (rI σ a) (rI σ k) sp dp w)))) = wW ad cA (cI σ a sp k dp w) := by
  have e : ∀ x b, rI (cI σ a sp k dp w) x b = if x = k ∧ dp ≤ b ∧ b < dp + w then rI σ a (sp + (b - dp)) else rI σ x b := fun _ _ => rfl
  refine wW_set rfl (fun j hj => eW_n rfl (funext fun b => by rw [e, if_neg (fun q => hj q.1)]) rfl rfl) ?_
  rw [eW_arr (σ := cI σ a sp k dp w) hs (by decide)]
  unfold arrE
  have e3 : rI (cI σ a sp k dp w) k = va_cpy (rI σ a) (rI σ k) sp dp w := by
    funext b
    rw [e]; unfold va_cpy; simp only [true_and]
  rw [e3, ← hn]; rfl
theorem cpy_B {ad : Nat → Nat} {cA : Nat → ClassId} {σ : St} {k a sp dp w n : Nat} (hs : (sh σ k).1 = 23) (hn : (sh σ k).2 = n) : (wW ad cA σ).set k (ad k, .inl (cA 23, (n, .inl (va_cpy (rI σ a) (rI σ k) sp dp w)))) = wW ad cA (cI σ a sp k dp w) := by
  have e : ∀ x b, rI (cI σ a sp k dp w) x b = if x = k ∧ dp ≤ b ∧ b < dp + w then rI σ a (sp + (b - dp)) else rI σ x b := fun _ _ => rfl
  refine wW_set rfl (fun j hj => eW_n rfl (funext fun b => by rw [e, if_neg (fun q => hj q.1)]) rfl rfl) ?_
  rw [eW_arr (σ := cI σ a sp k dp w) hs (by decide)]
  unfold arrE
  have e3 : rI (cI σ a sp k dp w) k = va_cpy (rI σ a) (rI σ k) sp dp w := by
    funext b
    rw [e]; unfold va_cpy; simp only [true_and]
  rw [e3, ← hn]; rfl
theorem cpy_X {ad : Nat → Nat} {cA : Nat → ClassId} {σ : St} {k a sp dp w n : Nat} (hs : (sh σ k).1 = 23) (hn : (sh σ k).2 = n) : (wW ad cA σ).set k (ad k, .inl (cA 23, (n, .inl (va_cpy (xa σ 44 a).2 (rI σ k) sp dp w)))) = wW ad cA (cX σ a sp k dp w) := by
  have e : ∀ x b, rI (cX σ a sp k dp w) x b = if x = k ∧ dp ≤ b ∧ b < dp + w then (xa σ 44 a).2 (sp + (b - dp)) else rI σ x b := fun _ _ => rfl
  refine wW_set rfl (fun j hj => eW_n rfl (funext fun b => by rw [e, if_neg (fun q => hj q.1)]) rfl rfl) ?_
  rw [eW_arr (σ := cX σ a sp k dp w) hs (by decide)]
  unfold arrE
  have e3 : rI (cX σ a sp k dp w) k = va_cpy (xa σ 44 a).2 (rI σ k) sp dp w := by
    funext b
    rw [e]; unfold va_cpy; simp only [true_and]
  rw [e3, ← hn]; rfl
theorem cpy_L {ad : Nat → Nat} {cA : Nat → ClassId} {σ : St} {k a sp dp w n : Nat} (hs : (sh σ k).1 = 21) (hn : (sh σ k).2 = n) : (wW ad cA σ).set k (ad k, .inl (cA 21, (n, .inr (.inl (va_cpy (rL σ a) (rL σ k) sp dp w))))) = wW ad cA (cL σ a sp k dp w) := by
  have e : ∀ x b, rL (cL σ a sp k dp w) x b = if x = k ∧ dp ≤ b ∧ b < dp + w then rL σ a (sp + (b - dp)) else rL σ x b := fun _ _ => rfl
  refine wW_set rfl (fun j hj => eW_n rfl rfl (funext fun b => by rw [e, if_neg (fun q => hj q.1)]) rfl) ?_
  rw [eW_arr (σ := cL σ a sp k dp w) hs (by decide)]
  unfold arrE
  have e3 : rL (cL σ a sp k dp w) k = va_cpy (rL σ a) (rL σ k) sp dp w := by
    funext b
    rw [e]; unfold va_cpy; simp only [true_and]
  rw [e3, ← hn]; rfl
theorem cA_eq {s : State} {G : va_G} {cA : Nat → ClassId} {c1 : ClassId} {ty : FieldType} {k : Nat} {c0 : ClassId} (hK : va_K G vwCl (tys cA ++ [(c1, ty)]) s) (hk : (tys cA)[k]? = some (c0, ty)) : c1 = c0 := by
  have h6 : (tys cA).length = 6 := rfl
  have hk6 : k < 6 := by have := (List.getElem?_eq_some_iff.mp hk).1; omega
  have a1 := (hK.2 6 (c1, ty) (by rw [List.getElem?_append_right (by omega)]; rfl)).2
  have a2 := (hK.2 k (c0, ty) (by rw [List.getElem?_append_left (by omega)]; exact hk)).2
  have key : ∀ (cB : ClassId), va_RA s cB ty → s.vm.findClass ("[" ++ ty.toString) = some cB := by
    intro cB hB
    cases ty with
    | object C => obtain ⟨_, _, _, _, _, h⟩ := hB; exact h
    | _ => exact hB
  exact Option.some.inj ((key _ a1).symm.trans (key _ a2))
