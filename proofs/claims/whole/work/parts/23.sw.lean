/-! ===== switches (by program: wip/whole/gensw.py) ===== -/
theorem sw_out {m : Nat} (hm : m < 2 ^ 31) {x : Int32} (h : ¬ (0 ≤ x ∧ x < nI m)) : x.toInt < 0 ∨ (m : Int) - 1 < x.toInt := by
  by_cases h0 : 0 ≤ x
  · right
    have h1 : ¬ x < nI m := fun q => h ⟨h0, q⟩
    rw [Int32.lt_iff_toInt_lt, nI_toInt hm] at h1
    omega
  · left
    rw [Int32.le_iff_toInt_le] at h0
    have e : (0 : Int32).toInt = 0 := by decide
    omega
theorem z_X3_wordOf_1_0 {d : Nat} {Q : Option PV → St → Prop} {σ : St} {ls st : List PV} : At d kX3_wordOf 1 ls (vI (nI 0) :: st) σ Q ↔ At d kX3_wordOf 44 ls st σ Q := at_go (fun _ => rfl)
theorem z_X3_wordOf_1_1 {d : Nat} {Q : Option PV → St → Prop} {σ : St} {ls st : List PV} : At d kX3_wordOf 1 ls (vI (nI 1) :: st) σ Q ↔ At d kX3_wordOf 47 ls st σ Q := at_go (fun _ => rfl)
theorem z_X3_wordOf_1_2 {d : Nat} {Q : Option PV → St → Prop} {σ : St} {ls st : List PV} : At d kX3_wordOf 1 ls (vI (nI 2) :: st) σ Q ↔ At d kX3_wordOf 50 ls st σ Q := at_go (fun _ => rfl)
theorem z_X3_wordOf_1_3 {d : Nat} {Q : Option PV → St → Prop} {σ : St} {ls st : List PV} : At d kX3_wordOf 1 ls (vI (nI 3) :: st) σ Q ↔ At d kX3_wordOf 53 ls st σ Q := at_go (fun _ => rfl)
theorem z_X3_wordOf_1_4 {d : Nat} {Q : Option PV → St → Prop} {σ : St} {ls st : List PV} : At d kX3_wordOf 1 ls (vI (nI 4) :: st) σ Q ↔ At d kX3_wordOf 56 ls st σ Q := at_go (fun _ => rfl)
theorem z_X3_wordOf_1_5 {d : Nat} {Q : Option PV → St → Prop} {σ : St} {ls st : List PV} : At d kX3_wordOf 1 ls (vI (nI 5) :: st) σ Q ↔ At d kX3_wordOf 59 ls st σ Q := at_go (fun _ => rfl)
theorem z_X3_wordOf_1_6 {d : Nat} {Q : Option PV → St → Prop} {σ : St} {ls st : List PV} : At d kX3_wordOf 1 ls (vI (nI 6) :: st) σ Q ↔ At d kX3_wordOf 62 ls st σ Q := at_go (fun _ => rfl)
theorem z_X3_wordOf_1_d {d : Nat} {Q : Option PV → St → Prop} {σ : St} {ls st : List PV} {x : Int32} (h : ¬ (0 ≤ x ∧ x < nI 7)) : At d kX3_wordOf 1 ls (vI x :: st) σ Q ↔ At d kX3_wordOf 65 ls st σ Q := at_go (fun E => by
  show swT 1 64 0 6 #[43, 46, 49, 52, 55, 58, 61] x (fun p => go p ls st σ) = _
  unfold swT
  rw [if_pos (show x.toInt < 0 ∨ 6 < x.toInt from by have := sw_out (m := 7) (by decide) h; omega)]
  rfl)
theorem z_X8_of_25_0 {d : Nat} {Q : Option PV → St → Prop} {σ : St} {ls st : List PV} : At d kX8_of 25 ls (vI (nI 0) :: st) σ Q ↔ At d kX8_of 72 ls st σ Q := at_go (fun _ => rfl)
theorem z_X8_of_25_1 {d : Nat} {Q : Option PV → St → Prop} {σ : St} {ls st : List PV} : At d kX8_of 25 ls (vI (nI 1) :: st) σ Q ↔ At d kX8_of 77 ls st σ Q := at_go (fun _ => rfl)
theorem z_X8_of_25_2 {d : Nat} {Q : Option PV → St → Prop} {σ : St} {ls st : List PV} : At d kX8_of 25 ls (vI (nI 2) :: st) σ Q ↔ At d kX8_of 82 ls st σ Q := at_go (fun _ => rfl)
theorem z_X8_of_25_3 {d : Nat} {Q : Option PV → St → Prop} {σ : St} {ls st : List PV} : At d kX8_of 25 ls (vI (nI 3) :: st) σ Q ↔ At d kX8_of 87 ls st σ Q := at_go (fun _ => rfl)
theorem z_X8_of_25_4 {d : Nat} {Q : Option PV → St → Prop} {σ : St} {ls st : List PV} : At d kX8_of 25 ls (vI (nI 4) :: st) σ Q ↔ At d kX8_of 92 ls st σ Q := at_go (fun _ => rfl)
theorem z_X8_of_25_5 {d : Nat} {Q : Option PV → St → Prop} {σ : St} {ls st : List PV} : At d kX8_of 25 ls (vI (nI 5) :: st) σ Q ↔ At d kX8_of 97 ls st σ Q := at_go (fun _ => rfl)
theorem z_X8_of_25_6 {d : Nat} {Q : Option PV → St → Prop} {σ : St} {ls st : List PV} : At d kX8_of 25 ls (vI (nI 6) :: st) σ Q ↔ At d kX8_of 102 ls st σ Q := at_go (fun _ => rfl)
theorem z_X8_of_25_7 {d : Nat} {Q : Option PV → St → Prop} {σ : St} {ls st : List PV} : At d kX8_of 25 ls (vI (nI 7) :: st) σ Q ↔ At d kX8_of 115 ls st σ Q := at_go (fun _ => rfl)
theorem z_X8_of_25_d {d : Nat} {Q : Option PV → St → Prop} {σ : St} {ls st : List PV} {x : Int32} (h : ¬ (0 ≤ x ∧ x < nI 8)) : At d kX8_of 25 ls (vI x :: st) σ Q ↔ At d kX8_of 131 ls st σ Q := at_go (fun E => by
  show swT 25 106 0 7 #[47, 52, 57, 62, 67, 72, 77, 90] x (fun p => go p ls st σ) = _
  unfold swT
  rw [if_pos (show x.toInt < 0 ∨ 7 < x.toInt from by have := sw_out (m := 8) (by decide) h; omega)]
  rfl)
theorem z_X8_leaves_42_0 {d : Nat} {Q : Option PV → St → Prop} {σ : St} {ls st : List PV} : At d kX8_leaves 42 ls (vI (nI 0) :: st) σ Q ↔ At d kX8_leaves 68 ls st σ Q := at_go (fun _ => rfl)
theorem z_X8_leaves_42_1 {d : Nat} {Q : Option PV → St → Prop} {σ : St} {ls st : List PV} : At d kX8_leaves 42 ls (vI (nI 1) :: st) σ Q ↔ At d kX8_leaves 78 ls st σ Q := at_go (fun _ => rfl)
theorem z_X8_leaves_42_2 {d : Nat} {Q : Option PV → St → Prop} {σ : St} {ls st : List PV} : At d kX8_leaves 42 ls (vI (nI 2) :: st) σ Q ↔ At d kX8_leaves 88 ls st σ Q := at_go (fun _ => rfl)
theorem z_X8_leaves_42_d {d : Nat} {Q : Option PV → St → Prop} {σ : St} {ls st : List PV} {x : Int32} (h : ¬ (0 ≤ x ∧ x < nI 3)) : At d kX8_leaves 42 ls (vI x :: st) σ Q ↔ At d kX8_leaves 103 ls st σ Q := at_go (fun E => by
  show swT 42 61 0 2 #[26, 36, 46] x (fun p => go p ls st σ) = _
  unfold swT
  rw [if_pos (show x.toInt < 0 ∨ 2 < x.toInt from by have := sw_out (m := 3) (by decide) h; omega)]
  rfl)
theorem z_X8_cluster_73_0 {d : Nat} {Q : Option PV → St → Prop} {σ : St} {ls st : List PV} : At d kX8_cluster 73 ls (vI (nI 0) :: st) σ Q ↔ At d kX8_cluster 100 ls st σ Q := at_go (fun _ => rfl)
theorem z_X8_cluster_73_1 {d : Nat} {Q : Option PV → St → Prop} {σ : St} {ls st : List PV} : At d kX8_cluster 73 ls (vI (nI 1) :: st) σ Q ↔ At d kX8_cluster 110 ls st σ Q := at_go (fun _ => rfl)
theorem z_X8_count_1_0 {d : Nat} {Q : Option PV → St → Prop} {σ : St} {ls st : List PV} : At d kX8_count 1 ls (vI (nI 0) :: st) σ Q ↔ At d kX8_count 44 ls st σ Q := at_go (fun _ => rfl)
theorem z_X8_count_1_1 {d : Nat} {Q : Option PV → St → Prop} {σ : St} {ls st : List PV} : At d kX8_count 1 ls (vI (nI 1) :: st) σ Q ↔ At d kX8_count 52 ls st σ Q := at_go (fun _ => rfl)
theorem z_X8_count_1_2 {d : Nat} {Q : Option PV → St → Prop} {σ : St} {ls st : List PV} : At d kX8_count 1 ls (vI (nI 2) :: st) σ Q ↔ At d kX8_count 60 ls st σ Q := at_go (fun _ => rfl)
theorem z_X8_count_1_3 {d : Nat} {Q : Option PV → St → Prop} {σ : St} {ls st : List PV} : At d kX8_count 1 ls (vI (nI 3) :: st) σ Q ↔ At d kX8_count 68 ls st σ Q := at_go (fun _ => rfl)
theorem z_X8_count_1_4 {d : Nat} {Q : Option PV → St → Prop} {σ : St} {ls st : List PV} : At d kX8_count 1 ls (vI (nI 4) :: st) σ Q ↔ At d kX8_count 76 ls st σ Q := at_go (fun _ => rfl)
theorem z_X8_count_1_5 {d : Nat} {Q : Option PV → St → Prop} {σ : St} {ls st : List PV} : At d kX8_count 1 ls (vI (nI 5) :: st) σ Q ↔ At d kX8_count 84 ls st σ Q := at_go (fun _ => rfl)
theorem z_X8_count_1_6 {d : Nat} {Q : Option PV → St → Prop} {σ : St} {ls st : List PV} : At d kX8_count 1 ls (vI (nI 6) :: st) σ Q ↔ At d kX8_count 96 ls st σ Q := at_go (fun _ => rfl)
theorem z_X8_count_1_d {d : Nat} {Q : Option PV → St → Prop} {σ : St} {ls st : List PV} {x : Int32} (h : ¬ (0 ≤ x ∧ x < nI 7)) : At d kX8_count 1 ls (vI x :: st) σ Q ↔ At d kX8_count 104 ls st σ Q := at_go (fun E => by
  show swT 1 103 0 6 #[43, 51, 59, 67, 75, 83, 95] x (fun p => go p ls st σ) = _
  unfold swT
  rw [if_pos (show x.toInt < 0 ∨ 6 < x.toInt from by have := sw_out (m := 7) (by decide) h; omega)]
  rfl)
theorem z_X8_doClause_1_0 {d : Nat} {Q : Option PV → St → Prop} {σ : St} {ls st : List PV} : At d kX8_doClause 1 ls (vI (nI 0) :: st) σ Q ↔ At d kX8_doClause 48 ls st σ Q := at_go (fun _ => rfl)
theorem z_X8_doClause_1_1 {d : Nat} {Q : Option PV → St → Prop} {σ : St} {ls st : List PV} : At d kX8_doClause 1 ls (vI (nI 1) :: st) σ Q ↔ At d kX8_doClause 69 ls st σ Q := at_go (fun _ => rfl)
theorem z_X8_doClause_1_2 {d : Nat} {Q : Option PV → St → Prop} {σ : St} {ls st : List PV} : At d kX8_doClause 1 ls (vI (nI 2) :: st) σ Q ↔ At d kX8_doClause 90 ls st σ Q := at_go (fun _ => rfl)
theorem z_X8_doClause_1_3 {d : Nat} {Q : Option PV → St → Prop} {σ : St} {ls st : List PV} : At d kX8_doClause 1 ls (vI (nI 3) :: st) σ Q ↔ At d kX8_doClause 111 ls st σ Q := at_go (fun _ => rfl)
theorem z_X8_doClause_1_4 {d : Nat} {Q : Option PV → St → Prop} {σ : St} {ls st : List PV} : At d kX8_doClause 1 ls (vI (nI 4) :: st) σ Q ↔ At d kX8_doClause 132 ls st σ Q := at_go (fun _ => rfl)
theorem z_X8_doClause_1_5 {d : Nat} {Q : Option PV → St → Prop} {σ : St} {ls st : List PV} : At d kX8_doClause 1 ls (vI (nI 5) :: st) σ Q ↔ At d kX8_doClause 152 ls st σ Q := at_go (fun _ => rfl)
theorem z_X8_doClause_1_6 {d : Nat} {Q : Option PV → St → Prop} {σ : St} {ls st : List PV} : At d kX8_doClause 1 ls (vI (nI 6) :: st) σ Q ↔ At d kX8_doClause 166 ls st σ Q := at_go (fun _ => rfl)
theorem z_X8_doClause_1_7 {d : Nat} {Q : Option PV → St → Prop} {σ : St} {ls st : List PV} : At d kX8_doClause 1 ls (vI (nI 7) :: st) σ Q ↔ At d kX8_doClause 180 ls st σ Q := at_go (fun _ => rfl)
theorem z_X8_doClause_1_d {d : Nat} {Q : Option PV → St → Prop} {σ : St} {ls st : List PV} {x : Int32} (h : ¬ (0 ≤ x ∧ x < nI 8)) : At d kX8_doClause 1 ls (vI x :: st) σ Q ↔ At d kX8_doClause 197 ls st σ Q := at_go (fun E => by
  show swT 1 196 0 7 #[47, 68, 89, 110, 131, 151, 165, 179] x (fun p => go p ls st σ) = _
  unfold swT
  rw [if_pos (show x.toInt < 0 ∨ 7 < x.toInt from by have := sw_out (m := 8) (by decide) h; omega)]
  rfl)
theorem z_X9_isDone_50_0 {d : Nat} {Q : Option PV → St → Prop} {σ : St} {ls st : List PV} : At d kX9_isDone 50 ls (vI (nI 0) :: st) σ Q ↔ At d kX9_isDone 168 ls st σ Q := at_go (fun _ => rfl)
theorem z_X9_isDone_50_1 {d : Nat} {Q : Option PV → St → Prop} {σ : St} {ls st : List PV} : At d kX9_isDone 50 ls (vI (nI 1) :: st) σ Q ↔ At d kX9_isDone 168 ls st σ Q := at_go (fun _ => rfl)
theorem z_X9_isDone_50_2 {d : Nat} {Q : Option PV → St → Prop} {σ : St} {ls st : List PV} : At d kX9_isDone 50 ls (vI (nI 2) :: st) σ Q ↔ At d kX9_isDone 168 ls st σ Q := at_go (fun _ => rfl)
theorem z_X9_isDone_50_3 {d : Nat} {Q : Option PV → St → Prop} {σ : St} {ls st : List PV} : At d kX9_isDone 50 ls (vI (nI 3) :: st) σ Q ↔ At d kX9_isDone 168 ls st σ Q := at_go (fun _ => rfl)
theorem z_X9_isDone_50_4 {d : Nat} {Q : Option PV → St → Prop} {σ : St} {ls st : List PV} : At d kX9_isDone 50 ls (vI (nI 4) :: st) σ Q ↔ At d kX9_isDone 80 ls st σ Q := at_go (fun _ => rfl)
theorem z_X9_isDone_50_5 {d : Nat} {Q : Option PV → St → Prop} {σ : St} {ls st : List PV} : At d kX9_isDone 50 ls (vI (nI 5) :: st) σ Q ↔ At d kX9_isDone 109 ls st σ Q := at_go (fun _ => rfl)
theorem z_X9_isDone_50_6 {d : Nat} {Q : Option PV → St → Prop} {σ : St} {ls st : List PV} : At d kX9_isDone 50 ls (vI (nI 6) :: st) σ Q ↔ At d kX9_isDone 129 ls st σ Q := at_go (fun _ => rfl)
theorem z_X9_isDone_50_7 {d : Nat} {Q : Option PV → St → Prop} {σ : St} {ls st : List PV} : At d kX9_isDone 50 ls (vI (nI 7) :: st) σ Q ↔ At d kX9_isDone 149 ls st σ Q := at_go (fun _ => rfl)
theorem z_X9_isDone_50_d {d : Nat} {Q : Option PV → St → Prop} {σ : St} {ls st : List PV} {x : Int32} (h : ¬ (0 ≤ x ∧ x < nI 8)) : At d kX9_isDone 50 ls (vI x :: st) σ Q ↔ At d kX9_isDone 168 ls st σ Q := at_go (fun E => by
  show swT 50 118 4 7 #[30, 59, 79, 99] x (fun p => go p ls st σ) = _
  unfold swT
  rw [if_pos (show x.toInt < 4 ∨ 7 < x.toInt from by have := sw_out (m := 8) (by decide) h; omega)]
  rfl)
theorem z_X9_numberOf_57_0 {d : Nat} {Q : Option PV → St → Prop} {σ : St} {ls st : List PV} : At d kX9_numberOf 57 ls (vI (nI 0) :: st) σ Q ↔ At d kX9_numberOf 84 ls st σ Q := at_go (fun _ => rfl)
theorem z_X9_numberOf_57_1 {d : Nat} {Q : Option PV → St → Prop} {σ : St} {ls st : List PV} : At d kX9_numberOf 57 ls (vI (nI 1) :: st) σ Q ↔ At d kX9_numberOf 121 ls st σ Q := at_go (fun _ => rfl)
theorem z_X9_numberOf_57_2 {d : Nat} {Q : Option PV → St → Prop} {σ : St} {ls st : List PV} : At d kX9_numberOf 57 ls (vI (nI 2) :: st) σ Q ↔ At d kX9_numberOf 148 ls st σ Q := at_go (fun _ => rfl)
theorem z_X9_numberOf_57_d {d : Nat} {Q : Option PV → St → Prop} {σ : St} {ls st : List PV} {x : Int32} (h : ¬ (0 ≤ x ∧ x < nI 3)) : At d kX9_numberOf 57 ls (vI x :: st) σ Q ↔ At d kX9_numberOf 175 ls st σ Q := at_go (fun E => by
  show swT 57 118 0 2 #[27, 64, 91] x (fun p => go p ls st σ) = _
  unfold swT
  rw [if_pos (show x.toInt < 0 ∨ 2 < x.toInt from by have := sw_out (m := 3) (by decide) h; omega)]
  rfl)
theorem z_X9_count_1_0 {d : Nat} {Q : Option PV → St → Prop} {σ : St} {ls st : List PV} : At d kX9_count 1 ls (vI (nI 0) :: st) σ Q ↔ At d kX9_count 44 ls st σ Q := at_go (fun _ => rfl)
theorem z_X9_count_1_1 {d : Nat} {Q : Option PV → St → Prop} {σ : St} {ls st : List PV} : At d kX9_count 1 ls (vI (nI 1) :: st) σ Q ↔ At d kX9_count 49 ls st σ Q := at_go (fun _ => rfl)
theorem z_X9_count_1_2 {d : Nat} {Q : Option PV → St → Prop} {σ : St} {ls st : List PV} : At d kX9_count 1 ls (vI (nI 2) :: st) σ Q ↔ At d kX9_count 54 ls st σ Q := at_go (fun _ => rfl)
theorem z_X9_count_1_3 {d : Nat} {Q : Option PV → St → Prop} {σ : St} {ls st : List PV} : At d kX9_count 1 ls (vI (nI 3) :: st) σ Q ↔ At d kX9_count 54 ls st σ Q := at_go (fun _ => rfl)
theorem z_X9_count_1_4 {d : Nat} {Q : Option PV → St → Prop} {σ : St} {ls st : List PV} : At d kX9_count 1 ls (vI (nI 4) :: st) σ Q ↔ At d kX9_count 60 ls st σ Q := at_go (fun _ => rfl)
theorem z_X9_count_1_5 {d : Nat} {Q : Option PV → St → Prop} {σ : St} {ls st : List PV} : At d kX9_count 1 ls (vI (nI 5) :: st) σ Q ↔ At d kX9_count 65 ls st σ Q := at_go (fun _ => rfl)
theorem z_X9_count_1_6 {d : Nat} {Q : Option PV → St → Prop} {σ : St} {ls st : List PV} : At d kX9_count 1 ls (vI (nI 6) :: st) σ Q ↔ At d kX9_count 74 ls st σ Q := at_go (fun _ => rfl)
theorem z_X9_count_1_d {d : Nat} {Q : Option PV → St → Prop} {σ : St} {ls st : List PV} {x : Int32} (h : ¬ (0 ≤ x ∧ x < nI 7)) : At d kX9_count 1 ls (vI x :: st) σ Q ↔ At d kX9_count 79 ls st σ Q := at_go (fun E => by
  show swT 1 78 0 6 #[43, 48, 53, 53, 59, 64, 73] x (fun p => go p ls st σ) = _
  unfold swT
  rw [if_pos (show x.toInt < 0 ∨ 6 < x.toInt from by have := sw_out (m := 7) (by decide) h; omega)]
  rfl)
set_option maxRecDepth 30000 in theorem z_L_law_33_0 {d : Nat} {Q : Option PV → St → Prop} {σ : St} {ls st : List PV} : At d kL_law 33 ls (vI (nI 0) :: st) σ Q ↔ At d kL_law 188 ls st σ Q := at_go (fun _ => rfl)
set_option maxRecDepth 30000 in theorem z_L_law_33_1 {d : Nat} {Q : Option PV → St → Prop} {σ : St} {ls st : List PV} : At d kL_law 33 ls (vI (nI 1) :: st) σ Q ↔ At d kL_law 241 ls st σ Q := at_go (fun _ => rfl)
set_option maxRecDepth 30000 in theorem z_L_law_33_2 {d : Nat} {Q : Option PV → St → Prop} {σ : St} {ls st : List PV} : At d kL_law 33 ls (vI (nI 2) :: st) σ Q ↔ At d kL_law 304 ls st σ Q := at_go (fun _ => rfl)
set_option maxRecDepth 30000 in theorem z_L_law_33_3 {d : Nat} {Q : Option PV → St → Prop} {σ : St} {ls st : List PV} : At d kL_law 33 ls (vI (nI 3) :: st) σ Q ↔ At d kL_law 337 ls st σ Q := at_go (fun _ => rfl)
set_option maxRecDepth 30000 in theorem z_L_law_33_4 {d : Nat} {Q : Option PV → St → Prop} {σ : St} {ls st : List PV} : At d kL_law 33 ls (vI (nI 4) :: st) σ Q ↔ At d kL_law 370 ls st σ Q := at_go (fun _ => rfl)
set_option maxRecDepth 30000 in theorem z_L_law_33_5 {d : Nat} {Q : Option PV → St → Prop} {σ : St} {ls st : List PV} : At d kL_law 33 ls (vI (nI 5) :: st) σ Q ↔ At d kL_law 423 ls st σ Q := at_go (fun _ => rfl)
set_option maxRecDepth 30000 in theorem z_L_law_33_6 {d : Nat} {Q : Option PV → St → Prop} {σ : St} {ls st : List PV} : At d kL_law 33 ls (vI (nI 6) :: st) σ Q ↔ At d kL_law 446 ls st σ Q := at_go (fun _ => rfl)
set_option maxRecDepth 30000 in theorem z_L_law_33_7 {d : Nat} {Q : Option PV → St → Prop} {σ : St} {ls st : List PV} : At d kL_law 33 ls (vI (nI 7) :: st) σ Q ↔ At d kL_law 459 ls st σ Q := at_go (fun _ => rfl)
set_option maxRecDepth 30000 in theorem z_L_law_33_8 {d : Nat} {Q : Option PV → St → Prop} {σ : St} {ls st : List PV} : At d kL_law 33 ls (vI (nI 8) :: st) σ Q ↔ At d kL_law 492 ls st σ Q := at_go (fun _ => rfl)
set_option maxRecDepth 30000 in theorem z_L_law_33_9 {d : Nat} {Q : Option PV → St → Prop} {σ : St} {ls st : List PV} : At d kL_law 33 ls (vI (nI 9) :: st) σ Q ↔ At d kL_law 535 ls st σ Q := at_go (fun _ => rfl)
set_option maxRecDepth 30000 in theorem z_L_law_33_10 {d : Nat} {Q : Option PV → St → Prop} {σ : St} {ls st : List PV} : At d kL_law 33 ls (vI (nI 10) :: st) σ Q ↔ At d kL_law 568 ls st σ Q := at_go (fun _ => rfl)
set_option maxRecDepth 30000 in theorem z_L_law_33_11 {d : Nat} {Q : Option PV → St → Prop} {σ : St} {ls st : List PV} : At d kL_law 33 ls (vI (nI 11) :: st) σ Q ↔ At d kL_law 582 ls st σ Q := at_go (fun _ => rfl)
set_option maxRecDepth 30000 in theorem z_L_law_33_12 {d : Nat} {Q : Option PV → St → Prop} {σ : St} {ls st : List PV} : At d kL_law 33 ls (vI (nI 12) :: st) σ Q ↔ At d kL_law 606 ls st σ Q := at_go (fun _ => rfl)
set_option maxRecDepth 30000 in theorem z_L_law_33_13 {d : Nat} {Q : Option PV → St → Prop} {σ : St} {ls st : List PV} : At d kL_law 33 ls (vI (nI 13) :: st) σ Q ↔ At d kL_law 650 ls st σ Q := at_go (fun _ => rfl)
set_option maxRecDepth 30000 in theorem z_L_law_33_14 {d : Nat} {Q : Option PV → St → Prop} {σ : St} {ls st : List PV} : At d kL_law 33 ls (vI (nI 14) :: st) σ Q ↔ At d kL_law 714 ls st σ Q := at_go (fun _ => rfl)
set_option maxRecDepth 30000 in theorem z_L_law_33_15 {d : Nat} {Q : Option PV → St → Prop} {σ : St} {ls st : List PV} : At d kL_law 33 ls (vI (nI 15) :: st) σ Q ↔ At d kL_law 748 ls st σ Q := at_go (fun _ => rfl)
set_option maxRecDepth 30000 in theorem z_L_law_33_16 {d : Nat} {Q : Option PV → St → Prop} {σ : St} {ls st : List PV} : At d kL_law 33 ls (vI (nI 16) :: st) σ Q ↔ At d kL_law 812 ls st σ Q := at_go (fun _ => rfl)
set_option maxRecDepth 30000 in theorem z_L_law_33_17 {d : Nat} {Q : Option PV → St → Prop} {σ : St} {ls st : List PV} : At d kL_law 33 ls (vI (nI 17) :: st) σ Q ↔ At d kL_law 866 ls st σ Q := at_go (fun _ => rfl)
set_option maxRecDepth 30000 in theorem z_L_law_33_18 {d : Nat} {Q : Option PV → St → Prop} {σ : St} {ls st : List PV} : At d kL_law 33 ls (vI (nI 18) :: st) σ Q ↔ At d kL_law 889 ls st σ Q := at_go (fun _ => rfl)
set_option maxRecDepth 30000 in theorem z_L_law_33_19 {d : Nat} {Q : Option PV → St → Prop} {σ : St} {ls st : List PV} : At d kL_law 33 ls (vI (nI 19) :: st) σ Q ↔ At d kL_law 922 ls st σ Q := at_go (fun _ => rfl)
set_option maxRecDepth 30000 in theorem z_L_law_33_20 {d : Nat} {Q : Option PV → St → Prop} {σ : St} {ls st : List PV} : At d kL_law 33 ls (vI (nI 20) :: st) σ Q ↔ At d kL_law 966 ls st σ Q := at_go (fun _ => rfl)
set_option maxRecDepth 30000 in theorem z_L_law_33_21 {d : Nat} {Q : Option PV → St → Prop} {σ : St} {ls st : List PV} : At d kL_law 33 ls (vI (nI 21) :: st) σ Q ↔ At d kL_law 989 ls st σ Q := at_go (fun _ => rfl)
set_option maxRecDepth 30000 in theorem z_L_law_33_22 {d : Nat} {Q : Option PV → St → Prop} {σ : St} {ls st : List PV} : At d kL_law 33 ls (vI (nI 22) :: st) σ Q ↔ At d kL_law 1022 ls st σ Q := at_go (fun _ => rfl)
set_option maxRecDepth 30000 in theorem z_L_law_33_23 {d : Nat} {Q : Option PV → St → Prop} {σ : St} {ls st : List PV} : At d kL_law 33 ls (vI (nI 23) :: st) σ Q ↔ At d kL_law 1055 ls st σ Q := at_go (fun _ => rfl)
set_option maxRecDepth 30000 in theorem z_L_law_33_24 {d : Nat} {Q : Option PV → St → Prop} {σ : St} {ls st : List PV} : At d kL_law 33 ls (vI (nI 24) :: st) σ Q ↔ At d kL_law 1078 ls st σ Q := at_go (fun _ => rfl)
set_option maxRecDepth 30000 in theorem z_L_law_33_25 {d : Nat} {Q : Option PV → St → Prop} {σ : St} {ls st : List PV} : At d kL_law 33 ls (vI (nI 25) :: st) σ Q ↔ At d kL_law 1111 ls st σ Q := at_go (fun _ => rfl)
set_option maxRecDepth 30000 in theorem z_L_law_33_26 {d : Nat} {Q : Option PV → St → Prop} {σ : St} {ls st : List PV} : At d kL_law 33 ls (vI (nI 26) :: st) σ Q ↔ At d kL_law 1174 ls st σ Q := at_go (fun _ => rfl)
set_option maxRecDepth 30000 in theorem z_L_law_33_27 {d : Nat} {Q : Option PV → St → Prop} {σ : St} {ls st : List PV} : At d kL_law 33 ls (vI (nI 27) :: st) σ Q ↔ At d kL_law 1197 ls st σ Q := at_go (fun _ => rfl)
set_option maxRecDepth 30000 in theorem z_L_law_33_28 {d : Nat} {Q : Option PV → St → Prop} {σ : St} {ls st : List PV} : At d kL_law 33 ls (vI (nI 28) :: st) σ Q ↔ At d kL_law 1230 ls st σ Q := at_go (fun _ => rfl)
set_option maxRecDepth 30000 in theorem z_L_law_33_29 {d : Nat} {Q : Option PV → St → Prop} {σ : St} {ls st : List PV} : At d kL_law 33 ls (vI (nI 29) :: st) σ Q ↔ At d kL_law 1243 ls st σ Q := at_go (fun _ => rfl)
set_option maxRecDepth 30000 in theorem z_L_law_33_30 {d : Nat} {Q : Option PV → St → Prop} {σ : St} {ls st : List PV} : At d kL_law 33 ls (vI (nI 30) :: st) σ Q ↔ At d kL_law 1256 ls st σ Q := at_go (fun _ => rfl)
set_option maxRecDepth 30000 in theorem z_L_law_33_31 {d : Nat} {Q : Option PV → St → Prop} {σ : St} {ls st : List PV} : At d kL_law 33 ls (vI (nI 31) :: st) σ Q ↔ At d kL_law 1279 ls st σ Q := at_go (fun _ => rfl)
set_option maxRecDepth 30000 in theorem z_L_law_33_32 {d : Nat} {Q : Option PV → St → Prop} {σ : St} {ls st : List PV} : At d kL_law 33 ls (vI (nI 32) :: st) σ Q ↔ At d kL_law 1322 ls st σ Q := at_go (fun _ => rfl)
set_option maxRecDepth 30000 in theorem z_L_law_33_33 {d : Nat} {Q : Option PV → St → Prop} {σ : St} {ls st : List PV} : At d kL_law 33 ls (vI (nI 33) :: st) σ Q ↔ At d kL_law 1395 ls st σ Q := at_go (fun _ => rfl)
set_option maxRecDepth 30000 in theorem z_L_law_33_34 {d : Nat} {Q : Option PV → St → Prop} {σ : St} {ls st : List PV} : At d kL_law 33 ls (vI (nI 34) :: st) σ Q ↔ At d kL_law 1429 ls st σ Q := at_go (fun _ => rfl)
set_option maxRecDepth 30000 in theorem z_L_law_33_d {d : Nat} {Q : Option PV → St → Prop} {σ : St} {ls st : List PV} {x : Int32} (h : ¬ (0 ≤ x ∧ x < nI 35)) : At d kL_law 33 ls (vI x :: st) σ Q ↔ At d kL_law 1492 ls st σ Q := at_go (fun E => by
  show swT 33 1459 0 34 #[155, 208, 271, 304, 337, 390, 413, 426, 459, 502, 535, 549, 573, 617, 681, 715, 779, 833, 856, 889, 933, 956, 989, 1022, 1045, 1078, 1141, 1164, 1197, 1210, 1223, 1246, 1289, 1362, 1396] x (fun p => go p ls st σ) = _
  unfold swT
  rw [if_pos (show x.toInt < 0 ∨ 34 < x.toInt from by have := sw_out (m := 35) (by decide) h; omega)]
  rfl)
