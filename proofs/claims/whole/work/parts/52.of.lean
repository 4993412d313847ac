/-! of -/
/-- the swimmers and the ways of the eight, on both sides -/
def IPool (X : St) : Prop := X.1 102 0 = X.1 1 1 ∧ 0 ≤ (X.1 1 1).toInt ∧ (X.1 1 1).toInt ≤ 8 ∧ (∀ w k, w < 6 → k < 8 → X.1 (103 + w) k = X.1 (3 + w) k) ∧ (∀ j, j < 3 → X.1 109 j = X.1 (9 + j) 0)
/-- tired and gasped, on both sides -/
def ITir (X : St) : Prop := ∀ k, k < 8 → X.1 110 k = X.1 82 k ∧ X.1 111 k = X.1 83 k
theorem po_tab : ∀ w, w < 6 → (3 + w < NO ∧ knd (3 + w) = 0 ∧ oln (3 + w) = 8) := by decide
theorem po_tab2 : ∀ w, w < 3 → (9 + w < NO ∧ knd (9 + w) = 0 ∧ oln (9 + w) = 8) := by decide
theorem okI_po {w : Nat} {j : Int32} (h : w < 6) : okI (3 + w) j = true ↔ (0 ≤ j.toInt ∧ j.toInt < 8) := by
  obtain ⟨h1, h2, h3⟩ := po_tab w h
  unfold okI
  rw [h2, h3]
  simp only [h1, decide_true, BEq.rfl, Bool.true_and, inB_iff]
  rfl
theorem okI_wy {w : Nat} {j : Int32} (h : w < 3) : okI (9 + w) j = true ↔ (0 ≤ j.toInt ∧ j.toInt < 8) := by
  obtain ⟨h1, h2, h3⟩ := po_tab2 w h
  unfold okI
  rw [h2, h3]
  simp only [h1, decide_true, BEq.rfl, Bool.true_and, inB_iff]
  rfl
theorem keeps0 {a b : Int32} {X : St} : poo_keeps a b X = 0 ↔ ¬ ((0 ≤ b.toInt ∧ b.toInt ≤ 5 ∧ 0 ≤ a.toInt ∧ a.toInt < (X.1 1 1).toInt) ∨ (6 ≤ b.toInt ∧ b.toInt ≤ 8 ∧ a.toInt = 0)) := by
  unfold poo_keeps
  simp only [Int32.lt_iff_toInt_lt, Int32.reduceToInt]
  by_cases h1 : b.toInt < 0
  · simp [h1]; omega
  · by_cases h2 : b.toInt < 9
    · by_cases h3 : a.toInt < 0
      · simp [h1, h2, h3]; omega
      · by_cases h4 : b.toInt < 6
        · by_cases h5 : a.toInt < (X.1 1 1).toInt
          · simp [h1, h2, h3, h4, h5]; omega
          · simp [h1, h2, h3, h4, h5]; omega
        · by_cases h5 : a.toInt < 1
          · simp [h1, h2, h3, h4, h5]; omega
          · simp [h1, h2, h3, h4, h5]; omega
    · simp [h1, h2]; omega
theorem of0 {a b : Int32} {X : St} (h : IPool X) : mo_isOf a b X = 0 ↔ ¬ ((0 ≤ b.toInt ∧ b.toInt ≤ 5 ∧ 0 ≤ a.toInt ∧ a.toInt < (X.1 1 1).toInt) ∨ (6 ≤ b.toInt ∧ b.toInt ≤ 8 ∧ a.toInt = 0)) := by
  obtain ⟨h1, h2, h3, -⟩ := h
  have e : (X.1 1 1 - 1).toInt = (X.1 1 1).toInt - 1 := by rw [ti_sub] <;> simp only [Int32.reduceToInt] <;> omega
  unfold mo_isOf mo_isOne
  by_cases c1 : mo_within b 0 5 = 0
  · rw [if_pos c1]
    rw [within0] at c1
    simp only [Int32.reduceToInt] at c1
    by_cases c2 : mo_within b 6 8 = 0
    · rw [if_pos c2]
      rw [within0] at c2
      simp only [Int32.reduceToInt] at c2
      exact ⟨fun _ => by omega, fun _ => rfl⟩
    · rw [if_neg c2]
      rw [within0] at c2
      simp only [Int32.reduceToInt] at c2
      by_cases c3 : a = 0
      · rw [if_pos c3]
        have := ti_eq.mp c3
        simp only [Int32.reduceToInt] at this
        exact ⟨fun z => absurd z (by decide), fun z => absurd z (by omega)⟩
      · rw [if_neg c3]
        have : ¬ a.toInt = 0 := fun z => c3 (by rw [ti_eq, z]; rfl)
        exact ⟨fun _ => by omega, fun _ => rfl⟩
  · rw [if_neg c1]
    rw [within0] at c1
    simp only [Int32.reduceToInt] at c1
    rw [within0, h1, e]
    simp only [Int32.reduceToInt]
    omega
theorem get_s {a b : Int32} {X : St} (h : IPool X) (hk : (0 ≤ b.toInt ∧ b.toInt ≤ 5 ∧ 0 ≤ a.toInt ∧ a.toInt < (X.1 1 1).toInt) ∨ (6 ≤ b.toInt ∧ b.toInt ≤ 8 ∧ a.toInt = 0)) : mo_get a b X = some (X.1 (3 + nx b) (nx a)) := by
  obtain ⟨h1, h2, h3, h4, h5⟩ := h
  have hb := nx_ti (x := b) (by omega)
  have ha := nx_ti (x := a) (by omega)
  rcases (show b.toInt ≤ 5 ∨ 6 ≤ b.toInt by omega) with c | c
  · rw [← h4 (nx b) (nx a) (by omega) (by omega)]
    unfold mo_get
    rcases (show b = 0 ∨ b = 1 ∨ b = 2 ∨ b = 3 ∨ b = 4 ∨ b = 5 by simp only [ti_eq, Int32.reduceToInt]; omega) with e | e | e | e | e | e <;> subst e <;> simp (disch := omega) only [↓within0, ↓has0, ↓tapFull0, inB_iff, Int32.lt_iff_toInt_lt, ti_eq, Int32.reduceToInt, if_pos, if_neg, Option.bind_some, stI_at, stI_2at, Nat.reduceEqDiff, Nat.reduceBEq, false_and, and_false, true_and, and_self, and_true, ↓reduceIte] <;> rfl
  · have e : a = 0 := by rw [ti_eq]; simp only [Int32.reduceToInt]; omega
    subst e
    unfold mo_get
    rcases (show b = 6 ∨ b = 7 ∨ b = 8 by simp only [ti_eq, Int32.reduceToInt]; omega) with e | e | e <;> subst e
    · have := h5 0 (by omega)
      rw [show (3 + nx (6 : Int32)) = 9 + 0 from rfl, show nx (0 : Int32) = 0 from rfl, ← this]
      rfl
    · have := h5 1 (by omega)
      rw [show (3 + nx (7 : Int32)) = 9 + 1 from rfl, show nx (0 : Int32) = 0 from rfl, ← this]
      rfl
    · have := h5 2 (by omega)
      rw [show (3 + nx (8 : Int32)) = 9 + 2 from rfl, show nx (0 : Int32) = 0 from rfl, ← this]
      rfl
theorem told_s {a b : Int32} {X : St} (hm : (X.1 1 1).toInt ≤ 8) (hk : (0 ≤ b.toInt ∧ b.toInt ≤ 5 ∧ 0 ≤ a.toInt ∧ a.toInt < (X.1 1 1).toInt) ∨ (6 ≤ b.toInt ∧ b.toInt ≤ 8 ∧ a.toInt = 0)) : poo_told a b X = some (X.1 (3 + nx b) (nx a)) := by
  have hb := nx_ti (x := b) (by omega)
  have ha := nx_ti (x := a) (by omega)
  unfold poo_told
  rw [if_neg (fun z => keeps0.mp z hk), if_pos (by rw [inB_iff]; omega)]
  rcases (show nx b < 6 ∨ 6 ≤ nx b by omega) with c | c
  · rw [if_pos ((okI_po c).mpr (by omega))]
  · obtain ⟨w, hw⟩ : ∃ w, nx b = 6 + w := ⟨nx b - 6, by omega⟩
    rw [hw, show 3 + (6 + w) = 9 + w by omega, if_pos ((okI_wy (by omega)).mpr (by omega))]
theorem op_of (a b : Int32) (X : St) (h : IPool X) (hd : ITir X) : ∃ v, el_of a b X = some v ∧ mo_of a b X = some v := by
  have hP := h
  obtain ⟨h1, h2, h3, -⟩ := h
  have e1 : (X.1 1 1 - 1).toInt = (X.1 1 1).toInt - 1 := by rw [ti_sub] <;> simp only [Int32.reduceToInt] <;> omega
  by_cases hb : b.toInt = 9 ∨ b.toInt = 10
  · by_cases ha : a.toInt < 0 ∨ (X.1 1 1).toInt ≤ a.toInt
    · refine ⟨-2000000000, ?_, ?_⟩
      · unfold el_of el_of_J12
        rcases hb with hb | hb
        · simp (disch := omega) only [↓within0, ↓has0, ↓tapFull0, inB_iff, Int32.lt_iff_toInt_lt, ti_eq, Int32.reduceToInt, if_pos, if_neg, Option.bind_some, stI_at, stI_2at, Nat.reduceEqDiff, Nat.reduceBEq, false_and, and_false, true_and, and_self, and_true, ↓reduceIte]
        · simp (disch := omega) only [↓within0, ↓has0, ↓tapFull0, inB_iff, Int32.lt_iff_toInt_lt, ti_eq, Int32.reduceToInt, if_pos, if_neg, Option.bind_some, stI_at, stI_2at, Nat.reduceEqDiff, Nat.reduceBEq, false_and, and_false, true_and, and_self, and_true, ↓reduceIte]
      · unfold mo_of mo_isOne
        rw [h1]
        simp (disch := omega) only [e1, ↓within0, ↓has0, ↓tapFull0, inB_iff, Int32.lt_iff_toInt_lt, ti_eq, Int32.reduceToInt, if_pos, if_neg, Option.bind_some, stI_at, stI_2at, Nat.reduceEqDiff, Nat.reduceBEq, false_and, and_false, true_and, and_self, and_true, ↓reduceIte]
    · have hn := nx_ti (x := a) (by omega)
      obtain ⟨d1, d2⟩ := hd (nx a) (by omega)
      rcases hb with hb | hb
      · refine ⟨X.1 82 (nx a), ?_, ?_⟩
        · unfold el_of el_of_J12 ded_told
          simp (disch := omega) only [↓within0, ↓has0, ↓tapFull0, inB_iff, Int32.lt_iff_toInt_lt, ti_eq, Int32.reduceToInt, if_pos, if_neg, Option.bind_some, stI_at, stI_2at, Nat.reduceEqDiff, Nat.reduceBEq, false_and, and_false, true_and, and_self, and_true, ↓reduceIte]
        · unfold mo_of mo_isOne
          rw [h1, ← d1]
          simp (disch := omega) only [e1, ↓within0, ↓has0, ↓tapFull0, inB_iff, Int32.lt_iff_toInt_lt, ti_eq, Int32.reduceToInt, if_pos, if_neg, Option.bind_some, stI_at, stI_2at, Nat.reduceEqDiff, Nat.reduceBEq, false_and, and_false, true_and, and_self, and_true, ↓reduceIte]
      · refine ⟨X.1 83 (nx a), ?_, ?_⟩
        · unfold el_of el_of_J12 ded_told
          simp (disch := omega) only [↓within0, ↓has0, ↓tapFull0, inB_iff, Int32.lt_iff_toInt_lt, ti_eq, Int32.reduceToInt, if_pos, if_neg, Option.bind_some, stI_at, stI_2at, Nat.reduceEqDiff, Nat.reduceBEq, false_and, and_false, true_and, and_self, and_true, ↓reduceIte]
        · unfold mo_of mo_isOne
          rw [h1, ← d2]
          simp (disch := omega) only [e1, ↓within0, ↓has0, ↓tapFull0, inB_iff, Int32.lt_iff_toInt_lt, ti_eq, Int32.reduceToInt, if_pos, if_neg, Option.bind_some, stI_at, stI_2at, Nat.reduceEqDiff, Nat.reduceBEq, false_and, and_false, true_and, and_self, and_true, ↓reduceIte]
  · by_cases hk : (0 ≤ b.toInt ∧ b.toInt ≤ 5 ∧ 0 ≤ a.toInt ∧ a.toInt < (X.1 1 1).toInt) ∨ (6 ≤ b.toInt ∧ b.toInt ≤ 8 ∧ a.toInt = 0)
    · refine ⟨X.1 (3 + nx b) (nx a), ?_, ?_⟩
      · unfold el_of
        rw [told_s h3 hk, if_neg (fun z => keeps0.mp z hk)]
        simp (disch := omega) only [↓within0, ↓has0, ↓tapFull0, inB_iff, Int32.lt_iff_toInt_lt, ti_eq, Int32.reduceToInt, if_pos, if_neg, Option.bind_some, stI_at, stI_2at, Nat.reduceEqDiff, Nat.reduceBEq, false_and, and_false, true_and, and_self, and_true, ↓reduceIte]
      · unfold mo_of
        rw [get_s hP hk, if_neg (fun z => (of0 hP).mp z hk)]
        simp (disch := omega) only [↓within0, ↓has0, ↓tapFull0, inB_iff, Int32.lt_iff_toInt_lt, ti_eq, Int32.reduceToInt, if_pos, if_neg, Option.bind_some, stI_at, stI_2at, Nat.reduceEqDiff, Nat.reduceBEq, false_and, and_false, true_and, and_self, and_true, ↓reduceIte]
    · refine ⟨-2000000000, ?_, ?_⟩
      · unfold el_of
        rw [if_pos (keeps0.mpr hk)]
        simp (disch := omega) only [↓within0, ↓has0, ↓tapFull0, inB_iff, Int32.lt_iff_toInt_lt, ti_eq, Int32.reduceToInt, if_pos, if_neg, Option.bind_some, stI_at, stI_2at, Nat.reduceEqDiff, Nat.reduceBEq, false_and, and_false, true_and, and_self, and_true, ↓reduceIte]
      · unfold mo_of
        rw [if_pos ((of0 hP).mpr hk)]
        simp (disch := omega) only [↓within0, ↓has0, ↓tapFull0, inB_iff, Int32.lt_iff_toInt_lt, ti_eq, Int32.reduceToInt, if_pos, if_neg, Option.bind_some, stI_at, stI_2at, Nat.reduceEqDiff, Nat.reduceBEq, false_and, and_false, true_and, and_self, and_true, ↓reduceIte]
