/-! small askings -/
theorem within0 {v a b : Int32} : mo_within v a b = 0 ↔ (v.toInt < a.toInt ∨ b.toInt < v.toInt) := by
  unfold mo_within
  simp only [Int32.lt_iff_toInt_lt]
  by_cases h1 : v.toInt < a.toInt <;> by_cases h2 : b.toInt < v.toInt <;> simp [h1, h2]
theorem has0 {v : Int32} {X : St} : poo_has v X = 0 ↔ (v.toInt < 0 ∨ (X.1 1 1).toInt ≤ v.toInt) := by
  unfold poo_has
  simp only [Int32.lt_iff_toInt_lt, Int32.reduceToInt]
  by_cases h1 : v.toInt < 0 <;> by_cases h2 : v.toInt < (X.1 1 1).toInt <;> simp [h1, h2] <;> omega
theorem tapFull0 {X : St} : tap_isFull X = 0 ↔ (X.1 17 2).toInt < 120 := by
  unfold tap_isFull
  simp only [Int32.lt_iff_toInt_lt, Int32.reduceToInt]
  by_cases h1 : (X.1 17 2).toInt < 120 <;> simp [h1]
def ILed (X : St) : Prop := ∀ i, i < 5 → X.1 123 i = X.1 84 i
theorem op_led (a : Int32) (X : St) (h : ILed X) : ∃ v, el_led a X = some v ∧ mo_led a X = some v := by
  rcases (show a.toInt < 0 ∨ 5 ≤ a.toInt ∨ (0 ≤ a.toInt ∧ a.toInt < 5) by omega) with ha | ha | ha
  · refine ⟨-1, ?_, ?_⟩
    · simp (disch := omega) only [el_led, ded_inAll, ↓within0, ↓has0, ↓tapFull0, inB_iff, Int32.lt_iff_toInt_lt, ti_eq, Int32.reduceToInt, if_pos, if_neg, Option.bind_some, stI_at, stI_2at, Nat.reduceEqDiff, Nat.reduceBEq, false_and, and_false, true_and, and_self, and_true, ↓reduceIte]
    · simp (disch := omega) only [mo_led, ↓within0, ↓has0, ↓tapFull0, inB_iff, Int32.lt_iff_toInt_lt, ti_eq, Int32.reduceToInt, if_pos, if_neg, Option.bind_some, stI_at, stI_2at, Nat.reduceEqDiff, Nat.reduceBEq, false_and, and_false, true_and, and_self, and_true, ↓reduceIte]
  · refine ⟨-1, ?_, ?_⟩
    · simp (disch := omega) only [el_led, ded_inAll, ↓within0, ↓has0, ↓tapFull0, inB_iff, Int32.lt_iff_toInt_lt, ti_eq, Int32.reduceToInt, if_pos, if_neg, Option.bind_some, stI_at, stI_2at, Nat.reduceEqDiff, Nat.reduceBEq, false_and, and_false, true_and, and_self, and_true, ↓reduceIte]
    · simp (disch := omega) only [mo_led, ↓within0, ↓has0, ↓tapFull0, inB_iff, Int32.lt_iff_toInt_lt, ti_eq, Int32.reduceToInt, if_pos, if_neg, Option.bind_some, stI_at, stI_2at, Nat.reduceEqDiff, Nat.reduceBEq, false_and, and_false, true_and, and_self, and_true, ↓reduceIte]
  · have hn := nx_ti ha.1
    refine ⟨X.1 84 (nx a), ?_, ?_⟩
    · simp (disch := omega) only [el_led, ded_inAll, ↓within0, ↓has0, ↓tapFull0, inB_iff, Int32.lt_iff_toInt_lt, ti_eq, Int32.reduceToInt, if_pos, if_neg, Option.bind_some, stI_at, stI_2at, Nat.reduceEqDiff, Nat.reduceBEq, false_and, and_false, true_and, and_self, and_true, ↓reduceIte]
    · rw [← h (nx a) (by omega)]
      simp (disch := omega) only [mo_led, ↓within0, ↓has0, ↓tapFull0, inB_iff, Int32.lt_iff_toInt_lt, ti_eq, Int32.reduceToInt, if_pos, if_neg, Option.bind_some, stI_at, stI_2at, Nat.reduceEqDiff, Nat.reduceBEq, false_and, and_false, true_and, and_self, and_true, ↓reduceIte]
def ITape (X : St) : Prop := X.1 102 10 = X.1 17 2 ∧ 0 ≤ (X.1 17 2).toInt ∧ (X.1 17 2).toInt ≤ 120 ∧ ∀ i : Nat, (i : Int) < (X.1 17 2).toInt → X.1 112 i = X.1 18 i ∧ 0 ≤ (X.1 18 i).toInt ∧ (X.1 18 i).toInt ≤ 255
theorem op_feed (a : Int32) (X : St) (h : ITape X) : ∃ v X1 X2, el_feed a X = some (v, X1) ∧ mo_feed a X1 = some (v, X2) ∧ ITape X2 := by
  obtain ⟨h1, h2, h3, h4⟩ := h
  rcases (show a.toInt < 0 ∨ 255 < a.toInt ∨ (0 ≤ a.toInt ∧ a.toInt ≤ 255) by omega) with ha | ha | ha
  · refine ⟨-1, X, X, ?_, ?_, h1, h2, h3, h4⟩
    · simp (disch := omega) only [el_feed, ↓within0, ↓has0, ↓tapFull0, inB_iff, Int32.lt_iff_toInt_lt, ti_eq, Int32.reduceToInt, if_pos, if_neg, Option.bind_some, stI_at, stI_2at, Nat.reduceEqDiff, Nat.reduceBEq, false_and, and_false, true_and, and_self, and_true, ↓reduceIte]
    · simp (disch := omega) only [mo_feed, ↓within0, ↓has0, ↓tapFull0, inB_iff, Int32.lt_iff_toInt_lt, ti_eq, Int32.reduceToInt, if_pos, if_neg, Option.bind_some, stI_at, stI_2at, Nat.reduceEqDiff, Nat.reduceBEq, false_and, and_false, true_and, and_self, and_true, ↓reduceIte]
  · refine ⟨-1, X, X, ?_, ?_, h1, h2, h3, h4⟩
    · simp (disch := omega) only [el_feed, ↓within0, ↓has0, ↓tapFull0, inB_iff, Int32.lt_iff_toInt_lt, ti_eq, Int32.reduceToInt, if_pos, if_neg, Option.bind_some, stI_at, stI_2at, Nat.reduceEqDiff, Nat.reduceBEq, false_and, and_false, true_and, and_self, and_true, ↓reduceIte]
    · simp (disch := omega) only [mo_feed, ↓within0, ↓has0, ↓tapFull0, inB_iff, Int32.lt_iff_toInt_lt, ti_eq, Int32.reduceToInt, if_pos, if_neg, Option.bind_some, stI_at, stI_2at, Nat.reduceEqDiff, Nat.reduceBEq, false_and, and_false, true_and, and_self, and_true, ↓reduceIte]
  · by_cases hf : (X.1 17 2).toInt < 120
    · have hn := nx_ti h2
      have e1 : (X.1 17 2 + 1).toInt = (X.1 17 2).toInt + 1 := by rw [ti_add] <;> simp only [Int32.reduceToInt] <;> omega
      refine ⟨X.1 17 2 + 1, stI (stI X 18 (nx (X.1 17 2)) a) 17 2 (X.1 17 2 + 1), stI (stI (stI (stI X 18 (nx (X.1 17 2)) a) 17 2 (X.1 17 2 + 1)) 102 10 (X.1 17 2 + 1)) 112 (nx (X.1 17 2)) a, ?_, ?_, ?_⟩
      · simp (disch := omega) only [el_feed, tap_take, ↓within0, ↓has0, ↓tapFull0, inB_iff, Int32.lt_iff_toInt_lt, ti_eq, Int32.reduceToInt, if_pos, if_neg, Option.bind_some, stI_at, stI_2at, Nat.reduceEqDiff, Nat.reduceBEq, false_and, and_false, true_and, and_self, and_true, ↓reduceIte]
      · simp (disch := omega) only [mo_feed, h1, ↓within0, ↓has0, ↓tapFull0, inB_iff, Int32.lt_iff_toInt_lt, ti_eq, Int32.reduceToInt, if_pos, if_neg, Option.bind_some, stI_at, stI_2at, Nat.reduceEqDiff, Nat.reduceBEq, false_and, and_false, true_and, and_self, and_true, ↓reduceIte]
      · refine ⟨?_, ?_, ?_, fun i hi => ?_⟩
        · simp only [stI_at, stI_2at, stL_at, stL_1at, Nat.reduceEqDiff, false_and, and_false, true_and, and_true, and_self, ↓reduceIte]
        · simp only [stI_at, stI_2at, stL_at, stL_1at, Nat.reduceEqDiff, false_and, and_false, true_and, and_true, and_self, ↓reduceIte]
          omega
        · simp only [stI_at, stI_2at, stL_at, stL_1at, Nat.reduceEqDiff, false_and, and_false, true_and, and_true, and_self, ↓reduceIte]
          omega
        · simp only [stI_at, stI_2at, stL_at, stL_1at, Nat.reduceEqDiff, false_and, and_false, true_and, and_true, and_self, ↓reduceIte] at hi ⊢
          by_cases hi2 : i = nx (X.1 17 2)
          · simp only [hi2, ↓reduceIte]
            exact ⟨trivial, ha⟩
          · simp only [hi2, ↓reduceIte]
            exact h4 i (by omega)
    · refine ⟨-3, X, X, ?_, ?_, h1, h2, h3, h4⟩
      · simp (disch := omega) only [el_feed, ↓within0, ↓has0, ↓tapFull0, inB_iff, Int32.lt_iff_toInt_lt, ti_eq, Int32.reduceToInt, if_pos, if_neg, Option.bind_some, stI_at, stI_2at, Nat.reduceEqDiff, Nat.reduceBEq, false_and, and_false, true_and, and_self, and_true, ↓reduceIte]
      · have e : X.1 102 10 = 120 := by rw [h1, ti_eq]; simp only [Int32.reduceToInt]; omega
        simp (disch := omega) only [mo_feed, e, ↓within0, ↓has0, ↓tapFull0, inB_iff, Int32.lt_iff_toInt_lt, ti_eq, Int32.reduceToInt, if_pos, if_neg, Option.bind_some, stI_at, stI_2at, Nat.reduceEqDiff, Nat.reduceBEq, false_and, and_false, true_and, and_self, and_true, ↓reduceIte]
