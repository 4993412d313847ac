/-! put, element, count -/
theorem place_s {a b : Int32} {X : St} (ha : 0 ≤ a.toInt ∧ a.toInt ≤ 5) : she_isPlace a b X = some (if 0 ≤ b.toInt ∧ b.toInt < (X.1 94 (nx a)).toInt ∧ b.toInt < 60 then 1 else 0) := by
  have hn := nx_ti ha.1
  unfold she_isPlace
  by_cases h1 : b.toInt < 0
  · rw [if_neg (c := 0 ≤ b.toInt ∧ b.toInt < (X.1 94 (nx a)).toInt ∧ b.toInt < 60) (by omega)]
    simp (disch := omega) only [↓shelf0, ↓within0, ↓has0, ↓tapFull0, inB_iff, Int32.lt_iff_toInt_lt, ti_eq, Int32.reduceToInt, if_pos, if_neg, Option.bind_some, stI_at, stI_2at, Nat.reduceEqDiff, Nat.reduceBEq, false_and, and_false, true_and, and_self, and_true, ↓reduceIte]
  · by_cases h2 : b.toInt < (X.1 94 (nx a)).toInt
    · by_cases h3 : b.toInt < 60
      · rw [if_pos (c := 0 ≤ b.toInt ∧ b.toInt < (X.1 94 (nx a)).toInt ∧ b.toInt < 60) (by omega)]
        simp (disch := omega) only [↓shelf0, ↓within0, ↓has0, ↓tapFull0, inB_iff, Int32.lt_iff_toInt_lt, ti_eq, Int32.reduceToInt, if_pos, if_neg, Option.bind_some, stI_at, stI_2at, Nat.reduceEqDiff, Nat.reduceBEq, false_and, and_false, true_and, and_self, and_true, ↓reduceIte]
      · rw [if_neg (c := 0 ≤ b.toInt ∧ b.toInt < (X.1 94 (nx a)).toInt ∧ b.toInt < 60) (by omega)]
        simp (disch := omega) only [↓shelf0, ↓within0, ↓has0, ↓tapFull0, inB_iff, Int32.lt_iff_toInt_lt, ti_eq, Int32.reduceToInt, if_pos, if_neg, Option.bind_some, stI_at, stI_2at, Nat.reduceEqDiff, Nat.reduceBEq, false_and, and_false, true_and, and_self, and_true, ↓reduceIte]
    · rw [if_neg (c := 0 ≤ b.toInt ∧ b.toInt < (X.1 94 (nx a)).toInt ∧ b.toInt < 60) (by omega)]
      simp (disch := omega) only [↓shelf0, ↓within0, ↓has0, ↓tapFull0, inB_iff, Int32.lt_iff_toInt_lt, ti_eq, Int32.reduceToInt, if_pos, if_neg, Option.bind_some, stI_at, stI_2at, Nat.reduceEqDiff, Nat.reduceBEq, false_and, and_false, true_and, and_self, and_true, ↓reduceIte]
theorem rowRef_s {a : Int32} {X : St} (ha : 0 ≤ a.toInt ∧ a.toInt ≤ 5) : she_rowRefusal a X = some (if (X.1 92 (nx a)).toInt = -1 then -11 else if (X.1 92 (nx a)).toInt < 0 ∨ 4 < (X.1 92 (nx a)).toInt then -12 else 0) := by
  have hn := nx_ti ha.1
  unfold she_rowRefusal she_isEmpty
  by_cases h1 : (X.1 92 (nx a)).toInt = -1
  · simp (disch := omega) only [↓shelf0, h1, ↓within0, ↓has0, ↓tapFull0, inB_iff, Int32.lt_iff_toInt_lt, ti_eq, Int32.reduceToInt, if_pos, if_neg, Option.bind_some, stI_at, stI_2at, Nat.reduceEqDiff, Nat.reduceBEq, false_and, and_false, true_and, and_self, and_true, ↓reduceIte]
  · by_cases h2 : (X.1 92 (nx a)).toInt < 0 ∨ 4 < (X.1 92 (nx a)).toInt
    · simp (disch := omega) only [↓shelf0, ↓sort0, ↓within0, ↓has0, ↓tapFull0, inB_iff, Int32.lt_iff_toInt_lt, ti_eq, Int32.reduceToInt, if_pos, if_neg, Option.bind_some, stI_at, stI_2at, Nat.reduceEqDiff, Nat.reduceBEq, false_and, and_false, true_and, and_self, and_true, ↓reduceIte]
    · simp (disch := omega) only [↓shelf0, ↓sort0, ↓within0, ↓has0, ↓tapFull0, inB_iff, Int32.lt_iff_toInt_lt, ti_eq, Int32.reduceToInt, if_pos, if_neg, Option.bind_some, stI_at, stI_2at, Nat.reduceEqDiff, Nat.reduceBEq, false_and, and_false, true_and, and_self, and_true, ↓reduceIte]
theorem refus_s {a b : Int32} {X : St} (ha : 0 ≤ a.toInt ∧ a.toInt ≤ 5) : she_refusal a b X = some (if (X.1 92 (nx a)).toInt = -1 then -11 else if (X.1 92 (nx a)).toInt = b.toInt then 0 else -12) := by
  have hn := nx_ti ha.1
  unfold she_refusal she_isEmpty
  by_cases h1 : (X.1 92 (nx a)).toInt = -1
  · simp (disch := omega) only [↓shelf0, h1, ↓within0, ↓has0, ↓tapFull0, inB_iff, Int32.lt_iff_toInt_lt, ti_eq, Int32.reduceToInt, if_pos, if_neg, Option.bind_some, stI_at, stI_2at, Nat.reduceEqDiff, Nat.reduceBEq, false_and, and_false, true_and, and_self, and_true, ↓reduceIte]
  · by_cases h2 : (X.1 92 (nx a)).toInt = b.toInt
    · simp (disch := omega) only [↓shelf0, h2, ↓within0, ↓has0, ↓tapFull0, inB_iff, Int32.lt_iff_toInt_lt, ti_eq, Int32.reduceToInt, if_pos, if_neg, Option.bind_some, stI_at, stI_2at, Nat.reduceEqDiff, Nat.reduceBEq, false_and, and_false, true_and, and_self, and_true, ↓reduceIte]
    · simp (disch := omega) only [↓shelf0, ↓within0, ↓has0, ↓tapFull0, inB_iff, Int32.lt_iff_toInt_lt, ti_eq, Int32.reduceToInt, if_pos, if_neg, Option.bind_some, stI_at, stI_2at, Nat.reduceEqDiff, Nat.reduceBEq, false_and, and_false, true_and, and_self, and_true, ↓reduceIte]
theorem mRow_s {a : Int32} {X : St} (ha : 0 ≤ a.toInt ∧ a.toInt ≤ 5) : mo_isRow a X = some (if (X.1 130 (nx a)).toInt < 0 ∨ 4 < (X.1 130 (nx a)).toInt then 0 else 1) := by
  have hn := nx_ti ha.1
  unfold mo_isRow mo_within
  by_cases h1 : (X.1 130 (nx a)).toInt < 0
  · simp (disch := omega) only [↓within0, ↓has0, ↓tapFull0, inB_iff, Int32.lt_iff_toInt_lt, ti_eq, Int32.reduceToInt, if_pos, if_neg, Option.bind_some, stI_at, stI_2at, Nat.reduceEqDiff, Nat.reduceBEq, false_and, and_false, true_and, and_self, and_true, ↓reduceIte]
  · by_cases h2 : 4 < (X.1 130 (nx a)).toInt
    · simp (disch := omega) only [↓within0, ↓has0, ↓tapFull0, inB_iff, Int32.lt_iff_toInt_lt, ti_eq, Int32.reduceToInt, if_pos, if_neg, Option.bind_some, stI_at, stI_2at, Nat.reduceEqDiff, Nat.reduceBEq, false_and, and_false, true_and, and_self, and_true, ↓reduceIte]
    · simp (disch := omega) only [↓within0, ↓has0, ↓tapFull0, inB_iff, Int32.lt_iff_toInt_lt, ti_eq, Int32.reduceToInt, if_pos, if_neg, Option.bind_some, stI_at, stI_2at, Nat.reduceEqDiff, Nat.reduceBEq, false_and, and_false, true_and, and_self, and_true, ↓reduceIte]
theorem op_put (a b : Int32) (w : Int64) (X : St) (h : ISh X) (hw : IWy X) : ∃ v X1 X2, el_put a b w X = some (v, X1) ∧ mo_put a b w X1 = some (v, X2) ∧ ISh X2 := by
  obtain ⟨w1, w2, w3, -⟩ := hw
  by_cases ha : a.toInt < 0 ∨ 5 < a.toInt
  · refine ⟨-1, X, X, ?_, ?_, h⟩
    · unfold el_put
      simp (disch := omega) only [↓shelf0, ↓within0, ↓has0, ↓tapFull0, inB_iff, Int32.lt_iff_toInt_lt, ti_eq, Int32.reduceToInt, if_pos, if_neg, Option.bind_some, stI_at, stI_2at, Nat.reduceEqDiff, Nat.reduceBEq, false_and, and_false, true_and, and_self, and_true, ↓reduceIte]
    · unfold mo_put
      simp (disch := omega) only [↓mshelf0, ↓within0, ↓has0, ↓tapFull0, inB_iff, Int32.lt_iff_toInt_lt, ti_eq, Int32.reduceToInt, if_pos, if_neg, Option.bind_some, stI_at, stI_2at, Nat.reduceEqDiff, Nat.reduceBEq, false_and, and_false, true_and, and_self, and_true, ↓reduceIte]
  · have ha2 : 0 ≤ a.toInt ∧ a.toInt ≤ 5 := by omega
    have hn := nx_ti ha2.1
    obtain ⟨f1, f2, f3, f4, f5⟩ := h (nx a) (by omega)
    by_cases he : (X.1 92 (nx a)).toInt = -1
    · refine ⟨-11, X, X, ?_, ?_, h⟩
      · unfold el_put
        rw [rowRef_s ha2]
        simp (disch := omega) only [↓shelf0, he, ↓within0, ↓has0, ↓tapFull0, inB_iff, Int32.lt_iff_toInt_lt, ti_eq, Int32.reduceToInt, if_pos, if_neg, Option.bind_some, stI_at, stI_2at, Nat.reduceEqDiff, Nat.reduceBEq, false_and, and_false, true_and, and_self, and_true, ↓reduceIte]
      · have e2 : (X.1 130 (nx a)).toInt = -1 := by
          rcases f1 with ⟨k1, k2⟩ | ⟨k1, k2, k3⟩ | ⟨k1, k2, k3, k4⟩
          · rw [k2]; decide
          · omega
          · rw [k1] at he; simp only [Int32.reduceToInt] at he; omega
        unfold mo_put
        simp (disch := omega) only [↓mshelf0, e2, ↓within0, ↓has0, ↓tapFull0, inB_iff, Int32.lt_iff_toInt_lt, ti_eq, Int32.reduceToInt, if_pos, if_neg, Option.bind_some, stI_at, stI_2at, Nat.reduceEqDiff, Nat.reduceBEq, false_and, and_false, true_and, and_self, and_true, ↓reduceIte]
    · by_cases hr : (X.1 92 (nx a)).toInt < 0 ∨ 4 < (X.1 92 (nx a)).toInt
      · refine ⟨-12, X, X, ?_, ?_, h⟩
        · unfold el_put
          rw [rowRef_s ha2]
          simp (disch := omega) only [↓shelf0, ↓within0, ↓has0, ↓tapFull0, inB_iff, Int32.lt_iff_toInt_lt, ti_eq, Int32.reduceToInt, if_pos, if_neg, Option.bind_some, stI_at, stI_2at, Nat.reduceEqDiff, Nat.reduceBEq, false_and, and_false, true_and, and_self, and_true, ↓reduceIte]
        · have e2 : 4 < (X.1 130 (nx a)).toInt := by
            rcases f1 with ⟨k1, k2⟩ | ⟨k1, k2, k3⟩ | ⟨k1, k2, k3, k4⟩
            · rw [k1] at he; exact absurd (by decide) he
            · omega
            · rw [k2, ti_add] <;> simp only [Int32.reduceToInt] <;> omega
          unfold mo_put
          rw [mRow_s ha2]
          simp (disch := omega) only [↓mshelf0, ↓within0, ↓has0, ↓tapFull0, inB_iff, Int32.lt_iff_toInt_lt, ti_eq, Int32.reduceToInt, if_pos, if_neg, Option.bind_some, stI_at, stI_2at, Nat.reduceEqDiff, Nat.reduceBEq, false_and, and_false, true_and, and_self, and_true, ↓reduceIte]
      · have e2 : X.1 130 (nx a) = X.1 92 (nx a) := by
          rcases f1 with ⟨k1, k2⟩ | ⟨k1, k2, k3⟩ | ⟨k1, k2, k3, k4⟩
          · rw [k1] at he; exact absurd (by decide) he
          · exact k3
          · rw [k1] at hr; exact absurd (Or.inr (by decide)) hr
        have hs1 : (X.1 94 (nx a) - 1).toInt = (X.1 94 (nx a)).toInt - 1 := by rw [ti_sub] <;> simp only [Int32.reduceToInt] <;> omega
        by_cases hb : 0 ≤ b.toInt ∧ b.toInt < (X.1 94 (nx a)).toInt
        · have hnb := nx_ti hb.1
          obtain ⟨x1, x2⟩ := ix60 (a := a) (b := b) ha2 (by omega)
          refine ⟨1, stL X (96 + nx a) (nx b) (she_cut (X.1 92 (nx a)) w), stL (stL X (96 + nx a) (nx b) (she_cut (X.1 92 (nx a)) w)) 132 (60 * nx a + nx b) (she_cut (X.1 92 (nx a)) w), ?_, ?_, ?_⟩
          · unfold el_put
            rw [rowRef_s ha2]
            unfold she_set
            rw [place_s ha2]
            simp (disch := omega) only [↓shelf0, ↓okJ_sh, ↓within0, ↓has0, ↓tapFull0, inB_iff, Int32.lt_iff_toInt_lt, ti_eq, Int32.reduceToInt, if_pos, if_neg, Option.bind_some, stI_at, stI_2at, Nat.reduceEqDiff, Nat.reduceBEq, false_and, and_false, true_and, and_self, and_true, ↓reduceIte]
            rfl
          · unfold mo_put
            rw [mRow_s ha2]
            simp (disch := omega) only [↓mshelf0, stL_1at, e2, f2, hs1, x1, x2, kept_cut, ↓within0, ↓has0, ↓tapFull0, inB_iff, Int32.lt_iff_toInt_lt, ti_eq, Int32.reduceToInt, if_pos, if_neg, Option.bind_some, stI_at, stI_2at, Nat.reduceEqDiff, Nat.reduceBEq, false_and, and_false, true_and, and_self, and_true, ↓reduceIte]
          · intro s hs
            obtain ⟨g1, g2, g3, g4, g5⟩ := h s hs
            refine ⟨g1, g2, g3, g4, fun i hi => ?_⟩
            show (if _ ∧ _ then _ else (if _ ∧ _ then _ else _)) = (if _ ∧ _ then _ else (if _ ∧ _ then _ else _))
            by_cases e : s = nx a ∧ i = nx b
            · rw [if_pos (by omega), if_neg (by omega), if_pos (by omega)]
            · rw [if_neg (by omega), if_neg (by omega), if_neg (by omega), if_neg (by omega)]
              exact g5 i hi
        · refine ⟨-13, X, X, ?_, ?_, h⟩
          · unfold el_put
            rw [rowRef_s ha2]
            unfold she_set
            rw [place_s ha2]
            simp (disch := omega) only [↓shelf0, ↓within0, ↓has0, ↓tapFull0, inB_iff, Int32.lt_iff_toInt_lt, ti_eq, Int32.reduceToInt, if_pos, if_neg, Option.bind_some, stI_at, stI_2at, Nat.reduceEqDiff, Nat.reduceBEq, false_and, and_false, true_and, and_self, and_true, ↓reduceIte]
          · unfold mo_put
            rw [mRow_s ha2]
            simp (disch := omega) only [↓mshelf0, e2, f2, hs1, ↓within0, ↓has0, ↓tapFull0, inB_iff, Int32.lt_iff_toInt_lt, ti_eq, Int32.reduceToInt, if_pos, if_neg, Option.bind_some, stI_at, stI_2at, Nat.reduceEqDiff, Nat.reduceBEq, false_and, and_false, true_and, and_self, and_true, ↓reduceIte]
theorem op_element (a b : Int32) (X : St) (h : ISh X) (hw : IWy X) : ∃ v, el_element a b X = some v ∧ mo_element a b X = some v := by
  obtain ⟨w1, w2, w3, -⟩ := hw
  by_cases ha : a.toInt < 0 ∨ 5 < a.toInt
  · refine ⟨-9223372036854775808, ?_, ?_⟩
    · unfold el_element
      simp (disch := omega) only [↓shelf0, ↓within0, ↓has0, ↓tapFull0, inB_iff, Int32.lt_iff_toInt_lt, ti_eq, Int32.reduceToInt, if_pos, if_neg, Option.bind_some, stI_at, stI_2at, Nat.reduceEqDiff, Nat.reduceBEq, false_and, and_false, true_and, and_self, and_true, ↓reduceIte]
    · unfold mo_element
      simp (disch := omega) only [↓mshelf0, ↓within0, ↓has0, ↓tapFull0, inB_iff, Int32.lt_iff_toInt_lt, ti_eq, Int32.reduceToInt, if_pos, if_neg, Option.bind_some, stI_at, stI_2at, Nat.reduceEqDiff, Nat.reduceBEq, false_and, and_false, true_and, and_self, and_true, ↓reduceIte]
  · have ha2 : 0 ≤ a.toInt ∧ a.toInt ≤ 5 := by omega
    have hn := nx_ti ha2.1
    obtain ⟨f1, f2, f3, f4, f5⟩ := h (nx a) (by omega)
    by_cases hr : (X.1 92 (nx a)).toInt < 0 ∨ 4 < (X.1 92 (nx a)).toInt
    · refine ⟨-9223372036854775808, ?_, ?_⟩
      · unfold el_element
        rw [rowRef_s ha2]
        by_cases he : (X.1 92 (nx a)).toInt = -1
        · simp (disch := omega) only [↓shelf0, he, ↓within0, ↓has0, ↓tapFull0, inB_iff, Int32.lt_iff_toInt_lt, ti_eq, Int32.reduceToInt, if_pos, if_neg, Option.bind_some, stI_at, stI_2at, Nat.reduceEqDiff, Nat.reduceBEq, false_and, and_false, true_and, and_self, and_true, ↓reduceIte]
        · simp (disch := omega) only [↓shelf0, ↓within0, ↓has0, ↓tapFull0, inB_iff, Int32.lt_iff_toInt_lt, ti_eq, Int32.reduceToInt, if_pos, if_neg, Option.bind_some, stI_at, stI_2at, Nat.reduceEqDiff, Nat.reduceBEq, false_and, and_false, true_and, and_self, and_true, ↓reduceIte]
      · have e2 : (X.1 130 (nx a)).toInt < 0 ∨ 4 < (X.1 130 (nx a)).toInt := by
          rcases f1 with ⟨k1, k2⟩ | ⟨k1, k2, k3⟩ | ⟨k1, k2, k3, k4⟩
          · rw [k2]; exact Or.inl (by decide)
          · omega
          · right; rw [k2, ti_add] <;> simp only [Int32.reduceToInt] <;> omega
        unfold mo_element
        rw [mRow_s ha2]
        simp (disch := omega) only [↓mshelf0, ↓within0, ↓has0, ↓tapFull0, inB_iff, Int32.lt_iff_toInt_lt, ti_eq, Int32.reduceToInt, if_pos, if_neg, Option.bind_some, stI_at, stI_2at, Nat.reduceEqDiff, Nat.reduceBEq, false_and, and_false, true_and, and_self, and_true, ↓reduceIte]
    · have e2 : X.1 130 (nx a) = X.1 92 (nx a) := by
        rcases f1 with ⟨k1, k2⟩ | ⟨k1, k2, k3⟩ | ⟨k1, k2, k3, k4⟩
        · rw [k1] at hr; exact absurd (Or.inl (by decide)) hr
        · exact k3
        · rw [k1] at hr; exact absurd (Or.inr (by decide)) hr
      have hs1 : (X.1 94 (nx a) - 1).toInt = (X.1 94 (nx a)).toInt - 1 := by rw [ti_sub] <;> simp only [Int32.reduceToInt] <;> omega
      by_cases hb : 0 ≤ b.toInt ∧ b.toInt < (X.1 94 (nx a)).toInt
      · have hnb := nx_ti hb.1
        obtain ⟨x1, x2⟩ := ix60 (a := a) (b := b) ha2 (by omega)
        refine ⟨X.2 (96 + nx a) (nx b), ?_, ?_⟩
        · unfold el_element
          rw [rowRef_s ha2]
          unfold she_elementAt
          rw [place_s ha2]
          simp (disch := omega) only [↓shelf0, ↓okJ_sh, ↓within0, ↓has0, ↓tapFull0, inB_iff, Int32.lt_iff_toInt_lt, ti_eq, Int32.reduceToInt, if_pos, if_neg, Option.bind_some, stI_at, stI_2at, Nat.reduceEqDiff, Nat.reduceBEq, false_and, and_false, true_and, and_self, and_true, ↓reduceIte]
        · unfold mo_element
          rw [mRow_s ha2, ← f5 (nx b) (by omega)]
          simp (disch := omega) only [↓mshelf0, e2, f2, hs1, x1, x2, ↓within0, ↓has0, ↓tapFull0, inB_iff, Int32.lt_iff_toInt_lt, ti_eq, Int32.reduceToInt, if_pos, if_neg, Option.bind_some, stI_at, stI_2at, Nat.reduceEqDiff, Nat.reduceBEq, false_and, and_false, true_and, and_self, and_true, ↓reduceIte]
      · refine ⟨-9223372036854775808, ?_, ?_⟩
        · unfold el_element
          rw [rowRef_s ha2]
          unfold she_elementAt
          rw [place_s ha2]
          simp (disch := omega) only [↓shelf0, ↓within0, ↓has0, ↓tapFull0, inB_iff, Int32.lt_iff_toInt_lt, ti_eq, Int32.reduceToInt, if_pos, if_neg, Option.bind_some, stI_at, stI_2at, Nat.reduceEqDiff, Nat.reduceBEq, false_and, and_false, true_and, and_self, and_true, ↓reduceIte]
        · unfold mo_element
          rw [mRow_s ha2]
          simp (disch := omega) only [↓mshelf0, e2, f2, hs1, ↓within0, ↓has0, ↓tapFull0, inB_iff, Int32.lt_iff_toInt_lt, ti_eq, Int32.reduceToInt, if_pos, if_neg, Option.bind_some, stI_at, stI_2at, Nat.reduceEqDiff, Nat.reduceBEq, false_and, and_false, true_and, and_self, and_true, ↓reduceIte]
theorem op_count (a : Int32) (X : St) (h1 : X.1 102 0 = X.1 1 1) (h2 : X.1 102 10 = X.1 17 2) (h3 : X.1 102 35 = X.1 12 5) (h4 : X.1 102 37 = X.1 88 2) (h5 : X.1 102 39 = X.1 88 3) : el_count a X = mo_count a X := by
  unfold el_count mo_count poo_many tap_length chg_done way_many way_ran
  rw [h1, h2, h3, h4, h5]
