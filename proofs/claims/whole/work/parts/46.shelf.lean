/-! shelves -/
theorem shelf0 {v : Int32} : she_isShelf v = 0 ↔ (v.toInt < 0 ∨ 5 < v.toInt) := by
  unfold she_isShelf
  simp only [Int32.lt_iff_toInt_lt, Int32.reduceToInt]
  by_cases h1 : v.toInt < 0 <;> by_cases h2 : v.toInt < 6 <;> simp [h1, h2] <;> omega
theorem mshelf0 {v : Int32} : mo_isShelf v = 0 ↔ (v.toInt < 0 ∨ 5 < v.toInt) := by
  unfold mo_isShelf
  rw [within0]
  simp only [Int32.reduceToInt]
theorem sort0 {v : Int32} : she_isSort v = 0 ↔ (v.toInt < 0 ∨ 4 < v.toInt) := by
  unfold she_isSort
  simp only [Int32.lt_iff_toInt_lt, Int32.reduceToInt]
  by_cases h1 : v.toInt < 0 <;> by_cases h2 : 4 < v.toInt <;> simp [h1, h2] <;> omega
theorem whas0 {v : Int32} {X : St} : way_has v X = 0 ↔ (v.toInt < 0 ∨ (X.1 88 2).toInt ≤ v.toInt) := by
  unfold way_has
  simp only [Int32.lt_iff_toInt_lt, Int32.reduceToInt]
  by_cases h1 : v.toInt < 0 <;> by_cases h2 : v.toInt < (X.1 88 2).toInt <;> simp [h1, h2] <;> omega
theorem kind0 {v : Int32} : way_isKind v = 0 ↔ (v.toInt < 0 ∨ 7 < v.toInt) := by
  unfold way_isKind
  simp only [Int32.lt_iff_toInt_lt, Int32.reduceToInt]
  by_cases h1 : v.toInt < 0 <;> by_cases h2 : v.toInt < 8 <;> simp [h1, h2] <;> omega
theorem sh_tab : ∀ s, s < 6 → (96 + s < NO ∧ knd (96 + s) = 1 ∧ oln (96 + s) = 60) := by decide
theorem okJ_sh {s : Nat} {j : Int32} (h : s < 6) : okJ (96 + s) j = true ↔ (0 ≤ j.toInt ∧ j.toInt < 60) := by
  obtain ⟨h1, h2, h3⟩ := sh_tab s h
  unfold okJ
  rw [h2, h3]
  simp only [h1, decide_true, BEq.rfl, Bool.true_and, inB_iff]
  rfl
theorem kept_cut {v : Int32} {w : Int64} : mo_kept v w = she_cut v w := rfl
/-- what a shelf holds, on both sides -/
def ISh (X : St) : Prop := ∀ s, s < 6 →
  ((X.1 92 s = -1 ∧ X.1 130 s = -1) ∨ (0 ≤ (X.1 92 s).toInt ∧ (X.1 92 s).toInt ≤ 4 ∧ X.1 130 s = X.1 92 s) ∨ (X.1 92 s = 5 ∧ X.1 130 s = 10 + X.1 93 s ∧ 0 ≤ (X.1 93 s).toInt ∧ (X.1 93 s).toInt < (X.1 88 2).toInt)) ∧
  X.1 131 s = X.1 94 s ∧ 0 ≤ (X.1 94 s).toInt ∧ (X.1 94 s).toInt ≤ 60 ∧ ∀ i, i < 60 → X.2 132 (60 * s + i) = X.2 (96 + s) i
/-- the bodies, on both sides -/
def IWy (X : St) : Prop := X.1 102 37 = X.1 88 2 ∧ 0 ≤ (X.1 88 2).toInt ∧ (X.1 88 2).toInt ≤ 50 ∧ (∀ i : Nat, (i : Int) < (X.1 88 2).toInt → X.1 128 i = X.1 89 i ∧ 0 ≤ (X.1 89 i).toInt ∧ (X.1 89 i).toInt ≤ 7) ∧ X.1 102 39 = X.1 88 3 ∧ 0 ≤ (X.1 88 3).toInt ∧ ∀ i : Nat, i < 24 → (i : Int) < (X.1 88 3).toInt → X.1 129 i = X.1 90 i
theorem op_trace (a : Int32) (X : St) (h : IWy X) : ∃ v, el_trace a X = some v ∧ mo_trace a X = some v := by
  obtain ⟨-, -, -, -, h1, h2, h3⟩ := h
  have hm : ((jmath_min (24 : Int32) (X.1 88 3)) - (1 : Int32)).toInt = (if (X.1 88 3).toInt < 24 then (X.1 88 3).toInt else 24) - 1 := by
    unfold jmath_min
    simp only [Int32.lt_iff_toInt_lt, Int32.reduceToInt]
    split
    · rw [ti_sub] <;> simp only [Int32.reduceToInt] <;> omega
    · decide
  by_cases hc : 0 ≤ a.toInt ∧ a.toInt < (X.1 88 3).toInt ∧ a.toInt < 24
  · have hn := nx_ti hc.1
    refine ⟨X.1 90 (nx a), ?_, ?_⟩
    · simp (disch := omega) only [el_trace, way_traced, ↓within0, ↓has0, ↓tapFull0, inB_iff, Int32.lt_iff_toInt_lt, ti_eq, Int32.reduceToInt, if_pos, if_neg, Option.bind_some, stI_at, stI_2at, Nat.reduceEqDiff, Nat.reduceBEq, false_and, and_false, true_and, and_self, and_true, ↓reduceIte]
    · rw [← h3 (nx a) (by omega) (by omega)]
      have hw : ¬ mo_within a 0 ((jmath_min (24 : Int32) (X.1 102 39)) - (1 : Int32)) = 0 := by
        rw [h1, within0, hm]
        simp only [Int32.reduceToInt]
        split <;> omega
      unfold mo_trace
      rw [if_neg hw]
      simp (disch := omega) only [↓within0, ↓has0, ↓tapFull0, inB_iff, Int32.lt_iff_toInt_lt, ti_eq, Int32.reduceToInt, if_pos, if_neg, Option.bind_some, stI_at, stI_2at, Nat.reduceEqDiff, Nat.reduceBEq, false_and, and_false, true_and, and_self, and_true, ↓reduceIte]
  · refine ⟨-1, ?_, ?_⟩
    · unfold el_trace way_traced
      by_cases c1 : a.toInt < 0
      · simp (disch := omega) only [↓within0, ↓has0, ↓tapFull0, inB_iff, Int32.lt_iff_toInt_lt, ti_eq, Int32.reduceToInt, if_pos, if_neg, Option.bind_some, stI_at, stI_2at, Nat.reduceEqDiff, Nat.reduceBEq, false_and, and_false, true_and, and_self, and_true, ↓reduceIte]
      · by_cases c2 : a.toInt < (X.1 88 3).toInt
        · simp (disch := omega) only [↓within0, ↓has0, ↓tapFull0, inB_iff, Int32.lt_iff_toInt_lt, ti_eq, Int32.reduceToInt, if_pos, if_neg, Option.bind_some, stI_at, stI_2at, Nat.reduceEqDiff, Nat.reduceBEq, false_and, and_false, true_and, and_self, and_true, ↓reduceIte]
        · simp (disch := omega) only [↓within0, ↓has0, ↓tapFull0, inB_iff, Int32.lt_iff_toInt_lt, ti_eq, Int32.reduceToInt, if_pos, if_neg, Option.bind_some, stI_at, stI_2at, Nat.reduceEqDiff, Nat.reduceBEq, false_and, and_false, true_and, and_self, and_true, ↓reduceIte]
    · have hw : mo_within a 0 ((jmath_min (24 : Int32) (X.1 102 39)) - (1 : Int32)) = 0 := by
        rw [h1, within0, hm]
        simp only [Int32.reduceToInt]
        split <;> omega
      unfold mo_trace
      rw [if_pos hw]
theorem op_keep (a b : Int32) (X : St) (h : ISh X) (hw : IWy X) : ∃ v X1 X2, el_keep a b X = some (v, X1) ∧ mo_keep a b X1 = some (v, X2) ∧ ISh X2 := by
  obtain ⟨w1, w2, w3, -⟩ := hw
  have hm1 : (X.1 88 2 - 1).toInt = (X.1 88 2).toInt - 1 := by rw [ti_sub] <;> simp only [Int32.reduceToInt] <;> omega
  by_cases ha : a.toInt < 0 ∨ 5 < a.toInt
  · refine ⟨-1, X, X, ?_, ?_, h⟩
    · unfold el_keep
      simp (disch := omega) only [↓shelf0, ↓within0, ↓has0, ↓tapFull0, inB_iff, Int32.lt_iff_toInt_lt, ti_eq, Int32.reduceToInt, if_pos, if_neg, Option.bind_some, stI_at, stI_2at, Nat.reduceEqDiff, Nat.reduceBEq, false_and, and_false, true_and, and_self, and_true, ↓reduceIte]
    · unfold mo_keep
      simp (disch := omega) only [↓mshelf0, ↓within0, ↓has0, ↓tapFull0, inB_iff, Int32.lt_iff_toInt_lt, ti_eq, Int32.reduceToInt, if_pos, if_neg, Option.bind_some, stI_at, stI_2at, Nat.reduceEqDiff, Nat.reduceBEq, false_and, and_false, true_and, and_self, and_true, ↓reduceIte]
  · have hn := nx_ti (x := a) (by omega)
    by_cases hb : b.toInt < -1 ∨ (X.1 88 2).toInt ≤ b.toInt
    · refine ⟨-1, X, X, ?_, ?_, h⟩
      · unfold el_keep
        simp (disch := omega) only [↓shelf0, ↓whas0, ↓within0, ↓has0, ↓tapFull0, inB_iff, Int32.lt_iff_toInt_lt, ti_eq, Int32.reduceToInt, if_pos, if_neg, Option.bind_some, stI_at, stI_2at, Nat.reduceEqDiff, Nat.reduceBEq, false_and, and_false, true_and, and_self, and_true, ↓reduceIte]
      · unfold mo_keep
        simp (disch := omega) only [↓mshelf0, w1, hm1, ↓within0, ↓has0, ↓tapFull0, inB_iff, Int32.lt_iff_toInt_lt, ti_eq, Int32.reduceToInt, if_pos, if_neg, Option.bind_some, stI_at, stI_2at, Nat.reduceEqDiff, Nat.reduceBEq, false_and, and_false, true_and, and_self, and_true, ↓reduceIte]
    · by_cases hb1 : b.toInt = -1
      · have eb : b = -1 := by rw [ti_eq]; exact hb1
        subst eb
        refine ⟨1, stI (stI (stI X 92 (nx a) (-1)) 93 (nx a) (-1)) 94 (nx a) 0, stI (stI (stI (stI (stI X 92 (nx a) (-1)) 93 (nx a) (-1)) 94 (nx a) 0) 130 (nx a) (-1)) 131 (nx a) 0, ?_, ?_, ?_⟩
        · unfold el_keep she_hold she_hold_J21
          simp (disch := omega) only [↓shelf0, ↓whas0, ↓within0, ↓has0, ↓tapFull0, inB_iff, Int32.lt_iff_toInt_lt, ti_eq, Int32.reduceToInt, if_pos, if_neg, Option.bind_some, stI_at, stI_2at, Nat.reduceEqDiff, Nat.reduceBEq, false_and, and_false, true_and, and_self, and_true, ↓reduceIte]
        · unfold mo_keep
          simp (disch := omega) only [↓mshelf0, w1, hm1, ↓within0, ↓has0, ↓tapFull0, inB_iff, Int32.lt_iff_toInt_lt, ti_eq, Int32.reduceToInt, if_pos, if_neg, Option.bind_some, stI_at, stI_2at, Nat.reduceEqDiff, Nat.reduceBEq, false_and, and_false, true_and, and_self, and_true, ↓reduceIte]
        · intro s hs
          obtain ⟨g1, g2, g3, g4, g5⟩ := h s hs
          simp only [stI_at, stI_2at, stL_at, stL_1at, Nat.reduceEqDiff, false_and, and_false, true_and, and_true, and_self, ↓reduceIte]
          by_cases e : s = nx a
          · simp only [e, ↓reduceIte]
            exact ⟨Or.inl ⟨trivial, trivial⟩, trivial, by decide, by decide, fun i hi => by rw [← e]; exact g5 i hi⟩
          · simp only [e, ↓reduceIte]
            exact ⟨g1, g2, g3, g4, g5⟩
      · refine ⟨1, stI (stI (stI X 92 (nx a) 5) 93 (nx a) b) 94 (nx a) 0, stI (stI (stI (stI (stI X 92 (nx a) 5) 93 (nx a) b) 94 (nx a) 0) 130 (nx a) (10 + b)) 131 (nx a) 0, ?_, ?_, ?_⟩
        · unfold el_keep she_hold she_hold_J21
          simp (disch := omega) only [↓shelf0, ↓whas0, ↓within0, ↓has0, ↓tapFull0, inB_iff, Int32.lt_iff_toInt_lt, ti_eq, Int32.reduceToInt, if_pos, if_neg, Option.bind_some, stI_at, stI_2at, Nat.reduceEqDiff, Nat.reduceBEq, false_and, and_false, true_and, and_self, and_true, ↓reduceIte]
        · unfold mo_keep
          simp (disch := omega) only [↓mshelf0, w1, hm1, ↓within0, ↓has0, ↓tapFull0, inB_iff, Int32.lt_iff_toInt_lt, ti_eq, Int32.reduceToInt, if_pos, if_neg, Option.bind_some, stI_at, stI_2at, Nat.reduceEqDiff, Nat.reduceBEq, false_and, and_false, true_and, and_self, and_true, ↓reduceIte]
        · intro s hs
          obtain ⟨g1, g2, g3, g4, g5⟩ := h s hs
          simp only [stI_at, stI_2at, stL_at, stL_1at, Nat.reduceEqDiff, false_and, and_false, true_and, and_true, and_self, ↓reduceIte]
          by_cases e : s = nx a
          · simp only [e, ↓reduceIte]
            exact ⟨Or.inr (Or.inr ⟨trivial, trivial, by omega, by omega⟩), trivial, by decide, by decide, fun i hi => by rw [← e]; exact g5 i hi⟩
          · simp only [e, ↓reduceIte]
            exact ⟨g1, g2, g3, g4, g5⟩
