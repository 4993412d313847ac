/-! rows laid, put, asked -/
theorem ix60 {a b : Int32} (ha : 0 ≤ a.toInt ∧ a.toInt ≤ 5) (hb : 0 ≤ b.toInt ∧ b.toInt < 60) : (((60 : Int32) * a) + b).toInt = 60 * a.toInt + b.toInt ∧ nx (((60 : Int32) * a) + b) = 60 * nx a + nx b := by
  have e1 : ((60 : Int32) * a).toInt = 60 * a.toInt := by rw [ti_mul] <;> simp only [Int32.reduceToInt] <;> omega
  have e2 : (((60 : Int32) * a) + b).toInt = 60 * a.toInt + b.toInt := by rw [ti_add, e1] <;> rw [e1] <;> omega
  refine ⟨e2, ?_⟩
  have h1 := nx_ti (x := ((60 : Int32) * a) + b) (by omega)
  have h2 := nx_ti ha.1
  have h3 := nx_ti hb.1
  omega
/-- the class's loop that lays a row of zeros -/
theorem lay_loop (n : Nat) (a : Int32) (ha : 0 ≤ a.toInt ∧ a.toInt ≤ 5) : ∀ (w k : Nat) (X : St), k ≤ 60 → 60 < k + w → ∃ X', she_lay_L24 n w a (Int32.ofNat k) X = some X' ∧ X'.1 = X.1 ∧ (∀ i, i < k → X'.2 (96 + nx a) i = X.2 (96 + nx a) i) ∧ (∀ i, k ≤ i → i < 60 → X'.2 (96 + nx a) i = 0) ∧ ∀ o, o ≠ 96 + nx a → X'.2 o = X.2 o := by
  intro w
  induction w with
  | zero => intro k X h1 h2; omega
  | succ w ih =>
    intro k X h1 h2
    have hk := ti_ofNat (k := k) (by omega)
    have hn := nx_ti ha.1
    show ∃ X', she_lay_L24_B n (she_lay_L24 n w) a (Int32.ofNat k) X = some X' ∧ _
    unfold she_lay_L24_B
    by_cases hc : k < 60
    · have e : Int32.ofNat k + (1 : Int32) = Int32.ofNat (k + 1) := (Int32.ofNat_add k 1).symm
      obtain ⟨X', g1, g2, g3, g4, g5⟩ := ih (k + 1) (stL X (96 + nx a) (nx (Int32.ofNat k)) 0) (by omega) (by omega)
      refine ⟨X', ?_, g2, fun i hi => ?_, fun i h3 h4 => ?_, fun o ho => ?_⟩
      · have hok : okJ (96 + nx a) (Int32.ofNat k) = true := (okJ_sh (by omega)).mpr (by omega)
        rw [if_pos (by rw [Int32.lt_iff_toInt_lt, hk]; simp only [Int32.reduceToInt]; omega), if_pos (by rw [inB_iff]; omega), if_pos hok, e]
        exact g1
      · rw [g3 i (by omega), nx_ofNat (by omega)]
        show (if _ ∧ _ then _ else _) = _
        rw [if_neg (by omega)]
      · by_cases hik : i = k
        · subst hik
          rw [g3 i (by omega), nx_ofNat (by omega)]
          show (if _ ∧ _ then _ else _) = _
          rw [if_pos ⟨rfl, rfl⟩]
        · exact g4 i (by omega) h4
      · rw [g5 o ho]
        funext i
        show (if _ ∧ _ then _ else _) = _
        rw [if_neg (fun z => ho z.1)]
    · refine ⟨X, ?_, rfl, fun _ _ => rfl, fun i h3 h4 => by omega, fun _ _ => rfl⟩
      rw [if_neg (by rw [Int32.lt_iff_toInt_lt, hk]; simp only [Int32.reduceToInt]; omega)]
theorem mrow_loop (n : Nat) (a : Int32) (ha : 0 ≤ a.toInt ∧ a.toInt ≤ 5) : ∀ (w k : Nat) (X : St), k ≤ 60 → 60 < k + w → ∃ X', mo_row_L48 n w a (Int32.ofNat k) X = some (1, X') ∧ X'.1 = X.1 ∧ (∀ i, (i < 60 * nx a + k ∨ 60 * nx a + 60 ≤ i) → X'.2 132 i = X.2 132 i) ∧ (∀ i, k ≤ i → i < 60 → X'.2 132 (60 * nx a + i) = 0) ∧ ∀ o, o ≠ 132 → X'.2 o = X.2 o := by
  intro w
  induction w with
  | zero => intro k X h1 h2; omega
  | succ w ih =>
    intro k X h1 h2
    have hk := ti_ofNat (k := k) (by omega)
    have hn := nx_ti ha.1
    show ∃ X', mo_row_L48_B n (mo_row_L48 n w) a (Int32.ofNat k) X = some (1, X') ∧ _
    unfold mo_row_L48_B
    by_cases hc : k < 60
    · have e : Int32.ofNat k + (1 : Int32) = Int32.ofNat (k + 1) := (Int32.ofNat_add k 1).symm
      obtain ⟨e1, e2⟩ := ix60 (b := Int32.ofNat k) ha (by omega)
      rw [nx_ofNat (by omega)] at e2
      obtain ⟨X', g1, g2, g3, g4, g5⟩ := ih (k + 1) (stL X 132 (nx (((60 : Int32) * a) + Int32.ofNat k)) 0) (by omega) (by omega)
      refine ⟨X', ?_, g2, fun i hi => ?_, fun i h3 h4 => ?_, fun o ho => ?_⟩
      · rw [if_pos (by rw [Int32.lt_iff_toInt_lt, hk]; simp only [Int32.reduceToInt]; omega), if_pos (by rw [inB_iff]; omega), e]
        exact g1
      · rw [g3 i (by omega), e2]
        show (if _ ∧ _ then _ else _) = _
        rw [if_neg (by omega)]
      · by_cases hik : i = k
        · subst hik
          rw [g3 _ (by omega), e2]
          show (if _ ∧ _ then _ else _) = _
          rw [if_pos ⟨rfl, rfl⟩]
        · exact g4 i (by omega) h4
      · rw [g5 o ho]
        funext i
        show (if _ ∧ _ then _ else _) = _
        rw [if_neg (fun z => ho z.1)]
    · refine ⟨X, ?_, rfl, fun _ _ => rfl, fun i h3 h4 => by omega, fun _ _ => rfl⟩
      rw [if_neg (by rw [Int32.lt_iff_toInt_lt, hk]; simp only [Int32.reduceToInt]; omega)]
theorem op_row (n : Nat) (hn0 : 4096 ≤ n) (a b c : Int32) (X : St) (h : ISh X) : ∃ v X1 X2, el_row n a b c X = some (v, X1) ∧ mo_row n a b c X1 = some (v, X2) ∧ ISh X2 := by
  by_cases ha : a.toInt < 0 ∨ 5 < a.toInt
  · refine ⟨-1, X, X, ?_, ?_, h⟩
    · unfold el_row
      simp (disch := omega) only [↓shelf0, ↓within0, ↓has0, ↓tapFull0, inB_iff, Int32.lt_iff_toInt_lt, ti_eq, Int32.reduceToInt, if_pos, if_neg, Option.bind_some, stI_at, stI_2at, Nat.reduceEqDiff, Nat.reduceBEq, false_and, and_false, true_and, and_self, and_true, ↓reduceIte]
    · unfold mo_row
      simp (disch := omega) only [↓mshelf0, ↓within0, ↓has0, ↓tapFull0, inB_iff, Int32.lt_iff_toInt_lt, ti_eq, Int32.reduceToInt, if_pos, if_neg, Option.bind_some, stI_at, stI_2at, Nat.reduceEqDiff, Nat.reduceBEq, false_and, and_false, true_and, and_self, and_true, ↓reduceIte]
  · by_cases hb : b.toInt < 0 ∨ 4 < b.toInt
    · refine ⟨-1, X, X, ?_, ?_, h⟩
      · unfold el_row
        simp (disch := omega) only [↓shelf0, ↓sort0, ↓within0, ↓has0, ↓tapFull0, inB_iff, Int32.lt_iff_toInt_lt, ti_eq, Int32.reduceToInt, if_pos, if_neg, Option.bind_some, stI_at, stI_2at, Nat.reduceEqDiff, Nat.reduceBEq, false_and, and_false, true_and, and_self, and_true, ↓reduceIte]
      · unfold mo_row
        simp (disch := omega) only [↓mshelf0, ↓within0, ↓has0, ↓tapFull0, inB_iff, Int32.lt_iff_toInt_lt, ti_eq, Int32.reduceToInt, if_pos, if_neg, Option.bind_some, stI_at, stI_2at, Nat.reduceEqDiff, Nat.reduceBEq, false_and, and_false, true_and, and_self, and_true, ↓reduceIte]
    · by_cases hc : 60 < c.toInt
      · refine ⟨-1, X, X, ?_, ?_, h⟩
        · unfold el_row
          simp (disch := omega) only [↓shelf0, ↓sort0, ↓within0, ↓has0, ↓tapFull0, inB_iff, Int32.lt_iff_toInt_lt, ti_eq, Int32.reduceToInt, if_pos, if_neg, Option.bind_some, stI_at, stI_2at, Nat.reduceEqDiff, Nat.reduceBEq, false_and, and_false, true_and, and_self, and_true, ↓reduceIte]
        · unfold mo_row
          simp (disch := omega) only [↓mshelf0, ↓within0, ↓has0, ↓tapFull0, inB_iff, Int32.lt_iff_toInt_lt, ti_eq, Int32.reduceToInt, if_pos, if_neg, Option.bind_some, stI_at, stI_2at, Nat.reduceEqDiff, Nat.reduceBEq, false_and, and_false, true_and, and_self, and_true, ↓reduceIte]
      · by_cases hc2 : c.toInt < 0
        · refine ⟨-14, X, X, ?_, ?_, h⟩
          · unfold el_row
            simp (disch := omega) only [↓shelf0, ↓sort0, ↓within0, ↓has0, ↓tapFull0, inB_iff, Int32.lt_iff_toInt_lt, ti_eq, Int32.reduceToInt, if_pos, if_neg, Option.bind_some, stI_at, stI_2at, Nat.reduceEqDiff, Nat.reduceBEq, false_and, and_false, true_and, and_self, and_true, ↓reduceIte]
          · unfold mo_row
            simp (disch := omega) only [↓mshelf0, ↓within0, ↓has0, ↓tapFull0, inB_iff, Int32.lt_iff_toInt_lt, ti_eq, Int32.reduceToInt, if_pos, if_neg, Option.bind_some, stI_at, stI_2at, Nat.reduceEqDiff, Nat.reduceBEq, false_and, and_false, true_and, and_self, and_true, ↓reduceIte]
        · have hn := nx_ti (x := a) (by omega)
          obtain ⟨X1, g1, g2, g3, g4, g5⟩ := lay_loop n a (by omega) n 0 (stI (stI X 92 (nx a) b) 94 (nx a) c) (by omega) (by omega)
          obtain ⟨X2, k1, k2, k3, k4, k5⟩ := mrow_loop n a (by omega) n 0 (stI (stI X1 130 (nx a) b) 131 (nx a) c) (by omega) (by omega)
          refine ⟨1, X1, X2, ?_, ?_, ?_⟩
          · unfold el_row she_lay
            simp (disch := omega) only [↓shelf0, ↓sort0, ↓within0, ↓has0, ↓tapFull0, inB_iff, Int32.lt_iff_toInt_lt, ti_eq, Int32.reduceToInt, if_pos, if_neg, Option.bind_some, stI_at, stI_2at, Nat.reduceEqDiff, Nat.reduceBEq, false_and, and_false, true_and, and_self, and_true, ↓reduceIte]
            rw [show (0 : Int32) = Int32.ofNat 0 from rfl, g1]
            rfl
          · unfold mo_row
            simp (disch := omega) only [↓mshelf0, ↓within0, ↓has0, ↓tapFull0, inB_iff, Int32.lt_iff_toInt_lt, ti_eq, Int32.reduceToInt, if_pos, if_neg, Option.bind_some, stI_at, stI_2at, Nat.reduceEqDiff, Nat.reduceBEq, false_and, and_false, true_and, and_self, and_true, ↓reduceIte]
            rw [show (0 : Int32) = Int32.ofNat 0 from rfl]
            exact k1
          · intro s hs
            obtain ⟨f1, f2, f3, f4, f5⟩ := h s hs
            have hl : ∀ i, i < 60 → X2.2 132 (60 * s + i) = X2.2 (96 + s) i := by
              intro i hi
              rw [k5 (96 + s) (by omega)]
              show _ = X1.2 (96 + s) i
              by_cases e : s = nx a
              · subst e
                rw [k4 i (by omega) hi, g4 i (by omega) hi]
              · rw [k3 _ (by omega), g5 (96 + s) (by omega)]
                show X1.2 132 _ = X.2 _ _
                rw [g5 132 (by omega)]
                exact f5 i hi
            have q1 : ∀ o i, X2.1 o i = (stI (stI (stI (stI X 92 (nx a) b) 94 (nx a) c) 130 (nx a) b) 131 (nx a) c).1 o i := by
              intro o i
              rw [k2]
              show (if _ ∧ _ then _ else (if _ ∧ _ then _ else X1.1 o i)) = _
              rw [g2]
              rfl
            rw [q1, q1, q1, q1, q1, q1]
            simp only [stI_at, stI_2at, stL_at, stL_1at, Nat.reduceEqDiff, false_and, and_false, true_and, and_true, and_self, ↓reduceIte]
            by_cases e : s = nx a
            · simp only [e, ↓reduceIte]
              exact ⟨Or.inr (Or.inl ⟨by omega, by omega, trivial⟩), trivial, by omega, by omega, fun i hi => by rw [← e]; exact hl i hi⟩
            · simp only [e, ↓reduceIte]
              exact ⟨f1, f2, f3, f4, hl⟩
