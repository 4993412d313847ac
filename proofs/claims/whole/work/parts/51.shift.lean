/-! shift -/
theorem op_shift (n : Nat) (hn0 : 4096 ≤ n) (a b c d e : Int32) (X : St) (h : ISh X) (hw : IWy X) : ∃ v X1 X2, el_shift a b c d e X = some (v, X1) ∧ mo_shift n a b c d e X1 = some (v, X2) ∧ ISh X2 := by
  by_cases ha : a.toInt < 0 ∨ 5 < a.toInt
  · refine ⟨-1, X, X, ?_, ?_, h⟩
    · unfold el_shift
      simp (disch := omega) only [↓shelf0, ↓within0, ↓has0, ↓tapFull0, inB_iff, Int32.lt_iff_toInt_lt, ti_eq, Int32.reduceToInt, if_pos, if_neg, Option.bind_some, stI_at, stI_2at, Nat.reduceEqDiff, Nat.reduceBEq, false_and, and_false, true_and, and_self, and_true, ↓reduceIte]
    · unfold mo_shift
      simp (disch := omega) only [↓mshelf0, ↓within0, ↓has0, ↓tapFull0, inB_iff, Int32.lt_iff_toInt_lt, ti_eq, Int32.reduceToInt, if_pos, if_neg, Option.bind_some, stI_at, stI_2at, Nat.reduceEqDiff, Nat.reduceBEq, false_and, and_false, true_and, and_self, and_true, ↓reduceIte]
  · by_cases hc : c.toInt < 0 ∨ 5 < c.toInt
    · refine ⟨-1, X, X, ?_, ?_, h⟩
      · unfold el_shift
        simp (disch := omega) only [↓shelf0, ↓within0, ↓has0, ↓tapFull0, inB_iff, Int32.lt_iff_toInt_lt, ti_eq, Int32.reduceToInt, if_pos, if_neg, Option.bind_some, stI_at, stI_2at, Nat.reduceEqDiff, Nat.reduceBEq, false_and, and_false, true_and, and_self, and_true, ↓reduceIte]
      · unfold mo_shift
        simp (disch := omega) only [↓mshelf0, ↓within0, ↓has0, ↓tapFull0, inB_iff, Int32.lt_iff_toInt_lt, ti_eq, Int32.reduceToInt, if_pos, if_neg, Option.bind_some, stI_at, stI_2at, Nat.reduceEqDiff, Nat.reduceBEq, false_and, and_false, true_and, and_self, and_true, ↓reduceIte]
    · have ha2 : 0 ≤ a.toInt ∧ a.toInt ≤ 5 := by omega
      have hc2 : 0 ≤ c.toInt ∧ c.toInt ≤ 5 := by omega
      have hn := nx_ti ha2.1
      have hm := nx_ti hc2.1
      have r1 := ref_mref h hw ha2
      have r2 := ref_mref h hw hc2
      obtain ⟨-, fa2, fa3, fa4, -⟩ := h (nx a) (by omega)
      obtain ⟨-, fc2, fc3, fc4, -⟩ := h (nx c) (by omega)
      by_cases h1 : (X.1 92 (nx a)).toInt = -1 ∨ (X.1 92 (nx c)).toInt = -1
      · refine ⟨-11, X, X, ?_, ?_, h⟩
        · unfold el_shift
          rw [pair_s ha2 hc2, if_pos h1]
          simp (disch := omega) only [↓shelf0, ↓within0, ↓has0, ↓tapFull0, inB_iff, Int32.lt_iff_toInt_lt, ti_eq, Int32.reduceToInt, if_pos, if_neg, Option.bind_some, stI_at, stI_2at, Nat.reduceEqDiff, Nat.reduceBEq, false_and, and_false, true_and, and_self, and_true, ↓reduceIte]
        · have z1 : (X.1 130 (nx a)).toInt = -1 ∨ (X.1 130 (nx c)).toInt = -1 := by
            rcases h1 with h1 | h1
            · left
              rcases r1 with ⟨k1, k2⟩ | ⟨k1, k2⟩ | ⟨k1, k2, k3, k4, k5⟩
              · rw [k2]; decide
              · omega
              · rw [k1] at h1; exact absurd h1 (by decide)
            · right
              rcases r2 with ⟨k1, k2⟩ | ⟨k1, k2⟩ | ⟨k1, k2, k3, k4, k5⟩
              · rw [k2]; decide
              · omega
              · rw [k1] at h1; exact absurd h1 (by decide)
          unfold mo_shift
          by_cases z2 : (X.1 130 (nx a)).toInt = -1
          · simp (disch := omega) only [↓mshelf0, z2, ↓within0, ↓has0, ↓tapFull0, inB_iff, Int32.lt_iff_toInt_lt, ti_eq, Int32.reduceToInt, if_pos, if_neg, Option.bind_some, stI_at, stI_2at, Nat.reduceEqDiff, Nat.reduceBEq, false_and, and_false, true_and, and_self, and_true, ↓reduceIte]
          · simp (disch := omega) only [↓mshelf0, ↓within0, ↓has0, ↓tapFull0, inB_iff, Int32.lt_iff_toInt_lt, ti_eq, Int32.reduceToInt, if_pos, if_neg, Option.bind_some, stI_at, stI_2at, Nat.reduceEqDiff, Nat.reduceBEq, false_and, and_false, true_and, and_self, and_true, ↓reduceIte]
      · have z1 : ¬ (X.1 130 (nx a)).toInt = -1 := by
          rcases r1 with ⟨k1, k2⟩ | ⟨k1, k2⟩ | ⟨k1, k2, k3, k4, k5⟩
          · rw [k1] at h1; exact absurd (Or.inl (by decide)) h1
          · rw [k2]; omega
          · omega
        have z2 : ¬ (X.1 130 (nx c)).toInt = -1 := by
          rcases r2 with ⟨k1, k2⟩ | ⟨k1, k2⟩ | ⟨k1, k2, k3, k4, k5⟩
          · rw [k1] at h1; exact absurd (Or.inr (by decide)) h1
          · rw [k2]; omega
          · omega
        by_cases h2 : (0 ≤ (X.1 92 (nx a)).toInt ∧ (X.1 92 (nx a)).toInt ≤ 4) ∧ (X.1 92 (nx a)).toInt = (X.1 92 (nx c)).toInt
        · have e1 : X.1 130 (nx a) = X.1 92 (nx a) := by
            rcases r1 with ⟨k1, k2⟩ | ⟨k1, k2⟩ | ⟨k1, k2, k3, k4, k5⟩
            · rw [k1] at h2; exact absurd h2.1.1 (by decide)
            · exact k2
            · rw [k1] at h2; exact absurd h2.1.2 (by decide)
          have e2 : X.1 130 (nx c) = X.1 92 (nx c) := by
            rcases r2 with ⟨k1, k2⟩ | ⟨k1, k2⟩ | ⟨k1, k2, k3, k4, k5⟩
            · rw [k1] at h2; have := h2.2 ▸ h2.1.1; exact absurd this (by decide)
            · exact k2
            · rw [k1] at h2; have := h2.2 ▸ h2.1.2; exact absurd this (by decide)
          have hp : she_pairRefusal a c X = some 0 := by rw [pair_s ha2 hc2, if_neg h1, if_pos h2]
          have s1 := stretch_s (b := b) (e := e) ha2 ⟨fa3, fa4⟩
          have s2 := stretch_s (b := d) (e := e) hc2 ⟨fc3, fc4⟩
          by_cases h3 : 0 ≤ b.toInt ∧ 0 ≤ e.toInt ∧ b.toInt + e.toInt ≤ (X.1 94 (nx a)).toInt
          · by_cases h4 : 0 ≤ d.toInt ∧ 0 ≤ e.toInt ∧ d.toInt + e.toInt ≤ (X.1 94 (nx c)).toInt
            · rw [if_pos h3] at s1
              rw [if_pos h4] at s2
              have m1 := nx_ti h3.1
              have m2 := nx_ti h4.1
              have m3 := nx_ti h3.2.1
              have hok : cpOkL b d e (96 + nx a) (96 + nx c) = true := by
                obtain ⟨a1, a2, a3⟩ := sh_tab (nx a) (by omega)
                obtain ⟨c1, c2, c3⟩ := sh_tab (nx c) (by omega)
                have e0 : (0 : Int32).toInt = 0 := by decide
                simp only [cpOkL, cpOk, a1, a2, a3, c1, c2, c3, decide_true, BEq.rfl, Bool.true_and, Bool.and_eq_true, Bool.not_eq_true', decide_eq_false_iff_not, decide_eq_true_eq, Int32.lt_iff_toInt_lt, e0]
                omega
              have hel : el_shift a b c d e X = some (e, cpL X (96 + nx a) (nx b) (96 + nx c) (nx d) (nx e)) := by
                unfold el_shift
                rw [hp]
                unfold she_move
                rw [s1, s2]
                simp (disch := omega) only [↓shelf0, hok, ↓within0, ↓has0, ↓tapFull0, inB_iff, Int32.lt_iff_toInt_lt, ti_eq, Int32.reduceToInt, if_pos, if_neg, Option.bind_some, stI_at, stI_2at, Nat.reduceEqDiff, Nat.reduceBEq, false_and, and_false, true_and, and_self, and_true, ↓reduceIte]
                rfl
              have q2 : ∀ (X1 : St), X1.1 = X.1 → (∃ X2, (if a = c then (if b < d then mo_shift_L142 n n a b c d e (e - 1) X1 else mo_shift_L188 n n a b c d e 0 X1) else mo_shift_L188 n n a b c d e 0 X1) = some (e, X2) ∧ X2.1 = X1.1 ∧ (∀ o, o ≠ 132 → X2.2 o = X1.2 o) ∧ ∀ j, X2.2 132 j = if 60 * nx c + nx d ≤ j ∧ j < 60 * nx c + nx d + nx e then X1.2 132 (60 * nx a + nx b + (j - (60 * nx c + nx d))) else X1.2 132 j) := by
                intro X1 _
                have hbk : a = c → b < d → _ := fun q1 q2 => bwd n a b c d e ha2 hc2 h3.1 h4.1 h3.2.1 (by omega) (by omega) ⟨by rw [q1], by rw [Int32.lt_iff_toInt_lt] at q2; omega⟩ n (nx e) (e - 1) X1 (by rw [ti_sub] <;> simp only [Int32.reduceToInt] <;> omega) (by omega) (by omega)
                have hfw : (a ≠ c ∨ ¬ b < d) → _ := fun q => fwd n a b c d e ha2 hc2 h3.1 h4.1 h3.2.1 (by omega) (by omega) (by
                  rcases q with q | q
                  · left
                    intro z
                    exact q (by rw [ti_eq]; omega)
                  · right
                    rw [Int32.lt_iff_toInt_lt] at q
                    omega) n 0 0 X1 (by decide) (by omega) (by omega)
                by_cases q1 : a = c
                · by_cases q2 : b < d
                  · rw [if_pos q1, if_pos q2]
                    exact hbk q1 q2
                  · rw [if_pos q1, if_neg q2]
                    exact hfw (Or.inr q2)
                · rw [if_neg q1]
                  exact hfw (Or.inl q1)
              obtain ⟨X2, g1, g2, g3, g4⟩ := q2 (cpL X (96 + nx a) (nx b) (96 + nx c) (nx d) (nx e)) rfl
              refine ⟨e, cpL X (96 + nx a) (nx b) (96 + nx c) (nx d) (nx e), X2, hel, ?_, ?_⟩
              · have l1 : ¬ 0 < lg_cmp (b.toInt64 + e.toInt64) ((X.1 94 (nx a)).toInt64) := by
                  rw [lgc_gt, sum64, Int32.toInt_toInt64]
                  omega
                have l2 : ¬ 0 < lg_cmp (d.toInt64 + e.toInt64) ((X.1 94 (nx c)).toInt64) := by
                  rw [lgc_gt, sum64, Int32.toInt_toInt64]
                  omega
                have c1 : (cpL X (96 + nx a) (nx b) (96 + nx c) (nx d) (nx e)).1 = X.1 := rfl
                have z3 : X.1 92 (nx a) = X.1 92 (nx c) := by rw [ti_eq]; exact h2.2
                unfold mo_shift
                rw [mRow_s ha2, mRow_s hc2, c1, e1, e2, fa2, fc2, if_neg l1, if_neg l2]
                simp (disch := omega) only [↓mshelf0, z3, ← g1, ↓within0, ↓has0, ↓tapFull0, inB_iff, Int32.lt_iff_toInt_lt, ti_eq, Int32.reduceToInt, if_pos, if_neg, Option.bind_some, stI_at, stI_2at, Nat.reduceEqDiff, Nat.reduceBEq, false_and, and_false, true_and, and_self, and_true, ↓reduceIte]
              · intro s hs
                obtain ⟨f1, f2, f3, f4, f5⟩ := h s hs
                rw [g2]
                refine ⟨f1, f2, f3, f4, fun i hi => ?_⟩
                rw [g4, g3 (96 + s) (by omega)]
                by_cases hsc : s = nx c
                · subst hsc
                  rw [cpL_at]
                  have o1 : (cpL X (96 + nx a) (nx b) (96 + nx c) (nx d) (nx e)).2 132 = X.2 132 := cpL_ne (by omega)
                  rw [o1]
                  unfold va_cpy
                  obtain ⟨-, -, -, -, fa5⟩ := h (nx a) (by omega)
                  by_cases hi2 : nx d ≤ i ∧ i < nx d + nx e
                  · rw [if_pos (by omega), if_pos hi2, ← fa5 _ (by omega)]
                    rw [show 60 * nx a + nx b + (60 * nx c + i - (60 * nx c + nx d)) = 60 * nx a + (nx b + (i - nx d)) by omega]
                  · rw [if_neg (by omega), if_neg hi2]
                    exact f5 i hi
                · have o1 : (cpL X (96 + nx a) (nx b) (96 + nx c) (nx d) (nx e)).2 132 = X.2 132 := cpL_ne (by omega)
                  have o2 : (cpL X (96 + nx a) (nx b) (96 + nx c) (nx d) (nx e)).2 (96 + s) = X.2 (96 + s) := cpL_ne (by omega)
                  rw [o1, o2, if_neg (by omega)]
                  exact f5 i hi
            · refine ⟨-13, X, X, ?_, ?_, h⟩
              · rw [if_pos h3] at s1
                rw [if_neg h4] at s2
                unfold el_shift
                rw [hp]
                unfold she_move
                rw [s1, s2]
                simp (disch := omega) only [↓shelf0, ↓within0, ↓has0, ↓tapFull0, inB_iff, Int32.lt_iff_toInt_lt, ti_eq, Int32.reduceToInt, if_pos, if_neg, Option.bind_some, stI_at, stI_2at, Nat.reduceEqDiff, Nat.reduceBEq, false_and, and_false, true_and, and_self, and_true, ↓reduceIte]
              · have l1 : ¬ 0 < lg_cmp (b.toInt64 + e.toInt64) ((X.1 94 (nx a)).toInt64) := by
                  rw [lgc_gt, sum64, Int32.toInt_toInt64]
                  omega
                have z3 : X.1 92 (nx a) = X.1 92 (nx c) := by rw [ti_eq]; exact h2.2
                unfold mo_shift
                rw [mRow_s ha2, mRow_s hc2, e1, e2, fa2, fc2, if_neg l1]
                by_cases h5 : d.toInt < 0
                · simp (disch := omega) only [↓mshelf0, z3, ↓within0, ↓has0, ↓tapFull0, inB_iff, Int32.lt_iff_toInt_lt, ti_eq, Int32.reduceToInt, if_pos, if_neg, Option.bind_some, stI_at, stI_2at, Nat.reduceEqDiff, Nat.reduceBEq, false_and, and_false, true_and, and_self, and_true, ↓reduceIte]
                · have l2 : 0 < lg_cmp (d.toInt64 + e.toInt64) ((X.1 94 (nx c)).toInt64) := by
                    rw [lgc_gt, sum64, Int32.toInt_toInt64]
                    omega
                  rw [if_pos l2]
                  simp (disch := omega) only [↓mshelf0, z3, ↓within0, ↓has0, ↓tapFull0, inB_iff, Int32.lt_iff_toInt_lt, ti_eq, Int32.reduceToInt, if_pos, if_neg, Option.bind_some, stI_at, stI_2at, Nat.reduceEqDiff, Nat.reduceBEq, false_and, and_false, true_and, and_self, and_true, ↓reduceIte]
          · refine ⟨-13, X, X, ?_, ?_, h⟩
            · rw [if_neg h3] at s1
              unfold el_shift
              rw [hp]
              unfold she_move
              rw [s1]
              simp (disch := omega) only [↓shelf0, ↓within0, ↓has0, ↓tapFull0, inB_iff, Int32.lt_iff_toInt_lt, ti_eq, Int32.reduceToInt, if_pos, if_neg, Option.bind_some, stI_at, stI_2at, Nat.reduceEqDiff, Nat.reduceBEq, false_and, and_false, true_and, and_self, and_true, ↓reduceIte]
            · have z3 : X.1 92 (nx a) = X.1 92 (nx c) := by rw [ti_eq]; exact h2.2
              unfold mo_shift
              rw [mRow_s ha2, mRow_s hc2, e1, e2, fa2, fc2]
              by_cases h5 : e.toInt < 0
              · simp (disch := omega) only [↓mshelf0, z3, ↓within0, ↓has0, ↓tapFull0, inB_iff, Int32.lt_iff_toInt_lt, ti_eq, Int32.reduceToInt, if_pos, if_neg, Option.bind_some, stI_at, stI_2at, Nat.reduceEqDiff, Nat.reduceBEq, false_and, and_false, true_and, and_self, and_true, ↓reduceIte]
              · by_cases h6 : b.toInt < 0
                · simp (disch := omega) only [↓mshelf0, z3, ↓within0, ↓has0, ↓tapFull0, inB_iff, Int32.lt_iff_toInt_lt, ti_eq, Int32.reduceToInt, if_pos, if_neg, Option.bind_some, stI_at, stI_2at, Nat.reduceEqDiff, Nat.reduceBEq, false_and, and_false, true_and, and_self, and_true, ↓reduceIte]
                · by_cases h7 : d.toInt < 0
                  · simp (disch := omega) only [↓mshelf0, z3, ↓within0, ↓has0, ↓tapFull0, inB_iff, Int32.lt_iff_toInt_lt, ti_eq, Int32.reduceToInt, if_pos, if_neg, Option.bind_some, stI_at, stI_2at, Nat.reduceEqDiff, Nat.reduceBEq, false_and, and_false, true_and, and_self, and_true, ↓reduceIte]
                  · have l2 : 0 < lg_cmp (b.toInt64 + e.toInt64) ((X.1 94 (nx a)).toInt64) := by
                      rw [lgc_gt, sum64, Int32.toInt_toInt64]
                      omega
                    rw [if_pos l2]
                    simp (disch := omega) only [↓mshelf0, z3, ↓within0, ↓has0, ↓tapFull0, inB_iff, Int32.lt_iff_toInt_lt, ti_eq, Int32.reduceToInt, if_pos, if_neg, Option.bind_some, stI_at, stI_2at, Nat.reduceEqDiff, Nat.reduceBEq, false_and, and_false, true_and, and_self, and_true, ↓reduceIte]
        · refine ⟨-12, X, X, ?_, ?_, h⟩
          · unfold el_shift
            rw [pair_s ha2 hc2, if_neg h1, if_neg h2]
            simp (disch := omega) only [↓shelf0, ↓within0, ↓has0, ↓tapFull0, inB_iff, Int32.lt_iff_toInt_lt, ti_eq, Int32.reduceToInt, if_pos, if_neg, Option.bind_some, stI_at, stI_2at, Nat.reduceEqDiff, Nat.reduceBEq, false_and, and_false, true_and, and_self, and_true, ↓reduceIte]
          · unfold mo_shift
            by_cases y1 : 4 < (X.1 130 (nx a)).toInt
            · have r5 : mo_isRow a X = some 0 := by rw [mRow_s ha2, if_pos (Or.inr y1)]
              rw [r5]
              simp (disch := omega) only [↓mshelf0, ↓Option.bind_some, ↓within0, ↓has0, ↓tapFull0, inB_iff, Int32.lt_iff_toInt_lt, ti_eq, Int32.reduceToInt, if_pos, if_neg, Option.bind_some, stI_at, stI_2at, Nat.reduceEqDiff, Nat.reduceBEq, false_and, and_false, true_and, and_self, and_true, ↓reduceIte]
            · by_cases y2 : 4 < (X.1 130 (nx c)).toInt
              · have y3 : 0 ≤ (X.1 130 (nx a)).toInt := by
                  rcases r1 with ⟨k1, k2⟩ | ⟨k1, k2⟩ | ⟨k1, k2, k3, k4, k5⟩
                  · rw [k2] at z1; exact absurd (by decide) z1
                  · rw [k2]; exact k1.1
                  · omega
                have r5 : mo_isRow a X = some 1 := by rw [mRow_s ha2, if_neg (by omega)]
                have r6 : mo_isRow c X = some 0 := by rw [mRow_s hc2, if_pos (Or.inr y2)]
                rw [r5, r6]
                simp (disch := omega) only [↓mshelf0, ↓Option.bind_some, ↓within0, ↓has0, ↓tapFull0, inB_iff, Int32.lt_iff_toInt_lt, ti_eq, Int32.reduceToInt, if_pos, if_neg, Option.bind_some, stI_at, stI_2at, Nat.reduceEqDiff, Nat.reduceBEq, false_and, and_false, true_and, and_self, and_true, ↓reduceIte]
              · have y3 : X.1 130 (nx a) = X.1 92 (nx a) ∧ 0 ≤ (X.1 92 (nx a)).toInt := by
                  rcases r1 with ⟨k1, k2⟩ | ⟨k1, k2⟩ | ⟨k1, k2, k3, k4, k5⟩
                  · rw [k2] at z1; exact absurd (by decide) z1
                  · exact ⟨k2, k1.1⟩
                  · omega
                have y4 : X.1 130 (nx c) = X.1 92 (nx c) ∧ 0 ≤ (X.1 92 (nx c)).toInt := by
                  rcases r2 with ⟨k1, k2⟩ | ⟨k1, k2⟩ | ⟨k1, k2, k3, k4, k5⟩
                  · rw [k2] at z2; exact absurd (by decide) z2
                  · exact ⟨k2, k1.1⟩
                  · omega
                rw [y3.1] at y1
                rw [y4.1] at y2
                have y5 := y3.2
                have y6 := y4.2
                have r5 : mo_isRow a X = some 1 := by rw [mRow_s ha2, y3.1, if_neg (by omega)]
                have r6 : mo_isRow c X = some 1 := by rw [mRow_s hc2, y4.1, if_neg (by omega)]
                rw [r5, r6, y3.1, y4.1]
                simp (disch := omega) only [↓mshelf0, ↓Option.bind_some, ↓within0, ↓has0, ↓tapFull0, inB_iff, Int32.lt_iff_toInt_lt, ti_eq, Int32.reduceToInt, if_pos, if_neg, Option.bind_some, stI_at, stI_2at, Nat.reduceEqDiff, Nat.reduceBEq, false_and, and_false, true_and, and_self, and_true, ↓reduceIte]
