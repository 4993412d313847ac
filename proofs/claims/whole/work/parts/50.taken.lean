/-! taken, shift -/
theorem ref_mref {a : Int32} {X : St} (h : ISh X) (hw : IWy X) (ha : 0 ≤ a.toInt ∧ a.toInt ≤ 5) :
    (X.1 92 (nx a) = -1 ∧ X.1 130 (nx a) = -1) ∨ ((0 ≤ (X.1 92 (nx a)).toInt ∧ (X.1 92 (nx a)).toInt ≤ 4) ∧ X.1 130 (nx a) = X.1 92 (nx a)) ∨ (X.1 92 (nx a) = 5 ∧ (X.1 130 (nx a)).toInt = 10 + (X.1 93 (nx a)).toInt ∧ X.1 130 (nx a) - 10 = X.1 93 (nx a) ∧ 0 ≤ (X.1 93 (nx a)).toInt ∧ (X.1 93 (nx a)).toInt < (X.1 88 2).toInt) := by
  have hn := nx_ti ha.1
  obtain ⟨w1, w2, w3, -⟩ := hw
  obtain ⟨f1, -⟩ := h (nx a) (by omega)
  rcases f1 with k | ⟨k1, k2, k3⟩ | ⟨k1, k2, k3, k4⟩
  · exact Or.inl k
  · exact Or.inr (Or.inl ⟨⟨k1, k2⟩, k3⟩)
  · have e : (X.1 130 (nx a)).toInt = 10 + (X.1 93 (nx a)).toInt := by
      rw [k2, ti_add] <;> simp only [Int32.reduceToInt] <;> omega
    refine Or.inr (Or.inr ⟨k1, e, ?_, k3, k4⟩)
    rw [ti_eq, ti_sub, e] <;> simp only [Int32.reduceToInt] <;> omega
theorem up_loop (n : Nat) (X : St) (w : Nat) (k b : Int32) (hk : 0 ≤ k.toInt ∧ k.toInt ≤ 7) (hb : 0 ≤ b.toInt ∧ b.toInt ≤ 7) :
    ∃ v, mo_taken_L61 n X (fun v3 v4 v5 => (if v5 = v3 then (some v4) else (some (-12 : Int32)))) (w + 5) b k k = some v ∧ v = (if ((UPf (nx k)) >>> (b &&& 31)) &&& (1 : Int32) = 0 then -12 else k) := by
  have e1 : k = 0 ∨ k = 1 ∨ k = 2 ∨ k = 3 ∨ k = 4 ∨ k = 5 ∨ k = 6 ∨ k = 7 := by
    simp only [ti_eq, Int32.reduceToInt]
    omega
  have e2 : b = 0 ∨ b = 1 ∨ b = 2 ∨ b = 3 ∨ b = 4 ∨ b = 5 ∨ b = 6 ∨ b = 7 := by
    simp only [ti_eq, Int32.reduceToInt]
    omega
  rcases e1 with e1 | e1 | e1 | e1 | e1 | e1 | e1 | e1 <;> rcases e2 with e2 | e2 | e2 | e2 | e2 | e2 | e2 | e2 <;> subst e1 <;> subst e2 <;> exact ⟨_, rfl, by decide⟩
theorem op_taken (n : Nat) (hn0 : 4096 ≤ n) (a b : Int32) (X : St) (h : ISh X) (hw : IWy X) : ∃ v, el_taken a b X = some v ∧ mo_taken n a b X = some v := by
  by_cases ha : a.toInt < 0 ∨ 5 < a.toInt
  · refine ⟨-1, ?_, ?_⟩
    · unfold el_taken
      simp (disch := omega) only [↓shelf0, ↓within0, ↓has0, ↓tapFull0, inB_iff, Int32.lt_iff_toInt_lt, ti_eq, Int32.reduceToInt, if_pos, if_neg, Option.bind_some, stI_at, stI_2at, Nat.reduceEqDiff, Nat.reduceBEq, false_and, and_false, true_and, and_self, and_true, ↓reduceIte]
    · unfold mo_taken
      simp (disch := omega) only [↓mshelf0, ↓within0, ↓has0, ↓tapFull0, inB_iff, Int32.lt_iff_toInt_lt, ti_eq, Int32.reduceToInt, if_pos, if_neg, Option.bind_some, stI_at, stI_2at, Nat.reduceEqDiff, Nat.reduceBEq, false_and, and_false, true_and, and_self, and_true, ↓reduceIte]
  · by_cases hb : b.toInt < 0 ∨ 7 < b.toInt
    · refine ⟨-1, ?_, ?_⟩
      · unfold el_taken
        simp (disch := omega) only [↓shelf0, ↓kind0, ↓within0, ↓has0, ↓tapFull0, inB_iff, Int32.lt_iff_toInt_lt, ti_eq, Int32.reduceToInt, if_pos, if_neg, Option.bind_some, stI_at, stI_2at, Nat.reduceEqDiff, Nat.reduceBEq, false_and, and_false, true_and, and_self, and_true, ↓reduceIte]
      · unfold mo_taken
        simp (disch := omega) only [↓mshelf0, ↓within0, ↓has0, ↓tapFull0, inB_iff, Int32.lt_iff_toInt_lt, ti_eq, Int32.reduceToInt, if_pos, if_neg, Option.bind_some, stI_at, stI_2at, Nat.reduceEqDiff, Nat.reduceBEq, false_and, and_false, true_and, and_self, and_true, ↓reduceIte]
    · have ha2 : 0 ≤ a.toInt ∧ a.toInt ≤ 5 := by omega
      have hn := nx_ti ha2.1
      have hr := ref_mref h hw ha2
      obtain ⟨w1, w2, w3, w4, -⟩ := hw
      rcases hr with ⟨k1, k2⟩ | ⟨k1, k2⟩ | ⟨k1, k2, k3, k4, k5⟩
      · refine ⟨-11, ?_, ?_⟩
        · unfold el_taken
          rw [refus_s ha2, k1]
          simp (disch := omega) only [↓shelf0, ↓kind0, ↓within0, ↓has0, ↓tapFull0, inB_iff, Int32.lt_iff_toInt_lt, ti_eq, Int32.reduceToInt, if_pos, if_neg, Option.bind_some, stI_at, stI_2at, Nat.reduceEqDiff, Nat.reduceBEq, false_and, and_false, true_and, and_self, and_true, ↓reduceIte]
        · unfold mo_taken
          simp (disch := omega) only [↓mshelf0, k2, ↓within0, ↓has0, ↓tapFull0, inB_iff, Int32.lt_iff_toInt_lt, ti_eq, Int32.reduceToInt, if_pos, if_neg, Option.bind_some, stI_at, stI_2at, Nat.reduceEqDiff, Nat.reduceBEq, false_and, and_false, true_and, and_self, and_true, ↓reduceIte]
      · refine ⟨-12, ?_, ?_⟩
        · unfold el_taken
          rw [refus_s ha2]
          simp (disch := omega) only [↓shelf0, ↓kind0, ↓within0, ↓has0, ↓tapFull0, inB_iff, Int32.lt_iff_toInt_lt, ti_eq, Int32.reduceToInt, if_pos, if_neg, Option.bind_some, stI_at, stI_2at, Nat.reduceEqDiff, Nat.reduceBEq, false_and, and_false, true_and, and_self, and_true, ↓reduceIte]
        · unfold mo_taken
          rw [mRow_s ha2, k2]
          simp (disch := omega) only [↓mshelf0, ↓within0, ↓has0, ↓tapFull0, inB_iff, Int32.lt_iff_toInt_lt, ti_eq, Int32.reduceToInt, if_pos, if_neg, Option.bind_some, stI_at, stI_2at, Nat.reduceEqDiff, Nat.reduceBEq, false_and, and_false, true_and, and_self, and_true, ↓reduceIte]
      · have h9 := nx_ti k4
        obtain ⟨q1, q2, q3⟩ := w4 (nx (X.1 93 (nx a))) (by omega)
        obtain ⟨w, rfl⟩ : ∃ w, n = w + 5 := ⟨n - 5, by omega⟩
        obtain ⟨v, p1, p2⟩ := up_loop (w + 5) X w (X.1 89 (nx (X.1 93 (nx a)))) b ⟨q2, q3⟩ (by omega)
        refine ⟨v, ?_, ?_⟩
        · unfold el_taken
          rw [refus_s ha2, k1]
          unfold she_held way_kindOf way_isUnder
          rw [p2]
          by_cases hz : ((UPf (nx (X.1 89 (nx (X.1 93 (nx a))))) >>> (b &&& 31)) &&& (1 : Int32)) = 0
          · rw [if_pos hz]
            have hz' := ti_eq.mp hz
            simp only [Int32.reduceToInt] at hz'
            simp (disch := omega) only [↓shelf0, ↓kind0, k1, ↓whas0, hz', ↓within0, ↓has0, ↓tapFull0, inB_iff, Int32.lt_iff_toInt_lt, ti_eq, Int32.reduceToInt, if_pos, if_neg, Option.bind_some, stI_at, stI_2at, Nat.reduceEqDiff, Nat.reduceBEq, false_and, and_false, true_and, and_self, and_true, ↓reduceIte]
          · rw [if_neg hz]
            have hz' : ¬ ((UPf (nx (X.1 89 (nx (X.1 93 (nx a))))) >>> (b &&& 31)) &&& (1 : Int32)).toInt = 0 := fun e => hz (by rw [ti_eq, e]; rfl)
            simp (disch := omega) only [↓shelf0, ↓kind0, k1, ↓whas0, ↓within0, ↓has0, ↓tapFull0, inB_iff, Int32.lt_iff_toInt_lt, ti_eq, Int32.reduceToInt, if_pos, if_neg, Option.bind_some, stI_at, stI_2at, Nat.reduceEqDiff, Nat.reduceBEq, false_and, and_false, true_and, and_self, and_true, ↓reduceIte]
        · unfold mo_taken
          rw [mRow_s ha2]
          simp only [ti_eq] at p1
          simp (disch := omega) only [↓mshelf0, k3, k2, q1, ↓within0, ↓has0, ↓tapFull0, inB_iff, Int32.lt_iff_toInt_lt, ti_eq, Int32.reduceToInt, if_pos, if_neg, Option.bind_some, stI_at, stI_2at, Nat.reduceEqDiff, Nat.reduceBEq, false_and, and_false, true_and, and_self, and_true, ↓reduceIte]
          exact p1
theorem lgc_gt {x y : Int64} : 0 < lg_cmp x y ↔ y.toInt < x.toInt := by
  unfold lg_cmp
  by_cases h1 : x > y
  · rw [if_pos h1]
    have h2 := Int64.lt_iff_toInt_lt.mp h1
    exact ⟨fun _ => h2, fun _ => by decide⟩
  · rw [if_neg h1]
    have h2 : ¬ y.toInt < x.toInt := fun h => h1 (Int64.lt_iff_toInt_lt.mpr h)
    constructor
    · intro h3
      by_cases h4 : x = y
      · rw [if_pos h4] at h3
        exact absurd h3 (by decide)
      · rw [if_neg h4] at h3
        exact absurd h3 (by decide)
    · exact fun h3 => absurd h3 h2
theorem sum64 {x y : Int32} : (x.toInt64 + y.toInt64).toInt = x.toInt + y.toInt := by
  have h1 := ti_rng x
  have h2 := ti_rng y
  rw [Int64.toInt_add, Int32.toInt_toInt64, Int32.toInt_toInt64, Int.bmod_eq_of_le] <;> omega
theorem ix60c {a b c : Int32} (ha : 0 ≤ a.toInt ∧ a.toInt ≤ 5) (hb : 0 ≤ b.toInt) (hc : 0 ≤ c.toInt) (hbc : b.toInt + c.toInt < 60) : (((60 : Int32) * a + b) + c).toInt = 60 * a.toInt + b.toInt + c.toInt ∧ nx (((60 : Int32) * a + b) + c) = 60 * nx a + nx b + nx c := by
  obtain ⟨e1, e2⟩ := ix60 (a := a) (b := b) ha (by omega)
  have e3 : (((60 : Int32) * a + b) + c).toInt = 60 * a.toInt + b.toInt + c.toInt := by rw [ti_add, e1] <;> rw [e1] <;> omega
  refine ⟨e3, ?_⟩
  have h1 := nx_ti (x := ((60 : Int32) * a + b) + c) (by omega)
  have h2 := nx_ti ha.1
  have h3 := nx_ti hb
  have h4 := nx_ti hc
  omega
theorem fwd (n : Nat) (a b c d e : Int32) (ha : 0 ≤ a.toInt ∧ a.toInt ≤ 5) (hc : 0 ≤ c.toInt ∧ c.toInt ≤ 5) (hb : 0 ≤ b.toInt) (hd : 0 ≤ d.toInt) (he : 0 ≤ e.toInt) (hbe : b.toInt + e.toInt ≤ 60) (hde : d.toInt + e.toInt ≤ 60) (hov : nx a ≠ nx c ∨ nx d ≤ nx b) : ∀ (w : Nat) (k : Nat) (v : Int32) (X : St), v.toInt = k → k ≤ nx e → nx e < k + w → ∃ X', mo_shift_L188 n w a b c d e v X = some (e, X') ∧ X'.1 = X.1 ∧ (∀ o, o ≠ 132 → X'.2 o = X.2 o) ∧ ∀ j, X'.2 132 j = if 60 * nx c + nx d + k ≤ j ∧ j < 60 * nx c + nx d + nx e then X.2 132 (60 * nx a + nx b + (j - (60 * nx c + nx d))) else X.2 132 j := by
  have n1 := nx_ti ha.1
  have n2 := nx_ti hb
  have n3 := nx_ti hc.1
  have n4 := nx_ti hd
  have n5 := nx_ti he
  intro w
  induction w with
  | zero => intro k v X hv h1 h2; omega
  | succ w ih =>
    intro k v X hv h1 h2
    show ∃ X', mo_shift_L188_B n (mo_shift_L188 n w) a b c d e v X = some (e, X') ∧ _
    unfold mo_shift_L188_B
    by_cases hlt : k < nx e
    · have ev : (v + 1).toInt = ((k + 1 : Nat) : Int) := by rw [ti_add] <;> simp only [Int32.reduceToInt] <;> omega
      have n6 := nx_ti (x := v) (by omega)
      obtain ⟨x1, x2⟩ := ix60c (a := a) (b := b) (c := v) ha hb (by omega) (by omega)
      obtain ⟨y1, y2⟩ := ix60c (a := c) (b := d) (c := v) hc hd (by omega) (by omega)
      obtain ⟨X', g1, g2, g3, g4⟩ := ih (k + 1) (v + 1) (stL X 132 (60 * nx c + nx d + nx v) (X.2 132 (60 * nx a + nx b + nx v))) ev (by omega) (by omega)
      refine ⟨X', ?_, g2, fun o ho => ?_, fun j => ?_⟩
      · rw [if_pos (by rw [Int32.lt_iff_toInt_lt]; omega), if_pos (by rw [inB_iff]; omega), if_pos (by rw [inB_iff]; omega), x2, y2]
        exact g1
      · rw [g3 o ho]
        funext i
        rw [stL_at, if_neg (fun z => ho z.1)]
      · rw [g4 j, stL_at, stL_at]
        have nv : nx v = k := by omega
        rw [nv]
        by_cases hj : 60 * nx c + nx d + (k + 1) ≤ j ∧ j < 60 * nx c + nx d + nx e
        · rw [if_pos hj, if_neg (by omega), if_pos (by omega)]
        · rw [if_neg hj]
          by_cases hj2 : j = 60 * nx c + nx d + k
          · rw [if_pos ⟨rfl, hj2⟩, if_pos (by omega)]
            rw [show j - (60 * nx c + nx d) = k by omega]
          · rw [if_neg (fun z => hj2 z.2), if_neg (by omega)]
    · refine ⟨X, ?_, rfl, fun _ _ => rfl, fun j => ?_⟩
      · rw [if_neg (by rw [Int32.lt_iff_toInt_lt]; omega)]
      · rw [if_neg (by omega)]
theorem bwd (n : Nat) (a b c d e : Int32) (ha : 0 ≤ a.toInt ∧ a.toInt ≤ 5) (hc : 0 ≤ c.toInt ∧ c.toInt ≤ 5) (hb : 0 ≤ b.toInt) (hd : 0 ≤ d.toInt) (he : 0 ≤ e.toInt) (hbe : b.toInt + e.toInt ≤ 60) (hde : d.toInt + e.toInt ≤ 60) (hov : nx a = nx c ∧ nx b < nx d) : ∀ (w : Nat) (k : Nat) (v : Int32) (X : St), v.toInt = (k : Int) - 1 → k ≤ nx e → k < w → ∃ X', mo_shift_L142 n w a b c d e v X = some (e, X') ∧ X'.1 = X.1 ∧ (∀ o, o ≠ 132 → X'.2 o = X.2 o) ∧ ∀ j, X'.2 132 j = if 60 * nx c + nx d ≤ j ∧ j < 60 * nx c + nx d + k then X.2 132 (60 * nx a + nx b + (j - (60 * nx c + nx d))) else X.2 132 j := by
  have n1 := nx_ti ha.1
  have n2 := nx_ti hb
  have n3 := nx_ti hc.1
  have n4 := nx_ti hd
  have n5 := nx_ti he
  intro w
  induction w with
  | zero => intro k v X hv h1 h2; omega
  | succ w ih =>
    intro k v X hv h1 h2
    show ∃ X', mo_shift_L142_B n (mo_shift_L142 n w) a b c d e v X = some (e, X') ∧ _
    unfold mo_shift_L142_B
    have e0 : (0 : Int32).toInt = 0 := by decide
    by_cases hlt : 0 < k
    · have ev : (v + (-1)).toInt = ((k - 1 : Nat) : Int) - 1 := by rw [ti_add] <;> simp only [Int32.reduceToInt] <;> omega
      have n6 := nx_ti (x := v) (by omega)
      obtain ⟨x1, x2⟩ := ix60c (a := a) (b := b) (c := v) ha hb (by omega) (by omega)
      obtain ⟨y1, y2⟩ := ix60c (a := c) (b := d) (c := v) hc hd (by omega) (by omega)
      obtain ⟨X', g1, g2, g3, g4⟩ := ih (k - 1) (v + (-1)) (stL X 132 (60 * nx c + nx d + nx v) (X.2 132 (60 * nx a + nx b + nx v))) ev (by omega) (by omega)
      refine ⟨X', ?_, g2, fun o ho => ?_, fun j => ?_⟩
      · rw [if_neg (by rw [Int32.lt_iff_toInt_lt, e0]; omega), if_pos (by rw [inB_iff]; omega), if_pos (by rw [inB_iff]; omega), x2, y2]
        exact g1
      · rw [g3 o ho]
        funext i
        rw [stL_at, if_neg (fun z => ho z.1)]
      · rw [g4 j, stL_at, stL_at]
        have nv : nx v = k - 1 := by omega
        rw [nv]
        by_cases hj : 60 * nx c + nx d ≤ j ∧ j < 60 * nx c + nx d + (k - 1)
        · rw [if_pos hj, if_neg (by omega), if_pos (by omega)]
        · rw [if_neg hj]
          by_cases hj2 : j = 60 * nx c + nx d + (k - 1)
          · rw [if_pos ⟨rfl, hj2⟩, if_pos (by omega)]
            rw [show j - (60 * nx c + nx d) = k - 1 by omega]
          · rw [if_neg (fun z => hj2 z.2), if_neg (by omega)]
    · refine ⟨X, ?_, rfl, fun _ _ => rfl, fun j => ?_⟩
      · rw [if_pos (by rw [Int32.lt_iff_toInt_lt, e0]; omega)]
      · rw [if_neg (by omega)]
theorem stretch_s {a b e : Int32} {X : St} (ha : 0 ≤ a.toInt ∧ a.toInt ≤ 5) (hs : 0 ≤ (X.1 94 (nx a)).toInt ∧ (X.1 94 (nx a)).toInt ≤ 60) : she_isStretch a b e X = some (if 0 ≤ b.toInt ∧ 0 ≤ e.toInt ∧ b.toInt + e.toInt ≤ (X.1 94 (nx a)).toInt then 1 else 0) := by
  have hn := nx_ti ha.1
  unfold she_isStretch
  by_cases h1 : b.toInt < 0
  · rw [if_neg (c := 0 ≤ b.toInt ∧ 0 ≤ e.toInt ∧ b.toInt + e.toInt ≤ (X.1 94 (nx a)).toInt) (by omega)]
    simp (disch := omega) only [↓shelf0, ↓within0, ↓has0, ↓tapFull0, inB_iff, Int32.lt_iff_toInt_lt, ti_eq, Int32.reduceToInt, if_pos, if_neg, Option.bind_some, stI_at, stI_2at, Nat.reduceEqDiff, Nat.reduceBEq, false_and, and_false, true_and, and_self, and_true, ↓reduceIte]
  · by_cases h2 : e.toInt < 0
    · rw [if_neg (c := 0 ≤ b.toInt ∧ 0 ≤ e.toInt ∧ b.toInt + e.toInt ≤ (X.1 94 (nx a)).toInt) (by omega)]
      simp (disch := omega) only [↓shelf0, ↓within0, ↓has0, ↓tapFull0, inB_iff, Int32.lt_iff_toInt_lt, ti_eq, Int32.reduceToInt, if_pos, if_neg, Option.bind_some, stI_at, stI_2at, Nat.reduceEqDiff, Nat.reduceBEq, false_and, and_false, true_and, and_self, and_true, ↓reduceIte]
    · have h3 : (X.1 94 (nx a) - e).toInt = (X.1 94 (nx a)).toInt - e.toInt := by
        have := ti_rng e
        rw [ti_sub] <;> omega
      by_cases h4 : b.toInt + e.toInt ≤ (X.1 94 (nx a)).toInt
      · rw [if_pos (c := 0 ≤ b.toInt ∧ 0 ≤ e.toInt ∧ b.toInt + e.toInt ≤ (X.1 94 (nx a)).toInt) (by omega)]
        simp (disch := omega) only [↓shelf0, h3, ↓within0, ↓has0, ↓tapFull0, inB_iff, Int32.lt_iff_toInt_lt, ti_eq, Int32.reduceToInt, if_pos, if_neg, Option.bind_some, stI_at, stI_2at, Nat.reduceEqDiff, Nat.reduceBEq, false_and, and_false, true_and, and_self, and_true, ↓reduceIte]
      · rw [if_neg (c := 0 ≤ b.toInt ∧ 0 ≤ e.toInt ∧ b.toInt + e.toInt ≤ (X.1 94 (nx a)).toInt) (by omega)]
        simp (disch := omega) only [↓shelf0, h3, ↓within0, ↓has0, ↓tapFull0, inB_iff, Int32.lt_iff_toInt_lt, ti_eq, Int32.reduceToInt, if_pos, if_neg, Option.bind_some, stI_at, stI_2at, Nat.reduceEqDiff, Nat.reduceBEq, false_and, and_false, true_and, and_self, and_true, ↓reduceIte]
theorem pair_s {a c : Int32} {X : St} (ha : 0 ≤ a.toInt ∧ a.toInt ≤ 5) (hc : 0 ≤ c.toInt ∧ c.toInt ≤ 5) : she_pairRefusal a c X = some (if (X.1 92 (nx a)).toInt = -1 ∨ (X.1 92 (nx c)).toInt = -1 then -11 else if (0 ≤ (X.1 92 (nx a)).toInt ∧ (X.1 92 (nx a)).toInt ≤ 4) ∧ (X.1 92 (nx a)).toInt = (X.1 92 (nx c)).toInt then 0 else -12) := by
  have hn := nx_ti ha.1
  have hm := nx_ti hc.1
  unfold she_pairRefusal she_isEmpty
  by_cases h1 : (X.1 92 (nx a)).toInt = -1
  · simp (disch := omega) only [↓shelf0, h1, true_or, ↓within0, ↓has0, ↓tapFull0, inB_iff, Int32.lt_iff_toInt_lt, ti_eq, Int32.reduceToInt, if_pos, if_neg, Option.bind_some, stI_at, stI_2at, Nat.reduceEqDiff, Nat.reduceBEq, false_and, and_false, true_and, and_self, and_true, ↓reduceIte]
  · by_cases h2 : (X.1 92 (nx c)).toInt = -1
    · simp (disch := omega) only [↓shelf0, h2, or_true, ↓within0, ↓has0, ↓tapFull0, inB_iff, Int32.lt_iff_toInt_lt, ti_eq, Int32.reduceToInt, if_pos, if_neg, Option.bind_some, stI_at, stI_2at, Nat.reduceEqDiff, Nat.reduceBEq, false_and, and_false, true_and, and_self, and_true, ↓reduceIte]
    · rw [if_neg (c := (X.1 92 (nx a)).toInt = -1 ∨ (X.1 92 (nx c)).toInt = -1) (by omega)]
      by_cases h3 : (X.1 92 (nx a)).toInt < 0 ∨ 4 < (X.1 92 (nx a)).toInt
      · rw [if_neg (c := (0 ≤ (X.1 92 (nx a)).toInt ∧ (X.1 92 (nx a)).toInt ≤ 4) ∧ (X.1 92 (nx a)).toInt = (X.1 92 (nx c)).toInt) (by omega)]
        simp (disch := omega) only [↓shelf0, ↓sort0, ↓within0, ↓has0, ↓tapFull0, inB_iff, Int32.lt_iff_toInt_lt, ti_eq, Int32.reduceToInt, if_pos, if_neg, Option.bind_some, stI_at, stI_2at, Nat.reduceEqDiff, Nat.reduceBEq, false_and, and_false, true_and, and_self, and_true, ↓reduceIte]
      · by_cases h4 : (X.1 92 (nx a)).toInt = (X.1 92 (nx c)).toInt
        · rw [if_pos (c := (0 ≤ (X.1 92 (nx a)).toInt ∧ (X.1 92 (nx a)).toInt ≤ 4) ∧ (X.1 92 (nx a)).toInt = (X.1 92 (nx c)).toInt) (by omega)]
          simp (disch := omega) only [↓shelf0, ↓sort0, ↓within0, ↓has0, ↓tapFull0, inB_iff, Int32.lt_iff_toInt_lt, ti_eq, Int32.reduceToInt, if_pos, if_neg, Option.bind_some, stI_at, stI_2at, Nat.reduceEqDiff, Nat.reduceBEq, false_and, and_false, true_and, and_self, and_true, ↓reduceIte]
        · rw [if_neg (c := (0 ≤ (X.1 92 (nx a)).toInt ∧ (X.1 92 (nx a)).toInt ≤ 4) ∧ (X.1 92 (nx a)).toInt = (X.1 92 (nx c)).toInt) (by omega)]
          simp (disch := omega) only [↓shelf0, ↓sort0, ↓within0, ↓has0, ↓tapFull0, inB_iff, Int32.lt_iff_toInt_lt, ti_eq, Int32.reduceToInt, if_pos, if_neg, Option.bind_some, stI_at, stI_2at, Nat.reduceEqDiff, Nat.reduceBEq, false_and, and_false, true_and, and_self, and_true, ↓reduceIte]
