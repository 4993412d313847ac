/-! image, back -/
/-- the image kept, on both sides -/
def IThen (X : St) : Prop := X.1 102 29 = X.1 81 6 ∧ (X.1 81 6 = 0 ∨ X.1 81 6 = 1) ∧ 0 ≤ (X.1 102 30).toInt ∧ (X.1 102 30).toInt ≤ 8 ∧ (∀ k : Nat, k < 8 → ((k : Int) < (X.1 102 30).toInt → X.1 124 k = X.1 85 k ∧ X.1 125 k = X.1 86 k) ∧ ((X.1 102 30).toInt ≤ k → X.1 85 k = 0 ∧ X.1 86 k = 0)) ∧ ∀ i, i < 5 → X.1 126 i = X.1 87 i
/-- beyond the swimmers nobody is tired -/
def IZer (X : St) : Prop := ∀ k : Nat, k < 8 → (X.1 1 1).toInt ≤ k → X.1 82 k = 0 ∧ X.1 83 k = 0
theorem img1 (n : Nat) (K : St → Option (Int32 × St)) : ∀ (w k : Nat) (v : Int32) (X : St), v.toInt = k → k ≤ 8 → 8 < k + w → ∃ X', mo_image_L15 n K w v X = K X' ∧ X'.2 = X.2 ∧ ∀ o i, X'.1 o i = if o = 124 ∧ k ≤ i ∧ i < 8 then X.1 110 i else if o = 125 ∧ k ≤ i ∧ i < 8 then X.1 111 i else X.1 o i := by
  intro w
  induction w with
  | zero => intro k v X hv h1 h2; omega
  | succ w ih =>
    intro k v X hv h1 h2
    show ∃ X', mo_image_L15_B n K (mo_image_L15 n K w) v X = K X' ∧ _
    unfold mo_image_L15_B
    by_cases hc : k < 8
    · have hn := nx_ti (x := v) (by omega)
      have ev : (v + 1).toInt = ((k + 1 : Nat) : Int) := by rw [ti_add] <;> simp only [Int32.reduceToInt] <;> omega
      have e2 : nx v = k := by omega
      obtain ⟨X', g1, g2, g3⟩ := ih (k + 1) (v + 1) (stI (stI X 124 k (X.1 110 k)) 125 k (X.1 111 k)) ev (by omega) (by omega)
      refine ⟨X', ?_, g2, fun o i => ?_⟩
      · rw [e2]
        simp (disch := omega) only [↓within0, ↓has0, ↓tapFull0, inB_iff, Int32.lt_iff_toInt_lt, ti_eq, Int32.reduceToInt, if_pos, if_neg, Option.bind_some, stI_at, stI_2at, Nat.reduceEqDiff, Nat.reduceBEq, false_and, and_false, true_and, and_self, and_true, ↓reduceIte]
        exact g1
      · rw [g3]
        simp only [stI_at, stI_2at, stL_at, stL_1at, Nat.reduceEqDiff, false_and, and_false, true_and, and_true, and_self, ↓reduceIte]
        by_cases q1 : o = 124
        · subst q1
          by_cases q2 : k + 1 ≤ i ∧ i < 8
          · rw [if_pos ⟨rfl, q2⟩, if_pos (by omega)]
          · by_cases q3 : i = k
            · subst q3
              simp [hc]
            · rw [if_neg (by omega), if_neg (by omega), if_neg (by omega), if_neg (by omega), if_neg (by omega), if_neg (by omega)]
        · by_cases q1b : o = 125
          · subst q1b
            by_cases q2 : k + 1 ≤ i ∧ i < 8
            · rw [if_neg (by omega), if_pos ⟨rfl, q2⟩, if_neg (by omega), if_pos (by omega)]
            · by_cases q3 : i = k
              · subst q3
                simp [hc]
              · rw [if_neg (by omega), if_neg (by omega), if_neg (by omega), if_neg (by omega), if_neg (by omega), if_neg (by omega)]
          · rw [if_neg (by omega), if_neg (by omega), if_neg (by omega), if_neg (by omega), if_neg (by omega), if_neg (by omega)]
    · refine ⟨X, ?_, rfl, fun o i => ?_⟩
      · simp (disch := omega) only [↓within0, ↓has0, ↓tapFull0, inB_iff, Int32.lt_iff_toInt_lt, ti_eq, Int32.reduceToInt, if_pos, if_neg, Option.bind_some, stI_at, stI_2at, Nat.reduceEqDiff, Nat.reduceBEq, false_and, and_false, true_and, and_self, and_true, ↓reduceIte]
      · rw [if_neg (by omega), if_neg (by omega)]
theorem img2 (n : Nat) : ∀ (w k : Nat) (v : Int32) (X : St), v.toInt = k → k ≤ 5 → 5 < k + w → ∃ X', mo_image_L53 n w v X = some (X'.1 123 0, X') ∧ X'.2 = X.2 ∧ ∀ o i, X'.1 o i = if o = 126 ∧ k ≤ i ∧ i < 5 then X.1 123 i else X.1 o i := by
  intro w
  induction w with
  | zero => intro k v X hv h1 h2; omega
  | succ w ih =>
    intro k v X hv h1 h2
    show ∃ X', mo_image_L53_B n (mo_image_L53 n w) v X = some (X'.1 123 0, X') ∧ _
    unfold mo_image_L53_B
    by_cases hc : k < 5
    · have hn := nx_ti (x := v) (by omega)
      have ev : (v + 1).toInt = ((k + 1 : Nat) : Int) := by rw [ti_add] <;> simp only [Int32.reduceToInt] <;> omega
      have e2 : nx v = k := by omega
      obtain ⟨X', g1, g2, g3⟩ := ih (k + 1) (v + 1) (stI X 126 k (X.1 123 k)) ev (by omega) (by omega)
      refine ⟨X', ?_, g2, fun o i => ?_⟩
      · rw [e2]
        simp (disch := omega) only [↓within0, ↓has0, ↓tapFull0, inB_iff, Int32.lt_iff_toInt_lt, ti_eq, Int32.reduceToInt, if_pos, if_neg, Option.bind_some, stI_at, stI_2at, Nat.reduceEqDiff, Nat.reduceBEq, false_and, and_false, true_and, and_self, and_true, ↓reduceIte]
        exact g1
      · rw [g3]
        simp only [stI_at, stI_2at, stL_at, stL_1at, Nat.reduceEqDiff, false_and, and_false, true_and, and_true, and_self, ↓reduceIte]
        by_cases q1 : o = 126
        · subst q1
          by_cases q2 : k + 1 ≤ i ∧ i < 5
          · rw [if_pos ⟨rfl, q2⟩, if_pos (by omega)]
          · by_cases q3 : i = k
            · subst q3
              simp [hc]
            · rw [if_neg (by omega), if_neg (by omega), if_neg (by omega)]
        · rw [if_neg (by omega), if_neg (by omega), if_neg (by omega)]
    · refine ⟨X, ?_, rfl, fun o i => ?_⟩
      · simp (disch := omega) only [↓within0, ↓has0, ↓tapFull0, inB_iff, Int32.lt_iff_toInt_lt, ti_eq, Int32.reduceToInt, if_pos, if_neg, Option.bind_some, stI_at, stI_2at, Nat.reduceEqDiff, Nat.reduceBEq, false_and, and_false, true_and, and_self, and_true, ↓reduceIte]
        rfl
      · rw [if_neg (by omega)]
theorem bck1 (n : Nat) (K : St → Option (Int32 × St)) : ∀ (w k : Nat) (v : Int32) (X : St), v.toInt = k → k ≤ 8 → 8 < k + w → ∃ X', mo_back_L12 n K w v X = K X' ∧ X'.2 = X.2 ∧ ∀ o i, X'.1 o i = if o = 110 ∧ k ≤ i ∧ i < 8 then (if (i : Int) < (X.1 102 30).toInt then X.1 124 i else 0) else if o = 111 ∧ k ≤ i ∧ i < 8 then (if (i : Int) < (X.1 102 30).toInt then X.1 125 i else 0) else X.1 o i := by
  intro w
  induction w with
  | zero => intro k v X hv h1 h2; omega
  | succ w ih =>
    intro k v X hv h1 h2
    show ∃ X', mo_back_L12_B n K (mo_back_L12 n K w) v X = K X' ∧ _
    unfold mo_back_L12_B mo_back_J41
    by_cases hc : k < 8
    · have hn := nx_ti (x := v) (by omega)
      have ev : (v + 1).toInt = ((k + 1 : Nat) : Int) := by rw [ti_add] <;> simp only [Int32.reduceToInt] <;> omega
      have e2 : nx v = k := by omega
      obtain ⟨X', g1, g2, g3⟩ := ih (k + 1) (v + 1) (stI (stI X 110 k (if (k : Int) < (X.1 102 30).toInt then X.1 124 k else 0)) 111 k (if (k : Int) < (X.1 102 30).toInt then X.1 125 k else 0)) ev (by omega) (by omega)
      refine ⟨X', ?_, g2, fun o i => ?_⟩
      · rw [e2]
        by_cases hd : (k : Int) < (X.1 102 30).toInt
        · rw [if_pos hd, if_pos hd] at g1
          simp (disch := omega) only [↓within0, ↓has0, ↓tapFull0, inB_iff, Int32.lt_iff_toInt_lt, ti_eq, Int32.reduceToInt, if_pos, if_neg, Option.bind_some, stI_at, stI_2at, Nat.reduceEqDiff, Nat.reduceBEq, false_and, and_false, true_and, and_self, and_true, ↓reduceIte]
          exact g1
        · rw [if_neg hd, if_neg hd] at g1
          simp (disch := omega) only [↓within0, ↓has0, ↓tapFull0, inB_iff, Int32.lt_iff_toInt_lt, ti_eq, Int32.reduceToInt, if_pos, if_neg, Option.bind_some, stI_at, stI_2at, Nat.reduceEqDiff, Nat.reduceBEq, false_and, and_false, true_and, and_self, and_true, ↓reduceIte]
          exact g1
      · rw [g3]
        have c0 : (stI (stI X 110 k (if (k : Int) < (X.1 102 30).toInt then X.1 124 k else 0)) 111 k (if (k : Int) < (X.1 102 30).toInt then X.1 125 k else 0)).1 102 30 = X.1 102 30 := by simp only [stI_at, stI_2at, stL_at, stL_1at, Nat.reduceEqDiff, false_and, and_false, true_and, and_true, and_self, ↓reduceIte]
        rw [c0]
        simp only [stI_at, stI_2at, stL_at, stL_1at, Nat.reduceEqDiff, false_and, and_false, true_and, and_true, and_self, ↓reduceIte]
        by_cases q1 : o = 110
        · subst q1
          by_cases q2 : k + 1 ≤ i ∧ i < 8
          · rw [if_pos ⟨rfl, q2⟩, if_pos (c := 110 = 110 ∧ k ≤ i ∧ i < 8) (by omega)]
          · by_cases q3 : i = k
            · subst q3
              simp [hc]
            · rw [if_neg (by omega), if_neg (by omega), if_neg (by omega), if_neg (by omega), if_neg (by omega), if_neg (by omega)]
        · by_cases q1b : o = 111
          · subst q1b
            by_cases q2 : k + 1 ≤ i ∧ i < 8
            · rw [if_neg (by omega), if_pos ⟨rfl, q2⟩, if_neg (c := 111 = 110 ∧ k ≤ i ∧ i < 8) (by omega), if_pos (c := 111 = 111 ∧ k ≤ i ∧ i < 8) (by omega)]
            · by_cases q3 : i = k
              · subst q3
                simp [hc]
              · rw [if_neg (by omega), if_neg (by omega), if_neg (by omega), if_neg (by omega), if_neg (by omega), if_neg (by omega)]
          · rw [if_neg (by omega), if_neg (by omega), if_neg (by omega), if_neg (by omega), if_neg (by omega), if_neg (by omega)]
    · refine ⟨X, ?_, rfl, fun o i => ?_⟩
      · simp (disch := omega) only [↓within0, ↓has0, ↓tapFull0, inB_iff, Int32.lt_iff_toInt_lt, ti_eq, Int32.reduceToInt, if_pos, if_neg, Option.bind_some, stI_at, stI_2at, Nat.reduceEqDiff, Nat.reduceBEq, false_and, and_false, true_and, and_self, and_true, ↓reduceIte]
      · rw [if_neg (by omega), if_neg (by omega)]
theorem bck2 (n : Nat) : ∀ (w k : Nat) (v : Int32) (X : St), v.toInt = k → k ≤ 5 → 5 < k + w → ∃ X', mo_back_L74 n w v X = some (X'.1 123 0, X') ∧ X'.2 = X.2 ∧ ∀ o i, X'.1 o i = if o = 123 ∧ k ≤ i ∧ i < 5 then X.1 126 i else X.1 o i := by
  intro w
  induction w with
  | zero => intro k v X hv h1 h2; omega
  | succ w ih =>
    intro k v X hv h1 h2
    show ∃ X', mo_back_L74_B n (mo_back_L74 n w) v X = some (X'.1 123 0, X') ∧ _
    unfold mo_back_L74_B
    by_cases hc : k < 5
    · have hn := nx_ti (x := v) (by omega)
      have ev : (v + 1).toInt = ((k + 1 : Nat) : Int) := by rw [ti_add] <;> simp only [Int32.reduceToInt] <;> omega
      have e2 : nx v = k := by omega
      obtain ⟨X', g1, g2, g3⟩ := ih (k + 1) (v + 1) (stI X 123 k (X.1 126 k)) ev (by omega) (by omega)
      refine ⟨X', ?_, g2, fun o i => ?_⟩
      · rw [e2]
        simp (disch := omega) only [↓within0, ↓has0, ↓tapFull0, inB_iff, Int32.lt_iff_toInt_lt, ti_eq, Int32.reduceToInt, if_pos, if_neg, Option.bind_some, stI_at, stI_2at, Nat.reduceEqDiff, Nat.reduceBEq, false_and, and_false, true_and, and_self, and_true, ↓reduceIte]
        exact g1
      · rw [g3]
        simp only [stI_at, stI_2at, stL_at, stL_1at, Nat.reduceEqDiff, false_and, and_false, true_and, and_true, and_self, ↓reduceIte]
        by_cases q1 : o = 123
        · subst q1
          by_cases q2 : k + 1 ≤ i ∧ i < 5
          · rw [if_pos ⟨rfl, q2⟩, if_pos (by omega)]
          · by_cases q3 : i = k
            · subst q3
              simp [hc]
            · rw [if_neg (by omega), if_neg (by omega), if_neg (by omega)]
        · rw [if_neg (by omega), if_neg (by omega), if_neg (by omega)]
    · refine ⟨X, ?_, rfl, fun o i => ?_⟩
      · simp (disch := omega) only [↓within0, ↓has0, ↓tapFull0, inB_iff, Int32.lt_iff_toInt_lt, ti_eq, Int32.reduceToInt, if_pos, if_neg, Option.bind_some, stI_at, stI_2at, Nat.reduceEqDiff, Nat.reduceBEq, false_and, and_false, true_and, and_self, and_true, ↓reduceIte]
        rfl
      · rw [if_neg (by omega)]
theorem cpI_q {X : St} {o sp p dp n o' i' : Nat} : (cpI X o sp p dp n).1 o' i' = if o' = p then (if dp ≤ i' ∧ i' < dp + n then X.1 o (sp + (i' - dp)) else X.1 p i') else X.1 o' i' := rfl
theorem op_image (n : Nat) (hn0 : 4096 ≤ n) (X : St) (hl : ILed X) (hp : IPool X) (ht : ITir X) (hz : IZer X) : ∃ v X1 X2, el_image X = some (v, X1) ∧ mo_image n X1 = some (v, X2) ∧ ILed X2 ∧ ITir X2 ∧ IThen X2 := by
  obtain ⟨X1, hX1⟩ : ∃ X1, X1 = stI (cpI (cpI (cpI X 82 0 85 0 8) 83 0 86 0 8) 84 0 87 0 5) 81 6 1 := ⟨_, rfl⟩
  have f : ∀ o i, X1.1 o i = if o = 81 ∧ i = 6 then 1 else if o = 85 ∧ i < 8 then X.1 82 i else if o = 86 ∧ i < 8 then X.1 83 i else if o = 87 ∧ i < 5 then X.1 84 i else X.1 o i := by
    intro o i
    rw [hX1]
    simp only [stI_at, cpI_q, Nat.zero_le, Nat.zero_add, Nat.sub_zero, true_and]
    by_cases q0 : o = 81 ∧ i = 6
    · rw [if_pos q0, if_pos q0]
    · rw [if_neg q0, if_neg q0]
      by_cases q1 : o = 87
      · subst q1
        by_cases q2 : i < 5 <;> simp [q2]
      · by_cases q3 : o = 86
        · subst q3
          by_cases q2 : i < 8 <;> simp [q2]
        · by_cases q4 : o = 85
          · subst q4
            by_cases q2 : i < 8 <;> simp [q2]
          · simp [q1, q3, q4]
  obtain ⟨X2, a1, a2, a3⟩ := img1 n (fun X3 => (mo_image_L53 n n (0 : Int32) X3)) n 0 0 (stI (stI X1 102 29 1) 102 30 (X1.1 102 0)) (by decide) (by omega) (by omega)
  obtain ⟨X3, b1, b2, b3⟩ := img2 n n 0 0 X2 (by decide) (by omega) (by omega)
  have g : ∀ o i, X3.1 o i = if o = 126 ∧ i < 5 then X.1 123 i else if o = 124 ∧ i < 8 then X.1 110 i else if o = 125 ∧ i < 8 then X.1 111 i else if o = 102 ∧ i = 30 then X.1 102 0 else if o = 102 ∧ i = 29 then 1 else X1.1 o i := by
    intro o i
    rw [b3]
    have t1 : ∀ i, X2.1 123 i = X.1 123 i := fun i => by rw [a3, if_neg (by omega), if_neg (by omega), stI_at, if_neg (by omega), stI_at, if_neg (by omega), f]; simp
    have t2 : ∀ i, (stI (stI X1 102 29 1) 102 30 (X1.1 102 0)).1 110 i = X.1 110 i := fun i => by rw [stI_at, if_neg (by omega), stI_at, if_neg (by omega), f]; simp
    have t3 : ∀ i, (stI (stI X1 102 29 1) 102 30 (X1.1 102 0)).1 111 i = X.1 111 i := fun i => by rw [stI_at, if_neg (by omega), stI_at, if_neg (by omega), f]; simp
    have t4 : X1.1 102 0 = X.1 102 0 := by rw [f]; simp
    rw [t1, a3, t2, t3, stI_at, stI_at, t4]
    simp only [Nat.zero_le, true_and]
  refine ⟨X.1 84 0, X1, X3, ?_, ?_, fun i hi => ?_, fun k hk => ?_, ?_, ?_, ?_, ?_, fun k hk => ⟨fun q => ?_, fun q => ?_⟩, fun i hi => ?_⟩
  · have hk : ded_keepImage X = some X1 := by rw [hX1]; rfl
    have h0 : X1.1 84 0 = X.1 84 0 := by rw [f]; simp
    unfold el_image
    rw [hk, Option.bind_some]
    unfold ded_inAll
    rw [← h0]
    rfl
  · have h0 : X3.1 123 0 = X.1 84 0 := by
      rw [g, f]
      simp only [Nat.reduceEqDiff, false_and, ↓reduceIte]
      exact hl 0 (by omega)
    unfold mo_image
    rw [Option.bind_some]
    exact a1.trans (by show mo_image_L53 n n 0 X2 = _; rw [b1, h0])
  · rw [g, g, f, f]
    simp only [Nat.reduceEqDiff, false_and, ↓reduceIte]
    exact hl i hi
  · rw [g, g, g, g, f, f, f, f]
    simp only [Nat.reduceEqDiff, false_and, ↓reduceIte]
    exact ht k hk
  · rw [g, g, f, f]
    simp
  · rw [g, f]
    simp
  · rw [g]
    simp [hp.1, hp.2.1]
  · rw [g]
    simp [hp.1, hp.2.2.1]
  · rw [g, g, g, g, f, f, f, f]
    simp only [Nat.reduceEqDiff, false_and, ↓reduceIte, hk, and_self, true_and]
    exact ht k hk
  · rw [g] at q
    simp only [Nat.reduceEqDiff, false_and, ↓reduceIte, and_self] at q
    rw [g, g, f, f]
    simp only [Nat.reduceEqDiff, false_and, ↓reduceIte, hk, and_self, true_and]
    exact hz k hk (by rw [← hp.1]; exact q)
  · rw [g, g, f, f]
    simp only [Nat.reduceEqDiff, false_and, ↓reduceIte, hi, and_self, true_and]
    exact hl i hi
theorem op_back (n : Nat) (hn0 : 4096 ≤ n) (X : St) (h : IThen X) : ∃ v X1 X2, el_back X = some (v, X1) ∧ mo_back n X1 = some (v, X2) ∧ (X2 = X ∨ (ILed X2 ∧ ITir X2 ∧ (∀ k : Nat, k < 8 → (X.1 102 30).toInt ≤ k → X2.1 82 k = 0 ∧ X2.1 83 k = 0))) := by
  obtain ⟨h1, h2, h3, h4, h5, h6⟩ := h
  have hz : isZ (X.1 81 6) = true := by
    rcases h2 with e | e <;> rw [e] <;> decide
  rcases h2 with e | e
  · refine ⟨-5, X, X, ?_, ?_, Or.inl rfl⟩
    · unfold el_back ded_hasImage
      rw [if_pos hz, Option.bind_some, if_pos e]
    · unfold mo_back
      rw [if_pos (h1.trans e)]
  · obtain ⟨X1, hX1⟩ : ∃ X1, X1 = cpI (cpI (cpI X 85 0 82 0 8) 86 0 83 0 8) 87 0 84 0 5 := ⟨_, rfl⟩
    have f : ∀ o i, X1.1 o i = if o = 82 ∧ i < 8 then X.1 85 i else if o = 83 ∧ i < 8 then X.1 86 i else if o = 84 ∧ i < 5 then X.1 87 i else X.1 o i := by
      intro o i
      rw [hX1]
      simp only [cpI_q, Nat.zero_le, Nat.zero_add, Nat.sub_zero, true_and]
      by_cases q1 : o = 84
      · subst q1
        by_cases q2 : i < 5 <;> simp [q2]
      · by_cases q3 : o = 83
        · subst q3
          by_cases q2 : i < 8 <;> simp [q2]
        · by_cases q4 : o = 82
          · subst q4
            by_cases q2 : i < 8 <;> simp [q2]
          · simp [q1, q3, q4]
    obtain ⟨X2, a1, a2, a3⟩ := bck1 n (fun X2 => (mo_back_L74 n n (0 : Int32) X2)) n 0 0 X1 (by decide) (by omega) (by omega)
    obtain ⟨X3, b1, b2, b3⟩ := bck2 n n 0 0 X2 (by decide) (by omega) (by omega)
    have f30 : X1.1 102 30 = X.1 102 30 := by rw [f]; simp
    have f124 : ∀ i, X1.1 124 i = X.1 124 i := fun i => by rw [f]; simp
    have f125 : ∀ i, X1.1 125 i = X.1 125 i := fun i => by rw [f]; simp
    have g126 : ∀ i, X2.1 126 i = X.1 126 i := fun i => by rw [a3, if_neg (by omega), if_neg (by omega), f]; simp
    have g : ∀ o i, X3.1 o i = if o = 123 ∧ i < 5 then X.1 126 i else if o = 110 ∧ i < 8 then (if (i : Int) < (X.1 102 30).toInt then X.1 124 i else 0) else if o = 111 ∧ i < 8 then (if (i : Int) < (X.1 102 30).toInt then X.1 125 i else 0) else X1.1 o i := by
      intro o i
      rw [b3, g126, a3, f30, f124, f125]
      simp only [Nat.zero_le, true_and]
    refine ⟨X.1 87 0, X1, X3, ?_, ?_, Or.inr ⟨fun i hi => ?_, fun k hk => ?_, fun k hk hq => ?_⟩⟩
    · have hk : ded_layBack X = some X1 := by rw [hX1]; rfl
      have h0 : X1.1 84 0 = X.1 87 0 := by rw [f]; simp
      unfold el_back ded_hasImage
      rw [if_pos hz, Option.bind_some, if_neg (by rw [e]; decide), hk, Option.bind_some]
      unfold ded_inAll
      rw [← h0]
      rfl
    · have h0 : X3.1 123 0 = X.1 87 0 := by
        rw [g]
        simp only [Nat.reduceLT, and_self, ↓reduceIte]
        exact h6 0 (by omega)
      have h29 : X1.1 102 29 = 1 := by rw [f]; simp [h1, e]
      unfold mo_back
      rw [if_neg (by rw [h29]; decide)]
      exact a1.trans (by show mo_back_L74 n n 0 X2 = _; rw [b1, h0])
    · rw [g, g, f, f]
      simp only [Nat.reduceEqDiff, false_and, ↓reduceIte, hi, and_self, true_and]
      exact h6 i hi
    · obtain ⟨p1, p2⟩ := h5 k hk
      rw [g, g, g, g, f, f, f, f]
      simp only [Nat.reduceEqDiff, false_and, ↓reduceIte, hk, and_self, true_and]
      by_cases hq : (k : Int) < (X.1 102 30).toInt
      · rw [if_pos hq, if_pos hq]
        exact p1 hq
      · rw [if_neg hq, if_neg hq]
        obtain ⟨p3, p4⟩ := p2 (by omega)
        exact ⟨p3.symm, p4.symm⟩
    · obtain ⟨p3, p4⟩ := (h5 k hk).2 hq
      rw [g, g, f, f]
      simp only [Nat.reduceEqDiff, false_and, ↓reduceIte, hk, and_self, true_and]
      exact ⟨p3, p4⟩
