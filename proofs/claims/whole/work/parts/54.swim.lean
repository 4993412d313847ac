/-! swimmer -/
/-- beyond the swimmers nobody is late -/
def ILat (X : St) : Prop := ∀ k : Nat, k < 8 → (X.1 1 1).toInt ≤ k → X.1 8 k = 0
def joinX (p q t s : Int32) (X : St) : St := stI (stI (stI (stI (stI (stI X 1 1 (X.1 1 1 + 1)) 3 (nx (X.1 1 1)) p) 4 (nx (X.1 1 1)) q) 5 (nx (X.1 1 1)) t) 6 (nx (X.1 1 1)) 12) 7 (nx (X.1 1 1)) s
def newX (p q t s : Int32) (X : St) : St := stI (stI (stI (stI (stI (stI (stI (stI (stI X 103 (nx (X.1 102 0)) p) 104 (nx (X.1 102 0)) q) 105 (nx (X.1 102 0)) t) 106 (nx (X.1 102 0)) 12) 107 (nx (X.1 102 0)) s) 108 (nx (X.1 102 0)) 0) 110 (nx (X.1 102 0)) 0) 111 (nx (X.1 102 0)) 0) 102 0 (X.1 102 0 + 1)
theorem tell_s {a w v : Int32} {X : St} (hm : (X.1 1 1).toInt ≤ 8) (hk : (0 ≤ w.toInt ∧ w.toInt ≤ 5 ∧ 0 ≤ a.toInt ∧ a.toInt < (X.1 1 1).toInt) ∨ (6 ≤ w.toInt ∧ w.toInt ≤ 8 ∧ a.toInt = 0)) : poo_tell a w v X = some (stI X (3 + nx w) (nx a) v) := by
  have hb := nx_ti (x := w) (by omega)
  have ha := nx_ti (x := a) (by omega)
  unfold poo_tell
  rw [if_neg (fun z => keeps0.mp z hk), if_pos (by rw [inB_iff]; omega)]
  rcases (show nx w < 6 ∨ 6 ≤ nx w by omega) with c | c
  · rw [if_pos ((okI_po c).mpr (by omega))]
  · obtain ⟨u, hu⟩ : ∃ u, nx w = 6 + u := ⟨nx w - 6, by omega⟩
    rw [hu, show 3 + (6 + u) = 9 + u by omega, if_pos ((okI_wy (by omega)).mpr (by omega))]
theorem join_s {p q t s : Int32} {X : St} (h0 : 0 ≤ (X.1 1 1).toInt) (h1 : (X.1 1 1).toInt < 8) : poo_join p q t s X = some (X.1 1 1, joinX p q t s X) := by
  have e1 : (X.1 1 1 + 1).toInt = (X.1 1 1).toInt + 1 := by rw [ti_add] <;> simp only [Int32.reduceToInt] <;> omega
  have hf : poo_isFull X = 0 := by
    unfold poo_isFull
    simp (disch := omega) only [↓within0, ↓has0, ↓tapFull0, inB_iff, Int32.lt_iff_toInt_lt, ti_eq, Int32.reduceToInt, if_pos, if_neg, Option.bind_some, stI_at, stI_2at, Nat.reduceEqDiff, Nat.reduceBEq, false_and, and_false, true_and, and_self, and_true, ↓reduceIte]
  have T : ∀ (w v : Int32) (Y : St), 0 ≤ w.toInt ∧ w.toInt ≤ 5 → Y.1 1 1 = X.1 1 1 + 1 → poo_tell (X.1 1 1) w v Y = some (stI Y (3 + nx w) (nx (X.1 1 1)) v) := fun w v Y hw hY =>
    tell_s (by rw [hY]; omega) (Or.inl ⟨hw.1, hw.2, h0, by rw [hY]; omega⟩)
  have K : ∀ (w : Int32) (v : Int32) (i : Nat) (Y : St), 0 ≤ w.toInt → Y.1 1 1 = X.1 1 1 + 1 → (stI Y (3 + nx w) i v).1 1 1 = X.1 1 1 + 1 := fun w v i Y hw hY => by
    rw [stI_at, if_neg (by omega)]
    exact hY
  unfold poo_join joinX
  rw [if_pos hf]
  have k0 : (stI X 1 1 (X.1 1 1 + 1)).1 1 1 = X.1 1 1 + 1 := stI_self
  rw [T 0 p _ (by decide) k0, Option.bind_some]
  have k1 := K 0 p (nx (X.1 1 1)) _ (by decide) k0
  rw [T 1 q _ (by decide) k1, Option.bind_some]
  have k2 := K 1 q (nx (X.1 1 1)) _ (by decide) k1
  rw [T 2 t _ (by decide) k2, Option.bind_some]
  have k3 := K 2 t (nx (X.1 1 1)) _ (by decide) k2
  rw [T 3 12 _ (by decide) k3, Option.bind_some]
  have k4 := K 3 12 (nx (X.1 1 1)) _ (by decide) k3
  rw [T 4 s _ (by decide) k4, Option.bind_some]
  rfl
theorem new_s {p q t s : Int32} {X : St} (h0 : 0 ≤ (X.1 102 0).toInt) (h1 : (X.1 102 0).toInt < 8) : mo_newSwimmer p q t s X = some (X.1 102 0, newX p q t s X) := by
  have hn := nx_ti h0
  unfold mo_newSwimmer newX
  simp (disch := omega) only [↓within0, ↓has0, ↓tapFull0, inB_iff, Int32.lt_iff_toInt_lt, ti_eq, Int32.reduceToInt, if_pos, if_neg, Option.bind_some, stI_at, stI_2at, Nat.reduceEqDiff, Nat.reduceBEq, false_and, and_false, true_and, and_self, and_true, ↓reduceIte]
/-- what holds of a joined swimmer -/
theorem joined {p q t s : Int32} {X : St} (h : IPool X) (ht : ITir X) (hz : IZer X) (hl : ILat X) (h8 : (X.1 1 1).toInt < 8) : IPool (newX p q t s (joinX p q t s X)) ∧ ITir (newX p q t s (joinX p q t s X)) ∧ IZer (newX p q t s (joinX p q t s X)) ∧ ILat (newX p q t s (joinX p q t s X)) ∧ ((newX p q t s (joinX p q t s X)).1 1 1).toInt = (X.1 1 1).toInt + 1 := by
  obtain ⟨h1, h2, h3, h4, h5⟩ := h
  have hn := nx_ti h2
  have e1 : (X.1 1 1 + 1).toInt = (X.1 1 1).toInt + 1 := by rw [ti_add] <;> simp only [Int32.reduceToInt] <;> omega
  have f1 : ∀ Y, (joinX p q t s X).1 102 0 = X.1 1 1 → newX p q t s (joinX p q t s X) = Y → stI (stI (stI (stI (stI (stI (stI (stI (stI (joinX p q t s X) 103 (nx (X.1 1 1)) p) 104 (nx (X.1 1 1)) q) 105 (nx (X.1 1 1)) t) 106 (nx (X.1 1 1)) 12) 107 (nx (X.1 1 1)) s) 108 (nx (X.1 1 1)) 0) 110 (nx (X.1 1 1)) 0) 111 (nx (X.1 1 1)) 0) 102 0 (X.1 1 1 + 1) = Y := by
    intro Y e1 e2
    rw [← e2]
    unfold newX
    rw [e1]
  have f2 := f1 _ (by unfold joinX; simp only [stI_at, stI_2at, stL_at, stL_1at, Nat.reduceEqDiff, false_and, and_false, true_and, and_true, and_self, ↓reduceIte]; exact h1) rfl
  rw [← f2]
  unfold joinX
  have hnn : nx (X.1 1 1 + 1) = nx (X.1 1 1) + 1 := by
    have := nx_ti (x := X.1 1 1 + 1) (by omega)
    omega
  generalize hm : nx (X.1 1 1) = m at *
  refine ⟨⟨?_, ?_, ?_, fun w k hw hk => ?_, fun j hj => ?_⟩, fun k hk => ?_, fun k hk hq => ?_, fun k hk hq => ?_, ?_⟩
  · simp only [stI_at, stI_2at, stL_at, stL_1at, Nat.reduceEqDiff, false_and, and_false, true_and, and_true, and_self, ↓reduceIte]
  · simp only [stI_at, stI_2at, stL_at, stL_1at, Nat.reduceEqDiff, false_and, and_false, true_and, and_true, and_self, ↓reduceIte]
    omega
  · simp only [stI_at, stI_2at, stL_at, stL_1at, Nat.reduceEqDiff, false_and, and_false, true_and, and_true, and_self, ↓reduceIte]
    omega
  · have hlt : X.1 8 m = 0 := hl m (by omega) (by omega)
    have g0 := h4 w k hw hk
    rcases (show w = 0 ∨ w = 1 ∨ w = 2 ∨ w = 3 ∨ w = 4 ∨ w = 5 by omega) with e | e | e | e | e | e <;> subst e <;> by_cases hkm : k = m <;> simp [stI_at, hkm] <;> first | exact g0 | (rw [hkm] at g0; exact g0) | exact hlt.symm
  · have g0 := h5 j hj
    rcases (show j = 0 ∨ j = 1 ∨ j = 2 by omega) with e | e | e <;> subst e <;> simp [stI_at] <;> exact g0
  · obtain ⟨t1, t2⟩ := ht k hk
    by_cases hkm : k = m
    · obtain ⟨z1, z2⟩ := hz m (by omega) (by omega)
      simp [stI_at, hkm, z1, z2]
    · simp [stI_at, hkm]
      exact ⟨t1, t2⟩
  · have hq2 : (X.1 1 1).toInt ≤ k := by
      simp only [stI_at, stI_2at, stL_at, stL_1at, Nat.reduceEqDiff, false_and, and_false, true_and, and_true, and_self, ↓reduceIte] at hq
      omega
    simp only [stI_at, stI_2at, stL_at, stL_1at, Nat.reduceEqDiff, false_and, and_false, true_and, and_true, and_self, ↓reduceIte]
    exact hz k hk hq2
  · have hq2 : (X.1 1 1).toInt ≤ k := by
      simp only [stI_at, stI_2at, stL_at, stL_1at, Nat.reduceEqDiff, false_and, and_false, true_and, and_true, and_self, ↓reduceIte] at hq
      omega
    simp only [stI_at, stI_2at, stL_at, stL_1at, Nat.reduceEqDiff, false_and, and_false, true_and, and_true, and_self, ↓reduceIte]
    exact hl k hk hq2
  · simp only [stI_at, stI_2at, stL_at, stL_1at, Nat.reduceEqDiff, false_and, and_false, true_and, and_true, and_self, ↓reduceIte]
    exact e1
theorem allow_s {w v : Int32} {X : St} (hw : 0 ≤ w.toInt ∧ w.toInt ≤ 8) : poo_allows w v X = some (if (LEASTf (nx w)).toInt ≤ v.toInt ∧ v.toInt ≤ (MOSTf (nx w)).toInt then 1 else 0) := by
  have hn := nx_ti hw.1
  unfold poo_allows
  by_cases h1 : v.toInt < (LEASTf (nx w)).toInt
  · rw [if_neg (c := (LEASTf (nx w)).toInt ≤ v.toInt ∧ v.toInt ≤ (MOSTf (nx w)).toInt) (by omega)]
    simp (disch := omega) only [↓within0, ↓has0, ↓tapFull0, inB_iff, Int32.lt_iff_toInt_lt, ti_eq, Int32.reduceToInt, if_pos, if_neg, Option.bind_some, stI_at, stI_2at, Nat.reduceEqDiff, Nat.reduceBEq, false_and, and_false, true_and, and_self, and_true, ↓reduceIte]
  · by_cases h2 : (MOSTf (nx w)).toInt < v.toInt
    · rw [if_neg (c := (LEASTf (nx w)).toInt ≤ v.toInt ∧ v.toInt ≤ (MOSTf (nx w)).toInt) (by omega)]
      simp (disch := omega) only [↓within0, ↓has0, ↓tapFull0, inB_iff, Int32.lt_iff_toInt_lt, ti_eq, Int32.reduceToInt, if_pos, if_neg, Option.bind_some, stI_at, stI_2at, Nat.reduceEqDiff, Nat.reduceBEq, false_and, and_false, true_and, and_self, and_true, ↓reduceIte]
    · rw [if_pos (c := (LEASTf (nx w)).toInt ≤ v.toInt ∧ v.toInt ≤ (MOSTf (nx w)).toInt) (by omega)]
      simp (disch := omega) only [↓within0, ↓has0, ↓tapFull0, inB_iff, Int32.lt_iff_toInt_lt, ti_eq, Int32.reduceToInt, if_pos, if_neg, Option.bind_some, stI_at, stI_2at, Nat.reduceEqDiff, Nat.reduceBEq, false_and, and_false, true_and, and_self, and_true, ↓reduceIte]
theorem swimr_s {p q t s : Int32} {X : St} : poo_isSwimmer p q t s X = some (if (0 ≤ p.toInt ∧ p.toInt ≤ 15) ∧ (0 ≤ q.toInt ∧ q.toInt ≤ 15) ∧ (1 ≤ t.toInt ∧ t.toInt ≤ 9) ∧ (-9 ≤ s.toInt ∧ s.toInt ≤ 9) then 1 else 0) := by
  unfold poo_isSwimmer
  have a0 := allow_s (w := 0) (v := p) (X := X) (by decide)
  have a1 := allow_s (w := 1) (v := q) (X := X) (by decide)
  have a2 := allow_s (w := 2) (v := t) (X := X) (by decide)
  have a4 := allow_s (w := 4) (v := s) (X := X) (by decide)
  rw [show (LEASTf (nx 0)).toInt = 0 by decide, show (MOSTf (nx 0)).toInt = 15 by decide] at a0
  rw [show (LEASTf (nx 1)).toInt = 0 by decide, show (MOSTf (nx 1)).toInt = 15 by decide] at a1
  rw [show (LEASTf (nx 2)).toInt = 1 by decide, show (MOSTf (nx 2)).toInt = 9 by decide] at a2
  rw [show (LEASTf (nx 4)).toInt = -9 by decide, show (MOSTf (nx 4)).toInt = 9 by decide] at a4
  rw [a0, a1, a2, a4]
  by_cases c0 : 0 ≤ p.toInt ∧ p.toInt ≤ 15
  · by_cases c1 : 0 ≤ q.toInt ∧ q.toInt ≤ 15
    · by_cases c2 : 1 ≤ t.toInt ∧ t.toInt ≤ 9
      · by_cases c4 : -9 ≤ s.toInt ∧ s.toInt ≤ 9 <;> simp [c0, c1, c2, c4]
      · simp [c0, c1, c2]
    · simp [c0, c1]
  · simp [c0]
theorem op_swimmer (a b : Int32) (X : St) (h : IPool X) (ht : ITir X) (hz : IZer X) (hl : ILat X) : ∃ v X1 X2, el_swimmer a b X = some (v, X1) ∧ mo_swimmer a b X1 = some (v, X2) ∧ (X2 = X ∨ ((IPool X2 ∧ ITir X2 ∧ IZer X2 ∧ ILat X2) ∧ (X2.1 1 1).toInt = (X.1 1 1).toInt + 1)) := by
  have hP := h
  obtain ⟨h1, h2, h3, -⟩ := h
  by_cases ha : a.toInt < 0
  · refine ⟨-1, X, X, ?_, ?_, Or.inl rfl⟩
    · unfold el_swimmer
      simp (disch := omega) only [↓within0, ↓has0, ↓tapFull0, inB_iff, Int32.lt_iff_toInt_lt, ti_eq, Int32.reduceToInt, if_pos, if_neg, Option.bind_some, stI_at, stI_2at, Nat.reduceEqDiff, Nat.reduceBEq, false_and, and_false, true_and, and_self, and_true, ↓reduceIte]
    · unfold mo_swimmer
      simp (disch := omega) only [↓within0, ↓has0, ↓tapFull0, inB_iff, Int32.lt_iff_toInt_lt, ti_eq, Int32.reduceToInt, if_pos, if_neg, Option.bind_some, stI_at, stI_2at, Nat.reduceEqDiff, Nat.reduceBEq, false_and, and_false, true_and, and_self, and_true, ↓reduceIte]
  · have hq := ti_div (x := a) (y := 100) (by decide)
    have hp := ti_irm (x := a) (y := 100) (by decide)
    rw [show (100 : Int32).toInt = 100 by decide] at hq hp
    have hp0 : 0 ≤ (irm a 100).toInt := by rw [hp]; exact Int.tmod_nonneg _ (by omega)
    have hq0 : 0 ≤ (a / 100).toInt := by rw [hq]; exact Int.tdiv_nonneg (by omega) (by omega)
    have e0 : (0 : Int32).toInt = 0 := by decide
    have sw := swimr_s (p := irm a 100) (q := a / 100) (t := b) (s := 0) (X := X)
    by_cases hc : (irm a 100).toInt ≤ 15 ∧ (a / 100).toInt ≤ 15 ∧ 1 ≤ b.toInt ∧ b.toInt ≤ 9
    · rw [if_pos (by rw [e0]; omega)] at sw
      by_cases hf : (X.1 1 1).toInt < 8
      · refine ⟨X.1 1 1, joinX (irm a 100) (a / 100) b 0 X, newX (irm a 100) (a / 100) b 0 (joinX (irm a 100) (a / 100) b 0 X), ?_, ?_, Or.inr ?_⟩
        · unfold el_swimmer
          rw [sw, join_s h2 hf]
          unfold poo_isFull
          simp (disch := omega) only [↓within0, ↓has0, ↓tapFull0, inB_iff, Int32.lt_iff_toInt_lt, ti_eq, Int32.reduceToInt, if_pos, if_neg, Option.bind_some, stI_at, stI_2at, Nat.reduceEqDiff, Nat.reduceBEq, false_and, and_false, true_and, and_self, and_true, ↓reduceIte]
        · have j0 : (joinX (irm a 100) (a / 100) b 0 X).1 102 0 = X.1 1 1 := by unfold joinX; simp only [stI_at, stI_2at, stL_at, stL_1at, Nat.reduceEqDiff, false_and, and_false, true_and, and_true, and_self, ↓reduceIte]; exact h1
          have nw := new_s (p := irm a 100) (q := a / 100) (t := b) (s := 0) (X := joinX (irm a 100) (a / 100) b 0 X) (by rw [j0]; omega) (by rw [j0]; omega)
          unfold mo_swimmer
          rw [nw, j0]
          simp (disch := omega) only [↓within0, ↓has0, ↓tapFull0, inB_iff, Int32.lt_iff_toInt_lt, ti_eq, Int32.reduceToInt, if_pos, if_neg, Option.bind_some, stI_at, stI_2at, Nat.reduceEqDiff, Nat.reduceBEq, false_and, and_false, true_and, and_self, and_true, ↓reduceIte]
        · obtain ⟨j1, j2, j3, j4, j5⟩ := joined (p := irm a 100) (q := a / 100) (t := b) (s := 0) hP ht hz hl hf
          exact ⟨⟨j1, j2, j3, j4⟩, j5⟩
      · refine ⟨-3, X, X, ?_, ?_, Or.inl rfl⟩
        · unfold el_swimmer
          rw [sw]
          unfold poo_isFull
          simp (disch := omega) only [↓within0, ↓has0, ↓tapFull0, inB_iff, Int32.lt_iff_toInt_lt, ti_eq, Int32.reduceToInt, if_pos, if_neg, Option.bind_some, stI_at, stI_2at, Nat.reduceEqDiff, Nat.reduceBEq, false_and, and_false, true_and, and_self, and_true, ↓reduceIte]
        · have e8 : X.1 102 0 = 8 := by rw [h1, ti_eq]; simp only [Int32.reduceToInt]; omega
          unfold mo_swimmer
          rw [e8]
          simp (disch := omega) only [↓within0, ↓has0, ↓tapFull0, inB_iff, Int32.lt_iff_toInt_lt, ti_eq, Int32.reduceToInt, if_pos, if_neg, Option.bind_some, stI_at, stI_2at, Nat.reduceEqDiff, Nat.reduceBEq, false_and, and_false, true_and, and_self, and_true, ↓reduceIte]
    · rw [if_neg (by omega)] at sw
      refine ⟨-1, X, X, ?_, ?_, Or.inl rfl⟩
      · unfold el_swimmer
        rw [sw]
        simp (disch := omega) only [↓within0, ↓has0, ↓tapFull0, inB_iff, Int32.lt_iff_toInt_lt, ti_eq, Int32.reduceToInt, if_pos, if_neg, Option.bind_some, stI_at, stI_2at, Nat.reduceEqDiff, Nat.reduceBEq, false_and, and_false, true_and, and_self, and_true, ↓reduceIte]
      · unfold mo_swimmer
        by_cases c1 : 15 < (a / 100).toInt
        · simp (disch := omega) only [↓within0, ↓has0, ↓tapFull0, inB_iff, Int32.lt_iff_toInt_lt, ti_eq, Int32.reduceToInt, if_pos, if_neg, Option.bind_some, stI_at, stI_2at, Nat.reduceEqDiff, Nat.reduceBEq, false_and, and_false, true_and, and_self, and_true, ↓reduceIte]
        · by_cases c2 : 15 < (irm a 100).toInt
          · simp (disch := omega) only [↓within0, ↓has0, ↓tapFull0, inB_iff, Int32.lt_iff_toInt_lt, ti_eq, Int32.reduceToInt, if_pos, if_neg, Option.bind_some, stI_at, stI_2at, Nat.reduceEqDiff, Nat.reduceBEq, false_and, and_false, true_and, and_self, and_true, ↓reduceIte]
          · simp (disch := omega) only [↓within0, ↓has0, ↓tapFull0, inB_iff, Int32.lt_iff_toInt_lt, ti_eq, Int32.reduceToInt, if_pos, if_neg, Option.bind_some, stI_at, stI_2at, Nat.reduceEqDiff, Nat.reduceBEq, false_and, and_false, true_and, and_self, and_true, ↓reduceIte]
