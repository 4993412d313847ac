/-! swimmer -/
/-- beyond the swimmers nobody is late -/
def ILat (X : St) : Prop := ∀ k : Nat, k < 8 → (X.1 1 1).toInt ≤ k → X.1 8 k = 0
def joinX (p q t s : Int32) (X : St) : St := stI (stI (stI (stI (stI (stI X 1 1 (X.1 1 1 + 1)) 3 (nx (X.1 1 1)) p) 4 (nx (X.1 1 1)) q) 5 (nx (X.1 1 1)) t) 6 (nx (X.1 1 1)) 12) 7 (nx (X.1 1 1)) s
def newX (p q t s : Int32) (X : St) : St := stI (stI (stI (stI (stI (stI (stI (stI (stI X 103 (nx (X.1 102 0)) p) 104 (nx (X.1 102 0)) q) 105 (nx (X.1 102 0)) t) 106 (nx (X.1 102 0)) 12) 107 (nx (X.1 102 0)) s) 108 (nx (X.1 102 0)) 0) 110 (nx (X.1 102 0)) 0) 111 (nx (X.1 102 0)) 0) 102 0 (X.1 102 0 + 1)
theorem tell_s {a w v : Int32} {X : St} (hm : (X.1 1 1).toInt ≤ 8) (hk : (0 ≤ w.toInt ∧ w.toInt ≤ 5 ∧ 0 ≤ a.toInt ∧ a.toInt < (X.1 1 1).toInt) ∨ (6 ≤ w.toInt ∧ w.toInt ≤ 8 ∧ a.toInt = 0)) : poo_tell a w v X = some (stI X (3 + nx w) (nx a) v) := by
  have hb := nx_ti (x := w) (by omega)
  have ha := nx_ti (x := a) (by omega)
  unfold poo_tell
  rw [if_neg (fun z => keeps0.mp z hk), if_pos (by rw [inB_iff]; omega)]
  rcases (show nx w < 6 ∨ 6 ≤ nx w by omega) with c | c
  · rw [if_pos ((okI_po c).mpr (by omega))]
  · obtain ⟨u, hu⟩ : ∃ u, nx w = 6 + u := ⟨nx w - 6, by omega⟩
    rw [hu, show 3 + (6 + u) = 9 + u by omega, if_pos ((okI_wy (by omega)).mpr (by omega))]
theorem join_s {p q t s : Int32} {X : St} (h0 : 0 ≤ (X.1 1 1).toInt) (h1 : (X.1 1 1).toInt < 8) : poo_join p q t s X = some (X.1 1 1, joinX p q t s X) := by
  have e1 : (X.1 1 1 + 1).toInt = (X.1 1 1).toInt + 1 := by rw [ti_add] <;> simp only [Int32.reduceToInt] <;> omega
  have hf : poo_isFull X = 0 := by
    unfold poo_isFull
    simp (disch := omega) only [↓within0, ↓has0, ↓tapFull0, inB_iff, Int32.lt_iff_toInt_lt, ti_eq, Int32.reduceToInt, if_pos, if_neg, Option.bind_some, stI_at, stI_2at, Nat.reduceEqDiff, Nat.reduceBEq, false_and, and_false, true_and, and_self, and_true, ↓reduceIte]
  have T : ∀ (w v : Int32) (Y : St), 0 ≤ w.toInt ∧ w.toInt ≤ 5 → Y.1 1 1 = X.1 1 1 + 1 → poo_tell (X.1 1 1) w v Y = some (stI Y (3 + nx w) (nx (X.1 1 1)) v) := fun w v Y hw hY =>
    tell_s (by rw [hY]; omega) (Or.inl ⟨hw.1, hw.2, h0, by rw [hY]; omega⟩)
  have K : ∀ (w : Int32) (v : Int32) (i : Nat) (Y : St), 0 ≤ w.toInt → Y.1 1 1 = X.1 1 1 + 1 → (stI Y (3 + nx w) i v).1 1 1 = X.1 1 1 + 1 := fun w v i Y hw hY => by
    rw [stI_at, if_neg (by omega)]
    exact hY
  unfold poo_join joinX
  rw [if_pos hf]
  have k0 : (stI X 1 1 (X.1 1 1 + 1)).1 1 1 = X.1 1 1 + 1 := stI_self
  rw [T 0 p _ (by decide) k0, Option.bind_some]
  have k1 := K 0 p (nx (X.1 1 1)) _ (by decide) k0
  rw [T 1 q _ (by decide) k1, Option.bind_some]
  have k2 := K 1 q (nx (X.1 1 1)) _ (by decide) k1
  rw [T 2 t _ (by decide) k2, Option.bind_some]
  have k3 := K 2 t (nx (X.1 1 1)) _ (by decide) k2
  rw [T 3 12 _ (by decide) k3, Option.bind_some]
  have k4 := K 3 12 (nx (X.1 1 1)) _ (by decide) k3
  rw [T 4 s _ (by decide) k4, Option.bind_some]
  rfl
theorem new_s {p q t s : Int32} {X : St} (h0 : 0 ≤ (X.1 102 0).toInt) (h1 : (X.1 102 0).toInt < 8) : mo_newSwimmer p q t s X = some (X.1 102 0, newX p q t s X) := by
  have hn := nx_ti h0
  unfold mo_newSwimmer newX
  simp (disch := omega) only [↓within0, ↓has0, ↓tapFull0, inB_iff, Int32.lt_iff_toInt_lt, ti_eq, Int32.reduceToInt, if_pos, if_neg, Option.bind_some, stI_at, stI_2at, Nat.reduceEqDiff, Nat.reduceBEq, false_and, and_false, true_and, and_self, and_true, ↓reduceIte]
/-- what holds of a joined swimmer -/
theorem joined {p q t s : Int32} {X : St} (h : IPool X) (ht : ITir X) (hz : IZer X) (hl : ILat X) (h8 : (X.1 1 1).toInt < 8) : IPool (newX p q t s (joinX p q t s X)) ∧ ITir (newX p q t s (joinX p q t s X)) ∧ IZer (newX p q t s (joinX p q t s X)) ∧ ILat (newX p q t s (joinX p q t s X)) ∧ ((newX p q t s (joinX p q t s X)).1 1 1).toInt = (X.1 1 1).toInt + 1 := by
  obtain ⟨h1, h2, h3, h4, h5⟩ := h
  have hn := nx_ti h2
  have e1 : (X.1 1 1 + 1).toInt = (X.1 1 1).toInt + 1 := by rw [ti_add] <;> simp only [Int32.reduceToInt] <;> omega
  have f1 : ∀ Y, (joinX p q t s X).1 102 0 = X.1 1 1 → newX p q t s (joinX p q t s X) = Y → stI (stI (stI (stI (stI (stI (stI (stI (stI (joinX p q t s X) 103 (nx (X.1 1 1)) p) 104 (nx (X.1 1 1)) q) 105 (nx (X.1 1 1)) t) 106 (nx (X.1 1 1)) 12) 107 (nx (X.1 1 1)) s) 108 (nx (X.1 1 1)) 0) 110 (nx (X.1 1 1)) 0) 111 (nx (X.1 1 1)) 0) 102 0 (X.1 1 1 + 1) = Y := by
    intro Y e1 e2
    rw [← e2]
    unfold newX
    rw [e1]
  have f2 := f1 _ (by unfold joinX; simp only [stI_at, stI_2at, stL_at, stL_1at, Nat.reduceEqDiff, false_and, and_false, true_and, and_true, and_self, ↓reduceIte]; exact h1) rfl
  rw [← f2]
  unfold joinX
  have hnn : nx (X.1 1 1 + 1) = nx (X.1 1 1) + 1 := by
    have := nx_ti (x := X.1 1 1 + 1) (by omega)
    omega
  generalize hm : nx (X.1 1 1) = m at *
  refine ⟨⟨?_, ?_, ?_, fun w k hw hk => ?_, fun j hj => ?_⟩, fun k hk => ?_, fun k hk hq => ?_, fun k hk hq => ?_, ?_⟩
  · simp only [stI_at, stI_2at, stL_at, stL_1at, Nat.reduceEqDiff, false_and, and_false, true_and, and_true, and_self, ↓reduceIte]
  · simp only [stI_at, stI_2at, stL_at, stL_1at, Nat.reduceEqDiff, false_and, and_false, true_and, and_true, and_self, ↓reduceIte]
    omega
  · simp only [stI_at, stI_2at, stL_at, stL_1at, Nat.reduceEqDiff, false_and, and_false, true_and, and_true, and_self, ↓reduceIte]
    omega
  · have hlt : X.1 8 m = 0 := hl m (by omega) (by omega)
    have g0 := h4 w k hw hk
    rcases (show w = 0 ∨ w = 1 ∨ w = 2 ∨ w = 3 ∨ w = 4 ∨ w = 5 by omega) with e | e | e | e | e | e <;> subst e <;> by_cases hkm : k = m <;> simp [stI_at, hkm] <;> first | exact g0 | (rw [hkm] at g0; exact g0) | exact hlt.symm
  · have g0 := h5 j hj
    rcases (show j = 0 ∨ j = 1 ∨ j = 2 by omega) with e | e | e <;> subst e <;> simp [stI_at] <;> exact g0
  · obtain ⟨t1, t2⟩ := ht k hk
    by_cases hkm : k = m
    · obtain ⟨z1, z2⟩ := hz m (by omega) (by omega)
      simp [stI_at, hkm, z1, z2]
    · simp [stI_at, hkm]
      exact ⟨t1, t2⟩
  · have hq2 : (X.1 1 1).toInt ≤ k := by
      simp only [stI_at, stI_2at, stL_at, stL_1at, Nat.reduceEqDiff, false_and, and_false, true_and, and_true, and_self, ↓reduceIte] at hq
      omega
    simp only [stI_at, stI_2at, stL_at, stL_1at, Nat.reduceEqDiff, false_and, and_false, true_and, and_true, and_self, ↓reduceIte]
    exact hz k hk hq2
  · have hq2 : (X.1 1 1).toInt ≤ k := by
      simp only [stI_at, stI_2at, stL_at, stL_1at, Nat.reduceEqDiff, false_and, and_false, true_and, and_true, and_self, ↓reduceIte] at hq
      omega
    simp only [stI_at, stI_2at, stL_at, stL_1at, Nat.reduceEqDiff, false_and, and_false, true_and, and_true, and_self, ↓reduceIte]
    exact hl k hk hq2
  · simp only [stI_at, stI_2at, stL_at, stL_1at, Nat.reduceEqDiff, false_and, and_false, true_and, and_true, and_self, ↓reduceIte]
    exact e1
