/-! loses -/
abbrev Mk6 : Type := Int32 → Int32 → Int32 → Int32 → Int32 → Int32 → Int32
def MkC (n : Nat) (X : St) (M : Mk6) : Prop := ∀ d a f u t s, 1 ≤ s.toInt → ∀ A, lwC X A → ∃ A', rul_marks n d a f u t s A = some (M d a f u t s, A') ∧ A'.2 = A.2 ∧ ∀ o i, o ≠ 22 → o ≠ 23 → ¬ (o = 20 ∧ i = 4) → A'.1 o i = A.1 o i
def MkM (n : Nat) (X : St) (M : Mk6) : Prop := ∀ d a f u t s, 1 ≤ s.toInt → ∀ (B : St) (v1 v2 : Int32) (i j : Nat), lwM X B → v1.toInt = i → v2.toInt = j → i < 8 → j < 8 → B.1 109 1 = s → jmath_abs (B.1 103 i - B.1 103 j) + jmath_abs (B.1 104 i - B.1 104 j) = f → jmath_abs (B.1 105 i - B.1 105 j) = u → ∃ B', mo_loss n v1 v2 d a t B = some (M d a f u t s, B') ∧ B'.2 = B.2 ∧ ∀ o i, o ≠ 121 → o ≠ 122 → B'.1 o i = B.1 o i
theorem marks_ex {n : Nat} (hn : 4096 ≤ n) {X : St} (hL : ILaw X) : ∃ M : Mk6, MkC n X M ∧ MkM n X M := by
  refine ⟨fun d a f u t s => if h : 1 ≤ s.toInt then Classical.choose (marks1 hn hL d a f u t s h) else 0, fun d a f u t s hs => ?_, fun d a f u t s hs => ?_⟩
  · have := (Classical.choose_spec (marks1 hn hL d a f u t s hs)).1
    simp only [dif_pos hs]
    exact this
  · have := (Classical.choose_spec (marks1 hn hL d a f u t s hs)).2
    simp only [dif_pos hs]
    exact this
theorem seen_rng {X : St} (hB : IBnd X) : 1 ≤ (X.1 10 0).toInt ∧ (X.1 10 0).toInt ≤ 999 := hB 7 0 (Or.inr ⟨by decide, by decide, by decide⟩)
/-- two that are there, X and Y apart, and tall: in the model's words -/
theorem far_M {X B : St} (hP : IPool X) {i j : Nat} (hi : i < 8) (hj : j < 8) (h : ∀ o k, 103 ≤ o → o ≤ 105 → B.1 o k = X.1 o k) : jmath_abs (B.1 103 i - B.1 103 j) + jmath_abs (B.1 104 i - B.1 104 j) = dst X i j ∧ jmath_abs (B.1 105 i - B.1 105 j) = unl X i j := by
  have p := fun (w k : Nat) (hw : w < 6) (hk : k < 8) => pl_w hP hw hk
  unfold dst unl
  rw [h _ _ (by omega) (by omega), h _ _ (by omega) (by omega), h _ _ (by omega) (by omega), h _ _ (by omega) (by omega), h _ _ (by omega) (by omega), h _ _ (by omega) (by omega), p 0 i (by omega) hi, p 0 j (by omega) hj, p 1 i (by omega) hi, p 1 j (by omega) hj, p 2 i (by omega) hi, p 2 j (by omega) hj]
  exact ⟨rfl, rfl⟩
theorem op_loses (n : Nat) (hn : 4096 ≤ n) (v1 v2 v3 : Int32) (X : St) (hP : IPool X) (hB : IBnd X) (hL : ILaw X) : ∃ r X1, el_loses n v1 v2 v3 X = some (r, X1) ∧ ∀ Y, Mo X Y → ∃ Y1, mo_loses n v1 v2 v3 Y = some (r, Y1) := by
  obtain ⟨m1, m2⟩ := mny_s hP
  have e59 : (59 : Int32).toInt = 59 := by decide
  have e60 : (60 : Int32).toInt = 60 := by decide
  have e9999 : (9999 : Int32).toInt = 9999 := by decide
  have e4 : (4 : Int32).toInt = 4 := by decide
  have h100 : (v3 / 100).toInt = v3.toInt.tdiv 100 := ti_div (by decide)
  have hact : rou_isAct ((v3 / (100 : Int32)).toInt64) = 0 ↔ ¬ (0 ≤ (v3 / 100).toInt ∧ (v3 / 100).toInt ≤ 4) := by
    rw [act0]
    unfold isA
    rw [Int32.toInt_toInt64]
  by_cases Q : (0 ≤ v1.toInt ∧ (0 ≤ v2.toInt ∧ v2.toInt ≤ 9999) ∧ 0 ≤ v3.toInt) ∧ ((0 ≤ (v1 / 10).toInt ∧ (v1 / 10).toInt < (X.1 1 1).toInt) ∧ (0 ≤ (irm v1 10).toInt ∧ (irm v1 10).toInt < (X.1 1 1).toInt) ∧ ¬ v1 / 10 = irm v1 10) ∧ (v3 / 100).toInt ≤ 4 ∧ (irm v3 100).toInt ≤ 59
  · obtain ⟨⟨q1, q2, q3⟩, ⟨q4, q5, q6⟩, q7, q8⟩ := Q
    have h3 : 0 ≤ (v3 / 100).toInt := by rw [h100]; exact Int.tdiv_nonneg q3 (by omega)
    obtain ⟨M, MC, MM⟩ := marks_ex hn hL
    obtain ⟨A, a1, a2, a3, a4, a5, a6, a7, a8⟩ := rdy_s hn (X := X) (Z := X) m1 m2 (fun _ _ _ => rfl)
    have hi : (v1 / 10).toInt = (nx (v1 / 10) : Nat) := (nx_ti q4.1).symm
    have hj : (irm v1 10).toInt = (nx (irm v1 10) : Nat) := (nx_ti q5.1).symm
    have sr := seen_rng hB
    have a11 : A.1 1 1 = X.1 1 1 := a3 _ _ (by omega)
    obtain ⟨A', c1, -, -⟩ := MC v2 (v3 / 100) (dst X (nx (v1 / 10)) (nx (irm v1 10))) (unl X (nx (v1 / 10)) (nx (irm v1 10))) (irm v3 100) (X.1 10 0) sr.1 A ⟨a3 _ _ (by omega), fun i => a3 _ _ (by omega)⟩
    have ib : inB (v1 / 10) 8 = true := by rw [inB_iff]; omega
    have hfar := a8 (nx (v1 / 10)) (nx (irm v1 10)) (by omega) (by omega)
    refine ⟨M v2 (v3 / 100) (dst X (nx (v1 / 10)) (nx (irm v1 10))) (unl X (nx (v1 / 10)) (nx (irm v1 10))) (irm v3 100) (X.1 10 0), A', ?_, fun Y hY => ?_⟩
    · unfold el_loses
      rw [if_neg (by rw [ltk, ti0]; omega), if_neg (by rw [ltk, ti0]; omega), if_neg (by rw [ltk, ti0]; omega), if_neg (by rw [ltk, e9999]; omega), if_neg (fun h => has_s.mp h q4), if_neg (fun h => has_s.mp h q5), if_neg q6, if_neg (fun h => hact.mp h ⟨h3, q7⟩), if_pos (by rw [ltk, e60]; omega), a1, Option.bind_some]
      unfold tho_marksOfTwo
      rw [if_neg (fun h => has_s.mp h (by rw [a11]; exact q4)), if_neg (fun h => has_s.mp h (by rw [a11]; exact q5)), if_pos ib, if_pos (okI_far (by omega) (by omega) (by omega)), if_pos ib, if_pos (okI_unl (by omega) (by omega) (by omega)), hfar.1, hfar.2, a5, c1]
      rfl
    · obtain ⟨f1, f2⟩ := far_M hP (B := Y) (i := nx (v1 / 10)) (j := nx (irm v1 10)) (by omega) (by omega) (fun o k o1 o2 => hY.2 o k (by omega))
      obtain ⟨B', b1, -, -⟩ := MM v2 (v3 / 100) _ _ (irm v3 100) (X.1 10 0) sr.1 Y (v1 / 10) (irm v1 10) (nx (v1 / 10)) (nx (irm v1 10)) ⟨hY.2 _ _ (by omega), hY.2 _ _ (by omega), fun o i o1 o2 => hY.2 o i (by omega)⟩ hi hj (by omega) (by omega) ((hY.2 _ _ (by omega)).trans (pl_j hP (j := 1) (by omega))) f1 f2
      refine ⟨B', ?_⟩
      unfold mo_loses mo_areTwo
      rw [if_neg (c := v1 < 0) (by rw [ltk, ti0]; omega), if_neg (c := mo_isOne (v1 / 10) Y = 0) (fun h => (one_s hP hY).mp h q4), if_neg (c := mo_isOne (irm v1 10) Y = 0) (fun h => (one_s hP hY).mp h q5), if_neg (c := v1 / 10 = irm v1 10) q6, if_neg (c := (1 : Int32) = 0) (by decide), if_neg (fun h => by have := within0.mp h; rw [ti0, e9999] at this; omega), if_neg (by rw [ltk, ti0]; omega), if_neg (by rw [ltk, e4]; omega), if_neg (by rw [ltk, e59]; omega), b1]
      rfl
  · refine ⟨-1, X, ?_, fun Y hY => ⟨Y, ?_⟩⟩
    · unfold el_loses
      by_cases d1 : v1 < 0
      · rw [if_pos d1]
      rw [if_neg d1]
      by_cases d2 : v3 < 0
      · rw [if_pos d2]
      rw [if_neg d2]
      by_cases d3 : v2 < 0
      · rw [if_pos d3]
      rw [if_neg d3]
      by_cases d4 : 9999 < v2
      · rw [if_pos d4]
      rw [if_neg d4]
      by_cases d5 : poo_has (v1 / 10) X = 0
      · rw [if_pos d5]
      rw [if_neg d5]
      by_cases d6 : poo_has (irm v1 10) X = 0
      · rw [if_pos d6]
      rw [if_neg d6]
      by_cases d7 : v1 / 10 = irm v1 10
      · rw [if_pos d7]
      rw [if_neg d7]
      by_cases d8 : rou_isAct ((v3 / (100 : Int32)).toInt64) = 0
      · rw [if_pos d8]
      rw [if_neg d8]
      by_cases d9 : irm v3 100 < 60
      · exfalso
        rw [ltk, ti0] at d1 d2 d3
        rw [ltk, e9999] at d4
        rw [ltk, e60] at d9
        have g5 : 0 ≤ (v1 / 10).toInt ∧ (v1 / 10).toInt < (X.1 1 1).toInt := Decidable.byContradiction (fun h => d5 (has_s.mpr h))
        have g6 : 0 ≤ (irm v1 10).toInt ∧ (irm v1 10).toInt < (X.1 1 1).toInt := Decidable.byContradiction (fun h => d6 (has_s.mpr h))
        have g8 : 0 ≤ (v3 / 100).toInt ∧ (v3 / 100).toInt ≤ 4 := Decidable.byContradiction (fun h => d8 (hact.mpr h))
        exact Q ⟨⟨by omega, ⟨by omega, by omega⟩, by omega⟩, ⟨g5, g6, d7⟩, g8.2, by omega⟩
      · rw [if_neg d9]
    · unfold mo_loses
      by_cases d0 : mo_areTwo v1 Y = 0
      · rw [if_pos d0]
      rw [if_neg d0]
      by_cases d3 : mo_within v2 0 9999 = 0
      · rw [if_pos d3]
      rw [if_neg d3]
      by_cases d2 : v3 < 0
      · rw [if_pos d2]
      rw [if_neg d2]
      by_cases d4 : 4 < v3 / 100
      · rw [if_pos d4]
      rw [if_neg d4]
      by_cases d5 : 59 < irm v3 100
      · rw [if_pos d5]
      exfalso
      unfold mo_areTwo at d0
      by_cases d1 : v1 < 0
      · rw [if_pos d1] at d0; exact d0 rfl
      rw [if_neg d1] at d0
      by_cases d6 : mo_isOne (v1 / 10) Y = 0
      · rw [if_pos d6] at d0; exact d0 rfl
      rw [if_neg d6] at d0
      by_cases d7 : mo_isOne (irm v1 10) Y = 0
      · rw [if_pos d7] at d0; exact d0 rfl
      rw [if_neg d7] at d0
      by_cases d8 : v1 / 10 = irm v1 10
      · rw [if_pos d8] at d0; exact d0 rfl
      rw [ltk, ti0] at d1 d2
      rw [ltk, e4] at d4
      rw [ltk, e59] at d5
      have g3 : 0 ≤ v2.toInt ∧ v2.toInt ≤ 9999 := Decidable.byContradiction (fun h => d3 (within0.mpr (by rw [ti0, e9999]; omega)))
      have g6 : 0 ≤ (v1 / 10).toInt ∧ (v1 / 10).toInt < (X.1 1 1).toInt := Decidable.byContradiction (fun h => d6 ((one_s hP hY).mpr h))
      have g7 : 0 ≤ (irm v1 10).toInt ∧ (irm v1 10).toInt < (X.1 1 1).toInt := Decidable.byContradiction (fun h => d7 ((one_s hP hY).mpr h))
      exact Q ⟨⟨by omega, g3, by omega⟩, ⟨g6, g7, d8⟩, by omega, by omega⟩
