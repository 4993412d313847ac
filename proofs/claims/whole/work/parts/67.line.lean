/-! the line that looks alike -/
theorem val_r {s t v : Int32} {k : Nat} (hs : 0 ≤ s.toInt ∧ s.toInt ≤ 9) (ht : 1 ≤ t.toInt ∧ t.toInt ≤ 9) (hv : v.toInt = k) (hk : k < 6) : -44 ≤ (t - s * v).toInt ∧ (t - s * v).toInt ≤ 9 := by
  have h1 : 0 ≤ s.toInt * v.toInt := Int.mul_nonneg (by omega) (by omega)
  have h2 : s.toInt * v.toInt ≤ 9 * 5 := Int.mul_le_mul (by omega) (by omega) (by omega) (by omega)
  have e : (s * v).toInt = s.toInt * v.toInt := by rw [ti_mul] <;> omega
  rw [ti_sub] <;> omega
theorem sp1_s (n : Nat) {m : Nat} {s mm : Int32} {l : Nat → Nat} {X A B : St} (hP : IPool X) (hB : IBnd X) (hs : 0 ≤ s.toInt ∧ s.toInt ≤ 9) (hm : mm.toInt = m) (em : m = mny X) (h6 : m ≤ 6) (hl : ∀ k, k < m → l k < m) (hA : ord 79 m l A) (hA1 : ∀ o i, o < 79 → A.1 o i = X.1 o i) (hM : ord 137 m l B) (hB1 : ∀ o i, 102 ≤ o → o < 137 → B.1 o i = X.1 o i) : ∀ (j w w' k : Nat) (v mx mn : Int32), v.toInt = k → k + j = m → j < w → j < w' → 1 ≤ k → -44 ≤ mn.toInt → mn.toInt ≤ mx.toInt → mx.toInt ≤ 9 → ∃ r, gro_spread_L23 n A w s mm mx mn v = some r ∧ mo_unlike_L7 n B w' s mx mn v = some r ∧ 0 ≤ r.toInt := by
  obtain ⟨m1, m2⟩ := mny_s hP
  have e0 : B.1 102 0 = X.1 1 1 := (hB1 _ _ (by omega) (by omega)).trans hP.1
  intro j
  induction j with
  | zero =>
      intro w w' k v mx mn h1 h2 h3 h3' h4 h5 h6' h7
      obtain ⟨W, rfl⟩ : ∃ W, w = W + 1 := ⟨w - 1, by omega⟩
      obtain ⟨W', rfl⟩ : ∃ W, w' = W + 1 := ⟨w' - 1, by omega⟩
      show ∃ r, gro_spread_L23_B n A (gro_spread_L23 n A W) s mm mx mn v = some r ∧ mo_unlike_L7_B n B (mo_unlike_L7 n B W') s mx mn v = some r ∧ 0 ≤ r.toInt
      unfold gro_spread_L23_B mo_unlike_L7_B
      rw [e0]
      have q1 : ¬ v < mm := by rw [ltk]; omega
      have q2 : ¬ v < X.1 1 1 := by rw [ltk]; omega
      simp only [if_neg q1, if_neg q2]
      exact ⟨mx - mn, rfl, rfl, by rw [ti_sub] <;> omega⟩
  | succ j ih =>
      intro w w' k v mx mn h1 h2 h3 h3' h4 h5 h6' h7
      obtain ⟨W, rfl⟩ : ∃ W, w = W + 1 := ⟨w - 1, by omega⟩
      obtain ⟨W', rfl⟩ : ∃ W, w' = W + 1 := ⟨w' - 1, by omega⟩
      show ∃ r, gro_spread_L23_B n A (gro_spread_L23 n A W) s mm mx mn v = some r ∧ mo_unlike_L7_B n B (mo_unlike_L7 n B W') s mx mn v = some r ∧ 0 ≤ r.toInt
      unfold gro_spread_L23_B mo_unlike_L7_B
      rw [e0]
      have q1 : v < mm := by rw [ltk]; omega
      have q2 : v < X.1 1 1 := by rw [ltk]; omega
      have ib : inB v 6 = true := by rw [inB_iff]; omega
      have a0 := hA k (by omega)
      have b0 := hM k (by omega)
      have lk := hl k (by omega)
      have ib8 : inB (B.1 137 k) 8 = true := by rw [inB_iff]; omega
      have A1 : A.1 1 1 = X.1 1 1 := hA1 _ _ (by omega)
      have et : gro_tall (A.1 79 k) A = some (X.1 5 (l k)) := by
        rw [tal_s (X := A) (by rw [A1]; omega) a0 (by rw [A1]; omega), hA1 _ _ (by omega)]
      have eb : B.1 105 (nx (B.1 137 k)) = X.1 5 (l k) := by
        rw [nxk b0, hB1 _ _ (by omega) (by omega)]
        exact pl_w hP (w := 2) (by omega) (by omega)
      have tr : 1 ≤ (X.1 5 (l k)).toInt ∧ (X.1 5 (l k)).toInt ≤ 9 := hB 2 (l k) (Or.inl ⟨by decide, by decide, by omega, by omega⟩)
      have vr := val_r hs tr h1 (by omega)
      have vz : ¬ v = 0 := fun h => by rw [h, ti0] at h1; omega
      simp only [if_pos q1, if_pos q2, if_pos ib, nxk h1, if_pos ib8, et, eb, Option.bind_some]
      unfold mo_unlike_J49
      simp only [if_neg vz]
      generalize X.1 5 (l k) - s * v = t at vr ⊢
      have s1 := inc h1 (by omega)
      have fin := fun mx mn => ih W W' (k + 1) (v + 1) mx mn s1 (by omega) (by omega) (by omega) (by omega)
      unfold jmath_max jmath_min
      by_cases c1 : mx < t
      · simp only [if_pos c1]
        rw [ltk] at c1
        by_cases c2 : t < mn
        · simp only [if_pos c2]
          rw [ltk] at c2
          exact fin _ _ (by omega) (by omega) (by omega)
        · simp only [if_neg c2]
          rw [ltk] at c2
          exact fin _ _ (by omega) (by omega) (by omega)
      · simp only [if_neg c1]
        rw [ltk] at c1
        by_cases c2 : t < mn
        · simp only [if_pos c2]
          rw [ltk] at c2
          exact fin _ _ (by omega) (by omega) (by omega)
        · simp only [if_neg c2]
          rw [ltk] at c2
          exact fin _ _ (by omega) (by omega) (by omega)
theorem spr_s {n : Nat} (hn : 4096 ≤ n) {m : Nat} {s mm : Int32} {l : Nat → Nat} {X A B : St} (hP : IPool X) (hB : IBnd X) (hs : 0 ≤ s.toInt ∧ s.toInt ≤ 9) (hm : mm.toInt = m) (em : m = mny X) (h6 : m ≤ 6) (hl : ∀ k, k < m → l k < m) (hA : ord 79 m l A) (hA1 : ∀ o i, o < 79 → A.1 o i = X.1 o i) (hM : ord 137 m l B) (hB1 : ∀ o i, 102 ≤ o → o < 137 → B.1 o i = X.1 o i) : ∃ r, gro_spread n s mm A = some r ∧ mo_unlike n s B = some r ∧ 0 ≤ r.toInt := by
  obtain ⟨m1, m2⟩ := mny_s hP
  have e0 : B.1 102 0 = X.1 1 1 := (hB1 _ _ (by omega) (by omega)).trans hP.1
  unfold gro_spread mo_unlike
  obtain ⟨N, rfl⟩ : ∃ N, n = N + 1 := ⟨n - 1, by omega⟩
  by_cases h0 : m = 0
  · rw [if_pos (by rw [ti_eq, hm, ti0]; omega)]
    refine ⟨0, rfl, ?_, by decide⟩
    show mo_unlike_L7_B _ _ _ _ _ _ _ = _
    unfold mo_unlike_L7_B
    rw [e0, if_neg (by rw [ltk, ti0]; omega)]
    rfl
  · rw [if_neg (by rw [ti_eq, hm, ti0]; omega)]
    have a0 := hA 0 (by omega)
    have b0 := hM 0 (by omega)
    have lk := hl 0 (by omega)
    have A1 : A.1 1 1 = X.1 1 1 := hA1 _ _ (by omega)
    have ib8 : inB (B.1 137 0) 8 = true := by rw [inB_iff]; omega
    have et : gro_tall (A.1 79 0) A = some (X.1 5 (l 0)) := by
      rw [tal_s (X := A) (by rw [A1]; omega) a0 (by rw [A1]; omega), hA1 _ _ (by omega)]
    have eb : B.1 105 (nx (B.1 137 0)) = X.1 5 (l 0) := by
      rw [nxk b0, hB1 _ _ (by omega) (by omega)]
      exact pl_w hP (w := 2) (by omega) (by omega)
    have tr : 1 ≤ (X.1 5 (l 0)).toInt ∧ (X.1 5 (l 0)).toInt ≤ 9 := hB 2 (l 0) (Or.inl ⟨by decide, by decide, by omega, by omega⟩)
    obtain ⟨r, r1, r2, r3⟩ := sp1_s (N + 1) hP hB hs hm em h6 hl hA hA1 hM hB1 (m - 1) (N + 1) N 1 1 (X.1 5 (l 0)) (X.1 5 (l 0)) (by decide) (by omega) (by omega) (by omega) (Nat.le_refl _) (by omega) (by omega) (by omega)
    refine ⟨r, ?_, ?_, r3⟩
    · rw [show nx (0 : Int32) = 0 by decide, et, Option.bind_some, r1]
    · show mo_unlike_L7_B _ _ _ _ _ _ _ = _
      unfold mo_unlike_L7_B mo_unlike_J49
      have ez : X.1 5 (l 0) - s * 0 = X.1 5 (l 0) := by rw [Int32.mul_zero, Int32.sub_zero]
      rw [e0, if_pos (by rw [ltk, ti0]; omega), if_pos (by decide), show nx (0 : Int32) = 0 by decide, if_pos ib8, eb, ez, Option.bind_some, if_pos rfl, if_pos rfl]
      exact r2
theorem ln0_s (n : Nat) {K : Int32 → Int32 → St → Option (Int32 × St)} {s mm : Int32} {m : Nat} (hm : mm.toInt = m) (h6 : m ≤ 6) : ∀ (w j k : Nat) (v : Int32) (A : St), v.toInt = k → k + j = m → j < w → ∃ A', gro_lineUp_L15 n K w s mm v A = K s mm A' ∧ A'.2 = A.2 ∧ ∀ o i, A'.1 o i = if o = 79 ∧ k ≤ i ∧ i < m then Int32.ofNat i else A.1 o i := by
  intro w
  induction w with
  | zero => intro j k v A h1 h2 h3; omega
  | succ w ih =>
    intro j k v A h1 h2 h3
    show ∃ A', gro_lineUp_L15_B n K (gro_lineUp_L15 n K w) s mm v A = K s mm A' ∧ _
    unfold gro_lineUp_L15_B
    cases j with
    | zero =>
      rw [if_neg (by rw [ltk]; omega)]
      exact ⟨A, rfl, rfl, fun o i => by rw [if_neg (by omega)]⟩
    | succ j =>
      have ib : inB v 6 = true := by rw [inB_iff]; omega
      rw [if_pos (by rw [ltk]; omega), if_pos ib, nxk h1]
      obtain ⟨A', r1, r2, r3⟩ := ih j (k + 1) (v + 1) (stI A 79 k v) (inc h1 (by omega)) (by omega) (by omega)
      refine ⟨A', r1, r2, fun o i => ?_⟩
      rw [r3, stI_at]
      by_cases c : o = 79 ∧ i = k
      · rw [if_neg (by omega), if_pos c, if_pos (by omega), c.2, ofk h1]
      · rw [if_neg c]
        by_cases d : o = 79 ∧ k ≤ i ∧ i < m
        · rw [if_pos d, if_pos (by omega)]
        · rw [if_neg d, if_neg (by omega)]
theorem lm0_s (n : Nat) {K : Int32 → Int32 → St → Option (Int32 × St)} {s u : Int32} : ∀ (w j k : Nat) (v : Int32) (A : St), v.toInt = k → k + j = 6 → j < w → ∃ A', mo_line_L42 n K w s u v A = K s u A' ∧ A'.2 = A.2 ∧ ∀ o i, A'.1 o i = if o = 137 ∧ k ≤ i ∧ i < 6 then Int32.ofNat i else A.1 o i := by
  have e6 : (6 : Int32).toInt = 6 := by decide
  intro w
  induction w with
  | zero => intro j k v A h1 h2 h3; omega
  | succ w ih =>
    intro j k v A h1 h2 h3
    show ∃ A', mo_line_L42_B n K (mo_line_L42 n K w) s u v A = K s u A' ∧ _
    unfold mo_line_L42_B
    cases j with
    | zero =>
      rw [if_neg (by rw [ltk, e6]; omega)]
      exact ⟨A, rfl, rfl, fun o i => by rw [if_neg (by omega)]⟩
    | succ j =>
      have ib : inB v 6 = true := by rw [inB_iff]; omega
      rw [if_pos (by rw [ltk, e6]; omega), if_pos ib, nxk h1]
      obtain ⟨A', r1, r2, r3⟩ := ih j (k + 1) (v + 1) (stI A 137 k v) (inc h1 (by omega)) (by omega) (by omega)
      refine ⟨A', r1, r2, fun o i => ?_⟩
      rw [r3, stI_at]
      by_cases c : o = 137 ∧ i = k
      · rw [if_neg (by omega), if_pos c, if_pos (by omega), c.2, ofk h1]
      · rw [if_neg c]
        by_cases d : o = 137 ∧ k ≤ i ∧ i < 6
        · rw [if_pos d, if_pos (by omega)]
        · rw [if_neg d, if_neg (by omega)]
theorem lm1_s (n : Nat) {K : Int32 → Int32 → Int32 → St → Option (Int32 × St)} {s u b : Int32} : ∀ (w j k : Nat) (v : Int32) (A : St), v.toInt = k → k + j = 6 → j < w → ∃ A', mo_line_L94 n K w s u b v A = K s u b A' ∧ A'.2 = A.2 ∧ ∀ o i, A'.1 o i = if o = 138 ∧ k ≤ i ∧ i < 6 then A.1 137 i else A.1 o i := by
  have e6 : (6 : Int32).toInt = 6 := by decide
  intro w
  induction w with
  | zero => intro j k v A h1 h2 h3; omega
  | succ w ih =>
    intro j k v A h1 h2 h3
    show ∃ A', mo_line_L94_B n K (mo_line_L94 n K w) s u b v A = K s u b A' ∧ _
    unfold mo_line_L94_B
    cases j with
    | zero =>
      rw [if_neg (by rw [ltk, e6]; omega)]
      exact ⟨A, rfl, rfl, fun o i => by rw [if_neg (by omega)]⟩
    | succ j =>
      have ib : inB v 6 = true := by rw [inB_iff]; omega
      rw [if_pos (by rw [ltk, e6]; omega), if_pos ib, if_pos ib, nxk h1]
      obtain ⟨A', r1, r2, r3⟩ := ih j (k + 1) (v + 1) (stI A 138 k (A.1 137 k)) (inc h1 (by omega)) (by omega) (by omega)
      refine ⟨A', r1, r2, fun o i => ?_⟩
      rw [r3]
      by_cases c : o = 138 ∧ i = k
      · rw [if_neg (by omega), stI_at, if_pos c, if_pos (by omega), c.2]
      · by_cases d : o = 138 ∧ k ≤ i ∧ i < 6
        · rw [if_pos d, if_pos (by omega), stI_at, if_neg (by omega)]
        · rw [if_neg d, if_neg (by omega), stI_at, if_neg c]
theorem cpk {m : Nat} {mm : Int32} (hm : mm.toInt = m) (h6 : m ≤ 6) : cpOk 0 0 mm 6 6 = true := by
  have h := nxk hm
  unfold cpOk
  rw [h, show nx (0 : Int32) = 0 by decide]
  have c1 : ¬ mm < 0 := by rw [ltk, ti0]; omega
  simp [c1]
  omega
theorem ends_wf {m t : Nat} {l : List Nat} (h : ends m t l = true) : wfL m l = true := by
  cases t with
  | zero => unfold ends at h; rw [Bool.and_eq_true] at h; exact h.1
  | succ t => unfold ends at h; rw [Bool.and_eq_true] at h; exact h.1
theorem ends_no {m : Nat} {l : List Nat} (h : ends m 0 l = true) : ascR (gL l) (m - 1) = none := by
  unfold ends at h
  rw [Bool.and_eq_true] at h
  have h2 := h.2
  unfold nxtL at h2
  cases hc : ascR (gL l) (m - 1) with
  | none => rfl
  | some i => rw [hc] at h2; cases h2
theorem ends_nx {m t i : Nat} {l : List Nat} (h : ends m (t + 1) l = true) (hi : ascR (gL l) (m - 1) = some i) : ends m t ((List.range m).map (nxA m i (gtR (gL l) i m) (gL l))) = true := by
  unfold ends at h
  rw [Bool.and_eq_true] at h
  have h2 := h.2
  unfold nxtL at h2
  rw [hi] at h2
  exact h2
theorem lin_s {n : Nat} (hn : 4096 ≤ n) {m : Nat} {s mm u : Int32} {X : St} {K : Int32 → Int32 → St → Option (Int32 × St)} (hP : IPool X) (hB : IBnd X) (hs : 0 ≤ s.toInt ∧ s.toInt ≤ 9) (hm : mm.toInt = m) (em : m = mny X) (h6 : m ≤ 6) : ∀ (t w w' : Nat) (v b : Int32) (l : List Nat) (A B : St), v.toInt + t = 720 → t < w → t < w' → t ≤ 719 → ends m t l = true → ord 79 m (gL l) A → (∀ o i, o < 79 → A.1 o i = X.1 o i) → ord 137 m (gL l) B → (∀ o i, 102 ≤ o → o < 137 → B.1 o i = X.1 o i) → 0 ≤ b.toInt → (∀ k, k < m → A.1 80 k = B.1 138 k) → ∃ R A' B', gro_lineUp_L57 n w s mm b v A = some (R, A') ∧ ((mo_nextOrder n B).bind fun (c18, X17) => (mo_line_L66 n K w' s u b c18 X17)) = K u R B' ∧ (∀ k, k < m → A'.1 80 k = B'.1 138 k) ∧ (∀ o i, o < 79 → A'.1 o i = X.1 o i) := by
  obtain ⟨m1, m2⟩ := mny_s hP
  have e720 : (720 : Int32).toInt = 720 := by decide
  have last : ∀ (w w' : Nat) (v b : Int32) (l : List Nat) (A B : St), 0 < w → 0 < w' → wfL m l = true → ascR (gL l) (m - 1) = none → ord 79 m (gL l) A → (∀ o i, o < 79 → A.1 o i = X.1 o i) → ord 137 m (gL l) B → (∀ o i, 102 ≤ o → o < 137 → B.1 o i = X.1 o i) → (∀ k, k < m → A.1 80 k = B.1 138 k) → ∃ R A' B', gro_lineUp_L57 n w s mm b v A = some (R, A') ∧ ((mo_nextOrder n B).bind fun (c18, X17) => (mo_line_L66 n K w' s u b c18 X17)) = K u R B' ∧ (∀ k, k < m → A'.1 80 k = B'.1 138 k) ∧ (∀ o i, o < 79 → A'.1 o i = X.1 o i) := by
    intro w w' v b l A B h1 h2 wf hc h4 h5 h6' h7 h9
    obtain ⟨W, rfl⟩ : ∃ W, w = W + 1 := ⟨w - 1, by omega⟩
    obtain ⟨W', rfl⟩ : ∃ W, w' = W + 1 := ⟨w' - 1, by omega⟩
    have e0 : (B.1 102 0).toInt = m := by rw [h7 _ _ (by omega) (by omega), hP.1, em]; exact m1
    have NC := nxC_s hn hm h6 h4
    have NM := nxM_s hn e0 h6 h6' (fun i j hi hj hij => wf_ne wf hi hj hij)
    rw [hc] at NC NM
    show ∃ R A' B', gro_lineUp_L57_B n (gro_lineUp_L57 n W) s mm b v A = some (R, A') ∧ ((mo_nextOrder n B).bind fun (c18, X17) => (mo_line_L66_B n K (mo_line_L66 n K W') s u b c18 X17)) = K u R B' ∧ (∀ k, k < m → A'.1 80 k = B'.1 138 k) ∧ (∀ o i, o < 79 → A'.1 o i = X.1 o i)
    unfold gro_lineUp_L57_B mo_line_L66_B
    refine ⟨b, A, B, ?_, ?_, h9, h5⟩
    · by_cases c1 : v < 720
      · rw [if_pos c1, NC, Option.bind_some]
        dsimp only
        rw [if_pos rfl]
      · rw [if_neg c1]
    · rw [NM, Option.bind_some]
      dsimp only
      rw [if_pos rfl]
  intro t
  induction t with
  | zero =>
    intro w w' v b l A B h1 h2 h2a h2' h3 h4 h5 h6' h7 h8 h9
    exact last w w' v b l A B h2 h2a (ends_wf h3) (ends_no h3) h4 h5 h6' h7 h9
  | succ t ih =>
    intro w w' v b l A B h1 h2 h2a h2' h3 h4 h5 h6' h7 h8 h9
    have wf := ends_wf h3
    cases hc : ascR (gL l) (m - 1) with
    | none => exact last w w' v b l A B (by omega) (by omega) wf hc h4 h5 h6' h7 h9
    | some i =>
      obtain ⟨W, rfl⟩ : ∃ W, w = W + 1 := ⟨w - 1, by omega⟩
      obtain ⟨W', rfl⟩ : ∃ W, w' = W + 1 := ⟨w' - 1, by omega⟩
      show ∃ R A' B', gro_lineUp_L57_B n (gro_lineUp_L57 n W) s mm b v A = some (R, A') ∧ ((mo_nextOrder n B).bind fun (c18, X17) => (mo_line_L66_B n K (mo_line_L66 n K W') s u b c18 X17)) = K u R B' ∧ (∀ k, k < m → A'.1 80 k = B'.1 138 k) ∧ (∀ o i, o < 79 → A'.1 o i = X.1 o i)
      have e0 : (B.1 102 0).toInt = m := by rw [h7 _ _ (by omega) (by omega), hP.1, em]; exact m1
      have NC := nxC_s hn hm h6 h4
      have NM := nxM_s hn e0 h6 h6' (fun i j hi hj hij => wf_ne wf hi hj hij)
      rw [hc] at NC NM
      obtain ⟨A1, a1, a2, a3, a4⟩ := NC
      obtain ⟨B1, b1, b2, b3, b4⟩ := NM
      have en := ends_nx h3 hc
      have wf2 := ends_wf en
      have o1 : ord 79 m (gL ((List.range m).map (nxA m i (gtR (gL l) i m) (gL l)))) A1 := fun k hk => by rw [gL_map hk]; exact a4 k hk
      have o2 : ord 137 m (gL ((List.range m).map (nxA m i (gtR (gL l) i m) (gL l)))) B1 := fun k hk => by rw [gL_map hk]; exact b4 k hk
      generalize (List.range m).map (nxA m i (gtR (gL l) i m) (gL l)) = l' at en wf2 o1 o2
      have A1X : ∀ o i, o < 79 → A1.1 o i = X.1 o i := fun o i ho => by rw [a3 _ _ (by omega), h5 _ _ ho]
      have B1X : ∀ o i, 102 ≤ o → o < 137 → B1.1 o i = X.1 o i := fun o i ho hp => by rw [b3 _ _ (by omega), h7 _ _ ho hp]
      obtain ⟨r, r1, r2, r3⟩ := spr_s hn hP hB hs hm em h6 (fun k hk => wf_lt wf2 hk) o1 A1X o2 B1X
      have ev : (v + 1).toInt = v.toInt + 1 := by rw [ti_add] <;> rw [ti1] <;> omega
      have nb : ¬ b < 0 := by rw [ltk, ti0]; omega
      have q1 : v < 720 := by rw [ltk, e720]; omega
      have E1 : gro_lineUp_L57_B n (gro_lineUp_L57 n W) s mm b v A = (if r < b then gro_lineUp_L57 n W s mm r (v + 1) (cpI A1 79 0 80 0 (nx mm)) else gro_lineUp_L57 n W s mm b (v + 1) A1) := by
        unfold gro_lineUp_L57_B
        rw [if_pos q1, a1, Option.bind_some]
        dsimp only
        rw [if_neg (by decide), r1, Option.bind_some, if_pos (cpk hm h6)]
        rfl
      have E2 : ((mo_nextOrder n B).bind fun (c18, X17) => (mo_line_L66_B n K (mo_line_L66 n K W') s u b c18 X17)) = (if r < b then mo_line_L94 n (fun v12 v13 v14 X11 => ((mo_nextOrder n X11).bind fun (c16, X15) => (mo_line_L66 n K W' v12 v13 v14 c16 X15))) n s u r 0 B1 else ((mo_nextOrder n B1).bind fun (c18, X17) => (mo_line_L66 n K W' s u b c18 X17))) := by
        rw [b1, Option.bind_some]
        dsimp only
        unfold mo_line_L66_B
        rw [if_neg (by decide), r2, Option.bind_some, if_neg nb]
      rw [E1, E2]
      by_cases c1 : r < b
      · rw [if_pos c1, if_pos c1]
        obtain ⟨B2, p1, p2, p3⟩ := lm1_s n (K := fun v12 v13 v14 X11 =>
          ((mo_nextOrder n X11).bind fun (c16, X15) =>
          (mo_line_L66 n K W' v12 v13 v14 c16 X15))) (s := s) (u := u) (b := r) n 6 0 0 B1 ti0 (by omega) (by omega)
        rw [p1]
        refine ih W W' (v + 1) r l' _ B2 (by omega) (by omega) (by omega) (by omega) en (fun k hk => ?_) (fun o i ho => ?_) (fun k hk => ?_) (fun o i ho hp => ?_) r3 (fun k hk => ?_)
        · exact o1 k hk
        · show (if o = 80 then _ else A1.1 o i) = _
          rw [if_neg (by omega)]; exact A1X o i ho
        · rw [p3, if_neg (by omega)]; exact o2 k hk
        · rw [p3, if_neg (by omega)]; exact B1X o i ho hp
        · rw [p3, if_pos (by omega)]
          show (if 80 = 80 then (if 0 ≤ k ∧ k < 0 + nx mm then A1.1 79 (0 + (k - 0)) else A1.1 80 k) else A1.1 80 k) = _
          rw [if_pos rfl, if_pos (by rw [nxk hm]; omega), Nat.zero_add, Nat.sub_zero, ti_eq, o1 k hk, o2 k hk]
      · rw [if_neg c1, if_neg c1]
        exact ih W W' (v + 1) b l' A1 B1 (by omega) (by omega) (by omega) (by omega) en o1 A1X o2 B1X h8 (fun k hk => by rw [a3 _ _ (by omega), b3 _ _ (by omega)]; exact h9 k hk)
theorem op_line (n : Nat) (hn : 4096 ≤ n) (s u : Int32) (X : St) (hP : IPool X) (hB : IBnd X) : ∃ r X1, el_line n s u X = some (r, X1) ∧ ∀ Y, Mo X Y → ∃ Y1, mo_line n s u Y = some (r, Y1) := by
  obtain ⟨m1, m2⟩ := mny_s hP
  refine joinr (fun Y hY => ?_)
  have y0 : Y.1 102 0 = X.1 1 1 := (hY.2 _ _ (by omega)).trans hP.1
  have e9 : (9 : Int32).toInt = 9 := by decide
  have e6 : (6 : Int32).toInt = 6 := by decide
  unfold el_line mo_line poo_many
  rw [y0]
  by_cases hs : 0 ≤ s.toInt ∧ s.toInt ≤ 9
  · rw [if_neg (by rw [ltk, ti0]; omega), if_neg (by rw [ltk, e9]; omega), if_neg (c := mo_within s 0 9 = 0) (fun h => by have := within0.mp h; rw [ti0, e9] at this; omega)]
    by_cases hu : u < -1
    · rw [if_pos hu, if_pos hu]
      exact ⟨_, _, rfl, _, rfl⟩
    · rw [if_neg hu, if_neg hu]
      by_cases h6 : 6 < X.1 1 1
      · rw [if_pos h6, if_pos h6]
        exact ⟨_, _, rfl, _, rfl⟩
      · rw [if_neg h6, if_neg h6]
        rw [ltk, e6] at h6
        rw [ltk, ti_m1] at hu
        -- both go through the orders
        have hm : (jmath_min (X.1 1 1) 6).toInt = mny X := by rw [min_ti, e6]; omega
        have h6' : mny X ≤ 6 := by omega
        have idl : ∀ k, k < mny X → gL (List.range (mny X)) k = k := fun k hk => by
          unfold gL
          simp [List.getD, hk]
        have hen := ends_all (mny X) (by omega)
        obtain ⟨A, a1, a2, a3⟩ := ln0_s n (K := fun v2 v3 X1 =>
          ((gro_spread n v2 v3 X1).bind fun c4 =>
          (if cpOk (0 : Int32) (0 : Int32) v3 6 6 then
          (gro_lineUp_L57 n n v2 v3 c4 (1 : Int32) (cpI X1 79 (nx (0 : Int32)) 80 (nx (0 : Int32)) (nx v3))) else none))) (s := s) hm h6' n (mny X) 0 0 X ti0 (by omega) (by omega)
        obtain ⟨B, b1, b2, b3⟩ := lm0_s n (K := fun v2 v3 X1 =>
          (mo_line_L66 n (fun v20 v21 X19 =>
          (if v20 = (-1 : Int32) then
          (some (v21, X19))
          else
          (if inB v20 6 then
          (some ((X19.1 138 (nx v20)), X19)) else none))) n v2 v3 (-1 : Int32) (1 : Int32) X1)) (s := s) (u := u) n 6 0 0 Y ti0 (by omega) (by omega)
        have o1 : ord 79 (mny X) (gL (List.range (mny X))) A := fun k hk => by rw [a3, if_pos (by omega), ti_ofNat (by omega), idl k hk]
        have o2 : ord 137 (mny X) (gL (List.range (mny X))) B := fun k hk => by rw [b3, if_pos (by omega), ti_ofNat (by omega), idl k hk]
        have A1X : ∀ o i, o < 79 → A.1 o i = X.1 o i := fun o i ho => by rw [a3, if_neg (by omega)]
        have B1X : ∀ o i, 102 ≤ o → o < 137 → B.1 o i = X.1 o i := fun o i ho hp => by rw [b3, if_neg (by omega), hY.2 _ _ ho]
        have wf := ends_wf hen
        obtain ⟨r, r1, r2, r3⟩ := spr_s hn hP hB hs hm rfl h6' (fun k hk => wf_lt wf hk) o1 A1X o2 B1X
        obtain ⟨N, rfl⟩ : ∃ N, n = N + 1 := ⟨n - 1, by omega⟩
        obtain ⟨B2, p1, p2, p3⟩ := lm1_s (N + 1) (K := fun v6 v7 v8 X5 =>
          ((mo_nextOrder (N + 1) X5).bind fun (c10, X9) =>
          (mo_line_L66 (N + 1) (fun v20 v21 X19 =>
          (if v20 = (-1 : Int32) then
          (some (v21, X19))
          else
          (if inB v20 6 then
          (some ((X19.1 138 (nx v20)), X19)) else none))) N v6 v7 v8 c10 X9))) (s := s) (u := u) (b := r) (N + 1) 6 0 0 B ti0 (by omega) (by omega)
        obtain ⟨R, A', B', L1, L2, L3, L4⟩ := lin_s hn (K := fun v20 v21 X19 =>
          (if v20 = (-1 : Int32) then
          (some (v21, X19))
          else
          (if inB v20 6 then
          (some ((X19.1 138 (nx v20)), X19)) else none))) (u := u) hP hB hs hm rfl h6' 719 (N + 1) N 1 r (List.range (mny X)) (cpI A 79 0 80 0 (nx (jmath_min (X.1 1 1) 6))) B2 (by decide) (by omega) (by omega) (by omega) hen (fun k hk => o1 k hk) (fun o i ho => by
            show (if o = 80 then _ else A.1 o i) = _
            rw [if_neg (by omega)]; exact A1X o i ho) (fun k hk => by rw [p3, if_neg (by omega)]; exact o2 k hk) (fun o i ho hp => by rw [p3, if_neg (by omega)]; exact B1X o i ho hp) r3 (fun k hk => by
            rw [p3, if_pos (by omega)]
            show (if 80 = 80 then (if 0 ≤ k ∧ k < 0 + nx (jmath_min (X.1 1 1) 6) then A.1 79 (0 + (k - 0)) else A.1 80 k) else A.1 80 k) = _
            rw [if_pos rfl, if_pos (by rw [nxk hm]; omega), Nat.zero_add, Nat.sub_zero, ti_eq, o1 k hk, o2 k hk])
        have EL : gro_lineUp (N + 1) s X = some (R, A') := by
          unfold gro_lineUp poo_many
          rw [a1, r1, Option.bind_some, if_pos (cpk hm h6')]
          exact L1
        have EM : mo_line_L42 (N + 1) (fun v2 v3 X1 =>
          (mo_line_L66 (N + 1) (fun v20 v21 X19 =>
          (if v20 = (-1 : Int32) then
          (some (v21, X19))
          else
          (if inB v20 6 then
          (some ((X19.1 138 (nx v20)), X19)) else none))) (N + 1) v2 v3 (-1 : Int32) (1 : Int32) X1)) (N + 1) s u 0 Y = (if u = (-1 : Int32) then (some (R, B')) else (if inB u 6 then (some ((B'.1 138 (nx u)), B')) else none)) := by
          rw [b1]
          show mo_line_L66_B _ _ _ _ _ _ _ _ = _
          unfold mo_line_L66_B
          rw [if_neg (by decide), r2, Option.bind_some, if_pos (by decide)]
          exact p1.trans L2
        rw [EL, Option.bind_some]
        dsimp only
        by_cases c1 : u = -1
        · rw [if_pos c1]
          refine ⟨R, A', rfl, B', ?_⟩
          rw [if_pos (by rw [ltk, c1, ti_m1]; omega)]
          exact EM.trans (by rw [if_pos c1])
        · rw [if_neg c1]
          have hu2 : u.toInt ≠ -1 := fun h => c1 (ti_eq.mpr (by rw [h]; decide))
          unfold gro_inLine poo_many
          rw [if_neg (by rw [ltk, ti0]; omega), L4 1 1 (by omega)]
          by_cases c2 : u < X.1 1 1
          · rw [if_pos c2, if_pos c2]
            rw [ltk] at c2
            have hk : u.toInt = u.toInt.toNat := by omega
            have ib : inB u 6 = true := by rw [inB_iff]; omega
            rw [if_pos (by rw [ltk, e6]; omega), if_pos ib, Option.bind_some]
            refine ⟨_, A', rfl, B', EM.trans ?_⟩
            rw [if_neg c1, if_pos ib, nxk hk, L3 _ (by omega)]
          · rw [if_neg c2, if_neg c2, Option.bind_some]
            exact ⟨_, A', rfl, Y, rfl⟩
  · refine ⟨-1, X, ?_, Y, ?_⟩
    · by_cases h1 : s < 0
      · rw [if_pos h1]
      · rw [if_neg h1, if_pos (by rw [ltk, e9]; rw [ltk, ti0] at h1; omega)]
    · rw [if_pos (within0.mpr (by rw [ti0, e9]; omega))]
