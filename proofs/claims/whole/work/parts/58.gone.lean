/-! gone, least -/
theorem und_eq {v : Int32} : mo_isUnder v = rou_isUnder v := rfl
theorem rc_ti {X : St} {a : Nat} (hs : ISh X) (ha : a < 6) : (Int32.ofNat (rc X a)).toInt = rc X a := by
  have := rc_le hs ha
  exact ti_ofNat (by omega)
theorem gone_s (n : Nat) {b up : Int32} {c : Nat} {A B : St} (f : Nat → Int32) (hc : c ≤ 60) (hb : 0 ≤ b.toInt) (hu : 1 ≤ up.toInt ∧ up.toInt ≤ 9) (a1 : (A.1 24 1).toInt = c) (a2 : ∀ i, i < c → A.1 25 i = f i) (b1 : (B.1 102 44).toInt = c) (b2 : ∀ i, i < c → B.1 133 i = f i) (b3 : B.1 109 2 = up) : ∀ (w j k : Nat) (u t s v : Int32), k + j = c → j < w → v.toInt = k → 0 ≤ u.toInt → u.toInt ≤ k → u.toInt ≤ b.toInt → 0 ≤ s.toInt → s.toInt ≤ k → t.toInt = min s.toInt up.toInt → ∃ r, rou_firstGone_L8 n A w b up u t v = some r ∧ mo_goneAt_L7 n B w b u s v = some r := by
  intro w
  induction w with
  | zero => intro j k u t s v h1 h2; omega
  | succ w ih =>
    intro j k u t s v h1 h2 h3 h4 h5 h6 h7 h8 h9
    show ∃ r, rou_firstGone_L8_B n A (rou_firstGone_L8 n A w) b up u t v = some r ∧ mo_goneAt_L7_B n B (mo_goneAt_L7 n B w) b u s v = some r
    unfold rou_firstGone_L8_B mo_goneAt_L7_B
    have ev := nxk h3
    cases j with
    | zero =>
      rw [if_neg (by rw [ltk]; omega), if_neg (by rw [ltk]; omega)]
      exact ⟨_, rfl, rfl⟩
    | succ j =>
      have ib : inB v 60 = true := by rw [inB_iff]; omega
      have hA : v < A.1 24 1 := by rw [ltk]; omega
      have hB : v < B.1 102 44 := by rw [ltk]; omega
      simp only [if_pos hA, if_pos hB, if_pos ib, Option.bind_some, ev, a2 k (by omega), b2 k (by omega), und_eq, show nx (2 : Int32) = 2 by decide, b3]
      have s1 := inc h3 (by omega)
      have e1 : (s + 1).toInt = s.toInt + 1 := by rw [ti_add] <;> rw [ti1] <;> omega
      have e2 : (u + 1).toInt = u.toInt + 1 := by rw [ti_add] <;> rw [ti1] <;> omega
      have e3 : (t + 1).toInt = t.toInt + 1 := by rw [ti_add] <;> rw [ti1] <;> omega
      unfold rou_underThen rou_aboveThen
      by_cases c1 : rou_isUnder (f k) = 0
      · rw [if_pos c1, if_pos c1, if_pos c1]
        have et : (jmath_min (t + 1) up).toInt = min (s + 1).toInt up.toInt := by rw [min_ti, e3, e1, h9]; omega
        by_cases c2 : s + 1 < up
        · have c3 := ltk.mp c2
          rw [if_pos (c := jmath_min (t + 1) up < up) (by rw [ltk, et]; omega), if_pos c2, if_neg (by rw [ltk]; omega)]
          exact ih j (k + 1) u _ (s + 1) (v + 1) (by omega) (by omega) s1 h4 (by omega) h6 (by omega) (by omega) et
        · have c3 : ¬ (s + 1).toInt < up.toInt := fun h => c2 (ltk.mpr h)
          rw [if_neg (c := jmath_min (t + 1) up < up) (by rw [ltk, et]; omega), if_neg c2, if_neg (by rw [ltk, ti0]; omega)]
          exact ih j (k + 1) 0 _ (s + 1) (v + 1) (by omega) (by omega) s1 (by decide) (by rw [ti0]; omega) (by rw [ti0]; exact hb) (by omega) (by omega) et
      · rw [if_neg c1, if_neg c1, if_neg c1]
        by_cases c2 : b < u + 1
        · rw [if_pos c2, if_pos c2]
          exact ⟨_, rfl, rfl⟩
        · rw [if_neg c2, if_neg c2]
          rw [ltk] at c2
          exact ih j (k + 1) (u + 1) 0 0 (v + 1) (by omega) (by omega) s1 (by omega) (by omega) (by omega) (by decide) (by rw [ti0]; omega) (by rw [ti0]; omega)
theorem lon_s (n : Nat) {up : Int32} {c : Nat} {A : St} (f : Nat → Int32) (hc : c ≤ 60) (hu : 1 ≤ up.toInt ∧ up.toInt ≤ 9) (a1 : (A.1 24 1).toInt = c) (a2 : ∀ i, i < c → A.1 25 i = f i) : ∀ (w j k : Nat) (m u t v : Int32), k + j = c → j < w → v.toInt = k → 0 ≤ u.toInt → u.toInt ≤ k → 0 ≤ t.toInt → t.toInt ≤ k → m.toInt ≤ k → ∃ r, rou_longest_L10 n A w up m u t v = some r ∧ m.toInt ≤ r.toInt ∧ r.toInt ≤ c ∧ ∀ b : Int32, 0 ≤ b.toInt → u.toInt ≤ b.toInt → m.toInt ≤ b.toInt → (rou_firstGone_L8 n A w b up u t v = some (-2) ↔ r.toInt ≤ b.toInt) := by
  intro w
  induction w with
  | zero => intro j k m u t v h1 h2; omega
  | succ w ih =>
    intro j k m u t v h1 h2 h3 h4 h5 h6 h7 h8
    show ∃ r, rou_longest_L10_B n A (rou_longest_L10 n A w) up m u t v = some r ∧ m.toInt ≤ r.toInt ∧ r.toInt ≤ c ∧ ∀ b : Int32, 0 ≤ b.toInt → u.toInt ≤ b.toInt → m.toInt ≤ b.toInt → (rou_firstGone_L8_B n A (rou_firstGone_L8 n A w) b up u t v = some (-2) ↔ r.toInt ≤ b.toInt)
    unfold rou_longest_L10_B rou_firstGone_L8_B
    have ev := nxk h3
    cases j with
    | zero =>
      have hA : ¬ v < A.1 24 1 := by rw [ltk]; omega
      simp only [if_neg hA]
      exact ⟨m, rfl, by omega, by omega, fun b _ _ hb => ⟨fun _ => hb, fun _ => trivial⟩⟩
    | succ j =>
      have ib : inB v 60 = true := by rw [inB_iff]; omega
      have hA : v < A.1 24 1 := by rw [ltk]; omega
      simp only [if_pos hA, if_pos ib, Option.bind_some, ev, a2 k (by omega)]
      have s1 := inc h3 (by omega)
      have e2 : (u + 1).toInt = u.toInt + 1 := by rw [ti_add] <;> rw [ti1] <;> omega
      have e3 : (t + 1).toInt = t.toInt + 1 := by rw [ti_add] <;> rw [ti1] <;> omega
      -- the next numbers
      have ht : 0 ≤ (rou_aboveThen t (f k) up).toInt ∧ (rou_aboveThen t (f k) up).toInt ≤ k + 1 := by
        unfold rou_aboveThen
        by_cases c1 : rou_isUnder (f k) = 0
        · rw [if_pos c1, min_ti]; omega
        · rw [if_neg c1, ti0]; omega
      generalize rou_aboveThen t (f k) up = t' at ht ⊢
      have hu' : 0 ≤ (rou_underThen u t' (f k) up).toInt ∧ (rou_underThen u t' (f k) up).toInt ≤ k + 1 := by
        unfold rou_underThen
        by_cases c1 : rou_isUnder (f k) = 0
        · rw [if_pos c1]
          by_cases c2 : t' < up
          · rw [if_pos c2]; omega
          · rw [if_neg c2, ti0]; omega
        · rw [if_neg c1]; omega
      generalize rou_underThen u t' (f k) up = u' at hu' ⊢
      obtain ⟨r, r1, r2, r3, r4⟩ := ih j (k + 1) (jmath_max m u') u' t' (v + 1) (by omega) (by omega) s1 hu'.1 (by omega) ht.1 (by omega) (by rw [max_ti]; omega)
      rw [max_ti] at r2
      refine ⟨r, r1, by omega, r3, fun b hb hub hmb => ?_⟩
      by_cases c2 : b < u'
      · rw [if_pos c2]
        rw [ltk] at c2
        refine ⟨fun h => ?_, fun h => by omega⟩
        injection h with h
        rw [h, show (-2 : Int32).toInt = -2 by decide] at h3
        omega
      · rw [if_neg c2]
        rw [ltk] at c2
        exact r4 b hb (by omega) (by rw [max_ti]; omega)
theorem one_s {v : Int32} {X Y : St} (hP : IPool X) (hY : Mo X Y) : mo_isOne v Y = 0 ↔ ¬ (0 ≤ v.toInt ∧ v.toInt < (X.1 1 1).toInt) := by
  obtain ⟨h1, h2, h3, -⟩ := hP
  unfold mo_isOne
  have e : (X.1 1 1 - 1).toInt = (X.1 1 1).toInt - 1 := by rw [ti_sub] <;> rw [ti1] <;> omega
  rw [within0, hY.2 102 0 (by omega), h1, e, ti0]
  omega
theorem has_s {v : Int32} {X : St} : poo_has v X = 0 ↔ ¬ (0 ≤ v.toInt ∧ v.toInt < (X.1 1 1).toInt) := by
  rw [has0]; omega
theorem has1 {v : Int32} {X : St} (h : 0 ≤ v.toInt ∧ v.toInt < (X.1 1 1).toInt) : poo_has v X = 1 := by
  unfold poo_has
  rw [if_neg (by rw [ltk, ti0]; omega), if_pos (by rw [ltk]; omega)]
theorem Rdy.lo {X Y : St} {a : Nat} (h : Rdy X a Y) {o i : Nat} (ho : o < 24 ∨ o = 27 ∨ 48 < o) : Y.1 o i = X.1 o i := h.2.2.2.2.2.2.2.2 o i ho
theorem Rds.lo {X Y : St} {a : Nat} (h : Rds X a Y) {o i : Nat} (h1 : 102 ≤ o) (h2 : o ≠ 133) (h3 : ¬ (o = 102 ∧ i = 44)) : Y.1 o i = X.1 o i := h.2.2.2 o i h1 h2 h3
theorem pl_w {X : St} (hP : IPool X) {w k : Nat} (hw : w < 6) (hk : k < 8) : X.1 (103 + w) k = X.1 (3 + w) k := hP.2.2.2.1 w k hw hk
theorem pl_j {X : St} (hP : IPool X) {j : Nat} (hj : j < 3) : X.1 109 j = X.1 (9 + j) 0 := hP.2.2.2.2 j hj
theorem up_rng {X : St} (hB : IBnd X) : 1 ≤ (X.1 11 0).toInt ∧ (X.1 11 0).toInt ≤ 9 := hB 8 0 (Or.inr ⟨by decide, by decide, by decide⟩)
theorem br_rng {X : St} (hB : IBnd X) {k : Nat} (hk : (k : Int) < (X.1 1 1).toInt) : 1 ≤ (X.1 6 k).toInt ∧ (X.1 6 k).toInt ≤ 60 := hB 3 k (Or.inl ⟨by decide, by decide, by omega, hk⟩)
/-- who runs out of breath, and at which count: alike on both sides -/
theorem g1_s {n : Nat} (hn : 4096 ≤ n) {X A B : St} {a k : Nat} {v : Int32} (ha : a < 6) (hP : IPool X) (hB : IBnd X) (hs : ISh X) (hA : Rdy X a A) (hM : Rds X a B) (hv : v.toInt = k) (hk : (k : Int) < (X.1 1 1).toInt) : ∃ r, tho_goneOf n v A = some r ∧ mo_goneAt n (B.1 106 k) B = some r := by
  have h8 := hP.2.2.1
  have e1 : A.1 1 1 = X.1 1 1 := hA.lo (by omega)
  have e2 : B.1 106 k = X.1 6 k := (hM.lo (by omega) (by omega) (by omega)).trans (pl_w hP (w := 3) (by omega) (by omega))
  have e3 : B.1 109 2 = X.1 11 0 := (hM.lo (by omega) (by omega) (by omega)).trans (pl_j hP (j := 2) (by omega))
  have hb := br_rng hB hk
  obtain ⟨r, r1, r2⟩ := gone_s n (b := X.1 6 k) (up := X.1 11 0) (A := A) (B := B) (ac X a) (rc_le hs ha) (by omega) (up_rng hB) (by rw [hA.2.1]; exact rc_ti hs ha) hA.2.2.1 (by rw [hM.2.1]; exact rc_ti hs ha) hM.2.2.1 e3 n (rc X a) 0 0 0 0 0 (by omega) (by have := rc_le hs ha; omega) ti0 (by decide) (by decide) (by rw [ti0]; omega) (by decide) (by decide) (by have := up_rng hB; rw [ti0]; omega)
  refine ⟨r, ?_, ?_⟩
  · unfold tho_goneOf
    rw [show (3 : Int32) = Int32.ofNat 3 by decide, tld 3 (by omega) (by rw [e1]; exact h8) hv (by rw [e1]; exact hk), Option.bind_some, show (8 : Int32) = Int32.ofNat 8 by decide, tldw 8 (by omega) (by rw [e1]; exact h8), Option.bind_some, hA.lo (o := 3 + 3) (by omega), hA.lo (o := 3 + 8) (by omega)]
    unfold rou_firstGone
    rw [r1]
    rfl
  · rw [e2]
    exact r2
theorem bits_s {n : Nat} (hn : 4096 ≤ n) {X A B : St} {a : Nat} (ha : a < 6) (hP : IPool X) (hB : IBnd X) (hs : ISh X) (hA : Rdy X a A) (hM : Rds X a B) : ∀ (w j k : Nat) (s v : Int32), (X.1 1 1).toInt = ((k + j : Nat) : Int) → j < w → v.toInt = k → ∃ r, tho_allGone_L4 n A w s v = some r ∧ mo_goneBits_L4 n B w s v = some r := by
  have h8 := hP.2.2.1
  have e1 : A.1 1 1 = X.1 1 1 := hA.lo (by omega)
  have e2 : B.1 102 0 = X.1 1 1 := (hM.lo (by omega) (by omega) (by omega)).trans hP.1
  intro w
  induction w with
  | zero => intro j k s v h1 h2; omega
  | succ w ih =>
    intro j k s v h1 h2 h3
    show ∃ r, tho_allGone_L4_B n A (tho_allGone_L4 n A w) s v = some r ∧ mo_goneBits_L4_B n B (mo_goneBits_L4 n B w) s v = some r
    unfold tho_allGone_L4_B mo_goneBits_L4_B poo_many
    rw [e1, e2]
    cases j with
    | zero =>
      rw [if_neg (by rw [ltk]; omega), if_neg (by rw [ltk]; omega)]
      exact ⟨_, rfl, rfl⟩
    | succ j =>
      have ib : inB v 8 = true := by rw [inB_iff]; omega
      obtain ⟨r, r1, r2⟩ := g1_s hn ha hP hB hs hA hM h3 (by omega)
      have hA : v < X.1 1 1 := by rw [ltk]; omega
      simp only [if_pos hA, if_pos ib, r1, nxk h3, r2, Option.bind_some]
      by_cases c : r = -2
      · rw [if_pos c, if_pos c]
        exact ih j (k + 1) s (v + 1) (by omega) (by omega) (inc h3 (by omega))
      · rw [if_neg c, if_neg c]
        exact ih j (k + 1) _ (v + 1) (by omega) (by omega) (inc h3 (by omega))
theorem op_gone (n : Nat) (hn : 4096 ≤ n) (a v : Int32) (X : St) (hP : IPool X) (hB : IBnd X) (hs : ISh X) (hw : IWy X) : ∃ r X1, el_gone n a v X = some (r, X1) ∧ ∀ Y, Mo X Y → ∃ Y1, mo_gone n a v Y = some (r, Y1) := by
  have h8 := hP.2.2.1
  have key : ∀ h : Int32, h ≠ 0 → (v = -1 ∨ (0 ≤ v.toInt ∧ v.toInt < (X.1 1 1).toInt)) → (0 ≤ a.toInt ∧ a.toInt ≤ 5) → ∃ r X1, el_gone_J23 n v h a X = some (r, X1) ∧ ∀ Y, Mo X Y → ∃ Y1, mo_gone_J22 n a v Y = some (r, Y1) := by
    intro h hh hv ha
    have hx := nx_ti ha.1
    unfold el_gone_J23
    rcases beg_s hn hh ha hP hs hw with ⟨c, c1, c2, c3⟩ | ⟨X1, x1, x2, x3⟩
    · refine ⟨c, X, ?_, fun Y hY => ⟨Y, ?_⟩⟩
      · rw [c2, Option.bind_some]
        dsimp only
        rw [if_neg c1.1]
      · unfold mo_gone_J22
        rw [c3 Y hY, Option.bind_some, if_pos c1.2]
    · rw [x1, Option.bind_some]
      dsimp only
      rw [if_pos rfl]
      rcases hv with e | e
      · rw [if_pos e]
        obtain ⟨-, B, b1, b2⟩ := x3 X Mo.rf
        obtain ⟨r, r1, -⟩ := bits_s hn (by omega) hP hB hs x2 b2 n (X.1 1 1).toInt.toNat 0 0 0 (by have := hP.2.1; omega) (by omega) ti0
        refine ⟨r, X1, ?_, fun Y hY => ?_⟩
        · unfold tho_allGone
          rw [r1, Option.bind_some]
        · obtain ⟨y0, B, b1, b2⟩ := x3 Y hY
          obtain ⟨r', r2, r3⟩ := bits_s hn (by omega) hP hB hs x2 b2 n (X.1 1 1).toInt.toNat 0 0 0 (by have := hP.2.1; omega) (by omega) ti0
          rw [r1] at r2
          injection r2 with r2
          refine ⟨B, ?_⟩
          unfold mo_gone_J22 mo_goneBits
          rw [y0, Option.bind_some, if_neg (by decide), b1, Option.bind_some, if_pos e, r3, Option.bind_some, r2]
      · have hv1 : ¬ v = -1 := fun h => by rw [h, ti_m1] at e; omega
        have hk : v.toInt = v.toInt.toNat := by omega
        rw [if_neg hv1]
        obtain ⟨-, B, b1, b2⟩ := x3 X Mo.rf
        obtain ⟨r, r1, -⟩ := g1_s hn (by omega) hP hB hs x2 b2 hk (by omega)
        refine ⟨r, X1, ?_, fun Y hY => ?_⟩
        · rw [r1, Option.bind_some]
        · obtain ⟨y0, B, b1, b2⟩ := x3 Y hY
          obtain ⟨r', r2, r3⟩ := g1_s hn (by omega) hP hB hs x2 b2 hk (by omega)
          rw [r1] at r2
          injection r2 with r2
          refine ⟨B, ?_⟩
          unfold mo_gone_J22
          rw [y0, Option.bind_some, if_neg (by decide), b1, Option.bind_some, if_neg hv1, if_pos (by rw [inB_iff]; omega), nxk hk, r3, Option.bind_some, r2]
  unfold el_gone
  by_cases ha : 0 ≤ a.toInt ∧ a.toInt ≤ 5
  · by_cases c1 : v = -1
    · obtain ⟨r, X1, r1, r2⟩ := key 1 (by decide) (Or.inl c1) ha
      refine ⟨r, X1, by rw [if_pos c1]; exact r1, fun Y hY => ?_⟩
      unfold mo_gone
      rw [if_neg (fun h => shm0.mp h ha), if_pos c1]
      exact r2 Y hY
    · by_cases c2 : 0 ≤ v.toInt ∧ v.toInt < (X.1 1 1).toInt
      · obtain ⟨r, X1, r1, r2⟩ := key 1 (by decide) (Or.inr c2) ha
        refine ⟨r, X1, by rw [if_neg c1, if_neg (fun h => has_s.mp h c2)]; exact r1, fun Y hY => ?_⟩
        unfold mo_gone
        rw [if_neg (fun h => shm0.mp h ha), if_neg c1, if_neg (fun h => (one_s hP hY).mp h c2)]
        exact r2 Y hY
      · refine ⟨-1, X, ?_, fun Y hY => ⟨Y, ?_⟩⟩
        · rw [if_neg c1, if_pos (has_s.mpr c2)]
          unfold el_gone_J23
          rw [bad_s (Or.inl rfl), Option.bind_some]
          dsimp only
          rw [if_neg (by decide)]
        · unfold mo_gone
          rw [if_neg (fun h => shm0.mp h ha), if_neg c1, if_pos ((one_s hP hY).mpr c2)]
  · refine ⟨-1, X, ?_, fun Y hY => ⟨Y, ?_⟩⟩
    · unfold el_gone_J23
      simp only [bad_s (Or.inr ha), Option.bind_some, show ¬ (-1 : Int32) = 0 by decide, ↓reduceIte, ite_self]
    · unfold mo_gone
      rw [if_pos (shm0.mpr ha)]
theorem lst_s (n : Nat) {R : Int} {B : St} (g : ∀ b : Int32, 1 ≤ b.toInt → b.toInt ≤ 100 → ∃ r, mo_goneAt n b B = some r ∧ (r = -2 ↔ R ≤ b.toInt)) (hR : R ≤ 60) : ∀ (w j : Nat) (v : Int32), 1 ≤ v.toInt → v.toInt + j = max 1 R → j < w → ∃ u, mo_least_L38 n w v B = some (u, B) ∧ u.toInt = max 1 R := by
  intro w
  induction w with
  | zero => intro j v h1 h2; omega
  | succ w ih =>
    intro j v h1 h2 h3
    show ∃ u, mo_least_L38_B n (mo_least_L38 n w) v B = some (u, B) ∧ u.toInt = max 1 R
    obtain ⟨r, r1, r2⟩ := g v h1 (by omega)
    unfold mo_least_L38_B
    rw [r1, Option.bind_some]
    by_cases c : r = -2
    · rw [if_pos c]
      have := r2.mp c
      exact ⟨v, rfl, by omega⟩
    · rw [if_neg c]
      have : ¬ R ≤ v.toInt := fun h => c (r2.mpr h)
      exact ih (j - 1) (v + 1) (by rw [ti_add] <;> rw [ti1] <;> omega) (by rw [ti_add] <;> rw [ti1] <;> omega) (by omega)
theorem op_least (n : Nat) (hn : 4096 ≤ n) (a v : Int32) (X : St) (hP : IPool X) (hB : IBnd X) (hs : ISh X) (hw : IWy X) : ∃ r X1, el_least n a v X = some (r, X1) ∧ ∀ Y, Mo X Y → ∃ Y1, mo_least n a v Y = some (r, Y1) := by
  have h8 := hP.2.2.1
  unfold el_least
  by_cases ha : 0 ≤ a.toInt ∧ a.toInt ≤ 5
  · have hx := nx_ti ha.1
    by_cases c2 : 0 ≤ v.toInt ∧ v.toInt < (X.1 1 1).toInt
    · rw [has1 c2]
      rcases beg_s hn (h := 1) (by decide) ha hP hs hw with ⟨c, c1, c2', c3⟩ | ⟨X1, x1, x2, x3⟩
      · refine ⟨c, X, ?_, fun Y hY => ⟨Y, ?_⟩⟩
        · rw [c2', Option.bind_some]
          dsimp only
          rw [if_neg c1.1]
        · unfold mo_least
          rw [if_neg (fun h => shm0.mp h ha), if_neg (fun h => (one_s hP hY).mp h c2), c3 Y hY, Option.bind_some, if_pos c1.2]
      · have e1 : X1.1 1 1 = X.1 1 1 := x2.lo (by omega)
        have hrc := rc_le hs (a := nx a) (by omega)
        have ha1 : (X1.1 24 1).toInt = rc X (nx a) := by rw [x2.2.1]; exact rc_ti hs (by omega)
        obtain ⟨L, l1, l2, l3, l4⟩ := lon_s n (up := X.1 11 0) (A := X1) (ac X (nx a)) hrc (up_rng hB) ha1 x2.2.2.1 n (rc X (nx a)) 0 0 0 0 0 (by omega) (by omega) ti0 (by decide) (by decide) (by decide) (by decide) (by decide)
        rw [ti0] at l2
        refine ⟨jmath_max 1 L, X1, ?_, fun Y hY => ?_⟩
        · rw [x1, Option.bind_some]
          dsimp only
          rw [if_pos rfl, show (8 : Int32) = Int32.ofNat 8 by decide, tldw 8 (by omega) (by rw [e1]; exact h8), Option.bind_some, x2.lo (o := 3 + 8) (by omega)]
          unfold rou_longest
          rw [l1, Option.bind_some]
        · obtain ⟨y0, B, b1, b2⟩ := x3 Y hY
          have e3 : B.1 109 2 = X.1 11 0 := (b2.lo (by omega) (by omega) (by omega)).trans (pl_j hP (j := 2) (by omega))
          obtain ⟨u, u1, u2⟩ := lst_s n (R := L.toInt) (B := B) (fun b hb1 hb2 => by
            obtain ⟨r, r1, r2⟩ := gone_s n (b := b) (up := X.1 11 0) (A := X1) (B := B) (ac X (nx a)) hrc (by omega) (up_rng hB) ha1 x2.2.2.1 (by rw [b2.2.1]; exact rc_ti hs (by omega)) b2.2.2.1 e3 n (rc X (nx a)) 0 0 0 0 0 (by omega) (by omega) ti0 (by decide) (by decide) (by rw [ti0]; omega) (by decide) (by decide) (by have := up_rng hB; rw [ti0]; omega)
            have h4 := l4 b (by omega) (by rw [ti0]; omega) (by rw [ti0]; omega)
            refine ⟨r, r2, ?_⟩
            rw [← h4, r1]
            exact ⟨fun h => by rw [h], fun h => by injection h⟩) (by omega) n (max 1 L.toInt - 1).toNat 1 (by decide) (by rw [ti1]; omega) (by omega)
          refine ⟨B, ?_⟩
          unfold mo_least
          rw [if_neg (fun h => shm0.mp h ha), if_neg (fun h => (one_s hP hY).mp h c2), y0, Option.bind_some, if_neg (by decide), b1, Option.bind_some, u1]
          have : u = jmath_max 1 L := by rw [ti_eq, u2, max_ti, ti1]
          rw [this]
    · have h0 : poo_has v X = 0 := has_s.mpr c2
      refine ⟨-1, X, ?_, fun Y hY => ⟨Y, ?_⟩⟩
      · rw [h0, bad_s (Or.inl rfl), Option.bind_some]
        dsimp only
        rw [if_neg (by decide)]
      · unfold mo_least
        rw [if_neg (fun h => shm0.mp h ha), if_pos ((one_s hP hY).mpr c2)]
  · refine ⟨-1, X, ?_, fun Y hY => ⟨Y, ?_⟩⟩
    · rw [bad_s (Or.inr ha), Option.bind_some]
      dsimp only
      rw [if_neg (by decide)]
    · unfold mo_least
      rw [if_pos (shm0.mpr ha)]
