/-! gasps -/
/-- counts under and above, by then -/
def sqU (g : Nat → Int32) (up : Int32) : Nat → Int32 × Int32
  | 0 => (0, 0)
  | t + 1 => (rou_underThen (sqU g up t).1 (rou_aboveThen (sqU g up t).2 (g t) up) (g t) up, rou_aboveThen (sqU g up t).2 (g t) up)
theorem abv_r {a x up : Int32} (h : 0 ≤ a.toInt ∧ a.toInt ≤ 9) (hu : 1 ≤ up.toInt ∧ up.toInt ≤ 9) : 0 ≤ (rou_aboveThen a x up).toInt ∧ (rou_aboveThen a x up).toInt ≤ 9 := by
  have e : (a + 1).toInt = a.toInt + 1 := by rw [ti_add] <;> rw [ti1] <;> omega
  unfold rou_aboveThen
  by_cases c : rou_isUnder x = 0
  · rw [if_pos c, min_ti, e]; omega
  · rw [if_neg c, ti0]; omega
theorem und_r {u a x up : Int32} {t : Nat} (ht : t < 1000) (h : 0 ≤ u.toInt ∧ u.toInt ≤ t) : 0 ≤ (rou_underThen u a x up).toInt ∧ (rou_underThen u a x up).toInt ≤ ((t + 1 : Nat) : Int) := by
  have e : (u + 1).toInt = u.toInt + 1 := by rw [ti_add] <;> rw [ti1] <;> omega
  unfold rou_underThen
  by_cases c : rou_isUnder x = 0
  · rw [if_pos c]
    by_cases c2 : a < up
    · rw [if_pos c2]; omega
    · rw [if_neg c2, ti0]; omega
  · rw [if_neg c]; omega
theorem sqU_r {g : Nat → Int32} {up : Int32} (hu : 1 ≤ up.toInt ∧ up.toInt ≤ 9) : ∀ t, t < 1000 → (0 ≤ (sqU g up t).1.toInt ∧ (sqU g up t).1.toInt ≤ t) ∧ 0 ≤ (sqU g up t).2.toInt ∧ (sqU g up t).2.toInt ≤ 9 := by
  intro t
  induction t with
  | zero =>
    intro _
    show (0 ≤ (0 : Int32).toInt ∧ (0 : Int32).toInt ≤ ((0 : Nat) : Int)) ∧ 0 ≤ (0 : Int32).toInt ∧ (0 : Int32).toInt ≤ 9
    decide
  | succ t ih =>
    intro ht
    obtain ⟨h1, h2⟩ := ih (by omega)
    exact ⟨und_r (by omega) h1, abv_r h2 hu⟩
theorem fg_s (n : Nat) {b up : Int32} {c : Nat} {A : St} {g : Nat → Int32} (hc : c ≤ 60) (a1 : (A.1 24 1).toInt = c) (a2 : ∀ i, i < c → A.1 25 i = g i) : ∀ (r w k : Nat) (v : Int32), k + r = c → r < w → v.toInt = k → ∃ x, rou_firstGone_L8 n A w b up (sqU g up k).1 (sqU g up k).2 v = some x ∧ (x = -2 ↔ ∀ j, k ≤ j → j < c → ¬ b < (sqU g up (j + 1)).1) := by
  intro r
  induction r with
  | zero =>
    intro w k v h1 h2 h3
    obtain ⟨W, rfl⟩ : ∃ W, w = W + 1 := ⟨w - 1, by omega⟩
    refine ⟨-2, ?_, fun _ j j1 j2 => by omega, fun _ => rfl⟩
    show rou_firstGone_L8_B n A (rou_firstGone_L8 n A W) b up _ _ v = _
    unfold rou_firstGone_L8_B
    rw [if_neg (by rw [ltk]; omega)]
  | succ r ih =>
    intro w k v h1 h2 h3
    obtain ⟨W, rfl⟩ : ∃ W, w = W + 1 := ⟨w - 1, by omega⟩
    have ib : inB v 60 = true := by rw [inB_iff]; omega
    show ∃ x, rou_firstGone_L8_B n A (rou_firstGone_L8 n A W) b up (sqU g up k).1 (sqU g up k).2 v = some x ∧ _
    unfold rou_firstGone_L8_B
    rw [if_pos (by rw [ltk]; omega), if_pos ib, Option.bind_some, if_pos ib, Option.bind_some, nxk h3, a2 k (by omega)]
    have e1 : rou_underThen (sqU g up k).1 (rou_aboveThen (sqU g up k).2 (g k) up) (g k) up = (sqU g up (k + 1)).1 := rfl
    have e2 : rou_aboveThen (sqU g up k).2 (g k) up = (sqU g up (k + 1)).2 := rfl
    rw [e1, e2]
    by_cases c1 : b < (sqU g up (k + 1)).1
    · rw [if_pos c1]
      exact ⟨v, rfl, fun h => by rw [h, show (-2 : Int32).toInt = -2 by decide] at h3; omega, fun h => absurd c1 (h k (Nat.le_refl _) (by omega))⟩
    · rw [if_neg c1]
      obtain ⟨x, x1, x2⟩ := ih W (k + 1) (v + 1) (by omega) (by omega) (inc h3 (by omega))
      refine ⟨x, x1, x2.trans ⟨fun h j j1 j2 => ?_, fun h j j1 j2 => h j (by omega) j2⟩⟩
      rcases Nat.eq_or_lt_of_le j1 with e | e
      · rw [← e]; exact c1
      · exact h j e j2
/-- the states of a search for breaths -/
def dlG (br up : Int32) : Nat → Int32 → Option Nat := fun s a =>
  let t := rou_aboveThen (Int32.ofNat (s % 10)) a up
  let w := rou_underThen (Int32.ofNat (s / 10)) t a up
  if br < w then none else if (10 * nx w + nx t) < 170 then some (10 * nx w + nx t) else none
theorem rnG {br up : Int32} {g : Nat → Int32} (hu : 1 ≤ up.toInt ∧ up.toInt ≤ 9) : ∀ t, t ≤ 16 → ((∀ j, j < t → ¬ br < (sqU g up (j + 1)).1) → rnS (dlG br up) g t = some (10 * nx (sqU g up t).1 + nx (sqU g up t).2)) ∧ ((∃ j, j < t ∧ br < (sqU g up (j + 1)).1) → rnS (dlG br up) g t = none) := by
  intro t
  induction t with
  | zero => intro _; exact ⟨fun _ => rfl, fun ⟨j, hj, _⟩ => by omega⟩
  | succ t ih =>
    intro ht
    obtain ⟨i1, i2⟩ := ih (by omega)
    obtain ⟨⟨b1, b2⟩, b3, b4⟩ := sqU_r (g := g) hu t (by omega)
    obtain ⟨⟨b5, b6⟩, b7, b8⟩ := sqU_r (g := g) hu (t + 1) (by omega)
    have x1 := nx_ti b1
    have x3 := nx_ti b3
    have x5 := nx_ti b5
    have x7 := nx_ti b7
    have step : rnS (dlG br up) g t = some (10 * nx (sqU g up t).1 + nx (sqU g up t).2) → rnS (dlG br up) g (t + 1) = if br < (sqU g up (t + 1)).1 then none else some (10 * nx (sqU g up (t + 1)).1 + nx (sqU g up (t + 1)).2) := by
      intro h
      show (rnS (dlG br up) g t).bind (fun x => dlG br up x (g t)) = _
      rw [h, Option.bind_some]
      unfold dlG
      have d1 : (10 * nx (sqU g up t).1 + nx (sqU g up t).2) % 10 = nx (sqU g up t).2 := by omega
      have d2 : (10 * nx (sqU g up t).1 + nx (sqU g up t).2) / 10 = nx (sqU g up t).1 := by omega
      rw [d1, d2, ofNat_nx b1, ofNat_nx b3]
      show (if br < (sqU g up (t + 1)).1 then none else if (10 * nx (sqU g up (t + 1)).1 + nx (sqU g up (t + 1)).2) < 170 then some (10 * nx (sqU g up (t + 1)).1 + nx (sqU g up (t + 1)).2) else none) = _
      rw [if_pos (c := (10 * nx (sqU g up (t + 1)).1 + nx (sqU g up (t + 1)).2) < 170) (by omega)]
    refine ⟨fun h => ?_, fun ⟨j, hj, hb⟩ => ?_⟩
    · rw [step (i1 (fun j hj => h j (by omega))), if_neg (h t (Nat.lt_succ_self _))]
    · rcases Classical.em (∃ j, j < t ∧ br < (sqU g up (j + 1)).1) with e | e
      · show (rnS (dlG br up) g t).bind _ = none
        rw [i2 e]; rfl
      · have hh : ∀ j, j < t → ¬ br < (sqU g up (j + 1)).1 := fun j hj hb => e ⟨j, hj, hb⟩
        rw [step (i1 hh)]
        have : j = t := Decidable.byContradiction (fun z => hh j (by omega) hb)
        rw [← this, if_pos hb]
theorem fewG {br up : Int32} {c : Nat} {f : Nat → Int32} {A : St} (hu : 1 ≤ up.toInt ∧ up.toInt ≤ 9) (a1 : (A.1 24 1).toInt = c) (a2 : ∀ i, i < c → A.1 25 i = f i) (h3 : A.1 57 3 = 0) (h5 : A.1 57 5 = br) (h6 : A.1 57 6 = up) : Few c f (dlG br up) (fun _ => True) A := by
  refine ⟨a1, a2, fun v a s hv hs _ => ?_⟩
  have e10 : (10 : Int32).toInt = 10 := by decide
  have d1 : v / 10 = Int32.ofNat (s / 10) := by
    rw [ti_eq, ti_div (by decide), hv, e10, ti_ofNat (by omega), Int.tdiv_eq_ediv_of_nonneg (by omega)]
    omega
  have d2 : irm v 10 = Int32.ofNat (s % 10) := by
    rw [ti_eq, ti_irm (by decide), hv, e10, ti_ofNat (by omega), Int.tmod_eq_emod_of_nonneg (by omega)]
    omega
  have r1 := abv_r (x := a) (a := Int32.ofNat (s % 10)) (up := up) (by rw [ti_ofNat (by omega)]; omega) hu
  have r2 := und_r (x := a) (u := Int32.ofNat (s / 10)) (a := rou_aboveThen (Int32.ofNat (s % 10)) a up) (up := up) (t := s / 10) (by omega) (by rw [ti_ofNat (by omega)]; omega)
  unfold few_after few_afterBreathing
  rw [if_pos h3, h5, h6, d1, d2]
  have x1 := nx_ti r1.1
  have x2 := nx_ti r2.1
  refine ⟨_, rfl, fun s' hs' => ?_, fun hn => ?_⟩
  · unfold dlG at hs'
    dsimp only at hs'
    generalize rou_underThen (Int32.ofNat (s / 10)) (rou_aboveThen (Int32.ofNat (s % 10)) a up) a up = w at *
    generalize rou_aboveThen (Int32.ofNat (s % 10)) a up = t at *
    by_cases c1 : br < w
    · rw [if_pos c1] at hs'; cases hs'
    · rw [if_neg c1] at hs' ⊢
      by_cases c2 : 10 * nx w + nx t < 170
      · rw [if_pos c2] at hs'
        injection hs' with hs'
        refine ⟨?_, by omega⟩
        rw [ti_eq, ti_ofNat (by omega), ti_add, ti_mul, e10] <;> (try rw [ti_mul, e10]) <;> (try rw [e10]) <;> omega
      · rw [if_neg c2] at hs'; cases hs'
  · unfold dlG at hn
    dsimp only at hn
    generalize rou_underThen (Int32.ofNat (s / 10)) (rou_aboveThen (Int32.ofNat (s % 10)) a up) a up = w at *
    generalize rou_aboveThen (Int32.ofNat (s % 10)) a up = t at *
    by_cases c1 : br < w
    · rw [if_pos c1]; exact Or.inl (by decide)
    · rw [if_neg c1] at hn ⊢
      by_cases c2 : 10 * nx w + nx t < 170
      · rw [if_pos c2] at hn; cases hn
      · refine Or.inr ?_
        have m1 : (w * 10).toInt = w.toInt * 10 := by rw [ti_mul] <;> rw [e10] <;> omega
        rw [ti_add, m1] <;> (try rw [m1]) <;> omega
theorem lb_s (n : Nat) {X A : St} (hB : IBnd X) (hP : IPool X) (hA : ∀ o i, o < 20 → A.1 o i = X.1 o i) : ∀ (w r k : Nat) (v s : Int32), v.toInt = k → k + r = mny X → r < w → 1 ≤ s.toInt → s.toInt ≤ 60 → ∃ s', poo_leastBreath_L5 n A w s v = some s' ∧ 1 ≤ s'.toInt ∧ s'.toInt ≤ s.toInt ∧ (∀ i, k ≤ i → i < mny X → s'.toInt ≤ (X.1 6 i).toInt) ∧ (s' = s ∨ ∃ i, k ≤ i ∧ i < mny X ∧ s' = X.1 6 i) := by
  obtain ⟨m1, m2⟩ := mny_s hP
  intro w
  induction w with
  | zero => intro r k v s h1 h2 h3; omega
  | succ w ih =>
    intro r k v s h1 h2 h3 h4 h5
    show ∃ s', poo_leastBreath_L5_B n A (poo_leastBreath_L5 n A w) s v = some s' ∧ _
    unfold poo_leastBreath_L5_B
    rw [hA 1 1 (by omega)]
    cases r with
    | zero =>
      rw [if_neg (by rw [ltk]; omega)]
      exact ⟨s, rfl, h4, Int.le_refl _, fun i i1 i2 => by omega, Or.inl rfl⟩
    | succ r =>
      have br := br_rng hB (k := k) (by omega)
      rw [if_pos (by rw [ltk]; omega), if_pos (by rw [inB_iff]; omega), nxk h1, hA 6 _ (by omega)]
      have mt := min_ti (x := s) (y := X.1 6 k)
      obtain ⟨s', r1, r2, r3, r4, r5⟩ := ih r (k + 1) (v + 1) (jmath_min s (X.1 6 k)) (inc h1 (by omega)) (by omega) (by omega) (by omega) (by omega)
      refine ⟨s', r1, r2, by omega, fun i i1 i2 => ?_, ?_⟩
      · rcases Nat.eq_or_lt_of_le i1 with e | e
        · rw [← e]; omega
        · exact r4 i e i2
      · rcases r5 with e | ⟨i, i1, i2, i3⟩
        · unfold jmath_min at e
          by_cases q : X.1 6 k < s
          · rw [if_pos q] at e; exact Or.inr ⟨k, Nat.le_refl _, by omega, e⟩
          · rw [if_neg q] at e; exact Or.inl e
        · exact Or.inr ⟨i, by omega, i2, i3⟩
theorem gb_s (n : Nat) {X B : St} {G : Nat → Int32} {m : Nat} (hm : m ≤ 8) (h0 : (B.1 102 0).toInt = m) (hG : ∀ k, k < m → mo_goneAt n (B.1 106 k) B = some (G k)) : ∀ (w r k : Nat) (v : Int32) (b : Nat), v.toInt = k → k + r = m → r < w → b < 256 → ∃ b', b' < 256 ∧ mo_goneBits_L4 n B w (Int32.ofNat b) v = some (Int32.ofNat b') ∧ (b' = 0 ↔ b = 0 ∧ ∀ i, k ≤ i → i < m → G i = -2) := by
  intro w
  induction w with
  | zero => intro r k v b h1 h2 h3; omega
  | succ w ih =>
    intro r k v b hv h2 h3 hb
    show ∃ b', b' < 256 ∧ mo_goneBits_L4_B n B (mo_goneBits_L4 n B w) (Int32.ofNat b) v = some (Int32.ofNat b') ∧ _
    unfold mo_goneBits_L4_B
    cases r with
    | zero =>
      rw [if_neg (by rw [ltk]; omega)]
      exact ⟨b, hb, rfl, fun h => ⟨h, fun i i1 i2 => by omega⟩, fun h => h.1⟩
    | succ r =>
      rw [if_pos (by rw [ltk]; omega), if_pos (by rw [inB_iff]; omega), nxk hv, hG k (by omega), Option.bind_some]
      have s1 := inc hv (by omega)
      by_cases c : G k = -2
      · rw [if_pos c]
        obtain ⟨b', b1, b2, b3⟩ := ih r (k + 1) (v + 1) b s1 (by omega) (by omega) hb
        refine ⟨b', b1, b2, b3.trans ⟨fun h => ⟨h.1, fun i i1 i2 => ?_⟩, fun h => ⟨h.1, fun i i1 i2 => h.2 i (by omega) i2⟩⟩⟩
        rcases Nat.eq_or_lt_of_le i1 with e | e
        · rw [← e]; exact c
        · exact h.2 i e i2
      · rw [if_neg c, Option.bind_some]
        obtain ⟨o1, o2⟩ := orm b hb k (by omega)
        rw [ofk hv, o1, ← ofk hv]
        obtain ⟨b', b1, b2, b3⟩ := ih r (k + 1) (v + 1) (b ||| 2 ^ k) s1 (by omega) (by omega) o2
        have p2 : 0 < 2 ^ k := Nat.two_pow_pos k
        have nz : b ||| 2 ^ k ≠ 0 := by
          have : 2 ^ k ≤ b ||| 2 ^ k := Nat.right_le_or
          omega
        refine ⟨b', b1, b2, b3.trans ⟨fun h => absurd h.1 nz, fun h => absurd (h.2 k (Nat.le_refl _) (by omega)) c⟩⟩
theorem hcG {n : Nat} (hn : 4096 ≤ n) {X B0 : St} {br : Int32} {c : Nat} (hP : IPool X) (hB : IBnd X) (hc : c ≤ 16) (b0 : B0.1 102 0 = X.1 1 1) (b44 : (B0.1 102 44).toInt = c) (b6 : ∀ k, k < 8 → B0.1 106 k = X.1 6 k) (b2 : B0.1 109 2 = X.1 11 0) (l1 : 1 ≤ br.toInt) (l2 : ∀ i, i < mny X → br.toInt ≤ (X.1 6 i).toInt) (l3 : br.toInt = 60 ∨ ∃ i, i < mny X ∧ br = X.1 6 i) : ∀ (B : St) (g : Nat → Int32), agS B0 B → (∀ j, j < c → B.1 133 j = g j) → ∃ r B', CK n 1 B = some (r, B') ∧ (r = 0 ∨ r = 1) ∧ (r = 1 ↔ (rnS (dlG br (X.1 11 0)) g c).isSome = true) ∧ ∀ o i, o ≠ 134 → ¬ (o = 102 ∧ i = 51) → B'.1 o i = B.1 o i := by
  intro B g hag hg
  obtain ⟨m1, m2⟩ := mny_s hP
  have hu := up_rng hB
  have B44 : (B.1 102 44).toInt = c := by rw [hag _ _ (by omega) (by omega) (by omega) (by omega)]; exact b44
  have B109 : B.1 109 2 = X.1 11 0 := by rw [hag _ _ (by omega) (by omega) (by omega) (by omega)]; exact b2
  have B106 : ∀ k, k < 8 → B.1 106 k = X.1 6 k := fun k hk => by rw [hag _ _ (by omega) (by omega) (by omega) (by omega)]; exact b6 k hk
  have B0' : (B.1 102 0).toInt = mny X := by rw [hag _ _ (by omega) (by omega) (by omega) (by omega), b0]; exact m1
  -- each one's count, by the class's words
  have one : ∀ k, k < mny X → ∃ x, mo_goneAt n (B.1 106 k) B = some x ∧ (x = -2 ↔ ∀ j, j < c → ¬ X.1 6 k < (sqU g (X.1 11 0) (j + 1)).1) := by
    intro k hk
    have hb := br_rng hB (k := k) (by omega)
    have A1 : ((stI (fun o i => if o = 25 then g i else 0, fun _ _ => 0) 24 1 (Int32.ofNat c) : St).1 24 1).toInt = c := by rw [stI_self]; exact ti_ofNat (by omega)
    have A2 : ∀ i, i < c → (stI (fun o i => if o = 25 then g i else 0, fun _ _ => 0) 24 1 (Int32.ofNat c) : St).1 25 i = g i := fun i hi => by
      rw [stI_at, if_neg (by omega)]
      show (if 25 = 25 then g i else 0) = g i
      exact if_pos rfl
    obtain ⟨r, r1, r2⟩ := gone_s n (b := X.1 6 k) (up := X.1 11 0) (B := B) g (by omega) (by omega) hu A1 A2 B44 hg B109 n c 0 0 0 0 0 (by omega) (by omega) ti0 (by decide) (by decide) (by rw [ti0]; omega) (by decide) (by decide) (by rw [ti0]; omega)
    obtain ⟨x, x1, x2⟩ := fg_s n (b := X.1 6 k) (up := X.1 11 0) (by omega) A1 A2 c n 0 0 (by omega) (by omega) ti0
    have x1' : rou_firstGone_L8 n (stI (fun o i => if o = 25 then g i else 0, fun _ _ => 0) 24 1 (Int32.ofNat c)) n (X.1 6 k) (X.1 11 0) 0 0 0 = some x := x1
    rw [r1] at x1'
    injection x1' with x1'
    refine ⟨r, by rw [B106 k (by omega)]; exact r2, ?_⟩
    rw [x1']
    exact x2.trans ⟨fun h j hj => h j (Nat.zero_le _) hj, fun h j _ hj => h j hj⟩
  obtain ⟨G, hG⟩ : ∃ G : Nat → Int32, ∀ k, k < mny X → mo_goneAt n (B.1 106 k) B = some (G k) ∧ (G k = -2 ↔ ∀ j, j < c → ¬ X.1 6 k < (sqU g (X.1 11 0) (j + 1)).1) :=
    ⟨fun k => if h : k < mny X then Classical.choose (one k h) else 0, fun k hk => by
      simp only [dif_pos hk]
      exact Classical.choose_spec (one k hk)⟩
  obtain ⟨b', c1, c2, c3⟩ := gb_s n (X := X) m2 B0' (fun k hk => (hG k hk).1) n (mny X) 0 0 0 ti0 (by omega) (by omega) (by decide)
  have c2' : mo_goneBits n B = some (Int32.ofNat b') := c2
  have z : (Int32.ofNat b' = 0 ↔ b' = 0) := by
    rw [ti_eq, ti_ofNat (by omega), ti0]; omega
  obtain ⟨n1, n2⟩ := rnG (br := br) (g := g) hu c hc
  have key : (b' = 0 ↔ (rnS (dlG br (X.1 11 0)) g c).isSome = true) := by
    rw [c3]
    constructor
    · intro h
      rw [n1 (fun j hj hb => ?_)]
      · rfl
      · rcases l3 with e | ⟨i, i1, i2⟩
        · have := (sqU_r (g := g) hu (j + 1) (by omega)).1.2
          rw [ltk] at hb
          omega
        · rw [i2] at hb
          exact (hG i i1).2.mp (h.2 i (Nat.zero_le _) i1) j hj hb
    · intro h
      refine ⟨rfl, fun i _ i2 => (hG i i2).2.mpr (fun j hj hb => ?_)⟩
      rw [n2 ⟨j, hj, by rw [ltk] at hb ⊢; have := l2 i i2; omega⟩] at h
      cases h
  unfold CK
  rw [if_pos rfl, c2', Option.bind_some]
  by_cases e : b' = 0
  · rw [if_pos (z.mpr e)]
    exact ⟨1, B, rfl, Or.inr rfl, ⟨fun _ => key.mp e, fun _ => rfl⟩, fun _ _ _ _ => rfl⟩
  · rw [if_neg (fun h => e (z.mp h))]
    exact ⟨0, B, rfl, Or.inl rfl, ⟨fun h => absurd h (by decide), fun h => absurd (key.mpr h) e⟩, fun _ _ _ _ => rfl⟩
/-- the answers, alike on both sides -/
theorem ans_s {n : Nat} {c : Nat} {f : Nat → Int32} {fm to v : Int32} {dl : Nat → Int32 → Option Nat} {A' B' : St} (hc : c ≤ 16) (hv : -1 ≤ v.toInt) (a1 : A'.1 57 7 = Int32.ofNat (fF c f fm to dl c 0)) (a2 : fF c f fm to dl c 0 ≤ 10 → ∀ j, j < fF c f fm to dl c 0 → A'.1 76 j = Int32.ofNat ((sol c f fm to dl c (some 0) (fF c f fm to dl c 0)).getD j 0)) (b2 : fF c f fm to dl c 0 ≤ 10 → ∀ j, j < fF c f fm to dl c 0 → B'.1 136 j = Int32.ofNat ((sol c f fm to dl c (some 0) (fF c f fm to dl c 0)).getD j 0)) : ∃ r, few_answer v A' = some r ∧ mo_fewest_J77 n v (if fF c f fm to dl c 0 ≤ 10 then Int32.ofNat (fF c f fm to dl c 0) else 11) B' = some (r, B') := by
  have F1000 := fF_1000 c f fm to dl c 0
  have e10 : (10 : Int32).toInt = 10 := by decide
  have e11 : (11 : Int32).toInt = 11 := by decide
  generalize fF c f fm to dl c 0 = N at *
  have eN : (Int32.ofNat N).toInt = N := ti_ofNat (by omega)
  unfold few_answer mo_fewest_J77
  rw [a1]
  by_cases h : N ≤ 10
  · rw [if_pos h, if_neg (c := (10 : Int32) < Int32.ofNat N) (by rw [ltk, e10]; omega), if_neg (c := Int32.ofNat N = 11) (by rw [ti_eq, eN, e11]; omega)]
    by_cases c1 : v = -1
    · rw [if_pos c1, if_pos c1]
      exact ⟨_, rfl, rfl⟩
    · have hv0 : 0 ≤ v.toInt := by
        have : v.toInt ≠ -1 := fun e => c1 (ti_eq.mpr (by rw [e]; decide))
        omega
      rw [if_neg c1, if_neg c1, if_neg (by rw [ltk, ti0]; omega)]
      by_cases c2 : v < Int32.ofNat N
      · rw [if_pos c2, if_pos c2]
        rw [ltk, eN] at c2
        have hk : v.toInt = v.toInt.toNat := by omega
        rw [if_pos (by rw [inB_iff]; omega), if_pos (by rw [inB_iff]; omega), nxk hk, a2 h _ (by omega), b2 h _ (by omega)]
        exact ⟨_, rfl, rfl⟩
      · rw [if_neg c2, if_neg c2]
        exact ⟨_, rfl, rfl⟩
  · rw [if_neg h, if_pos (by rw [ltk, e10]; omega), if_pos rfl]
    exact ⟨_, rfl, rfl⟩
theorem op_gasps (n : Nat) (hn : 4096 ≤ n) (a v : Int32) (X : St) (hP : IPool X) (hB : IBnd X) (hs : ISh X) (hw : IWy X) : ∃ r X1, el_gasps n a v X = some (r, X1) ∧ ∀ Y, Mo X Y → ∃ Y1, mo_gasps n a v Y = some (r, Y1) := by
  obtain ⟨m1, m2⟩ := mny_s hP
  refine joinr (fun Y hY => ?_)
  unfold el_gasps mo_gasps mo_fewest
  by_cases ha : 0 ≤ a.toInt ∧ a.toInt ≤ 5
  · have hx := nx_ti ha.1
    rw [if_neg (c := mo_isShelf a = 0) (fun h => shm0.mp h ha)]
    by_cases hv : v < -1
    · rw [if_pos hv, if_pos hv]
      refine ⟨-1, X, ?_, Y, rfl⟩
      unfold el_gasps_J12
      rw [bad_s (Or.inl rfl), Option.bind_some]
      dsimp only
      rw [if_neg (by decide)]
    rw [if_neg hv, if_neg hv]
    unfold el_gasps_J12
    rcases beg_s hn (h := 1) (by decide) ha hP hs hw with ⟨c, k1, k2, k3⟩ | ⟨A, x1, x2, x3⟩
    · refine ⟨c, X, ?_, Y, ?_⟩
      · rw [k2, Option.bind_some]
        dsimp only
        rw [if_neg k1.1]
      · rw [k3 Y hY, Option.bind_some, if_pos k1.2]
        rfl
    · obtain ⟨y0, B, b1, b2⟩ := x3 Y hY
      have hc := rc_le hs (a := nx a) (by omega)
      have e16 : (16 : Int32).toInt = 16 := by decide
      have ec : (Int32.ofNat (rc X (nx a))).toInt = rc X (nx a) := rc_ti hs (by omega)
      rw [x1, Option.bind_some]
      dsimp only
      rw [if_pos rfl, y0, Option.bind_some, if_neg (c := (0 : Int32) < 0) (by decide), b1, Option.bind_some]
      unfold rou_counts
      rw [x2.2.1, b2.2.1]
      by_cases c16 : 16 < rc X (nx a)
      · rw [if_pos (by rw [ltk, e16]; omega), if_pos (by rw [ltk, e16]; omega)]
        exact ⟨_, _, rfl, _, rfl⟩
      · rw [if_neg (by rw [ltk, e16]; omega), if_neg (by rw [ltk, e16]; omega)]
        have A11 : A.1 1 1 = X.1 1 1 := x2.lo (by omega)
        obtain ⟨br, l1, l2, l3, l4, l5⟩ := lb_s n hB hP (A := A) (fun o i ho => x2.lo (by omega)) n (mny X) 0 0 60 ti0 (by omega) (by omega) (by decide) (by decide)
        have l1' : poo_leastBreath n A = some br := l1
        rw [l1', Option.bind_some, show (8 : Int32) = Int32.ofNat 8 by decide, tldw 8 (by omega) (by rw [A11]; omega), Option.bind_some, x2.lo (o := 3 + 8) (by omega)]
        have hF : Few (rc X (nx a)) (ac X (nx a)) (dlG br (X.1 (3 + 8) 0)) (fun _ => True) (stI (stI (stI A 57 3 0) 57 5 br) 57 6 (X.1 (3 + 8) 0)) := fewG (up_rng hB) (by rw [stI_at, if_neg (by omega), stI_at, if_neg (by omega), stI_at, if_neg (by omega), x2.2.1]; exact ec) (fun i hi => by rw [stI_at, if_neg (by omega), stI_at, if_neg (by omega), stI_at, if_neg (by omega)]; exact x2.2.2.1 i hi) (by rw [stI_at, if_neg (by omega), stI_at, if_neg (by omega), stI_self]) (by rw [stI_at, if_neg (by omega), stI_self]) stI_self
        obtain ⟨A', q1, q2, q3⟩ := cho_s hn (fm := 1) (to := 0) (by omega) (fun _ _ => trivial) trivial hF
        have HC := hcG hn (B0 := B) (br := br) (c := rc X (nx a)) hP hB (by omega) ((b2.lo (by omega) (by omega) (by omega)).trans hP.1) (by rw [b2.2.1]; exact ec) (fun k hk => (b2.lo (by omega) (by omega) (by omega)).trans (pl_w hP (w := 3) (by omega) hk)) ((b2.lo (by omega) (by omega) (by omega)).trans (pl_j hP (j := 2) (by omega))) l2 (fun i hi => l4 i (Nat.zero_le _) hi) (l5.elim (fun e => Or.inl (by rw [e]; decide)) (fun ⟨i, i1, i2, i3⟩ => Or.inr ⟨i, i2, i3⟩))
        obtain ⟨B', p1, p2⟩ := fws_s hn (KK := fun v6 v7 X5 => (mo_fewest_J77 n v6 v7 X5)) (fm := 1) (to := 0) (v2 := v) (f := ac X (nx a)) (by omega) (by rw [b2.2.1]; exact ec) HC 11 n 0 0 B (by omega) (by omega) ti0 (Nat.zero_le _) (fun _ _ _ _ _ _ => rfl) b2.2.2.1
        have hv1 : -1 ≤ v.toInt := by rw [ltk, ti_m1] at hv; omega
        obtain ⟨r, r1, r2⟩ := ans_s (n := n) (B' := B') (by omega) hv1 q2 q3 p2
        refine ⟨r, A', ?_, B', ?_⟩
        · unfold few_chooseGasps
          rw [q1, Option.bind_some, Option.bind_some, r1]
          rfl
        · rw [p1, r2]
          rfl
  · refine ⟨-1, X, ?_, Y, ?_⟩
    · unfold el_gasps_J12
      simp only [bad_s (Or.inr ha), Option.bind_some, show ¬ (-1 : Int32) = 0 by decide, ↓reduceIte, ite_self]
    · rw [if_pos (shm0.mpr ha)]
      rfl
