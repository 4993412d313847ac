/-! slip, routine -/
def TB (X : St) (m c : Nat) (f q l : Nat → Int32) (ld : Int32) (B : St) : Prop := (B.1 102 0).toInt = m ∧ B.1 102 44 = Int32.ofNat c ∧ (∀ i, i < c → B.1 133 i = f i) ∧ (∀ w, w < m → B.1 107 w = q w) ∧ (∀ w, w < m → B.1 108 w = l w) ∧ B.1 109 0 = ld ∧ B.1 109 1 = X.1 10 0 ∧ (∀ o k, 103 ≤ o → o ≤ 105 → B.1 o k = X.1 o k) ∧ lwM X B
theorem TB.cg {X : St} {m c : Nat} {f q l : Nat → Int32} {ld : Int32} {B B' : St} (h : TB X m c f q l ld B) (e : ∀ o i, o ≠ 121 → o ≠ 122 → o ≠ 134 → o ≠ 135 → ¬ (o = 102 ∧ 48 ≤ i) → B'.1 o i = B.1 o i) : TB X m c f q l ld B' := by
  obtain ⟨h1, h2, h3, h4, h5, h6, h7, h8, h9, h10, h11⟩ := h
  refine ⟨?_, ?_, fun i hi => ?_, fun w hw => ?_, fun w hw => ?_, ?_, ?_, fun o k o1 o2 => ?_, ?_, ?_, fun o i o1 o2 => ?_⟩
  · rw [e _ _ (by omega) (by omega) (by omega) (by omega) (by omega)]; exact h1
  · rw [e _ _ (by omega) (by omega) (by omega) (by omega) (by omega)]; exact h2
  · rw [e _ _ (by omega) (by omega) (by omega) (by omega) (by omega)]; exact h3 i hi
  · rw [e _ _ (by omega) (by omega) (by omega) (by omega) (by omega)]; exact h4 w hw
  · rw [e _ _ (by omega) (by omega) (by omega) (by omega) (by omega)]; exact h5 w hw
  · rw [e _ _ (by omega) (by omega) (by omega) (by omega) (by omega)]; exact h6
  · rw [e _ _ (by omega) (by omega) (by omega) (by omega) (by omega)]; exact h7
  · rw [e _ _ (by omega) (by omega) (by omega) (by omega) (by omega)]; exact h8 o k o1 o2
  · rw [e _ _ (by omega) (by omega) (by omega) (by omega) (by omega)]; exact h9
  · rw [e _ _ (by omega) (by omega) (by omega) (by omega) (by omega)]; exact h10
  · rw [e _ _ (by omega) (by omega) (by omega) (by omega) (by omega)]; exact h11 o i o1 o2
theorem Rdy.tc {X A : St} {a : Nat} (hP : IPool X) (h : Rdy X a A) : TC X (mny X) (rc X a) (ac X a) (fun w => X.1 7 w) (fun w => X.1 8 w) (X.1 9 0) A := by
  obtain ⟨m1, m2⟩ := mny_s hP
  exact ⟨h.mc hP, fun i j hi hj => h.2.2.2.2.2.2.2.1 i j (by omega) (by omega), h.2.2.2.2.1, h.lo (by omega), fun i => h.lo (by omega)⟩
theorem Rds.tb {X B : St} {a : Nat} (hP : IPool X) (h : Rds X a B) : TB X (mny X) (rc X a) (ac X a) (fun w => X.1 7 w) (fun w => X.1 8 w) (X.1 9 0) B := by
  obtain ⟨m1, m2⟩ := mny_s hP
  refine ⟨by rw [h.lo (by omega) (by omega) (by omega), hP.1]; exact m1, h.2.1, h.2.2.1, fun w hw => (h.lo (by omega) (by omega) (by omega)).trans (pl_w hP (w := 4) (by omega) (by omega)), fun w hw => late_M hP h hw, (h.lo (by omega) (by omega) (by omega)).trans (pl_j hP (j := 0) (by omega)), (h.lo (by omega) (by omega) (by omega)).trans (pl_j hP (j := 1) (by omega)), fun o k o1 o2 => h.lo (by omega) (by omega) (by omega), h.lo (by omega) (by omega) (by omega), h.lo (by omega) (by omega) (by omega), fun o i o1 o2 => h.lo (by omega) (by omega) (by omega)⟩
/-- the marks lost are the same on both sides -/
theorem now_s {n : Nat} (hn : 4096 ≤ n) {X : St} {M : Mk6} {m c : Nat} {f q l : Nat → Int32} {ld : Int32} {A B : St} (hP : IPool X) (hm : m ≤ 8) (hc : c ≤ 60) (hMC : MkC n X M) (hMM : MkM n X M) (hs : 1 ≤ (X.1 10 0).toInt) (hA : TC X m c f q l ld A) (hB : TB X m c f q l ld B) (h48 : B.1 102 48 = -2 ∨ (0 ≤ (B.1 102 48).toInt ∧ (B.1 102 48).toInt < m)) (hsl : ∀ t w, t < c → w < m → slC A t w = slp B t w) : ∃ V A' B', tho_lost n A = some (V, A') ∧ mo_marksNow n B = some (V, B') ∧ A'.2 = A.2 ∧ (∀ o i, ¬ tcw o i → A'.1 o i = A.1 o i) ∧ B'.2 = B.2 ∧ (∀ o k, o ≠ 121 → o ≠ 122 → o ≠ 134 → o ≠ 135 → B'.1 o k = B.1 o k) ∧ (∀ a b, a < b → b < m → A'.1 (49 + a) b = B'.1 135 (10 * a + b)) ∧ ∀ t, t ≤ c → ∀ w, w < m → B'.1 134 (8 * t + w) = itr (spS m (fun _ => q) ld f (slC A)) t w := by
  obtain ⟨A', a1, a2, a3, a4⟩ := lost_s hn hm hc hMC hs hA
  obtain ⟨D, d1, d2, d3, d4⟩ := drifts0_s hn (m := m) (c := c) (B := B) (f := f) hm hc hB.1 (by rw [hB.2.1]; exact ti_ofNat (by omega)) hB.2.2.1 h48
  have d5 : ∀ t, t ≤ c → ∀ w, w < m → D.1 134 (8 * t + w) = itr (spS m (fun _ => q) ld f (slC A)) t w := by
    intro t ht w hw
    rw [d4 t ht w hw, hB.2.2.2.2.2.1]
    refine itr_eq (T := c) (fun t ht d e hd w hw => ?_) t ht w hw
    unfold spS
    rw [hsl t w ht hw]
    have : stp m (fun w => B.1 107 w) ld (f t) d w = stp m q ld (f t) e w := by
      unfold stp
      by_cases c1 : f t = 4 ∧ (0 ≤ ld.toInt ∧ ld.toInt < m)
      · have := nx_ti c1.2.1
        rw [if_pos c1, if_pos c1, hd _ (by omega), ← hB.2.2.2.1 _ (by omega)]
      · rw [if_neg c1, if_neg c1, hd w hw, ← hB.2.2.2.1 w hw]
    rw [this]
  have hD : TM X m c f l (itr (spS m (fun _ => q) ld f (slC A))) D := ⟨by rw [d3 _ _ (by omega)]; exact hB.1, by rw [d3 _ _ (by omega), hB.2.1]; exact ti_ofNat (by omega), fun i hi => by rw [d3 _ _ (by omega)]; exact hB.2.2.1 i hi, fun w hw => by rw [d3 _ _ (by omega)]; exact hB.2.2.2.2.1 w hw, d5, by rw [d3 _ _ (by omega)]; exact hB.2.2.2.2.2.2.1, fun o k o1 o2 => by rw [d3 _ _ (by omega)]; exact hB.2.2.2.2.2.2.2.1 o k o1 o2, by rw [d3 _ _ (by omega)]; exact hB.2.2.2.2.2.2.2.2.1, by rw [d3 _ _ (by omega)]; exact hB.2.2.2.2.2.2.2.2.2.1, fun o i o1 o2 => by rw [d3 _ _ (by omega)]; exact hB.2.2.2.2.2.2.2.2.2.2 o i o1 o2⟩
  obtain ⟨B', b1, b2, b3, b4⟩ := mm_s hn hP hm hc hMM hs hD
  refine ⟨_, A', B', a1, ?_, a2, a3, b2.trans d2, fun o k o1 o2 o3 o4 => (b3 o k o1 o2 o4).trans (d3 o k o3), fun a b h1 h2 => ?_, fun t ht w hw => (b3 _ _ (by omega) (by omega) (by omega)).trans (d5 t ht w hw)⟩
  · unfold mo_marksNow
    rw [d1, Option.bind_some, b1]
    rfl
  · rw [a4 a b h1 h2, b4 a b h1 h2]
theorem slC0 {A : St} (h : A.1 26 12 = -1) {c : Nat} (hc : c ≤ 60) : ∀ t w, t < c → slC A t w = 0 := by
  intro t w ht
  unfold slC
  rw [if_neg (fun e => by
    have := congrArg Int32.toInt (e.1.symm.trans h)
    rw [ti_ofNat (by omega), ti_m1] at this
    omega)]
theorem op_slip (n : Nat) (hn : 4096 ≤ n) (a v u : Int32) (X : St) (hP : IPool X) (hB : IBnd X) (hs : ISh X) (hw : IWy X) (hp : ISlp X) (hL : ILaw X) : ∃ r X1, el_slip n a v u X = some (r, X1) ∧ ∀ Y, Mo X Y → ∃ Y1, mo_slip n a v u Y = some (r, Y1) ∧ Y1.1 102 48 = -2 := by
  obtain ⟨m1, m2⟩ := mny_s hP
  refine joinr (fun Y hY => ?_)
  have e59 : (59 : Int32).toInt = 59 := by decide
  have e60 : (60 : Int32).toInt = 60 := by decide
  have e99 : (99 : Int32).toInt = 99 := by decide
  have em99 : (-99 : Int32).toInt = -99 := by decide
  have y48 : Y.1 102 48 = -2 := (hY.2 _ _ (by omega)).trans hp
  have badC : el_slip_J44 n a v u 0 X = some (-1, X) := by
    unfold el_slip_J44
    rw [bad_s (Or.inl rfl), Option.bind_some]
    dsimp only
    rw [if_neg (by decide)]
  unfold el_slip mo_slip
  by_cases ha : 0 ≤ a.toInt ∧ a.toInt ≤ 5
  · have hx := nx_ti ha.1
    rw [if_neg (c := mo_isShelf a = 0) (fun h => shm0.mp h ha), badC]
    by_cases c1 : v < 0
    · rw [if_pos c1, if_pos c1]
      exact ⟨_, _, rfl, _, rfl, y48⟩
    rw [if_neg c1, if_neg c1]
    by_cases c2 : 0 ≤ (v / 100).toInt ∧ (v / 100).toInt < (X.1 1 1).toInt
    · rw [if_neg (c := poo_has (v / 100) X = 0) (fun h => has_s.mp h c2), if_neg (c := mo_isOne (v / 100) Y = 0) (fun h => (one_s hP hY).mp h c2)]
      by_cases c3 : (irm v 100).toInt ≤ 59
      · rw [if_pos (by rw [ltk, e60]; omega), if_neg (c := 59 < irm v 100) (by rw [ltk, e59]; omega)]
        by_cases c4 : -99 ≤ u.toInt ∧ u.toInt ≤ 99
        · rw [if_neg (c := u < -99) (by rw [ltk, em99]; omega), if_neg (c := 99 < u) (by rw [ltk, e99]; omega), if_neg (c := mo_within u (-99) 99 = 0) (fun h => by have := within0.mp h; rw [em99, e99] at this; omega)]
          unfold el_slip_J44
          rcases beg_s hn (h := 1) (by decide) ha hP hs hw with ⟨c, k1, k2, k3⟩ | ⟨A, x1, x2, x3⟩
          · refine ⟨c, X, ?_, Y, ?_, y48⟩
            · rw [k2, Option.bind_some]
              dsimp only
              rw [if_neg k1.1]
            · rw [k3 Y hY, Option.bind_some, if_pos k1.2]
          · obtain ⟨y0, B, b1, b2⟩ := x3 Y hY
            obtain ⟨M, hMC, hMM⟩ := marks_ex hn hL
            have hc := rc_le hs (a := nx a) (by omega)
            have hA : TC X (mny X) (rc X (nx a)) (ac X (nx a)) (fun w => X.1 7 w) (fun w => X.1 8 w) (X.1 9 0) (stI (stI (stI A 26 11 (v / 100)) 26 12 (irm v 100)) 26 13 u) := by
              have t := x2.tc hP
              obtain ⟨⟨h1, h2, h3, h4, h5, h6⟩, h7, h8, h9, h10⟩ := t
              have g : ∀ o i, o ≠ 26 → (stI (stI (stI A 26 11 (v / 100)) 26 12 (irm v 100)) 26 13 u).1 o i = A.1 o i := fun o i ho => by rw [stI_at, if_neg (by omega), stI_at, if_neg (by omega), stI_at, if_neg (by omega)]
              have g2 : ∀ i, i < 11 → (stI (stI (stI A 26 11 (v / 100)) 26 12 (irm v 100)) 26 13 u).1 26 i = A.1 26 i := fun i hi => by rw [stI_at, if_neg (by omega), stI_at, if_neg (by omega), stI_at, if_neg (by omega)]
              exact ⟨⟨by rw [g _ _ (by omega)]; exact h1, by rw [g _ _ (by omega)]; exact h2, fun i hi => by rw [g _ _ (by omega)]; exact h3 i hi, fun i hi => by rw [g _ _ (by omega)]; exact h4 i hi, fun i hi => by rw [g _ _ (by omega)]; exact h5 i hi, by rw [g2 _ (by omega)]; exact h6⟩, fun i j hi hj => ⟨by rw [g _ _ (by omega)]; exact (h7 i j hi hj).1, by rw [g _ _ (by omega)]; exact (h7 i j hi hj).2⟩, by rw [g2 _ (by omega)]; exact h8, by rw [g _ _ (by omega)]; exact h9, fun i => by rw [g _ _ (by omega)]; exact h10 i⟩
            have hB' : TB X (mny X) (rc X (nx a)) (ac X (nx a)) (fun w => X.1 7 w) (fun w => X.1 8 w) (X.1 9 0) (stI (stI (stI B 102 48 (v / 100)) 102 49 (irm v 100)) 102 50 u) := (b2.tb hP).cg (fun o i o1 o2 o3 o4 o5 => by rw [stI_at, if_neg (by omega), stI_at, if_neg (by omega), stI_at, if_neg (by omega)])
            obtain ⟨V, A', B', r1, r2, -, -, -, -, -, -⟩ := now_s hn hP m2 hc hMC hMM (seen_rng hB).1 hA hB' (Or.inr (by rw [stI_at, if_neg (by omega), stI_at, if_neg (by omega), stI_self]; omega)) (fun t w ht hw => by
              unfold slC slp
              have i1 : (stI (stI (stI A 26 11 (v / 100)) 26 12 (irm v 100)) 26 13 u).1 26 12 = irm v 100 := by rw [stI_at, if_neg (by omega), stI_self]
              have i2 : (stI (stI (stI A 26 11 (v / 100)) 26 12 (irm v 100)) 26 13 u).1 26 11 = v / 100 := by rw [stI_at, if_neg (by omega), stI_at, if_neg (by omega), stI_self]
              have i3 : (stI (stI (stI A 26 11 (v / 100)) 26 12 (irm v 100)) 26 13 u).1 26 13 = u := stI_self
              have j1 : (stI (stI (stI B 102 48 (v / 100)) 102 49 (irm v 100)) 102 50 u).1 102 49 = irm v 100 := by rw [stI_at, if_neg (by omega), stI_self]
              have j2 : (stI (stI (stI B 102 48 (v / 100)) 102 49 (irm v 100)) 102 50 u).1 102 48 = v / 100 := by rw [stI_at, if_neg (by omega), stI_at, if_neg (by omega), stI_self]
              have j3 : (stI (stI (stI B 102 48 (v / 100)) 102 49 (irm v 100)) 102 50 u).1 102 50 = u := stI_self
              rw [i1, i2, i3, j1, j2, j3]
              by_cases q : irm v 100 = Int32.ofNat t ∧ v / 100 = Int32.ofNat w
              · rw [if_pos q, if_pos q.symm]
              · rw [if_neg q, if_neg (fun z => q z.symm)])
            refine ⟨V, A', ?_, stI B' 102 48 (-2), ?_, stI_self⟩
            · rw [x1, Option.bind_some]
              dsimp only
              rw [if_pos rfl]
              unfold tho_slipAt
              rw [Option.bind_some, r1]
              rfl
            · rw [y0, Option.bind_some, if_neg (by decide), b1, Option.bind_some, Option.bind_some, r2]
              rfl
        · rw [if_pos (c := mo_within u (-99) 99 = 0) (within0.mpr (by rw [em99, e99]; omega))]
          refine ⟨-1, X, ?_, Y, rfl, y48⟩
          by_cases c5 : u < -99
          · rw [if_pos c5]
          · rw [if_neg c5, if_pos (by rw [ltk, e99]; rw [ltk, em99] at c5; omega)]
      · rw [if_neg (by rw [ltk, e60]; omega), if_pos (c := 59 < irm v 100) (by rw [ltk, e59]; omega)]
        exact ⟨_, _, rfl, _, rfl, y48⟩
    · rw [if_pos (c := poo_has (v / 100) X = 0) (has_s.mpr c2), if_pos (c := mo_isOne (v / 100) Y = 0) ((one_s hP hY).mpr c2)]
      exact ⟨_, _, rfl, _, rfl, y48⟩
  · refine ⟨-1, X, ?_, Y, ?_, y48⟩
    · unfold el_slip_J44
      simp only [bad_s (Or.inr ha), Option.bind_some, show ¬ (-1 : Int32) = 0 by decide, ↓reduceIte, ite_self]
    · rw [if_pos (shm0.mpr ha)]
theorem wid1 {n m : Nat} (hn : 4096 ≤ n) {A : St} (h : (A.1 1 1).toInt = m) (hm : m ≤ 1) : tho_widest n A = some 0 := by
  obtain ⟨N, rfl⟩ : ∃ N, n = N + 2 := ⟨n - 2, by omega⟩
  unfold tho_widest
  show tho_widest_L4_B (N + 2) A (tho_widest_L4 (N + 2) A (N + 1)) 0 0 = _
  unfold tho_widest_L4_B poo_many
  by_cases c : (0 : Int32) < A.1 1 1
  · rw [if_pos c]
    show tho_widest_L19_B (N + 2) A _ (tho_widest_L19 (N + 2) A _ (N + 1)) 0 0 (0 + 1) = _
    unfold tho_widest_L19_B poo_many
    have e : ¬ (0 + 1 : Int32) < A.1 1 1 := by rw [ltk, show (0 + 1 : Int32).toInt = 1 by decide]; omega
    rw [if_neg e]
    show tho_widest_L4_B (N + 2) A (tho_widest_L4 (N + 2) A N) 0 (0 + 1) = _
    unfold tho_widest_L4_B poo_many
    rw [if_neg e]
  · rw [if_neg c]
/-- when they are first seen apart -/
theorem fs_s (n : Nat) (hn : 4096 ≤ n) {m c : Nat} {f q l : Nat → Int32} {ld sn : Int32} {B : St} (hm : m ≤ 8) (hc : c ≤ 60) (hB : MM m c f q l ld B) (hB4 : ∀ t, t ≤ c → ∀ w, w < m → B.1 134 (8 * t + w) = itr (sp0 m q ld f) t w) (hsn : B.1 109 1 = sn) (hs1 : 1 ≤ sn.toInt) : ∀ (w j k : Nat) (u : Int32) (A : St), u.toInt = k → k + j = c → j < w → MC m c f q l ld A → A.1 26 10 = sn → (∀ i, i < m → A.1 27 i = itr (sp0 m q ld f) k i) → ∃ r A', tho_firstSeen_L6 n w u A = some (r, A') ∧ mo_firstApart_L2 n B w u = some r := by
  intro w
  induction w with
  | zero => intro j k u A h1 h2 h3; omega
  | succ w ih =>
    intro j k u A h1 h2 h3 h4 h4' h5
    show ∃ r A', tho_firstSeen_L6_B n (tho_firstSeen_L6 n w) u A = some (r, A') ∧ mo_firstApart_L2_B n B (mo_firstApart_L2 n B w) u = some r
    unfold tho_firstSeen_L6_B mo_firstApart_L2_B rou_counts
    have e24 : (A.1 24 1).toInt = c := by rw [h4.2.1]; exact ti_ofNat (by omega)
    have e44 : (B.1 102 44).toInt = c := by rw [hB.2.1]; exact ti_ofNat (by omega)
    cases j with
    | zero =>
      have q1 : ¬ u < A.1 24 1 := by rw [ltk]; omega
      have q2 : ¬ u < B.1 102 44 := by rw [ltk]; omega
      simp only [if_neg q1, if_neg q2]
      exact ⟨_, A, rfl, rfl⟩
    | succ j =>
      have q1 : u < A.1 24 1 := by rw [ltk]; omega
      have q2 : u < B.1 102 44 := by rw [ltk]; omega
      obtain ⟨Y, y1, y2, y3, y4⟩ := stepg hn hm h4 h5
      have hY := h4.cg y3
      have s1 := inc h1 (by omega)
      have act : rou_actAt u A = some (f k) := by rw [actAt_s e24 hc h1 (by omega), h4.2.2.1 k (by omega)]
      have y10 : Y.1 26 10 = sn := (y3 _ _ (by omega)).trans h4'
      have fin := ih j (k + 1) (u + 1) Y s1 (by omega) (by omega) hY y10 y4
      have b0 := hB.1
      rw [if_pos q1, if_pos q2, act, Option.bind_some, y1, Option.bind_some, show nx (1 : Int32) = 1 by decide, hsn]
      by_cases c1 : (1 : Int32) < B.1 102 0
      · obtain ⟨g1, g2⟩ := betg (t := k + 1) (p := u + 1) hm s1 (by omega) hY hB y4 (hB4 (k + 1) (by omega))
        obtain ⟨⟨gr, gA, gB⟩, -⟩ := far_s hn hm hY.1 hB.1 g1 g2
        rw [if_pos c1, gA, gB, Option.bind_some, Option.bind_some, y10]
        by_cases c2 : gr < sn
        · rw [if_pos c2, if_pos c2]
          exact fin
        · rw [if_neg c2, if_neg c2]
          exact ⟨u, Y, rfl, rfl⟩
      · rw [ltk, ti1] at c1
        rw [if_neg (by rw [ltk, ti1]; exact c1), wid1 hn hY.1 (by omega), Option.bind_some, y10, if_pos (by rw [ltk, ti0]; omega)]
        exact fin
theorem wt1_s (n : Nat) {m i : Nat} {A B : St} {K1 : Int32 → Int32 → Int32 → St → Option (Int32 × St)} {K2 : Int32 → Int32 → Int32 → Option Int32} (hm : m ≤ 8) (a1 : (A.1 1 1).toInt = m) (b1 : (B.1 102 0).toInt = m) (hAB : ∀ a b, a < b → b < m → A.1 (49 + a) b = B.1 135 (10 * a + b)) {v : Int32} (hv : v.toInt = i) (hi : i < m) : ∀ (w r j : Nat) (u bs cd : Int32), u.toInt = j → j + r = m → r < w → i < j → ∃ bs' cd', tho_worstTwo_L28 n K1 w bs cd v u A = K1 bs' cd' v A ∧ mo_losers_L20 n B K2 w cd bs v u = K2 cd' bs' v := by
  intro w
  induction w with
  | zero => intro r j u bs cd h1 h2 h3; omega
  | succ w ih =>
    intro r j u bs cd h1 h2 h3 h4
    show ∃ bs' cd', tho_worstTwo_L28_B n K1 (tho_worstTwo_L28 n K1 w) bs cd v u A = K1 bs' cd' v A ∧ mo_losers_L20_B n B K2 (mo_losers_L20 n B K2 w) cd bs v u = K2 cd' bs' v
    unfold tho_worstTwo_L28_B mo_losers_L20_B poo_many
    cases r with
    | zero =>
      have q1 : ¬ u < A.1 1 1 := by rw [ltk]; omega
      have q2 : ¬ u < B.1 102 0 := by rw [ltk]; omega
      simp only [if_neg q1, if_neg q2]
      exact ⟨bs, cd, rfl, rfl⟩
    | succ r =>
      have q1 : u < A.1 1 1 := by rw [ltk]; omega
      have q2 : u < B.1 102 0 := by rw [ltk]; omega
      have ix := ix10 hv h1 (by omega) (by omega)
      have ibx : inB (((10 : Int32) * v) + u) 80 = true := by rw [inB_iff]; omega
      have ib : inB v 8 = true := by rw [inB_iff]; omega
      have ol := okI_los (w := i) (j := u) (by omega) (by omega) (by omega)
      have e := hAB i j h4 (by omega)
      have s1 := inc h1 (by omega)
      simp only [if_pos q1, if_pos q2, if_pos ib, if_pos ibx, nxk hv, nxk h1, nxk ix, ol, ↓reduceIte, e, Option.bind_some]
      by_cases c1 : bs < B.1 135 (10 * i + j)
      · simp only [if_pos c1]
        exact ih r (j + 1) (u + 1) _ _ s1 (by omega) (by omega) (by omega)
      · simp only [if_neg c1]
        exact ih r (j + 1) (u + 1) _ _ s1 (by omega) (by omega) (by omega)
theorem wt2_s (n : Nat) (hn : 4096 ≤ n) {m : Nat} {A B : St} (hm : m ≤ 8) (a1 : (A.1 1 1).toInt = m) (b1 : (B.1 102 0).toInt = m) (hAB : ∀ a b, a < b → b < m → A.1 (49 + a) b = B.1 135 (10 * a + b)) : ∀ (w r i : Nat) (v bs cd : Int32), v.toInt = i → i + r = m → r < w → ∃ c, tho_worstTwo_L12 n w bs cd v A = some (c, A) ∧ mo_losers_L7 n B w cd bs v = some c := by
  intro w
  induction w with
  | zero => intro r i v bs cd h1 h2 h3; omega
  | succ w ih =>
    intro r i v bs cd h1 h2 h3
    show ∃ c, tho_worstTwo_L12_B n (tho_worstTwo_L12 n w) bs cd v A = some (c, A) ∧ mo_losers_L7_B n B (mo_losers_L7 n B w) cd bs v = some c
    unfold tho_worstTwo_L12_B mo_losers_L7_B poo_many
    cases r with
    | zero =>
      have q1 : ¬ v < A.1 1 1 := by rw [ltk]; omega
      have q2 : ¬ v < B.1 102 0 := by rw [ltk]; omega
      simp only [if_neg q1, if_neg q2]
      exact ⟨cd, rfl, rfl⟩
    | succ r =>
      have q1 : v < A.1 1 1 := by rw [ltk]; omega
      have q2 : v < B.1 102 0 := by rw [ltk]; omega
      have s1 := inc h1 (by omega)
      obtain ⟨bs', cd', r1, r2⟩ := wt1_s n (K1 := fun v4 v5 v6 X3 => tho_worstTwo_L12 n w v4 v5 (v6 + 1) X3) (K2 := fun v2 v3 v4 => mo_losers_L7 n B w v2 v3 (v4 + 1)) hm a1 b1 hAB h1 (by omega) n (m - (i + 1)) (i + 1) (v + 1) bs cd s1 (by omega) (by omega) (Nat.lt_succ_self _)
      simp only [if_pos q1, if_pos q2]
      rw [r1, r2]
      exact ih r (i + 1) (v + 1) bs' cd' s1 (by omega) (by omega)
theorem op_routine (n : Nat) (hn : 4096 ≤ n) (a v : Int32) (X : St) (hP : IPool X) (hB : IBnd X) (hs : ISh X) (hw : IWy X) (hp : ISlp X) (hL : ILaw X) : ∃ r X1, el_routine n a v X = some (r, X1) ∧ ∀ Y, Mo X Y → ∃ Y1, mo_routine n a v Y = some (r, Y1) := by
  obtain ⟨m1, m2⟩ := mny_s hP
  refine joinr (fun Y hY => ?_)
  have e3 : (3 : Int32).toInt = 3 := by decide
  have badC : el_routine_J16 n v 0 a X = some (-1, X) := by
    unfold el_routine_J16
    rw [bad_s (Or.inl rfl), Option.bind_some]
    dsimp only
    rw [if_neg (by decide)]
  unfold el_routine mo_routine
  by_cases ha : 0 ≤ a.toInt ∧ a.toInt ≤ 5
  · have hx := nx_ti ha.1
    rw [if_neg (c := mo_isShelf a = 0) (fun h => shm0.mp h ha), badC]
    by_cases hv : 0 ≤ v.toInt ∧ v.toInt ≤ 3
    · rw [if_neg (c := v < 0) (by rw [ltk, ti0]; omega), if_neg (c := 3 < v) (by rw [ltk, e3]; omega), if_neg (c := mo_within v 0 3 = 0) (fun h => by have := within0.mp h; rw [ti0, e3] at this; omega)]
      unfold el_routine_J16
      rcases beg_s hn (h := 1) (by decide) ha hP hs hw with ⟨c, k1, k2, k3⟩ | ⟨A, x1, x2, x3⟩
      · refine ⟨c, X, ?_, Y, ?_⟩
        · rw [k2, Option.bind_some]
          dsimp only
          rw [if_neg k1.1]
        · rw [k3 Y hY, Option.bind_some, if_pos k1.2]
      · obtain ⟨y0, B, b1, b2⟩ := x3 Y hY
        obtain ⟨M, hMC, hMM⟩ := marks_ex hn hL
        have hc := rc_le hs (a := nx a) (by omega)
        have h48 : B.1 102 48 = -2 := (b2.lo (by omega) (by omega) (by omega)).trans hp
        obtain ⟨V, A', B', r1, r2, r3, r4, r5, r6, r7, r8⟩ := now_s hn hP m2 hc hMC hMM (seen_rng hB).1 (x2.tc hP) (b2.tb hP) (Or.inl h48) (fun t w ht hw => by
          rw [slC0 x2.2.2.2.2.2.1 hc t w ht, slp0 (m := 8) h48 t w (by omega)])
        rw [x1, Option.bind_some]
        dsimp only
        rw [if_pos rfl, y0, Option.bind_some, if_neg (c := (0 : Int32) < 0) (by decide), b1, Option.bind_some, r2, Option.bind_some]
        dsimp only
        have e44 : B'.1 102 44 = A.1 24 1 := by rw [r6 _ _ (by omega) (by omega) (by omega) (by omega), b2.2.1, x2.2.1]
        by_cases c0 : v = 0
        · rw [if_pos c0, if_pos c0]
          refine ⟨_, A, rfl, B', ?_⟩
          rw [e44]
          rfl
        rw [if_neg c0, if_neg c0]
        by_cases c1 : v = 1
        · rw [if_pos c1, if_pos c1, r1]
          exact ⟨V, A', rfl, B', rfl⟩
        rw [if_neg c1, if_neg c1]
        by_cases c2 : v = 2
        · rw [if_pos c2, if_pos c2]
          obtain ⟨Z, z1, z2, z3, z4⟩ := still_s hn A
          have hB' : MM (mny X) (rc X (nx a)) (ac X (nx a)) (fun w => X.1 7 w) (fun w => X.1 8 w) (X.1 9 0) B' := by
            obtain ⟨h1, h2, h3, h4, h5, h6, h7⟩ := b2.mm hP hp
            exact ⟨by rw [r6 _ _ (by omega) (by omega) (by omega) (by omega)]; exact h1, by rw [r6 _ _ (by omega) (by omega) (by omega) (by omega)]; exact h2, fun i hi => by rw [r6 _ _ (by omega) (by omega) (by omega) (by omega)]; exact h3 i hi, fun i hi => by rw [r6 _ _ (by omega) (by omega) (by omega) (by omega)]; exact h4 i hi, fun i hi => by rw [r6 _ _ (by omega) (by omega) (by omega) (by omega)]; exact h5 i hi, by rw [r6 _ _ (by omega) (by omega) (by omega) (by omega)]; exact h6, by rw [r6 _ _ (by omega) (by omega) (by omega) (by omega)]; exact h7⟩
          have hB4 : ∀ t, t ≤ rc X (nx a) → ∀ w, w < mny X → B'.1 134 (8 * t + w) = itr (sp0 (mny X) (fun w => X.1 7 w) (X.1 9 0) (ac X (nx a))) t w := by
            intro t ht w hw
            rw [r8 t ht w hw]
            refine itr_eq (T := rc X (nx a)) (fun t ht d e hd w hw => ?_) t ht w hw
            unfold spS sp0
            rw [slC0 x2.2.2.2.2.2.1 hc t w ht, Int32.add_zero]
            exact stp_cg hd w hw
          obtain ⟨r, A2, s1, s2⟩ := fs_s n hn (sn := X.1 10 0) m2 hc hB' hB4 ((r6 _ _ (by omega) (by omega) (by omega) (by omega)).trans ((b2.lo (by omega) (by omega) (by omega)).trans (pl_j hP (j := 1) (by omega)))) (seen_rng hB).1 n (rc X (nx a)) 0 0 Z ti0 (by omega) (by omega) ((x2.mc hP).cg z3) ((z3 _ _ (by omega)).trans x2.2.2.2.2.1) (fun i hi => z4 i (by omega))
          refine ⟨r, A2, ?_, B', ?_⟩
          · unfold tho_firstSeen
            rw [z1, Option.bind_some, s1]
            rfl
          · have s2' : mo_firstApart n B' = some r := s2
            rw [s2']
            rfl
        · rw [if_neg c2, if_neg c2]
          obtain ⟨cc, s1, s2⟩ := wt2_s n hn (A := A') (B := B') m2 (by rw [r4 _ _ (by unfold tcw; omega), x2.lo (by omega)]; exact m1) (by rw [r6 _ _ (by omega) (by omega) (by omega) (by omega), b2.lo (by omega) (by omega) (by omega), hP.1]; exact m1) r7 n (mny X) 0 0 0 (-2) ti0 (by omega) (by omega)
          refine ⟨cc, A', ?_, B', ?_⟩
          · unfold tho_worstTwo
            rw [r1, Option.bind_some]
            dsimp only
            rw [s1]
            rfl
          · have s2' : mo_losers n B' = some cc := s2
            rw [s2']
            rfl
    · rw [if_pos (c := mo_within v 0 3 = 0) (within0.mpr (by rw [ti0, e3]; omega))]
      refine ⟨-1, X, ?_, Y, rfl⟩
      by_cases c1 : v < 0
      · rw [if_pos c1]
      · rw [if_neg c1, if_pos (by rw [ltk, e3]; rw [ltk, ti0] at c1; omega)]
  · refine ⟨-1, X, ?_, Y, ?_⟩
    · unfold el_routine_J16
      simp only [bad_s (Or.inr ha), Option.bind_some, show ¬ (-1 : Int32) = 0 by decide, ↓reduceIte, ite_self]
    · rw [if_pos (shm0.mpr ha)]
