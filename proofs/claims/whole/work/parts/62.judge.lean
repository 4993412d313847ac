/-! what the judges saw -/
/-- the class thinks of m swimmers, c counts -/
def MC (m c : Nat) (f q l : Nat → Int32) (ld : Int32) (A : St) : Prop := (A.1 1 1).toInt = m ∧ A.1 24 1 = Int32.ofNat c ∧ (∀ i, i < c → A.1 25 i = f i) ∧ (∀ w, w < m → A.1 28 w = q w) ∧ (∀ w, w < m → A.1 29 w = l w) ∧ A.1 26 9 = ld
/-- the model does -/
def MM (m c : Nat) (f q l : Nat → Int32) (ld : Int32) (B : St) : Prop := (B.1 102 0).toInt = m ∧ B.1 102 44 = Int32.ofNat c ∧ (∀ i, i < c → B.1 133 i = f i) ∧ (∀ w, w < m → B.1 107 w = q w) ∧ (∀ w, w < m → B.1 108 w = l w) ∧ B.1 109 0 = ld ∧ B.1 102 48 = -2
theorem MC.cg {m c : Nat} {f q l : Nat → Int32} {ld : Int32} {A A' : St} (h : MC m c f q l ld A) (e : ∀ o i, o ≠ 27 → A'.1 o i = A.1 o i) : MC m c f q l ld A' := by
  obtain ⟨h1, h2, h3, h4, h5, h6⟩ := h
  exact ⟨by rw [e _ _ (by omega)]; exact h1, by rw [e _ _ (by omega)]; exact h2, fun i hi => by rw [e _ _ (by omega)]; exact h3 i hi, fun i hi => by rw [e _ _ (by omega)]; exact h4 i hi, fun i hi => by rw [e _ _ (by omega)]; exact h5 i hi, by rw [e _ _ (by omega)]; exact h6⟩
theorem MM.cg {m c : Nat} {f q l : Nat → Int32} {ld : Int32} {A A' : St} (h : MM m c f q l ld A) (e : ∀ o i, o ≠ 134 → A'.1 o i = A.1 o i) : MM m c f q l ld A' := by
  obtain ⟨h1, h2, h3, h4, h5, h6, h7⟩ := h
  exact ⟨by rw [e _ _ (by omega)]; exact h1, by rw [e _ _ (by omega)]; exact h2, fun i hi => by rw [e _ _ (by omega)]; exact h3 i hi, fun i hi => by rw [e _ _ (by omega)]; exact h4 i hi, fun i hi => by rw [e _ _ (by omega)]; exact h5 i hi, by rw [e _ _ (by omega)]; exact h6, by rw [e _ _ (by omega)]; exact h7⟩
/-- the class's and the model's distances, after t counts -/
theorem betg {m c t : Nat} {f q l : Nat → Int32} {ld p : Int32} {Z D : St} (hm : m ≤ 8) (hp : p.toInt = t) (ht : t ≤ 60) (hZ : MC m c f q l ld Z) (hD : MM m c f q l ld D) (z4 : ∀ i, i < m → Z.1 27 i = itr (sp0 m q ld f) t i) (d4 : ∀ w, w < m → D.1 134 (8 * t + w) = itr (sp0 m q ld f) t w) : bet (fun v u => tho_between v u Z) m (ap (itr (sp0 m q ld f) t) l) ∧ bet (fun v u => mo_apartOf v u p D) m (ap (itr (sp0 m q ld f) t) l) := by
  refine ⟨fun v u i j h1 h2 h3 h4 => ?_, fun v u i j h1 h2 h3 h4 => ?_⟩
  · show tho_between v u Z = _
    have := hZ.1
    rw [betC h1 (by omega) h2 (by omega) (by omega)]
    exact congrArg some (ap_cg (m := m) z4 hZ.2.2.2.2.1 h3 h4)
  · show mo_apartOf v u p D = _
    rw [aptM h1 (by omega) h2 (by omega) hp ht]
    exact congrArg some (ap_cg (m := m) d4 hD.2.2.2.2.1 h3 h4)
theorem stepg {n : Nat} (hn : 4096 ≤ n) {m c t : Nat} {f q l : Nat → Int32} {ld : Int32} {Z : St} (hm : m ≤ 8) (hZ : MC m c f q l ld Z) (z4 : ∀ i, i < m → Z.1 27 i = itr (sp0 m q ld f) t i) : ∃ Y, tho_step n (f t) Z = some Y ∧ Y.2 = Z.2 ∧ (∀ o i, o ≠ 27 → Y.1 o i = Z.1 o i) ∧ ∀ i, i < m → Y.1 27 i = itr (sp0 m q ld f) (t + 1) i := by
  obtain ⟨Y, y1, y2, y3, y4⟩ := step_s (c := f t) hn hm hZ.1
  refine ⟨Y, y1, y2, y3, fun i hi => ?_⟩
  rw [y4 i hi, hZ.2.2.2.2.2]
  show _ = stp m q ld (f t) (itr (sp0 m q ld f) t) i
  unfold stp
  by_cases c1 : f t = 4 ∧ (0 ≤ ld.toInt ∧ ld.toInt < m)
  · have := nx_ti c1.2.1
    rw [if_pos c1, if_pos c1, ← z4 _ (by omega), ← hZ.2.2.2.1 _ (by omega)]
  · rw [if_neg c1, if_neg c1, ← z4 i hi, ← hZ.2.2.2.1 i hi]
theorem driftg {n : Nat} (hn : 4096 ≤ n) {m c : Nat} {f q l : Nat → Int32} {ld : Int32} {B : St} (hm : m ≤ 8) (hc : c ≤ 60) (hB : MM m c f q l ld B) : ∃ Y, mo_drifts n 0 B = some Y ∧ Y.2 = B.2 ∧ (∀ o i, o ≠ 134 → Y.1 o i = B.1 o i) ∧ ∀ t, t ≤ c → ∀ w, w < m → Y.1 134 (8 * t + w) = itr (sp0 m q ld f) t w := by
  obtain ⟨h1, h2, h3, h4, h5, h6, h7⟩ := hB
  obtain ⟨Y, y1, y2, y3, y4⟩ := drifts0_s hn (m := m) (c := c) (B := B) (f := f) hm hc h1 (by rw [h2]; exact ti_ofNat (by omega)) h3 (Or.inl h7)
  refine ⟨Y, y1, y2, y3, fun t ht w hw => ?_⟩
  rw [y4 t ht w hw, h6]
  exact spS_0 (T := c) hm h7 h4 t ht w hw
/-- a row of ripples, on both sides -/
def rowE (b : Nat) (A B : St) : Prop := B.1 131 b = A.1 94 b ∧ 0 ≤ (A.1 94 b).toInt ∧ (A.1 94 b).toInt ≤ 60 ∧ ∀ i, i < 60 → B.2 132 (60 * b + i) = A.2 (96 + b) i
theorem lgc0 {x y : Int64} : lg_cmp x y = 0 ↔ x = y := by
  unfold lg_cmp
  by_cases h1 : x > y
  · rw [if_pos h1]
    have h2 := Int64.lt_iff_toInt_lt.mp h1
    exact ⟨fun h => absurd h (by decide), fun h => by rw [h] at h2; omega⟩
  · rw [if_neg h1]
    by_cases h2 : x = y
    · rw [if_pos h2]; exact ⟨fun _ => h2, fun _ => rfl⟩
    · rw [if_neg h2]; exact ⟨fun h => absurd h (by decide), fun h => absurd h h2⟩
theorem jl_s (n : Nat) (hn : 4096 ≤ n) {m c b : Nat} {f q l : Nat → Int32} {ld v z : Int32} {B0 : St} {g : Nat → Int64} (hm : m ≤ 8) (hc : c ≤ 60) (hb : b < 6) (hv : (irm v 10).toInt = b) (hB : MM m c f q l ld B0) (hB4 : ∀ t, t ≤ c → ∀ w, w < m → B0.1 134 (8 * t + w) = itr (sp0 m q ld f) t w) (hz : B0.1 131 b = z) (z0 : 0 ≤ z.toInt ∧ z.toInt ≤ 60) (hB2 : ∀ i, i < 60 → B0.2 132 (60 * b + i) = g i) {T : Int32} (hT : T.toInt = min z.toInt c) : ∀ (w j k : Nat) (u : Int32) (A : St), u.toInt = k → (T.toInt = ((k + j : Nat) : Int)) → j < w → MC m c f q l ld A → (∀ i, i < m → A.1 27 i = itr (sp0 m q ld f) k i) → A.2 (96 + b) = g → ∃ r A', tho_judged_L24 n w (96 + b) T u A = some (r, A') ∧ A'.2 = A.2 ∧ (∀ o i, o ≠ 27 → A'.1 o i = A.1 o i) ∧ mo_wrong_L7 n w v u B0 = some (r, B0) := by
  intro w
  induction w with
  | zero => intro j k u A h1 h2 h3; omega
  | succ w ih =>
    intro j k u A h1 h2 h3 h4 h5 h6
    show ∃ r A', tho_judged_L24_B n (tho_judged_L24 n w) (96 + b) T u A = some (r, A') ∧ A'.2 = A.2 ∧ (∀ o i, o ≠ 27 → A'.1 o i = A.1 o i) ∧ mo_wrong_L7_B n (mo_wrong_L7 n w) v u B0 = some (r, B0)
    unfold tho_judged_L24_B mo_wrong_L7_B
    have e44 : (B0.1 102 44).toInt = c := by rw [hB.2.1]; exact ti_ofNat (by omega)
    have ib6 : inB (irm v 10) 6 = true := by rw [inB_iff]; omega
    have eb := nxk hv
    cases j with
    | zero =>
      refine ⟨-2, A, ?_, rfl, fun _ _ _ => rfl, ?_⟩
      · rw [if_neg (by rw [ltk]; omega)]
      · by_cases c1 : u < B0.1 102 44
        · rw [if_pos c1, if_pos ib6, eb, hz, if_neg (by rw [ltk] at c1 ⊢; omega)]
        · rw [if_neg c1]
    | succ j =>
      obtain ⟨Y, y1, y2, y3, y4⟩ := stepg hn hm h4 h5
      have hY := h4.cg y3
      have s1 := inc h1 (by omega)
      obtain ⟨g1, g2⟩ := betg (t := k + 1) (p := u + 1) hm s1 (by omega) hY hB y4 (hB4 (k + 1) (by omega))
      obtain ⟨⟨gr, gA, gB⟩, -⟩ := far_s hn hm hY.1 hB.1 g1 g2
      obtain ⟨x1, x2⟩ := ix60 (a := irm v 10) (b := u) (by omega) (by omega)
      have q1 : u < T := by rw [ltk]; omega
      have q2 : u < B0.1 102 44 := by rw [ltk]; omega
      have q3 : u < z := by rw [ltk]; omega
      have okj : okJ (96 + b) u = true := (okJ_sh hb).mpr (by omega)
      have ibi : inB ((60 : Int32) * irm v 10 + u) 360 = true := by rw [inB_iff]; omega
      have act : rou_actAt u A = some (f k) := by
        rw [actAt_s (c := c) (by rw [h4.2.1]; exact ti_ofNat (by omega)) hc h1 (by omega), h4.2.2.1 k (by omega)]
      have eY : Y.2 (96 + b) (nx u) = g k := by rw [y2, h6, nxk h1]
      have eB : B0.2 132 (nx ((60 : Int32) * irm v 10 + u)) = g k := by rw [x2, eb, nxk h1]; exact hB2 k (by omega)
      rw [if_pos q1, act, Option.bind_some, y1, Option.bind_some, gA, Option.bind_some, if_pos okj, eY]
      rw [if_pos q2, if_pos ib6, eb, hz, if_pos q3, if_pos ibi, gB, Option.bind_some, eB]
      by_cases c1 : gr.toInt64 = g k
      · rw [if_pos (lgc0.mpr c1), if_pos (lgc0.mpr c1.symm)]
        obtain ⟨r, A', r1, r2, r3, r4⟩ := ih j (k + 1) (u + 1) Y s1 (by omega) (by omega) hY y4 (by rw [y2]; exact h6)
        exact ⟨r, A', r1, r2.trans y2, fun o i ho => (r3 o i ho).trans (y3 o i ho), r4⟩
      · rw [if_neg (fun h => c1 (lgc0.mp h)), if_neg (fun h => c1 (lgc0.mp h).symm)]
        exact ⟨u, Y, rfl, y2, y3, rfl⟩
/-- which count the judges saw otherwise: alike on both sides -/
theorem jud_s {n : Nat} (hn : 4096 ≤ n) {m c b : Nat} {f q l : Nat → Int32} {ld v : Int32} {A B : St} (hm : m ≤ 8) (hc : c ≤ 60) (hb : b < 6) (hv : (irm v 10).toInt = b) (hA : MC m c f q l ld A) (hB : MM m c f q l ld B) (hR : rowE b A B) : ∃ r A' B', el_judged n v A = some (r, A') ∧ A'.2 = A.2 ∧ (∀ o i, o ≠ 27 → A'.1 o i = A.1 o i) ∧ mo_wrong n v B = some (r, B') ∧ B'.2 = B.2 ∧ ∀ o i, o ≠ 134 → B'.1 o i = B.1 o i := by
  obtain ⟨r1, r2, r3, r4⟩ := hR
  obtain ⟨D, d1, d2, d3, d4⟩ := driftg hn hm hc hB
  obtain ⟨Z, z1, z2, z3, z4⟩ := still_s hn A
  have hT : (jmath_min (jmath_min (A.1 94 b) (Int32.ofNat (oln (96 + b)))) (A.1 24 1)).toInt = min (A.1 94 b).toInt c := by
    rw [min_ti, min_ti, hA.2.1, (sh_tab b hb).2.2, show (Int32.ofNat 60).toInt = 60 by decide, ti_ofNat (by omega)]
    omega
  obtain ⟨r, A', a1, a2, a3, a4⟩ := jl_s n hn (b := b) (v := v) (z := A.1 94 b) (B0 := D) (g := A.2 (96 + b)) hm hc hb hv (hB.cg d3) d4 (by rw [d3 _ _ (by omega)]; exact r1) ⟨r2, r3⟩ (fun i hi => by rw [d2]; exact r4 i hi) hT n (min (A.1 94 b).toInt c).toNat 0 0 Z ti0 (by rw [hT]; omega) (by omega) (hA.cg z3) (fun i hi => z4 i (by omega)) (by rw [z2])
  refine ⟨r, A', D, ?_, a2.trans z2, fun o i ho => (a3 o i ho).trans (z3 o i ho), ?_, d2, d3⟩
  · have hsh : ¬ she_isShelf (irm v 10) = 0 := fun h => by have := shelf0.mp h; omega
    have ib6 : inB (irm v 10) 6 = true := by rw [inB_iff]; omega
    unfold el_judged she_elements she_size
    rw [if_neg hsh, if_pos ib6, Option.bind_some, if_neg hsh, if_pos ib6, Option.bind_some, nxk hv]
    unfold tho_judged rou_counts
    rw [if_pos (sh_r b hb), Option.bind_some, z1, Option.bind_some, a1]
    rfl
  · unfold mo_wrong
    rw [d1, Option.bind_some, a4]
theorem Rdy.mc {X A : St} {a : Nat} (hP : IPool X) (h : Rdy X a A) : MC (mny X) (rc X a) (ac X a) (fun w => X.1 7 w) (fun w => X.1 8 w) (X.1 9 0) A := by
  obtain ⟨m1, m2⟩ := mny_s hP
  refine ⟨by rw [h.lo (by omega)]; exact m1, h.2.1, h.2.2.1, fun w hw => (h.2.2.2.2.2.2.1 w (by omega)).1, fun w hw => (h.2.2.2.2.2.2.1 w (by omega)).2, h.2.2.2.1⟩
theorem Rds.mm {X B : St} {a : Nat} (hP : IPool X) (hp : ISlp X) (h : Rds X a B) : MM (mny X) (rc X a) (ac X a) (fun w => X.1 7 w) (fun w => X.1 8 w) (X.1 9 0) B := by
  obtain ⟨m1, m2⟩ := mny_s hP
  refine ⟨by rw [h.lo (by omega) (by omega) (by omega), hP.1]; exact m1, h.2.1, h.2.2.1, fun w hw => (h.lo (by omega) (by omega) (by omega)).trans (pl_w hP (w := 4) (by omega) (by omega)), fun w hw => late_M hP h hw, (h.lo (by omega) (by omega) (by omega)).trans (pl_j hP (j := 0) (by omega)), (h.lo (by omega) (by omega) (by omega)).trans hp⟩
theorem rowE_s {X A B : St} {a b : Nat} (hs : ISh X) (hb : b < 6) (hA : Rdy X a A) (hB : Rds X a B) : rowE b A B := by
  obtain ⟨-, g2, g3, g4, g5⟩ := hs b hb
  have e : A.1 94 b = X.1 94 b := hA.lo (by omega)
  refine ⟨by rw [e, hB.lo (by omega) (by omega) (by omega)]; exact g2, by rw [e]; exact g3, by rw [e]; exact g4, fun i hi => by rw [hA.1, hB.1]; exact g5 i hi⟩
/-- two shelves in one number -/
def two (v : Int32) : Prop := 0 ≤ v.toInt ∧ (0 ≤ (v / 10).toInt ∧ (v / 10).toInt ≤ 5) ∧ (0 ≤ (irm v 10).toInt ∧ (irm v 10).toInt ≤ 5)
theorem she0' {v : Int32} : she_isShelf v = 0 ↔ ¬ (0 ≤ v.toInt ∧ v.toInt ≤ 5) := by
  rw [shelf0]; omega
theorem ars0 {v : Int32} : mo_areShelves v = 0 ↔ ¬ two v := by
  unfold mo_areShelves two
  by_cases h1 : v < 0
  · rw [if_pos h1]
    rw [ltk, ti0] at h1
    exact ⟨fun _ h => by omega, fun _ => rfl⟩
  · rw [if_neg h1]
    rw [ltk, ti0] at h1
    by_cases h2 : mo_isShelf (v / 10) = 0
    · rw [if_pos h2]
      exact ⟨fun _ h => shm0.mp h2 h.2.1, fun _ => rfl⟩
    · rw [if_neg h2]
      by_cases h3 : mo_isShelf (irm v 10) = 0
      · rw [if_pos h3]
        exact ⟨fun _ h => shm0.mp h3 h.2.2, fun _ => rfl⟩
      · rw [if_neg h3]
        have g2 : 0 ≤ (v / 10).toInt ∧ (v / 10).toInt ≤ 5 := Decidable.byContradiction (fun h => h2 (shm0.mpr h))
        have g3 : 0 ≤ (irm v 10).toInt ∧ (irm v 10).toInt ≤ 5 := Decidable.byContradiction (fun h => h3 (shm0.mpr h))
        exact ⟨fun h => absurd h (by decide), fun h => absurd ⟨by omega, g2, g3⟩ h⟩
theorem rip_bad {n : Nat} {v h : Int32} {X : St} (hb : h = 0 ∨ ¬ two v) : el_beginRipples n v h X = some (-1, X) := by
  unfold el_beginRipples
  by_cases h0 : h = 0
  · rw [if_pos h0]
  · rw [if_neg h0]
    by_cases h1 : v < 0
    · rw [if_pos h1]
    · rw [if_neg h1]
      rw [ltk, ti0] at h1
      by_cases h2 : she_isShelf (v / 10) = 0
      · rw [if_pos h2]
      · rw [if_neg h2]
        by_cases h3 : she_isShelf (irm v 10) = 0
        · rw [if_pos h3]
        · have g2 : 0 ≤ (v / 10).toInt ∧ (v / 10).toInt ≤ 5 := Decidable.byContradiction (fun h => h2 (she0'.mpr h))
          have g3 : 0 ≤ (irm v 10).toInt ∧ (irm v 10).toInt ≤ 5 := Decidable.byContradiction (fun h => h3 (she0'.mpr h))
          rcases hb with e | e
          · exact absurd e h0
          · exact absurd ⟨by omega, g2, g3⟩ e
theorem empty_s {v : Int32} {X : St} (hv : 0 ≤ v.toInt ∧ v.toInt ≤ 5) : she_isEmpty v X = some (if X.1 92 (nx v) = -1 then 1 else 0) := by
  unfold she_isEmpty
  rw [if_neg (fun h => she0'.mp h hv), if_pos (by rw [inB_iff]; omega)]
  by_cases c : X.1 92 (nx v) = -1
  · rw [if_pos c, if_pos c]
  · rw [if_neg c, if_neg c]
/-- what a shelf holds, in the model's words -/
theorem hold_s {X Y : St} {s : Nat} (hs : ISh X) (hw : IWy X) (h6 : s < 6) (hY : Mo X Y) : (Y.1 130 s = -1 ↔ X.1 92 s = -1) ∧ ∀ b : Int32, 0 ≤ b.toInt ∧ b.toInt ≤ 4 → (Y.1 130 s = b ↔ X.1 92 s = b) := by
  obtain ⟨g1, -⟩ := hs s h6
  obtain ⟨-, w2, w3, -⟩ := hw
  rw [hY.2 130 _ (by omega)]
  rcases g1 with h | h | h
  · rw [h.1, h.2]
    exact ⟨Iff.rfl, fun _ _ => Iff.rfl⟩
  · rw [h.2.2]
    exact ⟨Iff.rfl, fun _ _ => Iff.rfl⟩
  · have u : (X.1 130 s).toInt = 10 + (X.1 93 s).toInt := by
      rw [h.2.1, ti_add] <;> rw [show (10 : Int32).toInt = 10 by decide] <;> omega
    refine ⟨⟨fun e => by rw [e, ti_m1] at u; omega, fun e => by rw [h.1] at e; exact absurd e (by decide)⟩, fun b hb => ⟨fun e => by rw [e] at u; omega, fun e => by rw [h.1] at e; rw [← e, show (5 : Int32).toInt = 5 by decide] at hb; omega⟩⟩
theorem rip_s {n : Nat} (hn : 4096 ≤ n) {v h : Int32} {X : St} (hh : h ≠ 0) (hv : two v) (hP : IPool X) (hs : ISh X) (hw : IWy X) : (∃ c A, (c ≠ 0 ∧ c < 0 ∧ c ≠ -1) ∧ el_beginRipples n v h X = some (c, A) ∧ ∀ Y, Mo X Y → mo_noRipples v Y = some c) ∨ (∃ A, el_beginRipples n v h X = some (0, A) ∧ Rdy X (nx (v / 10)) A ∧ ∀ Y, Mo X Y → mo_noRipples v Y = some 0 ∧ ∃ B, mo_reads n (v / 10) Y = some B ∧ Rds X (nx (v / 10)) B) := by
  obtain ⟨v0, va, vb⟩ := hv
  have xa := nx_ti va.1
  have xb := nx_ti vb.1
  have ia : inB (v / 10) 6 = true := by rw [inB_iff]; omega
  have ib : inB (irm v 10) 6 = true := by rw [inB_iff]; omega
  have E : el_beginRipples n v h X = (if X.1 92 (nx (v / 10)) = -1 then some (-11, X) else if X.1 92 (nx (irm v 10)) = -1 then some (-11, X) else ((el_begin n (v / (10 : Int32)) (1 : Int32) X).bind fun (c4, X3) =>
    (if c4 = 0 then
    ((she_refusal (irm v (10 : Int32)) (1 : Int32) X3).bind fun c5 =>
    (some (c5, X3)))
    else
    (some (c4, X3))))) := by
    unfold el_beginRipples
    rw [if_neg hh, if_neg (by rw [ltk, ti0]; omega), if_neg (fun h => she0'.mp h va), if_neg (fun h => she0'.mp h vb), empty_s va, Option.bind_some, empty_s vb, Option.bind_some]
    by_cases c1 : X.1 92 (nx (v / 10)) = -1
    · rw [if_pos c1, if_pos c1, if_neg (by decide)]
    · rw [if_neg c1, if_neg c1, if_pos rfl]
      by_cases c2 : X.1 92 (nx (irm v 10)) = -1
      · rw [if_pos c2, if_pos c2, if_neg (by decide)]
      · rw [if_neg c2, if_neg c2, if_pos rfl]
  have M : ∀ Y, Mo X Y → mo_noRipples v Y = some (if X.1 92 (nx (v / 10)) = -1 then -11 else if X.1 92 (nx (irm v 10)) = -1 then -11 else if X.1 92 (nx (v / 10)) = 0 then (if X.1 92 (nx (irm v 10)) = 1 then 0 else -12) else -12) := by
    intro Y hY
    obtain ⟨p1, p2⟩ := hold_s hs hw (s := nx (v / 10)) (by omega) hY
    obtain ⟨q1, q2⟩ := hold_s hs hw (s := nx (irm v 10)) (by omega) hY
    have p0 := p2 0 (by decide)
    have q3 := q2 1 (by decide)
    unfold mo_noRipples
    simp only [if_pos ia, if_pos ib, p1, q1, p0, q3]
    by_cases c1 : X.1 92 (nx (v / 10)) = -1
    · rw [if_pos c1, if_pos c1]
    · rw [if_neg c1, if_neg c1]
      by_cases c2 : X.1 92 (nx (irm v 10)) = -1
      · rw [if_pos c2, if_pos c2]
      · rw [if_neg c2, if_neg c2]
        by_cases c3 : X.1 92 (nx (v / 10)) = 0
        · rw [if_pos c3, if_pos c3]
          by_cases c4 : X.1 92 (nx (irm v 10)) = 1
          · rw [if_pos c4, if_pos c4]
          · rw [if_neg c4, if_neg c4]
        · rw [if_neg c3, if_neg c3]
  by_cases c1 : X.1 92 (nx (v / 10)) = -1
  · rw [if_pos c1] at E
    simp only [if_pos c1] at M
    exact Or.inl ⟨-11, X, ⟨by decide, by decide, by decide⟩, E, M⟩
  · rw [if_neg c1] at E
    simp only [if_neg c1] at M
    by_cases c2 : X.1 92 (nx (irm v 10)) = -1
    · rw [if_pos c2] at E
      simp only [if_pos c2] at M
      exact Or.inl ⟨-11, X, ⟨by decide, by decide, by decide⟩, E, M⟩
    · rw [if_neg c2] at E
      simp only [if_neg c2] at M
      have c1' : ¬ (X.1 92 (nx (v / 10))).toInt = -1 := fun e => c1 (ti_eq.mpr (by rw [e]; decide))
      rcases beg_s hn (a := v / 10) (h := 1) (by decide) va hP hs hw with ⟨c, k1, k2, k3⟩ | ⟨A, x1, x2, x3⟩
      · have k4 := k3 X Mo.rf
        rw [noRow_s va hs hw (by decide) Mo.rf, if_neg c1] at k4
        have c3 : ¬ X.1 92 (nx (v / 10)) = 0 := fun e => by
          rw [if_pos e] at k4
          injection k4 with k4
          exact k1.1 k4.symm
        rw [if_neg c3] at k4
        injection k4 with k4
        refine Or.inl ⟨c, X, ⟨k1.1, k1.2, by rw [← k4]; decide⟩, ?_, fun Y hY => ?_⟩
        · rw [E, k2, Option.bind_some]
          dsimp only
          rw [if_neg k1.1]
        · rw [M Y hY, if_neg c3, k4]
      · have k4 := (x3 X Mo.rf).1
        rw [noRow_s va hs hw (by decide) Mo.rf, if_neg c1] at k4
        have c3 : X.1 92 (nx (v / 10)) = 0 := Decidable.byContradiction (fun e => by
          rw [if_neg e] at k4
          injection k4 with k4
          exact absurd k4 (by decide))
        have hr : she_refusal (irm v 10) 1 A = some (if X.1 92 (nx (irm v 10)) = 1 then 0 else -12) := by
          rw [refus_s vb, x2.lo (by omega), if_neg (fun e => c2 (ti_eq.mpr (by rw [e]; decide)))]
          by_cases c4 : X.1 92 (nx (irm v 10)) = 1
          · rw [if_pos c4, if_pos (by rw [c4])]
          · rw [if_neg c4, if_neg (fun e => c4 (ti_eq.mpr e))]
        by_cases c4 : X.1 92 (nx (irm v 10)) = 1
        · rw [if_pos c4] at hr
          refine Or.inr ⟨A, ?_, x2, fun Y hY => ⟨?_, (x3 Y hY).2⟩⟩
          · rw [E, x1, Option.bind_some]
            dsimp only
            rw [if_pos rfl, hr, Option.bind_some]
          · rw [M Y hY, if_pos c3, if_pos c4]
        · rw [if_neg c4] at hr
          refine Or.inl ⟨-12, A, ⟨by decide, by decide, by decide⟩, ?_, fun Y hY => ?_⟩
          · rw [E, x1, Option.bind_some]
            dsimp only
            rw [if_pos rfl, hr, Option.bind_some]
          · rw [M Y hY, if_pos c3, if_neg c4]
theorem op_judge (n : Nat) (hn : 4096 ≤ n) (v : Int32) (X : St) (hP : IPool X) (hs : ISh X) (hw : IWy X) (hp : ISlp X) : ∃ r X1, el_judge n v X = some (r, X1) ∧ ∀ Y, Mo X Y → ∃ Y1, mo_judge n v Y = some (r, Y1) := by
  obtain ⟨m1, m2⟩ := mny_s hP
  unfold el_judge
  by_cases hv : two v
  · have va : 0 ≤ (v / 10).toInt ∧ (v / 10).toInt ≤ 5 := hv.2.1
    have vb : 0 ≤ (irm v 10).toInt ∧ (irm v 10).toInt ≤ 5 := hv.2.2
    have xa := nx_ti va.1
    have xb := nx_ti vb.1
    rcases rip_s hn (h := 1) (by decide) hv hP hs hw with ⟨c, A, c1, c2, c3⟩ | ⟨A, x1, x2, x3⟩
    · refine ⟨c, A, ?_, fun Y hY => ⟨Y, ?_⟩⟩
      · rw [c2, Option.bind_some]
        dsimp only
        rw [if_neg c1.1]
      · unfold mo_judge
        rw [if_neg (fun h => ars0.mp h hv), c3 Y hY, Option.bind_some, if_pos c1.2.1]
    · obtain ⟨-, B, b1, b2⟩ := x3 X Mo.rf
      obtain ⟨r, A', B', r1, -, -, r4, -⟩ := jud_s hn (b := nx (irm v 10)) (v := v) m2 (rc_le hs (a := nx (v / 10)) (by omega)) (by omega) (by omega) (x2.mc hP) (b2.mm hP hp) (rowE_s hs (by omega) x2 b2)
      refine ⟨r, A', ?_, fun Y hY => ?_⟩
      · rw [x1, Option.bind_some]
        dsimp only
        rw [if_pos rfl, r1]
        rfl
      · obtain ⟨y0, B, b1, b2⟩ := x3 Y hY
        obtain ⟨r', A', B', r1', -, -, r4', -⟩ := jud_s hn (b := nx (irm v 10)) (v := v) m2 (rc_le hs (a := nx (v / 10)) (by omega)) (by omega) (by omega) (x2.mc hP) (b2.mm hP hp) (rowE_s hs (by omega) x2 b2)
        rw [r1] at r1'
        injection r1' with r1'
        injection r1' with r1' _
        refine ⟨B', ?_⟩
        unfold mo_judge
        rw [if_neg (fun h => ars0.mp h hv), y0, Option.bind_some, if_neg (by decide), b1, Option.bind_some, r4', r1']
        rfl
  · refine ⟨-1, X, ?_, fun Y hY => ⟨Y, ?_⟩⟩
    · rw [rip_bad (Or.inr hv), Option.bind_some]
      dsimp only
      rw [if_neg (by decide)]
    · unfold mo_judge
      rw [if_pos (ars0.mpr hv)]
