/-! star -/
theorem x_rng {X : St} (hB : IBnd X) {w k : Nat} (hw : w < 2) (hk : (k : Int) < (X.1 1 1).toInt) : 0 ≤ (X.1 (3 + w) k).toInt ∧ (X.1 (3 + w) k).toInt ≤ 15 := by
  have h := hB w k (Or.inl ⟨by omega, by omega, by omega, hk⟩)
  rcases (show w = 0 ∨ w = 1 by omega) with e | e <;> subst e
  · exact h
  · exact h
theorem okI_m {w : Nat} {j : Int32} (h : w < 2) (h1 : 0 ≤ j.toInt) (h2 : j.toInt < 8) : okI (103 + w) j = true := by
  have t : ∀ w, w < 2 → (103 + w < NO ∧ knd (103 + w) = 0 ∧ oln (103 + w) = 8) := by decide
  obtain ⟨t1, t2, t3⟩ := t w h
  unfold okI
  rw [t2, t3, (inB_iff (n := 8)).mpr (by omega), decide_eq_true t1]
  rfl
theorem spn_s (n : Nat) {X : St} (hP : IPool X) (hB : IBnd X) {wd : Nat} (hw : wd < 2) : ∀ (w j k : Nat) (v a b : Int32), v.toInt = k → k + j = mny X → j < w → 0 ≤ a.toInt → a.toInt ≤ 15 → 0 ≤ b.toInt → b.toInt ≤ 15 → ∃ r s, gro_reach_L15 n X w (Int32.ofNat wd) a b v = some r ∧ mo_span_L11 n X w (103 + wd) (X.1 102 0) a b v = some s ∧ s.toInt = r.toInt + 1 ∧ -15 ≤ r.toInt ∧ r.toInt ≤ 15 := by
  obtain ⟨m1, m2⟩ := mny_s hP
  have e0 : X.1 102 0 = X.1 1 1 := hP.1
  intro w
  induction w with
  | zero => intro j k v a b h1 h2 h3; omega
  | succ w ih =>
    intro j k v a b h1 h2 h3 h4 h5 h6 h7
    show ∃ r s, gro_reach_L15_B n X (gro_reach_L15 n X w) (Int32.ofNat wd) a b v = some r ∧ mo_span_L11_B n X (mo_span_L11 n X w) (103 + wd) (X.1 102 0) a b v = some s ∧ s.toInt = r.toInt + 1 ∧ -15 ≤ r.toInt ∧ r.toInt ≤ 15
    unfold gro_reach_L15_B mo_span_L11_B poo_many
    rw [e0]
    cases j with
    | zero =>
      have q1 : ¬ v < X.1 1 1 := by rw [ltk]; omega
      simp only [if_neg q1]
      have e1 : (b - a).toInt = b.toInt - a.toInt := by rw [ti_sub] <;> omega
      refine ⟨b - a, b - a + 1, rfl, rfl, ?_, by omega, by omega⟩
      rw [ti_add] <;> rw [ti1] <;> omega
    | succ j =>
      have q1 : v < X.1 1 1 := by rw [ltk]; omega
      have hr := x_rng hB hw (k := k) (by omega)
      have ok := okI_m (j := v) hw (by omega) (by omega)
      simp only [if_pos q1, tld wd (by omega) (X := X) (by omega) h1 (by omega), Option.bind_some, if_pos ok, nxk h1, show X.1 (103 + wd) k = X.1 (3 + wd) k from pl_w hP (by omega) (by omega)]
      rw [← e0]
      exact ih j (k + 1) (v + 1) _ _ (inc h1 (by omega)) (by omega) (by omega) (by rw [min_ti]; omega) (by rw [min_ti]; omega) (by rw [max_ti]; omega) (by rw [max_ti]; omega)
/-- somebody else stands there, from k on -/
def anyE (X : St) (m : Nat) (x y ex : Int32) (k : Nat) : Prop := ∃ j, k ≤ j ∧ j < m ∧ Int32.ofNat j ≠ ex ∧ X.1 3 j = x ∧ X.1 4 j = y
theorem any_st {X : St} {m k : Nat} {x y ex : Int32} (hk : k < m) : anyE X m x y ex k ↔ (Int32.ofNat k ≠ ex ∧ X.1 3 k = x ∧ X.1 4 k = y) ∨ anyE X m x y ex (k + 1) := by
  constructor
  · rintro ⟨j, a, b, c⟩
    rcases Nat.eq_or_lt_of_le a with e | e
    · subst e; exact Or.inl c
    · exact Or.inr ⟨j, e, b, c⟩
  · rintro (c | ⟨j, a, b, c⟩)
    · exact ⟨k, Nat.le_refl _, hk, c⟩
    · exact ⟨j, by omega, b, c⟩
theorem any_no {X : St} {m : Nat} {x y ex : Int32} : ¬ anyE X m x y ex m := fun ⟨j, a, b, _⟩ => by omega
theorem isAt_s {X : St} {v x y : Int32} {k : Nat} (h8 : (X.1 1 1).toInt ≤ 8) (hv : v.toInt = k) (hk : (k : Int) < (X.1 1 1).toInt) : ∃ c, gro_isAt v x y X = some c ∧ (c = 0 ↔ ¬ (X.1 3 k = x ∧ X.1 4 k = y)) := by
  unfold gro_isAt
  rw [show (0 : Int32) = Int32.ofNat 0 by decide, tld 0 (by omega) h8 hv hk, Option.bind_some]
  by_cases c1 : X.1 3 k = x
  · rw [if_pos (show X.1 (3 + 0) k = x from c1), show (1 : Int32) = Int32.ofNat 1 by decide, tld 1 (by omega) h8 hv hk, Option.bind_some]
    by_cases c2 : X.1 4 k = y
    · rw [if_pos (show X.1 (3 + 1) k = y from c2)]
      exact ⟨_, rfl, fun h => absurd h (by decide), fun h => absurd ⟨c1, c2⟩ h⟩
    · rw [if_neg (show ¬ X.1 (3 + 1) k = y from c2)]
      exact ⟨_, rfl, fun _ h => c2 h.2, fun _ => rfl⟩
  · rw [if_neg (show ¬ X.1 (3 + 0) k = x from c1)]
    exact ⟨_, rfl, fun _ h => c1 h.1, fun _ => rfl⟩
theorem body_s (n : Nat) {X : St} (hP : IPool X) {x y : Int32} : ∀ (w j k : Nat) (v : Int32), v.toInt = k → k + j = mny X → j < w → ∃ c, gro_isAnybodyAt_L2 n X w x y v = some c ∧ (c = 0 ↔ ¬ anyE X (mny X) x y (-2) k) := by
  obtain ⟨m1, m2⟩ := mny_s hP
  intro w
  induction w with
  | zero => intro j k v h1 h2 h3; omega
  | succ w ih =>
    intro j k v h1 h2 h3
    show ∃ c, gro_isAnybodyAt_L2_B n X (gro_isAnybodyAt_L2 n X w) x y v = some c ∧ _
    unfold gro_isAnybodyAt_L2_B poo_many
    cases j with
    | zero =>
      have ek : k = mny X := by omega
      rw [if_neg (by rw [ltk]; omega), ek]
      exact ⟨0, rfl, fun _ => any_no, fun _ => rfl⟩
    | succ j =>
      obtain ⟨c, c1, c2⟩ := isAt_s (X := X) (x := x) (y := y) (by omega) h1 (by omega)
      have ne : Int32.ofNat k ≠ -2 := fun h => by
        have := congrArg Int32.toInt h
        rw [ti_ofNat (by omega), show (-2 : Int32).toInt = -2 by decide] at this
        omega
      rw [if_pos (by rw [ltk]; omega), c1, Option.bind_some]
      obtain ⟨d, d1, d2⟩ := ih j (k + 1) (v + 1) (inc h1 (by omega)) (by omega) (by omega)
      have st := any_st (X := X) (m := mny X) (x := x) (y := y) (ex := -2) (k := k) (by omega)
      by_cases c0 : c = 0
      · rw [if_pos c0]
        refine ⟨d, d1, d2.trans ?_⟩
        rw [st]
        exact ⟨fun h z => z.elim (fun z => c2.mp c0 z.2) h, fun h z => h (Or.inr z)⟩
      · rw [if_neg c0]
        refine ⟨1, rfl, fun h => absurd h (by decide), fun h => absurd ?_ h⟩
        rw [st]
        exact Or.inl ⟨ne, Decidable.byContradiction (fun h => c0 (c2.mpr h))⟩
theorem mat_s (n : Nat) {X : St} (hP : IPool X) {x y ex : Int32} : ∀ (w j k : Nat) (v : Int32), v.toInt = k → k + j = mny X → j < w → ∃ c, mo_isAt_L3 n X w x y ex v = some c ∧ (c = 0 ↔ ¬ anyE X (mny X) x y ex k) := by
  obtain ⟨m1, m2⟩ := mny_s hP
  have e0 : X.1 102 0 = X.1 1 1 := hP.1
  intro w
  induction w with
  | zero => intro j k v h1 h2 h3; omega
  | succ w ih =>
    intro j k v h1 h2 h3
    show ∃ c, mo_isAt_L3_B n X (mo_isAt_L3 n X w) x y ex v = some c ∧ _
    unfold mo_isAt_L3_B
    rw [e0]
    cases j with
    | zero =>
      have ek : k = mny X := by omega
      rw [if_neg (by rw [ltk]; omega), ek]
      exact ⟨0, rfl, fun _ => any_no, fun _ => rfl⟩
    | succ j =>
      have ib : inB v 8 = true := by rw [inB_iff]; omega
      obtain ⟨d, d1, d2⟩ := ih j (k + 1) (v + 1) (inc h1 (by omega)) (by omega) (by omega)
      have st := any_st (X := X) (m := mny X) (x := x) (y := y) (ex := ex) (k := k) (by omega)
      have ev : v = Int32.ofNat k := ofk h1
      have go : ¬ (Int32.ofNat k ≠ ex ∧ X.1 3 k = x ∧ X.1 4 k = y) → (d = 0 ↔ ¬ anyE X (mny X) x y ex k) := fun h => by
        rw [st]
        exact d2.trans ⟨fun g z => z.elim h g, fun g z => g (Or.inr z)⟩
      rw [if_pos (by rw [ltk]; omega), if_pos ib, if_pos ib, nxk h1, show X.1 103 k = X.1 3 k from pl_w hP (w := 0) (by omega) (by omega), show X.1 104 k = X.1 4 k from pl_w hP (w := 1) (by omega) (by omega)]
      by_cases c1 : v = ex
      · rw [if_pos c1]
        exact ⟨d, d1, go (fun h => h.1 (ev.symm.trans c1))⟩
      · rw [if_neg c1]
        by_cases c2 : X.1 3 k = x
        · rw [if_pos c2]
          by_cases c3 : X.1 4 k = y
          · rw [if_pos c3]
            refine ⟨1, rfl, fun h => absurd h (by decide), fun h => absurd ?_ h⟩
            rw [st]
            exact Or.inl ⟨fun h => c1 (ev.trans h), c2, c3⟩
          · rw [if_neg c3]
            exact ⟨d, d1, go (fun h => c3 h.2.2)⟩
        · rw [if_neg c2]
          exact ⟨d, d1, go (fun h => c2 h.2.1)⟩
theorem or2 {a b : Int32} : (a ||| b) ||| b = a ||| b := by
  rw [Int32.or_assoc, Int32.or_self]
theorem cel_s (n : Nat) {X : St} (hP : IPool X) {K : Int32 → Int32 → Option Int32} {v : Int32} {k : Nat} (hv : v.toInt = k) (hk : k < mny X) : ∀ (w j i : Nat) (u s : Int32), u.toInt = i → i + j = mny X → j < w → ∃ s', gro_onOneCell_L17 n X K w s v u = K s' v ∧ (anyE X (mny X) (X.1 3 k) (X.1 4 k) (Int32.ofNat k) i → s' = s ||| ((1 : Int32) <<< (v &&& 31))) ∧ (¬ anyE X (mny X) (X.1 3 k) (X.1 4 k) (Int32.ofNat k) i → s' = s) := by
  obtain ⟨m1, m2⟩ := mny_s hP
  intro w
  induction w with
  | zero => intro j i u s h1 h2 h3; omega
  | succ w ih =>
    intro j i u s h1 h2 h3
    show ∃ s', gro_onOneCell_L17_B n X K (gro_onOneCell_L17 n X K w) s v u = K s' v ∧ _
    unfold gro_onOneCell_L17_B poo_many
    have ev : v = Int32.ofNat k := ofk hv
    have eu : u = Int32.ofNat i := ofk h1
    cases j with
    | zero =>
      have ei : i = mny X := by omega
      rw [if_neg (by rw [ltk]; omega), ei]
      exact ⟨s, rfl, fun h => absurd h any_no, fun _ => rfl⟩
    | succ j =>
      have st := any_st (X := X) (m := mny X) (x := X.1 3 k) (y := X.1 4 k) (ex := Int32.ofNat k) (k := i) (by omega)
      have fin := fun s => ih j (i + 1) (u + 1) s (inc h1 (by omega)) (by omega) (by omega)
      rw [if_pos (by rw [ltk]; omega)]
      by_cases c1 : v = u
      · rw [if_pos c1]
        have e : anyE X (mny X) (X.1 3 k) (X.1 4 k) (Int32.ofNat k) i ↔ anyE X (mny X) (X.1 3 k) (X.1 4 k) (Int32.ofNat k) (i + 1) := by
          rw [st]
          exact ⟨fun z => z.elim (fun z => absurd (eu.symm.trans (c1.symm.trans ev)) z.1) id, Or.inr⟩
        rw [e]
        exact fin s
      · obtain ⟨c, d1, d2⟩ := isAt_s (X := X) (x := X.1 3 k) (y := X.1 4 k) (by omega) h1 (by omega)
        rw [if_neg c1, show (0 : Int32) = Int32.ofNat 0 by decide, tld 0 (by omega) (by omega) hv (by omega), Option.bind_some, show (1 : Int32) = Int32.ofNat 1 by decide, tld 1 (by omega) (by omega) hv (by omega), Option.bind_some, show gro_isAt u (X.1 (3 + 0) k) (X.1 (3 + 1) k) X = some c from d1, Option.bind_some]
        have ne : Int32.ofNat i ≠ Int32.ofNat k := fun h => c1 (ev.trans (h.symm.trans eu.symm))
        by_cases c2 : c = Int32.ofNat 0
        · have e : anyE X (mny X) (X.1 3 k) (X.1 4 k) (Int32.ofNat k) i ↔ anyE X (mny X) (X.1 3 k) (X.1 4 k) (Int32.ofNat k) (i + 1) := by
            rw [st]
            exact ⟨fun z => z.elim (fun z => absurd z.2 (d2.mp c2)) id, Or.inr⟩
          rw [if_pos c2, show Int32.ofNat 1 = 1 by decide, e]
          exact fin s
        · have e : anyE X (mny X) (X.1 3 k) (X.1 4 k) (Int32.ofNat k) i := by
            rw [st]
            exact Or.inl ⟨ne, Decidable.byContradiction (fun h => c2 (d2.mpr h))⟩
          rw [if_neg c2, Option.bind_some, show Int32.ofNat 1 = 1 by decide]
          obtain ⟨s', f1, f2, f3⟩ := fin (s ||| ((1 : Int32) <<< (v &&& 31)))
          refine ⟨s', f1, fun _ => ?_, fun h => absurd e h⟩
          rcases Classical.em (anyE X (mny X) (X.1 3 k) (X.1 4 k) (Int32.ofNat k) (i + 1)) with h | h
          · rw [f2 h, or2]
          · rw [f3 h]
theorem st_s (n : Nat) (hn : 4096 ≤ n) {X : St} (hP : IPool X) {K : Int32 → Int32 → Int32 → Option Int32} {a : Int32} : ∀ (w j k : Nat) (v s g : Int32), v.toInt = k → k + j = mny X → j < w → ∃ s' g' q, gro_onOneCell_L4 n X w s v = some s' ∧ gro_isMirror_L2 n X w v = some q ∧ (q = 0 ∨ q = 1) ∧ mo_star_L59 n X K w a s g v = K a s' g' ∧ g' = if g = 0 then 0 else if q = 0 then 0 else g := by
  obtain ⟨m1, m2⟩ := mny_s hP
  have e0 : X.1 102 0 = X.1 1 1 := hP.1
  intro w
  induction w with
  | zero => intro j k v s g h1 h2 h3; omega
  | succ w ih =>
    intro j k v s g h1 h2 h3
    show ∃ s' g' q, gro_onOneCell_L4_B n X (gro_onOneCell_L4 n X w) s v = some s' ∧ gro_isMirror_L2_B n X (gro_isMirror_L2 n X w) v = some q ∧ (q = 0 ∨ q = 1) ∧ mo_star_L59_B n X K (mo_star_L59 n X K w) a s g v = K a s' g' ∧ g' = if g = 0 then 0 else if q = 0 then 0 else g
    unfold gro_onOneCell_L4_B gro_isMirror_L2_B mo_star_L59_B poo_many
    rw [e0]
    cases j with
    | zero =>
      have q1 : ¬ v < X.1 1 1 := by rw [ltk]; omega
      simp only [if_neg q1]
      refine ⟨s, g, 1, rfl, rfl, Or.inr rfl, rfl, ?_⟩
      by_cases c : g = 0
      · rw [if_pos c, c]
      · rw [if_neg c, if_neg (by decide)]
    | succ j =>
      have q1 : v < X.1 1 1 := by rw [ltk]; omega
      have ib : inB v 8 = true := by rw [inB_iff]; omega
      have ev : v = Int32.ofNat k := ofk h1
      have g3 : X.1 103 k = X.1 3 k := pl_w hP (w := 0) (by omega) (by omega)
      have g4 : X.1 104 k = X.1 4 k := pl_w hP (w := 1) (by omega) (by omega)
      have w3 : poo_told v 0 X = some (X.1 3 k) := by
        rw [show (0 : Int32) = Int32.ofNat 0 by decide, tld 0 (by omega) (by omega) h1 (by omega)]
      have w4 : poo_told v 1 X = some (X.1 4 k) := by
        rw [show (1 : Int32) = Int32.ofNat 1 by decide, tld 1 (by omega) (by omega) h1 (by omega)]
      obtain ⟨s0, cl, cy, cn⟩ := cel_s n hP (K := fun v5 v6 => gro_onOneCell_L4 n X w v5 (v6 + 1)) h1 (by omega) n (mny X) 0 0 s ti0 (by omega) (by omega)
      obtain ⟨c, c1, c2⟩ := body_s n hP (x := (15 : Int32) - X.1 3 k) (y := X.1 4 k) n (mny X) 0 0 ti0 (by omega) (by omega)
      have c1' : gro_isAnybodyAt n ((15 : Int32) - X.1 3 k) (X.1 4 k) X = some c := c1
      obtain ⟨d, d1, d2⟩ := mat_s n hP (x := X.1 3 k) (y := X.1 4 k) (ex := v) n (mny X) 0 0 ti0 (by omega) (by omega)
      have d1' : mo_isAt n (X.1 3 k) (X.1 4 k) v X = some d := d1
      obtain ⟨e, e1, e2⟩ := mat_s n hP (x := (15 : Int32) - X.1 3 k) (y := X.1 4 k) (ex := -2) n (mny X) 0 0 ti0 (by omega) (by omega)
      have e1' : mo_isAt n ((15 : Int32) - X.1 3 k) (X.1 4 k) (-2) X = some e := e1
      have ce : c = 0 ↔ e = 0 := c2.trans e2.symm
      rw [ev] at d2
      simp only [if_pos q1, if_pos ib, w3, w4, Option.bind_some, c1', nxk h1, g3, g4, d1']
      unfold mo_star_J98
      simp only [if_pos ib, nxk h1, g3, g4, e1', Option.bind_some]
      rw [cl]
      have s1 := inc h1 (by omega)
      have b2 : s0 = if d = 0 then s else s ||| ((1 : Int32) <<< (v &&& 31)) := by
        by_cases c3 : d = 0
        · rw [if_pos c3, cn (d2.mp c3)]
        · rw [if_neg c3, cy (Classical.byContradiction (fun h => c3 (d2.mpr h)))]
      have tail : ∃ s' g' q, gro_onOneCell_L4 n X w s0 (v + 1) = some s' ∧ (if c = 0 then some 0 else gro_isMirror_L2 n X w (v + 1)) = some q ∧ (q = 0 ∨ q = 1) ∧ (if e = 0 then mo_star_L59 n X K w a s0 0 (v + 1) else mo_star_L59 n X K w a s0 g (v + 1)) = K a s' g' ∧ g' = if g = 0 then 0 else if q = 0 then 0 else g := by
        by_cases c3 : c = 0
        · obtain ⟨s', g', q, t1, t2, t3, t4, t5⟩ := ih j (k + 1) (v + 1) s0 0 s1 (by omega) (by omega)
          refine ⟨s', g', 0, t1, by rw [if_pos c3], Or.inl rfl, by rw [if_pos (ce.mp c3)]; exact t4, ?_⟩
          rw [t5, if_pos rfl, if_pos rfl, ite_self]
        · obtain ⟨s', g', q, t1, t2, t3, t4, t5⟩ := ih j (k + 1) (v + 1) s0 g s1 (by omega) (by omega)
          exact ⟨s', g', q, t1, by rw [if_neg c3]; exact t2, t3, by rw [if_neg (fun h => c3 (ce.mpr h))]; exact t4, t5⟩
      obtain ⟨s', g', q, t1, t2, t3, t4, t5⟩ := tail
      refine ⟨s', g', q, t1, t2, t3, ?_, t5⟩
      rw [← t4]
      by_cases c3 : d = 0
      · rw [if_pos c3] at b2
        rw [if_pos c3, b2]
      · rw [if_neg c3] at b2
        rw [if_neg c3, b2]
theorem op_star (n : Nat) (hn : 4096 ≤ n) (v : Int32) (X : St) (hP : IPool X) (hB : IBnd X) : ∃ r, el_star n v X = some r ∧ mo_star n v X = some r := by
  obtain ⟨m1, m2⟩ := mny_s hP
  have e0 : X.1 102 0 = X.1 1 1 := hP.1
  unfold el_star mo_star
  have w2 : mo_within v 0 2 = 0 ↔ ¬ (0 ≤ v.toInt ∧ v.toInt ≤ 2) := by
    rw [within0, ti0, show (2 : Int32).toInt = 2 by decide]; omega
  by_cases c0 : v = 0
  · rw [if_pos c0, if_neg (fun h => w2.mp h (by rw [c0, ti0]; omega)), if_pos c0, e0]
    unfold gro_starSize poo_many
    by_cases c1 : X.1 1 1 = 0
    · rw [if_pos c1, if_pos c1]
      exact ⟨0, rfl, rfl⟩
    · have hm : 0 < mny X := by
        have : (X.1 1 1).toInt ≠ 0 := fun h => c1 (ti_eq.mpr (by rw [h]; decide))
        omega
      rw [if_neg c1, if_neg c1]
      have sp : ∀ wd, wd < 2 → ∃ r s, gro_reach n (Int32.ofNat wd) X = some r ∧ mo_span n (103 + wd) (X.1 1 1) X = some s ∧ s.toInt = r.toInt + 1 ∧ -15 ≤ r.toInt ∧ r.toInt ≤ 15 := by
        intro wd hw
        have hr := x_rng hB hw (k := 0) (by omega)
        obtain ⟨r, s, r1, r2, r3⟩ := spn_s n hP hB hw n (mny X - 1) 1 1 (X.1 (3 + wd) 0) (X.1 (3 + wd) 0) (by decide) (by omega) (by omega) hr.1 hr.2 hr.1 hr.2
        have ok := okI_m (j := 0) hw (by decide) (by decide)
        refine ⟨r, s, ?_, ?_, r3⟩
        · unfold gro_reach
          rw [tld wd (by omega) (k := 0) (v := 0) (by omega) ti0 (by omega), Option.bind_some, r1]
        · unfold mo_span
          rw [if_pos ok, if_pos ok, show nx (0 : Int32) = 0 by decide, show X.1 (103 + wd) 0 = X.1 (3 + wd) 0 from pl_w hP (by omega) (by omega), ← e0, r2]
      obtain ⟨r, s, r1, r2, r3, r4, r5⟩ := sp 0 (by omega)
      obtain ⟨r', s', r1', r2', r3', r4', r5'⟩ := sp 1 (by omega)
      refine ⟨jmath_max s s', ?_, ?_⟩
      · rw [show (gro_reach n (0 : Int32) X) = some r from r1, Option.bind_some, show (gro_reach n (1 : Int32) X) = some r' from r1', Option.bind_some, Option.bind_some]
        have e : (1 : Int32) + jmath_max r r' = jmath_max s s' := by
          have := max_ti (x := r) (y := r')
          rw [ti_eq, max_ti, ti_add] <;> rw [ti1] <;> omega
        rw [e]
      · rw [show mo_span n 103 (X.1 1 1) X = some s from r2, Option.bind_some, show mo_span n 104 (X.1 1 1) X = some s' from r2', Option.bind_some]
  · rw [if_neg c0]
    obtain ⟨s', g', q, t1, t2, t3, t4, t5⟩ := st_s n hn hP (K := fun v6 v7 v8 =>
      (if v6 = (1 : Int32) then
      (some v7)
      else
      (if v8 = 0 then
      (some (0 : Int32))
      else
      (some (1 : Int32))))) (a := v) n (mny X) 0 0 0 1 ti0 (by omega) (by omega)
    rw [if_neg (by decide)] at t5
    have t1' : gro_onOneCell n X = some s' := t1
    have t2' : gro_isMirror n X = some q := t2
    by_cases c1 : v = 1
    · rw [if_pos c1, t1', Option.bind_some]
      refine ⟨s', rfl, ?_⟩
      rw [if_neg (fun h => w2.mp h (by rw [c1, ti1]; omega)), if_neg c0, t4]
      simp only [if_pos c1]
    · rw [if_neg c1]
      by_cases c2 : v = 2
      · rw [if_pos c2, t2', Option.bind_some]
        refine ⟨if q = 0 then 0 else 1, ?_, ?_⟩
        · by_cases c3 : q = 0
          · rw [if_pos c3, if_pos c3]
          · rw [if_neg c3, if_neg c3]
        · rw [if_neg (fun h => w2.mp h (by rw [c2]; decide)), if_neg c0, t4]
          simp only [if_neg c1]
          rw [t5]
          by_cases c3 : q = 0
          · rw [if_pos c3]; rfl
          · rw [if_neg c3]; rfl
      · rw [if_neg c2]
        refine ⟨-1, rfl, ?_⟩
        rw [if_pos (w2.mpr (fun h => by
          have h0 : v.toInt ≠ 0 := fun e => c0 (ti_eq.mpr (by rw [e]; decide))
          have h1 : v.toInt ≠ 1 := fun e => c1 (ti_eq.mpr (by rw [e]; decide))
          have h2 : v.toInt ≠ 2 := fun e => c2 (ti_eq.mpr (by rw [e]; decide))
          omega))]
