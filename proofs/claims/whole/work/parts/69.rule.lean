/-! a text at work: the class's -/
theorem tok_cases {y : Int32} (h : tok y) : 18 ≤ y.toInt ∨ y.toInt < 6 ∨ y = 6 ∨ y = 7 ∨ y = 8 ∨ y = 9 ∨ y = 10 ∨ y = 11 ∨ y = 12 ∨ y = 13 ∨ y = 14 ∨ y = 15 ∨ y = 16 ∨ y = 17 := by
  simp only [ti_eq, Int32.reduceToInt]
  omega
theorem phi_hi {y : Int32} (h : 18 ≤ y.toInt) : phi y = y - 18 ∧ 0 ≤ (phi y).toInt := by
  have e : phi y = y - 18 := by unfold phi; rw [if_pos h]
  refine ⟨e, ?_⟩
  have := ti_rng y
  rw [e, ti_sub] <;> rw [show (18 : Int32).toInt = 18 by decide] <;> omega
theorem phi_lo {y : Int32} (h0 : tok y) (h : y.toInt < 6) : (phi y).toInt = -1 - y.toInt ∧ -1 - phi y = y := by
  have ne : ∀ z : Int32, 6 ≤ z.toInt → ¬ y = z := fun z hz e => by rw [e] at h; omega
  have e : phi y = -1 - y := by
    unfold phi
    rw [if_neg (by omega), if_neg (ne 6 (by decide)), if_neg (ne 7 (by decide)), if_neg (ne 8 (by decide)), if_neg (ne 9 (by decide)), if_neg (ne 10 (by decide)), if_neg (ne 11 (by decide)), if_neg (ne 12 (by decide)), if_neg (ne 13 (by decide)), if_neg (ne 14 (by decide)), if_neg (ne 15 (by decide)), if_neg (ne 16 (by decide)), if_neg (ne 17 (by decide))]
  have e2 : (phi y).toInt = -1 - y.toInt := by rw [e, ti_sub] <;> rw [ti_m1] <;> omega
  refine ⟨e2, ?_⟩
  rw [ti_eq, ti_sub] <;> rw [ti_m1] <;> omega
theorem phi_ne {y : Int32} (h : tok y) : phi y ≠ -59 ∧ phi y ≠ -63 := by
  rcases tok_cases h with e | e | e | e | e | e | e | e | e | e | e | e | e | e
  · have := (phi_hi e).2
    exact ⟨fun z => by rw [z] at this; exact absurd this (by decide), fun z => by rw [z] at this; exact absurd this (by decide)⟩
  · have := (phi_lo h e).1
    have h' : 0 ≤ y.toInt := h
    refine ⟨fun z => ?_, fun z => ?_⟩
    · rw [z, show (-59 : Int32).toInt = -59 by decide] at this; omega
    · rw [z, show (-63 : Int32).toInt = -63 by decide] at this; omega
  all_goals subst e; decide
theorem join_e {y a b : Int32} (h : 6 ≤ y.toInt ∧ y.toInt ≤ 15) : rul_joined (-(phi y)) a b = some (jnd y a b) := by
  rw [← both_s]
  rcases (show y = 6 ∨ y = 7 ∨ y = 8 ∨ y = 9 ∨ y = 10 ∨ y = 11 ∨ y = 12 ∨ y = 13 ∨ y = 14 ∨ y = 15 by simp only [ti_eq, Int32.reduceToInt]; omega) with e | e | e | e | e | e | e | e | e | e <;> subst e
  · rw [show -(phi 6) = 124 by decide]; rfl
  · rw [show -(phi 7) = 38 by decide]; rfl
  · rw [show -(phi 8) = 60 by decide]; rfl
  · rw [show -(phi 9) = 61 by decide]; rfl
  · rw [show -(phi 10) = 62 by decide]; rfl
  · rw [show -(phi 11) = 43 by decide]; rfl
  · rw [show -(phi 12) = 45 by decide]; rfl
  · rw [show -(phi 13) = 42 by decide]; rfl
  · rw [show -(phi 14) = 47 by decide]; rfl
  · rw [show -(phi 15) = 37 by decide]; rfl
theorem pop_s {X : St} {h : Nat} (hh : (X.1 20 4).toInt = ((h + 1 : Nat) : Int)) (hb : h < 128) : ∃ t : Int32, t.toInt = h ∧ rul_pop X = some (X.1 22 h, stI X 20 4 t) := by
  have e : (X.1 20 4 - 1).toInt = h := by rw [ti_sub] <;> rw [ti1] <;> omega
  refine ⟨X.1 20 4 - 1, e, ?_⟩
  unfold rul_pop
  rw [if_pos (by rw [ltk, ti0]; omega), stI_self, if_pos (by rw [inB_iff]; omega), nxk e, stI_at, if_neg (by omega)]
theorem push_s {X : St} {h : Nat} {v : Int32} (hh : (X.1 20 4).toInt = h) (hb : h < 128) : ∃ t : Int32, t.toInt = ((h + 1 : Nat) : Int) ∧ rul_push v X = some (stI (stI X 22 h v) 20 4 t) := by
  refine ⟨X.1 20 4 + 1, inc hh (by omega), ?_⟩
  unfold rul_push
  rw [if_pos (by rw [ltk, show (128 : Int32).toInt = 128 by decide]; omega), if_pos (by rw [inB_iff]; omega), nxk hh, Option.bind_some, stI_at, if_neg (by omega)]
/-- what a code is worth: the class's -/
theorem wo_s {nm : Nat → Int32} {y : Int32} {h : Nat} {X : St} {s' : Stk} (hh : (X.1 20 4).toInt = h) (hb : h < 128) (ty : tok y) (hn : ∀ i, i < 6 → X.1 23 i = nm i) (hr : rs nm y (h, fun i => X.1 22 i) = some s') : ∃ c X' X'', rul_worth (phi y) X = some (c, X') ∧ rul_push c X' = some X'' ∧ (X''.1 20 4).toInt = (s'.1 : Nat) ∧ X''.2 = X.2 ∧ (∀ i, X''.1 22 i = s'.2 i) ∧ (∀ o i, o ≠ 22 → ¬ (o = 20 ∧ i = 4) → X''.1 o i = X.1 o i) ∧ s'.1 ≤ h + 1 := by
  have ty' : 0 ≤ y.toInt := ty
  have fin : ∀ (c t t' : Int32) (g : Nat) (Z : St), g < 128 → t.toInt = g → Z = stI X 20 4 t ∨ (Z = X ∧ h = g) ∨ (∃ u, Z = stI (stI X 20 4 u) 20 4 t) → s' = (g + 1, updl (fun i => X.1 22 i) g c) → g ≤ h → ∃ X'', rul_push c Z = some X'' ∧ (X''.1 20 4).toInt = (s'.1 : Nat) ∧ X''.2 = X.2 ∧ (∀ i, X''.1 22 i = s'.2 i) ∧ (∀ o i, o ≠ 22 → ¬ (o = 20 ∧ i = 4) → X''.1 o i = X.1 o i) ∧ s'.1 ≤ h + 1 := by
    intro c t t' g Z hg ht hZ hs hgh
    have z1 : (Z.1 20 4).toInt = g := by
      rcases hZ with e | ⟨e, e2⟩ | ⟨u, e⟩
      · rw [e, stI_self]; exact ht
      · rw [e, hh, e2]
      · rw [e, stI_self]; exact ht
    have z2 : ∀ o i, ¬ (o = 20 ∧ i = 4) → Z.1 o i = X.1 o i := by
      intro o i ho
      rcases hZ with e | ⟨e, e2⟩ | ⟨u, e⟩
      · rw [e, stI_at, if_neg ho]
      · rw [e]
      · rw [e, stI_at, if_neg ho, stI_at, if_neg ho]
    have z3 : Z.2 = X.2 := by
      rcases hZ with e | ⟨e, e2⟩ | ⟨u, e⟩ <;> rw [e] <;> rfl
    obtain ⟨q, q1, q2⟩ := push_s (v := c) z1 hg
    refine ⟨_, q2, ?_, z3, fun i => ?_, fun o i o1 o2 => ?_, ?_⟩
    · rw [stI_self, q1, hs]
    · rw [stI_at, if_neg (by omega), stI_at, hs]
      show _ = if i = g then c else X.1 22 i
      by_cases e : i = g
      · rw [if_pos ⟨rfl, e⟩, if_pos e]
      · rw [if_neg (fun z => e z.2), if_neg e]; exact z2 _ _ (by omega)
    · rw [stI_at, if_neg o2, stI_at, if_neg (by omega)]; exact z2 _ _ o2
    · rw [hs]; show g + 1 ≤ h + 1; omega
  unfold rul_worth
  unfold rs at hr
  by_cases c1 : 18 ≤ y.toInt
  · rw [if_pos c1] at hr
    injection hr with hr
    obtain ⟨p1, p2⟩ := phi_hi c1
    rw [if_neg (by rw [ltk, ti0]; omega), p1]
    obtain ⟨X'', q⟩ := fin (y - 18) (X.1 20 4) 0 h X hb hh (Or.inr (Or.inl ⟨rfl, rfl⟩)) hr.symm (Nat.le_refl _)
    exact ⟨_, X, X'', rfl, q⟩
  · rw [if_neg c1] at hr
    by_cases c2 : y.toInt < 6
    · rw [if_pos c2] at hr
      injection hr with hr
      obtain ⟨p1, p2⟩ := phi_lo ty c2
      have hyn := nx_ti (x := y) ty
      rw [if_pos (by rw [ltk, ti0]; omega), if_neg (by rw [ltk, show (-6 : Int32).toInt = -6 by decide]; omega), p2, if_pos (by rw [inB_iff]; omega), hn _ (by omega)]
      obtain ⟨X'', q⟩ := fin (nm (nx y)) (X.1 20 4) 0 h X hb hh (Or.inr (Or.inl ⟨rfl, rfl⟩)) hr.symm (Nat.le_refl _)
      exact ⟨_, X, X'', rfl, q⟩
    · rw [if_neg c2] at hr
      have lo : (phi y).toInt < -6 := by
        rcases tok_cases ty with e | e | e | e | e | e | e | e | e | e | e | e | e | e
        · exact absurd e c1
        · exact absurd e c2
        all_goals subst e; decide
      rw [if_pos (by rw [ltk, ti0]; omega), if_pos (by rw [ltk, show (-6 : Int32).toInt = -6 by decide]; omega)]
      by_cases c3 : y = 16
      · rw [if_pos c3] at hr
        by_cases c0 : h = 0
        · rw [if_pos c0] at hr; cases hr
        · rw [if_neg c0] at hr
          injection hr with hr
          obtain ⟨g, rfl⟩ : ∃ g, h = g + 1 := ⟨h - 1, by omega⟩
          obtain ⟨t, t1, t2⟩ := pop_s hh (by omega)
          rw [t2, Option.bind_some]
          dsimp only
          rw [c3, if_neg (by decide), if_pos (by decide)]
          rw [show g + 1 - 1 = g from rfl] at hr
          by_cases c5 : X.1 22 g = 0
          · rw [if_pos c5]
            simp only [if_pos c5] at hr
            obtain ⟨X'', q⟩ := fin 1 t 0 g _ (by omega) t1 (Or.inl rfl) hr.symm (by omega)
            exact ⟨_, _, X'', rfl, q⟩
          · rw [if_neg c5]
            simp only [if_neg c5] at hr
            obtain ⟨X'', q⟩ := fin 0 t 0 g _ (by omega) t1 (Or.inl rfl) hr.symm (by omega)
            exact ⟨_, _, X'', rfl, q⟩
      · rw [if_neg c3] at hr
        by_cases c4 : y = 17
        · rw [if_pos c4] at hr
          by_cases c0 : h = 0
          · rw [if_pos c0] at hr; cases hr
          · rw [if_neg c0] at hr
            injection hr with hr
            obtain ⟨g, rfl⟩ : ∃ g, h = g + 1 := ⟨h - 1, by omega⟩
            obtain ⟨t, t1, t2⟩ := pop_s hh (by omega)
            rw [t2, Option.bind_some]
            dsimp only
            rw [c4, if_pos (by decide)]
            rw [show g + 1 - 1 = g from rfl] at hr
            obtain ⟨X'', q⟩ := fin (-(X.1 22 g)) t 0 g _ (by omega) t1 (Or.inl rfl) hr.symm (by omega)
            exact ⟨_, _, X'', rfl, q⟩
        · rw [if_neg c4] at hr
          by_cases c0 : h < 2
          · rw [if_pos c0] at hr; cases hr
          · rw [if_neg c0] at hr
            injection hr with hr
            obtain ⟨g, rfl⟩ : ∃ g, h = g + 2 := ⟨h - 2, by omega⟩
            have yr : 6 ≤ y.toInt ∧ y.toInt ≤ 15 := by
              have h6 : y.toInt ≠ 16 := fun e => c3 (ti_eq.mpr (by rw [e]; decide))
              have h7 : y.toInt ≠ 17 := fun e => c4 (ti_eq.mpr (by rw [e]; decide))
              omega
            have nb : phi y ≠ -126 ∧ phi y ≠ -33 := by
              rcases tok_cases ty with e | e | e | e | e | e | e | e | e | e | e | e | e | e
              · exact absurd e c1
              · exact absurd e c2
              all_goals first | exact absurd e c3 | exact absurd e c4 | (subst e; decide)
            obtain ⟨t, t1, t2⟩ := pop_s (h := g + 1) hh (by omega)
            obtain ⟨u, u1, u2⟩ := pop_s (X := stI X 20 4 t) (h := g) (by rw [stI_self]; exact t1) (by omega)
            rw [t2, Option.bind_some]
            dsimp only
            rw [if_neg nb.1, if_neg nb.2, u2, Option.bind_some]
            dsimp only
            rw [join_e yr, Option.bind_some]
            rw [stI_at, if_neg (by omega)]
            rw [show g + 2 - 1 = g + 1 from rfl, show g + 2 - 2 = g from rfl] at hr
            obtain ⟨X'', q⟩ := fin (jnd y (X.1 22 g) (X.1 22 (g + 1))) u 0 g _ (by omega) u1 (Or.inr (Or.inr ⟨t, rfl⟩)) hr.symm (by omega)
            exact ⟨_, _, X'', rfl, q⟩
/-- the class goes over a part of the text -/
theorem tx1 {n : Nat} {nm : Nat → Int32} {L : Nat} : ∀ (l : List Int32) (w h k : Nat) (v : Int32) (X : St) (s' : Stk), v.toInt = k → (X.1 20 3).toInt = L → k + l.length < L → L ≤ 128 → h + l.length ≤ 128 → (X.1 20 4).toInt = h → (∀ i, i < l.length → X.1 21 (k + i) = phi (l.getD i 0)) → (∀ y ∈ l, tok y) → (∀ i, i < 6 → X.1 23 i = nm i) → run nm l (h, fun i => X.1 22 i) = some s' → ∃ X' v', rul_byText_L9 n (w + l.length) 0 v X = rul_byText_L9 n w 0 v' X' ∧ v'.toInt = ((k + l.length : Nat) : Int) ∧ (X'.1 20 4).toInt = (s'.1 : Nat) ∧ X'.2 = X.2 ∧ (∀ i, X'.1 22 i = s'.2 i) ∧ (∀ o i, o ≠ 22 → ¬ (o = 20 ∧ i = 4) → X'.1 o i = X.1 o i) := by
  intro l
  induction l with
  | nil =>
    intro w h k v X s' h1 h2 h3 h4 h5 h6 h7 h8 h9 h10
    injection h10 with h10
    exact ⟨X, v, rfl, h1, by rw [← h10]; exact h6, rfl, fun i => by rw [← h10], fun _ _ _ _ => rfl⟩
  | cons y l ih =>
    intro w h k v X s' h1 h2 h3 h4 h5 h6 h7 h8 h9 h10
    rw [List.length_cons] at h3 h5 h7
    have h10' : (rs nm y (h, fun i => X.1 22 i)).bind (run nm l) = some s' := h10
    cases hr : rs nm y (h, fun i => X.1 22 i) with
    | none => rw [hr] at h10'; cases h10'
    | some t =>
      rw [hr] at h10'
      have ty := h8 y List.mem_cons_self
      obtain ⟨c, Y, Z, q1, q2, q3, q4, q5, q6, q7⟩ := wo_s h6 (by omega) ty h9 hr
      obtain ⟨X', v', r1, r2, r3, r4, r5, r6⟩ := ih w t.1 (k + 1) (v + 1) Z s' (inc h1 (by omega)) (by rw [q6 _ _ (by omega) (by omega)]; exact h2) (by omega) h4 (by omega) q3 (fun i hi => by
        rw [q6 _ _ (by omega) (by omega), show k + 1 + i = k + (i + 1) by omega, h7 (i + 1) (by omega)]
        rfl) (fun z hz => h8 z (List.mem_cons_of_mem _ hz)) (fun i hi => by rw [q6 _ _ (by omega) (by omega)]; exact h9 i hi) (by
          rw [← h10']
          show run nm l (t.1, fun i => Z.1 22 i) = run nm l t
          have : (fun i => Z.1 22 i) = t.2 := funext q5
          rw [this])
      obtain ⟨n1, n2⟩ := phi_ne ty
      have e0 : X.1 21 k = phi y := h7 0 (by omega)
      refine ⟨X', v', ?_, by rw [r2, List.length_cons]; congr 1; omega, r3, r4.trans q4, r5, fun o i o1 o2 => (r6 o i o1 o2).trans (q6 o i o1 o2)⟩
      rw [← r1, List.length_cons]
      show rul_byText_L9_B n (rul_byText_L9 n (w + l.length)) 0 v X = _
      unfold rul_byText_L9_B
      rw [if_pos (by rw [ltk]; omega), if_pos (by rw [inB_iff]; omega), nxk h1, e0, if_neg n1]
      unfold rul_byText_J39
      rw [if_neg n1, if_neg n2]
      unfold rul_byText_J76
      rw [if_pos rfl, q1, Option.bind_some]
      dsimp only
      rw [q2, Option.bind_some]
/-- the class goes past a part of the text -/
theorem tx2 {n : Nat} {L : Nat} : ∀ (m w k : Nat) (v : Int32) (X : St), v.toInt = k → (X.1 20 3).toInt = L → k + m < L → L ≤ 128 → (∀ i, i < m → X.1 21 (k + i) ≠ -59) → ∃ v', rul_byText_L9 n (w + m) 1 v X = rul_byText_L9 n w 1 v' X ∧ v'.toInt = ((k + m : Nat) : Int) := by
  intro m
  induction m with
  | zero => intro w k v X h1 h2 h3 h4 h5; exact ⟨v, rfl, h1⟩
  | succ m ih =>
    intro w k v X h1 h2 h3 h4 h5
    obtain ⟨v', r1, r2⟩ := ih w (k + 1) (v + 1) X (inc h1 (by omega)) h2 (by omega) h4 (fun i hi => by rw [show k + 1 + i = k + (i + 1) by omega]; exact h5 (i + 1) (by omega))
    have n1 := h5 0 (by omega)
    rw [Nat.add_zero] at n1
    refine ⟨v', ?_, by rw [r2]; congr 1; omega⟩
    rw [← r1]
    show rul_byText_L9_B n (rul_byText_L9 n (w + m)) 1 v X = _
    unfold rul_byText_L9_B
    rw [if_pos (by rw [ltk]; omega), if_pos (by rw [inB_iff]; omega), nxk h1, if_neg n1]
    unfold rul_byText_J39 rul_byText_J76
    rw [if_neg n1, if_neg (c := (1 : Int32) = 0) (by decide), if_neg (c := (1 : Int32) = 0) (by decide), ite_self]
