/-! each call keeps the rule -/
/-- nothing of the one is of the other -/
def dsj (R F R' F' : List (Nat × Nat)) : Bool := R.all (fun p => R'.all (fun q => decide (p.2 < q.1) || decide (q.2 < p.1)) && F'.all (fun q => decide (q.1 < p.1) || decide (p.2 < q.1))) && F.all (fun p => R'.all (fun q => decide (p.1 < q.1) || decide (q.2 < p.1)) && F'.all (fun q => !(decide (p = q))))
theorem dsj_s {R F R' F' : List (Nat × Nat)} (h : dsj R F R' F' = true) : ∀ o i, wr R F o i → ¬ wr R' F' o i := by
  unfold dsj at h
  simp only [Bool.and_eq_true, Bool.or_eq_true, List.all_eq_true, decide_eq_true_eq, Bool.not_eq_true', decide_eq_false_iff_not] at h
  obtain ⟨h1, h2⟩ := h
  rintro o i (⟨p, hp, p1, p2⟩ | hp) (⟨q, hq, q1, q2⟩ | hq)
  · have := (h1 p hp).1 q hq
    omega
  · have := (h1 p hp).2 _ hq
    dsimp only at this
    omega
  · have := (h2 _ hp).1 q hq
    dsimp only at this
    omega
  · exact (h2 _ hp).2 _ hq rfl
def low (R F : List (Nat × Nat)) : Bool := R.all (fun p => decide (p.2 < 102)) && F.all (fun p => decide (p.1 < 102))
theorem low_s {R F : List (Nat × Nat)} (h : low R F = true) : ∀ o i, 102 ≤ o → ¬ wr R F o i := by
  unfold low at h
  simp only [Bool.and_eq_true, List.all_eq_true, decide_eq_true_eq] at h
  rintro o i ho (⟨p, hp, p1, p2⟩ | hp)
  · have := h.1 p hp
    omega
  · have := h.2 _ hp
    dsimp only at this
    omega
theorem kd {P : Nat → Nat → Prop} {RP FP R F R' F' : List (Nat × Nat)} {X X1 X2 : St} (hl : ∀ o i, P o i → wr RP FP o i) (h1 : fr R F X X1) (h2 : fr R' F' X1 X2) (d : (dsj RP FP R F && dsj RP FP R' F') = true) : agI P X X2 := by
  rw [Bool.and_eq_true] at d
  exact keepI h1 h2 (fun o i h => dsj_s d.1 o i (hl o i h)) (fun o i h => dsj_s d.2 o i (hl o i h))
theorem kdL {P : Nat → Nat → Prop} {RP FP R F R' F' : List (Nat × Nat)} {X X1 X2 : St} (hl : ∀ o i, P o i → wr RP FP o i) (h1 : fr R F X X1) (h2 : fr R' F' X1 X2) (d : (dsj RP FP R F && dsj RP FP R' F') = true) : agL P X X2 := by
  rw [Bool.and_eq_true] at d
  exact keepL h1 h2 (fun o i h => dsj_s d.1 o i (hl o i h)) (fun o i h => dsj_s d.2 o i (hl o i h))
abbrev rOne (o i : Nat) : Prop := o = 1 ∧ i = 1
theorem lOne : ∀ o i, rOne o i → wr [] [(1, 1)] o i := by
  intro o i h
  simp only [wrC, wrF, wrN]
  omega
theorem lPool : ∀ o i, rPool o i → wr [(3, 11), (82, 83), (103, 111)] [(1, 1), (102, 0)] o i := by
  intro o i h
  simp only [wrC, wrF, wrN]
  omega
theorem lChg : ∀ o i, rChg o i → wr [(13, 16), (127, 127)] [(12, 5), (12, 6), (102, 34), (102, 35)] o i := by
  intro o i h
  simp only [wrC, wrF, wrN]
  omega
theorem lLed : ∀ o i, rLed o i → wr [(84, 84), (123, 123)] [] o i := by
  intro o i h
  simp only [wrC, wrF, wrN]
  omega
theorem lTape : ∀ o i, rTape o i → wr [(112, 112), (18, 18)] [(102, 10), (17, 2)] o i := by
  intro o i h
  simp only [wrC, wrF, wrN]
  omega
theorem lSh : ∀ o i, rSh o i → wr [(92, 94), (130, 131)] [(88, 2)] o i := by
  intro o i h
  simp only [wrC, wrF, wrN]
  omega
theorem lLong : ∀ o i, rLong o i → wr [(96, 101), (132, 132)] [] o i := by
  intro o i h
  simp only [wrC, wrF, wrN]
  omega
theorem lWy : ∀ o i, rWy o i → wr [(89, 90), (128, 129)] [(102, 37), (102, 39), (88, 2), (88, 3)] o i := by
  intro o i h
  simp only [wrC, wrF, wrN]
  omega
theorem lThen : ∀ o i, rThen o i → wr [(85, 87), (124, 126)] [(102, 29), (102, 30), (81, 6)] o i := by
  intro o i h
  simp only [wrC, wrF, wrN]
  omega
theorem lSlp : ∀ o i, rSlp o i → wr [] [(102, 48)] o i := by
  intro o i h
  simp only [wrC, wrF, wrN]
  omega
theorem lLaw : ∀ o i, rLaw o i → wr [(21, 21), (113, 116)] [(20, 3), (102, 12), (102, 13)] o i := by
  intro o i h
  simp only [wrC, wrF, wrN]
  omega
theorem wr_sub {R F R' F' : List (Nat × Nat)} (h : (R.all (fun p => R'.any (fun q => decide (q.1 ≤ p.1) && decide (p.2 ≤ q.2))) && F.all (fun p => F'.any (fun q => decide (q = p)))) = true) {o i : Nat} (hw : wr R F o i) : wr R' F' o i := by
  simp only [Bool.and_eq_true, List.all_eq_true, List.any_eq_true, decide_eq_true_eq] at h
  rcases hw with ⟨p, hp, p1, p2⟩ | hp
  · obtain ⟨q, hq, q1, q2⟩ := h.1 p hp
    exact Or.inl ⟨q, hq, by omega, by omega⟩
  · obtain ⟨q, hq, q1⟩ := h.2 _ hp
    rw [q1] at hq
    exact Or.inr hq
theorem wr_but {R F : List (Nat × Nat)} {o i a b : Nat} (hw : wr R F o i) (h : ¬ (o = a ∧ i = b)) : wr R (F.filter (fun p => !(decide (p = (a, b))))) o i := by
  rcases hw with hp | hp
  · exact Or.inl hp
  · refine Or.inr (List.mem_filter.mpr ⟨hp, ?_⟩)
    rw [Bool.not_eq_true', decide_eq_false_iff_not]
    intro e
    injection e with e1 e2
    exact h ⟨e1, e2⟩
def upp (R F : List (Nat × Nat)) : Bool := R.all (fun p => decide (102 ≤ p.1)) && F.all (fun p => decide (102 ≤ p.1))
theorem upp_s {R F : List (Nat × Nat)} (h : upp R F = true) : ∀ o i, o < 102 → ¬ wr R F o i := by
  unfold upp at h
  simp only [Bool.and_eq_true, List.all_eq_true, decide_eq_true_eq] at h
  rintro o i ho (⟨p, hp, p1, p2⟩ | hp)
  · have := h.1 p hp
    omega
  · have := h.2 _ hp
    dsimp only at this
    omega
theorem lAll : ∀ o i, rAll o i → wr [(3, 11), (13, 16), (18, 18), (21, 21), (82, 87), (89, 90), (92, 94), (103, 116), (123, 131)] [(1, 1), (12, 5), (12, 6), (17, 2), (20, 3), (81, 6), (88, 2), (88, 3), (102, 0), (102, 10), (102, 12), (102, 13), (102, 29), (102, 30), (102, 34), (102, 35), (102, 37), (102, 39), (102, 48)] o i := by
  intro o i h
  rcases h with h | h | h | h | h | h | h | h | h
  · exact wr_sub (by decide) (lPool o i h)
  · exact wr_sub (by decide) (lChg o i h)
  · exact wr_sub (by decide) (lLed o i h)
  · exact wr_sub (by decide) (lTape o i h)
  · exact wr_sub (by decide) (lSh o i h)
  · exact wr_sub (by decide) (lWy o i h)
  · exact wr_sub (by decide) (lThen o i h)
  · exact wr_sub (by decide) (lSlp o i h)
  · exact wr_sub (by decide) (lLaw o i h)
theorem plainQ {f g : St → Option (Int32 × St)} {R F R' F' : List (Nat × Nat)} (hq : ∀ X, Inv X → ∃ r X1, f X = some (r, X1) ∧ ∀ Y, Mo X Y → ∃ Y1, g Y = some (r, Y1)) (ff : ∀ X, PO (fun r => fr R F X r.2) (f X)) (fl : ∀ X, PO (fun r => fq R F X r.2) (f X)) (gg : ∀ X, PO (fun r => fr R' F' X r.2) (g X)) (d : (low R F && (dsj [(3, 11), (13, 16), (18, 18), (21, 21), (82, 87), (89, 90), (92, 94), (103, 116), (123, 131)] [(1, 1), (12, 5), (12, 6), (17, 2), (20, 3), (81, 6), (88, 2), (88, 3), (102, 0), (102, 10), (102, 12), (102, 13), (102, 29), (102, 30), (102, 34), (102, 35), (102, 37), (102, 39), (102, 48)] R F && (dsj [(3, 11), (13, 16), (18, 18), (21, 21), (82, 87), (89, 90), (92, 94), (103, 116), (123, 131)] [(1, 1), (12, 5), (12, 6), (17, 2), (20, 3), (81, 6), (88, 2), (88, 3), (102, 0), (102, 10), (102, 12), (102, 13), (102, 29), (102, 30), (102, 34), (102, 35), (102, 37), (102, 39), (102, 48)] R' F' && dsj [(96, 101), (132, 132)] [] R' F'))) = true) : OWW Inv f g := by
  simp only [Bool.and_eq_true] at d
  obtain ⟨d1, d2, d3, d4⟩ := d
  exact liftQ (E := fun _ _ => True) (fun X hX => by
    obtain ⟨r, X1, e, h⟩ := hq X hX
    exact ⟨r, X1, e, fun Y hY => by
      obtain ⟨Y1, h1⟩ := h Y hY
      exact ⟨Y1, h1, trivial⟩⟩) ff fl gg (fun o i h => h.elim (fun h => dsj_s d2 o i (lAll o i h)) (fun h => low_s d1 o i h)) (fun Y Y1 _ _ o i h hw => absurd hw (dsj_s d3 o i (lAll o i h))) (fun o i h => dsj_s d4 o i (lLong o i h))
theorem keptQ (a : Nat) {f g : St → Option (Int32 × St)} {R F R' F' : List (Nat × Nat)} (hq : ∀ X, Inv X → ∃ r X1, f X = some (r, X1) ∧ ∀ Y, Mo X Y → ∃ Y1, g Y = some (r, Y1) ∧ ∀ i, Y1.1 a i = Y.1 a i) (ff : ∀ X, PO (fun r => fr R F X r.2) (f X)) (fl : ∀ X, PO (fun r => fq R F X r.2) (f X)) (gg : ∀ X, PO (fun r => fr ((a, a) :: R') F' X r.2) (g X)) (d : (low R F && (dsj [(3, 11), (13, 16), (18, 18), (21, 21), (82, 87), (89, 90), (92, 94), (103, 116), (123, 131)] [(1, 1), (12, 5), (12, 6), (17, 2), (20, 3), (81, 6), (88, 2), (88, 3), (102, 0), (102, 10), (102, 12), (102, 13), (102, 29), (102, 30), (102, 34), (102, 35), (102, 37), (102, 39), (102, 48)] R F && (dsj [(3, 11), (13, 16), (18, 18), (21, 21), (82, 87), (89, 90), (92, 94), (103, 116), (123, 131)] [(1, 1), (12, 5), (12, 6), (17, 2), (20, 3), (81, 6), (88, 2), (88, 3), (102, 0), (102, 10), (102, 12), (102, 13), (102, 29), (102, 30), (102, 34), (102, 35), (102, 37), (102, 39), (102, 48)] R' F' && dsj [(96, 101), (132, 132)] [] ((a, a) :: R') F'))) = true) : OWW Inv f g := by
  simp only [Bool.and_eq_true] at d
  obtain ⟨d1, d2, d3, d4⟩ := d
  exact liftQ (E := fun Y Y1 => ∀ i, Y1.1 a i = Y.1 a i) hq ff fl gg (fun o i h => h.elim (fun h => dsj_s d2 o i (lAll o i h)) (fun h => low_s d1 o i h)) (fun Y Y1 _ hE o i h hw => by
    rcases wrC.mp hw with e | e
    · have : o = a := by omega
      rw [this]; exact hE i
    · exact absurd e (dsj_s d3 o i (lAll o i h))) (fun o i h => dsj_s d4 o i (lLong o i h))
theorem lift0 (n : Nat) (hn : 4096 ≤ n) (a0 : Int32) (a1 : Int32) : OWW Inv (el_swimmer a0 a1) (mo_swimmer a0 a1) := by
  intro X hX
  have hX0 := hX
  obtain ⟨x1, x2, x3, x4, x5, x6, x7, x8, x9, x10, x11⟩ := hX
  obtain ⟨v, X1, X2, e1, e2, h⟩ := op_swimmer a0 a1 X x1.1 x1.2.1 x1.2.2.1 x1.2.2.2
  have f1 : fr wR_el_swimmer wF_el_swimmer X X1 := fr_el_swimmer a0 a1 X _ e1
  have f2 : fr wR_mo_swimmer wF_mo_swimmer X1 X2 := fr_mo_swimmer a0 a1 X1 _ e2
  rcases h with h | ⟨h1, h2⟩
  · exact ⟨v, X1, X2, e1, e2, by rw [h]; exact hX0⟩
  · have m : (X.1 1 1).toInt ≤ (X2.1 1 1).toInt := by omega
    have lo : ∀ o i, o < 102 → X2.1 o i = X1.1 o i := fun o i ho => (f2 o i (upp_s (by decide) o i ho)).1
    have hB : IBnd X2 := by
      rcases el_swm a0 a1 X x1.1.2.1 x1.1.2.2.1 with ⟨v', z⟩ | ⟨v', q, z1, z2, z3⟩
      · rw [z] at e1
        injection e1 with e1
        injection e1 with _ e1
        rw [lo 1 1 (by omega), ← e1] at h2
        omega
      · rw [z3] at e1
        injection e1 with e1
        injection e1 with _ e1
        have hb := (jn_bnd z1 x1.1.2.1 z2 x2 x1.2.2.2).1
        rw [e1] at hb
        intro w k hv
        have w8 : w ≤ 8 := by rcases hv with h | h <;> omega
        rw [lo 1 1 (by omega)] at hv
        rw [lo (3 + w) k (by omega)]
        exact hb w k hv
    exact ⟨v, X1, X2, e1, e2, h1, hB, kChg (kd lChg f1 f2 (by decide)) m x3, kLed (kd lLed f1 f2 (by decide)) x4, kTape (kd lTape f1 f2 (by decide)) x5, kSh (kd lSh f1 f2 (by decide)) (kdL lLong f1 f2 (by decide)) x6, kWy (kd lWy f1 f2 (by decide)) x7, kThen (kd lThen f1 f2 (by decide)) x8, kOld (kd lThen f1 f2 (by decide)) m x9, kSlp (kd lSlp f1 f2 (by decide)) x10, kLaw (kd lLaw f1 f2 (by decide)) x11⟩
theorem lift1 (n : Nat) (hn : 4096 ≤ n) (a0 : Int32) (a1 : Int32) (a2 : Int32) : OWW Inv (el_swimmers n a0 a1 a2) (mo_swimmers n a0 a1 a2) := by
  intro X hX
  have hX0 := hX
  obtain ⟨x1, x2, x3, x4, x5, x6, x7, x8, x9, x10, x11⟩ := hX
  obtain ⟨v, X1, X2, e1, e2, h1, l, l1, l2, l3⟩ := op_swimmers n hn a0 a1 a2 X x1 x6 x7
  have f1 : fr wR_el_swimmers wF_el_swimmers X X1 := fr_el_swimmers n a0 a1 a2 X _ e1
  have f2 : fr wR_mo_swimmers wF_mo_swimmers X1 X2 := fr_mo_swimmers n a0 a1 a2 X1 _ e2
  obtain ⟨b1, b2⟩ := jns_bnd l X l1 x1.1.2.1 l3 x2 x1.2.2.2
  have m : (X.1 1 1).toInt ≤ (X2.1 1 1).toInt := by
    rw [l2 1 1 (by omega)]
    exact b2
  have hB : IBnd X2 := by
    intro w k hv
    have w8 : w ≤ 8 := by rcases hv with h | h <;> omega
    rw [l2 1 1 (by omega)] at hv
    rw [l2 (3 + w) k (by omega)]
    exact b1 w k hv
  exact ⟨v, X1, X2, e1, e2, h1, hB, kChg (kd lChg f1 f2 (by decide)) m x3, kLed (kd lLed f1 f2 (by decide)) x4, kTape (kd lTape f1 f2 (by decide)) x5, kSh (kd lSh f1 f2 (by decide)) (kdL lLong f1 f2 (by decide)) x6, kWy (kd lWy f1 f2 (by decide)) x7, kThen (kd lThen f1 f2 (by decide)) x8, kOld (kd lThen f1 f2 (by decide)) m x9, kSlp (kd lSlp f1 f2 (by decide)) x10, kLaw (kd lLaw f1 f2 (by decide)) x11⟩
theorem lift2 (n : Nat) (hn : 4096 ≤ n) (a0 : Int32) (a1 : Int32) (a2 : Int32) : OWW Inv (el_mend n a0 a1 a2) (mo_mend n a0 a1 a2) := by
  intro X hX
  have hX0 := hX
  obtain ⟨x1, x2, x3, x4, x5, x6, x7, x8, x9, x10, x11⟩ := hX
  obtain ⟨v, X1, X2, e1, e2, h1, h2, h3⟩ := op_mend n hn a0 a1 a2 X x1 x2 x3
  have f1 : fr wR_el_mend wF_el_mend X X1 := fr_el_mend n a0 a1 a2 X _ e1
  have f2 : fr wR_mo_mend wF_mo_mend X1 X2 := fr_mo_mend n a0 a1 a2 X1 _ e2
  have m : (X.1 1 1).toInt ≤ (X2.1 1 1).toInt := by
    rw [show X2.1 1 1 = X.1 1 1 from kd (P := rOne) lOne f1 f2 (by decide) 1 1 ⟨rfl, rfl⟩]
    exact Int.le_refl _
  exact ⟨v, X1, X2, e1, e2, h1, h2, h3, kLed (kd lLed f1 f2 (by decide)) x4, kTape (kd lTape f1 f2 (by decide)) x5, kSh (kd lSh f1 f2 (by decide)) (kdL lLong f1 f2 (by decide)) x6, kWy (kd lWy f1 f2 (by decide)) x7, kThen (kd lThen f1 f2 (by decide)) x8, kOld (kd lThen f1 f2 (by decide)) m x9, kSlp (kd lSlp f1 f2 (by decide)) x10, kLaw (kd lLaw f1 f2 (by decide)) x11⟩
theorem lift3 (n : Nat) (hn : 4096 ≤ n) (a0 : Int32) (a1 : Int32) : ORR Inv (el_of a0 a1) (mo_of a0 a1) := by
  intro X hX
  obtain ⟨x1, x2, x3, x4, x5, x6, x7, x8, x9, x10, x11⟩ := hX
  exact op_of a0 a1 X x1.1 x1.2.1
theorem lift4 (n : Nat) (hn : 4096 ≤ n) (a0 : Int32) : OWW Inv (el_feed a0) (mo_feed a0) := by
  intro X hX
  have hX0 := hX
  obtain ⟨x1, x2, x3, x4, x5, x6, x7, x8, x9, x10, x11⟩ := hX
  obtain ⟨v, X1, X2, e1, e2, h⟩ := op_feed a0 X x5
  have f1 : fr wR_el_feed wF_el_feed X X1 := fr_el_feed a0 X _ e1
  have f2 : fr wR_mo_feed wF_mo_feed X1 X2 := fr_mo_feed a0 X1 _ e2
  have m : (X.1 1 1).toInt ≤ (X2.1 1 1).toInt := by
    rw [show X2.1 1 1 = X.1 1 1 from kd (P := rOne) lOne f1 f2 (by decide) 1 1 ⟨rfl, rfl⟩]
    exact Int.le_refl _
  exact ⟨v, X1, X2, e1, e2, kPool (kd lPool f1 f2 (by decide)) x1, kBnd (kd lPool f1 f2 (by decide)) x2, kChg (kd lChg f1 f2 (by decide)) m x3, kLed (kd lLed f1 f2 (by decide)) x4, h, kSh (kd lSh f1 f2 (by decide)) (kdL lLong f1 f2 (by decide)) x6, kWy (kd lWy f1 f2 (by decide)) x7, kThen (kd lThen f1 f2 (by decide)) x8, kOld (kd lThen f1 f2 (by decide)) m x9, kSlp (kd lSlp f1 f2 (by decide)) x10, kLaw (kd lLaw f1 f2 (by decide)) x11⟩
theorem lift5 (n : Nat) (hn : 4096 ≤ n) : OWW Inv (el_law n) (mo_law n) := by
  intro X hX
  have hX0 := hX
  obtain ⟨x1, x2, x3, x4, x5, x6, x7, x8, x9, x10, x11⟩ := hX
  obtain ⟨v, X1, e1, h⟩ := op_law n hn X x5 x11
  have f1 : fr wR_el_law wF_el_law X X1 := fr_el_law n X _ e1
  have l1 : X1.2 = X.2 := fq_el_law n X _ e1
  obtain ⟨X2, e2, h2⟩ := h X1 ⟨l1, fun o i ho => (f1 o i (low_s (by decide) o i ho)).1⟩
  have f2 : fr wR_mo_law wF_mo_law X1 X2 := fr_mo_law n X1 _ e2
  obtain ⟨h3, h4⟩ := h2 X2 (fun o i ho => (f2 o i (upp_s (by decide) o i ho)).1) (fun _ _ _ => rfl)
  have m : (X.1 1 1).toInt ≤ (X2.1 1 1).toInt := by
    rw [show X2.1 1 1 = X.1 1 1 from kd (P := rOne) lOne f1 f2 (by decide) 1 1 ⟨rfl, rfl⟩]
    exact Int.le_refl _
  exact ⟨v, X1, X2, e1, e2, kPool (kd lPool f1 f2 (by decide)) x1, kBnd (kd lPool f1 f2 (by decide)) x2, kChg (kd lChg f1 f2 (by decide)) m x3, kLed (kd lLed f1 f2 (by decide)) x4, h3, kSh (kd lSh f1 f2 (by decide)) (kdL lLong f1 f2 (by decide)) x6, kWy (kd lWy f1 f2 (by decide)) x7, kThen (kd lThen f1 f2 (by decide)) x8, kOld (kd lThen f1 f2 (by decide)) m x9, kSlp (kd lSlp f1 f2 (by decide)) x10, h4⟩
theorem lift6 (n : Nat) (hn : 4096 ≤ n) (a0 : Int32) (a1 : Int32) (a2 : Int32) : OWW Inv (el_loses n a0 a1 a2) (mo_loses n a0 a1 a2) := by
  exact plainQ (fun X hX => by
    obtain ⟨x1, x2, x3, x4, x5, x6, x7, x8, x9, x10, x11⟩ := hX
    exact op_loses n hn a0 a1 a2 X x1.1 x2 x11) (fun X => fr_el_loses n a0 a1 a2 X) (fun X => fq_el_loses n a0 a1 a2 X) (fun X => fr_mo_loses n a0 a1 a2 X) (by decide)
theorem lift7 (n : Nat) (hn : 4096 ≤ n) (a0 : Int32) (a1 : Int32) : OWW Inv (el_routine n a0 a1) (mo_routine n a0 a1) := by
  exact plainQ (fun X hX => by
    obtain ⟨x1, x2, x3, x4, x5, x6, x7, x8, x9, x10, x11⟩ := hX
    exact op_routine n hn a0 a1 X x1.1 x2 x6 x7 x10 x11) (fun X => fr_el_routine n a0 a1 X) (fun X => fq_el_routine n a0 a1 X) (fun X => fr_mo_routine n a0 a1 X) (by decide)
theorem lift8 (n : Nat) (hn : 4096 ≤ n) (a0 : Int32) (a1 : Int32) (a2 : Int32) : OWW Inv (el_off n a0 a1 a2) (mo_off n a0 a1 a2) := by
  exact plainQ (fun X hX => by
    obtain ⟨x1, x2, x3, x4, x5, x6, x7, x8, x9, x10, x11⟩ := hX
    exact op_off n hn a0 a1 a2 X x1.1 x6 x7 x10) (fun X => fr_el_off n a0 a1 a2 X) (fun X => fq_el_off n a0 a1 a2 X) (fun X => fr_mo_off n a0 a1 a2 X) (by decide)
theorem lift9 (n : Nat) (hn : 4096 ≤ n) (a0 : Int32) (a1 : Int32) (a2 : Int32) : OWW Inv (el_apart n a0 a1 a2) (mo_apart n a0 a1 a2) := by
  exact plainQ (fun X hX => by
    obtain ⟨x1, x2, x3, x4, x5, x6, x7, x8, x9, x10, x11⟩ := hX
    exact op_apart n hn a0 a1 a2 X x1.1 x6 x7 x10) (fun X => fr_el_apart n a0 a1 a2 X) (fun X => fq_el_apart n a0 a1 a2 X) (fun X => fr_mo_apart n a0 a1 a2 X) (by decide)
theorem lift10 (n : Nat) (hn : 4096 ≤ n) (a0 : Int32) (a1 : Int32) : OWW Inv (el_gone n a0 a1) (mo_gone n a0 a1) := by
  exact plainQ (fun X hX => by
    obtain ⟨x1, x2, x3, x4, x5, x6, x7, x8, x9, x10, x11⟩ := hX
    exact op_gone n hn a0 a1 X x1.1 x2 x6 x7) (fun X => fr_el_gone n a0 a1 X) (fun X => fq_el_gone n a0 a1 X) (fun X => fr_mo_gone n a0 a1 X) (by decide)
theorem lift11 (n : Nat) (hn : 4096 ≤ n) (a0 : Int32) (a1 : Int32) : OWW Inv (el_least n a0 a1) (mo_least n a0 a1) := by
  exact plainQ (fun X hX => by
    obtain ⟨x1, x2, x3, x4, x5, x6, x7, x8, x9, x10, x11⟩ := hX
    exact op_least n hn a0 a1 X x1.1 x2 x6 x7) (fun X => fr_el_least n a0 a1 X) (fun X => fq_el_least n a0 a1 X) (fun X => fr_mo_least n a0 a1 X) (by decide)
theorem lift12 (n : Nat) (hn : 4096 ≤ n) (a0 : Int32) (a1 : Int32) : OWW Inv (el_gasps n a0 a1) (mo_gasps n a0 a1) := by
  exact plainQ (fun X hX => by
    obtain ⟨x1, x2, x3, x4, x5, x6, x7, x8, x9, x10, x11⟩ := hX
    exact op_gasps n hn a0 a1 X x1.1 x2 x6 x7) (fun X => fr_el_gasps n a0 a1 X) (fun X => fq_el_gasps n a0 a1 X) (fun X => fr_mo_gasps n a0 a1 X) (by decide)
theorem lift13 (n : Nat) (hn : 4096 ≤ n) (a0 : Int32) (a1 : Int32) : OWW Inv (el_looks n a0 a1) (mo_looks n a0 a1) := by
  exact plainQ (fun X hX => by
    obtain ⟨x1, x2, x3, x4, x5, x6, x7, x8, x9, x10, x11⟩ := hX
    exact op_looks n hn a0 a1 X x1.1 x2 x6 x7 x10) (fun X => fr_el_looks n a0 a1 X) (fun X => fq_el_looks n a0 a1 X) (fun X => fr_mo_looks n a0 a1 X) (by decide)
theorem lift14 (n : Nat) (hn : 4096 ≤ n) (a0 : Int32) (a1 : Int32) : OWW Inv (el_whose n a0 a1) (mo_whose n a0 a1) := by
  exact keptQ 109 (fun X hX => by
    obtain ⟨x1, x2, x3, x4, x5, x6, x7, x8, x9, x10, x11⟩ := hX
    exact op_whose n hn a0 a1 X x1.1 x2 x6 x7 x10 x11) (fun X => fr_el_whose n a0 a1 X) (fun X => fq_el_whose n a0 a1 X) (fun X => fr_mo_whose n a0 a1 X) (by decide)
theorem lift15 (n : Nat) (hn : 4096 ≤ n) (a0 : Int32) (a1 : Int32) : OWW Inv (el_first n a0 a1) (mo_first n a0 a1) := by
  exact keptQ 107 (fun X hX => by
    obtain ⟨x1, x2, x3, x4, x5, x6, x7, x8, x9, x10, x11⟩ := hX
    exact op_first n hn a0 a1 X x1.1 x2 x6 x7 x10 x11) (fun X => fr_el_first n a0 a1 X) (fun X => fq_el_first n a0 a1 X) (fun X => fr_mo_first n a0 a1 X) (by decide)
theorem lift16 (n : Nat) (hn : 4096 ≤ n) (a0 : Int32) (a1 : Int32) (a2 : Int32) : OWW Inv (el_slip n a0 a1 a2) (mo_slip n a0 a1 a2) := by
  refine liftQ (E := fun Y Y1 => Y1.1 102 48 = -2) (fun X hX => by
    obtain ⟨x1, x2, x3, x4, x5, x6, x7, x8, x9, x10, x11⟩ := hX
    exact op_slip n hn a0 a1 a2 X x1.1 x2 x6 x7 x10 x11) (fun X => fr_el_slip n a0 a1 a2 X) (fun X => fq_el_slip n a0 a1 a2 X) (fun X => fr_mo_slip n a0 a1 a2 X) (fun o i h => h.elim (fun h => dsj_s (by decide) o i (lAll o i h)) (fun h => low_s (by decide) o i h)) (fun Y Y1 hs hE o i h hw => ?_) (fun o i h => dsj_s (by decide) o i (lLong o i h))
  by_cases c : o = 102 ∧ i = 48
  · rw [c.1, c.2, hE]; exact hs.symm
  · exact absurd (wr_but hw c) (dsj_s (by decide) o i (lAll o i h))
theorem lift17 (n : Nat) (hn : 4096 ≤ n) (a0 : Int32) (a1 : Int32) : OWW Inv (el_line n a0 a1) (mo_line n a0 a1) := by
  exact plainQ (fun X hX => by
    obtain ⟨x1, x2, x3, x4, x5, x6, x7, x8, x9, x10, x11⟩ := hX
    exact op_line n hn a0 a1 X x1.1 x2) (fun X => fr_el_line n a0 a1 X) (fun X => fq_el_line n a0 a1 X) (fun X => fr_mo_line n a0 a1 X) (by decide)
theorem lift18 (n : Nat) (hn : 4096 ≤ n) (a0 : Int32) : ORR Inv (el_lift n a0) (mo_lift n a0) := by
  intro X hX
  obtain ⟨x1, x2, x3, x4, x5, x6, x7, x8, x9, x10, x11⟩ := hX
  exact op_lift n hn a0 X x1.1
theorem lift19 (n : Nat) (hn : 4096 ≤ n) (a0 : Int32) : ORR Inv (el_star n a0) (mo_star n a0) := by
  intro X hX
  obtain ⟨x1, x2, x3, x4, x5, x6, x7, x8, x9, x10, x11⟩ := hX
  exact op_star n hn a0 X x1.1 x2
theorem lift20 (n : Nat) (hn : 4096 ≤ n) (a0 : Int32) : OWW Inv (el_judge n a0) (mo_judge n a0) := by
  exact plainQ (fun X hX => by
    obtain ⟨x1, x2, x3, x4, x5, x6, x7, x8, x9, x10, x11⟩ := hX
    exact op_judge n hn a0 X x1.1 x6 x7 x10) (fun X => fr_el_judge n a0 X) (fun X => fq_el_judge n a0 X) (fun X => fr_mo_judge n a0 X) (by decide)
theorem lift21 (n : Nat) (hn : 4096 ≤ n) (a0 : Int32) : OWW Inv (el_whoLed n a0) (mo_whoLed n a0) := by
  exact keptQ 109 (fun X hX => by
    obtain ⟨x1, x2, x3, x4, x5, x6, x7, x8, x9, x10, x11⟩ := hX
    exact op_whoLed n hn a0 X x1.1 x6 x7 x10) (fun X => fr_el_whoLed n a0 X) (fun X => fq_el_whoLed n a0 X) (fun X => fr_mo_whoLed n a0 X) (by decide)
theorem lift22 (n : Nat) (hn : 4096 ≤ n) (a0 : Int32) (a1 : Int32) : OWW Inv (el_later n a0 a1) (mo_later n a0 a1) := by
  exact keptQ 108 (fun X hX => by
    obtain ⟨x1, x2, x3, x4, x5, x6, x7, x8, x9, x10, x11⟩ := hX
    exact op_later n hn a0 a1 X x1.1 x6 x7 x10) (fun X => fr_el_later n a0 a1 X) (fun X => fq_el_later n a0 a1 X) (fun X => fr_mo_later n a0 a1 X) (by decide)
theorem lift23 (n : Nat) (hn : 4096 ≤ n) (a0 : Int32) (a1 : Int32) : OWW Inv (el_quicker n a0 a1) (mo_quicker n a0 a1) := by
  exact keptQ 107 (fun X hX => by
    obtain ⟨x1, x2, x3, x4, x5, x6, x7, x8, x9, x10, x11⟩ := hX
    exact op_quicker n hn a0 a1 X x1.1 x6 x7 x10) (fun X => fr_el_quicker n a0 a1 X) (fun X => fq_el_quicker n a0 a1 X) (fun X => fr_mo_quicker n a0 a1 X) (by decide)
theorem lift24 (n : Nat) (hn : 4096 ≤ n) (a0 : Int32) (a1 : Int32) (a2 : Int32) (a3 : Int32) : OWW Inv (el_drawn n a0 a1 a2 a3) (mo_drawn n a0 a1 a2 a3) := by
  exact plainQ (fun X hX => by
    obtain ⟨x1, x2, x3, x4, x5, x6, x7, x8, x9, x10, x11⟩ := hX
    obtain ⟨r, X1, e, h⟩ := op_drawn n hn a0 a1 a2 a3 X x1.1 x2 x6 x7 x10 x11
    exact ⟨r, X1, e, fun Y hY => by
      obtain ⟨Y1, h1, -⟩ := h Y hY
      exact ⟨Y1, h1⟩⟩) (fun X => fr_el_drawn n a0 a1 a2 a3 X) (fun X => fq_el_drawn n a0 a1 a2 a3 X) (fun X => fr_mo_drawn n a0 a1 a2 a3 X) (by decide)
theorem lift25 (n : Nat) (hn : 4096 ≤ n) (a0 : Int32) : OWW Inv (el_swim n a0) (mo_swim n a0) := by
  intro X hX
  have hX0 := hX
  obtain ⟨x1, x2, x3, x4, x5, x6, x7, x8, x9, x10, x11⟩ := hX
  obtain ⟨v, X1, e1, h⟩ := op_swim n hn a0 X x1.1 x2 x6 x7 x10 x11 x1.2.1 x4
  have f1 : fr wR_el_swim wF_el_swim X X1 := fr_el_swim n a0 X _ e1
  have l1 : X1.2 = X.2 := fq_el_swim n a0 X _ e1
  obtain ⟨h1, X2, e2, h2, h3⟩ := h X1 ⟨l1, fun o i ho => (f1 o i (low_s (by decide) o i ho)).1⟩
  have f2 : fr wR_mo_swim wF_mo_swim X1 X2 := fr_mo_swim n a0 X1 _ e2
  have m : (X.1 1 1).toInt ≤ (X2.1 1 1).toInt := by
    rw [show X2.1 1 1 = X.1 1 1 from kd (P := rOne) lOne f1 f2 (by decide) 1 1 ⟨rfl, rfl⟩]
    exact Int.le_refl _
  have lo : ∀ o i, o < 102 → X2.1 o i = X1.1 o i := fun o i ho => (f2 o i (upp_s (by decide) o i ho)).1
  have hi : agI (fun o i => (o = 1 ∧ i = 1) ∨ (3 ≤ o ∧ o ≤ 11) ∨ (o = 102 ∧ i = 0) ∨ (103 ≤ o ∧ o ≤ 109)) X X2 := kd (RP := [(3, 11), (103, 109)]) (FP := [(1, 1), (102, 0)]) (fun o i h => by
    simp only [wrC, wrF, wrN]
    omega) f1 f2 (by decide)
  have hi' : ∀ o i, ((o = 1 ∧ i = 1) ∨ (3 ≤ o ∧ o ≤ 11) ∨ (o = 102 ∧ i = 0) ∨ (103 ≤ o ∧ o ≤ 109)) → X2.1 o i = X.1 o i := hi
  have e11 : X2.1 1 1 = X.1 1 1 := hi' 1 1 (by omega)
  have hP : PoolI X2 := by
    obtain ⟨⟨p1, p2, p3, p4, p5⟩, t, z, l⟩ := x1
    refine ⟨⟨by rw [hi' 102 0 (by omega), e11]; exact p1, by rw [e11]; exact p2, by rw [e11]; exact p3, fun w k hw hk => by rw [hi' (103 + w) k (by omega), hi' (3 + w) k (by omega)]; exact p4 w k hw hk, fun j hj => by rw [hi' 109 j (by omega), hi' (9 + j) 0 (by omega)]; exact p5 j hj⟩, fun k hk => ?_, fun k hk hm => ?_, fun k hk hm => ?_⟩
    · rw [lo 82 k (by omega), lo 83 k (by omega)]
      exact h2 k hk
    · rw [e11] at hm
      rw [lo 82 k (by omega), lo 83 k (by omega), (h1 k hk hm).1, (h1 k hk hm).2]
      exact z k hk hm
    · rw [e11] at hm
      rw [hi' 8 k (by omega)]
      exact l k hk hm
  have hB : IBnd X2 := by
    intro w k hv
    have w8 : w ≤ 8 := by rcases hv with h | h <;> omega
    rw [e11] at hv
    rw [hi' (3 + w) k (by omega)]
    exact x2 w k hv
  have hL : ILed X2 := fun i hi => by
    rw [lo 84 i (by omega)]
    exact h3 i hi
  exact ⟨v, X1, X2, e1, e2, hP, hB, kChg (kd lChg f1 f2 (by decide)) m x3, hL, kTape (kd lTape f1 f2 (by decide)) x5, kSh (kd lSh f1 f2 (by decide)) (kdL lLong f1 f2 (by decide)) x6, kWy (kd lWy f1 f2 (by decide)) x7, kThen (kd lThen f1 f2 (by decide)) x8, kOld (kd lThen f1 f2 (by decide)) m x9, kSlp (kd lSlp f1 f2 (by decide)) x10, kLaw (kd lLaw f1 f2 (by decide)) x11⟩
theorem lift26 (n : Nat) (hn : 4096 ≤ n) (a0 : Int32) : ORR Inv (el_led a0) (mo_led a0) := by
  intro X hX
  obtain ⟨x1, x2, x3, x4, x5, x6, x7, x8, x9, x10, x11⟩ := hX
  exact op_led a0 X x4
theorem lift27 (n : Nat) (hn : 4096 ≤ n) : OWW Inv (el_image) (mo_image n) := by
  intro X hX
  have hX0 := hX
  obtain ⟨x1, x2, x3, x4, x5, x6, x7, x8, x9, x10, x11⟩ := hX
  obtain ⟨v, X1, X2, e1, e2, -, -, h3⟩ := op_image n hn X x4 x1.1 x1.2.1 x1.2.2.1
  have f1 : fr wR_el_image wF_el_image X X1 := fr_el_image X _ e1
  have f2 : fr wR_mo_image wF_mo_image X1 X2 := fr_mo_image n X1 _ e2
  have m : (X.1 1 1).toInt ≤ (X2.1 1 1).toInt := by
    rw [show X2.1 1 1 = X.1 1 1 from kd (P := rOne) lOne f1 f2 (by decide) 1 1 ⟨rfl, rfl⟩]
    exact Int.le_refl _
  have hO : IOld X2 := by
    unfold IOld
    rw [img_old hn e2, (f1 102 0 (low_s (by decide) 102 0 (by omega))).1, x1.1.1]
    exact m
  exact ⟨v, X1, X2, e1, e2, kPool (kd lPool f1 f2 (by decide)) x1, kBnd (kd lPool f1 f2 (by decide)) x2, kChg (kd lChg f1 f2 (by decide)) m x3, kLed (kd lLed f1 f2 (by decide)) x4, kTape (kd lTape f1 f2 (by decide)) x5, kSh (kd lSh f1 f2 (by decide)) (kdL lLong f1 f2 (by decide)) x6, kWy (kd lWy f1 f2 (by decide)) x7, h3, hO, kSlp (kd lSlp f1 f2 (by decide)) x10, kLaw (kd lLaw f1 f2 (by decide)) x11⟩
theorem lift28 (n : Nat) (hn : 4096 ≤ n) : OWW Inv (el_back) (mo_back n) := by
  intro X hX
  have hX0 := hX
  obtain ⟨x1, x2, x3, x4, x5, x6, x7, x8, x9, x10, x11⟩ := hX
  obtain ⟨v, X1, X2, e1, e2, h⟩ := op_back n hn X x8
  have f1 : fr wR_el_back wF_el_back X X1 := fr_el_back X _ e1
  have f2 : fr wR_mo_back wF_mo_back X1 X2 := fr_mo_back n X1 _ e2
  have m : (X.1 1 1).toInt ≤ (X2.1 1 1).toInt := by
    rw [show X2.1 1 1 = X.1 1 1 from kd (P := rOne) lOne f1 f2 (by decide) 1 1 ⟨rfl, rfl⟩]
    exact Int.le_refl _
  rcases h with h | ⟨h1, h2, h3⟩
  · exact ⟨v, X1, X2, e1, e2, by rw [h]; exact hX0⟩
  · have hi : agI (fun o i => (o = 1 ∧ i = 1) ∨ (3 ≤ o ∧ o ≤ 11) ∨ (o = 102 ∧ i = 0) ∨ (103 ≤ o ∧ o ≤ 109)) X X2 := kd (RP := [(3, 11), (103, 109)]) (FP := [(1, 1), (102, 0)]) (fun o i h => by
      simp only [wrC, wrF, wrN]
      omega) f1 f2 (by decide)
    have hi' : ∀ o i, ((o = 1 ∧ i = 1) ∨ (3 ≤ o ∧ o ≤ 11) ∨ (o = 102 ∧ i = 0) ∨ (103 ≤ o ∧ o ≤ 109)) → X2.1 o i = X.1 o i := hi
    have e11 : X2.1 1 1 = X.1 1 1 := hi' 1 1 (by omega)
    have hP : PoolI X2 := by
      obtain ⟨⟨p1, p2, p3, p4, p5⟩, t, z, l⟩ := x1
      refine ⟨⟨by rw [hi' 102 0 (by omega), e11]; exact p1, by rw [e11]; exact p2, by rw [e11]; exact p3, fun w k hw hk => by rw [hi' (103 + w) k (by omega), hi' (3 + w) k (by omega)]; exact p4 w k hw hk, fun j hj => by rw [hi' 109 j (by omega), hi' (9 + j) 0 (by omega)]; exact p5 j hj⟩, h2, fun k hk hm => ?_, fun k hk hm => ?_⟩
      · rw [e11] at hm
        exact h3 k hk (by unfold IOld at x9; omega)
      · rw [e11] at hm
        rw [hi' 8 k (by omega)]
        exact l k hk hm
    have hB : IBnd X2 := by
      intro w k hv
      have w8 : w ≤ 8 := by rcases hv with h | h <;> omega
      rw [e11] at hv
      rw [hi' (3 + w) k (by omega)]
      exact x2 w k hv
    exact ⟨v, X1, X2, e1, e2, hP, hB, kChg (kd lChg f1 f2 (by decide)) m x3, h1, kTape (kd lTape f1 f2 (by decide)) x5, kSh (kd lSh f1 f2 (by decide)) (kdL lLong f1 f2 (by decide)) x6, kWy (kd lWy f1 f2 (by decide)) x7, kThen (kd lThen f1 f2 (by decide)) x8, kOld (kd lThen f1 f2 (by decide)) m x9, kSlp (kd lSlp f1 f2 (by decide)) x10, kLaw (kd lLaw f1 f2 (by decide)) x11⟩
theorem lift29 (n : Nat) (hn : 4096 ≤ n) : OWW Inv (el_undo) (mo_undo) := by
  intro X hX
  have hX0 := hX
  obtain ⟨x1, x2, x3, x4, x5, x6, x7, x8, x9, x10, x11⟩ := hX
  obtain ⟨v, X1, X2, e1, e2, h1, h2, h3⟩ := op_undo X x1 x2 x3
  have f1 : fr wR_el_undo wF_el_undo X X1 := fr_el_undo X _ e1
  have f2 : fr wR_mo_undo wF_mo_undo X1 X2 := fr_mo_undo X1 _ e2
  have m : (X.1 1 1).toInt ≤ (X2.1 1 1).toInt := by
    rw [show X2.1 1 1 = X.1 1 1 from kd (P := rOne) lOne f1 f2 (by decide) 1 1 ⟨rfl, rfl⟩]
    exact Int.le_refl _
  exact ⟨v, X1, X2, e1, e2, h1, h2, h3, kLed (kd lLed f1 f2 (by decide)) x4, kTape (kd lTape f1 f2 (by decide)) x5, kSh (kd lSh f1 f2 (by decide)) (kdL lLong f1 f2 (by decide)) x6, kWy (kd lWy f1 f2 (by decide)) x7, kThen (kd lThen f1 f2 (by decide)) x8, kOld (kd lThen f1 f2 (by decide)) m x9, kSlp (kd lSlp f1 f2 (by decide)) x10, kLaw (kd lLaw f1 f2 (by decide)) x11⟩
theorem lift30 (n : Nat) (hn : 4096 ≤ n) : OWW Inv (el_redo) (mo_redo) := by
  intro X hX
  have hX0 := hX
  obtain ⟨x1, x2, x3, x4, x5, x6, x7, x8, x9, x10, x11⟩ := hX
  obtain ⟨v, X1, X2, e1, e2, h1, h2, h3⟩ := op_redo X x1 x2 x3
  have f1 : fr wR_el_redo wF_el_redo X X1 := fr_el_redo X _ e1
  have f2 : fr wR_mo_redo wF_mo_redo X1 X2 := fr_mo_redo X1 _ e2
  have m : (X.1 1 1).toInt ≤ (X2.1 1 1).toInt := by
    rw [show X2.1 1 1 = X.1 1 1 from kd (P := rOne) lOne f1 f2 (by decide) 1 1 ⟨rfl, rfl⟩]
    exact Int.le_refl _
  exact ⟨v, X1, X2, e1, e2, h1, h2, h3, kLed (kd lLed f1 f2 (by decide)) x4, kTape (kd lTape f1 f2 (by decide)) x5, kSh (kd lSh f1 f2 (by decide)) (kdL lLong f1 f2 (by decide)) x6, kWy (kd lWy f1 f2 (by decide)) x7, kThen (kd lThen f1 f2 (by decide)) x8, kOld (kd lThen f1 f2 (by decide)) m x9, kSlp (kd lSlp f1 f2 (by decide)) x10, kLaw (kd lLaw f1 f2 (by decide)) x11⟩
theorem lift31 (n : Nat) (hn : 4096 ≤ n) (a0 : Int32) : OWW Inv (el_body a0) (mo_body a0) := by
  intro X hX
  have hX0 := hX
  obtain ⟨x1, x2, x3, x4, x5, x6, x7, x8, x9, x10, x11⟩ := hX
  obtain ⟨v, X1, X2, e1, e2, h1, h2, h3⟩ := op_body a0 X x7
  have f1 : fr wR_el_body wF_el_body X X1 := fr_el_body a0 X _ e1
  have f2 : fr wR_mo_body wF_mo_body X1 X2 := fr_mo_body a0 X1 _ e2
  have m : (X.1 1 1).toInt ≤ (X2.1 1 1).toInt := by
    rw [show X2.1 1 1 = X.1 1 1 from kd (P := rOne) lOne f1 f2 (by decide) 1 1 ⟨rfl, rfl⟩]
    exact Int.le_refl _
  have hS : ISh X2 := by
    have l : agL rLong X X2 := kdL lLong f1 f2 (by decide)
    have c : agI (fun o _ => o = 94 ∨ o = 131) X X2 := kd (RP := [(94, 94), (131, 131)]) (FP := []) (fun o i h => by
      simp only [wrC, wrF, wrN]
      omega) f1 f2 (by decide)
    have c' : ∀ o i, (o = 94 ∨ o = 131) → X2.1 o i = X.1 o i := c
    intro s hs
    obtain ⟨g1, g2, g3⟩ := h2 s hs
    obtain ⟨y1, y2, y3, y4, y5⟩ := x6 s hs
    rw [g1, g2, g3, c' 94 s (by omega), c' 131 s (by omega)]
    refine ⟨?_, y2, y3, y4, fun i hi => ?_⟩
    · rcases y1 with y | y | ⟨z1, z2, z3, z4⟩
      · exact Or.inl y
      · exact Or.inr (Or.inl y)
      · exact Or.inr (Or.inr ⟨z1, z2, z3, by omega⟩)
    · rw [l 132 _ (Or.inr rfl), l (96 + s) i (Or.inl (by omega))]
      exact y5 i hi
  exact ⟨v, X1, X2, e1, e2, kPool (kd lPool f1 f2 (by decide)) x1, kBnd (kd lPool f1 f2 (by decide)) x2, kChg (kd lChg f1 f2 (by decide)) m x3, kLed (kd lLed f1 f2 (by decide)) x4, kTape (kd lTape f1 f2 (by decide)) x5, hS, h1, kThen (kd lThen f1 f2 (by decide)) x8, kOld (kd lThen f1 f2 (by decide)) m x9, kSlp (kd lSlp f1 f2 (by decide)) x10, kLaw (kd lLaw f1 f2 (by decide)) x11⟩
theorem lift32 (n : Nat) (hn : 4096 ≤ n) (a0 : Int32) (a1 : Int32) (a2 : Int32) : OWW Inv (el_act a0 a1 a2) (mo_act a0 a1 a2) := by
  intro X hX
  have hX0 := hX
  obtain ⟨x1, x2, x3, x4, x5, x6, x7, x8, x9, x10, x11⟩ := hX
  obtain ⟨v, X1, X2, e1, e2, h⟩ := op_act a0 a1 a2 X x7
  have f1 : fr wR_el_act wF_el_act X X1 := fr_el_act a0 a1 a2 X _ e1
  have f2 : fr wR_mo_act wF_mo_act X1 X2 := fr_mo_act a0 a1 a2 X1 _ e2
  have m : (X.1 1 1).toInt ≤ (X2.1 1 1).toInt := by
    rw [show X2.1 1 1 = X.1 1 1 from kd (P := rOne) lOne f1 f2 (by decide) 1 1 ⟨rfl, rfl⟩]
    exact Int.le_refl _
  exact ⟨v, X1, X2, e1, e2, kPool (kd lPool f1 f2 (by decide)) x1, kBnd (kd lPool f1 f2 (by decide)) x2, kChg (kd lChg f1 f2 (by decide)) m x3, kLed (kd lLed f1 f2 (by decide)) x4, kTape (kd lTape f1 f2 (by decide)) x5, kSh (kd lSh f1 f2 (by decide)) (kdL lLong f1 f2 (by decide)) x6, h, kThen (kd lThen f1 f2 (by decide)) x8, kOld (kd lThen f1 f2 (by decide)) m x9, kSlp (kd lSlp f1 f2 (by decide)) x10, kLaw (kd lLaw f1 f2 (by decide)) x11⟩
theorem lift33 (n : Nat) (hn : 4096 ≤ n) (a0 : Int32) : ORR Inv (el_trace a0) (mo_trace a0) := by
  intro X hX
  obtain ⟨x1, x2, x3, x4, x5, x6, x7, x8, x9, x10, x11⟩ := hX
  exact op_trace a0 X x7
theorem lift34 (n : Nat) (hn : 4096 ≤ n) (a0 : Int32) (a1 : Int32) : OWW Inv (el_keep a0 a1) (mo_keep a0 a1) := by
  intro X hX
  have hX0 := hX
  obtain ⟨x1, x2, x3, x4, x5, x6, x7, x8, x9, x10, x11⟩ := hX
  obtain ⟨v, X1, X2, e1, e2, h⟩ := op_keep a0 a1 X x6 x7
  have f1 : fr wR_el_keep wF_el_keep X X1 := fr_el_keep a0 a1 X _ e1
  have f2 : fr wR_mo_keep wF_mo_keep X1 X2 := fr_mo_keep a0 a1 X1 _ e2
  have m : (X.1 1 1).toInt ≤ (X2.1 1 1).toInt := by
    rw [show X2.1 1 1 = X.1 1 1 from kd (P := rOne) lOne f1 f2 (by decide) 1 1 ⟨rfl, rfl⟩]
    exact Int.le_refl _
  exact ⟨v, X1, X2, e1, e2, kPool (kd lPool f1 f2 (by decide)) x1, kBnd (kd lPool f1 f2 (by decide)) x2, kChg (kd lChg f1 f2 (by decide)) m x3, kLed (kd lLed f1 f2 (by decide)) x4, kTape (kd lTape f1 f2 (by decide)) x5, h, kWy (kd lWy f1 f2 (by decide)) x7, kThen (kd lThen f1 f2 (by decide)) x8, kOld (kd lThen f1 f2 (by decide)) m x9, kSlp (kd lSlp f1 f2 (by decide)) x10, kLaw (kd lLaw f1 f2 (by decide)) x11⟩
theorem lift35 (n : Nat) (hn : 4096 ≤ n) (a0 : Int32) (a1 : Int32) (a2 : Int32) : OWW Inv (el_row n a0 a1 a2) (mo_row n a0 a1 a2) := by
  intro X hX
  have hX0 := hX
  obtain ⟨x1, x2, x3, x4, x5, x6, x7, x8, x9, x10, x11⟩ := hX
  obtain ⟨v, X1, X2, e1, e2, h⟩ := op_row n hn a0 a1 a2 X x6
  have f1 : fr wR_el_row wF_el_row X X1 := fr_el_row n a0 a1 a2 X _ e1
  have f2 : fr wR_mo_row wF_mo_row X1 X2 := fr_mo_row n a0 a1 a2 X1 _ e2
  have m : (X.1 1 1).toInt ≤ (X2.1 1 1).toInt := by
    rw [show X2.1 1 1 = X.1 1 1 from kd (P := rOne) lOne f1 f2 (by decide) 1 1 ⟨rfl, rfl⟩]
    exact Int.le_refl _
  exact ⟨v, X1, X2, e1, e2, kPool (kd lPool f1 f2 (by decide)) x1, kBnd (kd lPool f1 f2 (by decide)) x2, kChg (kd lChg f1 f2 (by decide)) m x3, kLed (kd lLed f1 f2 (by decide)) x4, kTape (kd lTape f1 f2 (by decide)) x5, h, kWy (kd lWy f1 f2 (by decide)) x7, kThen (kd lThen f1 f2 (by decide)) x8, kOld (kd lThen f1 f2 (by decide)) m x9, kSlp (kd lSlp f1 f2 (by decide)) x10, kLaw (kd lLaw f1 f2 (by decide)) x11⟩
theorem lift36 (n : Nat) (hn : 4096 ≤ n) (a0 : Int32) (a1 : Int32) (a2 : Int64) : OWW Inv (el_put a0 a1 a2) (mo_put a0 a1 a2) := by
  intro X hX
  have hX0 := hX
  obtain ⟨x1, x2, x3, x4, x5, x6, x7, x8, x9, x10, x11⟩ := hX
  obtain ⟨v, X1, X2, e1, e2, h⟩ := op_put a0 a1 a2 X x6 x7
  have f1 : fr wR_el_put wF_el_put X X1 := fr_el_put a0 a1 a2 X _ e1
  have f2 : fr wR_mo_put wF_mo_put X1 X2 := fr_mo_put a0 a1 a2 X1 _ e2
  have m : (X.1 1 1).toInt ≤ (X2.1 1 1).toInt := by
    rw [show X2.1 1 1 = X.1 1 1 from kd (P := rOne) lOne f1 f2 (by decide) 1 1 ⟨rfl, rfl⟩]
    exact Int.le_refl _
  exact ⟨v, X1, X2, e1, e2, kPool (kd lPool f1 f2 (by decide)) x1, kBnd (kd lPool f1 f2 (by decide)) x2, kChg (kd lChg f1 f2 (by decide)) m x3, kLed (kd lLed f1 f2 (by decide)) x4, kTape (kd lTape f1 f2 (by decide)) x5, h, kWy (kd lWy f1 f2 (by decide)) x7, kThen (kd lThen f1 f2 (by decide)) x8, kOld (kd lThen f1 f2 (by decide)) m x9, kSlp (kd lSlp f1 f2 (by decide)) x10, kLaw (kd lLaw f1 f2 (by decide)) x11⟩
theorem lift37 (n : Nat) (hn : 4096 ≤ n) (a0 : Int32) (a1 : Int32) : ORR Inv (el_element a0 a1) (mo_element a0 a1) := by
  intro X hX
  obtain ⟨x1, x2, x3, x4, x5, x6, x7, x8, x9, x10, x11⟩ := hX
  exact op_element a0 a1 X x6 x7
theorem lift38 (n : Nat) (hn : 4096 ≤ n) (a0 : Int32) (a1 : Int32) (a2 : Int32) (a3 : Int32) (a4 : Int32) : OWW Inv (el_shift a0 a1 a2 a3 a4) (mo_shift n a0 a1 a2 a3 a4) := by
  intro X hX
  have hX0 := hX
  obtain ⟨x1, x2, x3, x4, x5, x6, x7, x8, x9, x10, x11⟩ := hX
  obtain ⟨v, X1, X2, e1, e2, h⟩ := op_shift n hn a0 a1 a2 a3 a4 X x6 x7
  have f1 : fr wR_el_shift wF_el_shift X X1 := fr_el_shift a0 a1 a2 a3 a4 X _ e1
  have f2 : fr wR_mo_shift wF_mo_shift X1 X2 := fr_mo_shift n a0 a1 a2 a3 a4 X1 _ e2
  have m : (X.1 1 1).toInt ≤ (X2.1 1 1).toInt := by
    rw [show X2.1 1 1 = X.1 1 1 from kd (P := rOne) lOne f1 f2 (by decide) 1 1 ⟨rfl, rfl⟩]
    exact Int.le_refl _
  exact ⟨v, X1, X2, e1, e2, kPool (kd lPool f1 f2 (by decide)) x1, kBnd (kd lPool f1 f2 (by decide)) x2, kChg (kd lChg f1 f2 (by decide)) m x3, kLed (kd lLed f1 f2 (by decide)) x4, kTape (kd lTape f1 f2 (by decide)) x5, h, kWy (kd lWy f1 f2 (by decide)) x7, kThen (kd lThen f1 f2 (by decide)) x8, kOld (kd lThen f1 f2 (by decide)) m x9, kSlp (kd lSlp f1 f2 (by decide)) x10, kLaw (kd lLaw f1 f2 (by decide)) x11⟩
theorem lift39 (n : Nat) (hn : 4096 ≤ n) (a0 : Int32) (a1 : Int32) : ORR Inv (el_taken a0 a1) (mo_taken n a0 a1) := by
  intro X hX
  obtain ⟨x1, x2, x3, x4, x5, x6, x7, x8, x9, x10, x11⟩ := hX
  exact op_taken n hn a0 a1 X x6 x7
theorem lift40 (n : Nat) (hn : 4096 ≤ n) (a0 : Int32) : OTT Inv (el_count a0) (mo_count a0) := by
  intro X hX
  obtain ⟨x1, x2, x3, x4, x5, x6, x7, x8, x9, x10, x11⟩ := hX
  exact op_count a0 X x1.1.1 x5.1 x3.1 x7.1 x7.2.2.2.2.1
