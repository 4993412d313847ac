/-! the rule at the start -/
theorem X0_in : ∀ o, o < 140 → ∀ i, i < 8 → X0.1 o i = if o = 130 ∧ i < 6 then -1 else if o = 109 ∧ i = 2 then 1 else if o = 109 ∧ i = 1 then 25 else if o = 92 ∧ i < 6 then -1 else if o = 11 ∧ i = 0 then 1 else if o = 10 ∧ i = 0 then 25 else 0 := by decide +kernel
theorem X0_2 (o i : Nat) : X0.2 o i = 0 := rfl
theorem X0_f : X0.1 102 10 = 0 ∧ X0.1 102 12 = 0 ∧ X0.1 102 29 = 0 ∧ X0.1 102 30 = 0 ∧ X0.1 102 34 = 0 ∧ X0.1 102 35 = 0 ∧ X0.1 102 37 = 0 ∧ X0.1 102 39 = 0 ∧ X0.1 102 48 = -2 := by decide +kernel
theorem inv_0 : Inv X0 := by
  have h11 : X0.1 1 1 = 0 := by decide +kernel
  have t0 := ti0
  obtain ⟨f10, f12, f29, f30, f34, f35, f37, f39, f48⟩ := X0_f
  have pw : ∀ w, w < 6 → ∀ k, k < 8 → X0.1 (103 + w) k = X0.1 (3 + w) k := by decide +kernel
  have pj : ∀ j, j < 3 → X0.1 109 j = X0.1 (9 + j) 0 := by decide +kernel
  have pt : ∀ k, k < 8 → (X0.1 110 k = X0.1 82 k ∧ X0.1 111 k = X0.1 83 k) ∧ (X0.1 82 k = 0 ∧ X0.1 83 k = 0) ∧ X0.1 8 k = 0 ∧ X0.1 85 k = 0 ∧ X0.1 86 k = 0 := by decide +kernel
  have pb : ∀ w, w < 3 → (LEASTf (6 + w)).toInt ≤ (X0.1 (9 + w) 0).toInt ∧ (X0.1 (9 + w) 0).toInt ≤ (MOSTf (6 + w)).toInt := by decide +kernel
  have pl : ∀ i, i < 5 → X0.1 123 i = X0.1 84 i ∧ X0.1 126 i = X0.1 87 i := by decide +kernel
  have ps : ∀ s, s < 6 → X0.1 92 s = -1 ∧ X0.1 130 s = -1 ∧ X0.1 131 s = X0.1 94 s ∧ X0.1 94 s = 0 := by decide +kernel
  have z12 : X0.1 12 5 = 0 ∧ X0.1 12 6 = 0 ∧ X0.1 17 2 = 0 ∧ X0.1 88 2 = 0 ∧ X0.1 88 3 = 0 ∧ X0.1 81 6 = 0 ∧ X0.1 20 3 = 0 ∧ X0.1 102 0 = 0 := by decide +kernel
  obtain ⟨z1, z2, z3, z4, z5, z6, z7, z8⟩ := z12
  refine ⟨⟨⟨by rw [z8, h11], by rw [h11]; decide, by rw [h11]; decide, fun w k hw hk => pw w hw k hk, pj⟩, fun k hk => (pt k hk).1, fun k hk _ => (pt k hk).2.1, fun k hk _ => (pt k hk).2.2.1⟩, ?_, ?_, fun i hi => (pl i hi).1, ?_, ?_, ?_, ?_, ?_, f48, Or.inl ⟨z7, f12⟩⟩
  · intro w k hv
    rw [h11, t0] at hv
    rcases hv with h | ⟨h1, h2, h3⟩
    · omega
    · have := pb (w - 6) (by omega)
      rw [show 6 + (w - 6) = w by omega, show 9 + (w - 6) = 3 + w by omega] at this
      rw [show k = 0 by omega]
      exact this
  · unfold IChg
    rw [f35, z1, f34, z2, t0]
    exact ⟨rfl, rfl, by omega, by omega, by omega, fun k hk => by omega⟩
  · unfold ITape
    rw [f10, z3, t0]
    exact ⟨rfl, by omega, by omega, fun k hk => by omega⟩
  · intro s hs
    obtain ⟨s1, s2, s3, s4⟩ := ps s hs
    rw [s1, s2, s3, s4, t0]
    exact ⟨Or.inl ⟨rfl, rfl⟩, rfl, by omega, by omega, fun i _ => rfl⟩
  · unfold IWy
    rw [f37, z4, f39, z5, t0]
    exact ⟨rfl, by omega, by omega, fun i hi => by omega, rfl, by omega, fun i _ hi => by omega⟩
  · unfold IThen
    rw [f29, z6, f30, t0]
    exact ⟨rfl, Or.inl rfl, by omega, by omega, fun k hk => ⟨fun h => by omega, fun _ => (pt k hk).2.2.2⟩, fun i hi => (pl i hi).2⟩
  · unfold IOld
    rw [f30, h11]
    exact Int.le_refl _
