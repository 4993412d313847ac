/-! the text is read: numbers, names, what is opened -/
theorem name_e : ∀ k, k < 256 → nameIx (jch (Int32.ofNat k)) = mo_nameOf (Int32.ofNat k) ∧ (mo_nameOf (Int32.ofNat k) < 0 ∨ (0 ≤ (mo_nameOf (Int32.ofNat k)).toInt ∧ (mo_nameOf (Int32.ofNat k)).toInt < 6)) := by decide +kernel
abbrev dig (x : Int32) : Prop := 48 ≤ x.toInt ∧ x.toInt ≤ 57
theorem tdig {x : Int32} : tap_isDigit x = 0 ↔ ¬ dig x := by
  unfold tap_isDigit
  by_cases h1 : x < 48
  · rw [if_pos h1]
    rw [ltk, show (48 : Int32).toInt = 48 by decide] at h1
    exact ⟨fun _ => by omega, fun _ => rfl⟩
  · rw [if_neg h1]
    rw [ltk, show (48 : Int32).toInt = 48 by decide] at h1
    by_cases h2 : 57 < x
    · rw [if_pos h2]
      rw [ltk, show (57 : Int32).toInt = 57 by decide] at h2
      exact ⟨fun _ => by omega, fun _ => rfl⟩
    · rw [if_neg h2]
      rw [ltk, show (57 : Int32).toInt = 57 by decide] at h2
      exact ⟨fun h => absurd h (by decide), fun h => absurd ⟨by omega, by omega⟩ h⟩
theorem mdig {X B : St} {L p mc o : Nat} (hL : L ≤ 120) (h : PB X L p mc o B) : ∃ c, mo_isDigit B = some c ∧ (c = 0 ↔ ¬ (p < L ∧ dig (X.1 18 p))) := by
  unfold mo_isDigit
  rw [sign_s hL h, Option.bind_some, Option.bind_some]
  have e48 : (48 : Int32).toInt = 48 := by decide
  have e57 : (57 : Int32).toInt = 57 := by decide
  by_cases cp : p < L
  · simp only [if_pos cp]
    by_cases h1 : X.1 18 p < 48
    · rw [if_pos h1]
      rw [ltk, e48] at h1
      exact ⟨0, rfl, fun _ z => by have := z.2; omega, fun _ => rfl⟩
    · rw [if_neg h1]
      rw [ltk, e48] at h1
      by_cases h2 : 57 < X.1 18 p
      · rw [if_pos h2]
        rw [ltk, e57] at h2
        exact ⟨0, rfl, fun _ z => by have := z.2; omega, fun _ => rfl⟩
      · rw [if_neg h2]
        rw [ltk, e57] at h2
        exact ⟨1, rfl, fun h => absurd h (by decide), fun h => absurd ⟨cp, by omega, by omega⟩ h⟩
  · simp only [if_neg cp]
    rw [if_pos (by decide)]
    exact ⟨0, rfl, fun _ z => cp z.1, fun _ => rfl⟩
theorem num_s (n : Nat) {X : St} {L cc mc o : Nat} {C : Nat → St → Option (Int32 × St)} (hL : L ≤ 120) (hc : cc < 128) (hm : mc < 128) : ∀ (r w u k p : Nat) (v1 v2 : Int32) (A B : St), k + r = 4 → r < w → r < u → v2.toInt = k → 0 ≤ v1.toInt → v1.toInt < ((10 ^ k : Nat) : Int) → PA X L p cc A → PB X L p mc o B → p ≤ L → ∃ A' B' p' y, tap_writeNumber_L4 n w v1 v2 A = some A' ∧ mo_isO_L11 C n u v1 v2 B = some (1, B') ∧ 18 ≤ y.toInt ∧ PA X L p' (cc + 1) A' ∧ PB X L p' (mc + 1) o B' ∧ p ≤ p' ∧ p' ≤ L ∧ (k < 4 → p < L → dig (X.1 18 p) → p < p') ∧ A'.1 19 cc = phi y ∧ B'.1 120 mc = y ∧ (∀ i, i < cc → A'.1 19 i = A.1 19 i) ∧ (∀ i, i < mc → B'.1 120 i = B.1 120 i) ∧ frA A A' ∧ frB B B' := by
  have e4 : (4 : Int32).toInt = 4 := by decide
  -- the number is written
  have last : ∀ (k p : Nat) (v1 : Int32) (A B : St), k ≤ 4 → 0 ≤ v1.toInt → v1.toInt < ((10 ^ k : Nat) : Int) → PA X L p cc A → PB X L p mc o B → p ≤ L → ∃ A' B' y, tap_write v1 A = some A' ∧ mo_codes (18 + v1) B = some (1, B') ∧ 18 ≤ y.toInt ∧ PA X L p (cc + 1) A' ∧ PB X L p (mc + 1) o B' ∧ A'.1 19 cc = phi y ∧ B'.1 120 mc = y ∧ (∀ i, i < cc → A'.1 19 i = A.1 19 i) ∧ (∀ i, i < mc → B'.1 120 i = B.1 120 i) ∧ frA A A' ∧ frB B B' := by
    intro k p v1 A B hk h0 h1 hA hB hp
    have hk10 : 10 ^ k ≤ 10000 := by
      rcases (show k = 0 ∨ k = 1 ∨ k = 2 ∨ k = 3 ∨ k = 4 by omega) with e | e | e | e | e <;> subst e <;> decide
    obtain ⟨a1, a2, a3, a4⟩ := hA
    obtain ⟨b1, b2, b3, b4, b5⟩ := hB
    obtain ⟨t, w1, w2⟩ := wr_s (v := v1) a3 hc
    obtain ⟨t', w3, w4⟩ := co_s (v := 18 + v1) b3 hm
    have e18 : (18 : Int32).toInt = 18 := by decide
    have ey : (18 + v1).toInt = 18 + v1.toInt := by rw [ti_add] <;> rw [e18] <;> omega
    have ep : phi (18 + v1) = v1 := by
      rw [(phi_hi (y := 18 + v1) (by omega)).1, ti_eq, ti_sub] <;> rw [ey, e18] <;> omega
    refine ⟨_, _, 18 + v1, w2, w4, by omega, ⟨?_, ?_, ?_, fun i hi => ?_⟩, ⟨?_, ?_, ?_, ?_, fun i hi => ?_⟩, ?_, stI_self, fun i hi => ?_, fun i hi => ?_, frA.s9.tr (frA.st (Or.inr rfl)), (frB.st (Or.inr (Or.inr rfl))).tr frB.s0⟩
    · rw [stI_at, if_neg (by omega), stI_at, if_neg (by omega)]; exact a1
    · rw [stI_at, if_neg (by omega), stI_at, if_neg (by omega)]; exact a2
    · rw [stI_self]; exact w1
    · rw [stI_at, if_neg (by omega), stI_at, if_neg (by omega)]; exact a4 i hi
    · rw [stI_at, if_neg (by omega), stI_at, if_neg (by omega)]; exact b1
    · rw [stI_at, if_neg (by omega), stI_at, if_neg (by omega)]; exact b2
    · rw [stI_at, if_neg (by omega), stI_self]; exact w3
    · rw [stI_at, if_neg (by omega), stI_at, if_neg (by omega)]; exact b4
    · rw [stI_at, if_neg (by omega), stI_at, if_neg (by omega)]; exact b5 i hi
    · rw [stI_at, if_neg (by omega), stI_self, ep]
    · rw [stI_at, if_neg (by omega), stI_at, if_neg (by omega)]
    · rw [stI_at, if_neg (by omega), stI_at, if_neg (by omega)]
  have one : ∀ (y : Int32) (B B' : St), mo_codes y B = some (1, B') → ((mo_codes y B).bind fun (c25, X24) => (if isZ c25 then (some (c25, X24)) else none)) = some (1, B') := fun y B B' h => by rw [h]; rfl
  intro r
  induction r with
  | zero =>
    intro w u k p v1 v2 A B h1 h2 h3 h4 h5 h6 hA hB hp
    obtain ⟨W, rfl⟩ : ∃ W, w = W + 1 := ⟨w - 1, by omega⟩
    obtain ⟨U, rfl⟩ : ∃ U, u = U + 1 := ⟨u - 1, by omega⟩
    obtain ⟨A', B', y, g1, g2, g3, g4, g5, g6⟩ := last k p v1 A B (by omega) h5 h6 hA hB hp
    refine ⟨A', B', p, y, ?_, ?_, g3, g4, g5, Nat.le_refl _, hp, fun h => by omega, g6⟩
    · show tap_writeNumber_L4_B n (tap_writeNumber_L4 n W) v1 v2 A = _
      unfold tap_writeNumber_L4_B
      rw [if_neg (by rw [ltk, e4]; omega), g1]
      rfl
    · show mo_isO_L11_B C n (mo_isO_L11 C n U) v1 v2 B = _
      unfold mo_isO_L11_B
      rw [if_neg (by rw [ltk, e4]; omega)]
      exact one _ _ _ g2
  | succ r ih =>
    intro w u k p v1 v2 A B h1 h2 h3 h4 h5 h6 hA hB hp
    obtain ⟨W, rfl⟩ : ∃ W, w = W + 1 := ⟨w - 1, by omega⟩
    obtain ⟨U, rfl⟩ : ∃ U, u = U + 1 := ⟨u - 1, by omega⟩
    show ∃ A' B' p' y, tap_writeNumber_L4_B n (tap_writeNumber_L4 n W) v1 v2 A = some A' ∧ mo_isO_L11_B C n (mo_isO_L11 C n U) v1 v2 B = some (1, B') ∧ _
    unfold tap_writeNumber_L4_B mo_isO_L11_B
    have q : v2 < 4 := by rw [ltk, e4]; omega
    obtain ⟨c, c1, c2⟩ := mdig hL hB
    obtain ⟨a1, a2, a3, a4⟩ := hA
    have hB' := hB
    obtain ⟨b1, b2, b3, b4, b5⟩ := hB'
    rw [if_pos q, if_pos q, c1, show ∀ (F : Int32 → Option (Int32 × St)), (some c).bind F = F c from fun _ => rfl]
    by_cases cd : p < L ∧ dig (X.1 18 p)
    · have cp := cd.1
      have hd := cd.2
      have hk10 : 10 ^ k ≤ 1000 := by
        rcases (show k = 0 ∨ k = 1 ∨ k = 2 ∨ k = 3 by omega) with e | e | e | e <;> subst e <;> decide
      have e10 : (10 : Int32).toInt = 10 := by decide
      have e48 : (48 : Int32).toInt = 48 := by decide
      have m1 : (v1 * 10).toInt = v1.toInt * 10 := by rw [ti_mul] <;> rw [e10] <;> omega
      have m2 : (v1 * 10 + X.1 18 p).toInt = v1.toInt * 10 + (X.1 18 p).toInt := by rw [ti_add] <;> omega
      have m3 : (v1 * 10 + X.1 18 p - 48).toInt = v1.toInt * 10 + (X.1 18 p).toInt - 48 := by rw [ti_sub] <;> rw [e48] <;> omega
      rw [if_pos (by rw [ltk]; omega), if_pos (by rw [inB_iff]; omega), nxk a2, a4 p cp, if_neg (fun h => tdig.mp h hd), if_pos (by rw [inB_iff]; omega), Option.bind_some]
      rw [if_neg (fun h => c2.mp h cd), if_pos (by rw [inB_iff]; omega), nxk b2, b5 p cp, Option.bind_some, Int32.mul_comm 10 v1]
      obtain ⟨A', B', p', y, g1, g2, g3, g4, g5, g6, g7, g8, g9, g10, g11, g12, g13, g14⟩ := ih W U (k + 1) (p + 1) (v1 * 10 + X.1 18 p - 48) (v2 + 1) _ _ (by omega) (by omega) (by omega) (inc h4 (by omega)) (by omega) (by rw [Nat.pow_succ]; omega) (PA.adv (by omega) ⟨a1, a2, a3, a4⟩) (PB.adv (by omega) hB) (by omega)
      exact ⟨A', B', p', y, g1, g2, g3, g4, g5, by omega, g7, fun _ _ _ => by omega, g9, g10, fun i hi => by rw [g11 i hi, stI_at, if_neg (by omega)], fun i hi => by rw [g12 i hi, stI_at, if_neg (by omega)], (frA.st (Or.inl rfl)).tr g13, (frB.st (Or.inl rfl)).tr g14⟩
    · rw [if_pos (c2.mpr cd)]
      obtain ⟨A', B', y, g1, g2, g3, g4, g5, g6⟩ := last k p v1 A B (by omega) h5 h6 ⟨a1, a2, a3, a4⟩ hB hp
      refine ⟨A', B', p, y, ?_, one _ _ _ g2, g3, g4, g5, Nat.le_refl _, hp, fun _ z1 z2 => absurd ⟨z1, z2⟩ cd, g6⟩
      by_cases cp : p < L
      · rw [if_pos (by rw [ltk]; omega), if_pos (by rw [inB_iff]; omega), nxk a2, a4 p cp, if_pos (tdig.mpr (fun h => cd ⟨cp, h⟩)), g1]
        rfl
      · rw [if_neg (by rw [ltk]; omega), g1]
        rfl
/-- the numbers of states that a factor's depth wants -/
def dF (o : Nat) : Nat := 8 * (6 - o) + 1
def eF (o : Nat) : Nat := 6 * (6 - o) + 1
theorem PB.op {X B : St} {L p mc o : Nat} (ho : o < 1000) (h : PB X L p mc o B) : PB X L p mc (o + 1) (stI B 102 19 (B.1 102 19 + 1)) := by
  obtain ⟨h1, h2, h3, h4, h5⟩ := h
  exact ⟨by rw [stI_at, if_neg (by omega)]; exact h1, by rw [stI_at, if_neg (by omega)]; exact h2, by rw [stI_at, if_neg (by omega)]; exact h3, by rw [stI_self]; exact inc h4 (by omega), fun i hi => by rw [stI_at, if_neg (by omega)]; exact h5 i hi⟩
theorem PB.cl {X B : St} {L p mc o : Nat} (ho : o < 1000) (h : PB X L p mc (o + 1) B) : PB X L p mc o (stI B 102 19 (B.1 102 19 - 1)) := by
  obtain ⟨h1, h2, h3, h4, h5⟩ := h
  exact ⟨by rw [stI_at, if_neg (by omega)]; exact h1, by rw [stI_at, if_neg (by omega)]; exact h2, by rw [stI_at, if_neg (by omega)]; exact h3, by rw [stI_self, ti_sub] <;> rw [ti1] <;> omega, fun i hi => by rw [stI_at, if_neg (by omega)]; exact h5 i hi⟩
theorem is_s {X B : St} {L p mc o : Nat} {v : Int32} (hL : L ≤ 120) (h : PB X L p mc o B) (hv : v ≠ -1) : mo_is v B = some (if p < L ∧ X.1 18 p = v then 1 else 0, if p < L ∧ X.1 18 p = v then stI B 102 18 (B.1 102 18 + 1) else B) := by
  unfold mo_is
  rw [sign_s hL h, Option.bind_some]
  by_cases cp : p < L
  · rw [if_pos cp]
    by_cases c : X.1 18 p = v
    · rw [if_pos c, if_pos ⟨cp, c⟩, if_pos ⟨cp, c⟩]
    · rw [if_neg c, if_neg (fun z => c z.2), if_neg (fun z => c z.2)]
  · rw [if_neg cp, if_neg (fun z => hv z.symm), if_neg (fun z => cp z.1), if_neg (fun z => cp z.1)]
theorem takes_s {X A : St} {L p cc : Nat} {v : Int32} (hL : L ≤ 120) (h : PA X L p cc A) : tap_takes v A = some (if p < L ∧ X.1 18 p = v then 1 else 0, if p < L ∧ X.1 18 p = v then stI A 17 3 (A.1 17 3 + 1) else A) := by
  obtain ⟨h1, h2, h3, h4⟩ := h
  unfold tap_takes
  by_cases cp : p < L
  · rw [if_pos (by rw [ltk]; omega), if_pos (by rw [inB_iff]; omega), nxk h2, h4 p cp]
    by_cases c : X.1 18 p = v
    · rw [if_pos c, if_pos ⟨cp, c⟩, if_pos ⟨cp, c⟩]
    · rw [if_neg c, if_neg (fun z => c z.2), if_neg (fun z => c z.2)]
  · rw [if_neg (by rw [ltk]; omega), if_neg (fun z => cp z.1), if_neg (fun z => cp z.1)]
/-- ! and - ahead of a factor -/
theorem unary {n : Nat} {X : St} {L p cc mc o : Nat} {A B : St} {y : Int32} {E1 E2 : Option (Int32 × St)} (hL : L ≤ 120) (ho : o < 6) (hc : cc ≤ p) (hm : mc ≤ p) (hp : p < L) (hy : y = 16 ∨ y = 17) (hA : PA X L p cc A) (hB : PB X L p mc o B) (H : Out X L (p + 1) cc mc (o + 1) (stI A 17 3 (A.1 17 3 + 1)) (stI (stI B 102 19 (B.1 102 19 + 1)) 102 18 ((stI B 102 19 (B.1 102 19 + 1)).1 102 18 + 1)) E1 E2) : Out X L p cc mc o A B (E1.bind fun (c6, X5) => (if c6 = 0 then some ((0 : Int32), X5) else ((tap_write (phi y) X5).bind fun X7 => some ((1 : Int32), X7)))) (E2.bind fun (c18, X17) => (if c18 = 0 then some ((0 : Int32), (stI X17 102 19 ((X17.1 102 19) - 1))) else ((mo_codes y X17).bind fun (_, X19) => some ((1 : Int32), (stI X19 102 19 ((X19.1 102 19) - 1)))))) := by
  have fB0 : frB B (stI (stI B 102 19 (B.1 102 19 + 1)) 102 18 ((stI B 102 19 (B.1 102 19 + 1)).1 102 18 + 1)) := (frB.st (Or.inr (Or.inl rfl))).tr (frB.st (Or.inl rfl))
  have fA0 : frA A (stI A 17 3 (A.1 17 3 + 1)) := frA.st (Or.inl rfl)
  rcases H with ⟨A2, B2, p2, l, e1, e2, t1, t2, t3, t4, t5, t6, t7, t8, t9, t10, t11, t12⟩ | ⟨A2, B2, e1, e2, ⟨p2, f1, f1'⟩, f2, f3⟩
  · obtain ⟨t, w1, w2⟩ := wr_s (v := phi y) t1.2.2.1 (by omega)
    obtain ⟨t', w3, w4⟩ := co_s (v := y) t2.2.2.1 (by omega)
    rw [e1, e2, Option.bind_some]
    dsimp only
    rw [Option.bind_some]
    dsimp only
    rw [if_neg (by decide), if_neg (by decide), w2, w4, Option.bind_some, Option.bind_some]
    dsimp only
    refine Or.inl ⟨_, _, p2, l ++ [y], rfl, rfl, ?_⟩
    obtain ⟨a1, a2, a3, a4⟩ := t1
    have ln : (l ++ [y]).length = l.length + 1 := by simp only [List.length_append, List.length_cons, List.length_nil]
    have hW : WF (l ++ [y]) := by
      rcases hy with e | e <;> subst e
      · exact wf_not t6
      · exact wf_neg t6
    have tb : PB X L p2 (mc + l.length + 1) (o + 1) (stI (stI B2 102 20 t') 120 (mc + l.length) y) := by
      obtain ⟨b1, b2, b3, b4, b5⟩ := t2
      refine ⟨?_, ?_, ?_, ?_, fun i hi => ?_⟩
      · rw [stI_at, if_neg (by omega), stI_at, if_neg (by omega)]; exact b1
      · rw [stI_at, if_neg (by omega), stI_at, if_neg (by omega)]; exact b2
      · rw [stI_at, if_neg (by omega), stI_self]; exact w3
      · rw [stI_at, if_neg (by omega), stI_at, if_neg (by omega)]; exact b4
      · rw [stI_at, if_neg (by omega), stI_at, if_neg (by omega)]; exact b5 i hi
    refine ⟨⟨?_, ?_, ?_, fun i hi => ?_⟩, ?_, t3, by omega, by omega, hW, ?_, ?_, fun i hi => ?_, fun i hi => ?_, fA0.tr (t11.tr (frA.s9.tr (frA.st (Or.inr rfl)))), fB0.tr (t12.tr ((frB.st (Or.inr (Or.inr rfl))).tr (frB.s0.tr (frB.st (Or.inr (Or.inl rfl))))))⟩
    · rw [stI_at, if_neg (by omega), stI_at, if_neg (by omega)]; exact a1
    · rw [stI_at, if_neg (by omega), stI_at, if_neg (by omega)]; exact a2
    · rw [stI_self, w1, ln]; congr 1
    · rw [stI_at, if_neg (by omega), stI_at, if_neg (by omega)]; exact a4 i hi
    · rw [ln, ← Nat.add_assoc]; exact tb.cl (by omega)
    · rw [List.map_append]
      refine (cod_app _ _ _).mpr ⟨cod_st _ (Or.inl (by omega)) (cod_st _ (Or.inr (by rw [List.length_map]; omega)) t7), ?_⟩
      rw [List.length_map]
      refine ⟨?_, trivial⟩
      rw [stI_at, if_neg (by omega), stI_self]
    · refine (cod_app _ _ _).mpr ⟨cod_st _ (Or.inl (by omega)) (cod_st _ (Or.inr (by omega)) (cod_st _ (Or.inl (by omega)) t8)), ?_⟩
      refine ⟨?_, trivial⟩
      rw [stI_at, if_neg (by omega), stI_self]
    · rw [stI_at, if_neg (by omega), stI_at, if_neg (by omega), t9 i hi, stI_at, if_neg (by omega)]
    · rw [stI_at, if_neg (by omega), stI_at, if_neg (by omega), stI_at, if_neg (by omega), t10 i hi, stI_at, if_neg (by omega), stI_at, if_neg (by omega)]
  · rw [e1, e2, Option.bind_some]
    dsimp only
    rw [Option.bind_some]
    dsimp only
    rw [if_pos rfl, if_pos rfl]
    refine Or.inr ⟨_, _, rfl, rfl, ⟨p2, f1, ?_⟩, fA0.tr f2, fB0.tr (f3.tr (frB.st (Or.inr (Or.inl rfl))))⟩
    rw [stI_at, if_neg (by omega)]; exact f1'
/-- ( and ) around what is read -/
theorem paren {n : Nat} {X : St} {L p cc mc o : Nat} {A B : St} {E1 E2 : Option (Int32 × St)} (hL : L ≤ 120) (ho : o < 6) (hp : p < L) (hA : PA X L p cc A) (hB : PB X L p mc o B) (H : Out X L (p + 1) cc mc (o + 1) (stI A 17 3 (A.1 17 3 + 1)) (stI (stI B 102 19 (B.1 102 19 + 1)) 102 18 ((stI B 102 19 (B.1 102 19 + 1)).1 102 18 + 1)) E1 E2) : Out X L p cc mc o A B (E1.bind fun (c2, X1) => (if c2 = 0 then some ((0 : Int32), X1) else ((tap_takes 41 X1).bind fun (c4, X3) => (if c4 = 0 then some ((0 : Int32), X3) else some ((1 : Int32), X3))))) (E2.bind fun (c10, X9) => (if c10 = 0 then some ((0 : Int32), (stI X9 102 19 ((X9.1 102 19) - 1))) else ((mo_is 41 X9).bind fun (c12, X11) => (if c12 = 0 then some ((0 : Int32), (stI X11 102 19 ((X11.1 102 19) - 1))) else some ((1 : Int32), (stI X11 102 19 ((X11.1 102 19) - 1))))))) := by
  have fB0 : frB B (stI (stI B 102 19 (B.1 102 19 + 1)) 102 18 ((stI B 102 19 (B.1 102 19 + 1)).1 102 18 + 1)) := (frB.st (Or.inr (Or.inl rfl))).tr (frB.st (Or.inl rfl))
  have fA0 : frA A (stI A 17 3 (A.1 17 3 + 1)) := frA.st (Or.inl rfl)
  rcases H with ⟨A2, B2, p2, l, e1, e2, t1, t2, t3, t4, t5, t6, t7, t8, t9, t10, t11, t12⟩ | ⟨A2, B2, e1, e2, ⟨p2, f1, f1'⟩, f2, f3⟩
  · rw [e1, e2, Option.bind_some]
    dsimp only
    rw [Option.bind_some]
    dsimp only
    rw [if_neg (by decide), if_neg (by decide), takes_s hL t1, is_s hL t2 (by decide), Option.bind_some]
    dsimp only
    rw [Option.bind_some]
    dsimp only
    by_cases c : p2 < L ∧ X.1 18 p2 = 41
    · simp only [if_pos c]
      rw [if_neg (by decide), if_neg (by decide)]
      refine Or.inl ⟨_, _, p2 + 1, l, rfl, rfl, PA.adv (by omega) t1, (PB.adv (by omega) t2).cl (by omega), by omega, by omega, by omega, t6, cod_st _ (Or.inl (by omega)) t7, cod_st _ (Or.inl (by omega)) (cod_st _ (Or.inl (by omega)) t8), fun i hi => ?_, fun i hi => ?_, fA0.tr (t11.tr (frA.st (Or.inl rfl))), fB0.tr (t12.tr ((frB.st (Or.inl rfl)).tr (frB.st (Or.inr (Or.inl rfl)))))⟩
      · rw [stI_at, if_neg (by omega), t9 i hi, stI_at, if_neg (by omega)]
      · rw [stI_at, if_neg (by omega), stI_at, if_neg (by omega), t10 i hi, stI_at, if_neg (by omega), stI_at, if_neg (by omega)]
    · simp only [if_neg c, ↓reduceIte]
      refine Or.inr ⟨_, _, rfl, rfl, ⟨p2, t1.2.1, ?_⟩, fA0.tr t11, fB0.tr (t12.tr (frB.st (Or.inr (Or.inl rfl))))⟩
      rw [stI_at, if_neg (by omega)]; exact t2.2.1
  · rw [e1, e2, Option.bind_some]
    dsimp only
    rw [Option.bind_some]
    dsimp only
    rw [if_pos rfl, if_pos rfl]
    refine Or.inr ⟨_, _, rfl, rfl, ⟨p2, f1, ?_⟩, fA0.tr f2, fB0.tr (f3.tr (frB.st (Or.inr (Or.inl rfl))))⟩
    rw [stI_at, if_neg (by omega)]; exact f1'
