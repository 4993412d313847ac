/-! the text is read: factors -/
def LevOK (n : Nat) (X : St) (L o : Nat) (j1 : Nat) (a0 a1 : Int32) (j2 dn en : Nat) : Prop := ∀ (d e p cc mc : Nat) (A B : St), dn ≤ d → en ≤ e → PA X L p cc A → PB X L p mc o B → p ≤ L → cc ≤ p → mc ≤ p → Out X L p cc mc o A B (tap_isLevel_grp n d j1 a0 a1 A) (mo_isO_grp n e j2 B)
theorem Out.cg {X : St} {L p0 cc mc o : Nat} {A0 B0 : St} {E1 E1' E2 E2' : Option (Int32 × St)} (h : Out X L p0 cc mc o A0 B0 E1 E2) (h1 : ∀ c Z, (c = 0 ∨ c = 1) → E1 = some (c, Z) → E1' = some (c, Z)) (h2 : ∀ c Z, (c = 0 ∨ c = 1) → E2 = some (c, Z) → E2' = some (c, Z)) : Out X L p0 cc mc o A0 B0 E1' E2' := by
  rcases h with ⟨A, B, p, l, e1, e2, s⟩ | ⟨A, B, e1, e2, s⟩
  · exact Or.inl ⟨A, B, p, l, h1 1 A (Or.inr rfl) e1, h2 1 B (Or.inr rfl) e2, s⟩
  · exact Or.inr ⟨A, B, h1 0 A (Or.inl rfl) e1, h2 0 B (Or.inl rfl) e2, s⟩
theorem lev5 {n : Nat} {X : St} {L o dn en : Nat} (h : LevOK n X L o 1 (Int32.ofNat o) 0 0 dn en) : LevOK n X L o 0 (Int32.ofNat 5) (Int32.ofNat o) 0 (dn + 1) en := by
  intro d e p cc mc A B hd he hA hB hp hc hm
  obtain ⟨d', rfl⟩ : ∃ d', d = d' + 1 := ⟨d - 1, by omega⟩
  refine (h d' e p cc mc A B (by omega) he hA hB hp hc hm).cg (fun c Z hcz hE => ?_) (fun c Z _ hE => hE)
  show tap_isLevel_G (tap_isLevel_grp n d') n (Int32.ofNat 5) (Int32.ofNat o) A = _
  unfold tap_isLevel_G
  rw [if_neg (by decide), hE, Option.bind_some]
  dsimp only
  rcases hcz with e | e <;> subst e <;> rfl
theorem opc_4 {x : Int32} : opc 4 x = if x = 42 then some 13 else if x = 47 then some 14 else if x = 37 then some 15 else none := rfl
theorem opc_3 {x : Int32} : opc 3 x = if x = 43 then some 11 else if x = 45 then some 12 else none := rfl
theorem opc_1 {x : Int32} : opc 1 x = if x = 38 then some 7 else none := rfl
theorem opc_0 {x : Int32} : opc 0 x = if x = 124 then some 6 else none := rfl
/-- a level out of the one above it -/
theorem lev4 {n : Nat} (hn : 4096 ≤ n) {X : St} {L o v j2 jm dn en : Nat} {CB : (Nat → St → Option (Int32 × St)) → Nat → St → Option (Int32 × St)} {CL : (Nat → St → Option (Int32 × St)) → Nat → St → Option (Int32 × St)} (hL : L ≤ 120) (hv : v < 5) (hv2 : v ≠ 2) (hg : ∀ e B, mo_isO_grp n (e + 1) j2 B = (mo_isO_grp n e jm B).bind fun (c2, X1) => (if c2 = 0 then some ((0 : Int32), X1) else CL (mo_isO_grp n e) n X1)) (HM : ∀ (e w : Nat) (B : St) (p mc' : Nat), PB X L p mc' o B → CL (mo_isO_grp n e) (w + 1) B = match (if p < L then opc v (X.1 18 p) else none) with
    | none => some (1, B)
    | some y => ((mo_isO_grp n e jm (stI B 102 18 (B.1 102 18 + 1))).bind fun (c5, X4) => (if c5 = 0 then some ((0 : Int32), X4) else ((mo_codes y X4).bind fun (c7, X6) => CL (mo_isO_grp n e) w X6)))) (h : LevOK n X L o 0 (Int32.ofNat (v + 1)) (Int32.ofNat o) jm dn en) : LevOK n X L o 0 (Int32.ofNat v) (Int32.ofNat o) j2 (dn + 1) (en + 1) := by
  intro d e p cc mc A B hd he hA hB hp hc hm
  obtain ⟨d', rfl⟩ : ∃ d', d = d' + 1 := ⟨d - 1, by omega⟩
  obtain ⟨e', rfl⟩ : ∃ e', e = e' + 1 := ⟨e - 1, by omega⟩
  have ev : Int32.ofNat v + 1 = Int32.ofNat (v + 1) := ofk (inc (ti_ofNat (by omega)) (by omega))
  have E1 : tap_isLevel_grp n (d' + 1) 0 (Int32.ofNat v) (Int32.ofNat o) A = (tap_isLevel_grp n d' 0 (Int32.ofNat (v + 1)) (Int32.ofNat o) A).bind fun (c2, X1) => (if c2 = 0 then some ((0 : Int32), X1) else tap_isLevel_L26 (tap_isLevel_grp n d') n n (Int32.ofNat v) (Int32.ofNat o) (0 : Int32) X1) := by
    show tap_isLevel_G (tap_isLevel_grp n d') n (Int32.ofNat v) (Int32.ofNat o) A = _
    unfold tap_isLevel_G
    rw [if_pos (by rw [ltk, ti_ofNat (by omega), show (5 : Int32).toInt = 5 by decide]; omega), ev]
  rw [E1, hg]
  rcases h d' e' p cc mc A B (by omega) (by omega) hA hB hp hc hm with ⟨A1, B1, p1, l, e1, e2, s⟩ | ⟨A1, B1, e1, e2, s⟩
  · rw [e1, e2, Option.bind_some]
    dsimp only
    rw [Option.bind_some]
    dsimp only
    rw [if_neg (by decide), if_neg (by decide)]
    have hp1 := s.2.2.1
    refine lev2 (ML := CL (mo_isO_grp n e')) hL hv hv2 hc hm (HM e') (fun p' c' m' A' B' a b g1 g2 g3 => ?_) (L - p1) n n p1 0 0 A1 B1 l (by omega) (by omega) (by omega) ti0 (Nat.zero_le _) s
    rw [ev]
    exact h d' e' p' c' m' A' B' (by omega) (by omega) a b g1 g2 g3
  · rw [e1, e2, Option.bind_some]
    dsimp only
    rw [Option.bind_some]
    dsimp only
    rw [if_pos rfl, if_pos rfl]
    exact Or.inr ⟨A1, B1, rfl, rfl, s⟩
theorem lev3 {n : Nat} (hn : 4096 ≤ n) {X : St} {L o dn en : Nat} (hL : L ≤ 120) (h : LevOK n X L o 0 (Int32.ofNat 3) (Int32.ofNat o) 2 dn en) : LevOK n X L o 0 (Int32.ofNat 2) (Int32.ofNat o) 3 (dn + 1) (en + 1) := by
  intro d e p cc mc A B hd he hA hB hp hc hm
  obtain ⟨d', rfl⟩ : ∃ d', d = d' + 1 := ⟨d - 1, by omega⟩
  obtain ⟨e', rfl⟩ : ∃ e', e = e' + 1 := ⟨e - 1, by omega⟩
  obtain ⟨N, rfl⟩ : ∃ N, n = N + 1 := ⟨n - 1, by omega⟩
  have E1 : tap_isLevel_grp (N + 1) (d' + 1) 0 (Int32.ofNat 2) (Int32.ofNat o) A = (tap_isLevel_grp (N + 1) d' 0 (Int32.ofNat 3) (Int32.ofNat o) A).bind fun (c2, X1) => (if c2 = 0 then some ((0 : Int32), X1) else tap_isLevel_L26_B (tap_isLevel_grp (N + 1) d') (N + 1) (tap_isLevel_L26 (tap_isLevel_grp (N + 1) d') (N + 1) N) (Int32.ofNat 2) (Int32.ofNat o) (0 : Int32) X1) := by
    show tap_isLevel_G (tap_isLevel_grp (N + 1) d') (N + 1) (Int32.ofNat 2) (Int32.ofNat o) A = _
    unfold tap_isLevel_G
    rw [if_pos (by decide), show Int32.ofNat 2 + 1 = Int32.ofNat 3 by decide]
    rfl
  have E2 : mo_isO_grp (N + 1) (e' + 1) 3 B = mo_isB_G (mo_isO_grp (N + 1) e') (N + 1) B := rfl
  rw [E1, E2]
  unfold mo_isB_G
  rcases h d' e' p cc mc A B (by omega) (by omega) hA hB hp hc hm with ⟨A1, B1, p1, l, e1, e2, s⟩ | ⟨A1, B1, e1, e2, s⟩
  · rw [e1, e2, Option.bind_some]
    dsimp only
    rw [Option.bind_some]
    dsimp only
    rw [if_neg (by decide), if_neg (by decide)]
    have s' := s
    obtain ⟨⟨a1, a2, a3, a4⟩, s2, s3, s4, s5, s6, s7, s8, s9, s10, s11, s12⟩ := s'
    rw [sign_s hL s2, Option.bind_some, Option.bind_some, Option.bind_some]
    unfold tap_isLevel_L26_B
    rw [if_pos (by decide)]
    have fin : ∀ y : Int32, p1 < L → opc 2 (X.1 18 p1) = some y → 0 ≤ y.toInt → Out X L p cc mc o A B ((tap_isLevel_grp (N + 1) d' 0 (Int32.ofNat 2 + 1) (Int32.ofNat o) (stI A1 17 3 (A1.1 17 3 + 1))).bind fun (c4, X3) => (if c4 = 0 then some ((0 : Int32), X3) else ((tap_write (-(X.1 18 p1)) X3).bind fun X5 => (if Int32.ofNat 2 = 2 then some ((1 : Int32), X5) else tap_isLevel_L26 (tap_isLevel_grp (N + 1) d') (N + 1) N (Int32.ofNat 2) (Int32.ofNat o) (0 + 1) X5)))) (mo_isB_J52 (mo_isO_grp (N + 1) e') (N + 1) y B1) := by
      intro y cp ho hy
      unfold mo_isB_J52
      rw [if_neg (c := y < 0) (by rw [ltk, ti0]; omega)]
      have c1 : ∀ Z, ((mo_codes y Z).bind fun (c7, X6) => (if c7 = 0 then some ((0 : Int32), X6) else some ((1 : Int32), X6))) = ((mo_codes y Z).bind fun (c7, X6) => some ((1 : Int32), X6)) := fun Z => by
        unfold mo_codes
        by_cases h : inB (Z.1 102 20) 200 = true
        · rw [if_pos h]; rfl
        · rw [if_neg h]; rfl
      simp only [c1]
      refine lev1 (n := N + 1) (KC := fun X5 => if Int32.ofNat 2 = 2 then some ((1 : Int32), X5) else tap_isLevel_L26 (tap_isLevel_grp (N + 1) d') (N + 1) N (Int32.ofNat 2) (Int32.ofNat o) (0 + 1) X5) (KM := fun X6 => some ((1 : Int32), X6)) hL (by omega) hc hm s cp ho ?_ (fun A' B' p' l' hN hp' => ?_)
      · rw [show Int32.ofNat 2 + 1 = Int32.ofNat 3 by decide]
        exact h d' e' (p1 + 1) _ _ _ _ (by omega) (by omega) (PA.adv (by omega) ⟨a1, a2, a3, a4⟩) (PB.adv (by omega) s2) (by omega) (by omega) (by omega)
      · rw [if_pos (by decide)]
        exact Or.inl ⟨A', B', p', l', rfl, rfl, hN⟩
    by_cases cp : p1 < L
    · rw [if_pos (by rw [ltk]; omega), if_pos (by rw [inB_iff]; omega), nxk a2, a4 p1 cp]
      simp only [if_pos cp]
      by_cases o1 : X.1 18 p1 = 60
      · have ho : opc 2 (X.1 18 p1) = some 8 := by rw [o1]; decide
        rw [if_pos (opc_s (by omega) ho).1, if_pos (by rw [inB_iff]; omega), if_pos o1]
        exact fin 8 cp ho (by decide)
      rw [if_neg o1]
      by_cases o2 : X.1 18 p1 = 61
      · have ho : opc 2 (X.1 18 p1) = some 9 := by rw [o2]; decide
        rw [if_pos (opc_s (by omega) ho).1, if_pos (by rw [inB_iff]; omega), if_pos o2]
        exact fin 9 cp ho (by decide)
      rw [if_neg o2]
      by_cases o3 : X.1 18 p1 = 62
      · have ho : opc 2 (X.1 18 p1) = some 10 := by rw [o3]; decide
        rw [if_pos (opc_s (by omega) ho).1, if_pos (by rw [inB_iff]; omega), if_pos o3]
        exact fin 10 cp ho (by decide)
      rw [if_neg o3]
      have ho : opc 2 (X.1 18 p1) = none := by
        unfold opc
        rw [if_neg (by decide), if_neg (by decide), if_pos rfl, if_neg o1, if_neg o2, if_neg o3]
      rw [if_neg (opc_n (by omega) ho)]
      unfold mo_isB_J52
      rw [if_pos (by decide)]
      exact Or.inl ⟨A1, B1, p1, l, rfl, rfl, s⟩
    · rw [if_neg (by rw [ltk]; omega)]
      simp only [if_neg cp, show ¬ (-1 : Int32) = 60 by decide, show ¬ (-1 : Int32) = 61 by decide, show ¬ (-1 : Int32) = 62 by decide, ↓reduceIte]
      unfold mo_isB_J52
      rw [if_pos (by decide)]
      exact Or.inl ⟨A1, B1, p1, l, rfl, rfl, s⟩
  · rw [e1, e2, Option.bind_some]
    dsimp only
    rw [Option.bind_some]
    dsimp only
    rw [if_pos rfl, if_pos rfl]
    exact Or.inr ⟨A1, B1, rfl, rfl, s⟩
/-- all levels out of the factors -/
theorem exp_s {n : Nat} (hn : 4096 ≤ n) {X : St} {L o dn en : Nat} (hL : L ≤ 120) (h : LevOK n X L o 1 (Int32.ofNat o) 0 0 dn en) : LevOK n X L o 0 0 (Int32.ofNat o) 5 (dn + 6) (en + 5) := by
  have h5 := lev5 h
  have h4 : LevOK n X L o 0 (Int32.ofNat 4) (Int32.ofNat o) 1 (dn + 2) (en + 1) := lev4 hn (v := 4) (j2 := 1) (jm := 0) (CB := fun _ _ _ => none) (CL := fun C => mo_isP_L9 C n) hL (by omega) (by omega) (fun e B => rfl) (fun e w B p mc' hB => by
    show mo_isP_L9_B _ n _ B = _
    unfold mo_isP_L9_B mo_isP_J52
    rw [sign_s hL hB, Option.bind_some, Option.bind_some, Option.bind_some]
    by_cases cp : p < L
    · simp only [if_pos cp]
      rw [opc_4]
      by_cases c1 : X.1 18 p = 42
      · rw [if_pos c1, if_pos c1, if_neg (by decide)]
      rw [if_neg c1, if_neg c1]
      by_cases c2 : X.1 18 p = 47
      · rw [if_pos c2, if_pos c2, if_neg (by decide)]
      rw [if_neg c2, if_neg c2]
      by_cases c3 : X.1 18 p = 37
      · rw [if_pos c3, if_pos c3, if_neg (by decide)]
      rw [if_neg c3, if_neg c3, if_pos (by decide)]
    · simp only [if_neg cp, show ¬ (-1 : Int32) = 42 by decide, show ¬ (-1 : Int32) = 47 by decide, show ¬ (-1 : Int32) = 37 by decide, ↓reduceIte, show (-1 : Int32) < 0 by decide]) h5
  have h3 : LevOK n X L o 0 (Int32.ofNat 3) (Int32.ofNat o) 2 (dn + 3) (en + 2) := lev4 hn (v := 3) (j2 := 2) (jm := 1) (CB := fun _ _ _ => none) (CL := fun C => mo_isS_L9 C n) hL (by omega) (by omega) (fun e B => rfl) (fun e w B p mc' hB => by
    show mo_isS_L9_B _ n _ B = _
    unfold mo_isS_L9_B mo_isS_J38
    rw [sign_s hL hB, Option.bind_some, Option.bind_some]
    by_cases cp : p < L
    · simp only [if_pos cp]
      rw [opc_3]
      by_cases c1 : X.1 18 p = 43
      · rw [if_pos c1, if_pos c1, if_neg (by decide)]
      rw [if_neg c1, if_neg c1]
      by_cases c2 : X.1 18 p = 45
      · rw [if_pos c2, if_pos c2, if_neg (by decide)]
      rw [if_neg c2, if_neg c2, if_pos (by decide)]
    · simp only [if_neg cp, show ¬ (-1 : Int32) = 43 by decide, show ¬ (-1 : Int32) = 45 by decide, ↓reduceIte, show (-1 : Int32) < 0 by decide]) h4
  have h2 : LevOK n X L o 0 (Int32.ofNat 2) (Int32.ofNat o) 3 (dn + 4) (en + 3) := lev3 hn hL h3
  have h1 : LevOK n X L o 0 (Int32.ofNat 1) (Int32.ofNat o) 4 (dn + 5) (en + 4) := lev4 hn (v := 1) (j2 := 4) (jm := 3) (CB := fun _ _ _ => none) (CL := fun C => mo_isA_L9 C n) hL (by omega) (by omega) (fun e B => rfl) (fun e w B p mc' hB => by
    show mo_isA_L9_B _ n _ B = _
    unfold mo_isA_L9_B mo_is
    rw [sign_s hL hB, Option.bind_some]
    by_cases cp : p < L
    · simp only [if_pos cp]
      rw [opc_1]
      by_cases c1 : X.1 18 p = 38
      · rw [if_pos c1, if_pos c1, Option.bind_some]
        dsimp only
        rw [if_neg (by decide)]
      · rw [if_neg c1, if_neg c1, Option.bind_some]
        dsimp only
        rw [if_pos rfl]
    · simp only [if_neg cp, show ¬ (-1 : Int32) = 38 by decide, ↓reduceIte, Option.bind_some]) h2
  exact lev4 hn (v := 0) (j2 := 5) (jm := 4) (CB := fun _ _ _ => none) (CL := fun C => mo_isE_L9 C n) hL (by omega) (by omega) (fun e B => rfl) (fun e w B p mc' hB => by
    show mo_isE_L9_B _ n _ B = _
    unfold mo_isE_L9_B mo_is
    rw [sign_s hL hB, Option.bind_some]
    by_cases cp : p < L
    · simp only [if_pos cp]
      rw [opc_0]
      by_cases c1 : X.1 18 p = 124
      · rw [if_pos c1, if_pos c1, Option.bind_some]
        dsimp only
        rw [if_neg (by decide)]
      · rw [if_neg c1, if_neg c1, Option.bind_some]
        dsimp only
        rw [if_pos rfl]
    · simp only [if_neg cp, show ¬ (-1 : Int32) = 124 by decide, ↓reduceIte, Option.bind_some]) h1
