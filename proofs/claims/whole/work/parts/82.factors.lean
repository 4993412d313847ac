/-! the text is read: factors, lines -/
theorem cod16 {y : Int32} {Z : St} {G : Int32 → St → Option (Int32 × St)} : ((mo_codes y Z).bind fun (c20, X19) => (if c20 = 0 then G 0 X19 else G 1 X19)) = ((mo_codes y Z).bind fun (_, X19) => G 1 X19) := by
  unfold mo_codes
  by_cases h : inB (Z.1 102 20) 200 = true
  · rw [if_pos h]; rfl
  · rw [if_neg h]; rfl
theorem fac_body {n : Nat} {X : St} {L o : Nat} (ho : o ≤ 6) (hn : 4096 ≤ n) (hL : L ≤ 120) (hT : ∀ i, i < L → 0 ≤ (X.1 18 i).toInt ∧ (X.1 18 i).toInt ≤ 255) (Hf : o < 6 → LevOK n X L (o + 1) 1 (Int32.ofNat (o + 1)) 0 0 (dF (o + 1)) (eF (o + 1))) : LevOK n X L o 1 (Int32.ofNat o) 0 0 (dF o) (eF o) := by
  intro d e p cc mc A B hd he hA hB hp hc hm
  have d1 : 1 ≤ dF o := by unfold dF; omega
  have e1' : 1 ≤ eF o := by unfold eF; omega
  obtain ⟨d', rfl⟩ : ∃ d', d = d' + 1 := ⟨d - 1, by omega⟩
  obtain ⟨e', rfl⟩ : ∃ e', e = e' + 1 := ⟨e - 1, by omega⟩
  show Out X L p cc mc o A B (tap_isFactor_G (tap_isLevel_grp n d') n (Int32.ofNat o) A) (mo_isO_G (mo_isO_grp n e') n B)
  unfold tap_isFactor_G mo_isO_G
  obtain ⟨c, c1, c2⟩ := mdig hL hB
  have hA' := hA
  obtain ⟨a1, a2, a3, a4⟩ := hA'
  have hB' := hB
  obtain ⟨b1, b2, b3, b4, b5⟩ := hB'
  have bo : B.1 102 19 = 6 ↔ o = 6 := by
    rw [ti_eq, b4, show (6 : Int32).toInt = 6 by decide]
    omega
  have sg := sign_s hL hB
  rw [c1, show ∀ (F : Int32 → Option (Int32 × St)), (some c).bind F = F c from fun _ => rfl]
  -- what is ahead of a factor, in the model
  have hBo : o < 6 → PB X L p mc (o + 1) (stI B 102 19 (B.1 102 19 + 1)) := fun h => hB.op (by omega)
  have noM : o < 6 → ¬ (p < L ∧ X.1 18 p = 33) → ¬ (p < L ∧ X.1 18 p = 45) → ¬ (p < L ∧ X.1 18 p = 40) → Out X L p cc mc o A B (some (0, A)) ((mo_is (33 : Int32) (stI B 102 19 ((B.1 102 19) + (1 : Int32)))).bind fun (c4, X3) =>
      (if c4 = 0 then
      ((mo_is (45 : Int32) X3).bind fun (c6, X5) =>
      (if c6 = 0 then
      ((mo_is (40 : Int32) X5).bind fun (c8, X7) =>
      (if c8 = 0 then
      (mo_isO_J212 (mo_isO_grp n e') n X7)
      else
      ((mo_isO_grp n e' 5 X7).bind fun (c10, X9) =>
      (if c10 = 0 then
      (mo_isO_J212 (mo_isO_grp n e') n X9)
      else
      ((mo_is (41 : Int32) X9).bind fun (c12, X11) =>
      (if c12 = 0 then
      (mo_isO_J212 (mo_isO_grp n e') n X11)
      else
      (some ((1 : Int32), (stI X11 102 19 ((X11.1 102 19) - (1 : Int32)))))))))))
      else
      ((mo_isO_grp n e' 0 X5).bind fun (c14, X13) =>
      (if c14 = 0 then
      (mo_isO_J179 (mo_isO_grp n e') n (0 : Int32) X13)
      else
      ((mo_codes (17 : Int32) X13).bind fun (c16, X15) =>
      (if c16 = 0 then
      (mo_isO_J179 (mo_isO_grp n e') n (0 : Int32) X15)
      else
      (mo_isO_J179 (mo_isO_grp n e') n (1 : Int32) X15)))))))
      else
      ((mo_isO_grp n e' 0 X3).bind fun (c18, X17) =>
      (if c18 = 0 then
      (mo_isO_J145 (mo_isO_grp n e') n (0 : Int32) X17)
      else
      ((mo_codes (16 : Int32) X17).bind fun (c20, X19) =>
      (if c20 = 0 then
      (mo_isO_J145 (mo_isO_grp n e') n (0 : Int32) X19)
      else
      (mo_isO_J145 (mo_isO_grp n e') n (1 : Int32) X19))))))) := by
    intro h n1 n2 n3
    have hBp := hBo h
    rw [is_s hL hBp (by decide), Option.bind_some]
    dsimp only
    simp only [if_neg n1, ↓reduceIte]
    rw [is_s hL hBp (by decide), Option.bind_some]
    dsimp only
    simp only [if_neg n2, ↓reduceIte]
    rw [is_s hL hBp (by decide), Option.bind_some]
    dsimp only
    simp only [if_neg n3, ↓reduceIte]
    unfold mo_isO_J212
    refine Or.inr ⟨A, _, rfl, rfl, ⟨p, a2, ?_⟩, frA.rf, (frB.st (Or.inr (Or.inl rfl))).tr (frB.st (Or.inr (Or.inl rfl)))⟩
    rw [stI_at, if_neg (by omega), stI_at, if_neg (by omega)]; exact b2
  have same0 : Out X L p cc mc o A B (some (0, A)) (some (0, B)) := Or.inr ⟨A, B, rfl, rfl, ⟨p, a2, b2⟩, frA.rf, frB.rf⟩
  by_cases cp : p < L
  · rw [if_pos (by rw [ltk]; omega), if_pos (by rw [inB_iff]; omega), nxk a2, a4 p cp]
    by_cases cd : dig (X.1 18 p)
    · rw [if_neg (fun h => tdig.mp h cd), if_neg (fun h => c2.mp h ⟨cp, cd⟩)]
      obtain ⟨A', B', p', y, g1, g2, g3, g4, g5, g6, g7, g8, g9, g10, g11, g12, g13, g14⟩ := num_s n (C := mo_isO_grp n e') hL (by omega) (by omega) 4 n n 0 p 0 0 A B (by omega) (by omega) (by omega) ti0 (by decide) (by decide) hA hB hp
      have g1' : tap_writeNumber n A = some A' := g1
      rw [g1', Option.bind_some, g2]
      exact Or.inl ⟨A', B', p', [y], rfl, rfl, g4, g5, g7, by have := g8 (by omega) cp cd; show 1 + p ≤ p'; omega, g8 (by omega) cp cd, wf_num g3, ⟨g9, trivial⟩, ⟨g10, trivial⟩, g11, g12, g13, g14⟩
    · rw [if_pos (tdig.mpr cd), if_pos (c2.mpr (fun z => cd z.2)), sg, if_pos cp, Option.bind_some, Option.bind_some]
      obtain ⟨t0, t1⟩ := hT p cp
      have tx : X.1 18 p = Int32.ofNat (nx (X.1 18 p)) := (ofNat_nx t0).symm
      have tn := nx_ti t0
      obtain ⟨nm1, nm2⟩ := name_e (nx (X.1 18 p)) (by omega)
      rw [← tx] at nm1 nm2
      rw [nm1]
      by_cases cn : mo_nameOf (X.1 18 p) < 0
      · rw [if_pos cn, if_pos cn]
        by_cases c6 : o = 6
        · rw [if_neg (by rw [ltk, ti_ofNat (by omega), show (6 : Int32).toInt = 6 by decide]; omega), if_pos (bo.mpr c6)]
          exact same0
        · have o6 : o < 6 := by omega
          rw [if_pos (by rw [ltk, ti_ofNat (by omega), show (6 : Int32).toInt = 6 by decide]; omega), if_neg (fun h => c6 (bo.mp h))]
          obtain ⟨d'', rfl⟩ : ∃ d'', d' = d'' + 1 := ⟨d' - 1, by unfold dF at hd; omega⟩
          have eo : Int32.ofNat o + 1 = Int32.ofNat (o + 1) := ofk (inc (ti_ofNat (by omega)) (by omega))
          have HF := Hf o6
          have HE := exp_s hn hL HF
          have rd : dF (o + 1) + 6 ≤ d'' := by unfold dF at hd ⊢; omega
          have re : eF (o + 1) + 5 ≤ e' := by unfold eF at he ⊢; omega
          refine Out.cg (E1 := tap_isOpened_G (tap_isLevel_grp n d'') n (X.1 18 p) (Int32.ofNat o + 1) A) ?_ (fun c Z hcz hE => ?_) (fun c Z _ hE => hE)
          · unfold tap_isOpened_G tap_isOpened_J20
            rw [eo]
            have hBp := hBo o6
            by_cases k40 : X.1 18 p = 40
            · rw [if_pos k40, if_pos k40]
              have n1 : ¬ (p < L ∧ X.1 18 p = 33) := fun z => by rw [k40] at z; exact absurd z.2 (by decide)
              have n2 : ¬ (p < L ∧ X.1 18 p = 45) := fun z => by rw [k40] at z; exact absurd z.2 (by decide)
              rw [is_s hL hBp (by decide), Option.bind_some]
              dsimp only
              simp only [if_neg n1, ↓reduceIte]
              rw [is_s hL hBp (by decide), Option.bind_some]
              dsimp only
              simp only [if_neg n2, ↓reduceIte]
              rw [is_s hL hBp (by decide), Option.bind_some]
              dsimp only
              simp only [if_pos (And.intro cp k40), show ¬ (1 : Int32) = 0 by decide, ↓reduceIte]
              unfold mo_isO_J212
              exact paren (n := n) hL o6 cp hA hB (HE d'' e' (p + 1) cc mc _ _ rd re (PA.adv (by omega) hA) (PB.adv (by omega) hBp) (by omega) (by omega) (by omega))
            rw [if_neg k40]
            by_cases k33 : X.1 18 p = 33
            · rw [if_pos k33, if_neg k40]
              rw [is_s hL hBp (by decide), Option.bind_some]
              dsimp only
              simp only [if_pos (And.intro cp k33), if_pos k33, show ¬ (1 : Int32) = 0 by decide, ↓reduceIte]
              simp only [cod16 (G := fun s Z => mo_isO_J145 (mo_isO_grp n e') n s Z)]
              exact unary (n := n) (y := 16) hL o6 hc hm cp (Or.inl rfl) hA hB (HF d'' e' (p + 1) cc mc _ _ (by omega) (by omega) (PA.adv (by omega) hA) (PB.adv (by omega) hBp) (by omega) (by omega) (by omega))
            rw [if_neg k33]
            by_cases k45 : X.1 18 p = 45
            · have n1 : ¬ (p < L ∧ X.1 18 p = 33) := fun z => k33 z.2
              rw [if_pos k45, if_neg k40]
              rw [is_s hL hBp (by decide), Option.bind_some]
              dsimp only
              simp only [if_neg n1, if_neg k33, ↓reduceIte]
              rw [is_s hL hBp (by decide), Option.bind_some]
              dsimp only
              simp only [if_pos (And.intro cp k45), show ¬ (1 : Int32) = 0 by decide, ↓reduceIte]
              simp only [cod16 (G := fun s Z => mo_isO_J179 (mo_isO_grp n e') n s Z)]
              exact unary (n := n) (y := 17) hL o6 hc hm cp (Or.inr rfl) hA hB (HF d'' e' (p + 1) cc mc _ _ (by omega) (by omega) (PA.adv (by omega) hA) (PB.adv (by omega) hBp) (by omega) (by omega) (by omega))
            rw [if_neg k45]
            exact noM o6 (fun z => k33 z.2) (fun z => k45 z.2) (fun z => k40 z.2)
          · show (tap_isOpened_G (tap_isLevel_grp n d'') n (X.1 18 p) (Int32.ofNat o + 1) A).bind _ = _
            rw [hE, Option.bind_some]
            dsimp only
            rcases hcz with z | z <;> subst z <;> rfl
      · rw [if_neg cn, if_neg cn]
        have nr := nm2.resolve_left cn
        obtain ⟨t, w1, w2⟩ := wr_s (A := stI A 17 3 (A.1 17 3 + 1)) (v := -1 - mo_nameOf (X.1 18 p)) (PA.adv (by omega) hA).2.2.1 (by omega)
        obtain ⟨t', w3, w4⟩ := co_s (B := stI B 102 18 (B.1 102 18 + 1)) (v := mo_nameOf (X.1 18 p)) (PB.adv (by omega) hB).2.2.1 (by omega)
        have ep : -1 - mo_nameOf (X.1 18 p) = phi (mo_nameOf (X.1 18 p)) := by
          have := (phi_lo (y := mo_nameOf (X.1 18 p)) nr.1 nr.2).1
          rw [ti_eq, this, ti_sub] <;> rw [ti_m1] <;> omega
        rw [w2, w4, Option.bind_some, Option.bind_some]
        dsimp only
        generalize mo_nameOf (X.1 18 p) = y at nr ep ⊢
        obtain ⟨x1, x2, x3, x4⟩ := PA.adv (by omega) hA
        obtain ⟨z1, z2, z3, z4, z5⟩ := PB.adv (by omega) hB
        refine Or.inl ⟨_, _, p + 1, [y], rfl, rfl, ⟨?_, ?_, ?_, fun i hi => ?_⟩, ⟨?_, ?_, ?_, ?_, fun i hi => ?_⟩, by omega, by show 1 + p ≤ p + 1; omega, by omega, wf_nam nr.1 nr.2, ⟨?_, trivial⟩, ⟨stI_self, trivial⟩, fun i hi => ?_, fun i hi => ?_, (frA.st (Or.inl rfl)).tr (frA.s9.tr (frA.st (Or.inr rfl))), (frB.st (Or.inl rfl)).tr ((frB.st (Or.inr (Or.inr rfl))).tr frB.s0)⟩
        · rw [stI_at, if_neg (by omega), stI_at, if_neg (by omega)]; exact x1
        · rw [stI_at, if_neg (by omega), stI_at, if_neg (by omega)]; exact x2
        · rw [stI_self, w1]; rfl
        · rw [stI_at, if_neg (by omega), stI_at, if_neg (by omega)]; exact x4 i hi
        · rw [stI_at, if_neg (by omega), stI_at, if_neg (by omega)]; exact z1
        · rw [stI_at, if_neg (by omega), stI_at, if_neg (by omega)]; exact z2
        · rw [stI_at, if_neg (by omega), stI_self, w3]; rfl
        · rw [stI_at, if_neg (by omega), stI_at, if_neg (by omega)]; exact z4
        · rw [stI_at, if_neg (by omega), stI_at, if_neg (by omega)]; exact z5 i hi
        · rw [stI_at, if_neg (by omega), stI_self]; exact ep
        · rw [stI_at, if_neg (by omega), stI_at, if_neg (by omega), stI_at, if_neg (by omega)]
        · rw [stI_at, if_neg (by omega), stI_at, if_neg (by omega), stI_at, if_neg (by omega)]
  · rw [if_neg (by rw [ltk]; omega), if_pos (c2.mpr (fun z => cp z.1)), sg, if_neg cp, Option.bind_some, if_pos (by decide)]
    by_cases c6 : o = 6
    · rw [if_pos (bo.mpr c6)]
      exact same0
    · rw [if_neg (fun h => c6 (bo.mp h))]
      exact noM (by omega) (fun z => cp z.1) (fun z => cp z.1) (fun z => cp z.1)
theorem fac_all {n : Nat} (hn : 4096 ≤ n) {X : St} {L : Nat} (hL : L ≤ 120) (hT : ∀ i, i < L → 0 ≤ (X.1 18 i).toInt ∧ (X.1 18 i).toInt ≤ 255) : ∀ q o, o + q = 6 → LevOK n X L o 1 (Int32.ofNat o) 0 0 (dF o) (eF o) := by
  intro q
  induction q with
  | zero =>
    intro o ho d e p cc mc A B hd he hA hB hp hc hm
    exact fac_body (by omega) hn hL hT (fun h => by omega) d e p cc mc A B hd he hA hB hp hc hm
  | succ q ih =>
    intro o ho d e p cc mc A B hd he hA hB hp hc hm
    exact fac_body (by omega) hn hL hT (fun _ => ih (o + 1) (by omega)) d e p cc mc A B hd he hA hB hp hc hm
/-- E is read alike on both sides -/
theorem expr_s {n : Nat} (hn : 4096 ≤ n) {X A B : St} {L p cc mc : Nat} (hL : L ≤ 120) (hT : ∀ i, i < L → 0 ≤ (X.1 18 i).toInt ∧ (X.1 18 i).toInt ≤ 255) (hA : PA X L p cc A) (hB : PB X L p mc 0 B) (hp : p ≤ L) (hc : cc ≤ p) (hm : mc ≤ p) : Out X L p cc mc 0 A B (tap_isLevel n 0 0 A) (mo_isE n B) := by
  have h := exp_s hn hL (fac_all hn hL hT 6 0 (by omega))
  exact h DEP DEP p cc mc A B (by decide) (by decide) hA hB hp hc hm
