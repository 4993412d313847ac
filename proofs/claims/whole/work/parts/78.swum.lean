/-! a routine is swum -/
theorem joinr2 {β : Type} {E : Option (β × St)} {X : St} {P : St → β → St → Prop} (h : ∀ Y, Mo X Y → ∃ r A, E = some (r, A) ∧ P Y r A) : ∃ r A, E = some (r, A) ∧ ∀ Y, Mo X Y → P Y r A := by
  obtain ⟨r, A, e, -⟩ := h X Mo.rf
  refine ⟨r, A, e, fun Y hY => ?_⟩
  obtain ⟨r', A', e', p⟩ := h Y hY
  rw [e] at e'
  injection e' with e'
  injection e' with e1 e2
  rw [e1, e2]
  exact p
theorem op_swim (n : Nat) (hn : 4096 ≤ n) (a : Int32) (X : St) (hP : IPool X) (hB : IBnd X) (hs : ISh X) (hw : IWy X) (hp : ISlp X) (hL : ILaw X) (hT : ITir X) (hD : ILed X) : ∃ r A, el_swim n a X = some (r, A) ∧ ∀ Y, Mo X Y → (∀ i : Nat, i < 8 → (X.1 1 1).toInt ≤ i → A.1 82 i = X.1 82 i ∧ A.1 83 i = X.1 83 i) ∧ ∃ Y1, mo_swim n a Y = some (r, Y1) ∧ (∀ i, i < 8 → Y1.1 110 i = A.1 82 i ∧ Y1.1 111 i = A.1 83 i) ∧ ∀ i, i < 5 → Y1.1 123 i = A.1 84 i := by
  obtain ⟨m1, m2⟩ := mny_s hP
  refine joinr2 (fun Y hY => ?_)
  have y0s : (∀ i, i < 8 → Y.1 110 i = X.1 82 i ∧ Y.1 111 i = X.1 83 i) ∧ ∀ i, i < 5 → Y.1 123 i = X.1 84 i := ⟨fun i hi => by rw [hY.2 _ _ (by omega), hY.2 _ _ (by omega)]; exact hT i hi, fun i hi => by rw [hY.2 _ _ (by omega)]; exact hD i hi⟩
  unfold el_swim mo_swim
  by_cases ha : 0 ≤ a.toInt ∧ a.toInt ≤ 5
  · have hx := nx_ti ha.1
    rw [if_neg (c := mo_isShelf a = 0) (fun h => shm0.mp h ha)]
    rcases beg_s hn (h := 1) (by decide) ha hP hs hw with ⟨c, k1, k2, k3⟩ | ⟨A, x1, x2, x3⟩
    · refine ⟨c, X, ?_, fun i _ _ => ⟨rfl, rfl⟩, Y, ?_, y0s⟩
      · rw [k2, Option.bind_some]
        dsimp only
        rw [if_neg k1.1]
      · rw [k3 Y hY, Option.bind_some, if_pos k1.2]
    · obtain ⟨y0, B, b1, b2⟩ := x3 Y hY
      obtain ⟨M, hMC, hMM⟩ := marks_ex hn hL
      have hc := rc_le hs (a := nx a) (by omega)
      have h48 : B.1 102 48 = -2 := (b2.lo (by omega) (by omega) (by omega)).trans hp
      obtain ⟨V, A', B', r1, r2, r3, r4, r5, r6, r7, r8⟩ := now_s hn hP m2 hc hMC hMM (seen_rng hB).1 (x2.tc hP) (b2.tb hP) (Or.inl h48) (fun t w ht hw => by
        rw [slC0 x2.2.2.2.2.2.1 hc t w ht, slp0 (m := 8) h48 t w (by omega)])
      have hA' : agA X (rc X (nx a)) (ac X (nx a)) A' := x2.ag.cg r4
      have aHi : ∀ o i, 82 ≤ o → o ≤ 84 → A'.1 o i = X.1 o i := fun o i h1 h2 => (r4 o i (by unfold tcw; omega)).trans (x2.lo (by omega))
      have bHi : ∀ o i, 103 ≤ o → o ≠ 121 → o ≠ 122 → o ≠ 133 → o ≠ 134 → o ≠ 135 → B'.1 o i = X.1 o i := fun o i h0 h1 h2 h3 h4 h5 => (r6 o i h1 h2 h4 h5).trans (b2.lo (by omega) (by omega) (by omega))
      have b44 : B'.1 102 44 = Int32.ofNat (rc X (nx a)) := (r6 _ _ (by omega) (by omega) (by omega) (by omega)).trans b2.2.1
      have b133 : ∀ i, i < rc X (nx a) → B'.1 133 i = ac X (nx a) i := fun i hi => (r6 _ _ (by omega) (by omega) (by omega) (by omega)).trans (b2.2.2.1 i hi)
      have b102 : (B'.1 102 0).toInt = mny X := by rw [r6 _ _ (by omega) (by omega) (by omega) (by omega), b2.lo (by omega) (by omega) (by omega), hP.1]; exact m1
      -- who is gone
      have hG := fun k (hk : k < mny X) => g2_s hn hP hB hc hA' hk
      obtain ⟨G, hG1⟩ : ∃ G : Nat → Int32, ∀ k, k < mny X → (∀ v : Int32, v.toInt = k → tho_goneOf n v A' = some (G k)) ∧ ∀ Z : St, Z.1 102 44 = Int32.ofNat (rc X (nx a)) → (∀ i, i < rc X (nx a) → Z.1 133 i = ac X (nx a) i) → Z.1 106 k = X.1 6 k → Z.1 109 2 = X.1 11 0 → mo_goneAt n (Z.1 106 k) Z = some (G k) :=
        ⟨fun k => if h : k < mny X then Classical.choose (hG k h) else 0, fun k hk => by
          simp only [dif_pos hk]
          exact Classical.choose_spec (hG k hk)⟩
      have a11 : A'.1 1 1 = X.1 1 1 := hA'.1 _ _ (by omega)
      obtain ⟨bb, bb1, bb2, bb3⟩ := ab_s n (A := A') (m := mny X) (G := G) m2 (by rw [a11]; exact m1) (fun k v hk hv => (hG1 k hk).1 v hv) n (mny X) 0 0 0 ti0 (by omega) (by omega) (by decide)
      have bb2' : tho_allGone n A' = some (Int32.ofNat bb) := bb2
      obtain ⟨cu, cu1, cu2⟩ := und_s n (K := fun v6 v7 X5 =>
        ((some (stI X5 123 (nx (0 : Int32)) ((X5.1 123 (nx (0 : Int32))) + (1 : Int32)))).bind fun X8 =>
        ((some (stI X8 123 (nx (1 : Int32)) ((X8.1 123 (nx (1 : Int32))) + (X8.1 102 44)))).bind fun X9 =>
        ((some (stI X9 123 (nx (2 : Int32)) ((X9.1 123 (nx (2 : Int32))) + v6))).bind fun X10 =>
        (mo_swim_L105 n n v6 v7 (0 : Int32) X10))))) (A := A') (B := B') (c := rc X (nx a)) (f := ac X (nx a)) (v3 := V) hc (by rw [hA'.2.2.1]; exact ti_ofNat (by omega)) hA'.2.2.2 (by rw [b44]; exact ti_ofNat (by omega)) b133 n (rc X (nx a)) 0 0 0 ti0 (by omega) (by omega)
      have cu1' : rou_countsUnder n A' = some cu := cu1
      -- the deeds
      generalize hB1 : stI (stI (stI B' 123 0 (B'.1 123 0 + 1)) 123 1 (B'.1 123 1 + Int32.ofNat (rc X (nx a)))) 123 2 (B'.1 123 2 + V) = B1
      have B1o : ∀ o i, ¬ (o = 123 ∧ i < 3) → B1.1 o i = B'.1 o i := fun o i h => by
        rw [← hB1, stI_at, if_neg (by omega), stI_at, if_neg (by omega), stI_at, if_neg (by omega)]
      have B1i : B1.1 123 0 = B'.1 123 0 + 1 ∧ B1.1 123 1 = B'.1 123 1 + Int32.ofNat (rc X (nx a)) ∧ B1.1 123 2 = B'.1 123 2 + V := by
        rw [← hB1]
        refine ⟨?_, ?_, ?_⟩
        · rw [stI_at, if_neg (by omega), stI_at, if_neg (by omega), stI_self]
        · rw [stI_at, if_neg (by omega), stI_self]
        · rw [stI_self]
      obtain ⟨A2, B2, s1, s2, s3, s4, s5⟩ := sw_s n (K := fun v5 X4 =>
        ((some (stI X4 84 (nx (0 : Int32)) ((X4.1 84 (nx (0 : Int32))) + (1 : Int32)))).bind fun X6 =>
        ((some (stI X6 84 (nx (1 : Int32)) ((X6.1 84 (nx (1 : Int32))) + (rou_counts X6)))).bind fun X7 =>
        ((some (stI X7 84 (nx (2 : Int32)) ((X7.1 84 (nx (2 : Int32))) + v5))).bind fun X8 =>
        (some X8))))) (b := bb) (G := G) (mm := X.1 1 1) (tot := V) (cu := cu) (B0 := B1) m2 m1 bb1 (fun i hi => (bb3 i hi).trans ⟨fun h => h.elim (fun z => by rw [Nat.zero_testBit] at z; cases z) (fun z => z.2), fun h => Or.inr ⟨Nat.zero_le _, h⟩⟩) (by rw [B1o _ _ (by omega)]; exact b102) (fun Z hZ k hk => by
          have zb : ∀ o i, o ≠ 110 → o ≠ 111 → o ≠ 123 → Z.1 o i = B'.1 o i := fun o i o1 o2 o3 => by rw [hZ o i o1 o2 o3, B1o _ _ (by omega)]
          exact (hG1 k hk).2 Z (by rw [zb _ _ (by omega) (by omega) (by omega)]; exact b44) (fun i hi => by rw [zb _ _ (by omega) (by omega) (by omega)]; exact b133 i hi) (by rw [zb _ _ (by omega) (by omega) (by omega), bHi _ _ (by omega) (by omega) (by omega) (by omega) (by omega) (by omega)]; exact pl_w hP (w := 3) (by omega) (by omega)) (by rw [zb _ _ (by omega) (by omega) (by omega), bHi _ _ (by omega) (by omega) (by omega) (by omega) (by omega) (by omega)]; exact pl_j hP (j := 2) (by omega))) n (mny X) 0 0 A' B1 ti0 (by omega) (by omega) ⟨fun i hi => by
            rw [aHi _ _ (by omega) (by omega), aHi _ _ (by omega) (by omega), B1o _ _ (by omega), B1o _ _ (by omega), bHi _ _ (by omega) (by omega) (by omega) (by omega) (by omega) (by omega), bHi _ _ (by omega) (by omega) (by omega) (by omega) (by omega) (by omega)]
            exact ⟨(hT i hi).1.symm, (hT i hi).2.symm⟩, by
            rw [aHi _ _ (by omega) (by omega), B1o _ _ (by omega), bHi _ _ (by omega) (by omega) (by omega) (by omega) (by omega) (by omega)]
            exact (hD 3 (by omega)).symm, by
            rw [aHi _ _ (by omega) (by omega), B1o _ _ (by omega), bHi _ _ (by omega) (by omega) (by omega) (by omega) (by omega) (by omega)]
            exact (hD 4 (by omega)).symm⟩ (fun _ _ _ _ _ => rfl)
      have A2c : A2.1 24 1 = Int32.ofNat (rc X (nx a)) := by rw [s4 _ _ (by omega) (by omega)]; exact hA'.2.2.1
      refine ⟨V, stI (stI (stI A2 84 0 (A2.1 84 0 + 1)) 84 1 (A2.1 84 1 + Int32.ofNat (rc X (nx a)))) 84 2 (A2.1 84 2 + V), ?_, fun i hi hm => ?_, B2, ?_, fun i hi => ?_, fun i hi => ?_⟩
      · rw [x1, Option.bind_some]
        dsimp only
        rw [if_pos rfl, r1, Option.bind_some]
        dsimp only
        rw [bb2', Option.bind_some]
        unfold ded_swum poo_many
        rw [cu1', Option.bind_some, a11, s1]
        unfold rou_counts
        rw [show nx (0 : Int32) = 0 by decide, show nx (1 : Int32) = 1 by decide, show nx (2 : Int32) = 2 by decide]
        simp only [Option.bind_some, stI_at, Nat.reduceEqDiff, false_and, and_false, ↓reduceIte, A2c]
      · rw [stI_at, if_neg (by omega), stI_at, if_neg (by omega), stI_at, if_neg (by omega), stI_at, if_neg (by omega), stI_at, if_neg (by omega), stI_at, if_neg (by omega), s4 _ _ (by omega) (by omega), s4 _ _ (by omega) (by omega), aHi _ _ (by omega) (by omega), aHi _ _ (by omega) (by omega)]
        exact ⟨rfl, rfl⟩
      · rw [y0, Option.bind_some, if_neg (by decide), b1, Option.bind_some, r2, Option.bind_some]
        dsimp only
        rw [cu2]
        rw [show nx (0 : Int32) = 0 by decide, show nx (1 : Int32) = 1 by decide, show nx (2 : Int32) = 2 by decide]
        rw [← hB1] at s2
        simp only [Option.bind_some, stI_at, Nat.reduceEqDiff, false_and, and_false, ↓reduceIte, b44]
        exact s2
      · rw [stI_at, if_neg (by omega), stI_at, if_neg (by omega), stI_at, if_neg (by omega), stI_at, if_neg (by omega), stI_at, if_neg (by omega), stI_at, if_neg (by omega)]
        exact ⟨(s3.1 i hi).1.symm, (s3.1 i hi).2.symm⟩
      · have al : ∀ j, j < 3 → A2.1 84 j = B'.1 123 j := fun j hj => by
          rw [s4 _ _ (by omega) (by omega), aHi _ _ (by omega) (by omega), bHi _ _ (by omega) (by omega) (by omega) (by omega) (by omega) (by omega)]
          exact (hD j (by omega)).symm
        have bl : ∀ j, j < 3 → B2.1 123 j = B1.1 123 j := fun j hj => s5 _ _ (by omega) (by omega) (by omega)
        rcases (show i = 0 ∨ i = 1 ∨ i = 2 ∨ i = 3 ∨ i = 4 by omega) with e | e | e | e | e <;> subst e
        · rw [bl 0 (by omega), B1i.1, stI_at, if_neg (by omega), stI_at, if_neg (by omega), stI_self, al 0 (by omega)]
        · rw [bl 1 (by omega), B1i.2.1, stI_at, if_neg (by omega), stI_self, al 1 (by omega)]
        · rw [bl 2 (by omega), B1i.2.2, stI_self, al 2 (by omega)]
        · rw [stI_at, if_neg (by omega), stI_at, if_neg (by omega), stI_at, if_neg (by omega)]
          exact s3.2.1.symm
        · rw [stI_at, if_neg (by omega), stI_at, if_neg (by omega), stI_at, if_neg (by omega)]
          exact s3.2.2.symm
  · refine ⟨-1, X, ?_, fun i _ _ => ⟨rfl, rfl⟩, Y, ?_, y0s⟩
    · rw [bad_s (Or.inr ha), Option.bind_some]
      dsimp only
      rw [if_neg (by decide)]
    · rw [if_pos (shm0.mpr ha)]
