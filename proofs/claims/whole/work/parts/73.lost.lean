/-! marks lost, on both sides -/
def lf (M : Mk6) (X : St) (D : Nat → Nat → Int32) (l f : Nat → Int32) : Nat → Nat → Nat → Int32 := fun t i j => los M X (D (t + 1)) l (f t) (Int32.ofNat t) i j
def slC (A : St) : Nat → Nat → Int32 := fun t w => if A.1 26 12 = Int32.ofNat t ∧ A.1 26 11 = Int32.ofNat w then A.1 26 13 else 0
theorem lo1_s (n : Nat) (hn : 4096 ≤ n) {X : St} {M : Mk6} {m c : Nat} {f q l : Nat → Int32} {ld : Int32} {A0 : St} (hm : m ≤ 8) (hc : c ≤ 60) (hM : MkC n X M) (hs : 1 ≤ (X.1 10 0).toInt) : ∀ (w r k : Nat) (v2 v1 : Int32) (A : St), v2.toInt = k → k + r = c → r < w → TC X m c f q l ld A → A.1 26 11 = A0.1 26 11 → A.1 26 12 = A0.1 26 12 → A.1 26 13 = A0.1 26 13 → (∀ w, w < m → A.1 27 w = itr (spS m (fun _ => q) ld f (slC A0)) k w) → ∃ A', tho_lost_L45 n w v1 v2 A = some (v1 + sumF (fun t => sumP m (lf M X (itr (spS m (fun _ => q) ld f (slC A0))) l f t)) k r, A') ∧ A'.2 = A.2 ∧ (∀ o i, ¬ tcw o i → A'.1 o i = A.1 o i) ∧ ∀ a b, a < b → b < m → A'.1 (49 + a) b = A.1 (49 + a) b + sumF (fun t => lf M X (itr (spS m (fun _ => q) ld f (slC A0))) l f t a b) k r := by
  intro w
  induction w with
  | zero => intro r k v2 v1 A h1 h2 h3; omega
  | succ w ih =>
    intro r k v2 v1 A h1 h2 h3 hA p1 p2 p3 hd
    show ∃ A', tho_lost_L45_B n (tho_lost_L45 n w) v1 v2 A = _ ∧ _
    unfold tho_lost_L45_B rou_counts
    have hc1 : (A.1 24 1).toInt = c := by rw [hA.1.2.1]; exact ti_ofNat (by omega)
    cases r with
    | zero =>
      refine ⟨A, ?_, rfl, fun _ _ _ => rfl, fun a b h1 h2 => ?_⟩
      · rw [if_neg (by rw [ltk]; omega)]
        show _ = some (v1 + 0, A)
        rw [Int32.add_zero]
      · show _ = _ + (0 : Int32)
        rw [Int32.add_zero]
    | succ r =>
      have ev : v2 = Int32.ofNat k := ofk h1
      obtain ⟨Z, z1, z2, z3, z4⟩ := step_s (c := f k) hn hm hA.1.1
      have hZ : TC X m c f q l ld Z := hA.cg hm (fun o i ho => z3 o i (fun z => ho (Or.inr (Or.inr (Or.inl z)))))
      have zd : ∀ w, w < m → Z.1 27 w = stp m q ld (f k) (itr (spS m (fun _ => q) ld f (slC A0)) k) w := by
        intro w hw
        rw [z4 w hw, hA.1.2.2.2.2.2]
        unfold stp
        by_cases c1 : f k = 4 ∧ (0 ≤ ld.toInt ∧ ld.toInt < m)
        · have := nx_ti c1.2.1
          rw [if_pos c1, if_pos c1, ← hd _ (by omega), ← hA.1.2.2.2.1 _ (by omega)]
        · rw [if_neg c1, if_neg c1, ← hd w hw, ← hA.1.2.2.2.1 w hw]
      -- the state behind the slip
      have slip : ∃ Y, (if v2 = Z.1 26 12 then
          (if (poo_has (Z.1 26 11) Z) = 0 then
          ((tho_marksBehind n v2 Z).bind fun (c10, X9) =>
          (tho_lost_L45 n w (v1 + c10) (v2 + (1 : Int32)) X9))
          else
          (if inB (Z.1 26 11) 8 then
          (if inB (Z.1 26 11) 8 then
          ((some (stI Z 27 (nx (Z.1 26 11)) ((Z.1 27 (nx (Z.1 26 11))) + (Z.1 26 13)))).bind fun X11 =>
          ((tho_marksBehind n v2 X11).bind fun (c13, X12) =>
          (tho_lost_L45 n w (v1 + c13) (v2 + (1 : Int32)) X12))) else none) else none))
          else
          ((tho_marksBehind n v2 Z).bind fun (c15, X14) =>
          (tho_lost_L45 n w (v1 + c15) (v2 + (1 : Int32)) X14))) = ((tho_marksBehind n v2 Y).bind fun (c15, X14) =>
          (tho_lost_L45 n w (v1 + c15) (v2 + (1 : Int32)) X14)) ∧ Y.2 = Z.2 ∧ (∀ o i, o ≠ 27 → Y.1 o i = Z.1 o i) ∧ ∀ w, w < m → Y.1 27 w = itr (spS m (fun _ => q) ld f (slC A0)) (k + 1) w := by
        have e11 : Z.1 26 11 = A0.1 26 11 := (z3 _ _ (by omega)).trans p1
        have e12 : Z.1 26 12 = A0.1 26 12 := (z3 _ _ (by omega)).trans p2
        have e13 : Z.1 26 13 = A0.1 26 13 := (z3 _ _ (by omega)).trans p3
        have z11 : (Z.1 1 1).toInt = m := hZ.1.1
        rw [e11, e12, e13]
        have nos : (∀ w, w < m → slC A0 k w = 0) → ∀ w, w < m → Z.1 27 w = itr (spS m (fun _ => q) ld f (slC A0)) (k + 1) w := fun h w hw => by
          show _ = stp m q ld (f k) (itr (spS m (fun _ => q) ld f (slC A0)) k) w + slC A0 k w
          rw [h w hw, Int32.add_zero]; exact zd w hw
        by_cases c1 : v2 = A0.1 26 12
        · rw [if_pos c1]
          by_cases c2 : poo_has (A0.1 26 11) Z = 0
          · rw [if_pos c2]
            refine ⟨Z, rfl, rfl, fun _ _ _ => rfl, nos (fun w hw => ?_)⟩
            unfold slC
            rw [if_neg (fun h => has_s.mp c2 (by rw [h.2, ti_ofNat (by omega), z11]; omega))]
          · rw [if_neg c2]
            have hh : 0 ≤ (A0.1 26 11).toInt ∧ (A0.1 26 11).toInt < m := by
              have := Decidable.byContradiction (fun h => c2 (has_s.mpr h))
              rw [z11] at this
              exact this
            have hx := nx_ti hh.1
            have ib : inB (A0.1 26 11) 8 = true := by rw [inB_iff]; omega
            rw [if_pos ib, if_pos ib, Option.bind_some]
            refine ⟨_, rfl, rfl, fun o i ho => by rw [stI_at, if_neg (by omega)], fun w hw => ?_⟩
            show _ = stp m q ld (f k) (itr (spS m (fun _ => q) ld f (slC A0)) k) w + slC A0 k w
            rw [stI_at]
            unfold slC
            by_cases c3 : w = nx (A0.1 26 11)
            · rw [if_pos ⟨rfl, c3⟩, if_pos ⟨by rw [← c1]; exact ev, by rw [c3]; exact (ofNat_nx hh.1).symm⟩, ← c3, zd w hw]
              rfl
            · rw [if_neg (fun z => c3 z.2), if_neg (fun z => c3 (by rw [z.2, nx_ofNat (by omega)])), Int32.add_zero]
              exact zd w hw
        · rw [if_neg c1]
          refine ⟨Z, rfl, rfl, fun _ _ _ => rfl, nos (fun w hw => ?_)⟩
          unfold slC
          rw [if_neg (fun h => c1 (by rw [h.1]; exact ev))]
      obtain ⟨Y, y1, y2, y3, y4⟩ := slip
      have hY : TC X m c f q l ld Y := hZ.cg hm (fun o i ho => y3 o i (fun z => ho (Or.inr (Or.inr (Or.inl z)))))
      obtain ⟨U, u1, u2, u3⟩ := mb_s hn hm hc hM hs h1 (by omega) hY y4
      have uA : ∀ o i, ¬ tcw o i → U.1 o i = A.1 o i := fun o i ho => by
        rw [u3 o i (fun z => ho (Or.inl z)) (fun z => ho (Or.inr (Or.inl z))) (fun z => ho (Or.inr (Or.inr (Or.inr (Or.inr z))))), if_neg (fun z => ho (Or.inr (Or.inr (Or.inr (Or.inl (by omega)))))), y3 o i (fun z => ho (Or.inr (Or.inr (Or.inl z)))), z3 o i (fun z => ho (Or.inr (Or.inr (Or.inl z))))]
      have hU : TC X m c f q l ld U := hA.cg hm uA
      obtain ⟨A', r1, r2, r3, r4⟩ := ih r (k + 1) (v2 + 1) (v1 + sumP m (los M X (itr (spS m (fun _ => q) ld f (slC A0)) (k + 1)) l (f k) v2)) U (inc h1 (by omega)) (by omega) (by omega) hU (by rw [uA _ _ (by unfold tcw; omega)]; exact p1) (by rw [uA _ _ (by unfold tcw; omega)]; exact p2) (by rw [uA _ _ (by unfold tcw; omega)]; exact p3) (fun w hw => by
        rw [u3 _ _ (by omega) (by omega) (by omega), if_neg (by omega)]
        exact y4 w hw)
      refine ⟨A', ?_, r2.trans (u2.trans (y2.trans z2)), fun o i ho => (r3 o i ho).trans (uA o i ho), fun a b h1' h2' => ?_⟩
      · rw [if_pos (by rw [ltk]; omega), actAt_s hc1 hc h1 (by omega), hA.1.2.2.1 k (by omega), Option.bind_some, z1, Option.bind_some, y1, u1, Option.bind_some]
        dsimp only
        refine r1.trans ?_
        show some (v1 + sumP m (los M X (itr (spS m (fun _ => q) ld f (slC A0)) (k + 1)) l (f k) v2) + sumF (fun t => sumP m (lf M X (itr (spS m (fun _ => q) ld f (slC A0))) l f t)) (k + 1) r, A') = some (v1 + (sumP m (lf M X (itr (spS m (fun _ => q) ld f (slC A0))) l f k) + sumF (fun t => sumP m (lf M X (itr (spS m (fun _ => q) ld f (slC A0))) l f t)) (k + 1) r), A')
        rw [Int32.add_assoc, ev]
        rfl
      · rw [r4 a b h1' h2', u3 _ _ (by omega) (by omega) (by omega), if_pos (by omega), y3 _ _ (by omega), z3 _ _ (by omega), show 49 + a - 49 = a by omega]
        show A.1 (49 + a) b + los M X (itr (spS m (fun _ => q) ld f (slC A0)) (k + 1)) l (f k) v2 a b + sumF (fun t => lf M X (itr (spS m (fun _ => q) ld f (slC A0))) l f t a b) (k + 1) r = A.1 (49 + a) b + (lf M X (itr (spS m (fun _ => q) ld f (slC A0))) l f k a b + sumF (fun t => lf M X (itr (spS m (fun _ => q) ld f (slC A0))) l f t a b) (k + 1) r)
        rw [Int32.add_assoc, ev]
        rfl
theorem lz1_s (n : Nat) {K : Int32 → Int32 → St → Option (Int32 × St)} {s v : Int32} {i : Nat} (hv : v.toInt = i) (hi : i < 8) : ∀ (w r j : Nat) (u : Int32) (A : St), u.toInt = j → j + r = 8 → r < w → ∃ A', tho_lost_L16 n K w s v u A = K s v A' ∧ A'.2 = A.2 ∧ ∀ o k, A'.1 o k = if o = 49 + i ∧ j ≤ k ∧ k < 8 then 0 else A.1 o k := by
  have e8 : (8 : Int32).toInt = 8 := by decide
  intro w
  induction w with
  | zero => intro r j u A h1 h2 h3; omega
  | succ w ih =>
    intro r j u A h1 h2 h3
    show ∃ A', tho_lost_L16_B n K (tho_lost_L16 n K w) s v u A = _ ∧ _
    unfold tho_lost_L16_B
    cases r with
    | zero =>
      rw [if_neg (by rw [ltk, e8]; omega)]
      exact ⟨A, rfl, rfl, fun o k => by rw [if_neg (by omega)]⟩
    | succ r =>
      rw [if_pos (by rw [ltk, e8]; omega), if_pos (by rw [inB_iff]; omega), nxk hv, if_pos (okI_los hi (by omega) (by omega)), nxk h1]
      obtain ⟨A', r1, r2, r3⟩ := ih r (j + 1) (u + 1) (stI A (49 + i) j 0) (inc h1 (by omega)) (by omega) (by omega)
      refine ⟨A', r1, r2, fun o k => ?_⟩
      rw [r3]
      by_cases c1 : o = 49 + i ∧ j + 1 ≤ k ∧ k < 8
      · rw [if_pos c1, if_pos (by omega)]
      · rw [if_neg c1, stI_at]
        by_cases c2 : o = 49 + i ∧ k = j
        · rw [if_pos c2, if_pos (by omega)]
        · rw [if_neg c2, if_neg (by omega)]
theorem lz2_s (n : Nat) (hn : 4096 ≤ n) {K : Int32 → St → Option (Int32 × St)} {s : Int32} : ∀ (w r i : Nat) (v : Int32) (A : St), v.toInt = i → i + r = 8 → r < w → ∃ A', tho_lost_L8 n K w s v A = K s A' ∧ A'.2 = A.2 ∧ ∀ o k, A'.1 o k = if 49 + i ≤ o ∧ o < 57 ∧ k < 8 then 0 else A.1 o k := by
  have e8 : (8 : Int32).toInt = 8 := by decide
  intro w
  induction w with
  | zero => intro r i v A h1 h2 h3; omega
  | succ w ih =>
    intro r i v A h1 h2 h3
    show ∃ A', tho_lost_L8_B n K (tho_lost_L8 n K w) s v A = _ ∧ _
    unfold tho_lost_L8_B
    cases r with
    | zero =>
      rw [if_neg (by rw [ltk, e8]; omega)]
      exact ⟨A, rfl, rfl, fun o k => by rw [if_neg (by omega)]⟩
    | succ r =>
      obtain ⟨Z, z1, z2, z3⟩ := lz1_s n (K := fun v3 v4 X2 => tho_lost_L8 n K w v3 (v4 + 1) X2) (s := s) h1 (by omega) n 8 0 0 A ti0 (by omega) (by omega)
      obtain ⟨A', r1, r2, r3⟩ := ih r (i + 1) (v + 1) Z (inc h1 (by omega)) (by omega) (by omega)
      rw [if_pos (by rw [ltk, e8]; omega), z1]
      refine ⟨A', r1, r2.trans z2, fun o k => ?_⟩
      rw [r3, z3]
      by_cases c1 : 49 + (i + 1) ≤ o ∧ o < 57 ∧ k < 8
      · rw [if_pos c1, if_pos (by omega)]
      · rw [if_neg c1]
        by_cases c2 : o = 49 + i ∧ 0 ≤ k ∧ k < 8
        · rw [if_pos c2, if_pos (by omega)]
        · rw [if_neg c2, if_neg (by omega)]
/-- the marks that a routine loses: the class's -/
theorem lost_s {n : Nat} (hn : 4096 ≤ n) {X : St} {M : Mk6} {m c : Nat} {f q l : Nat → Int32} {ld : Int32} {A : St} (hm : m ≤ 8) (hc : c ≤ 60) (hM : MkC n X M) (hs : 1 ≤ (X.1 10 0).toInt) (hA : TC X m c f q l ld A) : ∃ A', tho_lost n A = some (sumP m (fun i j => sumF (fun t => lf M X (itr (spS m (fun _ => q) ld f (slC A))) l f t i j) 0 c), A') ∧ A'.2 = A.2 ∧ (∀ o i, ¬ tcw o i → A'.1 o i = A.1 o i) ∧ ∀ a b, a < b → b < m → A'.1 (49 + a) b = sumF (fun t => lf M X (itr (spS m (fun _ => q) ld f (slC A))) l f t a b) 0 c := by
  obtain ⟨Z, z1, z2, z3, z4⟩ := still_s hn A
  obtain ⟨Y, y1, y2, y3⟩ := lz2_s n hn (K := fun v6 X5 => tho_lost_L45 n n v6 0 X5) (s := 0) n 8 0 0 Z ti0 (by omega) (by omega)
  have yA : ∀ o i, ¬ tcw o i → Y.1 o i = A.1 o i := fun o i ho => by
    rw [y3, if_neg (fun z => ho (Or.inr (Or.inr (Or.inr (Or.inl (by omega)))))), z3 o i (fun z => ho (Or.inr (Or.inr (Or.inl z))))]
  obtain ⟨A', r1, r2, r3, r4⟩ := lo1_s n hn (A0 := A) hm hc hM hs n c 0 0 0 Y ti0 (by omega) (by omega) (hA.cg hm yA) (yA _ _ (by unfold tcw; omega)) (yA _ _ (by unfold tcw; omega)) (yA _ _ (by unfold tcw; omega)) (fun w hw => by rw [y3, if_neg (by omega), z4 w (by omega)]; rfl)
  refine ⟨A', ?_, r2.trans (y2.trans z2), fun o i ho => (r3 o i ho).trans (yA o i ho), fun a b h1 h2 => ?_⟩
  · unfold tho_lost
    rw [z1, Option.bind_some, y1]
    refine r1.trans ?_
    rw [Int32.zero_add, sum_tp]
  · rw [r4 a b h1 h2, y3, if_pos (by omega), Int32.zero_add]
/-- the model knows how far each is off, and the law -/
def TM (X : St) (m c : Nat) (f l : Nat → Int32) (D : Nat → Nat → Int32) (B : St) : Prop := (B.1 102 0).toInt = m ∧ (B.1 102 44).toInt = c ∧ (∀ i, i < c → B.1 133 i = f i) ∧ (∀ w, w < m → B.1 108 w = l w) ∧ (∀ t, t ≤ c → ∀ w, w < m → B.1 134 (8 * t + w) = D t w) ∧ B.1 109 1 = X.1 10 0 ∧ (∀ o k, 103 ≤ o → o ≤ 105 → B.1 o k = X.1 o k) ∧ lwM X B
theorem TM.cg {X : St} {m c : Nat} {f l : Nat → Int32} {D : Nat → Nat → Int32} {B B' : St} (h : TM X m c f l D B) (e : ∀ o i, o ≠ 121 → o ≠ 122 → o ≠ 135 → B'.1 o i = B.1 o i) : TM X m c f l D B' := by
  obtain ⟨h1, h2, h3, h4, h5, h6, h7, h8, h9, h10⟩ := h
  refine ⟨?_, ?_, fun i hi => ?_, fun w hw => ?_, fun t ht w hw => ?_, ?_, fun o k o1 o2 => ?_, ?_, ?_, fun o i o1 o2 => ?_⟩
  · rw [e _ _ (by omega) (by omega) (by omega)]; exact h1
  · rw [e _ _ (by omega) (by omega) (by omega)]; exact h2
  · rw [e _ _ (by omega) (by omega) (by omega)]; exact h3 i hi
  · rw [e _ _ (by omega) (by omega) (by omega)]; exact h4 w hw
  · rw [e _ _ (by omega) (by omega) (by omega)]; exact h5 t ht w hw
  · rw [e _ _ (by omega) (by omega) (by omega)]; exact h6
  · rw [e _ _ (by omega) (by omega) (by omega)]; exact h7 o k o1 o2
  · rw [e _ _ (by omega) (by omega) (by omega)]; exact h8
  · rw [e _ _ (by omega) (by omega) (by omega)]; exact h9
  · rw [e _ _ (by omega) (by omega) (by omega)]; exact h10 o i o1 o2
theorem mm1_s (n : Nat) {X : St} {M : Mk6} {K : Int32 → Int32 → Int32 → St → Option (Int32 × St)} {m c : Nat} {f l : Nat → Int32} {D : Nat → Nat → Int32} {v1 v2 v3 : Int32} {i j : Nat} (hP : IPool X) (hm : m ≤ 8) (hc : c ≤ 60) (hM : MkM n X M) (hs : 1 ≤ (X.1 10 0).toInt) (h2 : v2.toInt = i) (h3 : v3.toInt = j) (hi : i < m) (hj : j < m) : ∀ (w r t : Nat) (v4 : Int32) (B : St), v4.toInt = t → t + r = c → r < w → TM X m c f l D B → ∃ B', mo_marks_L39 n K w v1 v2 v3 v4 B = K v1 v2 v3 B' ∧ B'.2 = B.2 ∧ ∀ o k, o ≠ 121 → o ≠ 122 → B'.1 o k = if o = 135 ∧ k = 10 * i + j then B.1 135 (10 * i + j) + sumF (fun t => lf M X D l f t i j) t r else B.1 o k := by
  intro w
  induction w with
  | zero => intro r t v4 B h1 h2 h3; omega
  | succ w ih =>
    intro r t v4 B h1 h2' h3' hB
    show ∃ B', mo_marks_L39_B n K (mo_marks_L39 n K w) v1 v2 v3 v4 B = _ ∧ _
    unfold mo_marks_L39_B
    have b44 := hB.2.1
    cases r with
    | zero =>
      refine ⟨B, ?_, rfl, fun o k _ _ => ?_⟩
      · rw [if_neg (by rw [ltk]; omega)]
      · by_cases c1 : o = 135 ∧ k = 10 * i + j
        · rw [if_pos c1, c1.1, c1.2]
          show _ = _ + (0 : Int32)
          rw [Int32.add_zero]
        · rw [if_neg c1]
    | succ r =>
      have s1 := inc h1 (by omega)
      have ix := ix10 h2 h3 (by omega) (by omega)
      have ibx : inB (((10 : Int32) * v2) + v3) 80 = true := by rw [inB_iff]; omega
      have ib : inB v4 60 = true := by rw [inB_iff]; omega
      have ev : v4 = Int32.ofNat t := ofk h1
      have ea : mo_apartOf v2 v3 (v4 + 1) B = some (ap (D (t + 1)) l i j) := by
        rw [aptM h2 (by omega) h3 (by omega) s1 (by omega)]
        exact congrArg some (ap_cg (m := m) (fun w hw => hB.2.2.2.2.1 (t + 1) (by omega) w hw) hB.2.2.2.1 hi hj)
      obtain ⟨f1, f2⟩ := far_M hP (B := B) (i := i) (j := j) (by omega) (by omega) hB.2.2.2.2.2.2.1
      obtain ⟨Z, z1, z2, z3⟩ := hM (ap (D (t + 1)) l i j) (f t) (dst X i j) (unl X i j) v4 (X.1 10 0) hs B v2 v3 i j hB.2.2.2.2.2.2.2 h2 h3 (by omega) (by omega) hB.2.2.2.2.2.1 f1 f2
      have hY : TM X m c f l D (stI Z 135 (10 * i + j) (B.1 135 (10 * i + j) + M (ap (D (t + 1)) l i j) (f t) (dst X i j) (unl X i j) v4 (X.1 10 0))) := hB.cg (fun o k o1 o2 o3 => by rw [stI_at, if_neg (by omega)]; exact z3 o k o1 o2)
      obtain ⟨B', r1, r2, r3⟩ := ih r (t + 1) (v4 + 1) _ s1 (by omega) (by omega) hY
      refine ⟨B', ?_, r2.trans z2, fun o k o1 o2 => ?_⟩
      · rw [if_pos (by rw [ltk]; omega), if_pos ibx, ea, Option.bind_some, if_pos ib, nxk h1, hB.2.2.1 t (by omega), z1, Option.bind_some]
        dsimp only
        rw [if_pos ibx, Option.bind_some, nxk ix]
        exact r1
      · rw [r3 o k o1 o2]
        by_cases c1 : o = 135 ∧ k = 10 * i + j
        · rw [if_pos c1, if_pos c1, stI_self]
          show B.1 135 (10 * i + j) + M (ap (D (t + 1)) l i j) (f t) (dst X i j) (unl X i j) v4 (X.1 10 0) + _ = B.1 135 (10 * i + j) + (lf M X D l f t i j + _)
          rw [Int32.add_assoc, ev]
          rfl
        · rw [if_neg c1, if_neg c1, stI_at, if_neg c1]
          exact z3 o k o1 o2
theorem mm2_s (n : Nat) {X : St} {M : Mk6} {K : Int32 → Int32 → St → Option (Int32 × St)} {m c : Nat} {f l : Nat → Int32} {D : Nat → Nat → Int32} {v2 : Int32} {i : Nat} (hn : 4096 ≤ n) (hP : IPool X) (hm : m ≤ 8) (hc : c ≤ 60) (hM : MkM n X M) (hs : 1 ≤ (X.1 10 0).toInt) (h2 : v2.toInt = i) (hi : i < m) : ∀ (w r j : Nat) (v1 v3 : Int32) (B : St), v3.toInt = j → j + r = m → r < w → TM X m c f l D B → ∃ B', mo_marks_L16 n K w v1 v2 v3 B = K (v1 + sumF (fun j => sumF (fun t => lf M X D l f t i j) 0 c) j r) v2 B' ∧ B'.2 = B.2 ∧ ∀ o k, o ≠ 121 → o ≠ 122 → B'.1 o k = if o = 135 ∧ 10 * i + j ≤ k ∧ k < 10 * i + m then sumF (fun t => lf M X D l f t i (k - 10 * i)) 0 c else B.1 o k := by
  intro w
  induction w with
  | zero => intro r j v1 v3 B h1 h2 h3; omega
  | succ w ih =>
    intro r j v1 v3 B h3 h4 h5 hB
    show ∃ B', mo_marks_L16_B n K (mo_marks_L16 n K w) v1 v2 v3 B = _ ∧ _
    unfold mo_marks_L16_B
    have b0 := hB.1
    cases r with
    | zero =>
      refine ⟨B, ?_, rfl, fun o k _ _ => by rw [if_neg (by omega)]⟩
      rw [if_neg (by rw [ltk]; omega)]
      show _ = K (v1 + 0) v2 B
      rw [Int32.add_zero]
    | succ r =>
      have ix := ix10 h2 h3 (by omega) (by omega)
      have ibx : inB (((10 : Int32) * v2) + v3) 80 = true := by rw [inB_iff]; omega
      obtain ⟨Z, z1, z2, z3⟩ := mm1_s n (K := fun v6 v7 v8 X5 =>
        (if inB (((10 : Int32) * v7) + v8) 80 then
        ((some (v6 + (X5.1 135 (nx (((10 : Int32) * v7) + v8))))).bind fun t9 =>
        (mo_marks_L16 n K w t9 v7 (v8 + (1 : Int32)) X5)) else none)) (v1 := v1) hP hm hc hM hs h2 h3 hi (by omega) n c 0 0 (stI B 135 (10 * i + j) 0) ti0 (by omega) (by omega) (hB.cg (fun o k o1 o2 o3 => by rw [stI_at, if_neg (by omega)]))
      have z135 : Z.1 135 (10 * i + j) = sumF (fun t => lf M X D l f t i j) 0 c := by
        rw [z3 _ _ (by omega) (by omega), if_pos ⟨rfl, rfl⟩, stI_self, Int32.zero_add]
      have hZ : TM X m c f l D Z := hB.cg (fun o k o1 o2 o3 => by rw [z3 o k o1 o2, if_neg (by omega), stI_at, if_neg (by omega)])
      obtain ⟨B', r1, r2, r3⟩ := ih r (j + 1) (v1 + sumF (fun t => lf M X D l f t i j) 0 c) (v3 + 1) Z (inc h3 (by omega)) (by omega) (by omega) hZ
      refine ⟨B', ?_, r2.trans z2, fun o k o1 o2 => ?_⟩
      · rw [if_pos (by rw [ltk]; omega), if_pos ibx, nxk ix, z1]
        rw [if_pos ibx, nxk ix, Option.bind_some, z135]
        refine r1.trans ?_
        show K (v1 + sumF (fun t => lf M X D l f t i j) 0 c + sumF (fun j => sumF (fun t => lf M X D l f t i j) 0 c) (j + 1) r) v2 B' = K (v1 + (sumF (fun t => lf M X D l f t i j) 0 c + sumF (fun j => sumF (fun t => lf M X D l f t i j) 0 c) (j + 1) r)) v2 B'
        rw [Int32.add_assoc]
      · rw [r3 o k o1 o2]
        by_cases c1 : o = 135 ∧ 10 * i + (j + 1) ≤ k ∧ k < 10 * i + m
        · rw [if_pos c1, if_pos (by omega)]
        · rw [if_neg c1]
          by_cases c2 : o = 135 ∧ k = 10 * i + j
          · rw [if_pos (by omega), c2.1, c2.2, z135, show 10 * i + j - 10 * i = j by omega]
          · rw [if_neg (by omega), z3 o k o1 o2, if_neg c2, stI_at, if_neg c2]
theorem mm3_s (n : Nat) (hn : 4096 ≤ n) {X : St} {M : Mk6} {m c : Nat} {f l : Nat → Int32} {D : Nat → Nat → Int32} (hP : IPool X) (hm : m ≤ 8) (hc : c ≤ 60) (hM : MkM n X M) (hs : 1 ≤ (X.1 10 0).toInt) : ∀ (w r i : Nat) (v1 v2 : Int32) (B : St), v2.toInt = i → i + r = m → r < w → TM X m c f l D B → ∃ B', mo_marks_L4 n w v1 v2 B = some (v1 + sumF (fun i => sumF (fun j => sumF (fun t => lf M X D l f t i j) 0 c) (i + 1) (m - (i + 1))) i r, B') ∧ B'.2 = B.2 ∧ (∀ o k, o ≠ 121 → o ≠ 122 → o ≠ 135 → B'.1 o k = B.1 o k) ∧ (∀ a b, i ≤ a → a < b → b < m → B'.1 135 (10 * a + b) = sumF (fun t => lf M X D l f t a b) 0 c) ∧ ∀ k, k < 10 * i → B'.1 135 k = B.1 135 k := by
  intro w
  induction w with
  | zero => intro r i v1 v2 B h1 h2 h3; omega
  | succ w ih =>
    intro r i v1 v2 B h1 h2 h3 hB
    show ∃ B', mo_marks_L4_B n (mo_marks_L4 n w) v1 v2 B = _ ∧ _
    unfold mo_marks_L4_B
    have b0 := hB.1
    cases r with
    | zero =>
      refine ⟨B, ?_, rfl, fun _ _ _ _ _ => rfl, fun a b h1 h2 h3 => by omega, fun _ _ => rfl⟩
      rw [if_neg (by rw [ltk]; omega)]
      show _ = some (v1 + 0, B)
      rw [Int32.add_zero]
    | succ r =>
      obtain ⟨Z, z1, z2, z3⟩ := mm2_s n (K := fun v11 v12 X10 => mo_marks_L4 n w v11 (v12 + 1) X10) hn hP hm hc hM hs h1 (by omega) n (m - (i + 1)) (i + 1) v1 (v2 + 1) B (inc h1 (by omega)) (by omega) (by omega) hB
      have hZ : TM X m c f l D Z := hB.cg (fun o k o1 o2 o3 => by rw [z3 o k o1 o2, if_neg (by omega)])
      obtain ⟨B', r1, r2, r3, r4, r5⟩ := ih r (i + 1) (v1 + sumF (fun j => sumF (fun t => lf M X D l f t i j) 0 c) (i + 1) (m - (i + 1))) (v2 + 1) Z (inc h1 (by omega)) (by omega) (by omega) hZ
      refine ⟨B', ?_, r2.trans z2, fun o k o1 o2 o3 => ?_, fun a b h1' h2' h3' => ?_, fun k hk => ?_⟩
      · rw [if_pos (by rw [ltk]; omega), z1]
        refine r1.trans ?_
        show some (v1 + sumF (fun j => sumF (fun t => lf M X D l f t i j) 0 c) (i + 1) (m - (i + 1)) + sumF (fun i => sumF (fun j => sumF (fun t => lf M X D l f t i j) 0 c) (i + 1) (m - (i + 1))) (i + 1) r, B') = some (v1 + (sumF (fun j => sumF (fun t => lf M X D l f t i j) 0 c) (i + 1) (m - (i + 1)) + sumF (fun i => sumF (fun j => sumF (fun t => lf M X D l f t i j) 0 c) (i + 1) (m - (i + 1))) (i + 1) r), B')
        rw [Int32.add_assoc]
      · rw [r3 o k o1 o2 o3, z3 o k o1 o2, if_neg (by omega)]
      · rcases Nat.eq_or_lt_of_le h1' with e | e
        · subst e
          rw [r5 _ (by omega), z3 _ _ (by omega) (by omega), if_pos (by omega), show 10 * i + b - 10 * i = b by omega]
        · exact r4 a b e h2' h3'
      · rw [r5 k (by omega), z3 _ _ (by omega) (by omega), if_neg (by omega)]
/-- the marks that a routine loses: the model's -/
theorem mm_s {n : Nat} (hn : 4096 ≤ n) {X : St} {M : Mk6} {m c : Nat} {f l : Nat → Int32} {D : Nat → Nat → Int32} {B : St} (hP : IPool X) (hm : m ≤ 8) (hc : c ≤ 60) (hM : MkM n X M) (hs : 1 ≤ (X.1 10 0).toInt) (hB : TM X m c f l D B) : ∃ B', mo_marks n B = some (sumP m (fun i j => sumF (fun t => lf M X D l f t i j) 0 c), B') ∧ B'.2 = B.2 ∧ (∀ o k, o ≠ 121 → o ≠ 122 → o ≠ 135 → B'.1 o k = B.1 o k) ∧ ∀ a b, a < b → b < m → B'.1 135 (10 * a + b) = sumF (fun t => lf M X D l f t a b) 0 c := by
  obtain ⟨B', r1, r2, r3, r4, -⟩ := mm3_s n hn hP hm hc hM hs n m 0 0 0 B ti0 (by omega) (by omega) hB
  refine ⟨B', ?_, r2, r3, fun a b h1 h2 => r4 a b (Nat.zero_le _) h1 h2⟩
  unfold mo_marks
  rw [r1, Int32.zero_add]
  rfl
