/-! marks lost: the class's sums -/
def sumF (g : Nat → Int32) : Nat → Nat → Int32
  | _, 0 => 0
  | d, r + 1 => g d + sumF g (d + 1) r
theorem sumF_add {g h : Nat → Int32} : ∀ (r d : Nat), sumF (fun i => g i + h i) d r = sumF g d r + sumF h d r := by
  intro r
  induction r with
  | zero => intro d; exact (Int32.add_zero 0).symm
  | succ r ih =>
    intro d
    show g d + h d + sumF (fun i => g i + h i) (d + 1) r = g d + sumF g (d + 1) r + (h d + sumF h (d + 1) r)
    rw [ih]
    grind
theorem sumF_0 : ∀ (r d : Nat), sumF (fun _ => 0) d r = 0 := by
  intro r
  induction r with
  | zero => intro d; rfl
  | succ r ih =>
    intro d
    show 0 + sumF (fun _ => 0) (d + 1) r = 0
    rw [ih, Int32.add_zero]
theorem sumF_cg {g h : Nat → Int32} : ∀ (r d : Nat), (∀ i, d ≤ i → i < d + r → g i = h i) → sumF g d r = sumF h d r := by
  intro r
  induction r with
  | zero => intro d _; rfl
  | succ r ih =>
    intro d hh
    show g d + sumF g (d + 1) r = h d + sumF h (d + 1) r
    rw [hh d (Nat.le_refl _) (by omega), ih (d + 1) (fun i i1 i2 => hh i (by omega) (by omega))]
/-- over all pairs -/
def sumP (m : Nat) (g : Nat → Nat → Int32) : Int32 := sumF (fun i => sumF (g i) (i + 1) (m - (i + 1))) 0 m
theorem sumP_add {m : Nat} {g h : Nat → Nat → Int32} : sumP m (fun i j => g i j + h i j) = sumP m g + sumP m h := by
  unfold sumP
  rw [← sumF_add]
  exact sumF_cg _ _ (fun i _ _ => sumF_add _ _)
theorem sumP_0 {m : Nat} : sumP m (fun _ _ => 0) = 0 := by
  unfold sumP
  rw [sumF_cg (h := fun _ => 0) m 0 (fun i _ _ => sumF_0 _ _), sumF_0]
theorem sumP_cg {m : Nat} {g h : Nat → Nat → Int32} (e : ∀ i j, i < j → j < m → g i j = h i j) : sumP m g = sumP m h := by
  unfold sumP
  exact sumF_cg _ _ (fun i i1 i2 => sumF_cg _ _ (fun j j1 j2 => e i j (by omega) (by omega)))
theorem sum_tp {m : Nat} {L : Nat → Nat → Nat → Int32} : ∀ (r d : Nat), sumF (fun t => sumP m (L t)) d r = sumP m (fun i j => sumF (fun t => L t i j) d r) := by
  intro r
  induction r with
  | zero => intro d; exact sumP_0.symm
  | succ r ih =>
    intro d
    show sumP m (L d) + sumF (fun t => sumP m (L t)) (d + 1) r = sumP m (fun i j => L d i j + sumF (fun t => L t i j) (d + 1) r)
    rw [ih, ← sumP_add]
/-- the class thinks, and knows how far apart and how unlike, and the law -/
def TC (X : St) (m c : Nat) (f q l : Nat → Int32) (ld : Int32) (A : St) : Prop := MC m c f q l ld A ∧ (∀ i j, i < m → j < m → A.1 (31 + i) j = dst X i j ∧ A.1 (40 + i) j = unl X i j) ∧ A.1 26 10 = X.1 10 0 ∧ lwC X A
abbrev tcw (o i : Nat) : Prop := o = 22 ∨ o = 23 ∨ o = 27 ∨ (49 ≤ o ∧ o ≤ 56) ∨ (o = 20 ∧ i = 4)
theorem TC.cg {X : St} {m c : Nat} {f q l : Nat → Int32} {ld : Int32} {A A' : St} (hm : m ≤ 8) (h : TC X m c f q l ld A) (e : ∀ o i, ¬ tcw o i → A'.1 o i = A.1 o i) : TC X m c f q l ld A' := by
  obtain ⟨⟨h1, h2, h3, h4, h5, h6⟩, h7, h8, h9, h10⟩ := h
  have e' : ∀ o i, o ≠ 22 → o ≠ 23 → o ≠ 27 → ¬ (49 ≤ o ∧ o ≤ 56) → ¬ (o = 20 ∧ i = 4) → A'.1 o i = A.1 o i := fun o i a1 a2 a3 a4 a5 => e o i (fun z => by rcases z with z | z | z | z | z; exact a1 z; exact a2 z; exact a3 z; exact a4 z; exact a5 z)
  refine ⟨⟨?_, ?_, fun i hi => ?_, fun i hi => ?_, fun i hi => ?_, ?_⟩, fun i j hi hj => ⟨?_, ?_⟩, ?_, ?_, fun i => ?_⟩
  · rw [e' _ _ (by omega) (by omega) (by omega) (by omega) (by omega)]; exact h1
  · rw [e' _ _ (by omega) (by omega) (by omega) (by omega) (by omega)]; exact h2
  · rw [e' _ _ (by omega) (by omega) (by omega) (by omega) (by omega)]; exact h3 i hi
  · rw [e' _ _ (by omega) (by omega) (by omega) (by omega) (by omega)]; exact h4 i hi
  · rw [e' _ _ (by omega) (by omega) (by omega) (by omega) (by omega)]; exact h5 i hi
  · rw [e' _ _ (by omega) (by omega) (by omega) (by omega) (by omega)]; exact h6
  · rw [e' _ _ (by omega) (by omega) (by omega) (by omega) (by omega)]; exact (h7 i j hi hj).1
  · rw [e' _ _ (by omega) (by omega) (by omega) (by omega) (by omega)]; exact (h7 i j hi hj).2
  · rw [e' _ _ (by omega) (by omega) (by omega) (by omega) (by omega)]; exact h8
  · rw [e' _ _ (by omega) (by omega) (by omega) (by omega) (by omega)]; exact h9
  · rw [e' _ _ (by omega) (by omega) (by omega) (by omega) (by omega)]; exact h10 i
theorem okI_los {w : Nat} {j : Int32} (h : w < 8) (h1 : 0 ≤ j.toInt) (h2 : j.toInt < 8) : okI (49 + w) j = true := by
  have t : ∀ w, w < 8 → (49 + w < NO ∧ knd (49 + w) = 0 ∧ oln (49 + w) = 8) := by decide
  obtain ⟨t1, t2, t3⟩ := t w h
  unfold okI
  rw [t2, t3, (inB_iff (n := 8)).mpr (by omega), decide_eq_true t1]
  rfl
/-- what two lose in a count -/
def los (M : Mk6) (X : St) (dd l : Nat → Int32) (a t : Int32) : Nat → Nat → Int32 := fun i j => M (ap dd l i j) a (dst X i j) (unl X i j) t (X.1 10 0)
theorem mb1_s (n : Nat) {X : St} {M : Mk6} {K : Int32 → Int32 → Int32 → Int32 → St → Option (Int32 × St)} {m c : Nat} {f q l dd : Nat → Int32} {ld v1 a v4 : Int32} {i : Nat} (hm : m ≤ 8) (hM : MkC n X M) (hs : 1 ≤ (X.1 10 0).toInt) (h4 : v4.toInt = i) (hi : i < m) : ∀ (w r j : Nat) (v5 v3 : Int32) (A : St), v5.toInt = j → j + r = m → r < w → i < j → TC X m c f q l ld A → (∀ w, w < m → A.1 27 w = dd w) → ∃ A', tho_marksBehind_L32 n K w v1 a v3 v4 v5 A = K v1 a (v3 + sumF (los M X dd l a v1 i) j r) v4 A' ∧ A'.2 = A.2 ∧ (∀ o k, o ≠ 22 → o ≠ 23 → ¬ (o = 20 ∧ k = 4) → A'.1 o k = if o = 49 + i ∧ j ≤ k ∧ k < m then A.1 o k + los M X dd l a v1 i k else A.1 o k) := by
  intro w
  induction w with
  | zero => intro r j v5 v3 A h1 h2 h3; omega
  | succ w ih =>
    intro r j v5 v3 A h1 h2 h3 hij hA hd
    show ∃ A', tho_marksBehind_L32_B n K (tho_marksBehind_L32 n K w) v1 a v3 v4 v5 A = _ ∧ _
    unfold tho_marksBehind_L32_B poo_many
    have m1 := hA.1.1
    cases r with
    | zero =>
      refine ⟨A, ?_, rfl, fun o k _ _ _ => by rw [if_neg (by omega)]⟩
      rw [if_neg (by rw [ltk]; omega)]
      show _ = K v1 a (v3 + 0) v4 A
      rw [Int32.add_zero]
    | succ r =>
      have ib : inB v4 8 = true := by rw [inB_iff]; omega
      have of := okI_far (w := i) (j := v5) (by omega) (by omega) (by omega)
      have ou := okI_unl (w := i) (j := v5) (by omega) (by omega) (by omega)
      have ol := okI_los (w := i) (j := v5) (by omega) (by omega) (by omega)
      obtain ⟨g1, g2⟩ := hA.2.1 i j hi (by omega)
      have eb : tho_between v4 v5 A = some (ap dd l i j) := by
        rw [betC h4 (by omega) h1 (by omega) (by omega)]
        exact congrArg some (ap_cg (m := m) hd hA.1.2.2.2.2.1 hi (by omega))
      obtain ⟨Z, z1, z2, z3⟩ := hM (ap dd l i j) a (dst X i j) (unl X i j) v1 (X.1 10 0) hs A hA.2.2.2
      have hZ : TC X m c f q l ld (stI Z (49 + i) j (Z.1 (49 + i) j + los M X dd l a v1 i j)) := hA.cg hm (fun o k ho => by
        have : ¬ (o = 49 + i ∧ k = j) := fun z => ho (Or.inr (Or.inr (Or.inr (Or.inl (by omega)))))
        rw [stI_at, if_neg this]
        exact z3 o k (fun z => ho (Or.inl z)) (fun z => ho (Or.inr (Or.inl z))) (fun z => ho (Or.inr (Or.inr (Or.inr (Or.inr z))))))
      obtain ⟨A', r1, r2, r3⟩ := ih r (j + 1) (v5 + 1) (v3 + los M X dd l a v1 i j) _ (inc h1 (by omega)) (by omega) (by omega) (by omega) hZ (fun w hw => by rw [stI_at, if_neg (by omega), z3 _ _ (by omega) (by omega) (by omega)]; exact hd w hw)
      refine ⟨A', ?_, r2.trans z2, fun o k o1 o2 o3 => ?_⟩
      · rw [if_pos (by rw [ltk]; omega), eb, Option.bind_some, if_pos ib, nxk h4, if_pos of, if_pos ib, if_pos ou, nxk h1, g1, g2, hA.2.2.1, z1, Option.bind_some]
        dsimp only
        rw [if_pos ib, if_pos ol, if_pos ol, Option.bind_some]
        refine r1.trans ?_
        show K v1 a (v3 + los M X dd l a v1 i j + sumF (los M X dd l a v1 i) (j + 1) r) v4 A' = K v1 a (v3 + (los M X dd l a v1 i j + sumF (los M X dd l a v1 i) (j + 1) r)) v4 A'
        rw [Int32.add_assoc]
      · rw [r3 o k o1 o2 o3]
        by_cases c1 : o = 49 + i ∧ j + 1 ≤ k ∧ k < m
        · rw [if_pos c1, if_pos (by omega), stI_at, if_neg (by omega), z3 _ _ o1 o2 o3]
        · rw [if_neg c1, stI_at]
          by_cases c2 : o = 49 + i ∧ k = j
          · rw [if_pos c2, if_pos (by omega), c2.1, c2.2, z3 _ _ (by omega) (by omega) (by omega)]
          · rw [if_neg c2, if_neg (by omega)]
            exact z3 _ _ o1 o2 o3
theorem mb2_s (n : Nat) (hn : 4096 ≤ n) {X : St} {M : Mk6} {m c : Nat} {f q l dd : Nat → Int32} {ld v1 a : Int32} (hm : m ≤ 8) (hM : MkC n X M) (hs : 1 ≤ (X.1 10 0).toInt) : ∀ (w r i : Nat) (v4 v3 : Int32) (A : St), v4.toInt = i → i + r = m → r < w → TC X m c f q l ld A → (∀ w, w < m → A.1 27 w = dd w) → ∃ A', tho_marksBehind_L14 n w v1 a v3 v4 A = some (v3 + sumF (fun i => sumF (los M X dd l a v1 i) (i + 1) (m - (i + 1))) i r, A') ∧ A'.2 = A.2 ∧ (∀ o k, o ≠ 22 → o ≠ 23 → ¬ (o = 20 ∧ k = 4) → A'.1 o k = if 49 + i ≤ o ∧ o < 49 + m ∧ o - 49 < k ∧ k < m then A.1 o k + los M X dd l a v1 (o - 49) k else A.1 o k) := by
  intro w
  induction w with
  | zero => intro r i v4 v3 A h1 h2 h3; omega
  | succ w ih =>
    intro r i v4 v3 A h1 h2 h3 hA hd
    show ∃ A', tho_marksBehind_L14_B n (tho_marksBehind_L14 n w) v1 a v3 v4 A = _ ∧ _
    unfold tho_marksBehind_L14_B poo_many
    have m1 := hA.1.1
    cases r with
    | zero =>
      refine ⟨A, ?_, rfl, fun o k _ _ _ => by rw [if_neg (by omega)]⟩
      rw [if_neg (by rw [ltk]; omega)]
      show _ = some (v3 + 0, A)
      rw [Int32.add_zero]
    | succ r =>
      obtain ⟨Z, z1, z2, z3⟩ := mb1_s n (K := fun v7 v8 v9 v10 X6 => tho_marksBehind_L14 n w v7 v8 v9 (v10 + 1) X6) (v1 := v1) (a := a) (dd := dd) hm hM hs h1 (by omega) n (m - (i + 1)) (i + 1) (v4 + 1) v3 A (inc h1 (by omega)) (by omega) (by omega) (Nat.lt_succ_self _) hA hd
      have hZ : TC X m c f q l ld Z := hA.cg hm (fun o k ho => by
        rw [z3 o k (fun z => ho (Or.inl z)) (fun z => ho (Or.inr (Or.inl z))) (fun z => ho (Or.inr (Or.inr (Or.inr (Or.inr z))))), if_neg (fun z => ho (Or.inr (Or.inr (Or.inr (Or.inl (by omega))))))])
      obtain ⟨A', r1, r2, r3⟩ := ih r (i + 1) (v4 + 1) (v3 + sumF (los M X dd l a v1 i) (i + 1) (m - (i + 1))) Z (inc h1 (by omega)) (by omega) (by omega) hZ (fun w hw => by rw [z3 _ _ (by omega) (by omega) (by omega), if_neg (by omega)]; exact hd w hw)
      refine ⟨A', ?_, r2.trans z2, fun o k o1 o2 o3 => ?_⟩
      · rw [if_pos (by rw [ltk]; omega), z1]
        refine r1.trans ?_
        show some (v3 + sumF (los M X dd l a v1 i) (i + 1) (m - (i + 1)) + sumF (fun i => sumF (los M X dd l a v1 i) (i + 1) (m - (i + 1))) (i + 1) r, A') = some (v3 + (sumF (los M X dd l a v1 i) (i + 1) (m - (i + 1)) + sumF (fun i => sumF (los M X dd l a v1 i) (i + 1) (m - (i + 1))) (i + 1) r), A')
        rw [Int32.add_assoc]
      · rw [r3 o k o1 o2 o3, z3 o k o1 o2 o3]
        by_cases c1 : 49 + (i + 1) ≤ o ∧ o < 49 + m ∧ o - 49 < k ∧ k < m
        · rw [if_pos c1, if_neg (by omega), if_pos (by omega)]
        · rw [if_neg c1]
          by_cases c2 : o = 49 + i ∧ i + 1 ≤ k ∧ k < m
          · rw [if_pos c2, if_pos (by omega), show o - 49 = i by omega]
          · rw [if_neg c2, if_neg (by omega)]
/-- the marks behind a count -/
theorem mb_s {n : Nat} (hn : 4096 ≤ n) {X : St} {M : Mk6} {m c t : Nat} {f q l dd : Nat → Int32} {ld v : Int32} {A : St} (hm : m ≤ 8) (hc : c ≤ 60) (hM : MkC n X M) (hs : 1 ≤ (X.1 10 0).toInt) (hv : v.toInt = t) (ht : t < c) (hA : TC X m c f q l ld A) (hd : ∀ w, w < m → A.1 27 w = dd w) : ∃ A', tho_marksBehind n v A = some (sumP m (los M X dd l (f t) v), A') ∧ A'.2 = A.2 ∧ (∀ o k, o ≠ 22 → o ≠ 23 → ¬ (o = 20 ∧ k = 4) → A'.1 o k = if 49 ≤ o ∧ o < 49 + m ∧ o - 49 < k ∧ k < m then A.1 o k + los M X dd l (f t) v (o - 49) k else A.1 o k) := by
  obtain ⟨A', r1, r2, r3⟩ := mb2_s n hn (v1 := v) (a := f t) (dd := dd) hm hM hs n m 0 0 0 A ti0 (by omega) (by omega) hA hd
  refine ⟨A', ?_, r2, fun o k o1 o2 o3 => by rw [r3 o k o1 o2 o3, Nat.add_zero]⟩
  unfold tho_marksBehind
  rw [actAt_s (c := c) (by rw [hA.1.2.1]; exact ti_ofNat (by omega)) hc hv ht, hA.1.2.2.1 t ht, Option.bind_some, r1]
  unfold sumP
  rw [Int32.zero_add]
