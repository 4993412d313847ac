/-! looks -/
def dA (m : Nat) (x l : Nat → Int32) : St := (fun o i => if o = 1 then Int32.ofNat m else if o = 27 then x i else if o = 29 then l i else 0, fun _ _ => 0)
def dB (m : Nat) (x l : Nat → Int32) : St := (fun o i => if o = 102 then Int32.ofNat m else if o = 134 then x i else if o = 108 then l i else 0, fun _ _ => 0)
/-- how far the two farthest are -/
def WD (n m : Nat) (x l : Nat → Int32) : Int32 := (tho_widest n (dA m x l)).getD 0
theorem betDA {m : Nat} {x l : Nat → Int32} (hm : m ≤ 8) : bet (fun v u => tho_between v u (dA m x l)) m (ap x l) := by
  intro v u i j h1 h2 h3 h4
  have e : ((dA m x l).1 1 1).toInt = m := by
    show (Int32.ofNat m).toInt = m
    exact ti_ofNat (by omega)
  show tho_between v u (dA m x l) = _
  rw [betC h1 (by rw [e]; omega) h2 (by rw [e]; omega) (by rw [e]; omega)]
  rfl
theorem betDB {m : Nat} {x l : Nat → Int32} (hm : m ≤ 8) : bet (fun v u => mo_apartOf v u 0 (dB m x l)) m (ap x l) := by
  intro v u i j h1 h2 h3 h4
  show mo_apartOf v u 0 (dB m x l) = _
  rw [aptM (t := 0) h1 (by omega) h2 (by omega) ti0 (by omega)]
  exact congrArg some (ap_cg (m := m) (fun w hw => by rw [Nat.mul_zero, Nat.zero_add]; rfl) (fun w hw => rfl) h3 h4)
theorem wdA {n : Nat} (hn : 4096 ≤ n) {m : Nat} {x l : Nat → Int32} (hm : m ≤ 8) {A : St} (a1 : (A.1 1 1).toInt = m) (hA : bet (fun v u => tho_between v u A) m (ap x l)) : tho_widest n A = some (WD n m x l) := by
  have e : ((dA m x l).1 1 1).toInt = m := by
    show (Int32.ofNat m).toInt = m
    exact ti_ofNat (by omega)
  have e2 : ((dB m x l).1 102 0).toInt = m := by
    show (Int32.ofNat m).toInt = m
    exact ti_ofNat (by omega)
  obtain ⟨⟨g, g1, g2⟩, -⟩ := far_s hn (A := A) (B := dB m x l) hm a1 e2 hA (betDB hm)
  obtain ⟨⟨g', g1', g2'⟩, -⟩ := far_s hn (A := dA m x l) (B := dB m x l) hm e e2 (betDA hm) (betDB hm)
  unfold WD
  rw [g2] at g2'
  rw [g1', g1, g2']
  rfl
theorem wdB {n : Nat} (hn : 4096 ≤ n) {m : Nat} {x l : Nat → Int32} {p : Int32} (hm : m ≤ 8) {B : St} (b1 : (B.1 102 0).toInt = m) (hB : bet (fun v u => mo_apartOf v u p B) m (ap x l)) : mo_greatest n p B = some (WD n m x l) := by
  have e : ((dA m x l).1 1 1).toInt = m := by
    show (Int32.ofNat m).toInt = m
    exact ti_ofNat (by omega)
  obtain ⟨⟨g, g1, g2⟩, -⟩ := far_s hn (A := dA m x l) (B := B) hm e b1 (betDA hm) hB
  unfold WD
  rw [g1, g2]
  rfl
theorem ap_sh {b : Int32} {x l : Nat → Int32} {i j : Nat} : ap (fun w => b + x w) l i j = ap x l i j := by
  unfold ap
  have : ((b + x i - l i) - (b + x j - l j)) = ((x i - l i) - (x j - l j)) := by grind
  rw [this]
/-- counts since a look -/
def sL (m : Nat) (ld : Int32) (g : Nat → Int32) : Nat → Nat
  | 0 => 0
  | t + 1 => if g t = 4 ∧ (0 ≤ ld.toInt ∧ ld.toInt < m) then 0 else sL m ld g t + 1
theorem sL_le {m : Nat} {ld : Int32} {g : Nat → Int32} : ∀ t, sL m ld g t ≤ t := by
  intro t
  induction t with
  | zero => exact Nat.le_refl _
  | succ t ih =>
    unfold sL
    by_cases c : g t = 4 ∧ (0 ≤ ld.toInt ∧ ld.toInt < m)
    · rw [if_pos c]; omega
    · rw [if_neg c]; omega
theorem dr_s {m : Nat} {q : Nat → Int32} {ld : Int32} {g : Nat → Int32} : ∀ t, ∃ b : Int32, ∀ w, w < m → itr (sp0 m q ld g) t w = b + Int32.ofNat (sL m ld g t) * q w := by
  intro t
  induction t with
  | zero =>
    refine ⟨0, fun w _ => ?_⟩
    show (0 : Int32) = 0 + Int32.ofNat 0 * q w
    have : Int32.ofNat 0 = 0 := by decide
    rw [this]; grind
  | succ t ih =>
    obtain ⟨b, hb⟩ := ih
    by_cases c : g t = 4 ∧ (0 ≤ ld.toInt ∧ ld.toInt < m)
    · refine ⟨itr (sp0 m q ld g) t (nx ld) + q (nx ld), fun w hw => ?_⟩
      show sp0 m q ld g t (itr (sp0 m q ld g) t) w = _
      have e : sL m ld g (t + 1) = 0 := by unfold sL; rw [if_pos c]
      rw [e]
      unfold sp0 stp
      rw [if_pos c]
      have : Int32.ofNat 0 = 0 := by decide
      rw [this]; grind
    · refine ⟨b, fun w hw => ?_⟩
      show sp0 m q ld g t (itr (sp0 m q ld g) t) w = _
      have e : sL m ld g (t + 1) = sL m ld g t + 1 := by
        show (if g t = 4 ∧ (0 ≤ ld.toInt ∧ ld.toInt < m) then 0 else sL m ld g t + 1) = _
        rw [if_neg c]
      rw [e]
      show (if g t = 4 ∧ (0 ≤ ld.toInt ∧ ld.toInt < m) then itr (sp0 m q ld g) t (nx ld) + q (nx ld) else itr (sp0 m q ld g) t w + q w) = _
      rw [if_neg c, hb w hw]
      have : Int32.ofNat (sL m ld g t + 1) = Int32.ofNat (sL m ld g t) + 1 := by
        rw [Int32.ofNat_add]; rfl
      rw [this]; grind
/-- the states of a search for looks -/
def dlL (W : Nat → Int32) (vis ld : Int32) (m : Nat) : Nat → Int32 → Option Nat := fun s a =>
  let s0 := if a = 4 ∧ (0 ≤ ld.toInt ∧ ld.toInt < m) then 0 else s + 1
  if 16 < s0 then none else if W s0 < vis then some s0 else none
theorem rnL {W : Nat → Int32} {vis ld : Int32} {m : Nat} {g : Nat → Int32} : ∀ t, t ≤ 16 → ((∀ j, j < t → W (sL m ld g (j + 1)) < vis) → rnS (dlL W vis ld m) g t = some (sL m ld g t)) ∧ ((∃ j, j < t ∧ ¬ W (sL m ld g (j + 1)) < vis) → rnS (dlL W vis ld m) g t = none) := by
  intro t
  induction t with
  | zero => intro _; exact ⟨fun _ => rfl, fun ⟨j, hj, _⟩ => by omega⟩
  | succ t ih =>
    intro ht
    obtain ⟨i1, i2⟩ := ih (by omega)
    have step : rnS (dlL W vis ld m) g t = some (sL m ld g t) → rnS (dlL W vis ld m) g (t + 1) = if W (sL m ld g (t + 1)) < vis then some (sL m ld g (t + 1)) else none := by
      intro h
      show (rnS (dlL W vis ld m) g t).bind (fun x => dlL W vis ld m x (g t)) = _
      rw [h, Option.bind_some]
      show (if 16 < sL m ld g (t + 1) then none else if W (sL m ld g (t + 1)) < vis then some (sL m ld g (t + 1)) else none) = _
      have := sL_le (m := m) (ld := ld) (g := g) (t + 1)
      rw [if_neg (c := 16 < sL m ld g (t + 1)) (by omega)]
    refine ⟨fun h => ?_, fun ⟨j, hj, hb⟩ => ?_⟩
    · rw [step (i1 (fun j hj => h j (by omega))), if_pos (h t (Nat.lt_succ_self _))]
    · rcases Classical.em (∃ j, j < t ∧ ¬ W (sL m ld g (j + 1)) < vis) with e | e
      · show (rnS (dlL W vis ld m) g t).bind _ = none
        rw [i2 e]; rfl
      · have hh : ∀ j, j < t → W (sL m ld g (j + 1)) < vis := fun j hj => Decidable.byContradiction (fun hb => e ⟨j, hj, hb⟩)
        rw [step (i1 hh)]
        have : j = t := Decidable.byContradiction (fun z => hb (hh j (by omega)))
        rw [← this, if_neg hb]
theorem fewL {W : Nat → Int32} {vis ld : Int32} {m c : Nat} {f : Nat → Int32} {A : St} (a1 : (A.1 24 1).toInt = c) (a2 : ∀ i, i < c → A.1 25 i = f i) (h3 : A.1 57 3 = 1) (h4 : A.1 57 4 = 0 ↔ ¬ (0 ≤ ld.toInt ∧ ld.toInt < m)) (h7 : ∀ k, k < 17 → A.1 77 k = if W k < vis then 0 else 1) : Few c f (dlL W vis ld m) (fun _ => True) A := by
  refine ⟨a1, a2, fun v a s hv hs _ => ?_⟩
  have e16 : (16 : Int32).toInt = 16 := by decide
  have J : ∀ (u : Int32) (k : Nat), u.toInt = k → k < 171 → ∃ x, few_afterLooking_J19 A u = some x ∧ (∀ s', (if 16 < k then none else if W k < vis then some k else none) = some s' → x = Int32.ofNat s' ∧ s' < 170) ∧ ((if 16 < k then none else if W k < vis then some k else none) = (none : Option Nat) → x.toInt < 0 ∨ 170 ≤ x.toInt) := by
    intro u k hu hk
    unfold few_afterLooking_J19
    rw [if_neg (by rw [ltk, ti0]; omega)]
    by_cases c1 : 16 < k
    · rw [if_pos (by rw [ltk, e16]; omega)]
      simp only [if_pos c1]
      exact ⟨_, rfl, fun s' h => (by cases h), fun _ => Or.inl (by decide)⟩
    · rw [if_neg (by rw [ltk, e16]; omega), if_pos (by rw [inB_iff]; omega), nxk hu, h7 k (by omega)]
      simp only [if_neg c1]
      by_cases c2 : W k < vis
      · simp only [if_pos c2, ↓reduceIte]
        refine ⟨u, rfl, fun s' h => ?_, fun h => by cases h⟩
        injection h with h
        exact ⟨by rw [← h]; exact ofk hu, by omega⟩
      · simp only [if_neg c2]
        rw [if_neg (by decide)]
        exact ⟨_, rfl, fun s' h => (by cases h), fun _ => Or.inl (by decide)⟩
  unfold few_after few_afterLooking
  rw [h3, if_neg (by decide)]
  have s1 := inc hv (by omega)
  by_cases c1 : a = 4
  · rw [if_pos c1]
    by_cases c2 : 0 ≤ ld.toInt ∧ ld.toInt < m
    · rw [if_neg (fun h => h4.mp h c2)]
      obtain ⟨x, x1, x2⟩ := J 0 0 ti0 (by omega)
      refine ⟨x, by rw [x1]; rfl, ?_⟩
      unfold afr dlL
      simp only [if_pos (And.intro c1 c2)]
      exact x2
    · rw [if_pos (h4.mpr c2)]
      obtain ⟨x, x1, x2⟩ := J (v + 1) (s + 1) s1 (by omega)
      refine ⟨x, by rw [x1]; rfl, ?_⟩
      unfold afr dlL
      simp only [if_neg (fun h : a = 4 ∧ (0 ≤ ld.toInt ∧ ld.toInt < m) => c2 h.2)]
      exact x2
  · rw [if_neg c1]
    obtain ⟨x, x1, x2⟩ := J (v + 1) (s + 1) s1 (by omega)
    refine ⟨x, by rw [x1]; rfl, ?_⟩
    unfold afr dlL
    simp only [if_neg (fun h : a = 4 ∧ (0 ≤ ld.toInt ∧ ld.toInt < m) => c1 h.1)]
    exact x2
/-- seen, so many counts since a look -/
theorem iss_s (n : Nat) (K : St → Option (Int32 × St)) {v1 : Int32} {m : Nat} (hm : m ≤ 8) : ∀ (w r k : Nat) (v : Int32) (A : St), v.toInt = k → k + r = m → r < w → (A.1 1 1).toInt = m → ∃ Y, tho_isSeenSince_L2 n K w v1 v A = K Y ∧ Y.2 = A.2 ∧ ∀ o i, Y.1 o i = if o = 27 ∧ k ≤ i ∧ i < m then v1 * A.1 28 i else A.1 o i := by
  intro w
  induction w with
  | zero => intro r k v A h1 h2 h3; omega
  | succ w ih =>
    intro r k v A h1 h2 h3 h4
    show ∃ Y, tho_isSeenSince_L2_B n K (tho_isSeenSince_L2 n K w) v1 v A = K Y ∧ _
    unfold tho_isSeenSince_L2_B poo_many
    cases r with
    | zero =>
      rw [if_neg (by rw [ltk]; omega)]
      exact ⟨A, rfl, rfl, fun o i => by rw [if_neg (by omega)]⟩
    | succ r =>
      have ib : inB v 8 = true := by rw [inB_iff]; omega
      rw [if_pos (by rw [ltk]; omega), if_pos ib, if_pos ib, nxk h1]
      obtain ⟨Y, r1, r2, r3⟩ := ih r (k + 1) (v + 1) (stI A 27 k (v1 * A.1 28 k)) (inc h1 (by omega)) (by omega) (by omega) (by rw [stI_at, if_neg (by omega)]; exact h4)
      refine ⟨Y, r1, r2, fun o i => ?_⟩
      rw [r3, stI_at, stI_at, if_neg (c := 28 = 27 ∧ i = k) (by omega)]
      by_cases c1 : o = 27 ∧ k + 1 ≤ i ∧ i < m
      · rw [if_pos c1, if_pos (by omega)]
      · rw [if_neg c1]
        by_cases c2 : o = 27 ∧ i = k
        · rw [if_pos c2, if_pos (by omega), c2.2]
        · rw [if_neg c2, if_neg (by omega)]
theorem isn_s {n : Nat} (hn : 4096 ≤ n) {v : Int32} {m : Nat} (hm : m ≤ 8) {q l : Nat → Int32} {vis : Int32} {A : St} (a1 : (A.1 1 1).toInt = m) (a2 : ∀ i, i < m → A.1 28 i = q i ∧ A.1 29 i = l i) (a3 : A.1 26 10 = vis) : ∃ Y, tho_isSeenSince n v A = some (if WD n m (fun w => v * q w) l < vis then 0 else 1, Y) ∧ Y.2 = A.2 ∧ ∀ o i, o ≠ 27 → Y.1 o i = A.1 o i := by
  unfold tho_isSeenSince
  obtain ⟨Y, y1, y2, y3⟩ := iss_s n (fun X1 =>
  ((tho_widest n X1).bind fun c2 =>
  (if c2 < (X1.1 26 10) then
  (some ((0 : Int32), X1))
  else
  (some ((1 : Int32), X1))))) (v1 := v) hm n m 0 0 A ti0 (by omega) (by omega) a1
  have y11 : (Y.1 1 1).toInt = m := by rw [y3, if_neg (by omega)]; exact a1
  rw [y1, wdA hn (x := fun w => v * q w) (l := l) hm y11 (fun u1 u2 i j h1 h2 h3 h4 => by
    show tho_between u1 u2 Y = _
    rw [betC h1 (by rw [y11]; omega) h2 (by rw [y11]; omega) (by rw [y11]; omega)]
    exact congrArg some (ap_cg (m := m) (fun w hw => by rw [y3, if_pos ⟨rfl, Nat.zero_le _, hw⟩, (a2 w hw).1]) (fun w hw => by rw [y3, if_neg (by omega)]; exact (a2 w hw).2) h3 h4)), Option.bind_some]
  have y26 : Y.1 26 10 = vis := by rw [y3, if_neg (by omega)]; exact a3
  rw [y26]
  by_cases c : WD n m (fun w => v * q w) l < vis
  · rw [if_pos c, if_pos c]
    exact ⟨Y, rfl, y2, fun o i ho => by rw [y3, if_neg (by omega)]⟩
  · rw [if_neg c, if_neg c]
    exact ⟨Y, rfl, y2, fun o i ho => by rw [y3, if_neg (by omega)]⟩
theorem cl_s {n : Nat} (hn : 4096 ≤ n) {m : Nat} (hm : m ≤ 8) {q l : Nat → Int32} {vis : Int32} : ∀ (w r k : Nat) (v : Int32) (A : St), v.toInt = k → k + r = 17 → r < w → (A.1 1 1).toInt = m → (∀ i, i < m → A.1 28 i = q i ∧ A.1 29 i = l i) → A.1 26 10 = vis → (∀ j, j < k → A.1 77 j = if WD n m (fun w => Int32.ofNat j * q w) l < vis then 0 else 1) → ∃ A', few_chooseLooks_L15 n w v A = ((few_choose n 0 4 A').bind fun X2 => some X2) ∧ A'.2 = A.2 ∧ (∀ o i, o ≠ 27 → o ≠ 77 → A'.1 o i = A.1 o i) ∧ ∀ j, j < 17 → A'.1 77 j = if WD n m (fun w => Int32.ofNat j * q w) l < vis then 0 else 1 := by
  have e16 : (16 : Int32).toInt = 16 := by decide
  intro w
  induction w with
  | zero => intro r k v A h1 h2 h3; omega
  | succ w ih =>
    intro r k v A h1 h2 h3 a1 a2 a3 a4
    show ∃ A', few_chooseLooks_L15_B n (few_chooseLooks_L15 n w) v A = _ ∧ _
    unfold few_chooseLooks_L15_B
    cases r with
    | zero =>
      rw [if_pos (by rw [ltk, e16]; omega)]
      exact ⟨A, rfl, rfl, fun _ _ _ _ => rfl, fun j hj => a4 j (by omega)⟩
    | succ r =>
      obtain ⟨Y, y1, y2, y3⟩ := isn_s hn (v := v) hm a1 a2 a3
      rw [if_neg (by rw [ltk, e16]; omega), y1, Option.bind_some]
      dsimp only
      rw [if_pos (by rw [inB_iff]; omega), nxk h1]
      have nar : ∀ x : Int32, (x = 0 ∨ x = 1) → vp_nar .boolean x = x := by
        intro x hx
        rcases hx with h | h
        · rw [h]; rfl
        · rw [h]; rfl
      rw [nar _ (by by_cases c : WD n m (fun w => v * q w) l < vis
                    · rw [if_pos c]; exact Or.inl rfl
                    · rw [if_neg c]; exact Or.inr rfl)]
      obtain ⟨A', r1, r2, r3, r4⟩ := ih r (k + 1) (v + 1) (stI Y 77 k (if WD n m (fun w => v * q w) l < vis then 0 else 1)) (inc h1 (by omega)) (by omega) (by omega) (by rw [stI_at, if_neg (by omega), y3 _ _ (by omega)]; exact a1) (fun i hi => by rw [stI_at, if_neg (by omega), stI_at, if_neg (by omega), y3 _ _ (by omega), y3 _ _ (by omega)]; exact a2 i hi) (by rw [stI_at, if_neg (by omega), y3 _ _ (by omega)]; exact a3) (fun j hj => by
        rw [stI_at]
        by_cases e : j = k
        · rw [if_pos ⟨rfl, e⟩, e, ← ofk h1]
        · rw [if_neg (fun z => e z.2), y3 _ _ (by omega)]; exact a4 j (by omega))
      exact ⟨A', r1, r2.trans y2, fun o i o1 o2 => (r3 o i o1 o2).trans (by rw [stI_at, if_neg (by omega)]; exact y3 o i o1), r4⟩
/-- the first count that is seen: the model's words -/
theorem fst_s {n : Nat} (hn : 4096 ≤ n) {m c : Nat} (hm : m ≤ 8) (hc : c ≤ 60) {l : Nat → Int32} {x : Nat → Nat → Int32} {vis : Int32} {B : St} (b1 : (B.1 102 0).toInt = m) (b2 : (B.1 102 44).toInt = c) (b3 : B.1 109 1 = vis) (b4 : ∀ w, w < m → B.1 108 w = l w) (b5 : ∀ t, t ≤ c → ∃ b : Int32, ∀ w, w < m → B.1 134 (8 * t + w) = b + x t w) (hv : 1 ≤ vis.toInt) : ∀ (w r k : Nat) (v : Int32), v.toInt = k → k + r = c → r < w → ∃ z, mo_firstApart_L2 n B w v = some z ∧ (z = -2 ↔ ∀ t, k ≤ t → t < c → WD n m (x (t + 1)) l < vis) := by
  intro w
  induction w with
  | zero => intro r k v h1 h2 h3; omega
  | succ w ih =>
    intro r k v h1 h2 h3
    show ∃ z, mo_firstApart_L2_B n B (mo_firstApart_L2 n B w) v = some z ∧ _
    unfold mo_firstApart_L2_B
    cases r with
    | zero =>
      rw [if_neg (by rw [ltk]; omega)]
      exact ⟨-2, rfl, fun _ t t1 t2 => by omega, fun _ => rfl⟩
    | succ r =>
      have s1 := inc h1 (by omega)
      obtain ⟨z, z1, z2⟩ := ih r (k + 1) (v + 1) s1 (by omega) (by omega)
      have go : WD n m (x (k + 1)) l < vis → (z = -2 ↔ ∀ t, k ≤ t → t < c → WD n m (x (t + 1)) l < vis) := by
        intro h
        refine z2.trans ⟨fun g t t1 t2 => ?_, fun g t t1 t2 => g t (by omega) t2⟩
        rcases Nat.eq_or_lt_of_le t1 with e | e
        · rw [← e]; exact h
        · exact g t e t2
      rw [if_pos (by rw [ltk]; omega)]
      by_cases c1 : 1 < m
      · obtain ⟨b, hb⟩ := b5 (k + 1) (by omega)
        have W : mo_greatest n (v + 1) B = some (WD n m (x (k + 1)) l) := wdB hn hm b1 (fun u1 u2 i j g1 g2 g3 g4 => by
          show mo_apartOf u1 u2 (v + 1) B = _
          rw [aptM g1 (by omega) g2 (by omega) s1 (by omega), show ap (x (k + 1)) l i j = ap (fun w => b + x (k + 1) w) l i j from ap_sh.symm]
          exact congrArg some (ap_cg (m := m) hb b4 g3 g4))
        rw [if_pos (by rw [ltk, ti1]; omega), W, Option.bind_some, show nx (1 : Int32) = 1 from rfl, b3]
        by_cases c2 : WD n m (x (k + 1)) l < vis
        · rw [if_pos c2]
          exact ⟨z, z1, go c2⟩
        · rw [if_neg c2]
          exact ⟨v, rfl, fun h => by rw [h, show (-2 : Int32).toInt = -2 by decide] at h1; omega, fun h => absurd (h k (Nat.le_refl _) (by omega)) c2⟩
      · rw [if_neg (by rw [ltk, ti1]; omega)]
        have W0 : WD n m (x (k + 1)) l = 0 := by
          unfold WD
          rw [wid1 (m := m) hn (by show (Int32.ofNat m).toInt = m; exact ti_ofNat (by omega)) (by omega)]
          rfl
        exact ⟨z, z1, go (by rw [W0, ltk, ti0]; omega)⟩
theorem hcL {n : Nat} (hn : 4096 ≤ n) {X B0 : St} {c : Nat} (hP : IPool X) (hB : IBnd X) (hc : c ≤ 16) (b0 : B0.1 102 0 = X.1 1 1) (b44 : (B0.1 102 44).toInt = c) (b7 : ∀ k, k < 8 → B0.1 107 k = X.1 7 k) (b8 : ∀ k, k < 8 → B0.1 108 k = X.1 8 k) (b9 : B0.1 109 0 = X.1 9 0) (b1 : B0.1 109 1 = X.1 10 0) (b48 : B0.1 102 48 = -2) : ∀ (B : St) (g : Nat → Int32), agS B0 B → (∀ j, j < c → B.1 133 j = g j) → ∃ r B', CK n 0 B = some (r, B') ∧ (r = 0 ∨ r = 1) ∧ (r = 1 ↔ (rnS (dlL (fun k => WD n (mny X) (fun w => Int32.ofNat k * X.1 7 w) (fun w => X.1 8 w)) (X.1 10 0) (X.1 9 0) (mny X)) g c).isSome = true) ∧ ∀ o i, o ≠ 134 → ¬ (o = 102 ∧ i = 51) → B'.1 o i = B.1 o i := by
  intro B g hag hg
  obtain ⟨m1, m2⟩ := mny_s hP
  have hv : 1 ≤ (X.1 10 0).toInt := (hB 7 0 (Or.inr ⟨by decide, by decide, by decide⟩)).1
  have ag : ∀ o i, o ≠ 133 → o ≠ 134 → o ≠ 136 → ¬ (o = 102 ∧ i = 51) → B.1 o i = B0.1 o i := hag
  have B48 : B.1 102 48 = -2 := (ag _ _ (by omega) (by omega) (by omega) (by omega)).trans b48
  have B0' : (B.1 102 0).toInt = mny X := by rw [ag _ _ (by omega) (by omega) (by omega) (by omega), b0]; exact m1
  have B44 : (B.1 102 44).toInt = c := by rw [ag _ _ (by omega) (by omega) (by omega) (by omega)]; exact b44
  have B90 : B.1 109 0 = X.1 9 0 := (ag _ _ (by omega) (by omega) (by omega) (by omega)).trans b9
  obtain ⟨Y, y1, y2, y3, y4⟩ := drifts0_s hn (m := mny X) (c := c) (B := B) (f := g) m2 (by omega) B0' B44 hg (Or.inl B48)
  obtain ⟨z, z1, z2⟩ := fst_s hn (m := mny X) (c := c) (B := Y) (l := fun w => X.1 8 w) (x := fun t w => Int32.ofNat (sL (mny X) (X.1 9 0) g t) * X.1 7 w) (vis := X.1 10 0) m2 (by omega) (by rw [y3 _ _ (by omega)]; exact B0') (by rw [y3 _ _ (by omega)]; exact B44) (by rw [y3 _ _ (by omega), ag _ _ (by omega) (by omega) (by omega) (by omega)]; exact b1) (fun w hw => by rw [y3 _ _ (by omega), ag _ _ (by omega) (by omega) (by omega) (by omega)]; exact b8 w (by omega)) (fun t ht => by
    obtain ⟨b, hb⟩ := dr_s (m := mny X) (q := fun w => X.1 7 w) (ld := X.1 9 0) (g := g) t
    refine ⟨b, fun w hw => ?_⟩
    rw [y4 t ht w hw, ← hb w hw, B90]
    exact spS_0 (T := c) (q' := fun w => X.1 7 w) m2 B48 (fun w hw => by rw [ag _ _ (by omega) (by omega) (by omega) (by omega)]; exact b7 w (by omega)) t ht w hw) hv n c 0 0 ti0 (by omega) (by omega)
  have z1' : mo_firstApart n Y = some z := z1
  obtain ⟨n1, n2⟩ := rnL (W := fun k => WD n (mny X) (fun w => Int32.ofNat k * X.1 7 w) (fun w => X.1 8 w)) (vis := X.1 10 0) (ld := X.1 9 0) (m := mny X) (g := g) c hc
  have key : (z = -2 ↔ (rnS (dlL (fun k => WD n (mny X) (fun w => Int32.ofNat k * X.1 7 w) (fun w => X.1 8 w)) (X.1 10 0) (X.1 9 0) (mny X)) g c).isSome = true) := by
    rw [z2]
    constructor
    · intro h
      rw [n1 (fun j hj => h j (Nat.zero_le _) hj)]
      rfl
    · intro h t _ ht
      refine Decidable.byContradiction (fun hb => ?_)
      rw [n2 ⟨t, ht, hb⟩] at h
      cases h
  unfold CK mo_isNeverApart
  rw [if_neg (by decide), y1, Option.bind_some, z1', Option.bind_some]
  by_cases e : z = -2
  · rw [if_pos e, Option.bind_some]
    dsimp only
    rw [if_pos (by decide)]
    exact ⟨1, Y, rfl, Or.inr rfl, ⟨fun _ => key.mp e, fun _ => rfl⟩, fun o i o1 _ => y3 o i o1⟩
  · rw [if_neg e, Option.bind_some]
    dsimp only
    rw [if_pos (by decide)]
    exact ⟨0, Y, rfl, Or.inl rfl, ⟨fun h => absurd h (by decide), fun h => absurd (key.mpr h) e⟩, fun o i o1 _ => y3 o i o1⟩
theorem op_looks (n : Nat) (hn : 4096 ≤ n) (a v : Int32) (X : St) (hP : IPool X) (hB : IBnd X) (hs : ISh X) (hw : IWy X) (hp : ISlp X) : ∃ r X1, el_looks n a v X = some (r, X1) ∧ ∀ Y, Mo X Y → ∃ Y1, mo_looks n a v Y = some (r, Y1) := by
  obtain ⟨m1, m2⟩ := mny_s hP
  refine joinr (fun Y hY => ?_)
  unfold el_looks mo_looks mo_fewest
  by_cases ha : 0 ≤ a.toInt ∧ a.toInt ≤ 5
  · have hx := nx_ti ha.1
    rw [if_neg (c := mo_isShelf a = 0) (fun h => shm0.mp h ha)]
    by_cases hv : v < -1
    · rw [if_pos hv, if_pos hv]
      refine ⟨-1, X, ?_, Y, rfl⟩
      unfold el_looks_J12
      rw [bad_s (Or.inl rfl), Option.bind_some]
      dsimp only
      rw [if_neg (by decide)]
    rw [if_neg hv, if_neg hv]
    unfold el_looks_J12
    rcases beg_s hn (h := 1) (by decide) ha hP hs hw with ⟨c, k1, k2, k3⟩ | ⟨A, x1, x2, x3⟩
    · refine ⟨c, X, ?_, Y, ?_⟩
      · rw [k2, Option.bind_some]
        dsimp only
        rw [if_neg k1.1]
      · rw [k3 Y hY, Option.bind_some, if_pos k1.2]
        rfl
    · obtain ⟨y0, B, b1, b2⟩ := x3 Y hY
      have hc := rc_le hs (a := nx a) (by omega)
      have e16 : (16 : Int32).toInt = 16 := by decide
      have ec : (Int32.ofNat (rc X (nx a))).toInt = rc X (nx a) := rc_ti hs (by omega)
      rw [x1, Option.bind_some]
      dsimp only
      rw [if_pos rfl, y0, Option.bind_some, if_neg (c := (0 : Int32) < 0) (by decide), b1, Option.bind_some]
      unfold rou_counts
      rw [x2.2.1, b2.2.1]
      by_cases c16 : 16 < rc X (nx a)
      · rw [if_pos (by rw [ltk, e16]; omega), if_pos (by rw [ltk, e16]; omega)]
        exact ⟨_, _, rfl, _, rfl⟩
      · rw [if_neg (by rw [ltk, e16]; omega), if_neg (by rw [ltk, e16]; omega)]
        have A11 : A.1 1 1 = X.1 1 1 := x2.lo (by omega)
        have A9 : A.1 26 9 = X.1 9 0 := x2.2.2.2.1
        have A10 : A.1 26 10 = X.1 10 0 := x2.2.2.2.2.1
        have A28 : ∀ i, i < mny X → A.1 28 i = X.1 7 i ∧ A.1 29 i = X.1 8 i := fun i hi => x2.2.2.2.2.2.2.1 i (by omega)
        -- is she led
        obtain ⟨q, hq⟩ : ∃ q, tho_isLed (stI A 57 3 1) = q := ⟨_, rfl⟩
        have hq0 : q = 0 ↔ ¬ (0 ≤ (X.1 9 0).toInt ∧ (X.1 9 0).toInt < mny X) := by
          rw [← hq]
          unfold tho_isLed
          rw [has_s, stI_at, if_neg (by omega), stI_at, if_neg (by omega), A9, A11, m1]
        have hq1 : q = 0 ∨ q = 1 := by
          rcases Classical.em (0 ≤ (X.1 9 0).toInt ∧ (X.1 9 0).toInt < mny X) with h | h
          · refine Or.inr ?_
            rw [← hq]
            unfold tho_isLed
            exact has1 (by rw [stI_at, if_neg (by omega), stI_at, if_neg (by omega), A9, A11, m1]; exact h)
          · exact Or.inl (hq0.mpr h)
        have hz : isZ q = true := by rcases hq1 with h | h <;> (rw [h]; decide)
        have at2 : ∀ o i, o ≠ 57 → (stI (stI A 57 3 1) 57 4 q).1 o i = A.1 o i := fun o i ho => by rw [stI_at, if_neg (by omega), stI_at, if_neg (by omega)]
        obtain ⟨A2, g1, g2, g3, g4⟩ := cl_s hn (m := mny X) m2 (q := fun w => X.1 7 w) (l := fun w => X.1 8 w) (vis := X.1 10 0) n 17 0 0 (stI (stI A 57 3 1) 57 4 q) ti0 (by omega) (by omega) (by rw [at2 _ _ (by omega), A11]; exact m1) (fun i hi => by rw [at2 _ _ (by omega), at2 _ _ (by omega)]; exact A28 i hi) (by rw [at2 _ _ (by omega)]; exact A10) (fun j hj => by omega)
        have hF : Few (rc X (nx a)) (ac X (nx a)) (dlL (fun k => WD n (mny X) (fun w => Int32.ofNat k * X.1 7 w) (fun w => X.1 8 w)) (X.1 10 0) (X.1 9 0) (mny X)) (fun _ => True) A2 := fewL (by rw [g3 _ _ (by omega) (by omega), at2 _ _ (by omega), x2.2.1]; exact ec) (fun i hi => by rw [g3 _ _ (by omega) (by omega), at2 _ _ (by omega)]; exact x2.2.2.1 i hi) (by rw [g3 _ _ (by omega) (by omega), stI_at, if_neg (by omega), stI_self]) (by rw [g3 _ _ (by omega) (by omega), stI_self]; exact hq0) g4
        obtain ⟨A', q1, q2, q3⟩ := cho_s hn (fm := 0) (to := 4) (by omega) (fun _ _ => trivial) trivial hF
        have HC := hcL hn (B0 := B) (c := rc X (nx a)) hP hB (by omega) ((b2.lo (by omega) (by omega) (by omega)).trans hP.1) (by rw [b2.2.1]; exact ec) (fun k hk => (b2.lo (by omega) (by omega) (by omega)).trans (pl_w hP (w := 4) (by omega) hk)) (fun k hk => (b2.lo (by omega) (by omega) (by omega)).trans (pl_w hP (w := 5) (by omega) hk)) ((b2.lo (by omega) (by omega) (by omega)).trans (pl_j hP (j := 0) (by omega))) ((b2.lo (by omega) (by omega) (by omega)).trans (pl_j hP (j := 1) (by omega))) ((b2.lo (by omega) (by omega) (by omega)).trans hp)
        obtain ⟨B', p1, p2⟩ := fws_s hn (KK := fun v6 v7 X5 => (mo_fewest_J77 n v6 v7 X5)) (fm := 0) (to := 4) (v2 := v) (f := ac X (nx a)) (by omega) (by rw [b2.2.1]; exact ec) HC 11 n 0 0 B (by omega) (by omega) ti0 (Nat.zero_le _) (fun _ _ _ _ _ _ => rfl) b2.2.2.1
        have hv1 : -1 ≤ v.toInt := by rw [ltk, ti_m1] at hv; omega
        obtain ⟨r, r1, r2⟩ := ans_s (n := n) (B' := B') (by omega) hv1 q2 q3 p2
        refine ⟨r, A', ?_, B', ?_⟩
        · unfold few_chooseLooks
          rw [hq, if_pos hz, Option.bind_some, g1, q1, Option.bind_some, Option.bind_some, r1]
          rfl
        · rw [p1, r2]
          rfl
  · refine ⟨-1, X, ?_, Y, ?_⟩
    · unfold el_looks_J12
      simp only [bad_s (Or.inr ha), Option.bind_some, show ¬ (-1 : Int32) = 0 by decide, ↓reduceIte, ite_self]
    · rw [if_pos (shm0.mpr ha)]
      rfl
