/-! line -/
def ascR (l : Nat → Nat) : Nat → Option Nat
  | 0 => none
  | k + 1 => if l k < l (k + 1) then some k else ascR l k
def gtR (l : Nat → Nat) (i : Nat) : Nat → Nat
  | 0 => 0
  | k + 1 => if l i < l k then k else gtR l i k
/-- the next order after l: changed at i and j, turned behind i -/
def nxA (m i j : Nat) (l : Nat → Nat) : Nat → Nat := fun k => if k < i then l k else if k = i then l j else if m + i - k = j then l i else l (m + i - k)
def gL (l : List Nat) : Nat → Nat := fun k => l.getD k 0
def nxtL (m : Nat) (l : List Nat) : Option (List Nat) := match ascR (gL l) (m - 1) with
  | none => none
  | some i => some ((List.range m).map (nxA m i (gtR (gL l) i m) (gL l)))
def wfL (m : Nat) (l : List Nat) : Bool := (List.range m).all fun i => decide (gL l i < m) && (List.range m).all fun j => decide (i = j) || !decide (gL l i = gL l j)
def ends (m : Nat) : Nat → List Nat → Bool
  | 0, l => wfL m l && (nxtL m l).isNone
  | t + 1, l => wfL m l && match nxtL m l with
    | none => true
    | some l' => ends m t l'
theorem ends_all : ∀ m, m < 7 → ends m 719 (List.range m) = true := by decide +kernel
theorem wf_lt {m : Nat} {l : List Nat} (h : wfL m l = true) {i : Nat} (hi : i < m) : gL l i < m := by
  unfold wfL at h
  rw [List.all_eq_true] at h
  have := h i (List.mem_range.mpr hi)
  rw [Bool.and_eq_true] at this
  exact of_decide_eq_true this.1
theorem wf_ne {m : Nat} {l : List Nat} (h : wfL m l = true) {i j : Nat} (hi : i < m) (hj : j < m) (hij : i ≠ j) : gL l i ≠ gL l j := by
  unfold wfL at h
  rw [List.all_eq_true] at h
  have := h i (List.mem_range.mpr hi)
  rw [Bool.and_eq_true, List.all_eq_true] at this
  have h2 := this.2 j (List.mem_range.mpr hj)
  rw [Bool.or_eq_true, decide_eq_true_eq, Bool.not_eq_true', decide_eq_false_iff_not] at h2
  exact h2.resolve_left hij
theorem gL_map {m : Nat} {f : Nat → Nat} {k : Nat} (hk : k < m) : gL ((List.range m).map f) k = f k := by
  unfold gL
  simp [List.getD, hk]
theorem ascR_s {l : Nat → Nat} : ∀ (k i : Nat), ascR l k = some i → i < k ∧ l i < l (i + 1) := by
  intro k
  induction k with
  | zero => intro i h; cases h
  | succ k ih =>
    intro i h
    unfold ascR at h
    by_cases c : l k < l (k + 1)
    · rw [if_pos c] at h
      injection h with h
      subst h
      exact ⟨Nat.lt_succ_self _, c⟩
    · rw [if_neg c] at h
      have := ih i h
      exact ⟨by omega, this.2⟩
theorem gtR_s {l : Nat → Nat} {i k0 : Nat} (h0 : l i < l k0) : ∀ k, k0 < k → k0 ≤ gtR l i k ∧ gtR l i k < k ∧ l i < l (gtR l i k) := by
  intro k
  induction k with
  | zero => intro h; omega
  | succ k ih =>
    intro h
    unfold gtR
    by_cases c : l i < l k
    · rw [if_pos c]
      exact ⟨by omega, by omega, c⟩
    · rw [if_neg c]
      have hk : k0 < k := by
        rcases Nat.eq_or_lt_of_le (Nat.le_of_lt_succ h) with e | e
        · rw [← e] at c; exact absurd h0 c
        · exact e
      have := ih hk
      exact ⟨this.1, by omega, this.2.2⟩
/-- an order in an array of six -/
abbrev ord (o m : Nat) (l : Nat → Nat) (A : St) : Prop := ∀ k, k < m → (A.1 o k).toInt = l k
def cd (x : Option Nat) : Int := match x with
  | none => -1
  | some i => i
theorem na1_s (n : Nat) {K : Int32 → Int32 → St → Option (Int32 × St)} {m : Nat} {mm : Int32} {l : Nat → Nat} {A : St} (hm : mm.toInt = m) (h6 : m ≤ 6) (hA : ord 79 m l A) : ∀ (w j k : Nat) (v p : Int32), v.toInt = k → k + j = m → j < w → p.toInt = cd (ascR l k) → (k = 0 ∨ k < m) → ∃ p', gro_nextOrder_L4 n K w mm p v A = K mm p' A ∧ p'.toInt = cd (ascR l (m - 1)) := by
  intro w
  induction w with
  | zero => intro j k v p h1 h2 h3; omega
  | succ w ih =>
    intro j k v p h1 h2 h3 h4 h5
    show ∃ p', gro_nextOrder_L4_B n K (gro_nextOrder_L4 n K w) mm p v A = K mm p' A ∧ _
    unfold gro_nextOrder_L4_B
    have e1 := inc h1 (by omega)
    by_cases c : k + 1 < m
    · have i0 : inB v 6 = true := by rw [inB_iff]; omega
      have i1 : inB (v + 1) 6 = true := by rw [inB_iff]; omega
      rw [if_pos (by rw [ltk]; omega), if_pos i0, if_pos i1, nxk h1, nxk e1]
      have a0 := hA k (by omega)
      have a1 := hA (k + 1) (by omega)
      by_cases c2 : l k < l (k + 1)
      · rw [if_pos (by rw [ltk]; omega)]
        exact ih (j - 1) (k + 1) (v + 1) v e1 (by omega) (by omega) (by
          show _ = cd (if l k < l (k + 1) then some k else ascR l k)
          rw [if_pos c2]; exact h1) (by omega)
      · rw [if_neg (by rw [ltk]; omega)]
        exact ih (j - 1) (k + 1) (v + 1) p e1 (by omega) (by omega) (by
          show _ = cd (if l k < l (k + 1) then some k else ascR l k)
          rw [if_neg c2]; exact h4) (by omega)
    · rw [if_neg (by rw [ltk]; omega)]
      refine ⟨p, rfl, ?_⟩
      rw [h4]
      rcases h5 with h | h
      · rw [h, show m - 1 = 0 by omega]
      · rw [show m - 1 = k by omega]
theorem na2_s (n : Nat) {K : Int32 → Int32 → Int32 → St → Option (Int32 × St)} {m i : Nat} {mm vi : Int32} {l : Nat → Nat} {A : St} (hm : mm.toInt = m) (h6 : m ≤ 6) (hA : ord 79 m l A) (hi : vi.toInt = i) (him : i + 1 < m) (has : l i < l (i + 1)) : ∀ (w j k : Nat) (v p : Int32), v.toInt = k → k + j = m → j < w → i + 1 ≤ k → (k = i + 1 → p = v) → (i + 1 < k → p.toInt = gtR l i k) → ∃ p', gro_nextOrder_L51 n K w mm vi p v A = K mm vi p' A ∧ p'.toInt = gtR l i m := by
  intro w
  induction w with
  | zero => intro j k v p h1 h2 h3; omega
  | succ w ih =>
    intro j k v p h1 h2 h3 h4 h5 h6'
    show ∃ p', gro_nextOrder_L51_B n K (gro_nextOrder_L51 n K w) mm vi p v A = K mm vi p' A ∧ _
    unfold gro_nextOrder_L51_B
    have e1 := inc h1 (by omega)
    cases j with
    | zero =>
      rw [if_neg (by rw [ltk]; omega)]
      have ek : k = m := by omega
      subst ek
      exact ⟨p, rfl, h6' (by omega)⟩
    | succ j =>
      have i0 : inB v 6 = true := by rw [inB_iff]; omega
      have i1 : inB vi 6 = true := by rw [inB_iff]; omega
      rw [if_pos (by rw [ltk]; omega), if_pos i0, if_pos i1, nxk h1, nxk hi]
      have a0 := hA k (by omega)
      have a1 := hA i (by omega)
      by_cases c2 : l i < l k
      · rw [if_pos (by rw [ltk]; omega)]
        exact ih j (k + 1) (v + 1) v e1 (by omega) (by omega) (by omega) (fun h => by omega) (fun _ => by
          show _ = ((if l i < l k then k else gtR l i k : Nat) : Int)
          rw [if_pos c2]; exact h1)
      · rw [if_neg (by rw [ltk]; omega)]
        have hk : i + 1 < k := by
          rcases Nat.eq_or_lt_of_le h4 with e | e
          · rw [← e] at c2; exact absurd has c2
          · exact e
        exact ih j (k + 1) (v + 1) p e1 (by omega) (by omega) (by omega) (fun h => by omega) (fun _ => by
          show _ = ((if l i < l k then k else gtR l i k : Nat) : Int)
          rw [if_neg c2]; exact h6' hk)
theorem swp_s {A : St} {v u : Int32} {i j : Nat} (hv : v.toInt = i) (hu : u.toInt = j) (hi : i < 6) (hj : j < 6) : gro_swap v u A = some (stI (stI A 79 i (A.1 79 j)) 79 j (A.1 79 i)) := by
  unfold gro_swap
  rw [if_pos (by rw [inB_iff]; omega), if_pos (by rw [inB_iff]; omega), if_pos (by rw [inB_iff]; omega), if_pos (by rw [inB_iff]; omega), nxk hv, nxk hu]
  rfl
theorem exc_s {A : St} {v u : Int32} {i j : Nat} (hv : v.toInt = i) (hu : u.toInt = j) (hi : i < 6) (hj : j < 6) : mo_exchange v u A = some (stI (stI A 137 i (A.1 137 j)) 137 j (A.1 137 i)) := by
  unfold mo_exchange
  rw [if_pos (by rw [inB_iff]; omega), if_pos (by rw [inB_iff]; omega), if_pos (by rw [inB_iff]; omega), if_pos (by rw [inB_iff]; omega), nxk hv, nxk hu]
  rfl
theorem na3_s (n : Nat) : ∀ (w a b : Nat) (x y : Int32) (A : St), y.toInt = a → x.toInt = b → b < 6 → a ≤ b + 1 → b + 1 < 2 * w + a → ∃ A', gro_nextOrder_L98 n w x y A = some (1, A') ∧ A'.2 = A.2 ∧ ∀ o k, A'.1 o k = if o = 79 ∧ a ≤ k ∧ k ≤ b then A.1 79 (a + b - k) else A.1 o k := by
  intro w
  induction w with
  | zero => intro a b x y A h1 h2 h3 h4 h5; omega
  | succ w ih =>
    intro a b x y A h1 h2 h3 h4 h5
    show ∃ A', gro_nextOrder_L98_B n (gro_nextOrder_L98 n w) x y A = some (1, A') ∧ _
    unfold gro_nextOrder_L98_B
    by_cases c : a < b
    · rw [if_pos (by rw [ltk]; omega), swp_s h1 h2 (by omega) h3, Option.bind_some]
      obtain ⟨A', r1, r2, r3⟩ := ih (a + 1) (b - 1) (x + -1) (y + 1) (stI (stI A 79 a (A.1 79 b)) 79 b (A.1 79 a)) (inc h1 (by omega)) (by rw [ti_add] <;> rw [ti_m1] <;> omega) (by omega) (by omega) (by omega)
      refine ⟨A', r1, r2, fun o k => ?_⟩
      rw [r3]
      by_cases d : o = 79 ∧ a ≤ k ∧ k ≤ b
      · rw [if_pos d]
        by_cases d1 : k = a
        · rw [if_neg (by omega), stI_at, if_neg (by omega), stI_at, if_pos (by omega), show a + b - k = b by omega]
        · by_cases d2 : k = b
          · rw [if_neg (by omega), stI_at, if_pos (by omega), show a + b - k = a by omega]
          · rw [if_pos (by omega), stI_at, if_neg (by omega), stI_at, if_neg (by omega), show a + 1 + (b - 1) - k = a + b - k by omega]
      · rw [if_neg d, if_neg (by omega), stI_at, if_neg (by omega), stI_at, if_neg (by omega)]
    · rw [if_neg (by rw [ltk]; omega)]
      refine ⟨A, rfl, rfl, fun o k => ?_⟩
      by_cases d : o = 79 ∧ a ≤ k ∧ k ≤ b
      · rw [if_pos d, d.1, show a + b - k = k by omega]
      · rw [if_neg d]
theorem nb3_s (n : Nat) : ∀ (w a b : Nat) (x y : Int32) (A : St), y.toInt = a → x.toInt = b → b < 6 → a ≤ b + 1 → b + 1 < 2 * w + a → ∃ A', mo_nextOrder_L86 n w y x A = some (1, A') ∧ A'.2 = A.2 ∧ ∀ o k, A'.1 o k = if o = 137 ∧ a ≤ k ∧ k ≤ b then A.1 137 (a + b - k) else A.1 o k := by
  intro w
  induction w with
  | zero => intro a b x y A h1 h2 h3 h4 h5; omega
  | succ w ih =>
    intro a b x y A h1 h2 h3 h4 h5
    show ∃ A', mo_nextOrder_L86_B n (mo_nextOrder_L86 n w) y x A = some (1, A') ∧ _
    unfold mo_nextOrder_L86_B
    by_cases c : a < b
    · rw [if_pos (by rw [ltk]; omega), exc_s h1 h2 (by omega) h3, Option.bind_some]
      obtain ⟨A', r1, r2, r3⟩ := ih (a + 1) (b - 1) (x + -1) (y + 1) (stI (stI A 137 a (A.1 137 b)) 137 b (A.1 137 a)) (inc h1 (by omega)) (by rw [ti_add] <;> rw [ti_m1] <;> omega) (by omega) (by omega) (by omega)
      refine ⟨A', r1, r2, fun o k => ?_⟩
      rw [r3]
      by_cases d : o = 137 ∧ a ≤ k ∧ k ≤ b
      · rw [if_pos d]
        by_cases d1 : k = a
        · rw [if_neg (by omega), stI_at, if_neg (by omega), stI_at, if_pos (by omega), show a + b - k = b by omega]
        · by_cases d2 : k = b
          · rw [if_neg (by omega), stI_at, if_pos (by omega), show a + b - k = a by omega]
          · rw [if_pos (by omega), stI_at, if_neg (by omega), stI_at, if_neg (by omega), show a + 1 + (b - 1) - k = a + b - k by omega]
      · rw [if_neg d, if_neg (by omega), stI_at, if_neg (by omega), stI_at, if_neg (by omega)]
    · rw [if_neg (by rw [ltk]; omega)]
      refine ⟨A, rfl, rfl, fun o k => ?_⟩
      by_cases d : o = 137 ∧ a ≤ k ∧ k ≤ b
      · rw [if_pos d, d.1, show a + b - k = k by omega]
      · rw [if_neg d]
/-- the class goes to the next order -/
theorem nxC_s {n : Nat} (hn : 4096 ≤ n) {m : Nat} {mm : Int32} {l : Nat → Nat} {A : St} (hm : mm.toInt = m) (h6 : m ≤ 6) (hA : ord 79 m l A) : match ascR l (m - 1) with
    | none => gro_nextOrder n mm A = some (0, A)
    | some i => ∃ A', gro_nextOrder n mm A = some (1, A') ∧ A'.2 = A.2 ∧ (∀ o k, o ≠ 79 → A'.1 o k = A.1 o k) ∧ ord 79 m (nxA m i (gtR l i m) l) A' := by
  unfold gro_nextOrder
  obtain ⟨p, p1, p2⟩ := na1_s n (K := fun v2 v3 X1 =>
    (if v3 < 0 then
    (some ((0 : Int32), X1))
    else
    (gro_nextOrder_L51 n (fun v5 v6 v7 X4 =>
    ((gro_swap v6 v7 X4).bind fun X8 =>
    (gro_nextOrder_L98 n n (v5 - (1 : Int32)) (v6 + (1 : Int32)) X8))) n v2 v3 (v3 + (1 : Int32)) (v3 + (1 : Int32)) X1))) hm h6 hA n m 0 0 (-1) ti0 (by omega) (by omega) ti_m1 (Or.inl rfl)
  rw [p1]
  cases hc : ascR l (m - 1) with
  | none =>
    rw [hc] at p2
    show (if p < 0 then _ else _) = _
    rw [if_pos (by rw [ltk, p2]; decide)]
  | some i =>
    rw [hc] at p2
    have p3 : p.toInt = i := p2
    obtain ⟨q1, q2⟩ := ascR_s _ i hc
    have ei := inc p3 (by omega)
    obtain ⟨u, u1, u2⟩ := na2_s n (K := fun v5 v6 v7 X4 =>
      ((gro_swap v6 v7 X4).bind fun X8 =>
      (gro_nextOrder_L98 n n (v5 - (1 : Int32)) (v6 + (1 : Int32)) X8))) hm h6 hA p3 (by omega) q2 n (m - (i + 1)) (i + 1) (p + 1) (p + 1) ei (by omega) (by omega) (Nat.le_refl _) (fun _ => rfl) (fun h => by omega)
    obtain ⟨g1, g2, g3⟩ := gtR_s q2 m (by omega)
    show ∃ A', (if p < 0 then _ else _) = some (1, A') ∧ _
    rw [if_neg (by rw [ltk, ti0]; omega), u1]
    rw [swp_s p3 u2 (by omega) (by omega), Option.bind_some]
    obtain ⟨A', r1, r2, r3⟩ := na3_s n n (i + 1) (m - 1) (mm - 1) (p + 1) (stI (stI A 79 i (A.1 79 (gtR l i m))) 79 (gtR l i m) (A.1 79 i)) ei (by rw [ti_sub] <;> rw [ti1] <;> omega) (by omega) (by omega) (by omega)
    refine ⟨A', r1, r2, fun o k ho => ?_, fun k hk => ?_⟩
    · rw [r3, if_neg (by omega), stI_at, if_neg (by omega), stI_at, if_neg (by omega)]
    · rw [r3]
      unfold nxA
      by_cases c1 : k < i
      · rw [if_pos c1, if_neg (by omega), stI_at, if_neg (by omega), stI_at, if_neg (by omega)]
        exact hA k hk
      · rw [if_neg c1]
        by_cases c2 : k = i
        · rw [if_pos c2, if_neg (by omega), stI_at, if_neg (by omega), stI_at, if_pos (by omega)]
          exact hA _ (by omega)
        · rw [if_neg c2, if_pos (by omega), show i + 1 + (m - 1) - k = m + i - k by omega, stI_at]
          by_cases c3 : m + i - k = gtR l i m
          · rw [if_pos c3, if_pos ⟨rfl, c3⟩]
            exact hA i (by omega)
          · rw [if_neg c3, if_neg (fun h => c3 h.2), stI_at, if_neg (by omega)]
            exact hA _ (by omega)
theorem nb1_s (n : Nat) {K : Int32 → St → Option (Int32 × St)} {m : Nat} {l : Nat → Nat} {A : St} (h6 : m ≤ 6) (hA : ord 137 m l A) (hd : ∀ i j, i < m → j < m → i ≠ j → l i ≠ l j) : ∀ (w k : Nat) (v : Int32), v.toInt = (k : Int) - 1 → k < w → k + 1 ≤ m → ∃ p', mo_nextOrder_L7 n K w v A = K p' A ∧ p'.toInt = cd (ascR l k) := by
  intro w
  induction w with
  | zero => intro k v h1 h2; omega
  | succ w ih =>
    intro k v h1 h2 h3
    show ∃ p', mo_nextOrder_L7_B n K (mo_nextOrder_L7 n K w) v A = K p' A ∧ _
    unfold mo_nextOrder_L7_B
    cases k with
    | zero =>
      rw [if_pos (by rw [ltk, ti0]; omega)]
      exact ⟨v, rfl, h1⟩
    | succ k =>
      have h1' : v.toInt = k := by omega
      have e1 := inc h1' (by omega)
      have i0 : inB v 6 = true := by rw [inB_iff]; omega
      have i1 : inB (v + 1) 6 = true := by rw [inB_iff]; omega
      rw [if_neg (by rw [ltk, ti0]; omega), if_pos i0, if_pos i1, nxk h1', nxk e1]
      have a0 := hA k (by omega)
      have a1 := hA (k + 1) (by omega)
      have ne := hd k (k + 1) (by omega) (by omega) (by omega)
      unfold ascR
      by_cases c : l k < l (k + 1)
      · rw [if_pos c, if_neg (by rw [ltk]; omega)]
        exact ⟨v, rfl, h1'⟩
      · rw [if_neg c, if_pos (by rw [ltk]; omega)]
        exact ih k (v + -1) (by rw [ti_add] <;> rw [ti_m1] <;> omega) (by omega) (by omega)
theorem nb2_s (n : Nat) {K : Int32 → Int32 → St → Option (Int32 × St)} {m i : Nat} {vi : Int32} {l : Nat → Nat} {A : St} (h6 : m ≤ 6) (hA : ord 137 m l A) (hd : ∀ i j, i < m → j < m → i ≠ j → l i ≠ l j) (hi : vi.toInt = i) (has : l i < l (i + 1)) : ∀ (w k : Nat) (v : Int32), v.toInt = (k : Int) - 1 → k < w → i + 1 < k → k ≤ m → ∃ p', mo_nextOrder_L47 n K w vi v A = K vi p' A ∧ p'.toInt = gtR l i k := by
  intro w
  induction w with
  | zero => intro k v h1 h2; omega
  | succ w ih =>
    intro k v h1 h2 h3 h4
    show ∃ p', mo_nextOrder_L47_B n K (mo_nextOrder_L47 n K w) vi v A = K vi p' A ∧ _
    unfold mo_nextOrder_L47_B
    cases k with
    | zero => omega
    | succ k =>
      have h1' : v.toInt = k := by omega
      have i0 : inB v 6 = true := by rw [inB_iff]; omega
      have i1 : inB vi 6 = true := by rw [inB_iff]; omega
      rw [if_pos i0, if_pos i1, nxk h1', nxk hi]
      have a0 := hA k (by omega)
      have a1 := hA i (by omega)
      have ne := hd k i (by omega) (by omega) (by omega)
      unfold gtR
      by_cases c : l i < l k
      · rw [if_pos c, if_neg (by rw [ltk]; omega)]
        exact ⟨v, rfl, h1'⟩
      · rw [if_neg c, if_pos (by rw [ltk]; omega)]
        have hk : i + 1 < k := by
          rcases Nat.eq_or_lt_of_le (Nat.le_of_lt_succ h3) with e | e
          · rw [← e] at c; exact absurd has c
          · exact e
        exact ih k (v + -1) (by rw [ti_add] <;> rw [ti_m1] <;> omega) (by omega) hk (by omega)
/-- the model goes to the next order -/
theorem nxM_s {n : Nat} (hn : 4096 ≤ n) {m : Nat} {l : Nat → Nat} {B : St} (hm : (B.1 102 0).toInt = m) (h6 : m ≤ 6) (hA : ord 137 m l B) (hd : ∀ i j, i < m → j < m → i ≠ j → l i ≠ l j) : match ascR l (m - 1) with
    | none => mo_nextOrder n B = some (0, B)
    | some i => ∃ B', mo_nextOrder n B = some (1, B') ∧ B'.2 = B.2 ∧ (∀ o k, o ≠ 137 → B'.1 o k = B.1 o k) ∧ ord 137 m (nxA m i (gtR l i m) l) B' := by
  unfold mo_nextOrder
  have e2 : (2 : Int32).toInt = 2 := by decide
  by_cases h0 : m = 0
  · subst h0
    show mo_nextOrder_L7 n _ n (B.1 102 0 - 2) B = some (0, B)
    obtain ⟨N, rfl⟩ : ∃ N, n = N + 1 := ⟨n - 1, by omega⟩
    show mo_nextOrder_L7_B (N + 1) _ _ (B.1 102 0 - 2) B = some (0, B)
    unfold mo_nextOrder_L7_B
    have e : (B.1 102 0 - 2).toInt = -2 := by rw [ti_sub] <;> rw [e2] <;> omega
    rw [if_pos (by rw [ltk, e]; decide)]
    unfold mo_nextOrder_J34
    dsimp only
    rw [if_pos (by rw [ltk, e]; decide)]
  · obtain ⟨p, p1, p2⟩ := nb1_s n (K := fun v2 X1 => (mo_nextOrder_J34 n v2 X1)) h6 hA hd n (m - 1) (B.1 102 0 - 2) (by rw [ti_sub] <;> rw [e2] <;> omega) (by omega) (by omega)
    rw [p1]
    unfold mo_nextOrder_J34
    cases hc : ascR l (m - 1) with
    | none =>
      rw [hc] at p2
      show (if p < 0 then _ else _) = _
      rw [if_pos (by rw [ltk, p2]; decide)]
    | some i =>
      rw [hc] at p2
      have p3 : p.toInt = i := p2
      obtain ⟨q1, q2⟩ := ascR_s _ i hc
      have ei := inc p3 (by omega)
      obtain ⟨u, u1, u2⟩ := nb2_s n (K := fun v4 v5 X3 =>
        ((mo_exchange v4 v5 X3).bind fun X6 =>
        (mo_nextOrder_L86 n n (v4 + (1 : Int32)) ((X6.1 102 0) - (1 : Int32)) X6))) h6 hA hd p3 q2 n m (B.1 102 0 - 1) (by rw [ti_sub] <;> rw [ti1] <;> omega) (by omega) (by omega) (Nat.le_refl _)
      obtain ⟨g1, g2, g3⟩ := gtR_s q2 m (by omega)
      show ∃ A', (if p < 0 then _ else _) = some (1, A') ∧ _
      rw [if_neg (by rw [ltk, ti0]; omega), u1]
      rw [exc_s p3 u2 (by omega) (by omega), Option.bind_some]
      obtain ⟨A', r1, r2, r3⟩ := nb3_s n n (i + 1) (m - 1) ((stI (stI B 137 i (B.1 137 (gtR l i m))) 137 (gtR l i m) (B.1 137 i)).1 102 0 - 1) (p + 1) (stI (stI B 137 i (B.1 137 (gtR l i m))) 137 (gtR l i m) (B.1 137 i)) ei (by rw [stI_at, if_neg (by omega), stI_at, if_neg (by omega), ti_sub] <;> rw [ti1] <;> omega) (by omega) (by omega) (by omega)
      refine ⟨A', r1, r2, fun o k ho => ?_, fun k hk => ?_⟩
      · rw [r3, if_neg (by omega), stI_at, if_neg (by omega), stI_at, if_neg (by omega)]
      · rw [r3]
        unfold nxA
        by_cases c1 : k < i
        · rw [if_pos c1, if_neg (by omega), stI_at, if_neg (by omega), stI_at, if_neg (by omega)]
          exact hA k hk
        · rw [if_neg c1]
          by_cases c2 : k = i
          · rw [if_pos c2, if_neg (by omega), stI_at, if_neg (by omega), stI_at, if_pos (by omega)]
            exact hA _ (by omega)
          · rw [if_neg c2, if_pos (by omega), show i + 1 + (m - 1) - k = m + i - k by omega, stI_at]
            by_cases c3 : m + i - k = gtR l i m
            · rw [if_pos c3, if_pos ⟨rfl, c3⟩]
              exact hA i (by omega)
            · rw [if_neg c3, if_neg (fun h => c3 h.2), stI_at, if_neg (by omega)]
              exact hA _ (by omega)
