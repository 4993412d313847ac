/-! the fewest: the class's walk, the model's search -/
theorem from_2 {A : St} {t s : Nat} {v x : Int32} (hv : v.toInt = t) (ht : t < 17) (hx : x.toInt = s) (hs : s < 170) : few_from v x A = some (A.1 (59 + t) s) := by
  have e170 : (170 : Int32).toInt = 170 := by decide
  have e16 : (16 : Int32).toInt = 16 := by decide
  unfold few_from
  rw [if_neg (by rw [ltk, ti0]; omega), if_pos (by rw [ltk, e170]; omega), if_neg (by rw [ltk, ti0]; omega), if_neg (by rw [ltk, e16]; omega), if_pos (by rw [inB_iff]; omega), nxk hv, if_pos (okI_few ht (by omega) (by omega)), nxk hx]
theorem wk_s (n : Nat) {fm to v2 : Int32} {c K : Nat} {f : Nat → Int32} {dl : Nat → Int32 → Option Nat} {acs : Int32 → Prop} (hc : c ≤ 16) (hf : ∀ i, i < c → acs (f i)) (hto : acs to) (h2 : v2.toInt = c) (hK : K ≤ 10) : ∀ (r w t i k s : Nat) (v5 v6 v7 : Int32) (A : St), v7.toInt = t → t + r = c → r < w → v6.toInt = i → i + k = K → v5.toInt = s → s < 170 → k = fF c f fm to dl r s → Few c f dl acs A → (A.1 57 7).toInt = K → (∀ j s, j ≤ c → s < 170 → A.1 (59 + j) s = Int32.ofNat (fF c f fm to dl (c - j) s)) → ∃ A', few_walk_L9 n w v2 fm to v5 v6 v7 A = some A' ∧ A'.2 = A.2 ∧ (∀ o j, o ≠ 76 → A'.1 o j = A.1 o j) ∧ (∀ j, j < i → A'.1 76 j = A.1 76 j) ∧ ∀ j, i ≤ j → j < K → A'.1 76 j = Int32.ofNat ((sol c f fm to dl r (some s) k).getD (j - i) 0) := by
  intro r
  induction r with
  | zero =>
    intro w t i k s v5 v6 v7 A h1 h2' h3 h4 h5 h6 h7 h8 hA h57 hT
    obtain ⟨W, rfl⟩ : ∃ W, w = W + 1 := ⟨w - 1, by omega⟩
    have hk : k = 0 := h8
    refine ⟨A, ?_, rfl, fun _ _ _ => rfl, fun _ _ => rfl, fun j j1 j2 => by omega⟩
    show few_walk_L9_B n (few_walk_L9 n W) v2 fm to v5 v6 v7 A = _
    unfold few_walk_L9_B
    rw [if_neg (by rw [ltk]; omega)]
  | succ r ih =>
    intro w t i k s v5 v6 v7 A h1 h2' h3 h4 h5 h6 h7 h8 hA h57 hT
    obtain ⟨W, rfl⟩ : ∃ W, w = W + 1 := ⟨w - 1, by omega⟩
    show ∃ A', few_walk_L9_B n (few_walk_L9 n W) v2 fm to v5 v6 v7 A = some A' ∧ _
    unfold few_walk_L9_B
    have ec : c - (r + 1) = t := by omega
    rw [if_pos (by rw [ltk]; omega)]
    by_cases k0 : k = 0
    · rw [if_neg (by rw [ltk]; omega)]
      exact ⟨A, rfl, rfl, fun _ _ _ => rfl, fun _ _ => rfl, fun j j1 j2 => by omega⟩
    · have FF := fF_s c f fm to dl r s
      rw [ec] at FF
      obtain ⟨x, x1, x2⟩ := hA.2.2 v5 (f t) s h6 h7 (hf t (by omega))
      obtain ⟨y, y1, y2⟩ := hA.2.2 v5 to s h6 h7 hto
      have act : rou_actAt v7 A = some (f t) := by rw [actAt_s hA.1 (by omega) h1 (by omega), hA.2.1 t (by omega)]
      have s7 := inc h1 (by omega)
      have SS : sol c f fm to dl (r + 1) (some s) k = if k = 0 then [] else if f t = fm ∧ exB c f fm to dl r (dl s to) (k - 1) = true then t :: sol c f fm to dl r (dl s to) (k - 1) else sol c f fm to dl r (dl s (f t)) k := by
        show (if k = 0 then [] else if f (c - (r + 1)) = fm ∧ exB c f fm to dl r (dl s to) (k - 1) = true then (c - (r + 1)) :: sol c f fm to dl r (dl s to) (k - 1) else sol c f fm to dl r (dl s (f (c - (r + 1)))) k) = _
        rw [ec]
      rw [if_neg k0] at SS
      have vle : ∀ (so : Option Nat) (j : Nat), j < 1000 → exB c f fm to dl r so j = true → val c f fm to dl r so ≤ j := by
        intro so j hj h
        cases so with
        | none => rw [exB_no] at h; cases h
        | some s' => exact exB_le c f fm to dl r s' j hj h
      -- no change here
      have skip : ¬ (f t = fm ∧ 1 + val c f fm to dl r (dl s to) = k) → ∃ A', few_walk_J86 n (few_walk_L9 n W) v2 fm to v5 v6 v7 A = some A' ∧ A'.2 = A.2 ∧ (∀ o j, o ≠ 76 → A'.1 o j = A.1 o j) ∧ (∀ j, j < i → A'.1 76 j = A.1 76 j) ∧ ∀ j, i ≤ j → j < K → A'.1 76 j = Int32.ofNat ((sol c f fm to dl (r + 1) (some s) k).getD (j - i) 0) := by
        intro hn
        have hk : k = val c f fm to dl r (dl s (f t)) := by
          by_cases e : f t = fm
          · rw [if_pos e] at FF
            have : ¬ 1 + val c f fm to dl r (dl s to) = k := fun z => hn ⟨e, z⟩
            omega
          · rw [if_neg e] at FF; omega
        have hs : sol c f fm to dl (r + 1) (some s) k = sol c f fm to dl r (dl s (f t)) k := by
          rw [SS, if_neg]
          rintro ⟨e1, e2⟩
          have := vle _ _ (by omega) e2
          rw [if_pos e1] at FF
          exact hn ⟨e1, by omega⟩
        rw [hs]
        unfold few_walk_J86
        rw [act, Option.bind_some, x1, Option.bind_some]
        cases hd : dl s (f t) with
        | none =>
          rw [hd] at hk
          have : k = 1000 := hk
          omega
        | some s' =>
          rw [hd] at hk
          obtain ⟨q1, q2⟩ := x2.1 s' hd
          exact ih W (t + 1) i k s' x v6 (v7 + 1) A s7 (by omega) (by omega) h4 h5 (by rw [q1, ti_ofNat (by omega)]) q2 hk hA h57 hT
      rw [if_pos (by rw [ltk]; omega), y1, Option.bind_some, act, Option.bind_some]
      by_cases c1 : f t = fm
      · rw [if_pos c1]
        have fy := from_s (A := A) s7 (by omega) y2
        have V2 := val_1000 c f fm to dl r (dl s to)
        have vy : tbv A (t + 1) (dl s to) = Int32.ofNat (val c f fm to dl r (dl s to)) := by
          cases hd : dl s to with
          | none => show (1000 : Int32) = Int32.ofNat 1000; decide
          | some s' =>
            show A.1 (59 + (t + 1)) s' = Int32.ofNat (fF c f fm to dl r s')
            rw [hT (t + 1) s' (by omega) (y2.1 s' hd).2, show c - (t + 1) = r by omega]
        rw [vy] at fy
        have f7 := from_2 (A := A) h1 (by omega) h6 h7
        rw [hT t s (by omega) h7, show c - t = r + 1 by omega, ← h8] at f7
        rw [fy, Option.bind_some, f7, Option.bind_some]
        have e1 : ((1 : Int32) + Int32.ofNat (val c f fm to dl r (dl s to))).toInt = ((1 + val c f fm to dl r (dl s to) : Nat) : Int) := by
          rw [ti_add, ti1, ti_ofNat (by omega)] <;> (try rw [ti1, ti_ofNat (by omega)]) <;> omega
        by_cases c2 : 1 + val c f fm to dl r (dl s to) = k
        · rw [if_pos (by rw [ti_eq, e1, ti_ofNat (by omega), c2]), if_pos (by rw [inB_iff]; omega), nxk h4]
          cases hd : dl s to with
          | none =>
            rw [hd] at c2
            have : 1 + 1000 = k := c2
            omega
          | some s' =>
            rw [hd] at c2 SS
            obtain ⟨q1, q2⟩ := y2.1 s' hd
            have hk' : k - 1 = fF c f fm to dl r s' := by
              have : 1 + fF c f fm to dl r s' = k := c2
              omega
            have ex : exB c f fm to dl r (some s') (k - 1) = true := by
              rw [hk']
              exact exB_at c f fm to dl r s' (by omega)
            rw [if_pos ⟨c1, ex⟩] at SS
            obtain ⟨A', r1, r2, r3, r4, r5⟩ := ih W (t + 1) (i + 1) (k - 1) s' y (v6 + 1) (v7 + 1) (stI A 76 i v7) s7 (by omega) (by omega) (inc h4 (by omega)) (by omega) (by rw [q1, ti_ofNat (by omega)]) q2 hk' (hA.cg (fun o j ho => by rw [stI_at, if_neg (fun z => ho (Or.inr (Or.inl z.1)))])) (by rw [stI_at, if_neg (by omega)]; exact h57) (fun j s hj hs => by rw [stI_at, if_neg (by omega)]; exact hT j s hj hs)
            refine ⟨A', r1, r2, fun o j ho => by rw [r3 o j ho, stI_at, if_neg (by omega)], fun j hj => by rw [r4 j (by omega), stI_at, if_neg (by omega)], fun j j1 j2 => ?_⟩
            rw [SS]
            by_cases e : j = i
            · rw [e, r4 i (by omega), stI_self, Nat.sub_self]
              exact ofk h1
            · rw [r5 j (by omega) j2, show j - i = (j - (i + 1)) + 1 by omega]
              rfl
        · rw [if_neg (fun e => c2 (by
            have := congrArg Int32.toInt e
            rw [e1, ti_ofNat (by omega)] at this
            omega))]
          exact skip (fun z => c2 z.2)
      · rw [if_neg c1]
        exact skip (fun z => c1 z.1)
/-- the class has its answer -/
theorem cho_s {n : Nat} (hn : 4096 ≤ n) {fm to : Int32} {c : Nat} {f : Nat → Int32} {dl : Nat → Int32 → Option Nat} {acs : Int32 → Prop} {A : St} (hc : c ≤ 16) (hf : ∀ i, i < c → acs (f i)) (hto : acs to) (hA : Few c f dl acs A) : ∃ A', few_choose n fm to A = some A' ∧ A'.1 57 7 = Int32.ofNat (fF c f fm to dl c 0) ∧ (fF c f fm to dl c 0 ≤ 10 → ∀ j, j < fF c f fm to dl c 0 → A'.1 76 j = Int32.ofNat ((sol c f fm to dl c (some 0) (fF c f fm to dl c 0)).getD j 0)) := by
  have hmin : (jmath_min (rou_counts A) 16).toInt = c := by
    unfold rou_counts
    rw [min_ti, hA.1, show (16 : Int32).toInt = 16 by decide]; omega
  have F1000 := fF_1000 c f fm to dl c 0
  obtain ⟨B, b1, b2, b3⟩ := ch1_s n (K := fun v3 v4 v5 X2 =>
    (few_choose_L45 n (fun v19 v20 v21 X18 =>
    (if (10 : Int32) < ((stI X18 57 7 (X18.1 59 (nx (0 : Int32)))).1 57 7) then
    (some (stI X18 57 7 (X18.1 59 (nx (0 : Int32)))))
    else
    ((few_walk n v21 v19 v20 (stI X18 57 7 (X18.1 59 (nx (0 : Int32))))).bind fun X22 =>
    (some X22)))) n v3 v4 v5 (v5 - (1 : Int32)) X2)) (fm := fm) (to := to) hmin hc n 170 0 0 A ti0 (by omega) (by omega)
  have hB : Few c f dl acs B := hA.cg (fun o i ho => by rw [b3, if_neg (fun z => ho (Or.inl (by omega)))])
  obtain ⟨D, d1, d2, d3, d4⟩ := ch3_s n hn (K := fun v19 v20 v21 X18 =>
    (if (10 : Int32) < ((stI X18 57 7 (X18.1 59 (nx (0 : Int32)))).1 57 7) then
    (some (stI X18 57 7 (X18.1 59 (nx (0 : Int32)))))
    else
    ((few_walk n v21 v19 v20 (stI X18 57 7 (X18.1 59 (nx (0 : Int32))))).bind fun X22 =>
    (some X22)))) (fm := fm) (to := to) (v4 := jmath_min (rou_counts A) 16) hc hf hto c n (jmath_min (rou_counts A) 16 - 1) B (by rw [ti_sub] <;> rw [ti1] <;> omega) (by omega) (Nat.le_refl _) hB (fun j s j1 j2 hs => by
      rw [show j = c by omega, b3, if_pos (by omega), Nat.sub_self]; rfl)
  have d0 : D.1 59 0 = Int32.ofNat (fF c f fm to dl c 0) := d3 0 0 (Nat.zero_le _) (by omega)
  have E : few_choose n fm to A = (if (10 : Int32) < Int32.ofNat (fF c f fm to dl c 0) then (some (stI D 57 7 (Int32.ofNat (fF c f fm to dl c 0)))) else ((few_walk n (jmath_min (rou_counts A) 16) fm to (stI D 57 7 (Int32.ofNat (fF c f fm to dl c 0)))).bind fun X22 => (some X22))) := by
    unfold few_choose
    rw [Option.bind_some, b1, d1]
    rw [show nx (0 : Int32) = 0 by decide, d0, stI_self]
  rw [E]
  have e10 : (10 : Int32).toInt = 10 := by decide
  by_cases h10 : 10 < fF c f fm to dl c 0
  · rw [if_pos (by rw [ltk, e10, ti_ofNat (by omega)]; omega)]
    exact ⟨_, rfl, stI_self, fun h => by omega⟩
  · rw [if_neg (by rw [ltk, e10, ti_ofNat (by omega)]; omega)]
    have hD : Few c f dl acs (stI D 57 7 (Int32.ofNat (fF c f fm to dl c 0))) := hB.cg (fun o i ho => by rw [stI_at, if_neg (fun z => ho (Or.inr (Or.inr z))), d4 o i (fun z => ho (Or.inl z))])
    obtain ⟨A', r1, r2, r3, r4, r5⟩ := wk_s n (fm := fm) (to := to) (v2 := jmath_min (rou_counts A) 16) (K := fF c f fm to dl c 0) hc hf hto hmin (by omega) c n 0 0 (fF c f fm to dl c 0) 0 0 0 0 _ ti0 (by omega) (by omega) ti0 (by omega) ti0 (by omega) rfl hD (by rw [stI_self, ti_ofNat (by omega)]) (fun j s hj hs => by rw [stI_at, if_neg (by omega)]; exact d3 j s hj hs)
    have r1' : few_walk n (jmath_min (rou_counts A) 16) fm to (stI D 57 7 (Int32.ofNat (fF c f fm to dl c 0))) = some A' := r1
    rw [r1']
    exact ⟨A', rfl, by rw [r3 _ _ (by omega), stI_self], fun _ j hj => r5 j (Nat.zero_le _) hj⟩
/-- the states that acts lead through -/
def rnS (dl : Nat → Int32 → Option Nat) (g : Nat → Int32) : Nat → Option Nat
  | 0 => some 0
  | t + 1 => (rnS dl g t).bind fun x => dl x (g t)
theorem rn_cg {dl : Nat → Int32 → Option Nat} {g h : Nat → Int32} : ∀ t, (∀ j, j < t → g j = h j) → rnS dl g t = rnS dl h t := by
  intro t
  induction t with
  | zero => intro _; rfl
  | succ t ih =>
    intro e
    show (rnS dl g t).bind _ = (rnS dl h t).bind _
    rw [ih (fun j hj => e j (by omega)), e t (Nat.lt_succ_self _)]
theorem ex0_s {c : Nat} {f : Nat → Int32} {fm to : Int32} {dl : Nat → Int32 → Option Nat} {g : Nat → Int32} : ∀ (r t : Nat), t + r = c → (∀ j, t ≤ j → j < c → g j = f j) → (exB c f fm to dl r (rnS dl g t) 0 = true ↔ (rnS dl g c).isSome = true) := by
  intro r
  induction r with
  | zero =>
    intro t h1 _
    have : t = c := by omega
    subst this
    show ((rnS dl g t).isSome && decide (0 = 0)) = true ↔ _
    rw [Bool.and_eq_true]
    exact ⟨fun h => h.1, fun h => ⟨h, rfl⟩⟩
  | succ r ih =>
    intro t h1 h2
    have ec : c - (r + 1) = t := by omega
    show (exB c f fm to dl r ((rnS dl g t).bind fun x => dl x (f (c - (r + 1)))) 0 || (decide (f (c - (r + 1)) = fm) && (decide (0 < 0) && exB c f fm to dl r ((rnS dl g t).bind fun x => dl x to) (0 - 1)))) = true ↔ _
    rw [ec, show decide (0 < 0) = false from rfl, Bool.false_and, Bool.and_false, Bool.or_false, ← h2 t (Nat.le_refl _) (by omega)]
    exact ih (t + 1) (by omega) (fun j j1 j2 => h2 j (by omega) j2)
