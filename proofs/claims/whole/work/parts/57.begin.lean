/-! a routine is read; swimmers make ready -/
theorem nxk {v : Int32} {k : Nat} (h : v.toInt = k) : nx v = k := by
  have := nx_ti (x := v) (by omega)
  omega
theorem inc {v : Int32} {k : Nat} (h : v.toInt = k) (hk : k < 2147483647) : (v + 1).toInt = ((k + 1 : Nat) : Int) := by
  rw [ti_add] <;> rw [show (1 : Int32).toInt = 1 by decide] <;> omega
theorem ofk {v : Int32} {k : Nat} (h : v.toInt = k) : v = Int32.ofNat k := by
  have := ti_rng v
  rw [ti_eq, ti_ofNat (by omega), h]
theorem ti0 : (0 : Int32).toInt = 0 := by decide
theorem ti1 : (1 : Int32).toInt = 1 := by decide
theorem ti_m1 : (-1 : Int32).toInt = -1 := by decide
theorem ltk {v w : Int32} : v < w ↔ v.toInt < w.toInt := Int32.lt_iff_toInt_lt
theorem min_ti {x y : Int32} : (jmath_min x y).toInt = min x.toInt y.toInt := by
  unfold jmath_min
  by_cases h : y < x
  · rw [if_pos h]
    rw [ltk] at h
    omega
  · rw [if_neg h]
    rw [ltk] at h
    omega
theorem max_ti {x y : Int32} : (jmath_max x y).toInt = max x.toInt y.toInt := by
  unfold jmath_max
  by_cases h : x < y
  · rw [if_pos h]
    rw [ltk] at h
    omega
  · rw [if_neg h]
    rw [ltk] at h
    omega
/-- another state with the same model in it -/
def Mo (X Y : St) : Prop := Y.2 = X.2 ∧ ∀ o i, 102 ≤ o → Y.1 o i = X.1 o i
theorem Mo.rf {X : St} : Mo X X := ⟨rfl, fun _ _ _ => rfl⟩
abbrev isA (x : Int64) : Prop := 0 ≤ x.toInt ∧ x.toInt ≤ 4
/-- so many of a row's elements from place k on are acts -/
def rcn (f : Nat → Int64) : Nat → Nat → Nat
  | 0, k => k
  | u + 1, k => if isA (f k) then rcn f u (k + 1) else k
theorem rcn_le {f : Nat → Int64} : ∀ (u k : Nat), k ≤ rcn f u k ∧ rcn f u k ≤ k + u := by
  intro u
  induction u with
  | zero => intro k; exact ⟨Nat.le_refl _, by show k ≤ k + 0; omega⟩
  | succ u ih =>
    intro k
    have h := ih (k + 1)
    unfold rcn
    split <;> omega
theorem rcn_act {f : Nat → Int64} : ∀ (u k i : Nat), k ≤ i → i < rcn f u k → isA (f i) := by
  intro u
  induction u with
  | zero => intro k i h1 h2; unfold rcn at h2; omega
  | succ u ih =>
    intro k i h1 h2
    unfold rcn at h2
    by_cases h : isA (f k)
    · rw [if_pos h] at h2
      rcases Nat.eq_or_lt_of_le h1 with e | e
      · rw [← e]; exact h
      · exact ih (k + 1) i e h2
    · rw [if_neg h] at h2; omega
theorem act0 {x : Int64} : rou_isAct x = 0 ↔ ¬ isA x := by
  unfold rou_isAct
  by_cases h1 : lg_cmp x 0 < 0
  · rw [if_pos h1]
    have := lgc_lt.mp h1
    exact ⟨fun _ => by omega, fun _ => rfl⟩
  · rw [if_neg h1]
    rw [lgc_lt] at h1
    by_cases h2 : 0 < lg_cmp x 4
    · rw [if_pos h2]
      have := lgc_gt.mp h2
      rw [show (4 : Int64).toInt = 4 by decide] at this
      exact ⟨fun _ => by omega, fun _ => rfl⟩
    · rw [if_neg h2]
      rw [lgc_gt, show (4 : Int64).toInt = 4 by decide] at h2
      exact ⟨fun h => absurd h (by decide), fun h => absurd h (by omega)⟩
theorem act_i {x : Int64} (h : isA x) : x.toInt32.toInt = x.toInt := by
  rw [Int64.toInt_toInt32, Int.bmod_eq_of_le] <;> omega
theorem take_s (n s : Nat) (hs : s < 6) (z : Int32) : ∀ (w u k : Nat) (v : Int32) (X : St), v.toInt = k → z.toInt = ((k + u : Nat) : Int) → k + u ≤ 60 → u < w → (X.1 24 1).toInt = k → ∃ Y, rou_take_L20 n w (96 + s) z v X = some Y ∧ Y.2 = X.2 ∧ ∀ o i, Y.1 o i = if o = 24 ∧ i = 1 then Int32.ofNat (rcn (X.2 (96 + s)) u k) else if o = 25 ∧ k ≤ i ∧ i < rcn (X.2 (96 + s)) u k then (X.2 (96 + s) i).toInt32 else X.1 o i := by
  intro w
  induction w with
  | zero => intro u k v X h1 h2 h3 h4; omega
  | succ w ih =>
    intro u k v X h1 h2 h3 h4 h5
    show ∃ Y, rou_take_L20_B n (rou_take_L20 n w) (96 + s) z v X = some Y ∧ _
    have en := nxk h1
    cases u with
    | zero =>
      refine ⟨X, ?_, rfl, fun o i => ?_⟩
      · unfold rou_take_L20_B
        rw [if_neg (by rw [ltk]; omega)]
      · unfold rcn
        by_cases c : o = 24 ∧ i = 1
        · rw [if_pos c, c.1, c.2]; exact ofk h5
        · rw [if_neg c, if_neg (by omega)]
    | succ u =>
      have ok : okJ (96 + s) v = true := (okJ_sh hs).mpr (by omega)
      have ib : inB v 60 = true := by rw [inB_iff]; omega
      by_cases ha : isA (X.2 (96 + s) k)
      · obtain ⟨Y, y1, y2, y3⟩ := ih u (k + 1) (v + 1) (stI (stI X 25 k (X.2 (96 + s) k).toInt32) 24 1 (X.1 24 1 + 1)) (inc h1 (by omega)) (by omega) (by omega) (by omega) (by rw [stI_self]; exact inc h5 (by omega))
        refine ⟨Y, ?_, y2, fun o i => ?_⟩
        · rw [← y1]
          unfold rou_take_L20_B
          rw [if_pos (by rw [ltk]; omega), if_pos ok, en, if_neg (fun h => act0.mp h ha), if_pos ok, if_pos ib, Option.bind_some]
          rw [stI_at (o' := 24) (i' := 1) (o := 25), if_neg (by omega)]
        · have hc := rcn_le (f := X.2 (96 + s)) u (k + 1)
          rw [y3]
          have e2 : (stI (stI X 25 k (X.2 (96 + s) k).toInt32) 24 1 (X.1 24 1 + 1)).2 = X.2 := rfl
          have e3 : rcn (X.2 (96 + s)) (u + 1) k = rcn (X.2 (96 + s)) u (k + 1) := by
            show (if isA (X.2 (96 + s) k) then _ else _) = _
            rw [if_pos ha]
          rw [e2, e3]
          by_cases c : o = 24 ∧ i = 1
          · rw [if_pos c, if_pos c]
          · rw [if_neg c, if_neg c]
            by_cases c2 : o = 25 ∧ k + 1 ≤ i ∧ i < rcn (X.2 (96 + s)) u (k + 1)
            · rw [if_pos c2, if_pos (by omega)]
            · rw [if_neg c2, stI_at, if_neg c, stI_at]
              by_cases c3 : o = 25 ∧ i = k
              · rw [if_pos c3, if_pos (by omega), c3.2]
              · rw [if_neg c3, if_neg (by omega)]
      · refine ⟨X, ?_, rfl, fun o i => ?_⟩
        · unfold rou_take_L20_B
          rw [if_pos (by rw [ltk]; omega), if_pos ok, en, if_pos (act0.mpr ha)]
        · have e3 : rcn (X.2 (96 + s)) (u + 1) k = k := by
            show (if isA (X.2 (96 + s) k) then _ else _) = _
            rw [if_neg ha]
          rw [e3]
          by_cases c : o = 24 ∧ i = 1
          · rw [if_pos c, c.1, c.2]; exact ofk h5
          · rw [if_neg c, if_neg (by omega)]
theorem reads_s (n : Nat) (a : Int32) (ha : 0 ≤ a.toInt ∧ a.toInt ≤ 5) (f : Nat → Int64) : ∀ (w u k : Nat) (X : St), (X.1 131 (nx a)).toInt = ((k + u : Nat) : Int) → k + u ≤ 60 → u < w → (X.1 102 44).toInt = k → (∀ i, i < 60 → X.2 132 (60 * nx a + i) = f i) → ∃ Y, mo_reads_L5 n w a X = some Y ∧ Y.2 = X.2 ∧ ∀ o i, Y.1 o i = if o = 102 ∧ i = 44 then Int32.ofNat (rcn f u k) else if o = 133 ∧ k ≤ i ∧ i < rcn f u k then (f i).toInt32 else X.1 o i := by
  intro w
  induction w with
  | zero => intro u k X h2 h3 h4; omega
  | succ w ih =>
    intro u k X h2 h3 h4 h5 hf
    show ∃ Y, mo_reads_L5_B n (mo_reads_L5 n w) a X = some Y ∧ _
    have en := nxk h5
    have ib6 : inB a 6 = true := by rw [inB_iff]; omega
    cases u with
    | zero =>
      refine ⟨X, ?_, rfl, fun o i => ?_⟩
      · unfold mo_reads_L5_B
        rw [if_pos ib6, if_neg (by rw [ltk]; omega)]
      · unfold rcn
        by_cases c : o = 102 ∧ i = 44
        · rw [if_pos c, c.1, c.2]; exact ofk h5
        · rw [if_neg c, if_neg (by omega)]
    | succ u =>
      have ib : inB (X.1 102 44) 60 = true := by rw [inB_iff]; omega
      obtain ⟨x1, x2⟩ := ix60 (a := a) (b := X.1 102 44) ha (by omega)
      have ibi : inB ((60 : Int32) * a + X.1 102 44) 360 = true := by rw [inB_iff]; omega
      have ef := hf k (by omega)
      by_cases hk : isA (f k)
      · obtain ⟨Y, y1, y2, y3⟩ := ih u (k + 1) (stI (stI X 133 k (f k).toInt32) 102 44 (X.1 102 44 + 1)) (by rw [stI_at, if_neg (by omega), stI_at, if_neg (by omega)]; omega) (by omega) (by omega) (by rw [stI_self]; exact inc h5 (by omega)) hf
        refine ⟨Y, ?_, y2, fun o i => ?_⟩
        · rw [← y1]
          unfold mo_reads_L5_B
          rw [if_pos ib6, if_pos (by rw [ltk]; omega), if_pos ibi, x2, en, ef, if_neg (by rw [lgc_lt]; omega), if_pos ibi, if_neg (by rw [lgc_gt, show (4 : Int64).toInt = 4 by decide]; omega), if_pos ibi, if_pos ib, Option.bind_some]
          rw [stI_at (o' := 102) (i' := 44) (o := 133), if_neg (by omega)]
        · have hc := rcn_le (f := f) u (k + 1)
          rw [y3]
          have e3 : rcn f (u + 1) k = rcn f u (k + 1) := by
            show (if isA (f k) then _ else _) = _
            rw [if_pos hk]
          rw [e3]
          by_cases c : o = 102 ∧ i = 44
          · rw [if_pos c, if_pos c]
          · rw [if_neg c, if_neg c]
            by_cases c2 : o = 133 ∧ k + 1 ≤ i ∧ i < rcn f u (k + 1)
            · rw [if_pos c2, if_pos (by omega)]
            · rw [if_neg c2, stI_at, if_neg c, stI_at]
              by_cases c3 : o = 133 ∧ i = k
              · rw [if_pos c3, if_pos (by omega), c3.2]
              · rw [if_neg c3, if_neg (by omega)]
      · refine ⟨X, ?_, rfl, fun o i => ?_⟩
        · unfold mo_reads_L5_B
          rw [if_pos ib6, if_pos (by rw [ltk]; omega), if_pos ibi, x2, en, ef]
          by_cases c : lg_cmp (f k) 0 < 0
          · rw [if_pos c]
          · rw [if_neg c, if_pos ibi, if_pos (by rw [lgc_gt, show (4 : Int64).toInt = 4 by decide]; rw [lgc_lt] at c; omega)]
        · have e3 : rcn f (u + 1) k = k := by
            show (if isA (f k) then _ else _) = _
            rw [if_neg hk]
          rw [e3]
          by_cases c : o = 102 ∧ i = 44
          · rw [if_pos c, c.1, c.2]; exact ofk h5
          · rw [if_neg c, if_neg (by omega)]
theorem tld {X : St} {v : Int32} {k : Nat} (w : Nat) (hw : w < 6) (hm : (X.1 1 1).toInt ≤ 8) (hv : v.toInt = k) (hk : (k : Int) < (X.1 1 1).toInt) : poo_told v (Int32.ofNat w) X = some (X.1 (3 + w) k) := by
  have e : (Int32.ofNat w).toInt = w := ti_ofNat (by omega)
  rw [told_s hm (Or.inl ⟨by omega, by omega, by omega, by omega⟩), nxk hv, nxk e]
theorem tldw {X : St} (w : Nat) (hw : 6 ≤ w ∧ w ≤ 8) (hm : (X.1 1 1).toInt ≤ 8) : poo_told 0 (Int32.ofNat w) X = some (X.1 (3 + w) 0) := by
  have e : (Int32.ofNat w).toInt = w := ti_ofNat (by omega)
  rw [told_s hm (Or.inr ⟨by omega, by omega, ti0⟩), nxk e]
  rfl
theorem rd1_s (n : Nat) (K : St → Option St) : ∀ (w u k : Nat) (v : Int32) (X : St), v.toInt = k → (X.1 1 1).toInt = ((k + u : Nat) : Int) → k + u ≤ 8 → u < w → ∃ Y, tho_ready_L2 n K w v X = K Y ∧ Y.2 = X.2 ∧ ∀ o i, Y.1 o i = if o = 28 ∧ k ≤ i ∧ i < k + u then X.1 7 i else if o = 29 ∧ k ≤ i ∧ i < k + u then X.1 8 i else X.1 o i := by
  intro w
  induction w with
  | zero => intro u k v X h1 h2 h3 h4; omega
  | succ w ih =>
    intro u k v X h1 h2 h3 h4
    show ∃ Y, tho_ready_L2_B n K (tho_ready_L2 n K w) v X = K Y ∧ _
    have en := nxk h1
    unfold tho_ready_L2_B poo_many
    cases u with
    | zero =>
      refine ⟨X, ?_, rfl, fun o i => ?_⟩
      · rw [if_neg (by rw [ltk]; omega)]
      · rw [if_neg (by omega), if_neg (by omega)]
    | succ u =>
      have ib : inB v 8 = true := by rw [inB_iff]; omega
      obtain ⟨Y, y1, y2, y3⟩ := ih u (k + 1) (v + 1) (stI (stI X 28 k (X.1 7 k)) 29 k (X.1 8 k)) (inc h1 (by omega)) (by rw [stI_at, if_neg (by omega), stI_at, if_neg (by omega)]; omega) (by omega) (by omega)
      refine ⟨Y, ?_, y2, fun o i => ?_⟩
      · rw [← y1, if_pos (by rw [ltk]; omega), show (4 : Int32) = Int32.ofNat 4 by decide, tld 4 (by omega) (by omega) h1 (by omega), Option.bind_some, if_pos ib, en, show (5 : Int32) = Int32.ofNat 5 by decide, tld 5 (by omega) (by rw [stI_at, if_neg (by omega)]; omega) h1 (by rw [stI_at, if_neg (by omega)]; omega), Option.bind_some, if_pos ib, stI_at (o' := 3 + 5), if_neg (by omega)]
      · rw [y3]
        simp only [stI_at]
        by_cases c1 : o = 28 ∧ k + 1 ≤ i ∧ i < k + 1 + u
        · rw [if_pos c1, if_neg (by omega), if_neg (by omega), if_pos (by omega)]
        · rw [if_neg c1]
          by_cases c2 : o = 29 ∧ k + 1 ≤ i ∧ i < k + 1 + u
          · rw [if_pos c2, if_neg (by omega), if_neg (by omega), if_neg (by omega), if_pos (by omega)]
          · rw [if_neg c2]
            by_cases c3 : o = 29 ∧ i = k
            · rw [if_pos c3, if_neg (by omega), if_pos (by omega), c3.2]
            · rw [if_neg c3]
              by_cases c4 : o = 28 ∧ i = k
              · rw [if_pos c4, if_pos (by omega), c4.2]
              · rw [if_neg c4, if_neg (by omega), if_neg (by omega)]
def dst (X : St) (v u : Nat) : Int32 := jmath_abs (X.1 3 v - X.1 3 u) + jmath_abs (X.1 4 v - X.1 4 u)
def unl (X : St) (v u : Nat) : Int32 := jmath_abs (X.1 5 v - X.1 5 u)
theorem far_tab : ∀ w, w < 8 → (31 + w < NO ∧ knd (31 + w) = 0 ∧ oln (31 + w) = 8) := by decide
theorem unl_tab : ∀ w, w < 8 → (40 + w < NO ∧ knd (40 + w) = 0 ∧ oln (40 + w) = 8) := by decide
theorem okI_far {w : Nat} {j : Int32} (h : w < 8) (h1 : 0 ≤ j.toInt) (h2 : j.toInt < 8) : okI (31 + w) j = true := by
  obtain ⟨t1, t2, t3⟩ := far_tab w h
  unfold okI
  rw [t2, t3, (inB_iff (n := 8)).mpr (by omega), decide_eq_true t1]
  rfl
theorem okI_unl {w : Nat} {j : Int32} (h : w < 8) (h1 : 0 ≤ j.toInt) (h2 : j.toInt < 8) : okI (40 + w) j = true := by
  obtain ⟨t1, t2, t3⟩ := unl_tab w h
  unfold okI
  rw [t2, t3, (inB_iff (n := 8)).mpr (by omega), decide_eq_true t1]
  rfl
theorem dif_s {X : St} {v u : Int32} {k j : Nat} (w : Nat) (hw : w < 6) (hm : (X.1 1 1).toInt ≤ 8) (hv : v.toInt = k) (hk : (k : Int) < (X.1 1 1).toInt) (hu : u.toInt = j) (hj : (j : Int) < (X.1 1 1).toInt) : tho_differing v u (Int32.ofNat w) X = some (jmath_abs (X.1 (3 + w) k - X.1 (3 + w) j)) := by
  unfold tho_differing
  rw [tld w hw hm hv hk, tld w hw hm hu hj]
  rfl
/-- all pairs from row k, place j on are compared -/
theorem cmp2_s (n : Nat) (K : Int32 → St → Option St) {m k : Nat} {v : Int32} (hm : m ≤ 8) (hv : v.toInt = k) (hk : k < m) : ∀ (w u j : Nat) (p : Int32) (X : St), p.toInt = j → j + u = m → u < w → (X.1 1 1).toInt = m → ∃ Y, tho_compare_L15 n K w v p X = K v Y ∧ Y.2 = X.2 ∧ ∀ o i, Y.1 o i = if o = 31 + k ∧ j ≤ i ∧ i < m then dst X k i else if o = 40 + k ∧ j ≤ i ∧ i < m then unl X k i else X.1 o i := by
  intro w
  induction w with
  | zero => intro u j p X h1 h2 h3; omega
  | succ w ih =>
    intro u j p X h1 h2 h3 h4
    show ∃ Y, tho_compare_L15_B n K (tho_compare_L15 n K w) v p X = K v Y ∧ _
    have en := nxk h1
    have ev := nxk hv
    unfold tho_compare_L15_B poo_many
    cases u with
    | zero =>
      refine ⟨X, ?_, rfl, fun o i => ?_⟩
      · rw [if_neg (by rw [ltk]; omega)]
      · rw [if_neg (by omega), if_neg (by omega)]
    | succ u =>
      have ib : inB v 8 = true := by rw [inB_iff]; omega
      obtain ⟨Y, y1, y2, y3⟩ := ih u (j + 1) (p + 1) (stI (stI X (31 + k) j (dst X k j)) (40 + k) j (unl X k j)) (inc h1 (by omega)) (by omega) (by omega) (by rw [stI_at, if_neg (by omega), stI_at, if_neg (by omega)]; exact h4)
      have cg : ∀ (D U : Int32) w i, w < 6 → (stI (stI X (31 + k) j D) (40 + k) j U).1 (3 + w) i = X.1 (3 + w) i := fun D U w i hw => by
        rw [stI_at, if_neg (by omega), stI_at, if_neg (by omega)]
      refine ⟨Y, ?_, y2, fun o i => ?_⟩
      · rw [← y1, if_pos (by rw [ltk]; omega), if_pos ib, show (0 : Int32) = Int32.ofNat 0 by decide, dif_s 0 (by omega) (by omega) hv (by omega) h1 (by omega), Option.bind_some, show (1 : Int32) = Int32.ofNat 1 by decide, dif_s 1 (by omega) (by omega) hv (by omega) h1 (by omega), Option.bind_some, ev, en, if_pos (okI_far (by omega) (by omega) (by omega)), if_pos ib, show (2 : Int32) = Int32.ofNat 2 by decide, dif_s 2 (by omega) (by rw [stI_at, if_neg (by omega)]; omega) hv (by rw [stI_at, if_neg (by omega)]; omega) h1 (by rw [stI_at, if_neg (by omega)]; omega), Option.bind_some, if_pos (okI_unl (by omega) (by omega) (by omega)), Option.bind_some, stI_at (o' := 3 + 2), if_neg (by omega), stI_at (o' := 3 + 2), if_neg (by omega)]
        rfl
      · rw [y3]
        have d1 : ∀ D U : Int32, dst (stI (stI X (31 + k) j D) (40 + k) j U) k i = dst X k i := fun D U => by
          unfold dst
          rw [cg D U 0 _ (by omega), cg D U 0 _ (by omega), cg D U 1 _ (by omega), cg D U 1 _ (by omega)]
        have d2 : ∀ D U : Int32, unl (stI (stI X (31 + k) j D) (40 + k) j U) k i = unl X k i := fun D U => by
          unfold unl
          rw [cg D U 2 _ (by omega), cg D U 2 _ (by omega)]
        rw [d1, d2]
        simp only [stI_at]
        by_cases c1 : o = 31 + k ∧ j + 1 ≤ i ∧ i < m
        · rw [if_pos c1, if_pos (by omega)]
        · rw [if_neg c1]
          by_cases c2 : o = 40 + k ∧ j + 1 ≤ i ∧ i < m
          · rw [if_pos c2, if_neg (by omega), if_pos (by omega)]
          · rw [if_neg c2]
            by_cases c3 : o = 40 + k ∧ i = j
            · rw [if_pos c3, if_neg (by omega), if_pos (by omega), c3.2]
            · rw [if_neg c3]
              by_cases c4 : o = 31 + k ∧ i = j
              · rw [if_pos c4, if_pos (by omega), c4.2]
              · rw [if_neg c4, if_neg (by omega), if_neg (by omega)]
theorem cmp_s (n : Nat) (hn : 9 ≤ n) {m : Nat} (hm : m ≤ 8) : ∀ (w u k : Nat) (v : Int32) (X : St), v.toInt = k → k + u = m → u < w → (X.1 1 1).toInt = m → ∃ Y, tho_compare_L2 n w v X = some Y ∧ Y.2 = X.2 ∧ ∀ o i, Y.1 o i = if 31 + k ≤ o ∧ o < 31 + m ∧ i < m then dst X (o - 31) i else if 40 + k ≤ o ∧ o < 40 + m ∧ i < m then unl X (o - 40) i else X.1 o i := by
  intro w
  induction w with
  | zero => intro u k v X h1 h2 h3; omega
  | succ w ih =>
    intro u k v X h1 h2 h3 h4
    show ∃ Y, tho_compare_L2_B n (tho_compare_L2 n w) v X = some Y ∧ _
    unfold tho_compare_L2_B poo_many
    cases u with
    | zero =>
      refine ⟨X, ?_, rfl, fun o i => ?_⟩
      · rw [if_neg (by rw [ltk]; omega)]
      · rw [if_neg (by omega), if_neg (by omega)]
    | succ u =>
      obtain ⟨Z, z1, z2, z3⟩ := cmp2_s n (fun v6 X5 => (tho_compare_L2 n w (v6 + (1 : Int32)) X5)) hm h1 (by omega) n m 0 0 X ti0 (by omega) (by omega) h4
      have zc : ∀ w i, w < 6 → Z.1 (3 + w) i = X.1 (3 + w) i := fun w i hw => by rw [z3, if_neg (by omega), if_neg (by omega)]
      obtain ⟨Y, y1, y2, y3⟩ := ih u (k + 1) (v + 1) Z (inc h1 (by omega)) (by omega) (by omega) (by rw [z3, if_neg (by omega), if_neg (by omega)]; exact h4)
      refine ⟨Y, ?_, y2.trans z2, fun o i => ?_⟩
      · rw [if_pos (by rw [ltk]; omega), z1]
        exact y1
      · rw [y3]
        have d1 : ∀ a, dst Z a i = dst X a i := fun a => by
          unfold dst
          rw [zc 0 _ (by omega), zc 0 _ (by omega), zc 1 _ (by omega), zc 1 _ (by omega)]
        have d2 : ∀ a, unl Z a i = unl X a i := fun a => by
          unfold unl
          rw [zc 2 _ (by omega), zc 2 _ (by omega)]
        rw [d1, d2, z3]
        by_cases c1 : 31 + (k + 1) ≤ o ∧ o < 31 + m ∧ i < m
        · rw [if_pos c1, if_pos (by omega)]
        · rw [if_neg c1]
          by_cases c2 : 40 + (k + 1) ≤ o ∧ o < 40 + m ∧ i < m
          · rw [if_pos c2, if_neg (by omega), if_pos (by omega)]
          · rw [if_neg c2]
            by_cases c3 : o = 31 + k ∧ 0 ≤ i ∧ i < m
            · rw [if_pos c3, if_pos (by omega), show o - 31 = k by omega]
            · rw [if_neg c3]
              by_cases c4 : o = 40 + k ∧ 0 ≤ i ∧ i < m
              · rw [if_pos c4, if_neg (by omega), if_pos (by omega), show o - 40 = k by omega]
              · rw [if_neg c4, if_neg (by omega), if_neg (by omega)]
/-- how many acts the row on shelf a has, and which -/
def rc (X : St) (a : Nat) : Nat := rcn (X.2 (96 + a)) (X.1 94 a).toInt.toNat 0
def ac (X : St) (a : Nat) : Nat → Int32 := fun i => (X.2 (96 + a) i).toInt32
/-- the class has read the row on shelf a, and the swimmers are ready -/
def Rdy (X : St) (a : Nat) (Y : St) : Prop := Y.2 = X.2 ∧ Y.1 24 1 = Int32.ofNat (rc X a) ∧ (∀ i, i < rc X a → Y.1 25 i = ac X a i) ∧ Y.1 26 9 = X.1 9 0 ∧ Y.1 26 10 = X.1 10 0 ∧ Y.1 26 12 = -1 ∧ (∀ i : Nat, (i : Int) < (X.1 1 1).toInt → Y.1 28 i = X.1 7 i ∧ Y.1 29 i = X.1 8 i) ∧ (∀ k i : Nat, (k : Int) < (X.1 1 1).toInt → (i : Int) < (X.1 1 1).toInt → Y.1 (31 + k) i = dst X k i ∧ Y.1 (40 + k) i = unl X k i) ∧ ∀ o i, o < 24 ∨ o = 27 ∨ 48 < o → Y.1 o i = X.1 o i
/-- the model has read it -/
def Rds (X : St) (a : Nat) (Y : St) : Prop := Y.2 = X.2 ∧ Y.1 102 44 = Int32.ofNat (rc X a) ∧ (∀ i, i < rc X a → Y.1 133 i = ac X a i) ∧ ∀ o i, 102 ≤ o → o ≠ 133 → ¬ (o = 102 ∧ i = 44) → Y.1 o i = X.1 o i
theorem rc_le {X : St} {a : Nat} (hs : ISh X) (ha : a < 6) : rc X a ≤ 60 := by
  have h := rcn_le (f := X.2 (96 + a)) (X.1 94 a).toInt.toNat 0
  obtain ⟨-, -, h3, h4, -⟩ := hs a ha
  unfold rc
  omega
theorem ac_rng {X : St} {a i : Nat} (h : i < rc X a) : 0 ≤ (ac X a i).toInt ∧ (ac X a i).toInt ≤ 4 := by
  have := rcn_act _ _ i (Nat.zero_le i) h
  unfold ac
  rw [act_i this]
  exact this
theorem rdy_s {n : Nat} (hn : 4096 ≤ n) {X Z : St} {m : Nat} (hm : (X.1 1 1).toInt = m) (h8 : m ≤ 8) (hZ : ∀ o i, o < 24 ∨ 25 < o → Z.1 o i = X.1 o i) : ∃ Y, tho_ready n Z = some Y ∧ Y.2 = Z.2 ∧ (∀ o i, o < 26 ∨ o = 27 ∨ 48 < o → Y.1 o i = Z.1 o i) ∧ Y.1 26 9 = X.1 9 0 ∧ Y.1 26 10 = X.1 10 0 ∧ Y.1 26 12 = -1 ∧ (∀ i : Nat, i < m → Y.1 28 i = X.1 7 i ∧ Y.1 29 i = X.1 8 i) ∧ (∀ k i : Nat, k < m → i < m → Y.1 (31 + k) i = dst X k i ∧ Y.1 (40 + k) i = unl X k i) := by
  have hmZ : (Z.1 1 1).toInt = ((0 + m : Nat) : Int) := by rw [hZ 1 1 (by omega)]; omega
  unfold tho_ready
  obtain ⟨A, a1, a2, a3⟩ := rd1_s n (fun X3 =>
    ((poo_told (0 : Int32) (6 : Int32) X3).bind fun c4 =>
    ((poo_told (0 : Int32) (7 : Int32) (stI X3 26 9 c4)).bind fun c5 =>
    ((tho_compare n (stI (stI (stI X3 26 9 c4) 26 10 c5) 26 12 (-1 : Int32))).bind fun X6 =>
    (some X6))))) n m 0 0 Z ti0 hmZ (by omega) (by omega)
  have aZ : ∀ o i, o ≠ 28 → o ≠ 29 → A.1 o i = Z.1 o i := fun o i h1 h2 => by rw [a3, if_neg (by omega), if_neg (by omega)]
  have aX : ∀ o i, o < 24 → A.1 o i = X.1 o i := fun o i h => by rw [aZ _ _ (by omega) (by omega), hZ _ _ (by omega)]
  obtain ⟨B, b1, b2, b3⟩ := cmp_s n (by omega) h8 n m 0 0 (stI (stI (stI A 26 9 (A.1 9 0)) 26 10 (A.1 10 0)) 26 12 (-1)) ti0 (by omega) (by omega) (by rw [stI_at, if_neg (by omega), stI_at, if_neg (by omega), stI_at, if_neg (by omega), aX 1 1 (by omega)]; exact hm)
  have sX : ∀ o i, o < 24 → (stI (stI (stI A 26 9 (A.1 9 0)) 26 10 (A.1 10 0)) 26 12 (-1)).1 o i = X.1 o i := fun o i h => by
    rw [stI_at, if_neg (by omega), stI_at, if_neg (by omega), stI_at, if_neg (by omega), aX _ _ h]
  refine ⟨B, ?_, b2.trans a2, ?_, ?_, ?_, ?_, ?_, ?_⟩
  · rw [a1, show (6 : Int32) = Int32.ofNat 6 by decide, tldw 6 (by omega) (by rw [aX 1 1 (by omega)]; omega), Option.bind_some, show (7 : Int32) = Int32.ofNat 7 by decide, tldw 7 (by omega) (by rw [stI_at, if_neg (by omega), aX 1 1 (by omega)]; omega), Option.bind_some, stI_at (o' := 3 + 7), if_neg (by omega)]
    unfold tho_compare
    rw [b1]
    rfl
  · intro o i ho
    rw [b3, if_neg (by omega), if_neg (by omega), stI_at, if_neg (by omega), stI_at, if_neg (by omega), stI_at, if_neg (by omega), aZ _ _ (by omega) (by omega)]
  · rw [b3, if_neg (by omega), if_neg (by omega), stI_at, if_neg (by omega), stI_at, if_neg (by omega), stI_self, aX _ _ (by omega)]
  · rw [b3, if_neg (by omega), if_neg (by omega), stI_at, if_neg (by omega), stI_self, aX _ _ (by omega)]
  · rw [b3, if_neg (by omega), if_neg (by omega), stI_self]
  · intro i hi
    constructor
    · rw [b3, if_neg (by omega), if_neg (by omega), stI_at, if_neg (by omega), stI_at, if_neg (by omega), stI_at, if_neg (by omega), a3, if_pos (by omega), hZ _ _ (by omega)]
    · rw [b3, if_neg (by omega), if_neg (by omega), stI_at, if_neg (by omega), stI_at, if_neg (by omega), stI_at, if_neg (by omega), a3, if_neg (by omega), if_pos (by omega), hZ _ _ (by omega)]
  · intro k i hk hi
    constructor
    · rw [b3, if_pos (by omega), show 31 + k - 31 = k by omega]
      unfold dst
      rw [sX 3 _ (by omega), sX 3 _ (by omega), sX 4 _ (by omega), sX 4 _ (by omega)]
    · rw [b3, if_neg (by omega), if_pos (by omega), show 40 + k - 40 = k by omega]
      unfold unl
      rw [sX 5 _ (by omega), sX 5 _ (by omega)]
/-- a row of counts is there -/
def rok (X : St) (a : Int32) : Int := if X.1 92 (nx a) = -1 then -11 else if X.1 92 (nx a) = 0 then 0 else -12
theorem bad_s {n : Nat} {a h : Int32} {X : St} (hb : h = 0 ∨ ¬ (0 ≤ a.toInt ∧ a.toInt ≤ 5)) : el_begin n a h X = some (-1, X) := by
  unfold el_begin
  by_cases c : h = 0
  · rw [if_pos c]
  · rw [if_neg c, if_pos (shelf0.mpr (by rcases hb with e | e; exact absurd e c; omega))]
theorem shm0 {a : Int32} : mo_isShelf a = 0 ↔ ¬ (0 ≤ a.toInt ∧ a.toInt ≤ 5) := by
  refine within0.trans ?_
  rw [ti0, show (5 : Int32).toInt = 5 by decide]
  omega
theorem reads_all {n : Nat} (hn : 4096 ≤ n) {a : Int32} {X Y : St} (ha : 0 ≤ a.toInt ∧ a.toInt ≤ 5) (hs : ISh X) (hY : Mo X Y) : ∃ Y1, mo_reads n a Y = some Y1 ∧ Rds X (nx a) Y1 := by
  have hx := nx_ti ha.1
  obtain ⟨g1, g2, g3, g4, g5⟩ := hs (nx a) (by omega)
  obtain ⟨y2, y1⟩ := hY
  obtain ⟨Z, z1, z2, z3⟩ := reads_s n a ha (X.2 (96 + nx a)) n (X.1 94 (nx a)).toInt.toNat 0 (stI Y 102 44 0) (by rw [stI_at, if_neg (by omega), y1 _ _ (by omega), g2]; omega) (by omega) (by omega) (by rw [stI_self]; exact ti0) (fun i hi => by show Y.2 132 _ = _; rw [y2]; exact g5 i hi)
  refine ⟨Z, z1, z2.trans y2, ?_, ?_, ?_⟩
  · rw [z3, if_pos ⟨rfl, rfl⟩]; rfl
  · intro i hi
    rw [z3, if_neg (by omega), if_pos ⟨rfl, Nat.zero_le _, hi⟩]; rfl
  · intro o i h1 h2 h3
    rw [z3, if_neg h3, if_neg (by omega), stI_at, if_neg h3, y1 _ _ h1]
theorem noRow_s {a b : Int32} {X Y : St} (ha : 0 ≤ a.toInt ∧ a.toInt ≤ 5) (hs : ISh X) (hw : IWy X) (hb : 0 ≤ b.toInt ∧ b.toInt ≤ 4) (hY : Mo X Y) : mo_noRow a b Y = some (if X.1 92 (nx a) = -1 then -11 else if X.1 92 (nx a) = b then 0 else -12) := by
  have hx := nx_ti ha.1
  have hi : inB a 6 = true := by rw [inB_iff]; omega
  obtain ⟨g1, -⟩ := hs (nx a) (by omega)
  obtain ⟨-, w2, w3, -⟩ := hw
  unfold mo_noRow
  rw [if_pos hi, hY.2 130 _ (by omega)]
  rcases g1 with h | h | h
  · rw [h.2, h.1, if_pos rfl, if_pos rfl]
  · have e : ¬ X.1 92 (nx a) = -1 := fun e => by have := h.1; rw [e, ti_m1] at this; omega
    rw [h.2.2, if_neg e, if_pos hi, if_neg e]
    by_cases c : X.1 92 (nx a) = b
    · rw [if_pos c, if_pos c]
    · rw [if_neg c, if_neg c]
  · have u : (X.1 130 (nx a)).toInt = 10 + (X.1 93 (nx a)).toInt := by
      rw [h.2.1, ti_add] <;> rw [show (10 : Int32).toInt = 10 by decide] <;> omega
    have e : ¬ X.1 130 (nx a) = -1 := fun e => by rw [e, ti_m1] at u; omega
    have e2 : ¬ X.1 130 (nx a) = b := fun e => by rw [e] at u; omega
    have e3 : ¬ (5 : Int32) = b := fun e => by rw [← e, show (5 : Int32).toInt = 5 by decide] at hb; omega
    rw [h.1, if_neg e, if_pos hi, if_neg e2, if_neg (by decide), if_neg e3]
theorem beg_s {n : Nat} (hn : 4096 ≤ n) {a h : Int32} {X : St} (hh : h ≠ 0) (ha : 0 ≤ a.toInt ∧ a.toInt ≤ 5) (hP : IPool X) (hs : ISh X) (hw : IWy X) : (∃ c : Int32, (c ≠ 0 ∧ c < 0) ∧ el_begin n a h X = some (c, X) ∧ ∀ Y, Mo X Y → mo_noRow a 0 Y = some c) ∨ (∃ X1, el_begin n a h X = some (0, X1) ∧ Rdy X (nx a) X1 ∧ ∀ Y, Mo X Y → mo_noRow a 0 Y = some 0 ∧ ∃ Y1, mo_reads n a Y = some Y1 ∧ Rds X (nx a) Y1) := by
  have hx := nx_ti ha.1
  have hsh : ¬ she_isShelf a = 0 := fun h => by have := shelf0.mp h; omega
  have hb : inB a 6 = true := by rw [inB_iff]; omega
  have hE : el_begin n a h X = (if (if (X.1 92 (nx a)).toInt = -1 then (-11 : Int32) else if (X.1 92 (nx a)).toInt = (0 : Int32).toInt then 0 else -12) = 0 then
    (((rou_take n (96 + nx a) (X.1 94 (nx a)) X).bind fun X4 => ((tho_ready n X4).bind fun X5 => (some ((0 : Int32), X5))))) else some ((if (X.1 92 (nx a)).toInt = -1 then (-11 : Int32) else if (X.1 92 (nx a)).toInt = (0 : Int32).toInt then 0 else -12), X)) := by
    unfold el_begin she_elements she_size
    rw [if_neg hh, if_neg hsh, refus_s ha, Option.bind_some, if_neg hsh, if_pos hb, Option.bind_some, if_neg hsh, if_pos hb, Option.bind_some]
  have hN : ∀ Y, Mo X Y → mo_noRow a 0 Y = some (if X.1 92 (nx a) = -1 then -11 else if X.1 92 (nx a) = 0 then 0 else -12) := fun Y hY => noRow_s ha hs hw (by decide) hY
  by_cases c1 : (X.1 92 (nx a)).toInt = -1
  · rw [if_pos c1] at hE
    have c2 : X.1 92 (nx a) = -1 := by rw [ti_eq, c1]; decide
    rw [if_pos c2] at hN
    exact Or.inl ⟨-11, ⟨by decide, by decide⟩, hE, hN⟩
  · rw [if_neg c1] at hE
    have c2 : ¬ X.1 92 (nx a) = -1 := fun e => c1 (by rw [e]; decide)
    rw [if_neg c2] at hN
    by_cases c3 : (X.1 92 (nx a)).toInt = (0 : Int32).toInt
    · rw [if_pos c3, if_pos rfl] at hE
      have c4 : X.1 92 (nx a) = 0 := ti_eq.mpr c3
      rw [if_pos c4] at hN
      obtain ⟨g1, g2, g3, g4, g5⟩ := hs (nx a) (by omega)
      have hl : (Int32.ofNat (oln (96 + nx a))).toInt = 60 := by rw [(sh_tab (nx a) (by omega)).2.2]; decide
      have hz : jmath_min (jmath_min (X.1 94 (nx a)) (Int32.ofNat (oln (96 + nx a)))) 60 = X.1 94 (nx a) := by
        rw [ti_eq, min_ti, min_ti, hl, show (60 : Int32).toInt = 60 by decide]
        omega
      obtain ⟨Z, z1, z2, z3⟩ := take_s n (nx a) (by omega) (X.1 94 (nx a)) n (X.1 94 (nx a)).toInt.toNat 0 0 (stI X 24 1 0) ti0 (by omega) (by omega) (by omega) (by rw [stI_self]; exact ti0)
      have zX : ∀ o i, o < 24 ∨ 25 < o → Z.1 o i = X.1 o i := fun o i ho => by
        rw [z3, if_neg (by omega), if_neg (by omega), stI_at, if_neg (by omega)]
      obtain ⟨p1, p2, p3, -⟩ := hP
      obtain ⟨Y, y1, y2, y3, y4, y5, y6, y7, y8⟩ := rdy_s hn (X := X) (Z := Z) (m := (X.1 1 1).toInt.toNat) (by omega) (by omega) zX
      refine Or.inr ⟨Y, ?_, ?_, fun Y hY => ⟨hN Y hY, reads_all hn ha hs hY⟩⟩
      · rw [hE]
        unfold rou_take
        rw [if_pos (sh_r _ (by omega)), Option.bind_some, hz, z1, Option.bind_some, y1]
        rfl
      · refine ⟨y2.trans z2, ?_, ?_, y4, y5, y6, fun i hi => y7 i (by omega), fun k i hk hi => y8 k i (by omega) (by omega), ?_⟩
        · rw [y3 _ _ (by omega), z3, if_pos ⟨rfl, rfl⟩]; rfl
        · intro i hi
          rw [y3 _ _ (by omega), z3, if_neg (by omega), if_pos ⟨rfl, Nat.zero_le _, hi⟩]; rfl
        · intro o i ho
          rw [y3 _ _ (by omega), zX _ _ (by omega)]
    · rw [if_neg c3, if_neg (by decide)] at hE
      have c4 : ¬ X.1 92 (nx a) = 0 := fun e => c3 (by rw [e])
      rw [if_neg c4] at hN
      exact Or.inl ⟨-12, ⟨by decide, by decide⟩, hE, hN⟩
