/-! swimmers -/
abbrev Q4 : Type := Int32 × Int32 × Int32 × Int32
def jn (X : St) (z : Q4) : St := joinX z.1 z.2.1 z.2.2.1 z.2.2.2 X
def nw (X : St) (z : Q4) : St := newX z.1 z.2.1 z.2.2.1 z.2.2.2 X
theorem jn_at {X : St} {z : Q4} {o i : Nat} (h : 102 ≤ o) : (jn X z).1 o i = X.1 o i := by
  unfold jn joinX
  rw [stI_at, if_neg (by omega), stI_at, if_neg (by omega), stI_at, if_neg (by omega), stI_at, if_neg (by omega), stI_at, if_neg (by omega), stI_at, if_neg (by omega)]
theorem nw_at {X : St} {z : Q4} {o i : Nat} (h : o < 102) : (nw X z).1 o i = X.1 o i := by
  unfold nw newX
  rw [stI_at, if_neg (by omega), stI_at, if_neg (by omega), stI_at, if_neg (by omega), stI_at, if_neg (by omega), stI_at, if_neg (by omega), stI_at, if_neg (by omega), stI_at, if_neg (by omega), stI_at, if_neg (by omega), stI_at, if_neg (by omega)]
theorem jn_2 {X : St} {z : Q4} : (jn X z).2 = X.2 := rfl
theorem nw_2 {X : St} {z : Q4} : (nw X z).2 = X.2 := rfl
theorem jn_m {X : St} {z : Q4} : (jn X z).1 1 1 = X.1 1 1 + 1 := by
  unfold jn joinX
  simp only [stI_at, stI_2at, stL_at, stL_1at, Nat.reduceEqDiff, false_and, and_false, true_and, and_true, and_self, ↓reduceIte]
theorem nw_m {X : St} {z : Q4} : (nw X z).1 102 0 = X.1 102 0 + 1 := by
  unfold nw newX
  simp only [stI_at, stI_2at, stL_at, stL_1at, Nat.reduceEqDiff, false_and, and_false, true_and, and_true, and_self, ↓reduceIte]
/-- the class's part of the one, the model's of the other -/
def comb (X Y : St) : St := (fun o i => if o < 102 then X.1 o i else Y.1 o i, fun o i => if o < 102 then X.2 o i else Y.2 o i)
theorem comb_lt {X Y : St} {o i : Nat} (h : o < 102) : (comb X Y).1 o i = X.1 o i := if_pos h
theorem comb_ge {X Y : St} {o i : Nat} (h : 102 ≤ o) : (comb X Y).1 o i = Y.1 o i := if_neg (by omega)
theorem comb_self {X : St} : comb X X = X := by
  unfold comb
  refine Prod.ext (funext fun o => funext fun i => ?_) (funext fun o => funext fun i => ?_)
  · show (if o < 102 then X.1 o i else X.1 o i) = X.1 o i
    rw [ite_self]
  · show (if o < 102 then X.2 o i else X.2 o i) = X.2 o i
    rw [ite_self]
theorem comb_step {X Y : St} {z : Q4} : ∀ o i, (nw (jn (comb X Y) z) z).1 o i = (comb (jn X z) (nw Y z)).1 o i := by
  intro o i
  by_cases h : o < 102
  · rw [nw_at h, comb_lt h]
    unfold jn joinX
    simp only [stI_at, comb_lt (X := X) (Y := Y) h, comb_lt (X := X) (Y := Y) (show 1 < 102 by omega)]
  · have h2 : 102 ≤ o := by omega
    rw [comb_ge h2]
    have e : (jn (comb X Y) z).1 102 0 = Y.1 102 0 := by rw [jn_at (by omega), comb_ge (by omega)]
    have e2 : (jn (comb X Y) z).1 o i = Y.1 o i := by rw [jn_at h2, comb_ge h2]
    unfold nw newX
    simp only [stI_at]
    have e3 : ∀ p q, (jn (comb X Y) z).1 102 0 = p → Y.1 102 0 = q → p = q := fun p q h3 h4 => by rw [← h3, ← h4, e]
    simp only [Nat.reduceEqDiff, false_and, ↓reduceIte, e, e2]
def jns (l : List Q4) (X : St) : St := l.foldl jn X
def nws (l : List Q4) (X : St) : St := l.foldl nw X
theorem jns_at {o i : Nat} (h : 102 ≤ o) : ∀ (l : List Q4) (X : St), (jns l X).1 o i = X.1 o i := by
  intro l
  induction l with
  | nil => intro X; rfl
  | cons c l ih => intro X; exact (ih (jn X c)).trans (jn_at h)
theorem nws_at {o i : Nat} (h : o < 102) : ∀ (l : List Q4) (X : St), (nws l X).1 o i = X.1 o i := by
  intro l
  induction l with
  | nil => intro X; rfl
  | cons c l ih => intro X; exact (ih (nw X c)).trans (nw_at h)
theorem jns_2 : ∀ (l : List Q4) (X : St), (jns l X).2 = X.2 := by
  intro l
  induction l with
  | nil => intro X; rfl
  | cons c l ih => intro X; exact (ih (jn X c)).trans jn_2
theorem nws_2 : ∀ (l : List Q4) (X : St), (nws l X).2 = X.2 := by
  intro l
  induction l with
  | nil => intro X; rfl
  | cons c l ih => intro X; exact (ih (nw X c)).trans nw_2
/-- what a pool keeps, told of the values alone -/
def PoolI (X : St) : Prop := IPool X ∧ ITir X ∧ IZer X ∧ ILat X
theorem PoolI.cg {X Y : St} (h : ∀ o i, Y.1 o i = X.1 o i) (hX : PoolI X) : PoolI Y := by
  have e : Y.1 = X.1 := funext fun o => funext fun i => h o i
  unfold PoolI IPool ITir IZer ILat at *
  rw [e]
  exact hX
theorem joins_all : ∀ (l : List Q4) (X Y : St), PoolI (comb X Y) → (X.1 1 1).toInt + l.length ≤ 8 → PoolI (comb (jns l X) (nws l Y)) ∧ ((jns l X).1 1 1).toInt = (X.1 1 1).toInt + l.length := by
  intro l
  induction l with
  | nil => intro X Y h _; exact ⟨h, by show (X.1 1 1).toInt = (X.1 1 1).toInt + ((0 : Nat) : Int); omega⟩
  | cons z l ih =>
    intro X Y h hl
    rw [List.length_cons] at hl
    have e1 : (comb X Y).1 1 1 = X.1 1 1 := comb_lt (by omega)
    obtain ⟨h1, h2, h3, h4⟩ := h
    obtain ⟨j1, j2, j3, j4, j5⟩ := joined (p := z.1) (q := z.2.1) (t := z.2.2.1) (s := z.2.2.2) h1 h2 h3 h4 (by rw [e1]; omega)
    have p1 : PoolI (comb (jn X z) (nw Y z)) := PoolI.cg (fun o i => (comb_step o i).symm) (X := nw (jn (comb X Y) z) z) ⟨j1, j2, j3, j4⟩
    have hm := h1.2.1
    rw [e1] at hm
    have e2 : ((jn X z).1 1 1).toInt = (X.1 1 1).toInt + 1 := by
      rw [jn_m, ti_add] <;> simp only [Int32.reduceToInt] <;> omega
    obtain ⟨q1, q2⟩ := ih (jn X z) (nw Y z) p1 (by omega)
    refine ⟨q1, ?_⟩
    show ((jns l (jn X z)).1 1 1).toInt = _
    rw [q2, e2, List.length_cons]
    omega
theorem lgc_lt {x : Int64} : lg_cmp x 0 < 0 ↔ x.toInt < 0 := by
  have e0 : (0 : Int64).toInt = 0 := by decide
  unfold lg_cmp
  by_cases h1 : x > 0
  · rw [if_pos h1]
    have h2 := Int64.lt_iff_toInt_lt.mp h1
    rw [e0] at h2
    exact ⟨fun h => absurd h (by decide), fun h => by omega⟩
  · rw [if_neg h1]
    have h2 : ¬ (0 : Int64).toInt < x.toInt := fun h => h1 (Int64.lt_iff_toInt_lt.mpr h)
    rw [e0] at h2
    by_cases h4 : x = 0
    · rw [if_pos h4]
      have h5 : x.toInt = 0 := by rw [h4]; decide
      exact ⟨fun h => absurd h (by decide), fun h => by omega⟩
    · rw [if_neg h4]
      have h5 : x.toInt ≠ 0 := fun h => h4 (Int64.toInt_inj.mp (by rw [h]; decide))
      exact ⟨fun _ => by omega, fun _ => by decide⟩
theorem off4 {p v : Int32} {i : Nat} (hv : v.toInt = i) (hi : i ≤ 8) : (p.toInt64 + (4 : Int64) * v.toInt64).toInt = p.toInt + 4 * i ∧ (p.toInt64 + (4 : Int64) * v.toInt64 + 4).toInt = p.toInt + 4 * i + 4 ∧ (0 ≤ p.toInt + 4 * i → p.toInt + 4 * i ≤ 60 → (p.toInt64 + (4 : Int64) * v.toInt64).toInt32.toInt = p.toInt + 4 * i) := by
  have h1 := ti_rng p
  have e4 : (4 : Int64).toInt = 4 := by decide
  have m : ((4 : Int64) * v.toInt64).toInt = 4 * i := by
    rw [Int64.toInt_mul, Int32.toInt_toInt64, e4, hv, Int.bmod_eq_of_le] <;> omega
  have s : (p.toInt64 + (4 : Int64) * v.toInt64).toInt = p.toInt + 4 * i := by
    rw [Int64.toInt_add, m, Int32.toInt_toInt64, Int.bmod_eq_of_le] <;> omega
  refine ⟨s, ?_, fun g1 g2 => ?_⟩
  · rw [Int64.toInt_add, s, e4, Int.bmod_eq_of_le] <;> omega
  · rw [Int64.toInt_toInt32, s, Int.bmod_eq_of_le] <;> omega
theorem sh_r : ∀ s, s < 6 → isR (96 + s) = true := by decide
def four (f : Nat → Int64) (k : Nat) : Q4 := ((f k).toInt32, (f (k + 1)).toInt32, (f (k + 2)).toInt32, (f (k + 3)).toInt32)
abbrev fit4 (z : Q4) : Prop := (0 ≤ z.1.toInt ∧ z.1.toInt ≤ 15) ∧ (0 ≤ z.2.1.toInt ∧ z.2.1.toInt ≤ 15) ∧ (1 ≤ z.2.2.1.toInt ∧ z.2.2.1.toInt ≤ 9) ∧ (-9 ≤ z.2.2.2.toInt ∧ z.2.2.2.toInt ≤ 9)
theorem nx_add {u d : Int32} (hu : 0 ≤ u.toInt) (hd : 0 ≤ d.toInt) (h : u.toInt + d.toInt ≤ 2147483647) : (u + d).toInt = u.toInt + d.toInt ∧ nx (u + d) = nx u + nx d := by
  have e : (u + d).toInt = u.toInt + d.toInt := by rw [ti_add] <;> omega
  have h1 := nx_ti hu
  have h2 := nx_ti hd
  have h3 := nx_ti (x := u + d) (by omega)
  exact ⟨e, by omega⟩
theorem four_s {a u : Int32} {X : St} (ha : 0 ≤ a.toInt ∧ a.toInt ≤ 5) (hu : 0 ≤ u.toInt ∧ u.toInt ≤ 56) (h0 : 0 ≤ (X.1 1 1).toInt) (h1 : (X.1 1 1).toInt < 8) : poo_joinFour (96 + nx a) u X = if fit4 (four (X.2 (96 + nx a)) (nx u)) then some (1, jn X (four (X.2 (96 + nx a)) (nx u))) else some (0, X) := by
  have hn := nx_ti ha.1
  obtain ⟨a1, b1⟩ := nx_add (u := u) (d := 1) hu.1 (by decide) (by rw [show (1 : Int32).toInt = 1 by decide]; omega)
  obtain ⟨a2, b2⟩ := nx_add (u := u) (d := 2) hu.1 (by decide) (by rw [show (2 : Int32).toInt = 2 by decide]; omega)
  obtain ⟨a3, b3⟩ := nx_add (u := u) (d := 3) hu.1 (by decide) (by rw [show (3 : Int32).toInt = 3 by decide]; omega)
  rw [show (1 : Int32).toInt = 1 by decide] at a1
  rw [show (2 : Int32).toInt = 2 by decide] at a2
  rw [show (3 : Int32).toInt = 3 by decide] at a3
  rw [show nx (1 : Int32) = 1 by decide] at b1
  rw [show nx (2 : Int32) = 2 by decide] at b2
  rw [show nx (3 : Int32) = 3 by decide] at b3
  have hs : nx a < 6 := by omega
  have o0 : okJ (96 + nx a) u = true := (okJ_sh hs).mpr (by omega)
  have o1 : okJ (96 + nx a) (u + 1) = true := (okJ_sh hs).mpr (by omega)
  have o2 : okJ (96 + nx a) (u + 2) = true := (okJ_sh hs).mpr (by omega)
  have o3 : okJ (96 + nx a) (u + 3) = true := (okJ_sh hs).mpr (by omega)
  have z0 : ¬ u < 0 := by rw [Int32.lt_iff_toInt_lt, show (0 : Int32).toInt = 0 by decide]; omega
  have z1 : u + 3 < Int32.ofNat (oln (96 + nx a)) := by
    rw [(sh_tab (nx a) hs).2.2, Int32.lt_iff_toInt_lt, a3, show (Int32.ofNat 60).toInt = 60 by decide]
    omega
  unfold poo_joinFour
  rw [if_neg z0, if_pos (sh_r _ hs), if_pos z1, if_pos o0, if_pos o1, Option.bind_some, if_pos o2, Option.bind_some, if_pos o3, Option.bind_some, swimr_s, b1, b2, b3]
  by_cases hf : fit4 (four (X.2 (96 + nx a)) (nx u))
  · have hf2 := hf
    unfold fit4 four at hf2
    rw [if_pos hf, if_pos hf2, Option.bind_some, if_neg (by decide), join_s h0 h1, Option.bind_some]
    have z2 : ¬ X.1 1 1 < 0 := by rw [Int32.lt_iff_toInt_lt, show (0 : Int32).toInt = 0 by decide]; omega
    exact if_neg z2
  · have hf2 := hf
    unfold fit4 four at hf2
    rw [if_neg hf, if_neg hf2, Option.bind_some, if_pos rfl]
theorem ms_s {N : Nat} {rec : Int32 → Int32 → Int32 → Int32 → Int32 → St → Option (Int32 × St)} {a p n c j : Int32} {Y : St} {i : Nat} (ha : 0 ≤ a.toInt ∧ a.toInt ≤ 5) (hj : j.toInt = i) (hi : (i : Int) < n.toInt) (hn : n.toInt ≤ 8) (m0 : 0 ≤ (Y.1 102 0).toInt ∧ (Y.1 102 0).toInt ≤ 8) (hz : 0 ≤ (Y.1 131 (nx a)).toInt ∧ (Y.1 131 (nx a)).toInt ≤ 60) : mo_swimmers_L49_B N rec a p n c j Y = if (0 ≤ p.toInt + 4 * i ∧ p.toInt + 4 * i + 4 ≤ (Y.1 131 (nx a)).toInt) ∧ (Y.1 102 0).toInt < 8 ∧ fit4 (four (fun k => Y.2 132 (60 * nx a + k)) (p.toInt + 4 * i).toNat) then rec a p n (c + 1) (j + 1) (nw Y (four (fun k => Y.2 132 (60 * nx a + k)) (p.toInt + 4 * i).toNat)) else some (c, Y) := by
  obtain ⟨o1, o2, o3⟩ := off4 (p := p) hj (by omega)
  have hx := nx_ti ha.1
  have h0 : j < n := by rw [Int32.lt_iff_toInt_lt]; omega
  have hb : inB a 6 = true := by rw [inB_iff]; omega
  unfold mo_swimmers_L49_B
  rw [if_pos h0, Option.bind_some]
  by_cases c1 : p.toInt + 4 * i < 0
  · rw [if_pos (lgc_lt.mpr (by rw [o1]; exact c1)), if_neg (fun h => by omega)]
  rw [if_neg (fun h => c1 (by rw [← o1]; exact lgc_lt.mp h)), if_pos hb]
  by_cases c2 : (Y.1 131 (nx a)).toInt < p.toInt + 4 * i + 4
  · rw [if_pos (lgc_gt.mpr (by rw [o2, Int32.toInt_toInt64]; exact c2)), if_neg (fun h => by omega)]
  rw [if_neg (fun h => c2 (by have := lgc_gt.mp h; rw [o2, Int32.toInt_toInt64] at this; exact this))]
  by_cases c3 : (Y.1 102 0).toInt = 8
  · rw [if_pos (ti_eq.mpr (by rw [c3]; decide)), if_neg (fun h => by omega)]
  rw [if_neg (fun h => c3 (by rw [h]; decide))]
  have e0 := o3 (by omega) (by omega)
  generalize (p.toInt64 + (4 : Int64) * j.toInt64).toInt32 = u at e0 ⊢
  have en := nx_ti (x := u) (by omega)
  have ek : (p.toInt + 4 * i).toNat = nx u := by omega
  rw [ek]
  obtain ⟨s0, f0⟩ := ix60 (a := a) (b := u) ha (by omega)
  obtain ⟨s1, f1⟩ := ix60c (a := a) (b := u) (c := 1) ha (by omega) (by decide) (by rw [show (1 : Int32).toInt = 1 by decide]; omega)
  obtain ⟨s2, f2⟩ := ix60c (a := a) (b := u) (c := 2) ha (by omega) (by decide) (by rw [show (2 : Int32).toInt = 2 by decide]; omega)
  obtain ⟨s3, f3⟩ := ix60c (a := a) (b := u) (c := 3) ha (by omega) (by decide) (by rw [show (3 : Int32).toInt = 3 by decide]; omega)
  rw [show (1 : Int32).toInt = 1 by decide] at s1
  rw [show (2 : Int32).toInt = 2 by decide] at s2
  rw [show (3 : Int32).toInt = 3 by decide] at s3
  rw [show nx (1 : Int32) = 1 by decide, Nat.add_assoc] at f1
  rw [show nx (2 : Int32) = 2 by decide, Nat.add_assoc] at f2
  rw [show nx (3 : Int32) = 3 by decide, Nat.add_assoc] at f3
  have b0 : inB ((60 : Int32) * a + u) 360 = true := by rw [inB_iff, s0]; omega
  have b1 : inB ((60 : Int32) * a + u + 1) 360 = true := by rw [inB_iff, s1]; omega
  have b2 : inB ((60 : Int32) * a + u + 2) 360 = true := by rw [inB_iff, s2]; omega
  have b3 : inB ((60 : Int32) * a + u + 3) 360 = true := by rw [inB_iff, s3]; omega
  simp only [b0, b1, b2, b3, ↓reduceIte, f0, f1, f2, f3]
  unfold four
  simp only []
  generalize (Y.2 132 (60 * nx a + nx u)).toInt32 = y0
  generalize (Y.2 132 (60 * nx a + (nx u + 1))).toInt32 = y1
  generalize (Y.2 132 (60 * nx a + (nx u + 2))).toInt32 = y2
  generalize (Y.2 132 (60 * nx a + (nx u + 3))).toInt32 = y3
  by_cases d0 : 0 ≤ y0.toInt ∧ y0.toInt ≤ 15
  · rw [if_neg (fun h => by have := within0.mp h; rw [show (0 : Int32).toInt = 0 by decide, show (15 : Int32).toInt = 15 by decide] at this; omega)]
    by_cases d1 : 0 ≤ y1.toInt ∧ y1.toInt ≤ 15
    · rw [if_neg (fun h => by have := within0.mp h; rw [show (0 : Int32).toInt = 0 by decide, show (15 : Int32).toInt = 15 by decide] at this; omega)]
      by_cases d2 : 1 ≤ y2.toInt ∧ y2.toInt ≤ 9
      · rw [if_neg (fun h => by have := within0.mp h; rw [show (1 : Int32).toInt = 1 by decide, show (9 : Int32).toInt = 9 by decide] at this; omega)]
        by_cases d3 : -9 ≤ y3.toInt ∧ y3.toInt ≤ 9
        · rw [if_neg (fun h => by have := within0.mp h; rw [show (-9 : Int32).toInt = -9 by decide, show (9 : Int32).toInt = 9 by decide] at this; omega)]
          rw [new_s m0.1 (by omega), Option.bind_some, if_pos ⟨⟨by omega, by omega⟩, by omega, d0, d1, d2, d3⟩]
          rfl
        · rw [if_pos (within0.mpr (by rw [show (-9 : Int32).toInt = -9 by decide, show (9 : Int32).toInt = 9 by decide]; omega)), if_neg (fun h => d3 h.2.2.2.2.2)]
      · rw [if_pos (within0.mpr (by rw [show (1 : Int32).toInt = 1 by decide, show (9 : Int32).toInt = 9 by decide]; omega)), if_neg (fun h => d2 h.2.2.2.2.1)]
    · rw [if_pos (within0.mpr (by rw [show (0 : Int32).toInt = 0 by decide, show (15 : Int32).toInt = 15 by decide]; omega)), if_neg (fun h => d1 h.2.2.2.1)]
  · rw [if_pos (within0.mpr (by rw [show (0 : Int32).toInt = 0 by decide, show (15 : Int32).toInt = 15 by decide]; omega)), if_neg (fun h => d0 h.2.2.1)]
theorem full_s {X : St} : poo_isFull X = 0 ↔ (X.1 1 1).toInt < 8 := by
  unfold poo_isFull
  by_cases h : X.1 1 1 < 8
  · rw [if_pos h]
    rw [Int32.lt_iff_toInt_lt] at h
    exact ⟨fun _ => h, fun _ => rfl⟩
  · rw [if_neg h]
    rw [Int32.lt_iff_toInt_lt] at h
    exact ⟨fun h2 => absurd h2 (by decide), fun h2 => absurd h2 h⟩
theorem cs_s {N : Nat} {rec : Nat → Int32 → Int32 → Int32 → Int32 → Int32 → St → Option (Int32 × St)} {a z n c u j : Int32} {X : St} {i : Nat} (ha : 0 ≤ a.toInt ∧ a.toInt ≤ 5) (hj : j.toInt = i) (hi : (i : Int) < n.toInt) (m0 : 0 ≤ (X.1 1 1).toInt) (hz : 0 ≤ z.toInt ∧ z.toInt ≤ 60) : poo_joinFrom_L9_B N rec (96 + nx a) z n c u j X = if (0 ≤ u.toInt ∧ u.toInt + 4 ≤ z.toInt) ∧ (X.1 1 1).toInt < 8 ∧ fit4 (four (X.2 (96 + nx a)) (nx u)) then rec (96 + nx a) z n (c + 1) (u + 4) (j + 1) (jn X (four (X.2 (96 + nx a)) (nx u))) else some (c, X) := by
  have h0 : j < n := by rw [Int32.lt_iff_toInt_lt]; omega
  unfold poo_joinFrom_L9_B
  rw [if_pos h0]
  by_cases c1 : (X.1 1 1).toInt < 8
  · rw [if_pos (full_s.mpr c1)]
    have e4 : (z - 4).toInt = z.toInt - 4 := by rw [ti_sub] <;> simp only [Int32.reduceToInt] <;> omega
    by_cases c2 : z.toInt - 4 < u.toInt
    · rw [if_pos (by rw [Int32.lt_iff_toInt_lt, e4]; exact c2), if_neg (fun h => by omega)]
    · rw [if_neg (by rw [Int32.lt_iff_toInt_lt, e4]; exact c2)]
      by_cases c3 : u.toInt < 0
      · unfold poo_joinFour
        rw [if_pos (by rw [Int32.lt_iff_toInt_lt]; exact c3), Option.bind_some]
        dsimp only
        rw [if_pos rfl, if_neg (fun h => by omega)]
      · rw [four_s ha (by omega) m0 c1]
        by_cases c4 : fit4 (four (X.2 (96 + nx a)) (nx u))
        · rw [if_pos c4, Option.bind_some]
          dsimp only
          rw [if_neg (by decide), if_pos ⟨⟨by omega, by omega⟩, c1, c4⟩]
        · rw [if_neg c4, Option.bind_some]
          dsimp only
          rw [if_pos rfl, if_neg (fun h => c4 h.2.2)]
  · rw [if_neg (fun h => c1 (full_s.mp h)), if_neg (fun h => c1 h.2.1)]
theorem sws {N : Nat} {a p n z : Int32} (ha : 0 ≤ a.toInt ∧ a.toInt ≤ 5) (hn : n.toInt ≤ 8) (hz : 0 ≤ z.toInt ∧ z.toInt ≤ 60) : ∀ (w i : Nat) (u j c : Int32) (X Y : St), 9 ≤ i + w → i ≤ 8 → j.toInt = i → (i = 0 → u = p) → (0 < i → u.toInt = p.toInt + 4 * i) → PoolI (comb X Y) → Y.1 131 (nx a) = z → (∀ k : Nat, k < 60 → X.2 (96 + nx a) k = Y.2 132 (60 * nx a + k)) → ∃ l v, poo_joinFrom_L9 N w (96 + nx a) z n c u j X = some (v, jns l X) ∧ mo_swimmers_L49 N w a p n c j Y = some (v, nws l Y) ∧ (X.1 1 1).toInt + l.length ≤ 8 ∧ ∀ q ∈ l, fit4 q := by
  intro w
  induction w with
  | zero => intro i u j c X Y h1 h2; omega
  | succ w ih =>
    intro i u j c X Y h1 h2 hj hu0 hu1 hP hl hr
    have hm : X.1 1 1 = Y.1 102 0 := by
      have := hP.1.1
      rw [comb_ge (by omega), comb_lt (by omega)] at this
      exact this.symm
    have hm2 : 0 ≤ (X.1 1 1).toInt ∧ (X.1 1 1).toInt ≤ 8 := by
      have := And.intro hP.1.2.1 hP.1.2.2.1
      rw [comb_lt (by omega)] at this
      exact this
    by_cases hi : (i : Int) < n.toInt
    · show ∃ l v, poo_joinFrom_L9_B N (poo_joinFrom_L9 N w) (96 + nx a) z n c u j X = some (v, jns l X) ∧ mo_swimmers_L49_B N (mo_swimmers_L49 N w) a p n c j Y = some (v, nws l Y) ∧ (X.1 1 1).toInt + l.length ≤ 8 ∧ ∀ q ∈ l, fit4 q
      rw [cs_s ha hj hi hm2.1 hz, ms_s ha hj hi hn (by rw [← hm]; exact hm2) (by rw [hl]; exact hz), hl, ← hm]
      have ht : u.toInt = p.toInt + 4 * i := by
        rcases Nat.eq_zero_or_pos i with h | h
        · rw [hu0 h]; omega
        · exact hu1 h
      rw [← ht]
      by_cases c1 : (0 ≤ u.toInt ∧ u.toInt + 4 ≤ z.toInt) ∧ (X.1 1 1).toInt < 8
      · have en := nx_ti (x := u) c1.1.1
        have ek : u.toInt.toNat = nx u := by omega
        have ef : four (X.2 (96 + nx a)) (nx u) = four (fun k => Y.2 132 (60 * nx a + k)) (nx u) := by
          unfold four
          rw [hr _ (by omega), hr _ (by omega), hr _ (by omega), hr _ (by omega)]
        rw [ek, ← ef]
        by_cases c2 : fit4 (four (X.2 (96 + nx a)) (nx u))
        · rw [if_pos ⟨c1.1, c1.2, c2⟩, if_pos ⟨c1.1, c1.2, c2⟩]
          generalize four (X.2 (96 + nx a)) (nx u) = q at c2 ⊢
          have e2 : ((jn X q).1 1 1).toInt = (X.1 1 1).toInt + 1 := by
            rw [jn_m, ti_add] <;> simp only [Int32.reduceToInt] <;> omega
          have hP2 : PoolI (comb (jn X q) (nw Y q)) := (joins_all [q] X Y hP (by rw [List.length_singleton]; omega)).1
          obtain ⟨l, v, r1, r2, r3, r3'⟩ := ih (i + 1) (u + 4) (j + 1) (c + 1) (jn X q) (nw Y q) (by omega) (by omega) (by rw [ti_add] <;> simp only [Int32.reduceToInt] <;> omega) (fun h => by omega) (fun _ => by rw [ti_add] <;> simp only [Int32.reduceToInt] <;> omega) hP2 (by rw [← hl]; unfold nw newX; simp only [stI_at, stI_2at, stL_at, stL_1at, Nat.reduceEqDiff, false_and, and_false, true_and, and_true, and_self, ↓reduceIte]) (fun k hk => by rw [jn_2, nw_2]; exact hr k hk)
          exact ⟨q :: l, v, r1, r2, by rw [List.length_cons]; omega, fun q' hq => by
            rcases List.mem_cons.mp hq with e | e
            · rw [e]; exact c2
            · exact r3' q' e⟩
        · rw [if_neg (fun h => c2 h.2.2), if_neg (fun h => c2 h.2.2)]
          exact ⟨[], c, rfl, rfl, by rw [List.length_nil]; omega, fun q hq => absurd hq List.not_mem_nil⟩
      · rw [if_neg (fun h => c1 ⟨h.1, h.2.1⟩), if_neg (fun h => c1 ⟨h.1, h.2.1⟩)]
        exact ⟨[], c, rfl, rfl, by rw [List.length_nil]; omega, fun q hq => absurd hq List.not_mem_nil⟩
    · refine ⟨[], c, ?_, ?_, by rw [List.length_nil]; omega, fun q hq => absurd hq List.not_mem_nil⟩
      · show poo_joinFrom_L9_B N _ (96 + nx a) z n c u j X = _
        unfold poo_joinFrom_L9_B
        rw [if_neg (by rw [Int32.lt_iff_toInt_lt]; omega)]
        rfl
      · show mo_swimmers_L49_B N _ a p n c j Y = _
        unfold mo_swimmers_L49_B
        rw [if_neg (by rw [Int32.lt_iff_toInt_lt]; omega)]
        rfl
theorem op_swimmers (N : Nat) (hN : 4096 ≤ N) (a p n : Int32) (X : St) (hp : PoolI X) (hs : ISh X) (hw : IWy X) : ∃ v X1 X2, el_swimmers N a p n X = some (v, X1) ∧ mo_swimmers N a p n X1 = some (v, X2) ∧ PoolI X2 ∧ ∃ l, (∀ q ∈ l, fit4 q) ∧ (∀ o i, o < 102 → X2.1 o i = (jns l X).1 o i) ∧ (X.1 1 1).toInt + l.length ≤ 8 := by
  have hp0 : PoolI X ∧ ∃ l : List Q4, (∀ q ∈ l, fit4 q) ∧ (∀ o i, o < 102 → X.1 o i = (jns l X).1 o i) ∧ (X.1 1 1).toInt + l.length ≤ 8 := ⟨hp, [], fun q hq => absurd hq List.not_mem_nil, fun o i _ => rfl, by have := hp.1.2.2.1; rw [List.length_nil]; omega⟩
  by_cases ha : 0 ≤ a.toInt ∧ a.toInt ≤ 5
  · have hx := nx_ti ha.1
    have hsh : ¬ she_isShelf a = 0 := fun h => by have := shelf0.mp h; omega
    have hmh : ¬ mo_isShelf a = 0 := fun h => by
      have := within0.mp h
      rw [show (0 : Int32).toInt = 0 by decide, show (5 : Int32).toInt = 5 by decide] at this
      omega
    have hb : inB a 6 = true := by rw [inB_iff]; omega
    by_cases hc : 1 ≤ n.toInt ∧ n.toInt ≤ 8
    · have n1 : ¬ n < 1 := by rw [Int32.lt_iff_toInt_lt, show (1 : Int32).toInt = 1 by decide]; omega
      have n2 : ¬ (8 : Int32) < n := by rw [Int32.lt_iff_toInt_lt, show (8 : Int32).toInt = 8 by decide]; omega
      have n3 : ¬ mo_within n 1 8 = 0 := fun h => by
        have := within0.mp h
        rw [show (1 : Int32).toInt = 1 by decide, show (8 : Int32).toInt = 8 by decide] at this
        omega
      unfold el_swimmers mo_swimmers
      rw [if_neg hsh, if_neg n1, if_neg n2, refus_s ha, Option.bind_some]
      obtain ⟨g1, g2, g3, g4, g5⟩ := hs (nx a) (by omega)
      obtain ⟨-, w2, w3, -⟩ := hw
      by_cases c1 : (X.1 92 (nx a)).toInt = -1
      · rw [if_pos c1]
        refine ⟨0, X, X, ?_, ?_, hp0⟩
        · exact if_pos rfl
        · rw [if_neg hmh, if_neg n3, if_pos hb]
          have e : X.1 130 (nx a) = -1 := by
            rcases g1 with h | h | h
            · exact h.2
            · omega
            · have := congrArg Int32.toInt h.1
              rw [show (5 : Int32).toInt = 5 by decide] at this
              omega
          rw [if_pos e]
      · rw [if_neg c1]
        by_cases c2 : (X.1 92 (nx a)).toInt = (0 : Int32).toInt
        · rw [if_pos c2]
          have c3 := c2
          rw [show (0 : Int32).toInt = 0 by decide] at c3
          have e : X.1 130 (nx a) = 0 := by
            rcases g1 with h | h | h
            · exact absurd (by rw [h.1]; decide) c1
            · rw [h.2.2]; exact ti_eq.mpr c2
            · have := congrArg Int32.toInt h.1
              rw [show (5 : Int32).toInt = 5 by decide] at this
              omega
          obtain ⟨l, v, r1, r2, r3, r3'⟩ := sws (N := N) (p := p) (z := X.1 94 (nx a)) ha hc.2 ⟨g3, g4⟩ N 0 p 0 0 X X (by omega) (by omega) rfl (fun _ => rfl) (fun h => by omega) (by rw [comb_self]; exact hp) g2 (fun k hk => (g5 k hk).symm)
          have q := joins_all l X X (by rw [comb_self]; exact hp) r3
          have j1 : ∀ o i, o < 102 → (jns l X).1 o i = (comb (jns l X) (nws l X)).1 o i := fun o i h => (comb_lt h).symm
          -- what the model does upon the class's state
          have hP2 : PoolI (comb X (jns l X)) := by
            refine PoolI.cg (X := X) (fun o i => ?_) hp
            by_cases h : o < 102
            · exact comb_lt h
            · rw [comb_ge (by omega)]; exact jns_at (by omega) l X
          obtain ⟨l2, v2, r4, r5, r6, -⟩ := sws (N := N) (p := p) (z := X.1 94 (nx a)) ha hc.2 ⟨g3, g4⟩ N 0 p 0 0 X (jns l X) (by omega) (by omega) rfl (fun _ => rfl) (fun h => by omega) hP2 (by rw [jns_at (by omega)]; exact g2) (fun k hk => by rw [jns_2]; exact (g5 k hk).symm)
          have q2 := joins_all l2 X (jns l X) hP2 r6
          rw [r1] at r4
          injection r4 with r4
          injection r4 with r7 r8
          refine ⟨v, jns l X, nws l2 (jns l X), ?_, ?_, ?_, l, r3', fun o i ho => nws_at ho _ _, r3⟩
          · rw [if_neg (by decide), if_pos rfl]
            unfold she_elements she_size
            rw [if_neg hsh, if_pos hb, Option.bind_some, if_neg hsh, if_pos hb, Option.bind_some]
            show (poo_joinFrom_L9 N N (96 + nx a) (X.1 94 (nx a)) n 0 p 0 X).bind _ = _
            rw [r1]
            rfl
          · rw [if_neg hmh, if_neg n3, if_pos hb, jns_at (by omega), e, if_neg (by decide), if_pos hb, if_pos rfl, r7]
            exact r5
          · refine PoolI.cg (fun o i => ?_) q2.1
            by_cases h : o < 102
            · rw [comb_lt h, nws_at h, r8]
            · rw [comb_ge (by omega)]
        · rw [if_neg c2]
          refine ⟨-12, X, X, ?_, ?_, hp0⟩
          · rw [if_neg (by decide), if_neg (by decide)]
          · rw [if_neg hmh, if_neg n3, if_pos hb]
            have e : X.1 130 (nx a) ≠ -1 ∧ X.1 130 (nx a) ≠ 0 := by
              rcases g1 with h | h | h
              · exact absurd (by rw [h.1]; decide) c1
              · rw [h.2.2]
                exact ⟨fun z => c1 (by rw [z]; decide), fun z => c2 (by rw [z])⟩
              · have u : (X.1 130 (nx a)).toInt = 10 + (X.1 93 (nx a)).toInt := by
                  rw [h.2.1, ti_add] <;> simp only [Int32.reduceToInt] <;> omega
                exact ⟨fun z => by rw [z, show (-1 : Int32).toInt = -1 by decide] at u; omega, fun z => by rw [z, show (0 : Int32).toInt = 0 by decide] at u; omega⟩
            rw [if_neg e.1, if_pos hb, if_neg e.2]
    · refine ⟨-1, X, X, ?_, ?_, hp0⟩
      · unfold el_swimmers
        rw [if_neg hsh]
        by_cases h1 : n.toInt < 1
        · rw [if_pos (by rw [Int32.lt_iff_toInt_lt, show (1 : Int32).toInt = 1 by decide]; exact h1)]
        · rw [if_neg (by rw [Int32.lt_iff_toInt_lt, show (1 : Int32).toInt = 1 by decide]; exact h1), if_pos (by rw [Int32.lt_iff_toInt_lt, show (8 : Int32).toInt = 8 by decide]; omega)]
      · unfold mo_swimmers
        rw [if_neg hmh, if_pos (within0.mpr (by rw [show (1 : Int32).toInt = 1 by decide, show (8 : Int32).toInt = 8 by decide]; omega))]
  · refine ⟨-1, X, X, ?_, ?_, hp0⟩
    · unfold el_swimmers
      rw [if_pos (shelf0.mpr (by omega))]
    · unfold mo_swimmers
      have hmh : mo_isShelf a = 0 := within0.mpr (by rw [show (0 : Int32).toInt = 0 by decide, show (5 : Int32).toInt = 5 by decide]; omega)
      rw [if_pos hmh]
