/-! swimmers -/
abbrev Q4 : Type := Int32 × Int32 × Int32 × Int32
def jn (X : St) (z : Q4) : St := joinX z.1 z.2.1 z.2.2.1 z.2.2.2 X
def nw (X : St) (z : Q4) : St := newX z.1 z.2.1 z.2.2.1 z.2.2.2 X
theorem jn_at {X : St} {z : Q4} {o i : Nat} (h : 102 ≤ o) : (jn X z).1 o i = X.1 o i := by
  unfold jn joinX
  rw [stI_at, if_neg (by omega), stI_at, if_neg (by omega), stI_at, if_neg (by omega), stI_at, if_neg (by omega), stI_at, if_neg (by omega), stI_at, if_neg (by omega)]
theorem nw_at {X : St} {z : Q4} {o i : Nat} (h : o < 102) : (nw X z).1 o i = X.1 o i := by
  unfold nw newX
  rw [stI_at, if_neg (by omega), stI_at, if_neg (by omega), stI_at, if_neg (by omega), stI_at, if_neg (by omega), stI_at, if_neg (by omega), stI_at, if_neg (by omega), stI_at, if_neg (by omega), stI_at, if_neg (by omega), stI_at, if_neg (by omega)]
theorem jn_2 {X : St} {z : Q4} : (jn X z).2 = X.2 := rfl
theorem nw_2 {X : St} {z : Q4} : (nw X z).2 = X.2 := rfl
theorem jn_m {X : St} {z : Q4} : (jn X z).1 1 1 = X.1 1 1 + 1 := by
  unfold jn joinX
  simp only [stI_at, stI_2at, stL_at, stL_1at, Nat.reduceEqDiff, false_and, and_false, true_and, and_true, and_self, ↓reduceIte]
theorem nw_m {X : St} {z : Q4} : (nw X z).1 102 0 = X.1 102 0 + 1 := by
  unfold nw newX
  simp only [stI_at, stI_2at, stL_at, stL_1at, Nat.reduceEqDiff, false_and, and_false, true_and, and_true, and_self, ↓reduceIte]
/-- the class's part of the one, the model's of the other -/
def comb (X Y : St) : St := (fun o i => if o < 102 then X.1 o i else Y.1 o i, fun o i => if o < 102 then X.2 o i else Y.2 o i)
theorem comb_lt {X Y : St} {o i : Nat} (h : o < 102) : (comb X Y).1 o i = X.1 o i := if_pos h
theorem comb_ge {X Y : St} {o i : Nat} (h : 102 ≤ o) : (comb X Y).1 o i = Y.1 o i := if_neg (by omega)
theorem comb_self {X : St} : comb X X = X := by
  unfold comb
  refine Prod.ext (funext fun o => funext fun i => ?_) (funext fun o => funext fun i => ?_)
  · show (if o < 102 then X.1 o i else X.1 o i) = X.1 o i
    rw [ite_self]
  · show (if o < 102 then X.2 o i else X.2 o i) = X.2 o i
    rw [ite_self]
theorem comb_step {X Y : St} {z : Q4} : ∀ o i, (nw (jn (comb X Y) z) z).1 o i = (comb (jn X z) (nw Y z)).1 o i := by
  intro o i
  by_cases h : o < 102
  · rw [nw_at h, comb_lt h]
    unfold jn joinX
    simp only [stI_at, comb_lt (X := X) (Y := Y) h, comb_lt (X := X) (Y := Y) (show 1 < 102 by omega)]
  · have h2 : 102 ≤ o := by omega
    rw [comb_ge h2]
    have e : (jn (comb X Y) z).1 102 0 = Y.1 102 0 := by rw [jn_at (by omega), comb_ge (by omega)]
    have e2 : (jn (comb X Y) z).1 o i = Y.1 o i := by rw [jn_at h2, comb_ge h2]
    unfold nw newX
    simp only [stI_at]
    have e3 : ∀ p q, (jn (comb X Y) z).1 102 0 = p → Y.1 102 0 = q → p = q := fun p q h3 h4 => by rw [← h3, ← h4, e]
    simp only [Nat.reduceEqDiff, false_and, ↓reduceIte, e, e2]
def jns (l : List Q4) (X : St) : St := l.foldl jn X
def nws (l : List Q4) (X : St) : St := l.foldl nw X
theorem jns_at {o i : Nat} (h : 102 ≤ o) : ∀ (l : List Q4) (X : St), (jns l X).1 o i = X.1 o i := by
  intro l
  induction l with
  | nil => intro X; rfl
  | cons c l ih => intro X; exact (ih (jn X c)).trans (jn_at h)
theorem nws_at {o i : Nat} (h : o < 102) : ∀ (l : List Q4) (X : St), (nws l X).1 o i = X.1 o i := by
  intro l
  induction l with
  | nil => intro X; rfl
  | cons c l ih => intro X; exact (ih (nw X c)).trans (nw_at h)
theorem jns_2 : ∀ (l : List Q4) (X : St), (jns l X).2 = X.2 := by
  intro l
  induction l with
  | nil => intro X; rfl
  | cons c l ih => intro X; exact (ih (jn X c)).trans jn_2
theorem nws_2 : ∀ (l : List Q4) (X : St), (nws l X).2 = X.2 := by
  intro l
  induction l with
  | nil => intro X; rfl
  | cons c l ih => intro X; exact (ih (nw X c)).trans nw_2
/-- what a pool keeps, told of the values alone -/
def PoolI (X : St) : Prop := IPool X ∧ ITir X ∧ IZer X ∧ ILat X
theorem PoolI.cg {X Y : St} (h : ∀ o i, Y.1 o i = X.1 o i) (hX : PoolI X) : PoolI Y := by
  have e : Y.1 = X.1 := funext fun o => funext fun i => h o i
  unfold PoolI IPool ITir IZer ILat at *
  rw [e]
  exact hX
theorem joins_all : ∀ (l : List Q4) (X Y : St), PoolI (comb X Y) → (X.1 1 1).toInt + l.length ≤ 8 → PoolI (comb (jns l X) (nws l Y)) ∧ ((jns l X).1 1 1).toInt = (X.1 1 1).toInt + l.length := by
  intro l
  induction l with
  | nil => intro X Y h _; exact ⟨h, by show (X.1 1 1).toInt = (X.1 1 1).toInt + ((0 : Nat) : Int); omega⟩
  | cons z l ih =>
    intro X Y h hl
    rw [List.length_cons] at hl
    have e1 : (comb X Y).1 1 1 = X.1 1 1 := comb_lt (by omega)
    obtain ⟨h1, h2, h3, h4⟩ := h
    obtain ⟨j1, j2, j3, j4, j5⟩ := joined (p := z.1) (q := z.2.1) (t := z.2.2.1) (s := z.2.2.2) h1 h2 h3 h4 (by rw [e1]; omega)
    have p1 : PoolI (comb (jn X z) (nw Y z)) := PoolI.cg (fun o i => (comb_step o i).symm) (X := nw (jn (comb X Y) z) z) ⟨j1, j2, j3, j4⟩
    have hm := h1.2.1
    rw [e1] at hm
    have e2 : ((jn X z).1 1 1).toInt = (X.1 1 1).toInt + 1 := by
      rw [jn_m, ti_add] <;> simp only [Int32.reduceToInt] <;> omega
    obtain ⟨q1, q2⟩ := ih (jn X z) (nw Y z) p1 (by omega)
    refine ⟨q1, ?_⟩
    show ((jns l (jn X z)).1 1 1).toInt = _
    rw [q2, e2, List.length_cons]
    omega
theorem lgc_lt {x : Int64} : lg_cmp x 0 < 0 ↔ x.toInt < 0 := by
  have e0 : (0 : Int64).toInt = 0 := by decide
  unfold lg_cmp
  by_cases h1 : x > 0
  · rw [if_pos h1]
    have h2 := Int64.lt_iff_toInt_lt.mp h1
    rw [e0] at h2
    exact ⟨fun h => absurd h (by decide), fun h => by omega⟩
  · rw [if_neg h1]
    have h2 : ¬ (0 : Int64).toInt < x.toInt := fun h => h1 (Int64.lt_iff_toInt_lt.mpr h)
    rw [e0] at h2
    by_cases h4 : x = 0
    · rw [if_pos h4]
      have h5 : x.toInt = 0 := by rw [h4]; decide
      exact ⟨fun h => absurd h (by decide), fun h => by omega⟩
    · rw [if_neg h4]
      have h5 : x.toInt ≠ 0 := fun h => h4 (Int64.toInt_inj.mp (by rw [h]; decide))
      exact ⟨fun _ => by omega, fun _ => by decide⟩
theorem off4 {p v : Int32} {i : Nat} (hv : v.toInt = i) (hi : i ≤ 8) : (p.toInt64 + (4 : Int64) * v.toInt64).toInt = p.toInt + 4 * i ∧ (p.toInt64 + (4 : Int64) * v.toInt64 + 4).toInt = p.toInt + 4 * i + 4 ∧ (0 ≤ p.toInt + 4 * i → p.toInt + 4 * i ≤ 60 → (p.toInt64 + (4 : Int64) * v.toInt64).toInt32.toInt = p.toInt + 4 * i) := by
  have h1 := ti_rng p
  have e4 : (4 : Int64).toInt = 4 := by decide
  have m : ((4 : Int64) * v.toInt64).toInt = 4 * i := by
    rw [Int64.toInt_mul, Int32.toInt_toInt64, e4, hv, Int.bmod_eq_of_le] <;> omega
  have s : (p.toInt64 + (4 : Int64) * v.toInt64).toInt = p.toInt + 4 * i := by
    rw [Int64.toInt_add, m, Int32.toInt_toInt64, Int.bmod_eq_of_le] <;> omega
  refine ⟨s, ?_, fun g1 g2 => ?_⟩
  · rw [Int64.toInt_add, s, e4, Int.bmod_eq_of_le] <;> omega
  · rw [Int64.toInt_toInt32, s, Int.bmod_eq_of_le] <;> omega
theorem sh_r : ∀ s, s < 6 → isR (96 + s) = true := by decide
def four (f : Nat → Int64) (k : Nat) : Q4 := ((f k).toInt32, (f (k + 1)).toInt32, (f (k + 2)).toInt32, (f (k + 3)).toInt32)
abbrev fit4 (z : Q4) : Prop := (0 ≤ z.1.toInt ∧ z.1.toInt ≤ 15) ∧ (0 ≤ z.2.1.toInt ∧ z.2.1.toInt ≤ 15) ∧ (1 ≤ z.2.2.1.toInt ∧ z.2.2.1.toInt ≤ 9) ∧ (-9 ≤ z.2.2.2.toInt ∧ z.2.2.2.toInt ≤ 9)
theorem nx_add {u d : Int32} (hu : 0 ≤ u.toInt) (hd : 0 ≤ d.toInt) (h : u.toInt + d.toInt ≤ 2147483647) : (u + d).toInt = u.toInt + d.toInt ∧ nx (u + d) = nx u + nx d := by
  have e : (u + d).toInt = u.toInt + d.toInt := by rw [ti_add] <;> omega
  have h1 := nx_ti hu
  have h2 := nx_ti hd
  have h3 := nx_ti (x := u + d) (by omega)
  exact ⟨e, by omega⟩
theorem four_s {a u : Int32} {X : St} (ha : 0 ≤ a.toInt ∧ a.toInt ≤ 5) (hu : 0 ≤ u.toInt ∧ u.toInt ≤ 56) (h0 : 0 ≤ (X.1 1 1).toInt) (h1 : (X.1 1 1).toInt < 8) : poo_joinFour (96 + nx a) u X = if fit4 (four (X.2 (96 + nx a)) (nx u)) then some (1, jn X (four (X.2 (96 + nx a)) (nx u))) else some (0, X) := by
  have hn := nx_ti ha.1
  obtain ⟨a1, b1⟩ := nx_add (u := u) (d := 1) hu.1 (by decide) (by rw [show (1 : Int32).toInt = 1 by decide]; omega)
  obtain ⟨a2, b2⟩ := nx_add (u := u) (d := 2) hu.1 (by decide) (by rw [show (2 : Int32).toInt = 2 by decide]; omega)
  obtain ⟨a3, b3⟩ := nx_add (u := u) (d := 3) hu.1 (by decide) (by rw [show (3 : Int32).toInt = 3 by decide]; omega)
  rw [show (1 : Int32).toInt = 1 by decide] at a1
  rw [show (2 : Int32).toInt = 2 by decide] at a2
  rw [show (3 : Int32).toInt = 3 by decide] at a3
  rw [show nx (1 : Int32) = 1 by decide] at b1
  rw [show nx (2 : Int32) = 2 by decide] at b2
  rw [show nx (3 : Int32) = 3 by decide] at b3
  have hs : nx a < 6 := by omega
  have o0 : okJ (96 + nx a) u = true := (okJ_sh hs).mpr (by omega)
  have o1 : okJ (96 + nx a) (u + 1) = true := (okJ_sh hs).mpr (by omega)
  have o2 : okJ (96 + nx a) (u + 2) = true := (okJ_sh hs).mpr (by omega)
  have o3 : okJ (96 + nx a) (u + 3) = true := (okJ_sh hs).mpr (by omega)
  have z0 : ¬ u < 0 := by rw [Int32.lt_iff_toInt_lt, show (0 : Int32).toInt = 0 by decide]; omega
  have z1 : u + 3 < Int32.ofNat (oln (96 + nx a)) := by
    rw [(sh_tab (nx a) hs).2.2, Int32.lt_iff_toInt_lt, a3, show (Int32.ofNat 60).toInt = 60 by decide]
    omega
  unfold poo_joinFour
  rw [if_neg z0, if_pos (sh_r _ hs), if_pos z1, if_pos o0, if_pos o1, Option.bind_some, if_pos o2, Option.bind_some, if_pos o3, Option.bind_some, swimr_s, b1, b2, b3]
  by_cases hf : fit4 (four (X.2 (96 + nx a)) (nx u))
  · have hf2 := hf
    unfold fit4 four at hf2
    rw [if_pos hf, if_pos hf2, Option.bind_some, if_neg (by decide), join_s h0 h1, Option.bind_some]
    have z2 : ¬ X.1 1 1 < 0 := by rw [Int32.lt_iff_toInt_lt, show (0 : Int32).toInt = 0 by decide]; omega
    exact if_neg z2
  · have hf2 := hf
    unfold fit4 four at hf2
    rw [if_neg hf, if_neg hf2, Option.bind_some, if_pos rfl]
