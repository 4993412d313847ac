/-! swimmers -/
abbrev Q4 : Type := Int32 × Int32 × Int32 × Int32
def jn (X : St) (z : Q4) : St := joinX z.1 z.2.1 z.2.2.1 z.2.2.2 X
def nw (X : St) (z : Q4) : St := newX z.1 z.2.1 z.2.2.1 z.2.2.2 X
theorem jn_at {X : St} {z : Q4} {o i : Nat} (h : 102 ≤ o) : (jn X z).1 o i = X.1 o i := by
  unfold jn joinX
  rw [stI_at, if_neg (by omega), stI_at, if_neg (by omega), stI_at, if_neg (by omega), stI_at, if_neg (by omega), stI_at, if_neg (by omega), stI_at, if_neg (by omega)]
theorem nw_at {X : St} {z : Q4} {o i : Nat} (h : o < 102) : (nw X z).1 o i = X.1 o i := by
  unfold nw newX
  rw [stI_at, if_neg (by omega), stI_at, if_neg (by omega), stI_at, if_neg (by omega), stI_at, if_neg (by omega), stI_at, if_neg (by omega), stI_at, if_neg (by omega), stI_at, if_neg (by omega), stI_at, if_neg (by omega), stI_at, if_neg (by omega)]
theorem jn_2 {X : St} {z : Q4} : (jn X z).2 = X.2 := rfl
theorem nw_2 {X : St} {z : Q4} : (nw X z).2 = X.2 := rfl
theorem jn_m {X : St} {z : Q4} : (jn X z).1 1 1 = X.1 1 1 + 1 := by
  unfold jn joinX
  simp only [stI_at, stI_2at, stL_at, stL_1at, Nat.reduceEqDiff, false_and, and_false, true_and, and_true, and_self, ↓reduceIte]
theorem nw_m {X : St} {z : Q4} : (nw X z).1 102 0 = X.1 102 0 + 1 := by
  unfold nw newX
  simp only [stI_at, stI_2at, stL_at, stL_1at, Nat.reduceEqDiff, false_and, and_false, true_and, and_true, and_self, ↓reduceIte]
/-- the class's part of the one, the model's of the other -/
def comb (X Y : St) : St := (fun o i => if o < 102 then X.1 o i else Y.1 o i, fun o i => if o < 102 then X.2 o i else Y.2 o i)
theorem comb_lt {X Y : St} {o i : Nat} (h : o < 102) : (comb X Y).1 o i = X.1 o i := if_pos h
theorem comb_ge {X Y : St} {o i : Nat} (h : 102 ≤ o) : (comb X Y).1 o i = Y.1 o i := if_neg (by omega)
theorem comb_self {X : St} : comb X X = X := by
  unfold comb
  refine Prod.ext (funext fun o => funext fun i => ?_) (funext fun o => funext fun i => ?_)
  · show (if o < 102 then X.1 o i else X.1 o i) = X.1 o i
    rw [ite_self]
  · show (if o < 102 then X.2 o i else X.2 o i) = X.2 o i
    rw [ite_self]
theorem comb_step {X Y : St} {z : Q4} : ∀ o i, (nw (jn (comb X Y) z) z).1 o i = (comb (jn X z) (nw Y z)).1 o i := by
  intro o i
  by_cases h : o < 102
  · rw [nw_at h, comb_lt h]
    unfold jn joinX
    simp only [stI_at, comb_lt (X := X) (Y := Y) h, comb_lt (X := X) (Y := Y) (show 1 < 102 by omega)]
  · have h2 : 102 ≤ o := by omega
    rw [comb_ge h2]
    have e : (jn (comb X Y) z).1 102 0 = Y.1 102 0 := by rw [jn_at (by omega), comb_ge (by omega)]
    have e2 : (jn (comb X Y) z).1 o i = Y.1 o i := by rw [jn_at h2, comb_ge h2]
    unfold nw newX
    simp only [stI_at]
    have e3 : ∀ p q, (jn (comb X Y) z).1 102 0 = p → Y.1 102 0 = q → p = q := fun p q h3 h4 => by rw [← h3, ← h4, e]
    simp only [Nat.reduceEqDiff, false_and, ↓reduceIte, e, e2]
def jns (l : List Q4) (X : St) : St := l.foldl jn X
def nws (l : List Q4) (X : St) : St := l.foldl nw X
theorem jns_at {o i : Nat} (h : 102 ≤ o) : ∀ (l : List Q4) (X : St), (jns l X).1 o i = X.1 o i := by
  intro l
  induction l with
  | nil => intro X; rfl
  | cons c l ih => intro X; exact (ih (jn X c)).trans (jn_at h)
theorem nws_at {o i : Nat} (h : o < 102) : ∀ (l : List Q4) (X : St), (nws l X).1 o i = X.1 o i := by
  intro l
  induction l with
  | nil => intro X; rfl
  | cons c l ih => intro X; exact (ih (nw X c)).trans (nw_at h)
theorem jns_2 : ∀ (l : List Q4) (X : St), (jns l X).2 = X.2 := by
  intro l
  induction l with
  | nil => intro X; rfl
  | cons c l ih => intro X; exact (ih (jn X c)).trans jn_2
theorem nws_2 : ∀ (l : List Q4) (X : St), (nws l X).2 = X.2 := by
  intro l
  induction l with
  | nil => intro X; rfl
  | cons c l ih => intro X; exact (ih (nw X c)).trans nw_2
/-- what a pool keeps, told of the values alone -/
def PoolI (X : St) : Prop := IPool X ∧ ITir X ∧ IZer X ∧ ILat X
theorem PoolI.cg {X Y : St} (h : ∀ o i, Y.1 o i = X.1 o i) (hX : PoolI X) : PoolI Y := by
  have e : Y.1 = X.1 := funext fun o => funext fun i => h o i
  unfold PoolI IPool ITir IZer ILat at *
  rw [e]
  exact hX
theorem joins_all : ∀ (l : List Q4) (X Y : St), PoolI (comb X Y) → (X.1 1 1).toInt + l.length ≤ 8 → PoolI (comb (jns l X) (nws l Y)) ∧ ((jns l X).1 1 1).toInt = (X.1 1 1).toInt + l.length := by
  intro l
  induction l with
  | nil => intro X Y h _; exact ⟨h, by show (X.1 1 1).toInt = (X.1 1 1).toInt + ((0 : Nat) : Int); omega⟩
  | cons z l ih =>
    intro X Y h hl
    rw [List.length_cons] at hl
    have e1 : (comb X Y).1 1 1 = X.1 1 1 := comb_lt (by omega)
    obtain ⟨h1, h2, h3, h4⟩ := h
    obtain ⟨j1, j2, j3, j4, j5⟩ := joined (p := z.1) (q := z.2.1) (t := z.2.2.1) (s := z.2.2.2) h1 h2 h3 h4 (by rw [e1]; omega)
    have p1 : PoolI (comb (jn X z) (nw Y z)) := PoolI.cg (fun o i => (comb_step o i).symm) (X := nw (jn (comb X Y) z) z) ⟨j1, j2, j3, j4⟩
    have hm := h1.2.1
    rw [e1] at hm
    have e2 : ((jn X z).1 1 1).toInt = (X.1 1 1).toInt + 1 := by
      rw [jn_m, ti_add] <;> simp only [Int32.reduceToInt] <;> omega
    obtain ⟨q1, q2⟩ := ih (jn X z) (nw Y z) p1 (by omega)
    refine ⟨q1, ?_⟩
    show ((jns l (jn X z)).1 1 1).toInt = _
    rw [q2, e2, List.length_cons]
    omega
