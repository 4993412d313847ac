/-! bodies and their counts -/
theorem op_body (a : Int32) (X : St) (hw : IWy X) : ∃ v X1 X2, el_body a X = some (v, X1) ∧ mo_body a X1 = some (v, X2) ∧ IWy X2 ∧ (∀ s, s < 6 → X2.1 92 s = X.1 92 s ∧ X2.1 93 s = X.1 93 s ∧ X2.1 130 s = X.1 130 s) ∧ (X.1 88 2).toInt ≤ (X2.1 88 2).toInt := by
  obtain ⟨w1, w2, w3, w4, w5, w6, w7⟩ := hw
  by_cases ha : a.toInt < 0 ∨ 7 < a.toInt
  · refine ⟨-1, X, X, ?_, ?_, ⟨w1, w2, w3, w4, w5, w6, w7⟩, fun s _ => ⟨rfl, rfl, rfl⟩, by omega⟩
    · unfold el_body
      simp (disch := omega) only [↓kind0, ↓within0, ↓has0, ↓tapFull0, inB_iff, Int32.lt_iff_toInt_lt, ti_eq, Int32.reduceToInt, if_pos, if_neg, Option.bind_some, stI_at, stI_2at, Nat.reduceEqDiff, Nat.reduceBEq, false_and, and_false, true_and, and_self, and_true, ↓reduceIte]
    · unfold mo_body
      simp (disch := omega) only [↓within0, ↓has0, ↓tapFull0, inB_iff, Int32.lt_iff_toInt_lt, ti_eq, Int32.reduceToInt, if_pos, if_neg, Option.bind_some, stI_at, stI_2at, Nat.reduceEqDiff, Nat.reduceBEq, false_and, and_false, true_and, and_self, and_true, ↓reduceIte]
  · by_cases hf : (X.1 88 2).toInt < 50
    · have hn := nx_ti w2
      have e1 : (X.1 88 2 + 1).toInt = (X.1 88 2).toInt + 1 := by rw [ti_add] <;> simp only [Int32.reduceToInt] <;> omega
      have e2 : X.1 88 2 + 1 - 1 = X.1 88 2 := by rw [ti_eq, ti_sub, e1] <;> simp only [Int32.reduceToInt, e1] <;> omega
      refine ⟨X.1 88 2, stI (stI X 89 (nx (X.1 88 2)) a) 88 2 (X.1 88 2 + 1), stI (stI (stI (stI X 89 (nx (X.1 88 2)) a) 88 2 (X.1 88 2 + 1)) 128 (nx (X.1 88 2)) a) 102 37 (X.1 88 2 + 1), ?_, ?_, ⟨?_, ?_, ?_, fun i hi => ?_, ?_, ?_, fun i hi => ?_⟩, fun s hs => ?_, ?_⟩
      · simp (disch := omega) only [el_body, ↓kind0, way_isFull, way_add, e2, ↓within0, ↓has0, ↓tapFull0, inB_iff, Int32.lt_iff_toInt_lt, ti_eq, Int32.reduceToInt, if_pos, if_neg, Option.bind_some, stI_at, stI_2at, Nat.reduceEqDiff, Nat.reduceBEq, false_and, and_false, true_and, and_self, and_true, ↓reduceIte]
      · simp (disch := omega) only [mo_body, w1, ↓within0, ↓has0, ↓tapFull0, inB_iff, Int32.lt_iff_toInt_lt, ti_eq, Int32.reduceToInt, if_pos, if_neg, Option.bind_some, stI_at, stI_2at, Nat.reduceEqDiff, Nat.reduceBEq, false_and, and_false, true_and, and_self, and_true, ↓reduceIte]
      · simp only [stI_at, stI_2at, stL_at, stL_1at, Nat.reduceEqDiff, false_and, and_false, true_and, and_true, and_self, ↓reduceIte]
      · simp only [stI_at, stI_2at, stL_at, stL_1at, Nat.reduceEqDiff, false_and, and_false, true_and, and_true, and_self, ↓reduceIte]
        omega
      · simp only [stI_at, stI_2at, stL_at, stL_1at, Nat.reduceEqDiff, false_and, and_false, true_and, and_true, and_self, ↓reduceIte]
        omega
      · simp only [stI_at, stI_2at, stL_at, stL_1at, Nat.reduceEqDiff, false_and, and_false, true_and, and_true, and_self, ↓reduceIte] at hi ⊢
        by_cases hi2 : i = nx (X.1 88 2)
        · simp only [hi2, ↓reduceIte]
          exact ⟨trivial, by omega⟩
        · simp only [hi2, ↓reduceIte]
          exact w4 i (by omega)
      · simp only [stI_at, stI_2at, stL_at, stL_1at, Nat.reduceEqDiff, false_and, and_false, true_and, and_true, and_self, ↓reduceIte]
        exact w5
      · simp only [stI_at, stI_2at, stL_at, stL_1at, Nat.reduceEqDiff, false_and, and_false, true_and, and_true, and_self, ↓reduceIte]
        exact w6
      · simp only [stI_at, stI_2at, stL_at, stL_1at, Nat.reduceEqDiff, false_and, and_false, true_and, and_true, and_self, ↓reduceIte]
        exact w7 i hi
      · simp only [stI_at, stI_2at, stL_at, stL_1at, Nat.reduceEqDiff, false_and, and_false, true_and, and_true, and_self, ↓reduceIte]
      · simp only [stI_at, stI_2at, stL_at, stL_1at, Nat.reduceEqDiff, false_and, and_false, true_and, and_true, and_self, ↓reduceIte]
        omega
    · have e : X.1 102 37 = 50 := by rw [w1, ti_eq]; simp only [Int32.reduceToInt]; omega
      refine ⟨-3, X, X, ?_, ?_, ⟨w1, w2, w3, w4, w5, w6, w7⟩, fun s _ => ⟨rfl, rfl, rfl⟩, by omega⟩
      · simp (disch := omega) only [el_body, ↓kind0, way_isFull, ↓within0, ↓has0, ↓tapFull0, inB_iff, Int32.lt_iff_toInt_lt, ti_eq, Int32.reduceToInt, if_pos, if_neg, Option.bind_some, stI_at, stI_2at, Nat.reduceEqDiff, Nat.reduceBEq, false_and, and_false, true_and, and_self, and_true, ↓reduceIte]
      · simp (disch := omega) only [mo_body, e, ↓within0, ↓has0, ↓tapFull0, inB_iff, Int32.lt_iff_toInt_lt, ti_eq, Int32.reduceToInt, if_pos, if_neg, Option.bind_some, stI_at, stI_2at, Nat.reduceEqDiff, Nat.reduceBEq, false_and, and_false, true_and, and_self, and_true, ↓reduceIte]
/-- the trace grown by one, on each side -/
def bg (X : St) (k : Int32) : St := if X.1 88 3 < (24 : Int32) then stI (stI X 90 (nx (X.1 88 3)) k) 88 3 (X.1 88 3 + 1) else stI X 88 3 (X.1 88 3 + 1)
def bgs (l : List Int32) (X : St) : St := l.foldl bg X
def rn (X : St) (k : Int32) : St := if X.1 102 39 < (24 : Int32) then stI (stI X 129 (nx (X.1 102 39)) k) 102 39 (X.1 102 39 + 1) else stI X 102 39 (X.1 102 39 + 1)
def rns (l : List Int32) (X : St) : St := l.foldl rn X
theorem bg_at {X : St} {k : Int32} {o i : Nat} (h : ¬ (o = 90 ∨ (o = 88 ∧ i = 3))) : (bg X k).1 o i = X.1 o i := by
  unfold bg
  split
  · rw [stI_at, if_neg (by omega), stI_at, if_neg (by omega)]
  · rw [stI_at, if_neg (by omega)]
theorem bgs_at {l : List Int32} {o i : Nat} (h : ¬ (o = 90 ∨ (o = 88 ∧ i = 3))) : ∀ {X : St}, (bgs l X).1 o i = X.1 o i := by
  induction l with
  | nil => intro X; rfl
  | cons c l ih => intro X; exact (ih (X := bg X c)).trans (bg_at h)
theorem rn_at {X : St} {k : Int32} {o i : Nat} (h : ¬ (o = 129 ∨ (o = 102 ∧ i = 39))) : (rn X k).1 o i = X.1 o i := by
  unfold rn
  split
  · rw [stI_at, if_neg (by omega), stI_at, if_neg (by omega)]
  · rw [stI_at, if_neg (by omega)]
theorem rns_at {l : List Int32} {o i : Nat} (h : ¬ (o = 129 ∨ (o = 102 ∧ i = 39))) : ∀ {X : St}, (rns l X).1 o i = X.1 o i := by
  induction l with
  | nil => intro X; rfl
  | cons c l ih => intro X; exact (ih (X := rn X c)).trans (rn_at h)
theorem bg_2 {X : St} {k : Int32} : (bg X k).2 = X.2 := by unfold bg; split <;> rfl
theorem rn_2 {X : St} {k : Int32} : (rn X k).2 = X.2 := by unfold rn; split <;> rfl
theorem bgs_2 {l : List Int32} : ∀ {X : St}, (bgs l X).2 = X.2 := by
  induction l with
  | nil => intro X; rfl
  | cons c l ih => intro X; exact (ih (X := bg X c)).trans bg_2
theorem rns_2 {l : List Int32} : ∀ {X : St}, (rns l X).2 = X.2 := by
  induction l with
  | nil => intro X; rfl
  | cons c l ih => intro X; exact (ih (X := rn X c)).trans rn_2
theorem bgs_4 {l : List Int32} {X : St} : (bgs l X).1 88 4 = X.1 88 4 := bgs_at (by omega)
theorem bgs_5 {l : List Int32} {X : St} : (bgs l X).1 88 5 = X.1 88 5 := bgs_at (by omega)
theorem rns_k {l : List Int32} {X : St} {i : Nat} : (rns l X).1 128 i = X.1 128 i := rns_at (by omega)
theorem bg_n {X : St} {k : Int32} : (bg X k).1 88 3 = X.1 88 3 + 1 := by
  unfold bg
  split <;> exact stI_self
theorem rn_n {X : St} {k : Int32} : (rn X k).1 102 39 = X.1 102 39 + 1 := by
  unfold rn
  split <;> exact stI_self
theorem bgs_n {l : List Int32} : ∀ {X : St} {c : Nat}, X.1 88 3 = Int32.ofNat c → (bgs l X).1 88 3 = Int32.ofNat (c + l.length) := by
  induction l with
  | nil => intro X c h; exact h
  | cons k l ih =>
    intro X c h
    have e := ih (X := bg X k) (c := c + 1) (by rw [bg_n, h]; exact (Int32.ofNat_add c 1).symm)
    rw [List.length_cons, show c + (l.length + 1) = c + 1 + l.length by omega]
    exact e
theorem rns_n {l : List Int32} : ∀ {X : St} {c : Nat}, X.1 102 39 = Int32.ofNat c → (rns l X).1 102 39 = Int32.ofNat (c + l.length) := by
  induction l with
  | nil => intro X c h; exact h
  | cons k l ih =>
    intro X c h
    have e := ih (X := rn X k) (c := c + 1) (by rw [rn_n, h]; exact (Int32.ofNat_add c 1).symm)
    rw [List.length_cons, show c + (l.length + 1) = c + 1 + l.length by omega]
    exact e
theorem bgn {X : St} {k : Int32} {l : List Int32} (h0 : X.1 88 3 = 0) (hl : l.length < 100) : way_begins k (bgs l X) = some (bgs (l ++ [k]) X) := by
  have h := bgs_n (l := l) (X := X) (c := 0) h0
  have hi : ((bgs l X).1 88 3).toInt = l.length := by rw [h, Nat.zero_add, ti_ofNat (by omega)]
  have e : bgs (l ++ [k]) X = bg (bgs l X) k := by unfold bgs; rw [List.foldl_append]; rfl
  rw [e]
  unfold way_begins bg
  by_cases hc : (bgs l X).1 88 3 < (24 : Int32)
  · have hc2 := Int32.lt_iff_toInt_lt.mp hc
    simp only [Int32.reduceToInt] at hc2
    rw [if_pos hc, if_pos hc, if_pos (inB_iff.mpr (by omega))]
    rfl
  · rw [if_neg hc, if_neg hc]
theorem rnn {X : St} {k : Int32} {l : List Int32} (h0 : X.1 102 39 = 0) (hl : l.length < 100) : mo_ran k (rns l X) = some (rns (l ++ [k]) X) := by
  have h := rns_n (l := l) (X := X) (c := 0) h0
  have hi : ((rns l X).1 102 39).toInt = l.length := by rw [h, Nat.zero_add, ti_ofNat (by omega)]
  have e : rns (l ++ [k]) X = rn (rns l X) k := by unfold rns; rw [List.foldl_append]; rfl
  rw [e]
  unfold mo_ran rn
  by_cases hc : (rns l X).1 102 39 < (24 : Int32)
  · have hc2 := Int32.lt_iff_toInt_lt.mp hc
    simp only [Int32.reduceToInt] at hc2
    rw [if_pos hc, if_pos hc, if_pos (inB_iff.mpr (by omega))]
    rfl
  · rw [if_neg hc, if_neg hc]
/-- the traces alike on two states -/
def TR (X Y : St) : Prop := Y.1 102 39 = X.1 88 3 ∧ 0 ≤ (X.1 88 3).toInt ∧ ∀ i : Nat, i < 24 → (i : Int) < (X.1 88 3).toInt → Y.1 129 i = X.1 90 i
theorem q01 : ((0 : Int32) = 1) = False := eq_false (by decide)
theorem q02 : ((0 : Int32) = 2) = False := eq_false (by decide)
theorem q03 : ((0 : Int32) = 3) = False := eq_false (by decide)
theorem q04 : ((0 : Int32) = 4) = False := eq_false (by decide)
theorem q05 : ((0 : Int32) = 5) = False := eq_false (by decide)
theorem q06 : ((0 : Int32) = 6) = False := eq_false (by decide)
theorem q07 : ((0 : Int32) = 7) = False := eq_false (by decide)
theorem q10 : ((1 : Int32) = 0) = False := eq_false (by decide)
theorem q12 : ((1 : Int32) = 2) = False := eq_false (by decide)
theorem q13 : ((1 : Int32) = 3) = False := eq_false (by decide)
theorem q14 : ((1 : Int32) = 4) = False := eq_false (by decide)
theorem q15 : ((1 : Int32) = 5) = False := eq_false (by decide)
theorem q16 : ((1 : Int32) = 6) = False := eq_false (by decide)
theorem q17 : ((1 : Int32) = 7) = False := eq_false (by decide)
theorem q20 : ((2 : Int32) = 0) = False := eq_false (by decide)
theorem q21 : ((2 : Int32) = 1) = False := eq_false (by decide)
theorem q23 : ((2 : Int32) = 3) = False := eq_false (by decide)
theorem q24 : ((2 : Int32) = 4) = False := eq_false (by decide)
theorem q25 : ((2 : Int32) = 5) = False := eq_false (by decide)
theorem q26 : ((2 : Int32) = 6) = False := eq_false (by decide)
theorem q27 : ((2 : Int32) = 7) = False := eq_false (by decide)
theorem q30 : ((3 : Int32) = 0) = False := eq_false (by decide)
theorem q31 : ((3 : Int32) = 1) = False := eq_false (by decide)
theorem q32 : ((3 : Int32) = 2) = False := eq_false (by decide)
theorem q34 : ((3 : Int32) = 4) = False := eq_false (by decide)
theorem q35 : ((3 : Int32) = 5) = False := eq_false (by decide)
theorem q36 : ((3 : Int32) = 6) = False := eq_false (by decide)
theorem q37 : ((3 : Int32) = 7) = False := eq_false (by decide)
theorem q40 : ((4 : Int32) = 0) = False := eq_false (by decide)
theorem q41 : ((4 : Int32) = 1) = False := eq_false (by decide)
theorem q42 : ((4 : Int32) = 2) = False := eq_false (by decide)
theorem q43 : ((4 : Int32) = 3) = False := eq_false (by decide)
theorem q45 : ((4 : Int32) = 5) = False := eq_false (by decide)
theorem q46 : ((4 : Int32) = 6) = False := eq_false (by decide)
theorem q47 : ((4 : Int32) = 7) = False := eq_false (by decide)
theorem q50 : ((5 : Int32) = 0) = False := eq_false (by decide)
theorem q51 : ((5 : Int32) = 1) = False := eq_false (by decide)
theorem q52 : ((5 : Int32) = 2) = False := eq_false (by decide)
theorem q53 : ((5 : Int32) = 3) = False := eq_false (by decide)
theorem q54 : ((5 : Int32) = 4) = False := eq_false (by decide)
theorem q56 : ((5 : Int32) = 6) = False := eq_false (by decide)
theorem q57 : ((5 : Int32) = 7) = False := eq_false (by decide)
theorem q60 : ((6 : Int32) = 0) = False := eq_false (by decide)
theorem q61 : ((6 : Int32) = 1) = False := eq_false (by decide)
theorem q62 : ((6 : Int32) = 2) = False := eq_false (by decide)
theorem q63 : ((6 : Int32) = 3) = False := eq_false (by decide)
theorem q64 : ((6 : Int32) = 4) = False := eq_false (by decide)
theorem q65 : ((6 : Int32) = 5) = False := eq_false (by decide)
theorem q67 : ((6 : Int32) = 7) = False := eq_false (by decide)
theorem q70 : ((7 : Int32) = 0) = False := eq_false (by decide)
theorem q71 : ((7 : Int32) = 1) = False := eq_false (by decide)
theorem q72 : ((7 : Int32) = 2) = False := eq_false (by decide)
theorem q73 : ((7 : Int32) = 3) = False := eq_false (by decide)
theorem q74 : ((7 : Int32) = 4) = False := eq_false (by decide)
theorem q75 : ((7 : Int32) = 5) = False := eq_false (by decide)
theorem q76 : ((7 : Int32) = 6) = False := eq_false (by decide)
theorem s_countsBy {d j : Nat} {a k x : Int32} {X : St} : mo_countsBy_grp (d + 1) j a k x X = mo_countsBy_G (mo_countsBy_grp d) a k x X := rfl
theorem s_sinksBy {d j : Nat} {a k x : Int32} {X : St} : mo_sinksBy_grp (d + 1) j a k x X = mo_sinksBy_G (mo_sinksBy_grp d) a k x X := rfl
theorem s_turnsBy {d j : Nat} {a k x : Int32} {X : St} : mo_turnsBy_grp (d + 1) j a k x X = mo_turnsBy_G (mo_turnsBy_grp d) a k x X := rfl
theorem s_tells {d j : Nat} {a k x : Int32} {X : St} : mo_tells_grp (d + 1) j a k x X = mo_tells_G (mo_tells_grp d) a k x X := rfl
theorem wcounts_0 (a x : Int32) (X : St) (l : List Int32) (h0 : X.1 88 3 = 0) (h4 : X.1 88 4 = a) (h5 : X.1 88 5 = 1) (hl : l.length < 90) : way_counts x (bgs l X) = some ((x + a), bgs (l ++ [1]) X) := by
  have hw : ∀ (w : Int32) (m : List Int32), way_is w (bgs m X) = if (((1 : Int32) >>> (w &&& 31)) &&& (1 : Int32)) = 0 then 0 else 1 := fun w m => by unfold way_is; rw [bgs_5, h5]
  have i1 : ∀ m, way_is 1 (bgs m X) = 0 := fun m => by rw [hw]; decide
  have i2 : ∀ m, way_is 2 (bgs m X) = 0 := fun m => by rw [hw]; decide
  have i3 : ∀ m, way_is 3 (bgs m X) = 0 := fun m => by rw [hw]; decide
  have i4 : ∀ m, way_is 4 (bgs m X) = 0 := fun m => by rw [hw]; decide
  have i5 : ∀ m, way_is 5 (bgs m X) = 0 := fun m => by rw [hw]; decide
  have i6 : ∀ m, way_is 6 (bgs m X) = 0 := fun m => by rw [hw]; decide
  have i7 : ∀ m, way_is 7 (bgs m X) = 0 := fun m => by rw [hw]; decide
  unfold way_counts
  simp (disch := first | omega | (simp only [List.length_append, List.length_cons, List.length_nil]; omega)) only [i1, i2, i3, i4, i5, i6, i7, way_plainCounts, way_plainTurns, way_plainSinks, way_plainTells, bgn h0, bgs_4, h4, List.append_assoc, List.cons_append, List.nil_append, Option.bind_some, q10, eq_self, ↓reduceIte]
theorem wsinks_0 (a x : Int32) (X : St) (l : List Int32) (h0 : X.1 88 3 = 0) (h4 : X.1 88 4 = a) (h5 : X.1 88 5 = 1) (hl : l.length < 80) : way_sinks x (bgs l X) = some ((x ^^^ a), bgs (l ++ [11]) X) := by
  have hw : ∀ (w : Int32) (m : List Int32), way_is w (bgs m X) = if (((1 : Int32) >>> (w &&& 31)) &&& (1 : Int32)) = 0 then 0 else 1 := fun w m => by unfold way_is; rw [bgs_5, h5]
  have i1 : ∀ m, way_is 1 (bgs m X) = 0 := fun m => by rw [hw]; decide
  have i2 : ∀ m, way_is 2 (bgs m X) = 0 := fun m => by rw [hw]; decide
  have i3 : ∀ m, way_is 3 (bgs m X) = 0 := fun m => by rw [hw]; decide
  have i4 : ∀ m, way_is 4 (bgs m X) = 0 := fun m => by rw [hw]; decide
  have i5 : ∀ m, way_is 5 (bgs m X) = 0 := fun m => by rw [hw]; decide
  have i6 : ∀ m, way_is 6 (bgs m X) = 0 := fun m => by rw [hw]; decide
  have i7 : ∀ m, way_is 7 (bgs m X) = 0 := fun m => by rw [hw]; decide
  unfold way_sinks
  simp (disch := first | omega | (simp only [List.length_append, List.length_cons, List.length_nil]; omega)) only [i1, i2, i3, i4, i5, i6, i7, way_plainCounts, way_plainTurns, way_plainSinks, way_plainTells, bgn h0, bgs_4, h4, (fun x l => wcounts_0 a x X l h0 h4 h5), List.append_assoc, List.cons_append, List.nil_append, Option.bind_some, q10, eq_self, ↓reduceIte]
theorem wturns_0 (a x : Int32) (X : St) (l : List Int32) (h0 : X.1 88 3 = 0) (h4 : X.1 88 4 = a) (h5 : X.1 88 5 = 1) (hl : l.length < 70) : way_turns x (bgs l X) = some (((x + a) * (2 : Int32)), bgs (l ++ [10, 1]) X) := by
  have hw : ∀ (w : Int32) (m : List Int32), way_is w (bgs m X) = if (((1 : Int32) >>> (w &&& 31)) &&& (1 : Int32)) = 0 then 0 else 1 := fun w m => by unfold way_is; rw [bgs_5, h5]
  have i1 : ∀ m, way_is 1 (bgs m X) = 0 := fun m => by rw [hw]; decide
  have i2 : ∀ m, way_is 2 (bgs m X) = 0 := fun m => by rw [hw]; decide
  have i3 : ∀ m, way_is 3 (bgs m X) = 0 := fun m => by rw [hw]; decide
  have i4 : ∀ m, way_is 4 (bgs m X) = 0 := fun m => by rw [hw]; decide
  have i5 : ∀ m, way_is 5 (bgs m X) = 0 := fun m => by rw [hw]; decide
  have i6 : ∀ m, way_is 6 (bgs m X) = 0 := fun m => by rw [hw]; decide
  have i7 : ∀ m, way_is 7 (bgs m X) = 0 := fun m => by rw [hw]; decide
  unfold way_turns way_turns_J48
  simp (disch := first | omega | (simp only [List.length_append, List.length_cons, List.length_nil]; omega)) only [i1, i2, i3, i4, i5, i6, i7, way_plainCounts, way_plainTurns, way_plainSinks, way_plainTells, bgn h0, bgs_4, h4, (fun x l => wcounts_0 a x X l h0 h4 h5), (fun x l => wsinks_0 a x X l h0 h4 h5), List.append_assoc, List.cons_append, List.nil_append, Option.bind_some, q10, eq_self, ↓reduceIte]
theorem wtells_0 (a x : Int32) (X : St) (l : List Int32) (h0 : X.1 88 3 = 0) (h4 : X.1 88 4 = a) (h5 : X.1 88 5 = 1) (hl : l.length < 60) : way_tells x (bgs l X) = some ((((x + a) * (2 : Int32)) - ((1 : Int32) ^^^ a)), bgs (l ++ [2, 10, 1, 11]) X) := by
  have hw : ∀ (w : Int32) (m : List Int32), way_is w (bgs m X) = if (((1 : Int32) >>> (w &&& 31)) &&& (1 : Int32)) = 0 then 0 else 1 := fun w m => by unfold way_is; rw [bgs_5, h5]
  have i1 : ∀ m, way_is 1 (bgs m X) = 0 := fun m => by rw [hw]; decide
  have i2 : ∀ m, way_is 2 (bgs m X) = 0 := fun m => by rw [hw]; decide
  have i3 : ∀ m, way_is 3 (bgs m X) = 0 := fun m => by rw [hw]; decide
  have i4 : ∀ m, way_is 4 (bgs m X) = 0 := fun m => by rw [hw]; decide
  have i5 : ∀ m, way_is 5 (bgs m X) = 0 := fun m => by rw [hw]; decide
  have i6 : ∀ m, way_is 6 (bgs m X) = 0 := fun m => by rw [hw]; decide
  have i7 : ∀ m, way_is 7 (bgs m X) = 0 := fun m => by rw [hw]; decide
  unfold way_tells
  simp (disch := first | omega | (simp only [List.length_append, List.length_cons, List.length_nil]; omega)) only [i1, i2, i3, i4, i5, i6, i7, way_plainCounts, way_plainTurns, way_plainSinks, way_plainTells, bgn h0, bgs_4, h4, (fun x l => wturns_0 a x X l h0 h4 h5), (fun x l => wsinks_0 a x X l h0 h4 h5), List.append_assoc, List.cons_append, List.nil_append, Option.bind_some, q10, eq_self, ↓reduceIte]
theorem mcountsBy_0 (a x : Int32) (X : St) (l : List Int32) (h0 : X.1 102 39 = 0) (h4 : 0 ≤ a.toInt ∧ a.toInt < 50) (h5 : X.1 128 (nx a) = 0) (hl : l.length < 90) : mo_countsBy a 0 x (rns l X) = some ((x + a), rns (l ++ [1]) X) := by
  have hd : ∀ d, mo_countsBy_grp (d + 1 + 1 + 1 + 1) 0 a 0 x (rns l X) = some ((x + a), rns (l ++ [1]) X) := fun d => by
    simp (disch := first | omega | (simp only [List.length_append, List.length_cons, List.length_nil]; omega)) only [s_countsBy, mo_countsBy_G, mo_above, rnn h0, rns_k, h5, inB_iff, if_pos, List.append_assoc, List.cons_append, List.nil_append, Option.bind_some, q01, q02, q03, q04, q05, q06, q07, q10, q12, q13, q14, q15, q16, q17, q20, q21, q23, q24, q25, q26, q27, q30, q31, q32, q34, q35, q36, q37, q40, q41, q42, q43, q45, q46, q47, q50, q51, q52, q53, q54, q56, q57, q60, q61, q62, q63, q64, q65, q67, q70, q71, q72, q73, q74, q75, q76, eq_self, ↓reduceIte]
  exact hd 396
theorem msinksBy_0 (a x : Int32) (X : St) (l : List Int32) (h0 : X.1 102 39 = 0) (h4 : 0 ≤ a.toInt ∧ a.toInt < 50) (h5 : X.1 128 (nx a) = 0) (hl : l.length < 80) : mo_sinksBy a 0 x (rns l X) = some ((x ^^^ a), rns (l ++ [11]) X) := by
  have hd : ∀ d, mo_sinksBy_grp (d + 1 + 1 + 1 + 1) 0 a 0 x (rns l X) = some ((x ^^^ a), rns (l ++ [11]) X) := fun d => by
    simp (disch := first | omega | (simp only [List.length_append, List.length_cons, List.length_nil]; omega)) only [s_sinksBy, mo_sinksBy_G, mo_above, rnn h0, rns_k, h5, inB_iff, if_pos, (fun x l => mcountsBy_0 a x X l h0 h4 h5), List.append_assoc, List.cons_append, List.nil_append, Option.bind_some, q01, q02, q03, q04, q05, q06, q07, q10, q12, q13, q14, q15, q16, q17, q20, q21, q23, q24, q25, q26, q27, q30, q31, q32, q34, q35, q36, q37, q40, q41, q42, q43, q45, q46, q47, q50, q51, q52, q53, q54, q56, q57, q60, q61, q62, q63, q64, q65, q67, q70, q71, q72, q73, q74, q75, q76, eq_self, ↓reduceIte]
  exact hd 396
theorem mturnsBy_0 (a x : Int32) (X : St) (l : List Int32) (h0 : X.1 102 39 = 0) (h4 : 0 ≤ a.toInt ∧ a.toInt < 50) (h5 : X.1 128 (nx a) = 0) (hl : l.length < 70) : mo_turnsBy a 0 x (rns l X) = some (((x + a) * (2 : Int32)), rns (l ++ [10, 1]) X) := by
  have hd : ∀ d, mo_turnsBy_grp (d + 1 + 1 + 1 + 1) 0 a 0 x (rns l X) = some (((x + a) * (2 : Int32)), rns (l ++ [10, 1]) X) := fun d => by
    simp (disch := first | omega | (simp only [List.length_append, List.length_cons, List.length_nil]; omega)) only [s_turnsBy, mo_turnsBy_G, mo_above, rnn h0, rns_k, h5, inB_iff, if_pos, (fun x l => mcountsBy_0 a x X l h0 h4 h5), (fun x l => msinksBy_0 a x X l h0 h4 h5), List.append_assoc, List.cons_append, List.nil_append, Option.bind_some, q01, q02, q03, q04, q05, q06, q07, q10, q12, q13, q14, q15, q16, q17, q20, q21, q23, q24, q25, q26, q27, q30, q31, q32, q34, q35, q36, q37, q40, q41, q42, q43, q45, q46, q47, q50, q51, q52, q53, q54, q56, q57, q60, q61, q62, q63, q64, q65, q67, q70, q71, q72, q73, q74, q75, q76, eq_self, ↓reduceIte]
  exact hd 396
theorem mtells_0 (a x : Int32) (X : St) (l : List Int32) (h0 : X.1 102 39 = 0) (h4 : 0 ≤ a.toInt ∧ a.toInt < 50) (h5 : X.1 128 (nx a) = 0) (hl : l.length < 60) : mo_tells a 0 x (rns l X) = some ((((x + a) * (2 : Int32)) - ((1 : Int32) ^^^ a)), rns (l ++ [2, 10, 1, 11]) X) := by
  have hd : ∀ d, mo_tells_grp (d + 1 + 1 + 1 + 1) 0 a 0 x (rns l X) = some ((((x + a) * (2 : Int32)) - ((1 : Int32) ^^^ a)), rns (l ++ [2, 10, 1, 11]) X) := fun d => by
    simp (disch := first | omega | (simp only [List.length_append, List.length_cons, List.length_nil]; omega)) only [s_tells, mo_tells_G, mo_above, rnn h0, rns_k, h5, inB_iff, if_pos, (fun x l => mturnsBy_0 a x X l h0 h4 h5), (fun x l => msinksBy_0 a x X l h0 h4 h5), List.append_assoc, List.cons_append, List.nil_append, Option.bind_some, q01, q02, q03, q04, q05, q06, q07, q10, q12, q13, q14, q15, q16, q17, q20, q21, q23, q24, q25, q26, q27, q30, q31, q32, q34, q35, q36, q37, q40, q41, q42, q43, q45, q46, q47, q50, q51, q52, q53, q54, q56, q57, q60, q61, q62, q63, q64, q65, q67, q70, q71, q72, q73, q74, q75, q76, eq_self, ↓reduceIte]
  exact hd 396
theorem wcounts_1 (a x : Int32) (X : St) (l : List Int32) (h0 : X.1 88 3 = 0) (h4 : X.1 88 4 = a) (h5 : X.1 88 5 = 3) (hl : l.length < 90) : way_counts x (bgs l X) = some (((x + a) + (3 : Int32)), bgs (l ++ [20, 1]) X) := by
  have hw : ∀ (w : Int32) (m : List Int32), way_is w (bgs m X) = if (((3 : Int32) >>> (w &&& 31)) &&& (1 : Int32)) = 0 then 0 else 1 := fun w m => by unfold way_is; rw [bgs_5, h5]
  have i1 : ∀ m, way_is 1 (bgs m X) = 1 := fun m => by rw [hw]; decide
  have i2 : ∀ m, way_is 2 (bgs m X) = 0 := fun m => by rw [hw]; decide
  have i3 : ∀ m, way_is 3 (bgs m X) = 0 := fun m => by rw [hw]; decide
  have i4 : ∀ m, way_is 4 (bgs m X) = 0 := fun m => by rw [hw]; decide
  have i5 : ∀ m, way_is 5 (bgs m X) = 0 := fun m => by rw [hw]; decide
  have i6 : ∀ m, way_is 6 (bgs m X) = 0 := fun m => by rw [hw]; decide
  have i7 : ∀ m, way_is 7 (bgs m X) = 0 := fun m => by rw [hw]; decide
  unfold way_counts
  simp (disch := first | omega | (simp only [List.length_append, List.length_cons, List.length_nil]; omega)) only [i1, i2, i3, i4, i5, i6, i7, way_plainCounts, way_plainTurns, way_plainSinks, way_plainTells, bgn h0, bgs_4, h4, List.append_assoc, List.cons_append, List.nil_append, Option.bind_some, q10, eq_self, ↓reduceIte]
theorem wsinks_1 (a x : Int32) (X : St) (l : List Int32) (h0 : X.1 88 3 = 0) (h4 : X.1 88 4 = a) (h5 : X.1 88 5 = 3) (hl : l.length < 80) : way_sinks x (bgs l X) = some ((x ^^^ a), bgs (l ++ [11]) X) := by
  have hw : ∀ (w : Int32) (m : List Int32), way_is w (bgs m X) = if (((3 : Int32) >>> (w &&& 31)) &&& (1 : Int32)) = 0 then 0 else 1 := fun w m => by unfold way_is; rw [bgs_5, h5]
  have i1 : ∀ m, way_is 1 (bgs m X) = 1 := fun m => by rw [hw]; decide
  have i2 : ∀ m, way_is 2 (bgs m X) = 0 := fun m => by rw [hw]; decide
  have i3 : ∀ m, way_is 3 (bgs m X) = 0 := fun m => by rw [hw]; decide
  have i4 : ∀ m, way_is 4 (bgs m X) = 0 := fun m => by rw [hw]; decide
  have i5 : ∀ m, way_is 5 (bgs m X) = 0 := fun m => by rw [hw]; decide
  have i6 : ∀ m, way_is 6 (bgs m X) = 0 := fun m => by rw [hw]; decide
  have i7 : ∀ m, way_is 7 (bgs m X) = 0 := fun m => by rw [hw]; decide
  unfold way_sinks
  simp (disch := first | omega | (simp only [List.length_append, List.length_cons, List.length_nil]; omega)) only [i1, i2, i3, i4, i5, i6, i7, way_plainCounts, way_plainTurns, way_plainSinks, way_plainTells, bgn h0, bgs_4, h4, (fun x l => wcounts_1 a x X l h0 h4 h5), List.append_assoc, List.cons_append, List.nil_append, Option.bind_some, q10, eq_self, ↓reduceIte]
theorem wturns_1 (a x : Int32) (X : St) (l : List Int32) (h0 : X.1 88 3 = 0) (h4 : X.1 88 4 = a) (h5 : X.1 88 5 = 3) (hl : l.length < 70) : way_turns x (bgs l X) = some ((((x + a) + (3 : Int32)) * (2 : Int32)), bgs (l ++ [10, 20, 1]) X) := by
  have hw : ∀ (w : Int32) (m : List Int32), way_is w (bgs m X) = if (((3 : Int32) >>> (w &&& 31)) &&& (1 : Int32)) = 0 then 0 else 1 := fun w m => by unfold way_is; rw [bgs_5, h5]
  have i1 : ∀ m, way_is 1 (bgs m X) = 1 := fun m => by rw [hw]; decide
  have i2 : ∀ m, way_is 2 (bgs m X) = 0 := fun m => by rw [hw]; decide
  have i3 : ∀ m, way_is 3 (bgs m X) = 0 := fun m => by rw [hw]; decide
  have i4 : ∀ m, way_is 4 (bgs m X) = 0 := fun m => by rw [hw]; decide
  have i5 : ∀ m, way_is 5 (bgs m X) = 0 := fun m => by rw [hw]; decide
  have i6 : ∀ m, way_is 6 (bgs m X) = 0 := fun m => by rw [hw]; decide
  have i7 : ∀ m, way_is 7 (bgs m X) = 0 := fun m => by rw [hw]; decide
  unfold way_turns way_turns_J48
  simp (disch := first | omega | (simp only [List.length_append, List.length_cons, List.length_nil]; omega)) only [i1, i2, i3, i4, i5, i6, i7, way_plainCounts, way_plainTurns, way_plainSinks, way_plainTells, bgn h0, bgs_4, h4, (fun x l => wcounts_1 a x X l h0 h4 h5), (fun x l => wsinks_1 a x X l h0 h4 h5), List.append_assoc, List.cons_append, List.nil_append, Option.bind_some, q10, eq_self, ↓reduceIte]
theorem wtells_1 (a x : Int32) (X : St) (l : List Int32) (h0 : X.1 88 3 = 0) (h4 : X.1 88 4 = a) (h5 : X.1 88 5 = 3) (hl : l.length < 60) : way_tells x (bgs l X) = some (((((x + a) + (3 : Int32)) * (2 : Int32)) - ((1 : Int32) ^^^ a)), bgs (l ++ [2, 10, 20, 1, 11]) X) := by
  have hw : ∀ (w : Int32) (m : List Int32), way_is w (bgs m X) = if (((3 : Int32) >>> (w &&& 31)) &&& (1 : Int32)) = 0 then 0 else 1 := fun w m => by unfold way_is; rw [bgs_5, h5]
  have i1 : ∀ m, way_is 1 (bgs m X) = 1 := fun m => by rw [hw]; decide
  have i2 : ∀ m, way_is 2 (bgs m X) = 0 := fun m => by rw [hw]; decide
  have i3 : ∀ m, way_is 3 (bgs m X) = 0 := fun m => by rw [hw]; decide
  have i4 : ∀ m, way_is 4 (bgs m X) = 0 := fun m => by rw [hw]; decide
  have i5 : ∀ m, way_is 5 (bgs m X) = 0 := fun m => by rw [hw]; decide
  have i6 : ∀ m, way_is 6 (bgs m X) = 0 := fun m => by rw [hw]; decide
  have i7 : ∀ m, way_is 7 (bgs m X) = 0 := fun m => by rw [hw]; decide
  unfold way_tells
  simp (disch := first | omega | (simp only [List.length_append, List.length_cons, List.length_nil]; omega)) only [i1, i2, i3, i4, i5, i6, i7, way_plainCounts, way_plainTurns, way_plainSinks, way_plainTells, bgn h0, bgs_4, h4, (fun x l => wturns_1 a x X l h0 h4 h5), (fun x l => wsinks_1 a x X l h0 h4 h5), List.append_assoc, List.cons_append, List.nil_append, Option.bind_some, q10, eq_self, ↓reduceIte]
theorem mcountsBy_1 (a x : Int32) (X : St) (l : List Int32) (h0 : X.1 102 39 = 0) (h4 : 0 ≤ a.toInt ∧ a.toInt < 50) (h5 : X.1 128 (nx a) = 1) (hl : l.length < 90) : mo_countsBy a 1 x (rns l X) = some (((x + a) + (3 : Int32)), rns (l ++ [20, 1]) X) := by
  have hd : ∀ d, mo_countsBy_grp (d + 1 + 1 + 1 + 1) 0 a 1 x (rns l X) = some (((x + a) + (3 : Int32)), rns (l ++ [20, 1]) X) := fun d => by
    simp (disch := first | omega | (simp only [List.length_append, List.length_cons, List.length_nil]; omega)) only [s_countsBy, mo_countsBy_G, mo_above, rnn h0, rns_k, h5, inB_iff, if_pos, List.append_assoc, List.cons_append, List.nil_append, Option.bind_some, q01, q02, q03, q04, q05, q06, q07, q10, q12, q13, q14, q15, q16, q17, q20, q21, q23, q24, q25, q26, q27, q30, q31, q32, q34, q35, q36, q37, q40, q41, q42, q43, q45, q46, q47, q50, q51, q52, q53, q54, q56, q57, q60, q61, q62, q63, q64, q65, q67, q70, q71, q72, q73, q74, q75, q76, eq_self, ↓reduceIte]
  exact hd 396
theorem msinksBy_1 (a x : Int32) (X : St) (l : List Int32) (h0 : X.1 102 39 = 0) (h4 : 0 ≤ a.toInt ∧ a.toInt < 50) (h5 : X.1 128 (nx a) = 1) (hl : l.length < 80) : mo_sinksBy a 1 x (rns l X) = some ((x ^^^ a), rns (l ++ [11]) X) := by
  have hd : ∀ d, mo_sinksBy_grp (d + 1 + 1 + 1 + 1) 0 a 1 x (rns l X) = some ((x ^^^ a), rns (l ++ [11]) X) := fun d => by
    simp (disch := first | omega | (simp only [List.length_append, List.length_cons, List.length_nil]; omega)) only [s_sinksBy, mo_sinksBy_G, mo_above, rnn h0, rns_k, h5, inB_iff, if_pos, (fun x l => mcountsBy_1 a x X l h0 h4 h5), List.append_assoc, List.cons_append, List.nil_append, Option.bind_some, q01, q02, q03, q04, q05, q06, q07, q10, q12, q13, q14, q15, q16, q17, q20, q21, q23, q24, q25, q26, q27, q30, q31, q32, q34, q35, q36, q37, q40, q41, q42, q43, q45, q46, q47, q50, q51, q52, q53, q54, q56, q57, q60, q61, q62, q63, q64, q65, q67, q70, q71, q72, q73, q74, q75, q76, eq_self, ↓reduceIte]
  exact hd 396
theorem mturnsBy_1 (a x : Int32) (X : St) (l : List Int32) (h0 : X.1 102 39 = 0) (h4 : 0 ≤ a.toInt ∧ a.toInt < 50) (h5 : X.1 128 (nx a) = 1) (hl : l.length < 70) : mo_turnsBy a 1 x (rns l X) = some ((((x + a) + (3 : Int32)) * (2 : Int32)), rns (l ++ [10, 20, 1]) X) := by
  have hd : ∀ d, mo_turnsBy_grp (d + 1 + 1 + 1 + 1) 0 a 1 x (rns l X) = some ((((x + a) + (3 : Int32)) * (2 : Int32)), rns (l ++ [10, 20, 1]) X) := fun d => by
    simp (disch := first | omega | (simp only [List.length_append, List.length_cons, List.length_nil]; omega)) only [s_turnsBy, mo_turnsBy_G, mo_above, rnn h0, rns_k, h5, inB_iff, if_pos, (fun x l => mcountsBy_1 a x X l h0 h4 h5), (fun x l => msinksBy_1 a x X l h0 h4 h5), List.append_assoc, List.cons_append, List.nil_append, Option.bind_some, q01, q02, q03, q04, q05, q06, q07, q10, q12, q13, q14, q15, q16, q17, q20, q21, q23, q24, q25, q26, q27, q30, q31, q32, q34, q35, q36, q37, q40, q41, q42, q43, q45, q46, q47, q50, q51, q52, q53, q54, q56, q57, q60, q61, q62, q63, q64, q65, q67, q70, q71, q72, q73, q74, q75, q76, eq_self, ↓reduceIte]
  exact hd 396
theorem mtells_1 (a x : Int32) (X : St) (l : List Int32) (h0 : X.1 102 39 = 0) (h4 : 0 ≤ a.toInt ∧ a.toInt < 50) (h5 : X.1 128 (nx a) = 1) (hl : l.length < 60) : mo_tells a 1 x (rns l X) = some (((((x + a) + (3 : Int32)) * (2 : Int32)) - ((1 : Int32) ^^^ a)), rns (l ++ [2, 10, 20, 1, 11]) X) := by
  have hd : ∀ d, mo_tells_grp (d + 1 + 1 + 1 + 1) 0 a 1 x (rns l X) = some (((((x + a) + (3 : Int32)) * (2 : Int32)) - ((1 : Int32) ^^^ a)), rns (l ++ [2, 10, 20, 1, 11]) X) := fun d => by
    simp (disch := first | omega | (simp only [List.length_append, List.length_cons, List.length_nil]; omega)) only [s_tells, mo_tells_G, mo_above, rnn h0, rns_k, h5, inB_iff, if_pos, (fun x l => mturnsBy_1 a x X l h0 h4 h5), (fun x l => msinksBy_1 a x X l h0 h4 h5), List.append_assoc, List.cons_append, List.nil_append, Option.bind_some, q01, q02, q03, q04, q05, q06, q07, q10, q12, q13, q14, q15, q16, q17, q20, q21, q23, q24, q25, q26, q27, q30, q31, q32, q34, q35, q36, q37, q40, q41, q42, q43, q45, q46, q47, q50, q51, q52, q53, q54, q56, q57, q60, q61, q62, q63, q64, q65, q67, q70, q71, q72, q73, q74, q75, q76, eq_self, ↓reduceIte]
  exact hd 396
theorem wcounts_2 (a x : Int32) (X : St) (l : List Int32) (h0 : X.1 88 3 = 0) (h4 : X.1 88 4 = a) (h5 : X.1 88 5 = 5) (hl : l.length < 90) : way_counts x (bgs l X) = some ((x + a), bgs (l ++ [1]) X) := by
  have hw : ∀ (w : Int32) (m : List Int32), way_is w (bgs m X) = if (((5 : Int32) >>> (w &&& 31)) &&& (1 : Int32)) = 0 then 0 else 1 := fun w m => by unfold way_is; rw [bgs_5, h5]
  have i1 : ∀ m, way_is 1 (bgs m X) = 0 := fun m => by rw [hw]; decide
  have i2 : ∀ m, way_is 2 (bgs m X) = 1 := fun m => by rw [hw]; decide
  have i3 : ∀ m, way_is 3 (bgs m X) = 0 := fun m => by rw [hw]; decide
  have i4 : ∀ m, way_is 4 (bgs m X) = 0 := fun m => by rw [hw]; decide
  have i5 : ∀ m, way_is 5 (bgs m X) = 0 := fun m => by rw [hw]; decide
  have i6 : ∀ m, way_is 6 (bgs m X) = 0 := fun m => by rw [hw]; decide
  have i7 : ∀ m, way_is 7 (bgs m X) = 0 := fun m => by rw [hw]; decide
  unfold way_counts
  simp (disch := first | omega | (simp only [List.length_append, List.length_cons, List.length_nil]; omega)) only [i1, i2, i3, i4, i5, i6, i7, way_plainCounts, way_plainTurns, way_plainSinks, way_plainTells, bgn h0, bgs_4, h4, List.append_assoc, List.cons_append, List.nil_append, Option.bind_some, q10, eq_self, ↓reduceIte]
theorem wsinks_2 (a x : Int32) (X : St) (l : List Int32) (h0 : X.1 88 3 = 0) (h4 : X.1 88 4 = a) (h5 : X.1 88 5 = 5) (hl : l.length < 80) : way_sinks x (bgs l X) = some ((x ^^^ a), bgs (l ++ [11]) X) := by
  have hw : ∀ (w : Int32) (m : List Int32), way_is w (bgs m X) = if (((5 : Int32) >>> (w &&& 31)) &&& (1 : Int32)) = 0 then 0 else 1 := fun w m => by unfold way_is; rw [bgs_5, h5]
  have i1 : ∀ m, way_is 1 (bgs m X) = 0 := fun m => by rw [hw]; decide
  have i2 : ∀ m, way_is 2 (bgs m X) = 1 := fun m => by rw [hw]; decide
  have i3 : ∀ m, way_is 3 (bgs m X) = 0 := fun m => by rw [hw]; decide
  have i4 : ∀ m, way_is 4 (bgs m X) = 0 := fun m => by rw [hw]; decide
  have i5 : ∀ m, way_is 5 (bgs m X) = 0 := fun m => by rw [hw]; decide
  have i6 : ∀ m, way_is 6 (bgs m X) = 0 := fun m => by rw [hw]; decide
  have i7 : ∀ m, way_is 7 (bgs m X) = 0 := fun m => by rw [hw]; decide
  unfold way_sinks
  simp (disch := first | omega | (simp only [List.length_append, List.length_cons, List.length_nil]; omega)) only [i1, i2, i3, i4, i5, i6, i7, way_plainCounts, way_plainTurns, way_plainSinks, way_plainTells, bgn h0, bgs_4, h4, (fun x l => wcounts_2 a x X l h0 h4 h5), List.append_assoc, List.cons_append, List.nil_append, Option.bind_some, q10, eq_self, ↓reduceIte]
theorem wturns_2 (a x : Int32) (X : St) (l : List Int32) (h0 : X.1 88 3 = 0) (h4 : X.1 88 4 = a) (h5 : X.1 88 5 = 5) (hl : l.length < 70) : way_turns x (bgs l X) = some ((-((x + a) * (2 : Int32))), bgs (l ++ [30, 10, 1]) X) := by
  have hw : ∀ (w : Int32) (m : List Int32), way_is w (bgs m X) = if (((5 : Int32) >>> (w &&& 31)) &&& (1 : Int32)) = 0 then 0 else 1 := fun w m => by unfold way_is; rw [bgs_5, h5]
  have i1 : ∀ m, way_is 1 (bgs m X) = 0 := fun m => by rw [hw]; decide
  have i2 : ∀ m, way_is 2 (bgs m X) = 1 := fun m => by rw [hw]; decide
  have i3 : ∀ m, way_is 3 (bgs m X) = 0 := fun m => by rw [hw]; decide
  have i4 : ∀ m, way_is 4 (bgs m X) = 0 := fun m => by rw [hw]; decide
  have i5 : ∀ m, way_is 5 (bgs m X) = 0 := fun m => by rw [hw]; decide
  have i6 : ∀ m, way_is 6 (bgs m X) = 0 := fun m => by rw [hw]; decide
  have i7 : ∀ m, way_is 7 (bgs m X) = 0 := fun m => by rw [hw]; decide
  unfold way_turns way_turns_J48
  simp (disch := first | omega | (simp only [List.length_append, List.length_cons, List.length_nil]; omega)) only [i1, i2, i3, i4, i5, i6, i7, way_plainCounts, way_plainTurns, way_plainSinks, way_plainTells, bgn h0, bgs_4, h4, (fun x l => wcounts_2 a x X l h0 h4 h5), (fun x l => wsinks_2 a x X l h0 h4 h5), List.append_assoc, List.cons_append, List.nil_append, Option.bind_some, q10, eq_self, ↓reduceIte]
theorem wtells_2 (a x : Int32) (X : St) (l : List Int32) (h0 : X.1 88 3 = 0) (h4 : X.1 88 4 = a) (h5 : X.1 88 5 = 5) (hl : l.length < 60) : way_tells x (bgs l X) = some (((-((x + a) * (2 : Int32))) - ((1 : Int32) ^^^ a)), bgs (l ++ [2, 30, 10, 1, 11]) X) := by
  have hw : ∀ (w : Int32) (m : List Int32), way_is w (bgs m X) = if (((5 : Int32) >>> (w &&& 31)) &&& (1 : Int32)) = 0 then 0 else 1 := fun w m => by unfold way_is; rw [bgs_5, h5]
  have i1 : ∀ m, way_is 1 (bgs m X) = 0 := fun m => by rw [hw]; decide
  have i2 : ∀ m, way_is 2 (bgs m X) = 1 := fun m => by rw [hw]; decide
  have i3 : ∀ m, way_is 3 (bgs m X) = 0 := fun m => by rw [hw]; decide
  have i4 : ∀ m, way_is 4 (bgs m X) = 0 := fun m => by rw [hw]; decide
  have i5 : ∀ m, way_is 5 (bgs m X) = 0 := fun m => by rw [hw]; decide
  have i6 : ∀ m, way_is 6 (bgs m X) = 0 := fun m => by rw [hw]; decide
  have i7 : ∀ m, way_is 7 (bgs m X) = 0 := fun m => by rw [hw]; decide
  unfold way_tells
  simp (disch := first | omega | (simp only [List.length_append, List.length_cons, List.length_nil]; omega)) only [i1, i2, i3, i4, i5, i6, i7, way_plainCounts, way_plainTurns, way_plainSinks, way_plainTells, bgn h0, bgs_4, h4, (fun x l => wturns_2 a x X l h0 h4 h5), (fun x l => wsinks_2 a x X l h0 h4 h5), List.append_assoc, List.cons_append, List.nil_append, Option.bind_some, q10, eq_self, ↓reduceIte]
theorem mcountsBy_2 (a x : Int32) (X : St) (l : List Int32) (h0 : X.1 102 39 = 0) (h4 : 0 ≤ a.toInt ∧ a.toInt < 50) (h5 : X.1 128 (nx a) = 2) (hl : l.length < 90) : mo_countsBy a 2 x (rns l X) = some ((x + a), rns (l ++ [1]) X) := by
  have hd : ∀ d, mo_countsBy_grp (d + 1 + 1 + 1 + 1) 0 a 2 x (rns l X) = some ((x + a), rns (l ++ [1]) X) := fun d => by
    simp (disch := first | omega | (simp only [List.length_append, List.length_cons, List.length_nil]; omega)) only [s_countsBy, mo_countsBy_G, mo_above, rnn h0, rns_k, h5, inB_iff, if_pos, List.append_assoc, List.cons_append, List.nil_append, Option.bind_some, q01, q02, q03, q04, q05, q06, q07, q10, q12, q13, q14, q15, q16, q17, q20, q21, q23, q24, q25, q26, q27, q30, q31, q32, q34, q35, q36, q37, q40, q41, q42, q43, q45, q46, q47, q50, q51, q52, q53, q54, q56, q57, q60, q61, q62, q63, q64, q65, q67, q70, q71, q72, q73, q74, q75, q76, eq_self, ↓reduceIte]
  exact hd 396
theorem msinksBy_2 (a x : Int32) (X : St) (l : List Int32) (h0 : X.1 102 39 = 0) (h4 : 0 ≤ a.toInt ∧ a.toInt < 50) (h5 : X.1 128 (nx a) = 2) (hl : l.length < 80) : mo_sinksBy a 2 x (rns l X) = some ((x ^^^ a), rns (l ++ [11]) X) := by
  have hd : ∀ d, mo_sinksBy_grp (d + 1 + 1 + 1 + 1) 0 a 2 x (rns l X) = some ((x ^^^ a), rns (l ++ [11]) X) := fun d => by
    simp (disch := first | omega | (simp only [List.length_append, List.length_cons, List.length_nil]; omega)) only [s_sinksBy, mo_sinksBy_G, mo_above, rnn h0, rns_k, h5, inB_iff, if_pos, (fun x l => mcountsBy_2 a x X l h0 h4 h5), List.append_assoc, List.cons_append, List.nil_append, Option.bind_some, q01, q02, q03, q04, q05, q06, q07, q10, q12, q13, q14, q15, q16, q17, q20, q21, q23, q24, q25, q26, q27, q30, q31, q32, q34, q35, q36, q37, q40, q41, q42, q43, q45, q46, q47, q50, q51, q52, q53, q54, q56, q57, q60, q61, q62, q63, q64, q65, q67, q70, q71, q72, q73, q74, q75, q76, eq_self, ↓reduceIte]
  exact hd 396
theorem mturnsBy_2 (a x : Int32) (X : St) (l : List Int32) (h0 : X.1 102 39 = 0) (h4 : 0 ≤ a.toInt ∧ a.toInt < 50) (h5 : X.1 128 (nx a) = 2) (hl : l.length < 70) : mo_turnsBy a 2 x (rns l X) = some ((-((x + a) * (2 : Int32))), rns (l ++ [30, 10, 1]) X) := by
  have hd : ∀ d, mo_turnsBy_grp (d + 1 + 1 + 1 + 1) 0 a 2 x (rns l X) = some ((-((x + a) * (2 : Int32))), rns (l ++ [30, 10, 1]) X) := fun d => by
    simp (disch := first | omega | (simp only [List.length_append, List.length_cons, List.length_nil]; omega)) only [s_turnsBy, mo_turnsBy_G, mo_above, rnn h0, rns_k, h5, inB_iff, if_pos, (fun x l => mcountsBy_2 a x X l h0 h4 h5), (fun x l => msinksBy_2 a x X l h0 h4 h5), List.append_assoc, List.cons_append, List.nil_append, Option.bind_some, q01, q02, q03, q04, q05, q06, q07, q10, q12, q13, q14, q15, q16, q17, q20, q21, q23, q24, q25, q26, q27, q30, q31, q32, q34, q35, q36, q37, q40, q41, q42, q43, q45, q46, q47, q50, q51, q52, q53, q54, q56, q57, q60, q61, q62, q63, q64, q65, q67, q70, q71, q72, q73, q74, q75, q76, eq_self, ↓reduceIte]
  exact hd 396
theorem mtells_2 (a x : Int32) (X : St) (l : List Int32) (h0 : X.1 102 39 = 0) (h4 : 0 ≤ a.toInt ∧ a.toInt < 50) (h5 : X.1 128 (nx a) = 2) (hl : l.length < 60) : mo_tells a 2 x (rns l X) = some (((-((x + a) * (2 : Int32))) - ((1 : Int32) ^^^ a)), rns (l ++ [2, 30, 10, 1, 11]) X) := by
  have hd : ∀ d, mo_tells_grp (d + 1 + 1 + 1 + 1) 0 a 2 x (rns l X) = some (((-((x + a) * (2 : Int32))) - ((1 : Int32) ^^^ a)), rns (l ++ [2, 30, 10, 1, 11]) X) := fun d => by
    simp (disch := first | omega | (simp only [List.length_append, List.length_cons, List.length_nil]; omega)) only [s_tells, mo_tells_G, mo_above, rnn h0, rns_k, h5, inB_iff, if_pos, (fun x l => mturnsBy_2 a x X l h0 h4 h5), (fun x l => msinksBy_2 a x X l h0 h4 h5), List.append_assoc, List.cons_append, List.nil_append, Option.bind_some, q01, q02, q03, q04, q05, q06, q07, q10, q12, q13, q14, q15, q16, q17, q20, q21, q23, q24, q25, q26, q27, q30, q31, q32, q34, q35, q36, q37, q40, q41, q42, q43, q45, q46, q47, q50, q51, q52, q53, q54, q56, q57, q60, q61, q62, q63, q64, q65, q67, q70, q71, q72, q73, q74, q75, q76, eq_self, ↓reduceIte]
  exact hd 396
theorem wcounts_3 (a x : Int32) (X : St) (l : List Int32) (h0 : X.1 88 3 = 0) (h4 : X.1 88 4 = a) (h5 : X.1 88 5 = 13) (hl : l.length < 90) : way_counts x (bgs l X) = some ((x + a), bgs (l ++ [1]) X) := by
  have hw : ∀ (w : Int32) (m : List Int32), way_is w (bgs m X) = if (((13 : Int32) >>> (w &&& 31)) &&& (1 : Int32)) = 0 then 0 else 1 := fun w m => by unfold way_is; rw [bgs_5, h5]
  have i1 : ∀ m, way_is 1 (bgs m X) = 0 := fun m => by rw [hw]; decide
  have i2 : ∀ m, way_is 2 (bgs m X) = 1 := fun m => by rw [hw]; decide
  have i3 : ∀ m, way_is 3 (bgs m X) = 1 := fun m => by rw [hw]; decide
  have i4 : ∀ m, way_is 4 (bgs m X) = 0 := fun m => by rw [hw]; decide
  have i5 : ∀ m, way_is 5 (bgs m X) = 0 := fun m => by rw [hw]; decide
  have i6 : ∀ m, way_is 6 (bgs m X) = 0 := fun m => by rw [hw]; decide
  have i7 : ∀ m, way_is 7 (bgs m X) = 0 := fun m => by rw [hw]; decide
  unfold way_counts
  simp (disch := first | omega | (simp only [List.length_append, List.length_cons, List.length_nil]; omega)) only [i1, i2, i3, i4, i5, i6, i7, way_plainCounts, way_plainTurns, way_plainSinks, way_plainTells, bgn h0, bgs_4, h4, List.append_assoc, List.cons_append, List.nil_append, Option.bind_some, q10, eq_self, ↓reduceIte]
theorem wsinks_3 (a x : Int32) (X : St) (l : List Int32) (h0 : X.1 88 3 = 0) (h4 : X.1 88 4 = a) (h5 : X.1 88 5 = 13) (hl : l.length < 80) : way_sinks x (bgs l X) = some (((x ^^^ a) * (3 : Int32)), bgs (l ++ [40, 11]) X) := by
  have hw : ∀ (w : Int32) (m : List Int32), way_is w (bgs m X) = if (((13 : Int32) >>> (w &&& 31)) &&& (1 : Int32)) = 0 then 0 else 1 := fun w m => by unfold way_is; rw [bgs_5, h5]
  have i1 : ∀ m, way_is 1 (bgs m X) = 0 := fun m => by rw [hw]; decide
  have i2 : ∀ m, way_is 2 (bgs m X) = 1 := fun m => by rw [hw]; decide
  have i3 : ∀ m, way_is 3 (bgs m X) = 1 := fun m => by rw [hw]; decide
  have i4 : ∀ m, way_is 4 (bgs m X) = 0 := fun m => by rw [hw]; decide
  have i5 : ∀ m, way_is 5 (bgs m X) = 0 := fun m => by rw [hw]; decide
  have i6 : ∀ m, way_is 6 (bgs m X) = 0 := fun m => by rw [hw]; decide
  have i7 : ∀ m, way_is 7 (bgs m X) = 0 := fun m => by rw [hw]; decide
  unfold way_sinks
  simp (disch := first | omega | (simp only [List.length_append, List.length_cons, List.length_nil]; omega)) only [i1, i2, i3, i4, i5, i6, i7, way_plainCounts, way_plainTurns, way_plainSinks, way_plainTells, bgn h0, bgs_4, h4, (fun x l => wcounts_3 a x X l h0 h4 h5), List.append_assoc, List.cons_append, List.nil_append, Option.bind_some, q10, eq_self, ↓reduceIte]
theorem wturns_3 (a x : Int32) (X : St) (l : List Int32) (h0 : X.1 88 3 = 0) (h4 : X.1 88 4 = a) (h5 : X.1 88 5 = 13) (hl : l.length < 70) : way_turns x (bgs l X) = some ((-(((x + (1 : Int32)) + a) * (2 : Int32))), bgs (l ++ [41, 30, 10, 1]) X) := by
  have hw : ∀ (w : Int32) (m : List Int32), way_is w (bgs m X) = if (((13 : Int32) >>> (w &&& 31)) &&& (1 : Int32)) = 0 then 0 else 1 := fun w m => by unfold way_is; rw [bgs_5, h5]
  have i1 : ∀ m, way_is 1 (bgs m X) = 0 := fun m => by rw [hw]; decide
  have i2 : ∀ m, way_is 2 (bgs m X) = 1 := fun m => by rw [hw]; decide
  have i3 : ∀ m, way_is 3 (bgs m X) = 1 := fun m => by rw [hw]; decide
  have i4 : ∀ m, way_is 4 (bgs m X) = 0 := fun m => by rw [hw]; decide
  have i5 : ∀ m, way_is 5 (bgs m X) = 0 := fun m => by rw [hw]; decide
  have i6 : ∀ m, way_is 6 (bgs m X) = 0 := fun m => by rw [hw]; decide
  have i7 : ∀ m, way_is 7 (bgs m X) = 0 := fun m => by rw [hw]; decide
  unfold way_turns way_turns_J48
  simp (disch := first | omega | (simp only [List.length_append, List.length_cons, List.length_nil]; omega)) only [i1, i2, i3, i4, i5, i6, i7, way_plainCounts, way_plainTurns, way_plainSinks, way_plainTells, bgn h0, bgs_4, h4, (fun x l => wcounts_3 a x X l h0 h4 h5), (fun x l => wsinks_3 a x X l h0 h4 h5), List.append_assoc, List.cons_append, List.nil_append, Option.bind_some, q10, eq_self, ↓reduceIte]
theorem wtells_3 (a x : Int32) (X : St) (l : List Int32) (h0 : X.1 88 3 = 0) (h4 : X.1 88 4 = a) (h5 : X.1 88 5 = 13) (hl : l.length < 60) : way_tells x (bgs l X) = some (((-(((x + (1 : Int32)) + a) * (2 : Int32))) - (((1 : Int32) ^^^ a) * (3 : Int32))), bgs (l ++ [2, 41, 30, 10, 1, 40, 11]) X) := by
  have hw : ∀ (w : Int32) (m : List Int32), way_is w (bgs m X) = if (((13 : Int32) >>> (w &&& 31)) &&& (1 : Int32)) = 0 then 0 else 1 := fun w m => by unfold way_is; rw [bgs_5, h5]
  have i1 : ∀ m, way_is 1 (bgs m X) = 0 := fun m => by rw [hw]; decide
  have i2 : ∀ m, way_is 2 (bgs m X) = 1 := fun m => by rw [hw]; decide
  have i3 : ∀ m, way_is 3 (bgs m X) = 1 := fun m => by rw [hw]; decide
  have i4 : ∀ m, way_is 4 (bgs m X) = 0 := fun m => by rw [hw]; decide
  have i5 : ∀ m, way_is 5 (bgs m X) = 0 := fun m => by rw [hw]; decide
  have i6 : ∀ m, way_is 6 (bgs m X) = 0 := fun m => by rw [hw]; decide
  have i7 : ∀ m, way_is 7 (bgs m X) = 0 := fun m => by rw [hw]; decide
  unfold way_tells
  simp (disch := first | omega | (simp only [List.length_append, List.length_cons, List.length_nil]; omega)) only [i1, i2, i3, i4, i5, i6, i7, way_plainCounts, way_plainTurns, way_plainSinks, way_plainTells, bgn h0, bgs_4, h4, (fun x l => wturns_3 a x X l h0 h4 h5), (fun x l => wsinks_3 a x X l h0 h4 h5), List.append_assoc, List.cons_append, List.nil_append, Option.bind_some, q10, eq_self, ↓reduceIte]
theorem mcountsBy_3 (a x : Int32) (X : St) (l : List Int32) (h0 : X.1 102 39 = 0) (h4 : 0 ≤ a.toInt ∧ a.toInt < 50) (h5 : X.1 128 (nx a) = 3) (hl : l.length < 90) : mo_countsBy a 3 x (rns l X) = some ((x + a), rns (l ++ [1]) X) := by
  have hd : ∀ d, mo_countsBy_grp (d + 1 + 1 + 1 + 1) 0 a 3 x (rns l X) = some ((x + a), rns (l ++ [1]) X) := fun d => by
    simp (disch := first | omega | (simp only [List.length_append, List.length_cons, List.length_nil]; omega)) only [s_countsBy, mo_countsBy_G, mo_above, rnn h0, rns_k, h5, inB_iff, if_pos, List.append_assoc, List.cons_append, List.nil_append, Option.bind_some, q01, q02, q03, q04, q05, q06, q07, q10, q12, q13, q14, q15, q16, q17, q20, q21, q23, q24, q25, q26, q27, q30, q31, q32, q34, q35, q36, q37, q40, q41, q42, q43, q45, q46, q47, q50, q51, q52, q53, q54, q56, q57, q60, q61, q62, q63, q64, q65, q67, q70, q71, q72, q73, q74, q75, q76, eq_self, ↓reduceIte]
  exact hd 396
theorem msinksBy_3 (a x : Int32) (X : St) (l : List Int32) (h0 : X.1 102 39 = 0) (h4 : 0 ≤ a.toInt ∧ a.toInt < 50) (h5 : X.1 128 (nx a) = 3) (hl : l.length < 80) : mo_sinksBy a 3 x (rns l X) = some (((x ^^^ a) * (3 : Int32)), rns (l ++ [40, 11]) X) := by
  have hd : ∀ d, mo_sinksBy_grp (d + 1 + 1 + 1 + 1) 0 a 3 x (rns l X) = some (((x ^^^ a) * (3 : Int32)), rns (l ++ [40, 11]) X) := fun d => by
    simp (disch := first | omega | (simp only [List.length_append, List.length_cons, List.length_nil]; omega)) only [s_sinksBy, mo_sinksBy_G, mo_above, rnn h0, rns_k, h5, inB_iff, if_pos, (fun x l => mcountsBy_3 a x X l h0 h4 h5), List.append_assoc, List.cons_append, List.nil_append, Option.bind_some, q01, q02, q03, q04, q05, q06, q07, q10, q12, q13, q14, q15, q16, q17, q20, q21, q23, q24, q25, q26, q27, q30, q31, q32, q34, q35, q36, q37, q40, q41, q42, q43, q45, q46, q47, q50, q51, q52, q53, q54, q56, q57, q60, q61, q62, q63, q64, q65, q67, q70, q71, q72, q73, q74, q75, q76, eq_self, ↓reduceIte]
  exact hd 396
theorem mturnsBy_3 (a x : Int32) (X : St) (l : List Int32) (h0 : X.1 102 39 = 0) (h4 : 0 ≤ a.toInt ∧ a.toInt < 50) (h5 : X.1 128 (nx a) = 3) (hl : l.length < 70) : mo_turnsBy a 3 x (rns l X) = some ((-(((x + (1 : Int32)) + a) * (2 : Int32))), rns (l ++ [41, 30, 10, 1]) X) := by
  have hd : ∀ d, mo_turnsBy_grp (d + 1 + 1 + 1 + 1) 0 a 3 x (rns l X) = some ((-(((x + (1 : Int32)) + a) * (2 : Int32))), rns (l ++ [41, 30, 10, 1]) X) := fun d => by
    simp (disch := first | omega | (simp only [List.length_append, List.length_cons, List.length_nil]; omega)) only [s_turnsBy, mo_turnsBy_G, mo_above, rnn h0, rns_k, h5, inB_iff, if_pos, (fun x l => mcountsBy_3 a x X l h0 h4 h5), (fun x l => msinksBy_3 a x X l h0 h4 h5), List.append_assoc, List.cons_append, List.nil_append, Option.bind_some, q01, q02, q03, q04, q05, q06, q07, q10, q12, q13, q14, q15, q16, q17, q20, q21, q23, q24, q25, q26, q27, q30, q31, q32, q34, q35, q36, q37, q40, q41, q42, q43, q45, q46, q47, q50, q51, q52, q53, q54, q56, q57, q60, q61, q62, q63, q64, q65, q67, q70, q71, q72, q73, q74, q75, q76, eq_self, ↓reduceIte]
  exact hd 396
theorem mtells_3 (a x : Int32) (X : St) (l : List Int32) (h0 : X.1 102 39 = 0) (h4 : 0 ≤ a.toInt ∧ a.toInt < 50) (h5 : X.1 128 (nx a) = 3) (hl : l.length < 60) : mo_tells a 3 x (rns l X) = some (((-(((x + (1 : Int32)) + a) * (2 : Int32))) - (((1 : Int32) ^^^ a) * (3 : Int32))), rns (l ++ [2, 41, 30, 10, 1, 40, 11]) X) := by
  have hd : ∀ d, mo_tells_grp (d + 1 + 1 + 1 + 1) 0 a 3 x (rns l X) = some (((-(((x + (1 : Int32)) + a) * (2 : Int32))) - (((1 : Int32) ^^^ a) * (3 : Int32))), rns (l ++ [2, 41, 30, 10, 1, 40, 11]) X) := fun d => by
    simp (disch := first | omega | (simp only [List.length_append, List.length_cons, List.length_nil]; omega)) only [s_tells, mo_tells_G, mo_above, rnn h0, rns_k, h5, inB_iff, if_pos, (fun x l => mturnsBy_3 a x X l h0 h4 h5), (fun x l => msinksBy_3 a x X l h0 h4 h5), List.append_assoc, List.cons_append, List.nil_append, Option.bind_some, q01, q02, q03, q04, q05, q06, q07, q10, q12, q13, q14, q15, q16, q17, q20, q21, q23, q24, q25, q26, q27, q30, q31, q32, q34, q35, q36, q37, q40, q41, q42, q43, q45, q46, q47, q50, q51, q52, q53, q54, q56, q57, q60, q61, q62, q63, q64, q65, q67, q70, q71, q72, q73, q74, q75, q76, eq_self, ↓reduceIte]
  exact hd 396
theorem wcounts_4 (a x : Int32) (X : St) (l : List Int32) (h0 : X.1 88 3 = 0) (h4 : X.1 88 4 = a) (h5 : X.1 88 5 = 19) (hl : l.length < 90) : way_counts x (bgs l X) = some (((x + a) + (3 : Int32)), bgs (l ++ [20, 1]) X) := by
  have hw : ∀ (w : Int32) (m : List Int32), way_is w (bgs m X) = if (((19 : Int32) >>> (w &&& 31)) &&& (1 : Int32)) = 0 then 0 else 1 := fun w m => by unfold way_is; rw [bgs_5, h5]
  have i1 : ∀ m, way_is 1 (bgs m X) = 1 := fun m => by rw [hw]; decide
  have i2 : ∀ m, way_is 2 (bgs m X) = 0 := fun m => by rw [hw]; decide
  have i3 : ∀ m, way_is 3 (bgs m X) = 0 := fun m => by rw [hw]; decide
  have i4 : ∀ m, way_is 4 (bgs m X) = 1 := fun m => by rw [hw]; decide
  have i5 : ∀ m, way_is 5 (bgs m X) = 0 := fun m => by rw [hw]; decide
  have i6 : ∀ m, way_is 6 (bgs m X) = 0 := fun m => by rw [hw]; decide
  have i7 : ∀ m, way_is 7 (bgs m X) = 0 := fun m => by rw [hw]; decide
  unfold way_counts
  simp (disch := first | omega | (simp only [List.length_append, List.length_cons, List.length_nil]; omega)) only [i1, i2, i3, i4, i5, i6, i7, way_plainCounts, way_plainTurns, way_plainSinks, way_plainTells, bgn h0, bgs_4, h4, List.append_assoc, List.cons_append, List.nil_append, Option.bind_some, q10, eq_self, ↓reduceIte]
theorem wsinks_4 (a x : Int32) (X : St) (l : List Int32) (h0 : X.1 88 3 = 0) (h4 : X.1 88 4 = a) (h5 : X.1 88 5 = 19) (hl : l.length < 80) : way_sinks x (bgs l X) = some (((x ^^^ a) - (((2 : Int32) + a) + (3 : Int32))), bgs (l ++ [50, 11, 20, 1]) X) := by
  have hw : ∀ (w : Int32) (m : List Int32), way_is w (bgs m X) = if (((19 : Int32) >>> (w &&& 31)) &&& (1 : Int32)) = 0 then 0 else 1 := fun w m => by unfold way_is; rw [bgs_5, h5]
  have i1 : ∀ m, way_is 1 (bgs m X) = 1 := fun m => by rw [hw]; decide
  have i2 : ∀ m, way_is 2 (bgs m X) = 0 := fun m => by rw [hw]; decide
  have i3 : ∀ m, way_is 3 (bgs m X) = 0 := fun m => by rw [hw]; decide
  have i4 : ∀ m, way_is 4 (bgs m X) = 1 := fun m => by rw [hw]; decide
  have i5 : ∀ m, way_is 5 (bgs m X) = 0 := fun m => by rw [hw]; decide
  have i6 : ∀ m, way_is 6 (bgs m X) = 0 := fun m => by rw [hw]; decide
  have i7 : ∀ m, way_is 7 (bgs m X) = 0 := fun m => by rw [hw]; decide
  unfold way_sinks
  simp (disch := first | omega | (simp only [List.length_append, List.length_cons, List.length_nil]; omega)) only [i1, i2, i3, i4, i5, i6, i7, way_plainCounts, way_plainTurns, way_plainSinks, way_plainTells, bgn h0, bgs_4, h4, (fun x l => wcounts_4 a x X l h0 h4 h5), List.append_assoc, List.cons_append, List.nil_append, Option.bind_some, q10, eq_self, ↓reduceIte]
theorem wturns_4 (a x : Int32) (X : St) (l : List Int32) (h0 : X.1 88 3 = 0) (h4 : X.1 88 4 = a) (h5 : X.1 88 5 = 19) (hl : l.length < 70) : way_turns x (bgs l X) = some ((((x + a) + (3 : Int32)) * (2 : Int32)), bgs (l ++ [10, 20, 1]) X) := by
  have hw : ∀ (w : Int32) (m : List Int32), way_is w (bgs m X) = if (((19 : Int32) >>> (w &&& 31)) &&& (1 : Int32)) = 0 then 0 else 1 := fun w m => by unfold way_is; rw [bgs_5, h5]
  have i1 : ∀ m, way_is 1 (bgs m X) = 1 := fun m => by rw [hw]; decide
  have i2 : ∀ m, way_is 2 (bgs m X) = 0 := fun m => by rw [hw]; decide
  have i3 : ∀ m, way_is 3 (bgs m X) = 0 := fun m => by rw [hw]; decide
  have i4 : ∀ m, way_is 4 (bgs m X) = 1 := fun m => by rw [hw]; decide
  have i5 : ∀ m, way_is 5 (bgs m X) = 0 := fun m => by rw [hw]; decide
  have i6 : ∀ m, way_is 6 (bgs m X) = 0 := fun m => by rw [hw]; decide
  have i7 : ∀ m, way_is 7 (bgs m X) = 0 := fun m => by rw [hw]; decide
  unfold way_turns way_turns_J48
  simp (disch := first | omega | (simp only [List.length_append, List.length_cons, List.length_nil]; omega)) only [i1, i2, i3, i4, i5, i6, i7, way_plainCounts, way_plainTurns, way_plainSinks, way_plainTells, bgn h0, bgs_4, h4, (fun x l => wcounts_4 a x X l h0 h4 h5), (fun x l => wsinks_4 a x X l h0 h4 h5), List.append_assoc, List.cons_append, List.nil_append, Option.bind_some, q10, eq_self, ↓reduceIte]
theorem wtells_4 (a x : Int32) (X : St) (l : List Int32) (h0 : X.1 88 3 = 0) (h4 : X.1 88 4 = a) (h5 : X.1 88 5 = 19) (hl : l.length < 60) : way_tells x (bgs l X) = some (((((x + a) + (3 : Int32)) * (2 : Int32)) - (((1 : Int32) ^^^ a) - (((2 : Int32) + a) + (3 : Int32)))), bgs (l ++ [2, 10, 20, 1, 50, 11, 20, 1]) X) := by
  have hw : ∀ (w : Int32) (m : List Int32), way_is w (bgs m X) = if (((19 : Int32) >>> (w &&& 31)) &&& (1 : Int32)) = 0 then 0 else 1 := fun w m => by unfold way_is; rw [bgs_5, h5]
  have i1 : ∀ m, way_is 1 (bgs m X) = 1 := fun m => by rw [hw]; decide
  have i2 : ∀ m, way_is 2 (bgs m X) = 0 := fun m => by rw [hw]; decide
  have i3 : ∀ m, way_is 3 (bgs m X) = 0 := fun m => by rw [hw]; decide
  have i4 : ∀ m, way_is 4 (bgs m X) = 1 := fun m => by rw [hw]; decide
  have i5 : ∀ m, way_is 5 (bgs m X) = 0 := fun m => by rw [hw]; decide
  have i6 : ∀ m, way_is 6 (bgs m X) = 0 := fun m => by rw [hw]; decide
  have i7 : ∀ m, way_is 7 (bgs m X) = 0 := fun m => by rw [hw]; decide
  unfold way_tells
  simp (disch := first | omega | (simp only [List.length_append, List.length_cons, List.length_nil]; omega)) only [i1, i2, i3, i4, i5, i6, i7, way_plainCounts, way_plainTurns, way_plainSinks, way_plainTells, bgn h0, bgs_4, h4, (fun x l => wturns_4 a x X l h0 h4 h5), (fun x l => wsinks_4 a x X l h0 h4 h5), List.append_assoc, List.cons_append, List.nil_append, Option.bind_some, q10, eq_self, ↓reduceIte]
theorem mcountsBy_4 (a x : Int32) (X : St) (l : List Int32) (h0 : X.1 102 39 = 0) (h4 : 0 ≤ a.toInt ∧ a.toInt < 50) (h5 : X.1 128 (nx a) = 4) (hl : l.length < 90) : mo_countsBy a 4 x (rns l X) = some (((x + a) + (3 : Int32)), rns (l ++ [20, 1]) X) := by
  have hd : ∀ d, mo_countsBy_grp (d + 1 + 1 + 1 + 1) 0 a 4 x (rns l X) = some (((x + a) + (3 : Int32)), rns (l ++ [20, 1]) X) := fun d => by
    simp (disch := first | omega | (simp only [List.length_append, List.length_cons, List.length_nil]; omega)) only [s_countsBy, mo_countsBy_G, mo_above, rnn h0, rns_k, h5, inB_iff, if_pos, List.append_assoc, List.cons_append, List.nil_append, Option.bind_some, q01, q02, q03, q04, q05, q06, q07, q10, q12, q13, q14, q15, q16, q17, q20, q21, q23, q24, q25, q26, q27, q30, q31, q32, q34, q35, q36, q37, q40, q41, q42, q43, q45, q46, q47, q50, q51, q52, q53, q54, q56, q57, q60, q61, q62, q63, q64, q65, q67, q70, q71, q72, q73, q74, q75, q76, eq_self, ↓reduceIte]
  exact hd 396
theorem msinksBy_4 (a x : Int32) (X : St) (l : List Int32) (h0 : X.1 102 39 = 0) (h4 : 0 ≤ a.toInt ∧ a.toInt < 50) (h5 : X.1 128 (nx a) = 4) (hl : l.length < 80) : mo_sinksBy a 4 x (rns l X) = some (((x ^^^ a) - (((2 : Int32) + a) + (3 : Int32))), rns (l ++ [50, 11, 20, 1]) X) := by
  have hd : ∀ d, mo_sinksBy_grp (d + 1 + 1 + 1 + 1) 0 a 4 x (rns l X) = some (((x ^^^ a) - (((2 : Int32) + a) + (3 : Int32))), rns (l ++ [50, 11, 20, 1]) X) := fun d => by
    simp (disch := first | omega | (simp only [List.length_append, List.length_cons, List.length_nil]; omega)) only [s_sinksBy, mo_sinksBy_G, mo_above, rnn h0, rns_k, h5, inB_iff, if_pos, (fun x l => mcountsBy_4 a x X l h0 h4 h5), List.append_assoc, List.cons_append, List.nil_append, Option.bind_some, q01, q02, q03, q04, q05, q06, q07, q10, q12, q13, q14, q15, q16, q17, q20, q21, q23, q24, q25, q26, q27, q30, q31, q32, q34, q35, q36, q37, q40, q41, q42, q43, q45, q46, q47, q50, q51, q52, q53, q54, q56, q57, q60, q61, q62, q63, q64, q65, q67, q70, q71, q72, q73, q74, q75, q76, eq_self, ↓reduceIte]
  exact hd 396
theorem mturnsBy_4 (a x : Int32) (X : St) (l : List Int32) (h0 : X.1 102 39 = 0) (h4 : 0 ≤ a.toInt ∧ a.toInt < 50) (h5 : X.1 128 (nx a) = 4) (hl : l.length < 70) : mo_turnsBy a 4 x (rns l X) = some ((((x + a) + (3 : Int32)) * (2 : Int32)), rns (l ++ [10, 20, 1]) X) := by
  have hd : ∀ d, mo_turnsBy_grp (d + 1 + 1 + 1 + 1) 0 a 4 x (rns l X) = some ((((x + a) + (3 : Int32)) * (2 : Int32)), rns (l ++ [10, 20, 1]) X) := fun d => by
    simp (disch := first | omega | (simp only [List.length_append, List.length_cons, List.length_nil]; omega)) only [s_turnsBy, mo_turnsBy_G, mo_above, rnn h0, rns_k, h5, inB_iff, if_pos, (fun x l => mcountsBy_4 a x X l h0 h4 h5), (fun x l => msinksBy_4 a x X l h0 h4 h5), List.append_assoc, List.cons_append, List.nil_append, Option.bind_some, q01, q02, q03, q04, q05, q06, q07, q10, q12, q13, q14, q15, q16, q17, q20, q21, q23, q24, q25, q26, q27, q30, q31, q32, q34, q35, q36, q37, q40, q41, q42, q43, q45, q46, q47, q50, q51, q52, q53, q54, q56, q57, q60, q61, q62, q63, q64, q65, q67, q70, q71, q72, q73, q74, q75, q76, eq_self, ↓reduceIte]
  exact hd 396
theorem mtells_4 (a x : Int32) (X : St) (l : List Int32) (h0 : X.1 102 39 = 0) (h4 : 0 ≤ a.toInt ∧ a.toInt < 50) (h5 : X.1 128 (nx a) = 4) (hl : l.length < 60) : mo_tells a 4 x (rns l X) = some (((((x + a) + (3 : Int32)) * (2 : Int32)) - (((1 : Int32) ^^^ a) - (((2 : Int32) + a) + (3 : Int32)))), rns (l ++ [2, 10, 20, 1, 50, 11, 20, 1]) X) := by
  have hd : ∀ d, mo_tells_grp (d + 1 + 1 + 1 + 1) 0 a 4 x (rns l X) = some (((((x + a) + (3 : Int32)) * (2 : Int32)) - (((1 : Int32) ^^^ a) - (((2 : Int32) + a) + (3 : Int32)))), rns (l ++ [2, 10, 20, 1, 50, 11, 20, 1]) X) := fun d => by
    simp (disch := first | omega | (simp only [List.length_append, List.length_cons, List.length_nil]; omega)) only [s_tells, mo_tells_G, mo_above, rnn h0, rns_k, h5, inB_iff, if_pos, (fun x l => mturnsBy_4 a x X l h0 h4 h5), (fun x l => msinksBy_4 a x X l h0 h4 h5), List.append_assoc, List.cons_append, List.nil_append, Option.bind_some, q01, q02, q03, q04, q05, q06, q07, q10, q12, q13, q14, q15, q16, q17, q20, q21, q23, q24, q25, q26, q27, q30, q31, q32, q34, q35, q36, q37, q40, q41, q42, q43, q45, q46, q47, q50, q51, q52, q53, q54, q56, q57, q60, q61, q62, q63, q64, q65, q67, q70, q71, q72, q73, q74, q75, q76, eq_self, ↓reduceIte]
  exact hd 396
theorem wcounts_5 (a x : Int32) (X : St) (l : List Int32) (h0 : X.1 88 3 = 0) (h4 : X.1 88 4 = a) (h5 : X.1 88 5 = 45) (hl : l.length < 90) : way_counts x (bgs l X) = some ((x + a), bgs (l ++ [1]) X) := by
  have hw : ∀ (w : Int32) (m : List Int32), way_is w (bgs m X) = if (((45 : Int32) >>> (w &&& 31)) &&& (1 : Int32)) = 0 then 0 else 1 := fun w m => by unfold way_is; rw [bgs_5, h5]
  have i1 : ∀ m, way_is 1 (bgs m X) = 0 := fun m => by rw [hw]; decide
  have i2 : ∀ m, way_is 2 (bgs m X) = 1 := fun m => by rw [hw]; decide
  have i3 : ∀ m, way_is 3 (bgs m X) = 1 := fun m => by rw [hw]; decide
  have i4 : ∀ m, way_is 4 (bgs m X) = 0 := fun m => by rw [hw]; decide
  have i5 : ∀ m, way_is 5 (bgs m X) = 1 := fun m => by rw [hw]; decide
  have i6 : ∀ m, way_is 6 (bgs m X) = 0 := fun m => by rw [hw]; decide
  have i7 : ∀ m, way_is 7 (bgs m X) = 0 := fun m => by rw [hw]; decide
  unfold way_counts
  simp (disch := first | omega | (simp only [List.length_append, List.length_cons, List.length_nil]; omega)) only [i1, i2, i3, i4, i5, i6, i7, way_plainCounts, way_plainTurns, way_plainSinks, way_plainTells, bgn h0, bgs_4, h4, List.append_assoc, List.cons_append, List.nil_append, Option.bind_some, q10, eq_self, ↓reduceIte]
theorem wsinks_5 (a x : Int32) (X : St) (l : List Int32) (h0 : X.1 88 3 = 0) (h4 : X.1 88 4 = a) (h5 : X.1 88 5 = 45) (hl : l.length < 80) : way_sinks x (bgs l X) = some (((x ^^^ a) * (3 : Int32)), bgs (l ++ [40, 11]) X) := by
  have hw : ∀ (w : Int32) (m : List Int32), way_is w (bgs m X) = if (((45 : Int32) >>> (w &&& 31)) &&& (1 : Int32)) = 0 then 0 else 1 := fun w m => by unfold way_is; rw [bgs_5, h5]
  have i1 : ∀ m, way_is 1 (bgs m X) = 0 := fun m => by rw [hw]; decide
  have i2 : ∀ m, way_is 2 (bgs m X) = 1 := fun m => by rw [hw]; decide
  have i3 : ∀ m, way_is 3 (bgs m X) = 1 := fun m => by rw [hw]; decide
  have i4 : ∀ m, way_is 4 (bgs m X) = 0 := fun m => by rw [hw]; decide
  have i5 : ∀ m, way_is 5 (bgs m X) = 1 := fun m => by rw [hw]; decide
  have i6 : ∀ m, way_is 6 (bgs m X) = 0 := fun m => by rw [hw]; decide
  have i7 : ∀ m, way_is 7 (bgs m X) = 0 := fun m => by rw [hw]; decide
  unfold way_sinks
  simp (disch := first | omega | (simp only [List.length_append, List.length_cons, List.length_nil]; omega)) only [i1, i2, i3, i4, i5, i6, i7, way_plainCounts, way_plainTurns, way_plainSinks, way_plainTells, bgn h0, bgs_4, h4, (fun x l => wcounts_5 a x X l h0 h4 h5), List.append_assoc, List.cons_append, List.nil_append, Option.bind_some, q10, eq_self, ↓reduceIte]
theorem wturns_5 (a x : Int32) (X : St) (l : List Int32) (h0 : X.1 88 3 = 0) (h4 : X.1 88 4 = a) (h5 : X.1 88 5 = 45) (hl : l.length < 70) : way_turns x (bgs l X) = some ((-(((x + (1 : Int32)) + a) * (2 : Int32))), bgs (l ++ [41, 30, 10, 1]) X) := by
  have hw : ∀ (w : Int32) (m : List Int32), way_is w (bgs m X) = if (((45 : Int32) >>> (w &&& 31)) &&& (1 : Int32)) = 0 then 0 else 1 := fun w m => by unfold way_is; rw [bgs_5, h5]
  have i1 : ∀ m, way_is 1 (bgs m X) = 0 := fun m => by rw [hw]; decide
  have i2 : ∀ m, way_is 2 (bgs m X) = 1 := fun m => by rw [hw]; decide
  have i3 : ∀ m, way_is 3 (bgs m X) = 1 := fun m => by rw [hw]; decide
  have i4 : ∀ m, way_is 4 (bgs m X) = 0 := fun m => by rw [hw]; decide
  have i5 : ∀ m, way_is 5 (bgs m X) = 1 := fun m => by rw [hw]; decide
  have i6 : ∀ m, way_is 6 (bgs m X) = 0 := fun m => by rw [hw]; decide
  have i7 : ∀ m, way_is 7 (bgs m X) = 0 := fun m => by rw [hw]; decide
  unfold way_turns way_turns_J48
  simp (disch := first | omega | (simp only [List.length_append, List.length_cons, List.length_nil]; omega)) only [i1, i2, i3, i4, i5, i6, i7, way_plainCounts, way_plainTurns, way_plainSinks, way_plainTells, bgn h0, bgs_4, h4, (fun x l => wcounts_5 a x X l h0 h4 h5), (fun x l => wsinks_5 a x X l h0 h4 h5), List.append_assoc, List.cons_append, List.nil_append, Option.bind_some, q10, eq_self, ↓reduceIte]
theorem wtells_5 (a x : Int32) (X : St) (l : List Int32) (h0 : X.1 88 3 = 0) (h4 : X.1 88 4 = a) (h5 : X.1 88 5 = 45) (hl : l.length < 60) : way_tells x (bgs l X) = some ((((-(((x + (1 : Int32)) + a) * (2 : Int32))) - (((1 : Int32) ^^^ a) * (3 : Int32))) ^^^ (5 : Int32)), bgs (l ++ [60, 2, 41, 30, 10, 1, 40, 11]) X) := by
  have hw : ∀ (w : Int32) (m : List Int32), way_is w (bgs m X) = if (((45 : Int32) >>> (w &&& 31)) &&& (1 : Int32)) = 0 then 0 else 1 := fun w m => by unfold way_is; rw [bgs_5, h5]
  have i1 : ∀ m, way_is 1 (bgs m X) = 0 := fun m => by rw [hw]; decide
  have i2 : ∀ m, way_is 2 (bgs m X) = 1 := fun m => by rw [hw]; decide
  have i3 : ∀ m, way_is 3 (bgs m X) = 1 := fun m => by rw [hw]; decide
  have i4 : ∀ m, way_is 4 (bgs m X) = 0 := fun m => by rw [hw]; decide
  have i5 : ∀ m, way_is 5 (bgs m X) = 1 := fun m => by rw [hw]; decide
  have i6 : ∀ m, way_is 6 (bgs m X) = 0 := fun m => by rw [hw]; decide
  have i7 : ∀ m, way_is 7 (bgs m X) = 0 := fun m => by rw [hw]; decide
  unfold way_tells
  simp (disch := first | omega | (simp only [List.length_append, List.length_cons, List.length_nil]; omega)) only [i1, i2, i3, i4, i5, i6, i7, way_plainCounts, way_plainTurns, way_plainSinks, way_plainTells, bgn h0, bgs_4, h4, (fun x l => wturns_5 a x X l h0 h4 h5), (fun x l => wsinks_5 a x X l h0 h4 h5), List.append_assoc, List.cons_append, List.nil_append, Option.bind_some, q10, eq_self, ↓reduceIte]
theorem mcountsBy_5 (a x : Int32) (X : St) (l : List Int32) (h0 : X.1 102 39 = 0) (h4 : 0 ≤ a.toInt ∧ a.toInt < 50) (h5 : X.1 128 (nx a) = 5) (hl : l.length < 90) : mo_countsBy a 5 x (rns l X) = some ((x + a), rns (l ++ [1]) X) := by
  have hd : ∀ d, mo_countsBy_grp (d + 1 + 1 + 1 + 1) 0 a 5 x (rns l X) = some ((x + a), rns (l ++ [1]) X) := fun d => by
    simp (disch := first | omega | (simp only [List.length_append, List.length_cons, List.length_nil]; omega)) only [s_countsBy, mo_countsBy_G, mo_above, rnn h0, rns_k, h5, inB_iff, if_pos, List.append_assoc, List.cons_append, List.nil_append, Option.bind_some, q01, q02, q03, q04, q05, q06, q07, q10, q12, q13, q14, q15, q16, q17, q20, q21, q23, q24, q25, q26, q27, q30, q31, q32, q34, q35, q36, q37, q40, q41, q42, q43, q45, q46, q47, q50, q51, q52, q53, q54, q56, q57, q60, q61, q62, q63, q64, q65, q67, q70, q71, q72, q73, q74, q75, q76, eq_self, ↓reduceIte]
  exact hd 396
theorem msinksBy_5 (a x : Int32) (X : St) (l : List Int32) (h0 : X.1 102 39 = 0) (h4 : 0 ≤ a.toInt ∧ a.toInt < 50) (h5 : X.1 128 (nx a) = 5) (hl : l.length < 80) : mo_sinksBy a 5 x (rns l X) = some (((x ^^^ a) * (3 : Int32)), rns (l ++ [40, 11]) X) := by
  have hd : ∀ d, mo_sinksBy_grp (d + 1 + 1 + 1 + 1) 0 a 5 x (rns l X) = some (((x ^^^ a) * (3 : Int32)), rns (l ++ [40, 11]) X) := fun d => by
    simp (disch := first | omega | (simp only [List.length_append, List.length_cons, List.length_nil]; omega)) only [s_sinksBy, mo_sinksBy_G, mo_above, rnn h0, rns_k, h5, inB_iff, if_pos, (fun x l => mcountsBy_5 a x X l h0 h4 h5), List.append_assoc, List.cons_append, List.nil_append, Option.bind_some, q01, q02, q03, q04, q05, q06, q07, q10, q12, q13, q14, q15, q16, q17, q20, q21, q23, q24, q25, q26, q27, q30, q31, q32, q34, q35, q36, q37, q40, q41, q42, q43, q45, q46, q47, q50, q51, q52, q53, q54, q56, q57, q60, q61, q62, q63, q64, q65, q67, q70, q71, q72, q73, q74, q75, q76, eq_self, ↓reduceIte]
  exact hd 396
theorem mturnsBy_5 (a x : Int32) (X : St) (l : List Int32) (h0 : X.1 102 39 = 0) (h4 : 0 ≤ a.toInt ∧ a.toInt < 50) (h5 : X.1 128 (nx a) = 5) (hl : l.length < 70) : mo_turnsBy a 5 x (rns l X) = some ((-(((x + (1 : Int32)) + a) * (2 : Int32))), rns (l ++ [41, 30, 10, 1]) X) := by
  have hd : ∀ d, mo_turnsBy_grp (d + 1 + 1 + 1 + 1) 0 a 5 x (rns l X) = some ((-(((x + (1 : Int32)) + a) * (2 : Int32))), rns (l ++ [41, 30, 10, 1]) X) := fun d => by
    simp (disch := first | omega | (simp only [List.length_append, List.length_cons, List.length_nil]; omega)) only [s_turnsBy, mo_turnsBy_G, mo_above, rnn h0, rns_k, h5, inB_iff, if_pos, (fun x l => mcountsBy_5 a x X l h0 h4 h5), (fun x l => msinksBy_5 a x X l h0 h4 h5), List.append_assoc, List.cons_append, List.nil_append, Option.bind_some, q01, q02, q03, q04, q05, q06, q07, q10, q12, q13, q14, q15, q16, q17, q20, q21, q23, q24, q25, q26, q27, q30, q31, q32, q34, q35, q36, q37, q40, q41, q42, q43, q45, q46, q47, q50, q51, q52, q53, q54, q56, q57, q60, q61, q62, q63, q64, q65, q67, q70, q71, q72, q73, q74, q75, q76, eq_self, ↓reduceIte]
  exact hd 396
theorem mtells_5 (a x : Int32) (X : St) (l : List Int32) (h0 : X.1 102 39 = 0) (h4 : 0 ≤ a.toInt ∧ a.toInt < 50) (h5 : X.1 128 (nx a) = 5) (hl : l.length < 60) : mo_tells a 5 x (rns l X) = some ((((-(((x + (1 : Int32)) + a) * (2 : Int32))) - (((1 : Int32) ^^^ a) * (3 : Int32))) ^^^ (5 : Int32)), rns (l ++ [60, 2, 41, 30, 10, 1, 40, 11]) X) := by
  have hd : ∀ d, mo_tells_grp (d + 1 + 1 + 1 + 1) 0 a 5 x (rns l X) = some ((((-(((x + (1 : Int32)) + a) * (2 : Int32))) - (((1 : Int32) ^^^ a) * (3 : Int32))) ^^^ (5 : Int32)), rns (l ++ [60, 2, 41, 30, 10, 1, 40, 11]) X) := fun d => by
    simp (disch := first | omega | (simp only [List.length_append, List.length_cons, List.length_nil]; omega)) only [s_tells, mo_tells_G, mo_above, rnn h0, rns_k, h5, inB_iff, if_pos, (fun x l => mturnsBy_5 a x X l h0 h4 h5), (fun x l => msinksBy_5 a x X l h0 h4 h5), List.append_assoc, List.cons_append, List.nil_append, Option.bind_some, q01, q02, q03, q04, q05, q06, q07, q10, q12, q13, q14, q15, q16, q17, q20, q21, q23, q24, q25, q26, q27, q30, q31, q32, q34, q35, q36, q37, q40, q41, q42, q43, q45, q46, q47, q50, q51, q52, q53, q54, q56, q57, q60, q61, q62, q63, q64, q65, q67, q70, q71, q72, q73, q74, q75, q76, eq_self, ↓reduceIte]
  exact hd 396
theorem wcounts_6 (a x : Int32) (X : St) (l : List Int32) (h0 : X.1 88 3 = 0) (h4 : X.1 88 4 = a) (h5 : X.1 88 5 = 65) (hl : l.length < 90) : way_counts x (bgs l X) = some (((x + a) * (2 : Int32)), bgs (l ++ [70, 1]) X) := by
  have hw : ∀ (w : Int32) (m : List Int32), way_is w (bgs m X) = if (((65 : Int32) >>> (w &&& 31)) &&& (1 : Int32)) = 0 then 0 else 1 := fun w m => by unfold way_is; rw [bgs_5, h5]
  have i1 : ∀ m, way_is 1 (bgs m X) = 0 := fun m => by rw [hw]; decide
  have i2 : ∀ m, way_is 2 (bgs m X) = 0 := fun m => by rw [hw]; decide
  have i3 : ∀ m, way_is 3 (bgs m X) = 0 := fun m => by rw [hw]; decide
  have i4 : ∀ m, way_is 4 (bgs m X) = 0 := fun m => by rw [hw]; decide
  have i5 : ∀ m, way_is 5 (bgs m X) = 0 := fun m => by rw [hw]; decide
  have i6 : ∀ m, way_is 6 (bgs m X) = 1 := fun m => by rw [hw]; decide
  have i7 : ∀ m, way_is 7 (bgs m X) = 0 := fun m => by rw [hw]; decide
  unfold way_counts
  simp (disch := first | omega | (simp only [List.length_append, List.length_cons, List.length_nil]; omega)) only [i1, i2, i3, i4, i5, i6, i7, way_plainCounts, way_plainTurns, way_plainSinks, way_plainTells, bgn h0, bgs_4, h4, List.append_assoc, List.cons_append, List.nil_append, Option.bind_some, q10, eq_self, ↓reduceIte]
theorem wsinks_6 (a x : Int32) (X : St) (l : List Int32) (h0 : X.1 88 3 = 0) (h4 : X.1 88 4 = a) (h5 : X.1 88 5 = 65) (hl : l.length < 80) : way_sinks x (bgs l X) = some ((x ^^^ a), bgs (l ++ [11]) X) := by
  have hw : ∀ (w : Int32) (m : List Int32), way_is w (bgs m X) = if (((65 : Int32) >>> (w &&& 31)) &&& (1 : Int32)) = 0 then 0 else 1 := fun w m => by unfold way_is; rw [bgs_5, h5]
  have i1 : ∀ m, way_is 1 (bgs m X) = 0 := fun m => by rw [hw]; decide
  have i2 : ∀ m, way_is 2 (bgs m X) = 0 := fun m => by rw [hw]; decide
  have i3 : ∀ m, way_is 3 (bgs m X) = 0 := fun m => by rw [hw]; decide
  have i4 : ∀ m, way_is 4 (bgs m X) = 0 := fun m => by rw [hw]; decide
  have i5 : ∀ m, way_is 5 (bgs m X) = 0 := fun m => by rw [hw]; decide
  have i6 : ∀ m, way_is 6 (bgs m X) = 1 := fun m => by rw [hw]; decide
  have i7 : ∀ m, way_is 7 (bgs m X) = 0 := fun m => by rw [hw]; decide
  unfold way_sinks
  simp (disch := first | omega | (simp only [List.length_append, List.length_cons, List.length_nil]; omega)) only [i1, i2, i3, i4, i5, i6, i7, way_plainCounts, way_plainTurns, way_plainSinks, way_plainTells, bgn h0, bgs_4, h4, (fun x l => wcounts_6 a x X l h0 h4 h5), List.append_assoc, List.cons_append, List.nil_append, Option.bind_some, q10, eq_self, ↓reduceIte]
theorem wturns_6 (a x : Int32) (X : St) (l : List Int32) (h0 : X.1 88 3 = 0) (h4 : X.1 88 4 = a) (h5 : X.1 88 5 = 65) (hl : l.length < 70) : way_turns x (bgs l X) = some ((((x + a) * (2 : Int32)) * (2 : Int32)), bgs (l ++ [10, 70, 1]) X) := by
  have hw : ∀ (w : Int32) (m : List Int32), way_is w (bgs m X) = if (((65 : Int32) >>> (w &&& 31)) &&& (1 : Int32)) = 0 then 0 else 1 := fun w m => by unfold way_is; rw [bgs_5, h5]
  have i1 : ∀ m, way_is 1 (bgs m X) = 0 := fun m => by rw [hw]; decide
  have i2 : ∀ m, way_is 2 (bgs m X) = 0 := fun m => by rw [hw]; decide
  have i3 : ∀ m, way_is 3 (bgs m X) = 0 := fun m => by rw [hw]; decide
  have i4 : ∀ m, way_is 4 (bgs m X) = 0 := fun m => by rw [hw]; decide
  have i5 : ∀ m, way_is 5 (bgs m X) = 0 := fun m => by rw [hw]; decide
  have i6 : ∀ m, way_is 6 (bgs m X) = 1 := fun m => by rw [hw]; decide
  have i7 : ∀ m, way_is 7 (bgs m X) = 0 := fun m => by rw [hw]; decide
  unfold way_turns way_turns_J48
  simp (disch := first | omega | (simp only [List.length_append, List.length_cons, List.length_nil]; omega)) only [i1, i2, i3, i4, i5, i6, i7, way_plainCounts, way_plainTurns, way_plainSinks, way_plainTells, bgn h0, bgs_4, h4, (fun x l => wcounts_6 a x X l h0 h4 h5), (fun x l => wsinks_6 a x X l h0 h4 h5), List.append_assoc, List.cons_append, List.nil_append, Option.bind_some, q10, eq_self, ↓reduceIte]
theorem wtells_6 (a x : Int32) (X : St) (l : List Int32) (h0 : X.1 88 3 = 0) (h4 : X.1 88 4 = a) (h5 : X.1 88 5 = 65) (hl : l.length < 60) : way_tells x (bgs l X) = some (((((x + a) * (2 : Int32)) * (2 : Int32)) - ((1 : Int32) ^^^ a)), bgs (l ++ [2, 10, 70, 1, 11]) X) := by
  have hw : ∀ (w : Int32) (m : List Int32), way_is w (bgs m X) = if (((65 : Int32) >>> (w &&& 31)) &&& (1 : Int32)) = 0 then 0 else 1 := fun w m => by unfold way_is; rw [bgs_5, h5]
  have i1 : ∀ m, way_is 1 (bgs m X) = 0 := fun m => by rw [hw]; decide
  have i2 : ∀ m, way_is 2 (bgs m X) = 0 := fun m => by rw [hw]; decide
  have i3 : ∀ m, way_is 3 (bgs m X) = 0 := fun m => by rw [hw]; decide
  have i4 : ∀ m, way_is 4 (bgs m X) = 0 := fun m => by rw [hw]; decide
  have i5 : ∀ m, way_is 5 (bgs m X) = 0 := fun m => by rw [hw]; decide
  have i6 : ∀ m, way_is 6 (bgs m X) = 1 := fun m => by rw [hw]; decide
  have i7 : ∀ m, way_is 7 (bgs m X) = 0 := fun m => by rw [hw]; decide
  unfold way_tells
  simp (disch := first | omega | (simp only [List.length_append, List.length_cons, List.length_nil]; omega)) only [i1, i2, i3, i4, i5, i6, i7, way_plainCounts, way_plainTurns, way_plainSinks, way_plainTells, bgn h0, bgs_4, h4, (fun x l => wturns_6 a x X l h0 h4 h5), (fun x l => wsinks_6 a x X l h0 h4 h5), List.append_assoc, List.cons_append, List.nil_append, Option.bind_some, q10, eq_self, ↓reduceIte]
theorem mcountsBy_6 (a x : Int32) (X : St) (l : List Int32) (h0 : X.1 102 39 = 0) (h4 : 0 ≤ a.toInt ∧ a.toInt < 50) (h5 : X.1 128 (nx a) = 6) (hl : l.length < 90) : mo_countsBy a 6 x (rns l X) = some (((x + a) * (2 : Int32)), rns (l ++ [70, 1]) X) := by
  have hd : ∀ d, mo_countsBy_grp (d + 1 + 1 + 1 + 1) 0 a 6 x (rns l X) = some (((x + a) * (2 : Int32)), rns (l ++ [70, 1]) X) := fun d => by
    simp (disch := first | omega | (simp only [List.length_append, List.length_cons, List.length_nil]; omega)) only [s_countsBy, mo_countsBy_G, mo_above, rnn h0, rns_k, h5, inB_iff, if_pos, List.append_assoc, List.cons_append, List.nil_append, Option.bind_some, q01, q02, q03, q04, q05, q06, q07, q10, q12, q13, q14, q15, q16, q17, q20, q21, q23, q24, q25, q26, q27, q30, q31, q32, q34, q35, q36, q37, q40, q41, q42, q43, q45, q46, q47, q50, q51, q52, q53, q54, q56, q57, q60, q61, q62, q63, q64, q65, q67, q70, q71, q72, q73, q74, q75, q76, eq_self, ↓reduceIte]
  exact hd 396
theorem msinksBy_6 (a x : Int32) (X : St) (l : List Int32) (h0 : X.1 102 39 = 0) (h4 : 0 ≤ a.toInt ∧ a.toInt < 50) (h5 : X.1 128 (nx a) = 6) (hl : l.length < 80) : mo_sinksBy a 6 x (rns l X) = some ((x ^^^ a), rns (l ++ [11]) X) := by
  have hd : ∀ d, mo_sinksBy_grp (d + 1 + 1 + 1 + 1) 0 a 6 x (rns l X) = some ((x ^^^ a), rns (l ++ [11]) X) := fun d => by
    simp (disch := first | omega | (simp only [List.length_append, List.length_cons, List.length_nil]; omega)) only [s_sinksBy, mo_sinksBy_G, mo_above, rnn h0, rns_k, h5, inB_iff, if_pos, (fun x l => mcountsBy_6 a x X l h0 h4 h5), List.append_assoc, List.cons_append, List.nil_append, Option.bind_some, q01, q02, q03, q04, q05, q06, q07, q10, q12, q13, q14, q15, q16, q17, q20, q21, q23, q24, q25, q26, q27, q30, q31, q32, q34, q35, q36, q37, q40, q41, q42, q43, q45, q46, q47, q50, q51, q52, q53, q54, q56, q57, q60, q61, q62, q63, q64, q65, q67, q70, q71, q72, q73, q74, q75, q76, eq_self, ↓reduceIte]
  exact hd 396
theorem mturnsBy_6 (a x : Int32) (X : St) (l : List Int32) (h0 : X.1 102 39 = 0) (h4 : 0 ≤ a.toInt ∧ a.toInt < 50) (h5 : X.1 128 (nx a) = 6) (hl : l.length < 70) : mo_turnsBy a 6 x (rns l X) = some ((((x + a) * (2 : Int32)) * (2 : Int32)), rns (l ++ [10, 70, 1]) X) := by
  have hd : ∀ d, mo_turnsBy_grp (d + 1 + 1 + 1 + 1) 0 a 6 x (rns l X) = some ((((x + a) * (2 : Int32)) * (2 : Int32)), rns (l ++ [10, 70, 1]) X) := fun d => by
    simp (disch := first | omega | (simp only [List.length_append, List.length_cons, List.length_nil]; omega)) only [s_turnsBy, mo_turnsBy_G, mo_above, rnn h0, rns_k, h5, inB_iff, if_pos, (fun x l => mcountsBy_6 a x X l h0 h4 h5), (fun x l => msinksBy_6 a x X l h0 h4 h5), List.append_assoc, List.cons_append, List.nil_append, Option.bind_some, q01, q02, q03, q04, q05, q06, q07, q10, q12, q13, q14, q15, q16, q17, q20, q21, q23, q24, q25, q26, q27, q30, q31, q32, q34, q35, q36, q37, q40, q41, q42, q43, q45, q46, q47, q50, q51, q52, q53, q54, q56, q57, q60, q61, q62, q63, q64, q65, q67, q70, q71, q72, q73, q74, q75, q76, eq_self, ↓reduceIte]
  exact hd 396
theorem mtells_6 (a x : Int32) (X : St) (l : List Int32) (h0 : X.1 102 39 = 0) (h4 : 0 ≤ a.toInt ∧ a.toInt < 50) (h5 : X.1 128 (nx a) = 6) (hl : l.length < 60) : mo_tells a 6 x (rns l X) = some (((((x + a) * (2 : Int32)) * (2 : Int32)) - ((1 : Int32) ^^^ a)), rns (l ++ [2, 10, 70, 1, 11]) X) := by
  have hd : ∀ d, mo_tells_grp (d + 1 + 1 + 1 + 1) 0 a 6 x (rns l X) = some (((((x + a) * (2 : Int32)) * (2 : Int32)) - ((1 : Int32) ^^^ a)), rns (l ++ [2, 10, 70, 1, 11]) X) := fun d => by
    simp (disch := first | omega | (simp only [List.length_append, List.length_cons, List.length_nil]; omega)) only [s_tells, mo_tells_G, mo_above, rnn h0, rns_k, h5, inB_iff, if_pos, (fun x l => mturnsBy_6 a x X l h0 h4 h5), (fun x l => msinksBy_6 a x X l h0 h4 h5), List.append_assoc, List.cons_append, List.nil_append, Option.bind_some, q01, q02, q03, q04, q05, q06, q07, q10, q12, q13, q14, q15, q16, q17, q20, q21, q23, q24, q25, q26, q27, q30, q31, q32, q34, q35, q36, q37, q40, q41, q42, q43, q45, q46, q47, q50, q51, q52, q53, q54, q56, q57, q60, q61, q62, q63, q64, q65, q67, q70, q71, q72, q73, q74, q75, q76, eq_self, ↓reduceIte]
  exact hd 396
theorem wcounts_7 (a x : Int32) (X : St) (l : List Int32) (h0 : X.1 88 3 = 0) (h4 : X.1 88 4 = a) (h5 : X.1 88 5 = 147) (hl : l.length < 90) : way_counts x (bgs l X) = some (((x + a) + (3 : Int32)), bgs (l ++ [20, 1]) X) := by
  have hw : ∀ (w : Int32) (m : List Int32), way_is w (bgs m X) = if (((147 : Int32) >>> (w &&& 31)) &&& (1 : Int32)) = 0 then 0 else 1 := fun w m => by unfold way_is; rw [bgs_5, h5]
  have i1 : ∀ m, way_is 1 (bgs m X) = 1 := fun m => by rw [hw]; decide
  have i2 : ∀ m, way_is 2 (bgs m X) = 0 := fun m => by rw [hw]; decide
  have i3 : ∀ m, way_is 3 (bgs m X) = 0 := fun m => by rw [hw]; decide
  have i4 : ∀ m, way_is 4 (bgs m X) = 1 := fun m => by rw [hw]; decide
  have i5 : ∀ m, way_is 5 (bgs m X) = 0 := fun m => by rw [hw]; decide
  have i6 : ∀ m, way_is 6 (bgs m X) = 0 := fun m => by rw [hw]; decide
  have i7 : ∀ m, way_is 7 (bgs m X) = 1 := fun m => by rw [hw]; decide
  unfold way_counts
  simp (disch := first | omega | (simp only [List.length_append, List.length_cons, List.length_nil]; omega)) only [i1, i2, i3, i4, i5, i6, i7, way_plainCounts, way_plainTurns, way_plainSinks, way_plainTells, bgn h0, bgs_4, h4, List.append_assoc, List.cons_append, List.nil_append, Option.bind_some, q10, eq_self, ↓reduceIte]
theorem wsinks_7 (a x : Int32) (X : St) (l : List Int32) (h0 : X.1 88 3 = 0) (h4 : X.1 88 4 = a) (h5 : X.1 88 5 = 147) (hl : l.length < 80) : way_sinks x (bgs l X) = some (((x ^^^ a) - (((2 : Int32) + a) + (3 : Int32))), bgs (l ++ [50, 11, 20, 1]) X) := by
  have hw : ∀ (w : Int32) (m : List Int32), way_is w (bgs m X) = if (((147 : Int32) >>> (w &&& 31)) &&& (1 : Int32)) = 0 then 0 else 1 := fun w m => by unfold way_is; rw [bgs_5, h5]
  have i1 : ∀ m, way_is 1 (bgs m X) = 1 := fun m => by rw [hw]; decide
  have i2 : ∀ m, way_is 2 (bgs m X) = 0 := fun m => by rw [hw]; decide
  have i3 : ∀ m, way_is 3 (bgs m X) = 0 := fun m => by rw [hw]; decide
  have i4 : ∀ m, way_is 4 (bgs m X) = 1 := fun m => by rw [hw]; decide
  have i5 : ∀ m, way_is 5 (bgs m X) = 0 := fun m => by rw [hw]; decide
  have i6 : ∀ m, way_is 6 (bgs m X) = 0 := fun m => by rw [hw]; decide
  have i7 : ∀ m, way_is 7 (bgs m X) = 1 := fun m => by rw [hw]; decide
  unfold way_sinks
  simp (disch := first | omega | (simp only [List.length_append, List.length_cons, List.length_nil]; omega)) only [i1, i2, i3, i4, i5, i6, i7, way_plainCounts, way_plainTurns, way_plainSinks, way_plainTells, bgn h0, bgs_4, h4, (fun x l => wcounts_7 a x X l h0 h4 h5), List.append_assoc, List.cons_append, List.nil_append, Option.bind_some, q10, eq_self, ↓reduceIte]
theorem wturns_7 (a x : Int32) (X : St) (l : List Int32) (h0 : X.1 88 3 = 0) (h4 : X.1 88 4 = a) (h5 : X.1 88 5 = 147) (hl : l.length < 70) : way_turns x (bgs l X) = some (((((x + a) + (3 : Int32)) * (2 : Int32)) + (((2 : Int32) ^^^ a) - (((2 : Int32) + a) + (3 : Int32)))), bgs (l ++ [80, 10, 20, 1, 50, 11, 20, 1]) X) := by
  have hw : ∀ (w : Int32) (m : List Int32), way_is w (bgs m X) = if (((147 : Int32) >>> (w &&& 31)) &&& (1 : Int32)) = 0 then 0 else 1 := fun w m => by unfold way_is; rw [bgs_5, h5]
  have i1 : ∀ m, way_is 1 (bgs m X) = 1 := fun m => by rw [hw]; decide
  have i2 : ∀ m, way_is 2 (bgs m X) = 0 := fun m => by rw [hw]; decide
  have i3 : ∀ m, way_is 3 (bgs m X) = 0 := fun m => by rw [hw]; decide
  have i4 : ∀ m, way_is 4 (bgs m X) = 1 := fun m => by rw [hw]; decide
  have i5 : ∀ m, way_is 5 (bgs m X) = 0 := fun m => by rw [hw]; decide
  have i6 : ∀ m, way_is 6 (bgs m X) = 0 := fun m => by rw [hw]; decide
  have i7 : ∀ m, way_is 7 (bgs m X) = 1 := fun m => by rw [hw]; decide
  unfold way_turns way_turns_J48
  simp (disch := first | omega | (simp only [List.length_append, List.length_cons, List.length_nil]; omega)) only [i1, i2, i3, i4, i5, i6, i7, way_plainCounts, way_plainTurns, way_plainSinks, way_plainTells, bgn h0, bgs_4, h4, (fun x l => wcounts_7 a x X l h0 h4 h5), (fun x l => wsinks_7 a x X l h0 h4 h5), List.append_assoc, List.cons_append, List.nil_append, Option.bind_some, q10, eq_self, ↓reduceIte]
theorem wtells_7 (a x : Int32) (X : St) (l : List Int32) (h0 : X.1 88 3 = 0) (h4 : X.1 88 4 = a) (h5 : X.1 88 5 = 147) (hl : l.length < 60) : way_tells x (bgs l X) = some (((((((x + a) + (3 : Int32)) * (2 : Int32)) + (((2 : Int32) ^^^ a) - (((2 : Int32) + a) + (3 : Int32)))) - (((1 : Int32) ^^^ a) - (((2 : Int32) + a) + (3 : Int32)))) - (1 : Int32)), bgs (l ++ [81, 2, 80, 10, 20, 1, 50, 11, 20, 1, 50, 11, 20, 1]) X) := by
  have hw : ∀ (w : Int32) (m : List Int32), way_is w (bgs m X) = if (((147 : Int32) >>> (w &&& 31)) &&& (1 : Int32)) = 0 then 0 else 1 := fun w m => by unfold way_is; rw [bgs_5, h5]
  have i1 : ∀ m, way_is 1 (bgs m X) = 1 := fun m => by rw [hw]; decide
  have i2 : ∀ m, way_is 2 (bgs m X) = 0 := fun m => by rw [hw]; decide
  have i3 : ∀ m, way_is 3 (bgs m X) = 0 := fun m => by rw [hw]; decide
  have i4 : ∀ m, way_is 4 (bgs m X) = 1 := fun m => by rw [hw]; decide
  have i5 : ∀ m, way_is 5 (bgs m X) = 0 := fun m => by rw [hw]; decide
  have i6 : ∀ m, way_is 6 (bgs m X) = 0 := fun m => by rw [hw]; decide
  have i7 : ∀ m, way_is 7 (bgs m X) = 1 := fun m => by rw [hw]; decide
  unfold way_tells
  simp (disch := first | omega | (simp only [List.length_append, List.length_cons, List.length_nil]; omega)) only [i1, i2, i3, i4, i5, i6, i7, way_plainCounts, way_plainTurns, way_plainSinks, way_plainTells, bgn h0, bgs_4, h4, (fun x l => wturns_7 a x X l h0 h4 h5), (fun x l => wsinks_7 a x X l h0 h4 h5), List.append_assoc, List.cons_append, List.nil_append, Option.bind_some, q10, eq_self, ↓reduceIte]
theorem mcountsBy_7 (a x : Int32) (X : St) (l : List Int32) (h0 : X.1 102 39 = 0) (h4 : 0 ≤ a.toInt ∧ a.toInt < 50) (h5 : X.1 128 (nx a) = 7) (hl : l.length < 90) : mo_countsBy a 7 x (rns l X) = some (((x + a) + (3 : Int32)), rns (l ++ [20, 1]) X) := by
  have hd : ∀ d, mo_countsBy_grp (d + 1 + 1 + 1 + 1) 0 a 7 x (rns l X) = some (((x + a) + (3 : Int32)), rns (l ++ [20, 1]) X) := fun d => by
    simp (disch := first | omega | (simp only [List.length_append, List.length_cons, List.length_nil]; omega)) only [s_countsBy, mo_countsBy_G, mo_above, rnn h0, rns_k, h5, inB_iff, if_pos, List.append_assoc, List.cons_append, List.nil_append, Option.bind_some, q01, q02, q03, q04, q05, q06, q07, q10, q12, q13, q14, q15, q16, q17, q20, q21, q23, q24, q25, q26, q27, q30, q31, q32, q34, q35, q36, q37, q40, q41, q42, q43, q45, q46, q47, q50, q51, q52, q53, q54, q56, q57, q60, q61, q62, q63, q64, q65, q67, q70, q71, q72, q73, q74, q75, q76, eq_self, ↓reduceIte]
  exact hd 396
theorem msinksBy_7 (a x : Int32) (X : St) (l : List Int32) (h0 : X.1 102 39 = 0) (h4 : 0 ≤ a.toInt ∧ a.toInt < 50) (h5 : X.1 128 (nx a) = 7) (hl : l.length < 80) : mo_sinksBy a 7 x (rns l X) = some (((x ^^^ a) - (((2 : Int32) + a) + (3 : Int32))), rns (l ++ [50, 11, 20, 1]) X) := by
  have hd : ∀ d, mo_sinksBy_grp (d + 1 + 1 + 1 + 1) 0 a 7 x (rns l X) = some (((x ^^^ a) - (((2 : Int32) + a) + (3 : Int32))), rns (l ++ [50, 11, 20, 1]) X) := fun d => by
    simp (disch := first | omega | (simp only [List.length_append, List.length_cons, List.length_nil]; omega)) only [s_sinksBy, mo_sinksBy_G, mo_above, rnn h0, rns_k, h5, inB_iff, if_pos, (fun x l => mcountsBy_7 a x X l h0 h4 h5), List.append_assoc, List.cons_append, List.nil_append, Option.bind_some, q01, q02, q03, q04, q05, q06, q07, q10, q12, q13, q14, q15, q16, q17, q20, q21, q23, q24, q25, q26, q27, q30, q31, q32, q34, q35, q36, q37, q40, q41, q42, q43, q45, q46, q47, q50, q51, q52, q53, q54, q56, q57, q60, q61, q62, q63, q64, q65, q67, q70, q71, q72, q73, q74, q75, q76, eq_self, ↓reduceIte]
  exact hd 396
theorem mturnsBy_7 (a x : Int32) (X : St) (l : List Int32) (h0 : X.1 102 39 = 0) (h4 : 0 ≤ a.toInt ∧ a.toInt < 50) (h5 : X.1 128 (nx a) = 7) (hl : l.length < 70) : mo_turnsBy a 7 x (rns l X) = some (((((x + a) + (3 : Int32)) * (2 : Int32)) + (((2 : Int32) ^^^ a) - (((2 : Int32) + a) + (3 : Int32)))), rns (l ++ [80, 10, 20, 1, 50, 11, 20, 1]) X) := by
  have hd : ∀ d, mo_turnsBy_grp (d + 1 + 1 + 1 + 1) 0 a 7 x (rns l X) = some (((((x + a) + (3 : Int32)) * (2 : Int32)) + (((2 : Int32) ^^^ a) - (((2 : Int32) + a) + (3 : Int32)))), rns (l ++ [80, 10, 20, 1, 50, 11, 20, 1]) X) := fun d => by
    simp (disch := first | omega | (simp only [List.length_append, List.length_cons, List.length_nil]; omega)) only [s_turnsBy, mo_turnsBy_G, mo_above, rnn h0, rns_k, h5, inB_iff, if_pos, (fun x l => mcountsBy_7 a x X l h0 h4 h5), (fun x l => msinksBy_7 a x X l h0 h4 h5), List.append_assoc, List.cons_append, List.nil_append, Option.bind_some, q01, q02, q03, q04, q05, q06, q07, q10, q12, q13, q14, q15, q16, q17, q20, q21, q23, q24, q25, q26, q27, q30, q31, q32, q34, q35, q36, q37, q40, q41, q42, q43, q45, q46, q47, q50, q51, q52, q53, q54, q56, q57, q60, q61, q62, q63, q64, q65, q67, q70, q71, q72, q73, q74, q75, q76, eq_self, ↓reduceIte]
  exact hd 396
theorem mtells_7 (a x : Int32) (X : St) (l : List Int32) (h0 : X.1 102 39 = 0) (h4 : 0 ≤ a.toInt ∧ a.toInt < 50) (h5 : X.1 128 (nx a) = 7) (hl : l.length < 60) : mo_tells a 7 x (rns l X) = some (((((((x + a) + (3 : Int32)) * (2 : Int32)) + (((2 : Int32) ^^^ a) - (((2 : Int32) + a) + (3 : Int32)))) - (((1 : Int32) ^^^ a) - (((2 : Int32) + a) + (3 : Int32)))) - (1 : Int32)), rns (l ++ [81, 2, 80, 10, 20, 1, 50, 11, 20, 1, 50, 11, 20, 1]) X) := by
  have hd : ∀ d, mo_tells_grp (d + 1 + 1 + 1 + 1) 0 a 7 x (rns l X) = some (((((((x + a) + (3 : Int32)) * (2 : Int32)) + (((2 : Int32) ^^^ a) - (((2 : Int32) + a) + (3 : Int32)))) - (((1 : Int32) ^^^ a) - (((2 : Int32) + a) + (3 : Int32)))) - (1 : Int32)), rns (l ++ [81, 2, 80, 10, 20, 1, 50, 11, 20, 1, 50, 11, 20, 1]) X) := fun d => by
    simp (disch := first | omega | (simp only [List.length_append, List.length_cons, List.length_nil]; omega)) only [s_tells, mo_tells_G, mo_above, rnn h0, rns_k, h5, inB_iff, if_pos, (fun x l => mturnsBy_7 a x X l h0 h4 h5), (fun x l => msinksBy_7 a x X l h0 h4 h5), List.append_assoc, List.cons_append, List.nil_append, Option.bind_some, q01, q02, q03, q04, q05, q06, q07, q10, q12, q13, q14, q15, q16, q17, q20, q21, q23, q24, q25, q26, q27, q30, q31, q32, q34, q35, q36, q37, q40, q41, q42, q43, q45, q46, q47, q50, q51, q52, q53, q54, q56, q57, q60, q61, q62, q63, q64, q65, q67, q70, q71, q72, q73, q74, q75, q76, eq_self, ↓reduceIte]
  exact hd 396
theorem act_all (a x : Int32) (k : Int32) (S : St) (hk : 0 ≤ k.toInt ∧ k.toInt ≤ 7) (h0 : S.1 88 3 = 0) (h4 : S.1 88 4 = a) (h5 : S.1 88 5 = UPf (nx k)) (g4 : 0 ≤ a.toInt ∧ a.toInt < 50) :
    (∃ v L, way_counts x S = some (v, bgs L S) ∧ L.length < 100 ∧ ∀ Y : St, Y.1 102 39 = 0 → Y.1 128 (nx a) = k → mo_countsBy a k x Y = some (v, rns L Y)) ∧ (∃ v L, way_turns x S = some (v, bgs L S) ∧ L.length < 100 ∧ ∀ Y : St, Y.1 102 39 = 0 → Y.1 128 (nx a) = k → mo_turnsBy a k x Y = some (v, rns L Y)) ∧ (∃ v L, way_sinks x S = some (v, bgs L S) ∧ L.length < 100 ∧ ∀ Y : St, Y.1 102 39 = 0 → Y.1 128 (nx a) = k → mo_sinksBy a k x Y = some (v, rns L Y)) ∧ (∃ v L, way_tells x S = some (v, bgs L S) ∧ L.length < 100 ∧ ∀ Y : St, Y.1 102 39 = 0 → Y.1 128 (nx a) = k → mo_tells a k x Y = some (v, rns L Y)) := by
  have e : k = 0 ∨ k = 1 ∨ k = 2 ∨ k = 3 ∨ k = 4 ∨ k = 5 ∨ k = 6 ∨ k = 7 := by
    simp only [ti_eq, Int32.reduceToInt]
    omega
  rcases e with e | e | e | e | e | e | e | e
  · subst e
    have h6 : S.1 88 5 = 1 := h5
    refine ⟨⟨_, _, wcounts_0 a x S [] h0 h4 h6 (by decide), (by decide), fun Y g0 g5 => mcountsBy_0 a x Y [] g0 g4 g5 (by decide)⟩, ⟨_, _, wturns_0 a x S [] h0 h4 h6 (by decide), (by decide), fun Y g0 g5 => mturnsBy_0 a x Y [] g0 g4 g5 (by decide)⟩, ⟨_, _, wsinks_0 a x S [] h0 h4 h6 (by decide), (by decide), fun Y g0 g5 => msinksBy_0 a x Y [] g0 g4 g5 (by decide)⟩, ⟨_, _, wtells_0 a x S [] h0 h4 h6 (by decide), (by decide), fun Y g0 g5 => mtells_0 a x Y [] g0 g4 g5 (by decide)⟩⟩
  · subst e
    have h6 : S.1 88 5 = 3 := h5
    refine ⟨⟨_, _, wcounts_1 a x S [] h0 h4 h6 (by decide), (by decide), fun Y g0 g5 => mcountsBy_1 a x Y [] g0 g4 g5 (by decide)⟩, ⟨_, _, wturns_1 a x S [] h0 h4 h6 (by decide), (by decide), fun Y g0 g5 => mturnsBy_1 a x Y [] g0 g4 g5 (by decide)⟩, ⟨_, _, wsinks_1 a x S [] h0 h4 h6 (by decide), (by decide), fun Y g0 g5 => msinksBy_1 a x Y [] g0 g4 g5 (by decide)⟩, ⟨_, _, wtells_1 a x S [] h0 h4 h6 (by decide), (by decide), fun Y g0 g5 => mtells_1 a x Y [] g0 g4 g5 (by decide)⟩⟩
  · subst e
    have h6 : S.1 88 5 = 5 := h5
    refine ⟨⟨_, _, wcounts_2 a x S [] h0 h4 h6 (by decide), (by decide), fun Y g0 g5 => mcountsBy_2 a x Y [] g0 g4 g5 (by decide)⟩, ⟨_, _, wturns_2 a x S [] h0 h4 h6 (by decide), (by decide), fun Y g0 g5 => mturnsBy_2 a x Y [] g0 g4 g5 (by decide)⟩, ⟨_, _, wsinks_2 a x S [] h0 h4 h6 (by decide), (by decide), fun Y g0 g5 => msinksBy_2 a x Y [] g0 g4 g5 (by decide)⟩, ⟨_, _, wtells_2 a x S [] h0 h4 h6 (by decide), (by decide), fun Y g0 g5 => mtells_2 a x Y [] g0 g4 g5 (by decide)⟩⟩
  · subst e
    have h6 : S.1 88 5 = 13 := h5
    refine ⟨⟨_, _, wcounts_3 a x S [] h0 h4 h6 (by decide), (by decide), fun Y g0 g5 => mcountsBy_3 a x Y [] g0 g4 g5 (by decide)⟩, ⟨_, _, wturns_3 a x S [] h0 h4 h6 (by decide), (by decide), fun Y g0 g5 => mturnsBy_3 a x Y [] g0 g4 g5 (by decide)⟩, ⟨_, _, wsinks_3 a x S [] h0 h4 h6 (by decide), (by decide), fun Y g0 g5 => msinksBy_3 a x Y [] g0 g4 g5 (by decide)⟩, ⟨_, _, wtells_3 a x S [] h0 h4 h6 (by decide), (by decide), fun Y g0 g5 => mtells_3 a x Y [] g0 g4 g5 (by decide)⟩⟩
  · subst e
    have h6 : S.1 88 5 = 19 := h5
    refine ⟨⟨_, _, wcounts_4 a x S [] h0 h4 h6 (by decide), (by decide), fun Y g0 g5 => mcountsBy_4 a x Y [] g0 g4 g5 (by decide)⟩, ⟨_, _, wturns_4 a x S [] h0 h4 h6 (by decide), (by decide), fun Y g0 g5 => mturnsBy_4 a x Y [] g0 g4 g5 (by decide)⟩, ⟨_, _, wsinks_4 a x S [] h0 h4 h6 (by decide), (by decide), fun Y g0 g5 => msinksBy_4 a x Y [] g0 g4 g5 (by decide)⟩, ⟨_, _, wtells_4 a x S [] h0 h4 h6 (by decide), (by decide), fun Y g0 g5 => mtells_4 a x Y [] g0 g4 g5 (by decide)⟩⟩
  · subst e
    have h6 : S.1 88 5 = 45 := h5
    refine ⟨⟨_, _, wcounts_5 a x S [] h0 h4 h6 (by decide), (by decide), fun Y g0 g5 => mcountsBy_5 a x Y [] g0 g4 g5 (by decide)⟩, ⟨_, _, wturns_5 a x S [] h0 h4 h6 (by decide), (by decide), fun Y g0 g5 => mturnsBy_5 a x Y [] g0 g4 g5 (by decide)⟩, ⟨_, _, wsinks_5 a x S [] h0 h4 h6 (by decide), (by decide), fun Y g0 g5 => msinksBy_5 a x Y [] g0 g4 g5 (by decide)⟩, ⟨_, _, wtells_5 a x S [] h0 h4 h6 (by decide), (by decide), fun Y g0 g5 => mtells_5 a x Y [] g0 g4 g5 (by decide)⟩⟩
  · subst e
    have h6 : S.1 88 5 = 65 := h5
    refine ⟨⟨_, _, wcounts_6 a x S [] h0 h4 h6 (by decide), (by decide), fun Y g0 g5 => mcountsBy_6 a x Y [] g0 g4 g5 (by decide)⟩, ⟨_, _, wturns_6 a x S [] h0 h4 h6 (by decide), (by decide), fun Y g0 g5 => mturnsBy_6 a x Y [] g0 g4 g5 (by decide)⟩, ⟨_, _, wsinks_6 a x S [] h0 h4 h6 (by decide), (by decide), fun Y g0 g5 => msinksBy_6 a x Y [] g0 g4 g5 (by decide)⟩, ⟨_, _, wtells_6 a x S [] h0 h4 h6 (by decide), (by decide), fun Y g0 g5 => mtells_6 a x Y [] g0 g4 g5 (by decide)⟩⟩
  · subst e
    have h6 : S.1 88 5 = 147 := h5
    refine ⟨⟨_, _, wcounts_7 a x S [] h0 h4 h6 (by decide), (by decide), fun Y g0 g5 => mcountsBy_7 a x Y [] g0 g4 g5 (by decide)⟩, ⟨_, _, wturns_7 a x S [] h0 h4 h6 (by decide), (by decide), fun Y g0 g5 => mturnsBy_7 a x Y [] g0 g4 g5 (by decide)⟩, ⟨_, _, wsinks_7 a x S [] h0 h4 h6 (by decide), (by decide), fun Y g0 g5 => msinksBy_7 a x Y [] g0 g4 g5 (by decide)⟩, ⟨_, _, wtells_7 a x S [] h0 h4 h6 (by decide), (by decide), fun Y g0 g5 => mtells_7 a x Y [] g0 g4 g5 (by decide)⟩⟩
theorem TR_step {k : Int32} {X Y : St} (h : TR X Y) (hb : (X.1 88 3).toInt < 1000000) : TR (bg X k) (rn Y k) := by
  obtain ⟨h1, h2, h3⟩ := h
  have hn := nx_ti h2
  have e1 : (X.1 88 3 + 1).toInt = (X.1 88 3).toInt + 1 := by rw [ti_add] <;> simp only [Int32.reduceToInt] <;> omega
  refine ⟨by rw [rn_n, bg_n, h1], by rw [bg_n]; omega, fun i hi hj => ?_⟩
  rw [bg_n] at hj
  unfold bg rn
  rw [h1]
  by_cases hc : X.1 88 3 < (24 : Int32)
  · rw [if_pos hc, if_pos hc]
    simp only [stI_at, stI_2at, stL_at, stL_1at, Nat.reduceEqDiff, false_and, and_false, true_and, and_true, and_self, ↓reduceIte]
    by_cases hi2 : i = nx (X.1 88 3)
    · simp only [hi2, ↓reduceIte]
    · simp only [hi2, ↓reduceIte]
      exact h3 i hi (by omega)
  · rw [if_neg hc, if_neg hc]
    rw [Int32.lt_iff_toInt_lt] at hc
    simp only [Int32.reduceToInt] at hc
    simp only [stI_at, stI_2at, stL_at, stL_1at, Nat.reduceEqDiff, false_and, and_false, true_and, and_true, and_self, ↓reduceIte]
    exact h3 i hi (by omega)
theorem TR_all : ∀ (l : List Int32) {X Y : St} {c : Nat}, TR X Y → X.1 88 3 = Int32.ofNat c → c + l.length < 1000000 → TR (bgs l X) (rns l Y) := by
  intro l
  induction l with
  | nil => intro X Y c h _ _; exact h
  | cons k l ih =>
    intro X Y c h hc hl
    rw [List.length_cons] at hl
    exact ih (X := bg X k) (Y := rn Y k) (c := c + 1) (TR_step h (by rw [hc, ti_ofNat (by omega)]; omega)) (by rw [bg_n, hc]; exact (Int32.ofNat_add c 1).symm) (by omega)
theorem act_end {a : Int32} {X S : St} {L : List Int32} (hX : IWy X) (hL : L.length < 100) (hS : S = stI (stI (stI X 88 3 0) 88 4 a) 88 5 (UPf (nx (X.1 89 (nx a))))) : IWy (rns L (stI (bgs L S) 102 39 0)) := by
  obtain ⟨w1, w2, w3, w4, w5, w6, w7⟩ := hX
  have t0 : TR S (stI (bgs L S) 102 39 0) := by
    subst hS
    refine ⟨?_, ?_, fun i hi hj => ?_⟩
    · simp only [stI_at, stI_2at, stL_at, stL_1at, Nat.reduceEqDiff, false_and, and_false, true_and, and_true, and_self, ↓reduceIte]
    · simp only [stI_at, stI_2at, stL_at, stL_1at, Nat.reduceEqDiff, false_and, and_false, true_and, and_true, and_self, ↓reduceIte]
      decide
    · simp only [stI_at, stI_2at, stL_at, stL_1at, Nat.reduceEqDiff, false_and, and_false, true_and, and_true, and_self, ↓reduceIte] at hj
      exact absurd hj (by simp only [Int32.reduceToInt]; omega)
  have t1 := TR_all L (c := 0) t0 (by subst hS; simp only [stI_at, stI_2at, stL_at, stL_1at, Nat.reduceEqDiff, false_and, and_false, true_and, and_true, and_self, ↓reduceIte]; rfl) (by omega)
  obtain ⟨t1, t2, t3⟩ := t1
  have f : ∀ o i, ¬ (o = 129 ∨ (o = 102 ∧ i = 39)) → (rns L (stI (bgs L S) 102 39 0)).1 o i = (bgs L S).1 o i := fun o i h => by
    rw [rns_at h, stI_at, if_neg (by omega)]
  have g : ∀ o i, o ≠ 90 → ¬ (o = 88 ∧ (i = 3 ∨ i = 4 ∨ i = 5)) → (bgs L S).1 o i = X.1 o i := fun o i h1 h2 => by
    rw [bgs_at (by omega), hS, stI_at, if_neg (by omega), stI_at, if_neg (by omega), stI_at, if_neg (by omega)]
  refine ⟨?_, ?_, ?_, fun i hi => ?_, ?_, ?_, fun i hi hj => ?_⟩
  · rw [f _ _ (by omega), f _ _ (by omega), g _ _ (by omega) (by omega), g _ _ (by omega) (by omega)]
    exact w1
  · rw [f _ _ (by omega), g _ _ (by omega) (by omega)]
    exact w2
  · rw [f _ _ (by omega), g _ _ (by omega) (by omega)]
    exact w3
  · rw [f _ _ (by omega), g _ _ (by omega) (by omega)] at hi
    rw [f _ _ (by omega), f _ _ (by omega), g _ _ (by omega) (by omega), g _ _ (by omega) (by omega)]
    exact w4 i hi
  · rw [f 88 3 (by omega)]
    exact t1
  · rw [f 88 3 (by omega)]
    exact t2
  · rw [f 88 3 (by omega)] at hj
    rw [f 90 i (by omega)]
    exact t3 i hi hj
theorem op_act (a b c : Int32) (X : St) (hw : IWy X) : ∃ v X1 X2, el_act a b c X = some (v, X1) ∧ mo_act a b c X1 = some (v, X2) ∧ IWy X2 := by
  have hX := hw
  obtain ⟨w1, w2, w3, w4, w5, w6, w7⟩ := hw
  have hm1 : (X.1 88 2 - 1).toInt = (X.1 88 2).toInt - 1 := by rw [ti_sub] <;> simp only [Int32.reduceToInt] <;> omega
  by_cases ha : a.toInt < 0 ∨ (X.1 88 2).toInt ≤ a.toInt
  · refine ⟨0, stI (stI (stI X 88 3 0) 88 4 a) 88 5 0, stI (stI (stI (stI X 88 3 0) 88 4 a) 88 5 0) 102 39 0, ?_, ?_, ⟨?_, ?_, ?_, fun i hi => ?_, ?_, ?_, fun i hi hj => ?_⟩⟩
    · have e1 : way_has a (stI (stI X 88 3 0) 88 4 a) = 0 := whas0.mpr (by simp only [stI_at, stI_2at, stL_at, stL_1at, Nat.reduceEqDiff, false_and, and_false, true_and, and_true, and_self, ↓reduceIte]; exact ha)
      have e2 : way_has a (stI (stI (stI X 88 3 0) 88 4 a) 88 5 0) = 0 := whas0.mpr (by simp only [stI_at, stI_2at, stL_at, stL_1at, Nat.reduceEqDiff, false_and, and_false, true_and, and_true, and_self, ↓reduceIte]; exact ha)
      unfold el_act way_start
      rw [if_pos e1, Option.bind_some, e2]
      rfl
    · unfold mo_act
      simp (disch := omega) only [w1, hm1, ↓within0, ↓has0, ↓tapFull0, inB_iff, Int32.lt_iff_toInt_lt, ti_eq, Int32.reduceToInt, if_pos, if_neg, Option.bind_some, stI_at, stI_2at, Nat.reduceEqDiff, Nat.reduceBEq, false_and, and_false, true_and, and_self, and_true, ↓reduceIte]
    · simp only [stI_at, stI_2at, stL_at, stL_1at, Nat.reduceEqDiff, false_and, and_false, true_and, and_true, and_self, ↓reduceIte]
      exact w1
    · simp only [stI_at, stI_2at, stL_at, stL_1at, Nat.reduceEqDiff, false_and, and_false, true_and, and_true, and_self, ↓reduceIte]
      exact w2
    · simp only [stI_at, stI_2at, stL_at, stL_1at, Nat.reduceEqDiff, false_and, and_false, true_and, and_true, and_self, ↓reduceIte]
      exact w3
    · simp only [stI_at, stI_2at, stL_at, stL_1at, Nat.reduceEqDiff, false_and, and_false, true_and, and_true, and_self, ↓reduceIte] at hi ⊢
      exact w4 i hi
    · simp only [stI_at, stI_2at, stL_at, stL_1at, Nat.reduceEqDiff, false_and, and_false, true_and, and_true, and_self, ↓reduceIte]
    · simp only [stI_at, stI_2at, stL_at, stL_1at, Nat.reduceEqDiff, false_and, and_false, true_and, and_true, and_self, ↓reduceIte]
      decide
    · simp only [stI_at, stI_2at, stL_at, stL_1at, Nat.reduceEqDiff, false_and, and_false, true_and, and_true, and_self, ↓reduceIte] at hj
      exact absurd hj (by simp only [Int32.reduceToInt]; omega)
  · have hn := nx_ti (x := a) (by omega)
    obtain ⟨k1, k2, k3⟩ := w4 (nx a) (by omega)
    have e1 : ∀ Z : St, Z.1 88 2 = X.1 88 2 → way_has a Z = 1 := fun Z hZ => by
      unfold way_has
      simp (disch := omega) only [hZ, ↓within0, ↓has0, ↓tapFull0, inB_iff, Int32.lt_iff_toInt_lt, ti_eq, Int32.reduceToInt, if_pos, if_neg, Option.bind_some, stI_at, stI_2at, Nat.reduceEqDiff, Nat.reduceBEq, false_and, and_false, true_and, and_self, and_true, ↓reduceIte]
    have st : way_start a X = some (1, stI (stI (stI X 88 3 0) 88 4 a) 88 5 (UPf (nx (X.1 89 (nx a))))) := by
      unfold way_start
      have z1 : way_has a (stI (stI X 88 3 0) 88 4 a) = 1 := e1 _ (by simp only [stI_at, stI_2at, stL_at, stL_1at, Nat.reduceEqDiff, false_and, and_false, true_and, and_true, and_self, ↓reduceIte])
      have z2 : ∀ u, way_has a (stI (stI (stI X 88 3 0) 88 4 a) 88 5 u) = 1 := fun u => e1 _ (by simp only [stI_at, stI_2at, stL_at, stL_1at, Nat.reduceEqDiff, false_and, and_false, true_and, and_true, and_self, ↓reduceIte])
      rw [z1]
      simp (disch := omega) only [z2, ↓within0, ↓has0, ↓tapFull0, inB_iff, Int32.lt_iff_toInt_lt, ti_eq, Int32.reduceToInt, if_pos, if_neg, Option.bind_some, stI_at, stI_2at, Nat.reduceEqDiff, Nat.reduceBEq, false_and, and_false, true_and, and_self, and_true, ↓reduceIte]
    generalize hS : stI (stI (stI X 88 3 0) 88 4 a) 88 5 (UPf (nx (X.1 89 (nx a)))) = S at st
    have h0 : S.1 88 3 = 0 := by subst hS; simp only [stI_at, stI_2at, stL_at, stL_1at, Nat.reduceEqDiff, false_and, and_false, true_and, and_true, and_self, ↓reduceIte]
    have h4 : S.1 88 4 = a := by subst hS; simp only [stI_at, stI_2at, stL_at, stL_1at, Nat.reduceEqDiff, false_and, and_false, true_and, and_true, and_self, ↓reduceIte]
    have h5 : S.1 88 5 = UPf (nx (X.1 89 (nx a))) := by subst hS; simp only [stI_at, stI_2at, stL_at, stL_1at, Nat.reduceEqDiff, false_and, and_false, true_and, and_true, and_self, ↓reduceIte]
    have hy : ∀ L, (stI (bgs L S) 102 39 0).1 128 (nx a) = X.1 89 (nx a) ∧ (stI (bgs L S) 102 39 0).1 102 37 = X.1 88 2 := fun L => by
      have f1 : (bgs L S).1 128 (nx a) = X.1 128 (nx a) := by rw [bgs_at (by omega), ← hS]; simp only [stI_at, stI_2at, stL_at, stL_1at, Nat.reduceEqDiff, false_and, and_false, true_and, and_true, and_self, ↓reduceIte]
      have f2 : (bgs L S).1 102 37 = X.1 102 37 := by rw [bgs_at (by omega), ← hS]; simp only [stI_at, stI_2at, stL_at, stL_1at, Nat.reduceEqDiff, false_and, and_false, true_and, and_true, and_self, ↓reduceIte]
      simp only [stI_at, stI_2at, stL_at, stL_1at, Nat.reduceEqDiff, false_and, and_false, true_and, and_true, and_self, ↓reduceIte]
      exact ⟨f1.trans k1, f2.trans w1⟩
    by_cases hb : b.toInt < 0 ∨ 3 < b.toInt
    · refine ⟨0, bgs [] S, rns [] (stI (bgs [] S) 102 39 0), ?_, ?_, act_end hX (by decide) hS.symm⟩
      · unfold el_act
        rw [st]
        simp (disch := omega) only [↓within0, ↓has0, ↓tapFull0, inB_iff, Int32.lt_iff_toInt_lt, ti_eq, Int32.reduceToInt, if_pos, if_neg, Option.bind_some, stI_at, stI_2at, Nat.reduceEqDiff, Nat.reduceBEq, false_and, and_false, true_and, and_self, and_true, ↓reduceIte]
        rfl
      · unfold mo_act
        rw [(hy []).2]
        simp (disch := omega) only [hm1, ↓within0, ↓has0, ↓tapFull0, inB_iff, Int32.lt_iff_toInt_lt, ti_eq, Int32.reduceToInt, if_pos, if_neg, Option.bind_some, stI_at, stI_2at, Nat.reduceEqDiff, Nat.reduceBEq, false_and, and_false, true_and, and_self, and_true, ↓reduceIte]
        rfl
    · obtain ⟨A0, A1, A2, A3⟩ := act_all a c (X.1 89 (nx a)) S ⟨k2, k3⟩ h0 h4 h5 (by omega)
      have hb4 : b = 0 ∨ b = 1 ∨ b = 2 ∨ b = 3 := by
        simp only [ti_eq, Int32.reduceToInt]
        omega
      rcases hb4 with e | e | e | e
      · subst e
        obtain ⟨v, L, p1, p2, p3⟩ := A0
        refine ⟨v, bgs L S, rns L (stI (bgs L S) 102 39 0), ?_, ?_, act_end hX p2 hS.symm⟩
        · unfold el_act
          rw [st]
          simp (disch := omega) only [p1, ↓within0, ↓has0, ↓tapFull0, inB_iff, Int32.lt_iff_toInt_lt, ti_eq, Int32.reduceToInt, if_pos, if_neg, Option.bind_some, stI_at, stI_2at, Nat.reduceEqDiff, Nat.reduceBEq, false_and, and_false, true_and, and_self, and_true, ↓reduceIte]
        · unfold mo_act
          rw [(hy L).1, (hy L).2]
          simp (disch := omega) only [hm1, ↓within0, ↓has0, ↓tapFull0, inB_iff, Int32.lt_iff_toInt_lt, ti_eq, Int32.reduceToInt, if_pos, if_neg, Option.bind_some, stI_at, stI_2at, Nat.reduceEqDiff, Nat.reduceBEq, false_and, and_false, true_and, and_self, and_true, ↓reduceIte]
          rw [p3 _ (by simp only [stI_at, stI_2at, stL_at, stL_1at, Nat.reduceEqDiff, false_and, and_false, true_and, and_true, and_self, ↓reduceIte]) (hy L).1]
          rfl
      · subst e
        obtain ⟨v, L, p1, p2, p3⟩ := A1
        refine ⟨v, bgs L S, rns L (stI (bgs L S) 102 39 0), ?_, ?_, act_end hX p2 hS.symm⟩
        · unfold el_act
          rw [st]
          simp (disch := omega) only [p1, ↓within0, ↓has0, ↓tapFull0, inB_iff, Int32.lt_iff_toInt_lt, ti_eq, Int32.reduceToInt, if_pos, if_neg, Option.bind_some, stI_at, stI_2at, Nat.reduceEqDiff, Nat.reduceBEq, false_and, and_false, true_and, and_self, and_true, ↓reduceIte]
        · unfold mo_act
          rw [(hy L).1, (hy L).2]
          simp (disch := omega) only [hm1, ↓within0, ↓has0, ↓tapFull0, inB_iff, Int32.lt_iff_toInt_lt, ti_eq, Int32.reduceToInt, if_pos, if_neg, Option.bind_some, stI_at, stI_2at, Nat.reduceEqDiff, Nat.reduceBEq, false_and, and_false, true_and, and_self, and_true, ↓reduceIte]
          rw [p3 _ (by simp only [stI_at, stI_2at, stL_at, stL_1at, Nat.reduceEqDiff, false_and, and_false, true_and, and_true, and_self, ↓reduceIte]) (hy L).1]
          rfl
      · subst e
        obtain ⟨v, L, p1, p2, p3⟩ := A2
        refine ⟨v, bgs L S, rns L (stI (bgs L S) 102 39 0), ?_, ?_, act_end hX p2 hS.symm⟩
        · unfold el_act
          rw [st]
          simp (disch := omega) only [p1, ↓within0, ↓has0, ↓tapFull0, inB_iff, Int32.lt_iff_toInt_lt, ti_eq, Int32.reduceToInt, if_pos, if_neg, Option.bind_some, stI_at, stI_2at, Nat.reduceEqDiff, Nat.reduceBEq, false_and, and_false, true_and, and_self, and_true, ↓reduceIte]
        · unfold mo_act
          rw [(hy L).1, (hy L).2]
          simp (disch := omega) only [hm1, ↓within0, ↓has0, ↓tapFull0, inB_iff, Int32.lt_iff_toInt_lt, ti_eq, Int32.reduceToInt, if_pos, if_neg, Option.bind_some, stI_at, stI_2at, Nat.reduceEqDiff, Nat.reduceBEq, false_and, and_false, true_and, and_self, and_true, ↓reduceIte]
          rw [p3 _ (by simp only [stI_at, stI_2at, stL_at, stL_1at, Nat.reduceEqDiff, false_and, and_false, true_and, and_true, and_self, ↓reduceIte]) (hy L).1]
          rfl
      · subst e
        obtain ⟨v, L, p1, p2, p3⟩ := A3
        refine ⟨v, bgs L S, rns L (stI (bgs L S) 102 39 0), ?_, ?_, act_end hX p2 hS.symm⟩
        · unfold el_act
          rw [st]
          simp (disch := omega) only [p1, ↓within0, ↓has0, ↓tapFull0, inB_iff, Int32.lt_iff_toInt_lt, ti_eq, Int32.reduceToInt, if_pos, if_neg, Option.bind_some, stI_at, stI_2at, Nat.reduceEqDiff, Nat.reduceBEq, false_and, and_false, true_and, and_self, and_true, ↓reduceIte]
        · unfold mo_act
          rw [(hy L).1, (hy L).2]
          simp (disch := omega) only [hm1, ↓within0, ↓has0, ↓tapFull0, inB_iff, Int32.lt_iff_toInt_lt, ti_eq, Int32.reduceToInt, if_pos, if_neg, Option.bind_some, stI_at, stI_2at, Nat.reduceEqDiff, Nat.reduceBEq, false_and, and_false, true_and, and_self, and_true, ↓reduceIte]
          rw [p3 _ (by simp only [stI_at, stI_2at, stL_at, stL_1at, Nat.reduceEqDiff, false_and, and_false, true_and, and_true, and_self, ↓reduceIte]) (hy L).1]
          rfl
