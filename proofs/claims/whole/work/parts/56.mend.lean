/-! mend, undo, redo -/
abbrev vld (m w k : Int) : Prop := (0 ≤ w ∧ w ≤ 5 ∧ 0 ≤ k ∧ k < m) ∨ (6 ≤ w ∧ w ≤ 8 ∧ k = 0)
abbrev okv (w : Nat) (v : Int) : Prop := (LEASTf w).toInt ≤ v ∧ v ≤ (MOSTf w).toInt
/-- what is kept in the pool is what it may be -/
def IBnd (X : St) : Prop := ∀ w k : Nat, vld (X.1 1 1).toInt w k → okv w (X.1 (3 + w) k).toInt
/-- a change that is kept, on both sides -/
def IEnt (X : St) (k : Nat) : Prop := vld (X.1 1 1).toInt (X.1 14 k).toInt (X.1 13 k).toInt ∧ okv (nx (X.1 14 k)) (X.1 15 k).toInt ∧ okv (nx (X.1 14 k)) (X.1 16 k).toInt ∧ ∀ j, j < 4 → X.1 127 (4 * k + j) = X.1 (13 + j) k
/-- the changes, on both sides -/
def IChg (X : St) : Prop := X.1 102 35 = X.1 12 5 ∧ X.1 102 34 = X.1 12 6 ∧ 0 ≤ (X.1 12 5).toInt ∧ (X.1 12 5).toInt ≤ (X.1 12 6).toInt ∧ (X.1 12 6).toInt ≤ 40 ∧ ∀ k : Nat, (k : Int) < (X.1 12 6).toInt → IEnt X k
theorem ent_cg {X Y : St} {k l : Nat} (h1 : Y.1 1 1 = X.1 1 1) (h2 : ∀ o, 13 ≤ o → o ≤ 16 → Y.1 o k = X.1 o l) (h3 : ∀ j, j < 4 → Y.1 127 (4 * k + j) = X.1 127 (4 * l + j)) (h : IEnt X l) : IEnt Y k := by
  obtain ⟨g1, g2, g3, g4⟩ := h
  unfold IEnt
  rw [h1, h2 13 (by omega) (by omega), h2 14 (by omega) (by omega), h2 15 (by omega) (by omega), h2 16 (by omega) (by omega)]
  exact ⟨g1, g2, g3, fun j hj => by rw [h3 j hj, h2 (13 + j) (by omega) (by omega)]; exact g4 j hj⟩
abbrev msl (w : Nat) : Nat := if w < 6 then 103 + w else 109
abbrev msk (w k : Nat) : Nat := if w < 6 then k else w - 6
theorem becomes_s {a b v : Int32} {m : Int} {Y : St} (hm : m ≤ 8) (hk : vld m b.toInt a.toInt) : mo_becomes a b v Y = some (stI Y (msl (nx b)) (msk (nx b) (nx a)) v) := by
  have hb := nx_ti (x := b) (by omega)
  have ha := nx_ti (x := a) (by omega)
  have ia : inB a 8 = true := by rw [inB_iff]; omega
  unfold mo_becomes
  rw [ia]
  rcases (show b = 0 ∨ b = 1 ∨ b = 2 ∨ b = 3 ∨ b = 4 ∨ b = 5 ∨ b = 6 ∨ b = 7 ∨ b = 8 by simp only [ti_eq, Int32.reduceToInt]; omega) with e | e | e | e | e | e | e | e | e <;> subst e <;> rfl
theorem mget_s {a b : Int32} {X Y : St} (h : IPool X) (hY : ∀ o i, 102 ≤ o → Y.1 o i = X.1 o i) (hk : vld (X.1 1 1).toInt b.toInt a.toInt) : mo_get a b Y = some (X.1 (3 + nx b) (nx a)) := by
  rw [← get_s h hk]
  unfold mo_get
  rw [hY 103 _ (by omega), hY 104 _ (by omega), hY 105 _ (by omega), hY 106 _ (by omega), hY 107 _ (by omega), hY 108 _ (by omega), hY 109 _ (by omega)]
theorem mof_s {a b : Int32} {X Y : St} (hY : Y.1 102 0 = X.1 102 0) : mo_isOf a b Y = mo_isOf a b X := by
  unfold mo_isOf mo_isOne
  rw [hY]
theorem pool_set {X Y : St} {w k : Nat} {v : Int32} (hP : PoolI X) (hB : IBnd X) (hk : vld (X.1 1 1).toInt w k) (hv : okv w v.toInt) (hc : ∀ o i, o < 12 → Y.1 o i = if o = 3 + w ∧ i = k then v else X.1 o i) (hm : ∀ o i, 103 ≤ o → o ≤ 109 → Y.1 o i = if o = msl w ∧ i = msk w k then v else X.1 o i) (h1 : Y.1 102 0 = X.1 102 0) (h2 : ∀ o i, o = 110 ∨ o = 111 ∨ o = 82 ∨ o = 83 → Y.1 o i = X.1 o i) : PoolI Y ∧ IBnd Y ∧ Y.1 1 1 = X.1 1 1 := by
  have e1 : Y.1 1 1 = X.1 1 1 := by rw [hc 1 1 (by omega), if_neg (by omega)]
  obtain ⟨⟨p1, p2, p3, p4, p5⟩, p6, p7, p8⟩ := hP
  refine ⟨⟨⟨by rw [h1, e1]; exact p1, by rw [e1]; exact p2, by rw [e1]; exact p3, ?_, ?_⟩, ?_, ?_, ?_⟩, ?_, e1⟩
  · intro u j hu hj
    rw [hm _ _ (by omega) (by omega), hc _ _ (by omega)]
    by_cases c : u = w ∧ j = k
    · rw [if_pos (by unfold msl msk; rw [if_pos (by omega), if_pos (by omega)]; omega), if_pos (by omega)]
    · rw [if_neg (c := 3 + u = 3 + w ∧ j = k) (by omega), if_neg]
      · exact p4 u j hu hj
      · unfold msl msk
        split <;> omega
  · intro j hj
    rw [hm _ _ (by omega) (by omega), hc _ _ (by omega)]
    by_cases c : w = 6 + j
    · rw [if_pos (by unfold msl msk; rw [if_neg (by omega), if_neg (by omega)]; omega), if_pos (by omega)]
    · rw [if_neg (c := 9 + j = 3 + w ∧ 0 = k) (by omega), if_neg]
      · exact p5 j hj
      · unfold msl msk
        split <;> omega
  · intro j hj
    rw [h2 110 _ (by omega), h2 111 _ (by omega), h2 82 _ (by omega), h2 83 _ (by omega)]
    exact p6 j hj
  · intro j hj
    rw [e1, h2 82 _ (by omega), h2 83 _ (by omega)]
    exact p7 j hj
  · intro j hj h
    rw [e1] at h
    rw [hc _ _ (by omega), if_neg (by omega)]
    exact p8 j hj h
  · intro u j h
    rw [e1] at h
    rw [hc _ _ (by omega)]
    by_cases c : u = w ∧ j = k
    · rw [if_pos (by omega), c.1]; exact hv
    · rw [if_neg (by omega)]; exact hB u j h
theorem fo_s (n : Nat) : ∀ (w k : Nat) (v : Int32) (X : St), v.toInt = k → 1 ≤ k → k ≤ 40 → 40 < k + w → ∃ Y, chg_forgetOldest_L2 n w v X = some Y ∧ Y.2 = X.2 ∧ ∀ o i, Y.1 o i = if (13 ≤ o ∧ o ≤ 16) ∧ (k ≤ i + 1 ∧ i < 39) then X.1 o (i + 1) else if o = 12 ∧ i = 5 then X.1 12 5 - 1 else X.1 o i := by
  intro w
  induction w with
  | zero => intro k v X hv h1 h2 h3; omega
  | succ w ih =>
    intro k v X hv h1 h2 h3
    show ∃ Y, chg_forgetOldest_L2_B n (chg_forgetOldest_L2 n w) v X = some Y ∧ _
    have hn := nx_ti (x := v) (by omega)
    by_cases c : k < 40
    · have s1 : (v - 1).toInt = k - 1 := by rw [ti_sub] <;> simp only [Int32.reduceToInt] <;> omega
      have sn := nx_ti (x := v - 1) (by omega)
      have e1 : nx v = k := by omega
      have e2 : nx (v - 1) = k - 1 := by omega
      obtain ⟨Y, y1, y2, y3⟩ := ih (k + 1) (v + 1) (stI (stI (stI (stI X 13 (k - 1) (X.1 13 k)) 14 (k - 1) (X.1 14 k)) 15 (k - 1) (X.1 15 k)) 16 (k - 1) (X.1 16 k)) (by rw [ti_add] <;> simp only [Int32.reduceToInt] <;> omega) (by omega) (by omega) (by omega)
      refine ⟨Y, ?_, y2, ?_⟩
      · rw [← y1]
        unfold chg_forgetOldest_L2_B
        rw [e1, e2]
        simp (disch := omega) only [↓within0, ↓has0, ↓tapFull0, inB_iff, Int32.lt_iff_toInt_lt, ti_eq, Int32.reduceToInt, if_pos, if_neg, Option.bind_some, stI_at, stI_2at, Nat.reduceEqDiff, Nat.reduceBEq, false_and, and_false, true_and, and_self, and_true, ↓reduceIte]
      · intro o i
        rw [y3]
        simp only [stI_at]
        by_cases d : (13 ≤ o ∧ o ≤ 16) ∧ (k ≤ i + 1 ∧ i < 39)
        · rw [if_pos d]
          by_cases d2 : i + 1 = k
          · rw [if_neg (by omega), if_neg (by omega)]
            have ei : i = k - 1 := by omega
            rcases (show o = 13 ∨ o = 14 ∨ o = 15 ∨ o = 16 by omega) with e | e | e | e <;> subst e
            · rw [if_neg (by omega), if_neg (by omega), if_neg (by omega), if_pos ⟨rfl, ei⟩, d2]
            · rw [if_neg (by omega), if_neg (by omega), if_pos ⟨rfl, ei⟩, d2]
            · rw [if_neg (by omega), if_pos ⟨rfl, ei⟩, d2]
            · rw [if_pos ⟨rfl, ei⟩, d2]
          · rw [if_pos (by omega), if_neg (by omega), if_neg (by omega), if_neg (by omega), if_neg (by omega)]
        · rw [if_neg d, if_neg (by omega)]
          by_cases d2 : o = 12 ∧ i = 5
          · rw [if_pos d2, if_pos d2, if_neg (by omega), if_neg (by omega), if_neg (by omega), if_neg (by omega)]
          · rw [if_neg d2, if_neg d2, if_neg (by omega), if_neg (by omega), if_neg (by omega), if_neg (by omega)]
    · refine ⟨stI X 12 5 (X.1 12 5 - 1), ?_, rfl, fun o i => ?_⟩
      · unfold chg_forgetOldest_L2_B
        simp (disch := omega) only [↓within0, ↓has0, ↓tapFull0, inB_iff, Int32.lt_iff_toInt_lt, ti_eq, Int32.reduceToInt, if_pos, if_neg, Option.bind_some, stI_at, stI_2at, Nat.reduceEqDiff, Nat.reduceBEq, false_and, and_false, true_and, and_self, and_true, ↓reduceIte]
      · rw [if_neg (c := (13 ≤ o ∧ o ≤ 16) ∧ (k ≤ i + 1 ∧ i < 39)) (by omega), stI_at]
theorem mf_s (n : Nat) (K : Int32 → Int32 → Int32 → Int32 → St → Option (Int32 × St)) (a b v c : Int32) : ∀ (w k : Nat) (j : Int32) (X : St), j.toInt = k → k ≤ 156 → 156 < k + w → ∃ Y, mo_mend_L56 n K w a b v c j X = K a b v c Y ∧ Y.2 = X.2 ∧ ∀ o i, Y.1 o i = if o = 127 ∧ k ≤ i ∧ i < 156 then X.1 127 (i + 4) else X.1 o i := by
  intro w
  induction w with
  | zero => intro k j X hv h1 h2; omega
  | succ w ih =>
    intro k j X hv h1 h2
    show ∃ Y, mo_mend_L56_B n K (mo_mend_L56 n K w) a b v c j X = K a b v c Y ∧ _
    have hn := nx_ti (x := j) (by omega)
    by_cases d : k < 156
    · have s1 : (j + 4).toInt = k + 4 := by rw [ti_add] <;> simp only [Int32.reduceToInt] <;> omega
      have sn := nx_ti (x := j + 4) (by omega)
      have e1 : nx j = k := by omega
      have e2 : nx (j + 4) = k + 4 := by omega
      obtain ⟨Y, y1, y2, y3⟩ := ih (k + 1) (j + 1) (stI X 127 k (X.1 127 (k + 4))) (by rw [ti_add] <;> simp only [Int32.reduceToInt] <;> omega) (by omega) (by omega)
      refine ⟨Y, ?_, y2, ?_⟩
      · rw [← y1]
        unfold mo_mend_L56_B
        rw [e1, e2]
        simp (disch := omega) only [↓within0, ↓has0, ↓tapFull0, inB_iff, Int32.lt_iff_toInt_lt, ti_eq, Int32.reduceToInt, if_pos, if_neg, Option.bind_some, stI_at, stI_2at, Nat.reduceEqDiff, Nat.reduceBEq, false_and, and_false, true_and, and_self, and_true, ↓reduceIte]
      · intro o i
        rw [y3]
        simp only [stI_at]
        by_cases d1 : o = 127 ∧ k ≤ i ∧ i < 156
        · rw [if_pos d1]
          by_cases d2 : i = k
          · rw [if_neg (by omega), if_pos ⟨d1.1, d2⟩, d2]
          · rw [if_pos (by omega), if_neg (by omega)]
        · rw [if_neg d1, if_neg (by omega), if_neg (by omega)]
    · refine ⟨X, ?_, rfl, fun o i => ?_⟩
      · unfold mo_mend_L56_B
        simp (disch := omega) only [↓within0, ↓has0, ↓tapFull0, inB_iff, Int32.lt_iff_toInt_lt, ti_eq, Int32.reduceToInt, if_pos, if_neg, Option.bind_some, stI_at, stI_2at, Nat.reduceEqDiff, Nat.reduceBEq, false_and, and_false, true_and, and_self, and_true, ↓reduceIte]
      · rw [if_neg (by omega)]
def cj (d a b v c : Int32) (X : St) : St := stI (stI (stI (stI (stI (stI (stI X 13 (nx d) a) 14 (nx d) b) 15 (nx d) c) 16 (nx d) v) 12 5 (d + 1)) 12 6 (d + 1)) (3 + nx b) (nx a) v
theorem cj_s {n : Nat} {a b v c : Int32} {X : St} (hm : (X.1 1 1).toInt ≤ 8) (hk : vld (X.1 1 1).toInt b.toInt a.toInt) (hd : 0 ≤ (X.1 12 5).toInt ∧ (X.1 12 5).toInt < 40) : chg_tell_J31 n a b v c X = some (cj (X.1 12 5) a b v c X) := by
  unfold chg_tell_J31
  have T : ∀ Y : St, Y.1 1 1 = X.1 1 1 → poo_tell a b v Y = some (stI Y (3 + nx b) (nx a) v) := fun Y hY => tell_s (by rw [hY]; exact hm) (by rw [hY]; exact hk)
  simp (disch := omega) only [↓within0, ↓has0, ↓tapFull0, inB_iff, Int32.lt_iff_toInt_lt, ti_eq, Int32.reduceToInt, if_pos, if_neg, Option.bind_some, stI_at, stI_2at, Nat.reduceEqDiff, Nat.reduceBEq, false_and, and_false, true_and, and_self, and_true, ↓reduceIte]
  rw [T _ (by simp only [stI_at, stI_2at, stL_at, stL_1at, Nat.reduceEqDiff, false_and, and_false, true_and, and_true, and_self, ↓reduceIte])]
  unfold cj
  simp only [Option.bind_some, stI_at, Nat.reduceEqDiff, false_and, ↓reduceIte, and_self]
def mj (d a b v c : Int32) (X : St) : St := stI (stI (stI (stI (stI (stI X 127 (4 * nx d) a) 127 (4 * nx d + 1) b) 127 (4 * nx d + 2) c) 127 (4 * nx d + 3) v) 102 35 (d + 1)) 102 34 (d + 1)
theorem ix4 {d : Int32} (hd : 0 ≤ d.toInt ∧ d.toInt < 40) : ((4 : Int32) * d).toInt = 4 * d.toInt ∧ nx ((4 : Int32) * d) = 4 * nx d ∧ ∀ c : Int32, 0 ≤ c.toInt → c.toInt < 4 → ((4 : Int32) * d + c).toInt = 4 * d.toInt + c.toInt ∧ nx ((4 : Int32) * d + c) = 4 * nx d + nx c := by
  have hn := nx_ti hd.1
  have e : ((4 : Int32) * d).toInt = 4 * d.toInt := by rw [ti_mul] <;> simp only [Int32.reduceToInt] <;> omega
  have en := nx_ti (x := (4 : Int32) * d) (by omega)
  refine ⟨e, by omega, fun c h1 h2 => ?_⟩
  have e2 : ((4 : Int32) * d + c).toInt = 4 * d.toInt + c.toInt := by rw [ti_add, e] <;> omega
  have e3 := nx_ti (x := (4 : Int32) * d + c) (by omega)
  have e4 := nx_ti h1
  exact ⟨e2, by omega⟩
theorem mj_s {n : Nat} {a b v c : Int32} {X : St} (hd : 0 ≤ (X.1 102 35).toInt ∧ (X.1 102 35).toInt < 40) : mo_mend_J96 n a b v c X = some (c, mj (X.1 102 35) a b v c X) := by
  unfold mo_mend_J96
  obtain ⟨e1, e2, e3⟩ := ix4 hd
  obtain ⟨f1, g1⟩ := e3 1 (by decide) (by decide)
  obtain ⟨f2, g2⟩ := e3 2 (by decide) (by decide)
  obtain ⟨f3, g3⟩ := e3 3 (by decide) (by decide)
  rw [show (1 : Int32).toInt = 1 by decide] at f1
  rw [show (2 : Int32).toInt = 2 by decide] at f2
  rw [show (3 : Int32).toInt = 3 by decide] at f3
  rw [show nx (1 : Int32) = 1 by decide] at g1
  rw [show nx (2 : Int32) = 2 by decide] at g2
  rw [show nx (3 : Int32) = 3 by decide] at g3
  have b0 : inB ((4 : Int32) * X.1 102 35) 160 = true := by rw [inB_iff]; omega
  have b1 : inB ((4 : Int32) * X.1 102 35 + 1) 160 = true := by rw [inB_iff]; omega
  have b2 : inB ((4 : Int32) * X.1 102 35 + 2) 160 = true := by rw [inB_iff]; omega
  have b3 : inB ((4 : Int32) * X.1 102 35 + 3) 160 = true := by rw [inB_iff]; omega
  unfold mj
  simp only [stI_at, Nat.reduceEqDiff, false_and, ↓reduceIte, b0, b1, b2, b3, e2, g1, g2, g3, Option.bind_some, and_self]
theorem msl_r {w : Nat} (h : w ≤ 8) : 103 ≤ msl w ∧ msl w ≤ 109 := by
  unfold msl
  split <;> omega
theorem fit_s {b v : Int32} (hb : 0 ≤ b.toInt ∧ b.toInt ≤ 8) : mo_isFit b v = 0 ↔ ¬ okv (nx b) v.toInt := by
  have hn := nx_ti hb.1
  rcases (show b = 0 ∨ b = 1 ∨ b = 2 ∨ b = 3 ∨ b = 4 ∨ b = 5 ∨ b = 6 ∨ b = 7 ∨ b = 8 by simp only [ti_eq, Int32.reduceToInt]; omega) with e | e | e | e | e | e | e | e | e <;> subst e
  · exact within0.trans (by unfold okv; rw [show (LEASTf (nx 0)).toInt = (0 : Int32).toInt by decide, show (MOSTf (nx 0)).toInt = (15 : Int32).toInt by decide]; omega)
  · exact within0.trans (by unfold okv; rw [show (LEASTf (nx 1)).toInt = (0 : Int32).toInt by decide, show (MOSTf (nx 1)).toInt = (15 : Int32).toInt by decide]; omega)
  · exact within0.trans (by unfold okv; rw [show (LEASTf (nx 2)).toInt = (1 : Int32).toInt by decide, show (MOSTf (nx 2)).toInt = (9 : Int32).toInt by decide]; omega)
  · exact within0.trans (by unfold okv; rw [show (LEASTf (nx 3)).toInt = (1 : Int32).toInt by decide, show (MOSTf (nx 3)).toInt = (60 : Int32).toInt by decide]; omega)
  · exact within0.trans (by unfold okv; rw [show (LEASTf (nx 4)).toInt = (-9 : Int32).toInt by decide, show (MOSTf (nx 4)).toInt = (9 : Int32).toInt by decide]; omega)
  · exact within0.trans (by unfold okv; rw [show (LEASTf (nx 5)).toInt = (0 : Int32).toInt by decide, show (MOSTf (nx 5)).toInt = (99 : Int32).toInt by decide]; omega)
  · exact within0.trans (by unfold okv; rw [show (LEASTf (nx 6)).toInt = (0 : Int32).toInt by decide, show (MOSTf (nx 6)).toInt = (7 : Int32).toInt by decide]; omega)
  · exact within0.trans (by unfold okv; rw [show (LEASTf (nx 7)).toInt = (1 : Int32).toInt by decide, show (MOSTf (nx 7)).toInt = (999 : Int32).toInt by decide]; omega)
  · exact within0.trans (by unfold okv; rw [show (LEASTf (nx 8)).toInt = (1 : Int32).toInt by decide, show (MOSTf (nx 8)).toInt = (9 : Int32).toInt by decide]; omega)
theorem chg_set {X Y : St} {d a b v c : Int32} {s : Nat} (h : IChg X) (hd : d.toInt + s = (X.1 12 5).toInt) (h0 : 0 ≤ d.toInt ∧ d.toInt < 40) (hk : vld (X.1 1 1).toInt b.toInt a.toInt) (hv : okv (nx b) v.toInt) (hc : okv (nx b) c.toInt) (hm : Y.1 1 1 = X.1 1 1) (e1 : Y.1 12 5 = d + 1) (e2 : Y.1 12 6 = d + 1) (e3 : Y.1 102 35 = d + 1) (e4 : Y.1 102 34 = d + 1) (g1 : ∀ o k, 13 ≤ o → o ≤ 16 → k < nx d → Y.1 o k = X.1 o (k + s)) (g2 : Y.1 13 (nx d) = a ∧ Y.1 14 (nx d) = b ∧ Y.1 15 (nx d) = c ∧ Y.1 16 (nx d) = v) (g3 : ∀ i, i < 4 * nx d → Y.1 127 i = X.1 127 (i + 4 * s)) (g4 : Y.1 127 (4 * nx d) = a ∧ Y.1 127 (4 * nx d + 1) = b ∧ Y.1 127 (4 * nx d + 2) = c ∧ Y.1 127 (4 * nx d + 3) = v) : IChg Y := by
  obtain ⟨-, -, q1, q2, q3, q4⟩ := h
  have hn := nx_ti h0.1
  have ed : (d + 1).toInt = d.toInt + 1 := by rw [ti_add] <;> simp only [Int32.reduceToInt] <;> omega
  refine ⟨by rw [e3, e1], by rw [e4, e2], by rw [e1]; omega, by rw [e1, e2]; omega, by rw [e2]; omega, fun k hk2 => ?_⟩
  rw [e2, ed] at hk2
  by_cases c1 : k < nx d
  · exact ent_cg (l := k + s) hm (fun o o1 o2 => g1 o k o1 o2 c1) (fun j hj => by rw [g3 _ (by omega), show 4 * k + j + 4 * s = 4 * (k + s) + j by omega]) (q4 (k + s) (by omega))
  · have ek : k = nx d := by omega
    subst ek
    obtain ⟨b1, b2, b3, b4⟩ := g2
    obtain ⟨f1, f2, f3, f4⟩ := g4
    refine ⟨by rw [hm, b1, b2]; exact hk, by rw [b2, b3]; exact hc, by rw [b2, b4]; exact hv, fun j hj => ?_⟩
    rcases (show j = 0 ∨ j = 1 ∨ j = 2 ∨ j = 3 by omega) with e | e | e | e <;> subst e
    · rw [b1]; exact f1
    · rw [b2]; exact f2
    · rw [b3]; exact f3
    · rw [b4]; exact f4
theorem cj_at {d a b v c : Int32} {X : St} {o i : Nat} : (cj d a b v c X).1 o i = if o = 3 + nx b ∧ i = nx a then v else if o = 12 ∧ i = 6 then d + 1 else if o = 12 ∧ i = 5 then d + 1 else if o = 16 ∧ i = nx d then v else if o = 15 ∧ i = nx d then c else if o = 14 ∧ i = nx d then b else if o = 13 ∧ i = nx d then a else X.1 o i := rfl
theorem mj_at {d a b v c : Int32} {X : St} {o i : Nat} : (mj d a b v c X).1 o i = if o = 102 ∧ i = 34 then d + 1 else if o = 102 ∧ i = 35 then d + 1 else if o = 127 ∧ i = 4 * nx d + 3 then v else if o = 127 ∧ i = 4 * nx d + 2 then c else if o = 127 ∧ i = 4 * nx d + 1 then b else if o = 127 ∧ i = 4 * nx d then a else X.1 o i := rfl
theorem op_mend (n : Nat) (hn : 4096 ≤ n) (a b v : Int32) (X : St) (hP : PoolI X) (hB : IBnd X) (hC : IChg X) : ∃ r X1 X2, el_mend n a b v X = some (r, X1) ∧ mo_mend n a b v X1 = some (r, X2) ∧ PoolI X2 ∧ IBnd X2 ∧ IChg X2 := by
  have hm8 := hP.1.2.2.1
  by_cases hk : vld (X.1 1 1).toInt b.toInt a.toInt
  · have hbb := nx_ti (x := b) (by omega)
    have haa := nx_ti (x := a) (by omega)
    have k1 : ¬ poo_keeps a b X = 0 := fun h => keeps0.mp h hk
    have k2 : ¬ mo_isOf a b X = 0 := fun h => (of0 hP.1).mp h hk
    by_cases hv : okv (nx b) v.toInt
    · have hf : ¬ mo_isFit b v = 0 := fun h => (fit_s (by omega)).mp h hv
      have E : el_mend n a b v X = (chg_tell n a b v X).bind fun X3 => some (X.1 (3 + nx b) (nx a), X3) := by
        unfold el_mend
        rw [if_neg k1, allow_s (by omega), Option.bind_some, if_pos hv, if_neg (by decide), told_s hm8 hk, Option.bind_some]
      have T : chg_tell n a b v X = (if X.1 (3 + nx b) (nx a) = v then (some X) else (if (X.1 12 5) = (40 : Int32) then ((chg_forgetOldest n X).bind fun X2 => (chg_tell_J31 n a b v (X.1 (3 + nx b) (nx a)) X2)) else (chg_tell_J31 n a b v (X.1 (3 + nx b) (nx a)) X))) := by
        unfold chg_tell
        rw [told_s hm8 hk, Option.bind_some]
      have hkn : vld (X.1 1 1).toInt (nx b) (nx a) := by omega
      have hcB := hB (nx b) (nx a) hkn
      by_cases hc : X.1 (3 + nx b) (nx a) = v
      · rw [if_pos hc] at T
        refine ⟨X.1 (3 + nx b) (nx a), X, X, ?_, ?_, hP, hB, hC⟩
        · rw [E, T, Option.bind_some]
        · unfold mo_mend
          rw [if_neg k2, if_neg hf, get_s hP.1 hk, Option.bind_some, if_pos hc]
      · rw [if_neg hc] at T
        have hC2 := hC
        obtain ⟨q1, q2, q3, q4, q5, -⟩ := hC
        have M : ∀ Y : St, (∀ o i, 102 ≤ o → Y.1 o i = X.1 o i) → mo_mend n a b v Y = (if ((stI Y (msl (nx b)) (msk (nx b) (nx a)) v).1 102 35) = (40 : Int32) then (mo_mend_L56 n (fun v4 v5 v6 v7 X3 => (mo_mend_J96 n v4 v5 v6 v7 (stI X3 102 35 ((X3.1 102 35) - (1 : Int32))))) n a b v (X.1 (3 + nx b) (nx a)) (0 : Int32) (stI Y (msl (nx b)) (msk (nx b) (nx a)) v)) else (mo_mend_J96 n a b v (X.1 (3 + nx b) (nx a)) (stI Y (msl (nx b)) (msk (nx b) (nx a)) v))) := by
          intro Y hY
          unfold mo_mend
          rw [if_neg (by rw [mof_s (hY 102 0 (by omega))]; exact k2), if_neg hf, mget_s hP.1 hY hk, Option.bind_some, if_neg hc, becomes_s hm8 hk, Option.bind_some]
        have hr := msl_r (w := nx b) (by omega)
        generalize hmsl : msl (nx b) = ml at *
        generalize hmsk : msk (nx b) (nx a) = mk at *
        generalize X.1 (3 + nx b) (nx a) = c at *
        have h35 : ∀ Y : St, (stI Y ml mk v).1 102 35 = Y.1 102 35 := fun Y => by rw [stI_at, if_neg (by omega)]
        by_cases hd : (X.1 12 5).toInt = 40
        · have hd2 : X.1 12 5 = 40 := by rw [ti_eq, hd]; decide
          rw [if_pos hd2] at T
          obtain ⟨Xs, s1, s2, s3⟩ := fo_s n n 1 1 X (by decide) (by omega) (by omega) (by omega)
          have f39 : Xs.1 12 5 = 39 := by rw [s3, if_neg (by omega), if_pos ⟨rfl, rfl⟩, hd2]; decide
          have f11 : Xs.1 1 1 = X.1 1 1 := by rw [s3, if_neg (by omega), if_neg (by omega)]
          have hT : chg_tell n a b v X = some (cj 39 a b v c Xs) := by
            rw [T]
            show (chg_forgetOldest_L2 n n 1 X).bind _ = _
            rw [s1, Option.bind_some, cj_s (by rw [f11]; exact hm8) (by rw [f11]; exact hk) (by rw [f39]; decide), f39]
          have n39 : nx (39 : Int32) = 39 := by decide
          have c102 : ∀ o i, 102 ≤ o → (cj 39 a b v c Xs).1 o i = X.1 o i := fun o i ho => by
            rw [cj_at, if_neg (by omega), if_neg (by omega), if_neg (by omega), if_neg (by omega), if_neg (by omega), if_neg (by omega), if_neg (by omega), s3, if_neg (by omega), if_neg (by omega)]
          have hM := M _ c102
          have h40 : (stI (cj 39 a b v c Xs) ml mk v).1 102 35 = 40 := by rw [h35, c102 _ _ (by omega), q1, hd2]
          rw [if_pos h40] at hM
          obtain ⟨Z, z1, z2, z3⟩ := mf_s n (fun v4 v5 v6 v7 X3 => (mo_mend_J96 n v4 v5 v6 v7 (stI X3 102 35 ((X3.1 102 35) - (1 : Int32))))) a b v c n 0 0 (stI (cj 39 a b v c Xs) ml mk v) (by decide) (by omega) (by omega)
          have z39 : (stI Z 102 35 (Z.1 102 35 - 1)).1 102 35 = 39 := by
            rw [stI_self, z3, if_neg (by omega), h40]
            decide
          have hM2 : mo_mend n a b v (cj 39 a b v c Xs) = some (c, mj 39 a b v c (stI Z 102 35 (Z.1 102 35 - 1))) := by
            rw [hM, z1]
            show mo_mend_J96 n a b v c (stI Z 102 35 (Z.1 102 35 - 1)) = _
            rw [mj_s (by rw [z39]; decide), z39]
          have F : ∀ o i, o ≠ 102 → o ≠ 127 → (mj 39 a b v c (stI Z 102 35 (Z.1 102 35 - 1))).1 o i = if o = ml ∧ i = mk then v else (cj 39 a b v c Xs).1 o i := fun o i h1 h2 => by
            rw [mj_at, if_neg (by omega), if_neg (by omega), if_neg (by omega), if_neg (by omega), if_neg (by omega), if_neg (by omega), stI_at, if_neg (by omega), z3, if_neg (by omega), stI_at]
          obtain ⟨P1, P2, P3⟩ := pool_set (Y := mj 39 a b v c (stI Z 102 35 (Z.1 102 35 - 1))) hP hB hkn hv (fun o i ho => by
              rw [F _ _ (by omega) (by omega), if_neg (by omega), cj_at]
              by_cases e : o = 3 + nx b ∧ i = nx a
              · rw [if_pos e, if_pos e]
              · rw [if_neg e, if_neg e, if_neg (by omega), if_neg (by omega), if_neg (by omega), if_neg (by omega), if_neg (by omega), if_neg (by omega), s3, if_neg (by omega), if_neg (by omega)])
            (fun o i h1 h2 => by rw [F _ _ (by omega) (by omega), hmsl, hmsk, c102 _ _ (by omega)])
            (by rw [mj_at, if_neg (by omega), if_neg (by omega), if_neg (by omega), if_neg (by omega), if_neg (by omega), if_neg (by omega), stI_at, if_neg (by omega), z3, if_neg (by omega), stI_at, if_neg (by omega), c102 _ _ (by omega)])
            (fun o i ho => by
              rw [F _ _ (by omega) (by omega), if_neg (by omega), cj_at, if_neg (by omega), if_neg (by omega), if_neg (by omega), if_neg (by omega), if_neg (by omega), if_neg (by omega), if_neg (by omega), s3, if_neg (by omega), if_neg (by omega)])
          refine ⟨c, _, _, by rw [E, hT, Option.bind_some], hM2, P1, P2, ?_⟩
          refine chg_set (d := 39) (a := a) (b := b) (v := v) (c := c) (s := 1) hC2 (by rw [hd]; decide) (by decide) hk hv hcB P3 ?_ ?_ ?_ ?_ ?_ ?_ ?_ ?_
          · rw [F _ _ (by omega) (by omega), if_neg (by omega), cj_at, if_neg (by omega), if_neg (by omega), if_pos ⟨rfl, rfl⟩]
          · rw [F _ _ (by omega) (by omega), if_neg (by omega), cj_at, if_neg (by omega), if_pos ⟨rfl, rfl⟩]
          · rw [mj_at, if_neg (by omega), if_pos ⟨rfl, rfl⟩]
          · rw [mj_at, if_pos ⟨rfl, rfl⟩]
          · intro o k o1 o2 hk2
            rw [n39] at hk2
            rw [F _ _ (by omega) (by omega), if_neg (by omega), cj_at, if_neg (by omega), if_neg (by omega), if_neg (by omega), n39, if_neg (by omega), if_neg (by omega), if_neg (by omega), if_neg (by omega), s3, if_pos (by omega)]
          · rw [n39]
            refine ⟨?_, ?_, ?_, ?_⟩ <;> rw [F _ _ (by omega) (by omega), if_neg (by omega), cj_at, n39, if_neg (by omega), if_neg (by omega), if_neg (by omega)]
            · rw [if_neg (by omega), if_neg (by omega), if_neg (by omega), if_pos ⟨rfl, rfl⟩]
            · rw [if_neg (by omega), if_neg (by omega), if_pos ⟨rfl, rfl⟩]
            · rw [if_neg (by omega), if_pos ⟨rfl, rfl⟩]
            · rw [if_pos ⟨rfl, rfl⟩]
          · intro i hi
            rw [n39] at hi
            rw [mj_at, n39, if_neg (by omega), if_neg (by omega), if_neg (by omega), if_neg (by omega), if_neg (by omega), if_neg (by omega), stI_at, if_neg (by omega), z3, if_pos (by omega), stI_at, if_neg (by omega), c102 _ _ (by omega)]
          · rw [n39]
            refine ⟨?_, ?_, ?_, ?_⟩ <;> rw [mj_at, n39, if_neg (by omega), if_neg (by omega)]
            · rw [if_neg (by omega), if_neg (by omega), if_neg (by omega), if_pos ⟨rfl, rfl⟩]
            · rw [if_neg (by omega), if_neg (by omega), if_pos ⟨rfl, rfl⟩]
            · rw [if_neg (by omega), if_pos ⟨rfl, rfl⟩]
            · rw [if_pos ⟨rfl, rfl⟩]
        · have hd2 : ¬ X.1 12 5 = 40 := fun h => hd (by rw [h]; decide)
          rw [if_neg hd2, cj_s hm8 hk (by omega)] at T
          generalize hdd : X.1 12 5 = d at *
          have hdn := nx_ti (x := d) (by omega)
          have c102 : ∀ o i, 102 ≤ o → (cj d a b v c X).1 o i = X.1 o i := fun o i ho => by
            rw [cj_at, if_neg (by omega), if_neg (by omega), if_neg (by omega), if_neg (by omega), if_neg (by omega), if_neg (by omega), if_neg (by omega)]
          have hM := M _ c102
          have h40 : (stI (cj d a b v c X) ml mk v).1 102 35 = d := by rw [h35, c102 _ _ (by omega), q1]
          rw [if_neg (by rw [h40]; exact hd2), mj_s (by rw [h40]; omega), h40] at hM
          have F : ∀ o i, o ≠ 102 → o ≠ 127 → (mj d a b v c (stI (cj d a b v c X) ml mk v)).1 o i = if o = ml ∧ i = mk then v else (cj d a b v c X).1 o i := fun o i h1 h2 => by
            rw [mj_at, if_neg (by omega), if_neg (by omega), if_neg (by omega), if_neg (by omega), if_neg (by omega), if_neg (by omega), stI_at]
          obtain ⟨P1, P2, P3⟩ := pool_set (Y := mj d a b v c (stI (cj d a b v c X) ml mk v)) hP hB hkn hv (fun o i ho => by
              rw [F _ _ (by omega) (by omega), if_neg (by omega), cj_at]
              by_cases e : o = 3 + nx b ∧ i = nx a
              · rw [if_pos e, if_pos e]
              · rw [if_neg e, if_neg e, if_neg (by omega), if_neg (by omega), if_neg (by omega), if_neg (by omega), if_neg (by omega), if_neg (by omega)])
            (fun o i h1 h2 => by rw [F _ _ (by omega) (by omega), hmsl, hmsk, c102 _ _ (by omega)])
            (by rw [mj_at, if_neg (by omega), if_neg (by omega), if_neg (by omega), if_neg (by omega), if_neg (by omega), if_neg (by omega), stI_at, if_neg (by omega), c102 _ _ (by omega)])
            (fun o i ho => by
              rw [F _ _ (by omega) (by omega), if_neg (by omega), cj_at, if_neg (by omega), if_neg (by omega), if_neg (by omega), if_neg (by omega), if_neg (by omega), if_neg (by omega), if_neg (by omega)])
          refine ⟨c, _, _, by rw [E, T, Option.bind_some], hM, P1, P2, ?_⟩
          refine chg_set (d := d) (a := a) (b := b) (v := v) (c := c) (s := 0) hC2 (by rw [hdd]; omega) (by omega) hk hv hcB P3 ?_ ?_ ?_ ?_ ?_ ?_ ?_ ?_
          · rw [F _ _ (by omega) (by omega), if_neg (by omega), cj_at, if_neg (by omega), if_neg (by omega), if_pos ⟨rfl, rfl⟩]
          · rw [F _ _ (by omega) (by omega), if_neg (by omega), cj_at, if_neg (by omega), if_pos ⟨rfl, rfl⟩]
          · rw [mj_at, if_neg (by omega), if_pos ⟨rfl, rfl⟩]
          · rw [mj_at, if_pos ⟨rfl, rfl⟩]
          · intro o k o1 o2 hk2
            rw [F _ _ (by omega) (by omega), if_neg (by omega), cj_at, if_neg (by omega), if_neg (by omega), if_neg (by omega), if_neg (by omega), if_neg (by omega), if_neg (by omega), if_neg (by omega)]
            rfl
          · refine ⟨?_, ?_, ?_, ?_⟩ <;> rw [F _ _ (by omega) (by omega), if_neg (by omega), cj_at, if_neg (by omega), if_neg (by omega), if_neg (by omega)]
            · rw [if_neg (by omega), if_neg (by omega), if_neg (by omega), if_pos ⟨rfl, rfl⟩]
            · rw [if_neg (by omega), if_neg (by omega), if_pos ⟨rfl, rfl⟩]
            · rw [if_neg (by omega), if_pos ⟨rfl, rfl⟩]
            · rw [if_pos ⟨rfl, rfl⟩]
          · intro i hi
            rw [mj_at, if_neg (by omega), if_neg (by omega), if_neg (by omega), if_neg (by omega), if_neg (by omega), if_neg (by omega), stI_at, if_neg (by omega), c102 _ _ (by omega)]
            rfl
          · refine ⟨?_, ?_, ?_, ?_⟩ <;> rw [mj_at, if_neg (by omega), if_neg (by omega)]
            · rw [if_neg (by omega), if_neg (by omega), if_neg (by omega), if_pos ⟨rfl, rfl⟩]
            · rw [if_neg (by omega), if_neg (by omega), if_pos ⟨rfl, rfl⟩]
            · rw [if_neg (by omega), if_pos ⟨rfl, rfl⟩]
            · rw [if_pos ⟨rfl, rfl⟩]
    · refine ⟨-2000000000, X, X, ?_, ?_, hP, hB, hC⟩
      · unfold el_mend
        rw [if_neg k1, allow_s (by omega), Option.bind_some, if_neg hv, if_pos rfl]
      · unfold mo_mend
        rw [if_neg k2, if_pos ((fit_s (by omega)).mpr hv)]
  · refine ⟨-2000000000, X, X, ?_, ?_, hP, hB, hC⟩
    · unfold el_mend
      rw [if_pos (keeps0.mpr hk)]
    · unfold mo_mend
      rw [if_pos ((of0 hP.1).mpr hk)]
theorem chg_step {X Y : St} {d : Int32} (h : IChg X) (hd : 0 ≤ d.toInt ∧ d.toInt ≤ (X.1 12 6).toInt) (hm : Y.1 1 1 = X.1 1 1) (e1 : Y.1 12 5 = d) (e2 : Y.1 12 6 = X.1 12 6) (e3 : Y.1 102 35 = d) (e4 : Y.1 102 34 = X.1 102 34) (g1 : ∀ o k, 13 ≤ o → o ≤ 16 → Y.1 o k = X.1 o k) (g2 : ∀ i, Y.1 127 i = X.1 127 i) : IChg Y := by
  obtain ⟨q1, q2, q3, q4, q5, q6⟩ := h
  refine ⟨by rw [e3, e1], by rw [e4, e2]; exact q2, by rw [e1]; exact hd.1, by rw [e1, e2]; exact hd.2, by rw [e2]; exact q5, fun k hk => ?_⟩
  rw [e2] at hk
  exact ent_cg (l := k) hm (fun o o1 o2 => g1 o k o1 o2) (fun j hj => g2 _) (q6 k hk)
theorem op_undo (X : St) (hP : PoolI X) (hB : IBnd X) (hC : IChg X) : ∃ r X1 X2, el_undo X = some (r, X1) ∧ mo_undo X1 = some (r, X2) ∧ PoolI X2 ∧ IBnd X2 ∧ IChg X2 := by
  have hC2 := hC
  have hm8 := hP.1.2.2.1
  obtain ⟨q1, q2, q3, q4, q5, q6⟩ := hC
  by_cases h0 : (X.1 12 5).toInt = 0
  · refine ⟨-5, X, X, ?_, ?_, hP, hB, hC2⟩
    · unfold el_undo chg_takeBack
      rw [if_neg (by rw [Int32.lt_iff_toInt_lt, show (0 : Int32).toInt = 0 by decide]; omega), Option.bind_some]
      dsimp only
      rw [if_pos rfl]
    · unfold mo_undo
      rw [if_pos (by rw [q1, ti_eq, h0]; decide)]
  · have ed : (X.1 12 5 - 1).toInt = (X.1 12 5).toInt - 1 := by rw [ti_sub] <;> simp only [Int32.reduceToInt] <;> omega
    have en := nx_ti (x := X.1 12 5 - 1) (by omega)
    obtain ⟨r1, r2, r3, r4⟩ := q6 (nx (X.1 12 5 - 1)) (by omega)
    obtain ⟨i1, i2, i3⟩ := ix4 (d := X.1 12 5 - 1) (by omega)
    obtain ⟨f1, g1⟩ := i3 1 (by decide) (by decide)
    obtain ⟨f2, g2⟩ := i3 2 (by decide) (by decide)
    rw [show (1 : Int32).toInt = 1 by decide] at f1
    rw [show (2 : Int32).toInt = 2 by decide] at f2
    rw [show nx (1 : Int32) = 1 by decide] at g1
    rw [show nx (2 : Int32) = 2 by decide] at g2
    have m0 := r4 0 (by omega)
    have m1 := r4 1 (by omega)
    have m2 := r4 2 (by omega)
    rw [Nat.add_zero] at m0
    have b0 : inB ((4 : Int32) * (X.1 12 5 - 1)) 160 = true := by rw [inB_iff]; omega
    have b1 : inB ((4 : Int32) * (X.1 12 5 - 1) + 1) 160 = true := by rw [inB_iff]; omega
    have b2 : inB ((4 : Int32) * (X.1 12 5 - 1) + 2) 160 = true := by rw [inB_iff]; omega
    have bc : inB (X.1 12 5 - 1) 40 = true := by rw [inB_iff]; omega
    generalize hdd : X.1 12 5 - 1 = d at *
    have hgt : 0 < X.1 12 5 := by rw [Int32.lt_iff_toInt_lt, show (0 : Int32).toInt = 0 by decide]; omega
    have hne : ¬ X.1 102 35 = 0 := fun h => h0 (by rw [← q1, h]; decide)
    have hbb := nx_ti (x := X.1 14 (nx d)) (by omega)
    have haa := nx_ti (x := X.1 13 (nx d)) (by omega)
    have C : el_undo X = some (d, stI (stI X 12 5 d) (3 + nx (X.1 14 (nx d))) (nx (X.1 13 (nx d))) (X.1 15 (nx d))) := by
      unfold el_undo chg_takeBack
      rw [if_pos hgt, hdd]
      simp only [stI_at, bc, ↓reduceIte, Nat.reduceEqDiff, false_and, and_self]
      rw [tell_s (by rw [stI_at, if_neg (by omega)]; exact hm8) (by rw [stI_at, if_neg (by omega)]; exact r1), Option.bind_some, Option.bind_some]
      dsimp only
      rw [if_neg (by decide)]
      unfold chg_done
      rw [stI_at, if_neg (by omega), stI_self]
    have M : mo_undo (stI (stI X 12 5 d) (3 + nx (X.1 14 (nx d))) (nx (X.1 13 (nx d))) (X.1 15 (nx d))) = some (d, stI (stI (stI (stI X 12 5 d) (3 + nx (X.1 14 (nx d))) (nx (X.1 13 (nx d))) (X.1 15 (nx d))) 102 35 d) (msl (nx (X.1 14 (nx d)))) (msk (nx (X.1 14 (nx d))) (nx (X.1 13 (nx d)))) (X.1 15 (nx d))) := by
      have e35 : (stI (stI X 12 5 d) (3 + nx (X.1 14 (nx d))) (nx (X.1 13 (nx d))) (X.1 15 (nx d))).1 102 35 = X.1 12 5 := by
        rw [stI_at, if_neg (by omega), stI_at, if_neg (by omega), q1]
      have e127 : ∀ i, (stI (stI (stI X 12 5 d) (3 + nx (X.1 14 (nx d))) (nx (X.1 13 (nx d))) (X.1 15 (nx d))) 102 35 d).1 127 i = X.1 127 i := fun i => by
        rw [stI_at, if_neg (by omega), stI_at, if_neg (by omega), stI_at, if_neg (by omega)]
      unfold mo_undo
      rw [e35, if_neg (by rw [← q1]; exact hne), hdd, stI_self, if_pos b0, if_pos b1, if_pos b2, i2, g1, g2, e127, e127, e127, m0, m1, m2]
      rw [becomes_s hm8 r1, Option.bind_some, stI_at, if_neg (by have := msl_r (w := nx (X.1 14 (nx d))) (by omega); omega), stI_self]
    have hr := msl_r (w := nx (X.1 14 (nx d))) (by omega)
    have hkn : vld (X.1 1 1).toInt (nx (X.1 14 (nx d))) (nx (X.1 13 (nx d))) := by omega
    have F : ∀ o i, (stI (stI (stI (stI X 12 5 d) (3 + nx (X.1 14 (nx d))) (nx (X.1 13 (nx d))) (X.1 15 (nx d))) 102 35 d) (msl (nx (X.1 14 (nx d)))) (msk (nx (X.1 14 (nx d))) (nx (X.1 13 (nx d)))) (X.1 15 (nx d))).1 o i = if o = msl (nx (X.1 14 (nx d))) ∧ i = msk (nx (X.1 14 (nx d))) (nx (X.1 13 (nx d))) then X.1 15 (nx d) else if o = 102 ∧ i = 35 then d else if o = 3 + nx (X.1 14 (nx d)) ∧ i = nx (X.1 13 (nx d)) then X.1 15 (nx d) else if o = 12 ∧ i = 5 then d else X.1 o i := fun o i => rfl
    refine ⟨_, _, _, C, M, ?_⟩
    generalize (stI (stI (stI (stI X 12 5 d) (3 + nx (X.1 14 (nx d))) (nx (X.1 13 (nx d))) (X.1 15 (nx d))) 102 35 d) (msl (nx (X.1 14 (nx d)))) (msk (nx (X.1 14 (nx d))) (nx (X.1 13 (nx d)))) (X.1 15 (nx d))) = Y at F ⊢
    obtain ⟨P1, P2, P3⟩ := pool_set (Y := Y) hP hB hkn r2 (fun o i ho => by rw [F, if_neg (by omega), if_neg (by omega), if_neg (c := o = 12 ∧ i = 5) (by omega)])
      (fun o i h1 h2 => by rw [F, if_neg (c := o = 102 ∧ i = 35) (by omega), if_neg (c := o = 3 + nx (X.1 14 (nx d)) ∧ i = nx (X.1 13 (nx d))) (by omega), if_neg (c := o = 12 ∧ i = 5) (by omega)])
      (by rw [F, if_neg (by omega), if_neg (by omega), if_neg (by omega), if_neg (by omega)])
      (fun o i ho => by rw [F, if_neg (by omega), if_neg (by omega), if_neg (by omega), if_neg (by omega)])
    exact ⟨P1, P2, chg_step (d := d) hC2 (by omega) P3 (by rw [F, if_neg (by omega), if_neg (by omega), if_neg (by omega), if_pos ⟨rfl, rfl⟩]) (by rw [F, if_neg (by omega), if_neg (by omega), if_neg (by omega), if_neg (by omega)]) (by rw [F, if_neg (by omega), if_pos ⟨rfl, rfl⟩]) (by rw [F, if_neg (by omega), if_neg (by omega), if_neg (by omega), if_neg (by omega)]) (fun o k o1 o2 => by rw [F, if_neg (by omega), if_neg (by omega), if_neg (by omega), if_neg (by omega)]) (fun i => by rw [F, if_neg (by omega), if_neg (by omega), if_neg (by omega), if_neg (by omega)])⟩
theorem op_redo (X : St) (hP : PoolI X) (hB : IBnd X) (hC : IChg X) : ∃ r X1 X2, el_redo X = some (r, X1) ∧ mo_redo X1 = some (r, X2) ∧ PoolI X2 ∧ IBnd X2 ∧ IChg X2 := by
  have hC2 := hC
  have hm8 := hP.1.2.2.1
  obtain ⟨q1, q2, q3, q4, q5, q6⟩ := hC
  by_cases h0 : (X.1 12 5).toInt = (X.1 12 6).toInt
  · refine ⟨-5, X, X, ?_, ?_, hP, hB, hC2⟩
    · unfold el_redo chg_doAgain
      rw [if_neg (by rw [Int32.lt_iff_toInt_lt]; omega), Option.bind_some]
      dsimp only
      rw [if_pos rfl]
    · unfold mo_redo
      rw [if_pos (by rw [q1, q2, ti_eq, h0])]
  · have en := nx_ti (x := X.1 12 5) (by omega)
    obtain ⟨r1, r2, r3, r4⟩ := q6 (nx (X.1 12 5)) (by omega)
    obtain ⟨i1, i2, i3⟩ := ix4 (d := X.1 12 5) (by omega)
    obtain ⟨f1, g1⟩ := i3 1 (by decide) (by decide)
    obtain ⟨f3, g3⟩ := i3 3 (by decide) (by decide)
    rw [show (1 : Int32).toInt = 1 by decide] at f1
    rw [show (3 : Int32).toInt = 3 by decide] at f3
    rw [show nx (1 : Int32) = 1 by decide] at g1
    rw [show nx (3 : Int32) = 3 by decide] at g3
    have m0 := r4 0 (by omega)
    have m1 := r4 1 (by omega)
    have m3 := r4 3 (by omega)
    rw [Nat.add_zero] at m0
    have b0 : inB ((4 : Int32) * (X.1 12 5)) 160 = true := by rw [inB_iff]; omega
    have b1 : inB ((4 : Int32) * (X.1 12 5) + 1) 160 = true := by rw [inB_iff]; omega
    have b3 : inB ((4 : Int32) * (X.1 12 5) + 3) 160 = true := by rw [inB_iff]; omega
    have bc : inB (X.1 12 5) 40 = true := by rw [inB_iff]; omega
    have hlt : X.1 12 5 < X.1 12 6 := by rw [Int32.lt_iff_toInt_lt]; omega
    have hne : ¬ X.1 102 35 = X.1 102 34 := fun h => h0 (by rw [← q1, h, q2])
    generalize hdd : X.1 12 5 = d at *
    have ed : (d + 1).toInt = d.toInt + 1 := by rw [ti_add] <;> simp only [Int32.reduceToInt] <;> omega
    have hbb := nx_ti (x := X.1 14 (nx d)) (by omega)
    have haa := nx_ti (x := X.1 13 (nx d)) (by omega)
    have C : el_redo X = some (X.1 12 6 - (d + 1), stI (stI X (3 + nx (X.1 14 (nx d))) (nx (X.1 13 (nx d))) (X.1 16 (nx d))) 12 5 (d + 1)) := by
      unfold el_redo chg_doAgain
      rw [hdd, if_pos hlt, if_pos bc, if_pos bc, if_pos bc, tell_s hm8 r1, Option.bind_some, Option.bind_some]
      dsimp only
      rw [if_neg (by decide), stI_at (o' := 12) (i' := 5), if_neg (by omega), hdd]
      unfold chg_undone
      rw [stI_self, stI_at, if_neg (by omega), stI_at, if_neg (by omega)]
    have M : mo_redo (stI (stI X (3 + nx (X.1 14 (nx d))) (nx (X.1 13 (nx d))) (X.1 16 (nx d))) 12 5 (d + 1)) = some (X.1 12 6 - (d + 1), stI (stI (stI (stI X (3 + nx (X.1 14 (nx d))) (nx (X.1 13 (nx d))) (X.1 16 (nx d))) 12 5 (d + 1)) (msl (nx (X.1 14 (nx d)))) (msk (nx (X.1 14 (nx d))) (nx (X.1 13 (nx d)))) (X.1 16 (nx d))) 102 35 (d + 1)) := by
      have e35 : (stI (stI X (3 + nx (X.1 14 (nx d))) (nx (X.1 13 (nx d))) (X.1 16 (nx d))) 12 5 (d + 1)).1 102 35 = d := by
        rw [stI_at, if_neg (by omega), stI_at, if_neg (by omega), q1]
      have e34 : (stI (stI X (3 + nx (X.1 14 (nx d))) (nx (X.1 13 (nx d))) (X.1 16 (nx d))) 12 5 (d + 1)).1 102 34 = X.1 12 6 := by
        rw [stI_at, if_neg (by omega), stI_at, if_neg (by omega), q2]
      have e127 : ∀ i, (stI (stI X (3 + nx (X.1 14 (nx d))) (nx (X.1 13 (nx d))) (X.1 16 (nx d))) 12 5 (d + 1)).1 127 i = X.1 127 i := fun i => by
        rw [stI_at, if_neg (by omega), stI_at, if_neg (by omega)]
      have hr := msl_r (w := nx (X.1 14 (nx d))) (by omega)
      unfold mo_redo
      rw [e35, e34, if_neg (by rw [← q1, ← q2]; exact hne), if_pos b0, if_pos b1, if_pos b3, i2, g1, g3, e127, e127, e127, m0, m1, m3]
      rw [becomes_s hm8 r1, Option.bind_some, stI_at (o := msl (nx (X.1 14 (nx d)))) (o' := 102) (i' := 35), if_neg (c := 102 = msl (nx (X.1 14 (nx d))) ∧ _) (by omega), e35, stI_self, stI_at (o' := 102) (i' := 34), if_neg (by omega), stI_at (o' := 102) (i' := 34), if_neg (by omega), e34]
    have hr := msl_r (w := nx (X.1 14 (nx d))) (by omega)
    have hkn : vld (X.1 1 1).toInt (nx (X.1 14 (nx d))) (nx (X.1 13 (nx d))) := by omega
    have F : ∀ o i, (stI (stI (stI (stI X (3 + nx (X.1 14 (nx d))) (nx (X.1 13 (nx d))) (X.1 16 (nx d))) 12 5 (d + 1)) (msl (nx (X.1 14 (nx d)))) (msk (nx (X.1 14 (nx d))) (nx (X.1 13 (nx d)))) (X.1 16 (nx d))) 102 35 (d + 1)).1 o i = if o = 102 ∧ i = 35 then d + 1 else if o = msl (nx (X.1 14 (nx d))) ∧ i = msk (nx (X.1 14 (nx d))) (nx (X.1 13 (nx d))) then X.1 16 (nx d) else if o = 12 ∧ i = 5 then d + 1 else if o = 3 + nx (X.1 14 (nx d)) ∧ i = nx (X.1 13 (nx d)) then X.1 16 (nx d) else X.1 o i := fun o i => rfl
    refine ⟨_, _, _, C, M, ?_⟩
    generalize (stI (stI (stI (stI X (3 + nx (X.1 14 (nx d))) (nx (X.1 13 (nx d))) (X.1 16 (nx d))) 12 5 (d + 1)) (msl (nx (X.1 14 (nx d)))) (msk (nx (X.1 14 (nx d))) (nx (X.1 13 (nx d)))) (X.1 16 (nx d))) 102 35 (d + 1)) = Y at F ⊢
    obtain ⟨P1, P2, P3⟩ := pool_set (Y := Y) hP hB hkn r3 (fun o i ho => by rw [F, if_neg (by omega), if_neg (by omega), if_neg (c := o = 12 ∧ i = 5) (by omega)])
      (fun o i h1 h2 => by rw [F, if_neg (c := o = 102 ∧ i = 35) (by omega), if_neg (c := o = 3 + nx (X.1 14 (nx d)) ∧ i = nx (X.1 13 (nx d))) (by omega), if_neg (c := o = 12 ∧ i = 5) (by omega)])
      (by rw [F, if_neg (by omega), if_neg (by omega), if_neg (by omega), if_neg (by omega)])
      (fun o i ho => by rw [F, if_neg (by omega), if_neg (by omega), if_neg (by omega), if_neg (by omega)])
    exact ⟨P1, P2, chg_step (d := d + 1) hC2 (by omega) P3 (by rw [F, if_neg (by omega), if_neg (by omega), if_pos ⟨rfl, rfl⟩]) (by rw [F, if_neg (by omega), if_neg (by omega), if_neg (by omega), if_neg (by omega)]) (by rw [F, if_pos ⟨rfl, rfl⟩]) (by rw [F, if_neg (by omega), if_neg (by omega), if_neg (by omega), if_neg (by omega)]) (fun o k o1 o2 => by rw [F, if_neg (by omega), if_neg (by omega), if_neg (by omega), if_neg (by omega)]) (fun i => by rw [F, if_neg (by omega), if_neg (by omega), if_neg (by omega), if_neg (by omega)])⟩
