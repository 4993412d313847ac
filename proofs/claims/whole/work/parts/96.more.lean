/-! more swimmers: the bounds -/
theorem jn_bnd {X : St} {z : Q4} (hz : fit4 z) (h0 : 0 ≤ (X.1 1 1).toInt) (h8 : (X.1 1 1).toInt < 8) (hB : IBnd X) (hL : ILat X) : IBnd (jn X z) ∧ ILat (jn X z) ∧ ((jn X z).1 1 1).toInt = (X.1 1 1).toInt + 1 := by
  have hm : ((jn X z).1 1 1).toInt = (X.1 1 1).toInt + 1 := by
    rw [jn_m, ti_add] <;> rw [ti1] <;> omega
  have hk := nx_ti h0
  have v : ∀ o i, (jn X z).1 o i = if o = 7 ∧ i = nx (X.1 1 1) then z.2.2.2 else if o = 6 ∧ i = nx (X.1 1 1) then 12 else if o = 5 ∧ i = nx (X.1 1 1) then z.2.2.1 else if o = 4 ∧ i = nx (X.1 1 1) then z.2.1 else if o = 3 ∧ i = nx (X.1 1 1) then z.1 else if o = 1 ∧ i = 1 then X.1 1 1 + 1 else X.1 o i := by
    intro o i
    unfold jn joinX
    simp only [stI_at]
  obtain ⟨f1, f2, f3, f4⟩ := hz
  refine ⟨fun w k hv => ?_, fun k hk8 hkm => ?_, hm⟩
  · rw [hm] at hv
    rcases hv with ⟨a1, a2, a3, a4⟩ | ⟨a1, a2, a3⟩
    · by_cases e : k = nx (X.1 1 1)
      · rcases (show w = 0 ∨ w = 1 ∨ w = 2 ∨ w = 3 ∨ w = 4 ∨ w = 5 by omega) with rfl | rfl | rfl | rfl | rfl | rfl
        · rw [v, if_neg (by omega), if_neg (by omega), if_neg (by omega), if_neg (by omega), if_pos ⟨rfl, e⟩]
          exact f1
        · rw [v, if_neg (by omega), if_neg (by omega), if_neg (by omega), if_pos ⟨rfl, e⟩]
          exact f2
        · rw [v, if_neg (by omega), if_neg (by omega), if_pos ⟨rfl, e⟩]
          exact f3
        · rw [v, if_neg (by omega), if_pos ⟨rfl, e⟩]
          show (LEASTf 3).toInt ≤ (12 : Int32).toInt ∧ (12 : Int32).toInt ≤ (MOSTf 3).toInt
          decide
        · rw [v, if_pos ⟨rfl, e⟩]
          exact f4
        · rw [v, if_neg (by omega), if_neg (by omega), if_neg (by omega), if_neg (by omega), if_neg (by omega), if_neg (by omega), hL k (by omega) (by omega)]
          show (LEASTf 5).toInt ≤ (0 : Int32).toInt ∧ (0 : Int32).toInt ≤ (MOSTf 5).toInt
          decide
      · rw [v, if_neg (by omega), if_neg (by omega), if_neg (by omega), if_neg (by omega), if_neg (by omega), if_neg (by omega)]
        exact hB w k (Or.inl ⟨a1, a2, a3, by omega⟩)
    · rw [v, if_neg (by omega), if_neg (by omega), if_neg (by omega), if_neg (by omega), if_neg (by omega), if_neg (by omega)]
      exact hB w k (Or.inr ⟨a1, a2, a3⟩)
  · rw [v, if_neg (by omega), if_neg (by omega), if_neg (by omega), if_neg (by omega), if_neg (by omega), if_neg (by omega)]
    exact hL k hk8 (by omega)
theorem jns_bnd : ∀ (l : List Q4) (X : St), (∀ q ∈ l, fit4 q) → 0 ≤ (X.1 1 1).toInt → (X.1 1 1).toInt + l.length ≤ 8 → IBnd X → ILat X → IBnd (jns l X) ∧ (X.1 1 1).toInt ≤ ((jns l X).1 1 1).toInt := by
  intro l
  induction l with
  | nil => intro X _ _ _ hB _; exact ⟨hB, Int.le_refl _⟩
  | cons z l ih =>
    intro X hl h0 h8 hB hL
    rw [List.length_cons] at h8
    obtain ⟨b1, b2, b3⟩ := jn_bnd (hl z List.mem_cons_self) h0 (by omega) hB hL
    obtain ⟨c1, c2⟩ := ih (jn X z) (fun q hq => hl q (List.mem_cons_of_mem _ hq)) (by omega) (by omega) b1 b2
    exact ⟨c1, by show _ ≤ ((jns l (jn X z)).1 1 1).toInt; omega⟩
theorem el_swm (a b : Int32) (X : St) (h2 : 0 ≤ (X.1 1 1).toInt) (h3 : (X.1 1 1).toInt ≤ 8) : (∃ v, el_swimmer a b X = some (v, X)) ∨ ∃ v z, fit4 z ∧ (X.1 1 1).toInt < 8 ∧ el_swimmer a b X = some (v, jn X z) := by
  by_cases ha : a.toInt < 0
  · refine Or.inl ⟨-1, ?_⟩
    unfold el_swimmer
    simp (disch := omega) only [↓within0, ↓has0, ↓tapFull0, inB_iff, Int32.lt_iff_toInt_lt, ti_eq, Int32.reduceToInt, if_pos, if_neg, Option.bind_some, stI_at, stI_2at, Nat.reduceEqDiff, Nat.reduceBEq, false_and, and_false, true_and, and_self, and_true, ↓reduceIte]
  · have hq := ti_div (x := a) (y := 100) (by decide)
    have hp := ti_irm (x := a) (y := 100) (by decide)
    rw [show (100 : Int32).toInt = 100 by decide] at hq hp
    have hp0 : 0 ≤ (irm a 100).toInt := by rw [hp]; exact Int.tmod_nonneg _ (by omega)
    have hq0 : 0 ≤ (a / 100).toInt := by rw [hq]; exact Int.tdiv_nonneg (by omega) (by omega)
    have e0 : (0 : Int32).toInt = 0 := by decide
    have sw := swimr_s (p := irm a 100) (q := a / 100) (t := b) (s := 0) (X := X)
    by_cases hc : (irm a 100).toInt ≤ 15 ∧ (a / 100).toInt ≤ 15 ∧ 1 ≤ b.toInt ∧ b.toInt ≤ 9
    · rw [if_pos (by rw [e0]; omega)] at sw
      by_cases hf : (X.1 1 1).toInt < 8
      · refine Or.inr ⟨X.1 1 1, (irm a 100, a / 100, b, 0), ⟨⟨hp0, hc.1⟩, ⟨hq0, hc.2.1⟩, hc.2.2, by show -9 ≤ (0 : Int32).toInt ∧ (0 : Int32).toInt ≤ 9; decide⟩, hf, ?_⟩
        show el_swimmer a b X = some (X.1 1 1, joinX (irm a 100) (a / 100) b 0 X)
        unfold el_swimmer
        rw [sw, join_s h2 hf]
        unfold poo_isFull
        simp (disch := omega) only [↓within0, ↓has0, ↓tapFull0, inB_iff, Int32.lt_iff_toInt_lt, ti_eq, Int32.reduceToInt, if_pos, if_neg, Option.bind_some, stI_at, stI_2at, Nat.reduceEqDiff, Nat.reduceBEq, false_and, and_false, true_and, and_self, and_true, ↓reduceIte]
      · refine Or.inl ⟨-3, ?_⟩
        unfold el_swimmer
        rw [sw]
        unfold poo_isFull
        simp (disch := omega) only [↓within0, ↓has0, ↓tapFull0, inB_iff, Int32.lt_iff_toInt_lt, ti_eq, Int32.reduceToInt, if_pos, if_neg, Option.bind_some, stI_at, stI_2at, Nat.reduceEqDiff, Nat.reduceBEq, false_and, and_false, true_and, and_self, and_true, ↓reduceIte]
    · rw [if_neg (by omega)] at sw
      refine Or.inl ⟨-1, ?_⟩
      unfold el_swimmer
      rw [sw]
      simp (disch := omega) only [↓within0, ↓has0, ↓tapFull0, inB_iff, Int32.lt_iff_toInt_lt, ti_eq, Int32.reduceToInt, if_pos, if_neg, Option.bind_some, stI_at, stI_2at, Nat.reduceEqDiff, Nat.reduceBEq, false_and, and_false, true_and, and_self, and_true, ↓reduceIte]
/-- the image's number -/
theorem img_old {n : Nat} (hn : 4096 ≤ n) {X X2 : St} {v : Int32} (h : mo_image n X = some (v, X2)) : X2.1 102 30 = X.1 102 0 := by
  obtain ⟨Z, a1, a2, a3⟩ := img1 n (fun X3 => (mo_image_L53 n n (0 : Int32) X3)) n 0 0 (stI (stI X 102 29 1) 102 30 (X.1 102 0)) (by decide) (by omega) (by omega)
  obtain ⟨Z2, b1, b2, b3⟩ := img2 n n 0 0 Z (by decide) (by omega) (by omega)
  have e : mo_image n X = some (Z2.1 123 0, Z2) := by
    unfold mo_image
    rw [Option.bind_some]
    exact a1.trans b1
  rw [e] at h
  injection h with h
  injection h with h1 h2
  rw [← h2, b3, if_neg (by omega), a3, if_neg (by omega), if_neg (by omega), stI_self]
