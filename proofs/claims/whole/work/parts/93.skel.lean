/-! the law's loop out of one lemma a call -/
def OWW (Inv : St → Prop) (f g : St → Option (Int32 × St)) : Prop := ∀ X, Inv X → ∃ v X1 X2, f X = some (v, X1) ∧ g X1 = some (v, X2) ∧ Inv X2
def OWR (Inv : St → Prop) (f : St → Option (Int32 × St)) (g : St → Option Int32) : Prop := ∀ X, Inv X → ∃ v X1, f X = some (v, X1) ∧ g X1 = some v ∧ Inv X1
def ORW (Inv : St → Prop) (f : St → Option Int32) (g : St → Option (Int32 × St)) : Prop := ∀ X, Inv X → ∃ v X1, f X = some v ∧ g X = some (v, X1) ∧ Inv X1
def ORR {α : Type} (Inv : St → Prop) (f g : St → Option α) : Prop := ∀ X, Inv X → ∃ v, f X = some v ∧ g X = some v
def OTT (Inv : St → Prop) (f g : St → Int32) : Prop := ∀ X, Inv X → f X = g X
theorem lg_cmp_self (v : Int64) : lg_cmp v v = 0 := by
  unfold lg_cmp
  simp
set_option maxHeartbeats 4000000 in
theorem law_B (n : Nat) (xs : Nat → Int32) (L : Nat) (Inv : St → Prop) (op0 : ∀ (a0 : Int32) (a1 : Int32), OWW Inv (el_swimmer a0 a1) (mo_swimmer a0 a1)) (op1 : ∀ (a0 : Int32) (a1 : Int32) (a2 : Int32), OWW Inv (el_swimmers n a0 a1 a2) (mo_swimmers n a0 a1 a2)) (op2 : ∀ (a0 : Int32) (a1 : Int32) (a2 : Int32), OWW Inv (el_mend n a0 a1 a2) (mo_mend n a0 a1 a2)) (op3 : ∀ (a0 : Int32) (a1 : Int32), ORR Inv (el_of a0 a1) (mo_of a0 a1)) (op4 : ∀ (a0 : Int32), OWW Inv (el_feed a0) (mo_feed a0)) (op5 : OWW Inv (el_law n) (mo_law n)) (op6 : ∀ (a0 : Int32) (a1 : Int32) (a2 : Int32), OWW Inv (el_loses n a0 a1 a2) (mo_loses n a0 a1 a2)) (op7 : ∀ (a0 : Int32) (a1 : Int32), OWW Inv (el_routine n a0 a1) (mo_routine n a0 a1)) (op8 : ∀ (a0 : Int32) (a1 : Int32) (a2 : Int32), OWW Inv (el_off n a0 a1 a2) (mo_off n a0 a1 a2)) (op9 : ∀ (a0 : Int32) (a1 : Int32) (a2 : Int32), OWW Inv (el_apart n a0 a1 a2) (mo_apart n a0 a1 a2)) (op10 : ∀ (a0 : Int32) (a1 : Int32), OWW Inv (el_gone n a0 a1) (mo_gone n a0 a1)) (op11 : ∀ (a0 : Int32) (a1 : Int32), OWW Inv (el_least n a0 a1) (mo_least n a0 a1)) (op12 : ∀ (a0 : Int32) (a1 : Int32), OWW Inv (el_gasps n a0 a1) (mo_gasps n a0 a1)) (op13 : ∀ (a0 : Int32) (a1 : Int32), OWW Inv (el_looks n a0 a1) (mo_looks n a0 a1)) (op14 : ∀ (a0 : Int32) (a1 : Int32), OWW Inv (el_whose n a0 a1) (mo_whose n a0 a1)) (op15 : ∀ (a0 : Int32) (a1 : Int32), OWW Inv (el_first n a0 a1) (mo_first n a0 a1)) (op16 : ∀ (a0 : Int32) (a1 : Int32) (a2 : Int32), OWW Inv (el_slip n a0 a1 a2) (mo_slip n a0 a1 a2)) (op17 : ∀ (a0 : Int32) (a1 : Int32), OWW Inv (el_line n a0 a1) (mo_line n a0 a1)) (op18 : ∀ (a0 : Int32), ORR Inv (el_lift n a0) (mo_lift n a0)) (op19 : ∀ (a0 : Int32), ORR Inv (el_star n a0) (mo_star n a0)) (op20 : ∀ (a0 : Int32), OWW Inv (el_judge n a0) (mo_judge n a0)) (op21 : ∀ (a0 : Int32), OWW Inv (el_whoLed n a0) (mo_whoLed n a0)) (op22 : ∀ (a0 : Int32) (a1 : Int32), OWW Inv (el_later n a0 a1) (mo_later n a0 a1)) (op23 : ∀ (a0 : Int32) (a1 : Int32), OWW Inv (el_quicker n a0 a1) (mo_quicker n a0 a1)) (op24 : ∀ (a0 : Int32) (a1 : Int32) (a2 : Int32) (a3 : Int32), OWW Inv (el_drawn n a0 a1 a2 a3) (mo_drawn n a0 a1 a2 a3)) (op25 : ∀ (a0 : Int32), OWW Inv (el_swim n a0) (mo_swim n a0)) (op26 : ∀ (a0 : Int32), ORR Inv (el_led a0) (mo_led a0)) (op27 : OWW Inv (el_image) (mo_image n)) (op28 : OWW Inv (el_back) (mo_back n)) (op29 : OWW Inv (el_undo) (mo_undo)) (op30 : OWW Inv (el_redo) (mo_redo)) (op31 : ∀ (a0 : Int32), OWW Inv (el_body a0) (mo_body a0)) (op32 : ∀ (a0 : Int32) (a1 : Int32) (a2 : Int32), OWW Inv (el_act a0 a1 a2) (mo_act a0 a1 a2)) (op33 : ∀ (a0 : Int32), ORR Inv (el_trace a0) (mo_trace a0)) (op34 : ∀ (a0 : Int32) (a1 : Int32), OWW Inv (el_keep a0 a1) (mo_keep a0 a1)) (op35 : ∀ (a0 : Int32) (a1 : Int32) (a2 : Int32), OWW Inv (el_row n a0 a1 a2) (mo_row n a0 a1 a2)) (op36 : ∀ (a0 : Int32) (a1 : Int32) (a2 : Int64), OWW Inv (el_put a0 a1 a2) (mo_put a0 a1 a2)) (op37 : ∀ (a0 : Int32) (a1 : Int32), ORR Inv (el_element a0 a1) (mo_element a0 a1)) (op38 : ∀ (a0 : Int32) (a1 : Int32) (a2 : Int32) (a3 : Int32) (a4 : Int32), OWW Inv (el_shift a0 a1 a2 a3 a4) (mo_shift n a0 a1 a2 a3 a4)) (op39 : ∀ (a0 : Int32) (a1 : Int32), ORR Inv (el_taken a0 a1) (mo_taken n a0 a1)) (op40 : ∀ (a0 : Int32), OTT Inv (el_count a0) (mo_count a0)) (rec : Int32 → St → Option Unit) (v3 : Int32) (X : St) (hX : Inv X) (hrec : ∀ Y, Inv Y → rec (v3 + (6 : Int32)) Y = some ()) (h0 : inB v3 L = true) (h1 : inB (v3 + (1 : Int32)) L = true) (h2 : inB (v3 + (2 : Int32)) L = true) (h3 : inB (v3 + (3 : Int32)) L = true) (h4 : inB (v3 + (4 : Int32)) L = true) (h5 : inB (v3 + (5 : Int32)) L = true) (h : ¬ ((Int32.ofNat L) - (6 : Int32)) < v3) : lawf_L18_B n xs L rec v3 X = some () := by
  unfold lawf_L18_B
  rw [if_neg h, if_pos h0]
  by_cases c0 : (xs (nx v3)) &&& (63 : Int32) = (0 : Int32)
  · rw [if_pos c0]
    simp only [h0, h1, h2, h3, h4, h5, ↓reduceIte]
    obtain ⟨v, X1, X2, e1, e2, hI⟩ := op0 (xs (nx (v3 + (1 : Int32)))) (xs (nx (v3 + (2 : Int32)))) X hX
    simp only [e1, e2, Option.bind_some, ↓reduceIte]
    exact hrec X2 hI
  rw [if_neg c0]
  by_cases c1 : (xs (nx v3)) &&& (63 : Int32) = (1 : Int32)
  · rw [if_pos c1]
    simp only [h0, h1, h2, h3, h4, h5, ↓reduceIte]
    obtain ⟨v, X1, X2, e1, e2, hI⟩ := op1 (xs (nx (v3 + (1 : Int32)))) (xs (nx (v3 + (2 : Int32)))) (xs (nx (v3 + (3 : Int32)))) X hX
    simp only [e1, e2, Option.bind_some, ↓reduceIte]
    exact hrec X2 hI
  rw [if_neg c1]
  by_cases c2 : (xs (nx v3)) &&& (63 : Int32) = (2 : Int32)
  · rw [if_pos c2]
    simp only [h0, h1, h2, h3, h4, h5, ↓reduceIte]
    obtain ⟨v, X1, X2, e1, e2, hI⟩ := op2 (xs (nx (v3 + (1 : Int32)))) (xs (nx (v3 + (2 : Int32)))) (xs (nx (v3 + (3 : Int32)))) X hX
    simp only [e1, e2, Option.bind_some, ↓reduceIte]
    exact hrec X2 hI
  rw [if_neg c2]
  by_cases c3 : (xs (nx v3)) &&& (63 : Int32) = (3 : Int32)
  · rw [if_pos c3]
    simp only [h0, h1, h2, h3, h4, h5, ↓reduceIte]
    obtain ⟨v, e1, e2⟩ := op3 (xs (nx (v3 + (1 : Int32)))) (xs (nx (v3 + (2 : Int32)))) X hX
    simp only [e1, e2, Option.bind_some, ↓reduceIte]
    exact hrec X hX
  rw [if_neg c3]
  by_cases c4 : (xs (nx v3)) &&& (63 : Int32) = (4 : Int32)
  · rw [if_pos c4]
    simp only [h0, h1, h2, h3, h4, h5, ↓reduceIte]
    obtain ⟨v, X1, X2, e1, e2, hI⟩ := op4 (xs (nx (v3 + (1 : Int32)))) X hX
    simp only [e1, e2, Option.bind_some, ↓reduceIte]
    exact hrec X2 hI
  rw [if_neg c4]
  by_cases c5 : (xs (nx v3)) &&& (63 : Int32) = (5 : Int32)
  · rw [if_pos c5]
    simp only [h0, h1, h2, h3, h4, h5, ↓reduceIte]
    obtain ⟨v, X1, X2, e1, e2, hI⟩ := op5 X hX
    simp only [e1, e2, Option.bind_some, ↓reduceIte]
    exact hrec X2 hI
  rw [if_neg c5]
  by_cases c6 : (xs (nx v3)) &&& (63 : Int32) = (6 : Int32)
  · rw [if_pos c6]
    simp only [h0, h1, h2, h3, h4, h5, ↓reduceIte]
    obtain ⟨v, X1, X2, e1, e2, hI⟩ := op6 (xs (nx (v3 + (1 : Int32)))) (xs (nx (v3 + (2 : Int32)))) (xs (nx (v3 + (3 : Int32)))) X hX
    simp only [e1, e2, Option.bind_some, ↓reduceIte]
    exact hrec X2 hI
  rw [if_neg c6]
  by_cases c7 : (xs (nx v3)) &&& (63 : Int32) = (7 : Int32)
  · rw [if_pos c7]
    simp only [h0, h1, h2, h3, h4, h5, ↓reduceIte]
    obtain ⟨v, X1, X2, e1, e2, hI⟩ := op7 (xs (nx (v3 + (1 : Int32)))) (xs (nx (v3 + (2 : Int32)))) X hX
    simp only [e1, e2, Option.bind_some, ↓reduceIte]
    exact hrec X2 hI
  rw [if_neg c7]
  by_cases c8 : (xs (nx v3)) &&& (63 : Int32) = (8 : Int32)
  · rw [if_pos c8]
    simp only [h0, h1, h2, h3, h4, h5, ↓reduceIte]
    obtain ⟨v, X1, X2, e1, e2, hI⟩ := op8 (xs (nx (v3 + (1 : Int32)))) (xs (nx (v3 + (2 : Int32)))) (xs (nx (v3 + (3 : Int32)))) X hX
    simp only [e1, e2, Option.bind_some, ↓reduceIte]
    exact hrec X2 hI
  rw [if_neg c8]
  by_cases c9 : (xs (nx v3)) &&& (63 : Int32) = (9 : Int32)
  · rw [if_pos c9]
    simp only [h0, h1, h2, h3, h4, h5, ↓reduceIte]
    obtain ⟨v, X1, X2, e1, e2, hI⟩ := op9 (xs (nx (v3 + (1 : Int32)))) (xs (nx (v3 + (2 : Int32)))) (xs (nx (v3 + (3 : Int32)))) X hX
    simp only [e1, e2, Option.bind_some, ↓reduceIte]
    exact hrec X2 hI
  rw [if_neg c9]
  by_cases c10 : (xs (nx v3)) &&& (63 : Int32) = (10 : Int32)
  · rw [if_pos c10]
    simp only [h0, h1, h2, h3, h4, h5, ↓reduceIte]
    obtain ⟨v, X1, X2, e1, e2, hI⟩ := op10 (xs (nx (v3 + (1 : Int32)))) (xs (nx (v3 + (2 : Int32)))) X hX
    simp only [e1, e2, Option.bind_some, ↓reduceIte]
    exact hrec X2 hI
  rw [if_neg c10]
  by_cases c11 : (xs (nx v3)) &&& (63 : Int32) = (11 : Int32)
  · rw [if_pos c11]
    simp only [h0, h1, h2, h3, h4, h5, ↓reduceIte]
    obtain ⟨v, X1, X2, e1, e2, hI⟩ := op11 (xs (nx (v3 + (1 : Int32)))) (xs (nx (v3 + (2 : Int32)))) X hX
    simp only [e1, e2, Option.bind_some, ↓reduceIte]
    exact hrec X2 hI
  rw [if_neg c11]
  by_cases c12 : (xs (nx v3)) &&& (63 : Int32) = (12 : Int32)
  · rw [if_pos c12]
    simp only [h0, h1, h2, h3, h4, h5, ↓reduceIte]
    obtain ⟨v, X1, X2, e1, e2, hI⟩ := op12 (xs (nx (v3 + (1 : Int32)))) (xs (nx (v3 + (2 : Int32)))) X hX
    simp only [e1, e2, Option.bind_some, ↓reduceIte]
    exact hrec X2 hI
  rw [if_neg c12]
  by_cases c13 : (xs (nx v3)) &&& (63 : Int32) = (13 : Int32)
  · rw [if_pos c13]
    simp only [h0, h1, h2, h3, h4, h5, ↓reduceIte]
    obtain ⟨v, X1, X2, e1, e2, hI⟩ := op13 (xs (nx (v3 + (1 : Int32)))) (xs (nx (v3 + (2 : Int32)))) X hX
    simp only [e1, e2, Option.bind_some, ↓reduceIte]
    exact hrec X2 hI
  rw [if_neg c13]
  by_cases c14 : (xs (nx v3)) &&& (63 : Int32) = (14 : Int32)
  · rw [if_pos c14]
    simp only [h0, h1, h2, h3, h4, h5, ↓reduceIte]
    obtain ⟨v, X1, X2, e1, e2, hI⟩ := op14 (xs (nx (v3 + (1 : Int32)))) (xs (nx (v3 + (2 : Int32)))) X hX
    simp only [e1, e2, Option.bind_some, ↓reduceIte]
    exact hrec X2 hI
  rw [if_neg c14]
  by_cases c15 : (xs (nx v3)) &&& (63 : Int32) = (15 : Int32)
  · rw [if_pos c15]
    simp only [h0, h1, h2, h3, h4, h5, ↓reduceIte]
    obtain ⟨v, X1, X2, e1, e2, hI⟩ := op15 (xs (nx (v3 + (1 : Int32)))) (xs (nx (v3 + (2 : Int32)))) X hX
    simp only [e1, e2, Option.bind_some, ↓reduceIte]
    exact hrec X2 hI
  rw [if_neg c15]
  by_cases c16 : (xs (nx v3)) &&& (63 : Int32) = (16 : Int32)
  · rw [if_pos c16]
    simp only [h0, h1, h2, h3, h4, h5, ↓reduceIte]
    obtain ⟨v, X1, X2, e1, e2, hI⟩ := op16 (xs (nx (v3 + (1 : Int32)))) (xs (nx (v3 + (2 : Int32)))) (xs (nx (v3 + (3 : Int32)))) X hX
    simp only [e1, e2, Option.bind_some, ↓reduceIte]
    exact hrec X2 hI
  rw [if_neg c16]
  by_cases c17 : (xs (nx v3)) &&& (63 : Int32) = (17 : Int32)
  · rw [if_pos c17]
    simp only [h0, h1, h2, h3, h4, h5, ↓reduceIte]
    obtain ⟨v, X1, X2, e1, e2, hI⟩ := op17 (xs (nx (v3 + (1 : Int32)))) (xs (nx (v3 + (2 : Int32)))) X hX
    simp only [e1, e2, Option.bind_some, ↓reduceIte]
    exact hrec X2 hI
  rw [if_neg c17]
  by_cases c18 : (xs (nx v3)) &&& (63 : Int32) = (18 : Int32)
  · rw [if_pos c18]
    simp only [h0, h1, h2, h3, h4, h5, ↓reduceIte]
    obtain ⟨v, e1, e2⟩ := op18 (xs (nx (v3 + (1 : Int32)))) X hX
    simp only [e1, e2, Option.bind_some, ↓reduceIte]
    exact hrec X hX
  rw [if_neg c18]
  by_cases c19 : (xs (nx v3)) &&& (63 : Int32) = (19 : Int32)
  · rw [if_pos c19]
    simp only [h0, h1, h2, h3, h4, h5, ↓reduceIte]
    obtain ⟨v, e1, e2⟩ := op19 (xs (nx (v3 + (1 : Int32)))) X hX
    simp only [e1, e2, Option.bind_some, ↓reduceIte]
    exact hrec X hX
  rw [if_neg c19]
  by_cases c20 : (xs (nx v3)) &&& (63 : Int32) = (20 : Int32)
  · rw [if_pos c20]
    simp only [h0, h1, h2, h3, h4, h5, ↓reduceIte]
    obtain ⟨v, X1, X2, e1, e2, hI⟩ := op20 (xs (nx (v3 + (1 : Int32)))) X hX
    simp only [e1, e2, Option.bind_some, ↓reduceIte]
    exact hrec X2 hI
  rw [if_neg c20]
  by_cases c21 : (xs (nx v3)) &&& (63 : Int32) = (21 : Int32)
  · rw [if_pos c21]
    simp only [h0, h1, h2, h3, h4, h5, ↓reduceIte]
    obtain ⟨v, X1, X2, e1, e2, hI⟩ := op21 (xs (nx (v3 + (1 : Int32)))) X hX
    simp only [e1, e2, Option.bind_some, ↓reduceIte]
    exact hrec X2 hI
  rw [if_neg c21]
  by_cases c22 : (xs (nx v3)) &&& (63 : Int32) = (22 : Int32)
  · rw [if_pos c22]
    simp only [h0, h1, h2, h3, h4, h5, ↓reduceIte]
    obtain ⟨v, X1, X2, e1, e2, hI⟩ := op22 (xs (nx (v3 + (1 : Int32)))) (xs (nx (v3 + (2 : Int32)))) X hX
    simp only [e1, e2, Option.bind_some, ↓reduceIte]
    exact hrec X2 hI
  rw [if_neg c22]
  by_cases c23 : (xs (nx v3)) &&& (63 : Int32) = (23 : Int32)
  · rw [if_pos c23]
    simp only [h0, h1, h2, h3, h4, h5, ↓reduceIte]
    obtain ⟨v, X1, X2, e1, e2, hI⟩ := op23 (xs (nx (v3 + (1 : Int32)))) (xs (nx (v3 + (2 : Int32)))) X hX
    simp only [e1, e2, Option.bind_some, ↓reduceIte]
    exact hrec X2 hI
  rw [if_neg c23]
  by_cases c24 : (xs (nx v3)) &&& (63 : Int32) = (24 : Int32)
  · rw [if_pos c24]
    simp only [h0, h1, h2, h3, h4, h5, ↓reduceIte]
    obtain ⟨v, X1, X2, e1, e2, hI⟩ := op24 (xs (nx (v3 + (1 : Int32)))) (xs (nx (v3 + (2 : Int32)))) (xs (nx (v3 + (3 : Int32)))) (xs (nx (v3 + (4 : Int32)))) X hX
    simp only [e1, e2, Option.bind_some, ↓reduceIte]
    exact hrec X2 hI
  rw [if_neg c24]
  by_cases c25 : (xs (nx v3)) &&& (63 : Int32) = (25 : Int32)
  · rw [if_pos c25]
    simp only [h0, h1, h2, h3, h4, h5, ↓reduceIte]
    obtain ⟨v, X1, X2, e1, e2, hI⟩ := op25 (xs (nx (v3 + (1 : Int32)))) X hX
    simp only [e1, e2, Option.bind_some, ↓reduceIte]
    exact hrec X2 hI
  rw [if_neg c25]
  by_cases c26 : (xs (nx v3)) &&& (63 : Int32) = (26 : Int32)
  · rw [if_pos c26]
    simp only [h0, h1, h2, h3, h4, h5, ↓reduceIte]
    obtain ⟨v, e1, e2⟩ := op26 (xs (nx (v3 + (1 : Int32)))) X hX
    simp only [e1, e2, Option.bind_some, ↓reduceIte]
    exact hrec X hX
  rw [if_neg c26]
  by_cases c27 : (xs (nx v3)) &&& (63 : Int32) = (27 : Int32)
  · rw [if_pos c27]
    simp only [h0, h1, h2, h3, h4, h5, ↓reduceIte]
    obtain ⟨v, X1, X2, e1, e2, hI⟩ := op27 X hX
    simp only [e1, e2, Option.bind_some, ↓reduceIte]
    exact hrec X2 hI
  rw [if_neg c27]
  by_cases c28 : (xs (nx v3)) &&& (63 : Int32) = (28 : Int32)
  · rw [if_pos c28]
    simp only [h0, h1, h2, h3, h4, h5, ↓reduceIte]
    obtain ⟨v, X1, X2, e1, e2, hI⟩ := op28 X hX
    simp only [e1, e2, Option.bind_some, ↓reduceIte]
    exact hrec X2 hI
  rw [if_neg c28]
  by_cases c29 : (xs (nx v3)) &&& (63 : Int32) = (29 : Int32)
  · rw [if_pos c29]
    simp only [h0, h1, h2, h3, h4, h5, ↓reduceIte]
    obtain ⟨v, X1, X2, e1, e2, hI⟩ := op29 X hX
    simp only [e1, e2, Option.bind_some, ↓reduceIte]
    exact hrec X2 hI
  rw [if_neg c29]
  by_cases c30 : (xs (nx v3)) &&& (63 : Int32) = (30 : Int32)
  · rw [if_pos c30]
    simp only [h0, h1, h2, h3, h4, h5, ↓reduceIte]
    obtain ⟨v, X1, X2, e1, e2, hI⟩ := op30 X hX
    simp only [e1, e2, Option.bind_some, ↓reduceIte]
    exact hrec X2 hI
  rw [if_neg c30]
  by_cases c31 : (xs (nx v3)) &&& (63 : Int32) = (31 : Int32)
  · rw [if_pos c31]
    simp only [h0, h1, h2, h3, h4, h5, ↓reduceIte]
    obtain ⟨v, X1, X2, e1, e2, hI⟩ := op31 (xs (nx (v3 + (1 : Int32)))) X hX
    simp only [e1, e2, Option.bind_some, ↓reduceIte]
    exact hrec X2 hI
  rw [if_neg c31]
  by_cases c32 : (xs (nx v3)) &&& (63 : Int32) = (32 : Int32)
  · rw [if_pos c32]
    simp only [h0, h1, h2, h3, h4, h5, ↓reduceIte]
    obtain ⟨v, X1, X2, e1, e2, hI⟩ := op32 (xs (nx (v3 + (1 : Int32)))) (xs (nx (v3 + (2 : Int32)))) (xs (nx (v3 + (3 : Int32)))) X hX
    simp only [e1, e2, Option.bind_some, ↓reduceIte]
    exact hrec X2 hI
  rw [if_neg c32]
  by_cases c33 : (xs (nx v3)) &&& (63 : Int32) = (33 : Int32)
  · rw [if_pos c33]
    simp only [h0, h1, h2, h3, h4, h5, ↓reduceIte]
    obtain ⟨v, e1, e2⟩ := op33 (xs (nx (v3 + (1 : Int32)))) X hX
    simp only [e1, e2, Option.bind_some, ↓reduceIte]
    exact hrec X hX
  rw [if_neg c33]
  by_cases c34 : (xs (nx v3)) &&& (63 : Int32) = (34 : Int32)
  · rw [if_pos c34]
    simp only [h0, h1, h2, h3, h4, h5, ↓reduceIte]
    obtain ⟨v, X1, X2, e1, e2, hI⟩ := op34 (xs (nx (v3 + (1 : Int32)))) (xs (nx (v3 + (2 : Int32)))) X hX
    simp only [e1, e2, Option.bind_some, ↓reduceIte]
    exact hrec X2 hI
  rw [if_neg c34]
  by_cases c35 : (xs (nx v3)) &&& (63 : Int32) = (35 : Int32)
  · rw [if_pos c35]
    simp only [h0, h1, h2, h3, h4, h5, ↓reduceIte]
    obtain ⟨v, X1, X2, e1, e2, hI⟩ := op35 (xs (nx (v3 + (1 : Int32)))) (xs (nx (v3 + (2 : Int32)))) (xs (nx (v3 + (3 : Int32)))) X hX
    simp only [e1, e2, Option.bind_some, ↓reduceIte]
    exact hrec X2 hI
  rw [if_neg c35]
  by_cases c36 : (xs (nx v3)) &&& (63 : Int32) = (36 : Int32)
  · rw [if_pos c36]
    simp only [h0, h1, h2, h3, h4, h5, ↓reduceIte]
    obtain ⟨v, X1, X2, e1, e2, hI⟩ := op36 (xs (nx (v3 + (1 : Int32)))) (xs (nx (v3 + (2 : Int32)))) ((jls ((xs (nx (v3 + (3 : Int32)))).toInt64) (32 : Int32)) ||| (((xs (nx (v3 + (4 : Int32)))).toInt64) &&& (4294967295 : Int64))) X hX
    simp only [e1, e2, Option.bind_some, ↓reduceIte]
    exact hrec X2 hI
  rw [if_neg c36]
  by_cases c37 : (xs (nx v3)) &&& (63 : Int32) = (37 : Int32)
  · rw [if_pos c37]
    simp only [h0, h1, h2, h3, h4, h5, ↓reduceIte]
    obtain ⟨v, e1, e2⟩ := op37 (xs (nx (v3 + (1 : Int32)))) (xs (nx (v3 + (2 : Int32)))) X hX
    simp only [e1, e2, Option.bind_some, ↓reduceIte]
    rw [if_pos (lg_cmp_self v)]
    exact hrec X hX
  rw [if_neg c37]
  by_cases c38 : (xs (nx v3)) &&& (63 : Int32) = (38 : Int32)
  · rw [if_pos c38]
    simp only [h0, h1, h2, h3, h4, h5, ↓reduceIte]
    obtain ⟨v, X1, X2, e1, e2, hI⟩ := op38 (xs (nx (v3 + (1 : Int32)))) (xs (nx (v3 + (2 : Int32)))) (xs (nx (v3 + (3 : Int32)))) (xs (nx (v3 + (4 : Int32)))) (xs (nx (v3 + (5 : Int32)))) X hX
    simp only [e1, e2, Option.bind_some, ↓reduceIte]
    exact hrec X2 hI
  rw [if_neg c38]
  by_cases c39 : (xs (nx v3)) &&& (63 : Int32) = (39 : Int32)
  · rw [if_pos c39]
    simp only [h0, h1, h2, h3, h4, h5, ↓reduceIte]
    obtain ⟨v, e1, e2⟩ := op39 (xs (nx (v3 + (1 : Int32)))) (xs (nx (v3 + (2 : Int32)))) X hX
    simp only [e1, e2, Option.bind_some, ↓reduceIte]
    exact hrec X hX
  rw [if_neg c39]
  by_cases c40 : (xs (nx v3)) &&& (63 : Int32) = (40 : Int32)
  · rw [if_pos c40]
    simp only [h0, h1, h2, h3, h4, h5, ↓reduceIte]
    rw [op40 _ X hX]
    simp only [↓reduceIte]
    exact hrec X hX
  rw [if_neg c40]
  exact hrec X hX

theorem ofN_lt {a b : Nat} (ha : a < 2147483648) (hb : b < 2147483648) : Int32.ofNat a < Int32.ofNat b ↔ a < b := by
  rw [Int32.lt_iff_toInt_lt, Int32.toInt_ofNat_of_lt ha, Int32.toInt_ofNat_of_lt hb]
  omega
theorem ofN_inB {a L : Nat} (ha : a < L) (hL : L < 2147483648) : inB (Int32.ofNat a) L = true := by
  have h1 : ¬ Int32.ofNat a < 0 := by
    rw [Int32.lt_iff_toInt_lt, Int32.toInt_ofNat_of_lt (by omega), Int32.toInt_zero]
    omega
  have h2 : (Int32.ofNat a).toNatClampNeg = a := Int32.toNatClampNeg_ofNat_of_lt (by omega)
  simp [inB, h1, h2]
  omega
theorem law_run (n : Nat) (xs : Nat → Int32) (L : Nat) (hL : L ≤ 3072) (Inv : St → Prop) (op0 : ∀ (a0 : Int32) (a1 : Int32), OWW Inv (el_swimmer a0 a1) (mo_swimmer a0 a1)) (op1 : ∀ (a0 : Int32) (a1 : Int32) (a2 : Int32), OWW Inv (el_swimmers n a0 a1 a2) (mo_swimmers n a0 a1 a2)) (op2 : ∀ (a0 : Int32) (a1 : Int32) (a2 : Int32), OWW Inv (el_mend n a0 a1 a2) (mo_mend n a0 a1 a2)) (op3 : ∀ (a0 : Int32) (a1 : Int32), ORR Inv (el_of a0 a1) (mo_of a0 a1)) (op4 : ∀ (a0 : Int32), OWW Inv (el_feed a0) (mo_feed a0)) (op5 : OWW Inv (el_law n) (mo_law n)) (op6 : ∀ (a0 : Int32) (a1 : Int32) (a2 : Int32), OWW Inv (el_loses n a0 a1 a2) (mo_loses n a0 a1 a2)) (op7 : ∀ (a0 : Int32) (a1 : Int32), OWW Inv (el_routine n a0 a1) (mo_routine n a0 a1)) (op8 : ∀ (a0 : Int32) (a1 : Int32) (a2 : Int32), OWW Inv (el_off n a0 a1 a2) (mo_off n a0 a1 a2)) (op9 : ∀ (a0 : Int32) (a1 : Int32) (a2 : Int32), OWW Inv (el_apart n a0 a1 a2) (mo_apart n a0 a1 a2)) (op10 : ∀ (a0 : Int32) (a1 : Int32), OWW Inv (el_gone n a0 a1) (mo_gone n a0 a1)) (op11 : ∀ (a0 : Int32) (a1 : Int32), OWW Inv (el_least n a0 a1) (mo_least n a0 a1)) (op12 : ∀ (a0 : Int32) (a1 : Int32), OWW Inv (el_gasps n a0 a1) (mo_gasps n a0 a1)) (op13 : ∀ (a0 : Int32) (a1 : Int32), OWW Inv (el_looks n a0 a1) (mo_looks n a0 a1)) (op14 : ∀ (a0 : Int32) (a1 : Int32), OWW Inv (el_whose n a0 a1) (mo_whose n a0 a1)) (op15 : ∀ (a0 : Int32) (a1 : Int32), OWW Inv (el_first n a0 a1) (mo_first n a0 a1)) (op16 : ∀ (a0 : Int32) (a1 : Int32) (a2 : Int32), OWW Inv (el_slip n a0 a1 a2) (mo_slip n a0 a1 a2)) (op17 : ∀ (a0 : Int32) (a1 : Int32), OWW Inv (el_line n a0 a1) (mo_line n a0 a1)) (op18 : ∀ (a0 : Int32), ORR Inv (el_lift n a0) (mo_lift n a0)) (op19 : ∀ (a0 : Int32), ORR Inv (el_star n a0) (mo_star n a0)) (op20 : ∀ (a0 : Int32), OWW Inv (el_judge n a0) (mo_judge n a0)) (op21 : ∀ (a0 : Int32), OWW Inv (el_whoLed n a0) (mo_whoLed n a0)) (op22 : ∀ (a0 : Int32) (a1 : Int32), OWW Inv (el_later n a0 a1) (mo_later n a0 a1)) (op23 : ∀ (a0 : Int32) (a1 : Int32), OWW Inv (el_quicker n a0 a1) (mo_quicker n a0 a1)) (op24 : ∀ (a0 : Int32) (a1 : Int32) (a2 : Int32) (a3 : Int32), OWW Inv (el_drawn n a0 a1 a2 a3) (mo_drawn n a0 a1 a2 a3)) (op25 : ∀ (a0 : Int32), OWW Inv (el_swim n a0) (mo_swim n a0)) (op26 : ∀ (a0 : Int32), ORR Inv (el_led a0) (mo_led a0)) (op27 : OWW Inv (el_image) (mo_image n)) (op28 : OWW Inv (el_back) (mo_back n)) (op29 : OWW Inv (el_undo) (mo_undo)) (op30 : OWW Inv (el_redo) (mo_redo)) (op31 : ∀ (a0 : Int32), OWW Inv (el_body a0) (mo_body a0)) (op32 : ∀ (a0 : Int32) (a1 : Int32) (a2 : Int32), OWW Inv (el_act a0 a1 a2) (mo_act a0 a1 a2)) (op33 : ∀ (a0 : Int32), ORR Inv (el_trace a0) (mo_trace a0)) (op34 : ∀ (a0 : Int32) (a1 : Int32), OWW Inv (el_keep a0 a1) (mo_keep a0 a1)) (op35 : ∀ (a0 : Int32) (a1 : Int32) (a2 : Int32), OWW Inv (el_row n a0 a1 a2) (mo_row n a0 a1 a2)) (op36 : ∀ (a0 : Int32) (a1 : Int32) (a2 : Int64), OWW Inv (el_put a0 a1 a2) (mo_put a0 a1 a2)) (op37 : ∀ (a0 : Int32) (a1 : Int32), ORR Inv (el_element a0 a1) (mo_element a0 a1)) (op38 : ∀ (a0 : Int32) (a1 : Int32) (a2 : Int32) (a3 : Int32) (a4 : Int32), OWW Inv (el_shift a0 a1 a2 a3 a4) (mo_shift n a0 a1 a2 a3 a4)) (op39 : ∀ (a0 : Int32) (a1 : Int32), ORR Inv (el_taken a0 a1) (mo_taken n a0 a1)) (op40 : ∀ (a0 : Int32), OTT Inv (el_count a0) (mo_count a0)) : ∀ (w j : Nat) (X : St), Inv X → 6 * j ≤ L + 5 → L + 6 ≤ 6 * j + 6 * w → lawf_L18 n xs L w (Int32.ofNat (6 * j)) X = some () := by
  intro w
  induction w with
  | zero => intro j X _ h1 h2; omega
  | succ w ih =>
    intro j X hX h1 h2
    show lawf_L18_B n xs L (lawf_L18 n xs L w) (Int32.ofNat (6 * j)) X = some ()
    have hsub : ((Int32.ofNat L) - (6 : Int32)).toInt = (L : Int) - 6 := by
      have e1 : (Int32.ofNat L).toInt = L := Int32.toInt_ofNat_of_lt (by omega)
      have e2 : (6 : Int32).toInt = 6 := by decide
      rw [Int32.toInt_sub, e1, e2, Int.bmod_eq_of_le] <;> omega
    have h6 : (Int32.ofNat (6 * j)).toInt = ((6 * j : Nat) : Int) := Int32.toInt_ofNat_of_lt (by omega)
    by_cases hc : ((Int32.ofNat L) - (6 : Int32)) < Int32.ofNat (6 * j)
    · unfold lawf_L18_B
      rw [if_pos hc]
    · have hc2 := hc
      rw [Int32.lt_iff_toInt_lt, hsub, h6] at hc2
      have hle : 6 * j + 6 ≤ L := by omega
      have hd : ∀ d, d ≤ 5 → inB (Int32.ofNat (6 * j + d)) L = true := fun d hd => ofN_inB (by omega) (by omega)
      have ha : ∀ d, Int32.ofNat (6 * j) + Int32.ofNat d = Int32.ofNat (6 * j + d) := fun d => (Int32.ofNat_add _ _).symm
      refine law_B n xs L Inv op0 op1 op2 op3 op4 op5 op6 op7 op8 op9 op10 op11 op12 op13 op14 op15 op16 op17 op18 op19 op20 op21 op22 op23 op24 op25 op26 op27 op28 op29 op30 op31 op32 op33 op34 op35 op36 op37 op38 op39 op40 (lawf_L18 n xs L w) (Int32.ofNat (6 * j)) X hX (fun X' hX' => ?_) (hd 0 (by omega)) ?_ ?_ ?_ ?_ ?_ hc
      · have e := ih (j + 1) X' hX' (by omega) (by omega)
        rw [show 6 * (j + 1) = 6 * j + 6 by omega, ← ha 6] at e
        exact e
      · have e := hd 1 (by omega); rw [← ha 1] at e; exact e
      · have e := hd 2 (by omega); rw [← ha 2] at e; exact e
      · have e := hd 3 (by omega); rw [← ha 3] at e; exact e
      · have e := hd 4 (by omega); rw [← ha 4] at e; exact e
      · have e := hd 5 (by omega); rw [← ha 5] at e; exact e
