/-! what the functions of the class that write no long leave of the longs -/
def fq (_ : List (Nat × Nat)) (_ : List (Nat × Nat)) (X Y : St) : Prop := Y.2 = X.2
theorem fq_rf {R F : List (Nat × Nat)} {X : St} : fq R F X X := rfl
theorem fq_I {R F : List (Nat × Nat)} {X Y : St} {o i : Nat} {v : Int32} (h : fq R F X Y) (_ : wr R F o i) : fq R F X (stI Y o i v) := h
theorem fq_cI {R F : List (Nat × Nat)} {X Y : St} {o sp w dp n : Nat} (h : fq R F X Y) (_ : ∀ i, wr R F w i) : fq R F X (cpI Y o sp w dp n) := h
theorem qo_cI {ρ α : Type} {P : ρ → Prop} {R F R' F' : List (Nat × Nat)} {X0 X : St} {T : Option (α × St)} {K : α × St → Option ρ} (hX : fq R F X0 X) (h1 : PO (fun r => fq R' F' X r.2) T) (_ : ∀ p ∈ R', ∃ p' ∈ R, p'.1 ≤ p.1 ∧ p.2 ≤ p'.2) (_ : ∀ p ∈ F', p ∈ F) (h2 : ∀ v Y, fq R F X0 Y → PO P (K (v, Y))) : PO P (T.bind K) :=
  po_bindw h1 (fun v hv => h2 v.1 v.2 (Eq.trans hv hX))
theorem qo_cV {ρ : Type} {P : ρ → Prop} {R F R' F' : List (Nat × Nat)} {X0 X : St} {T : Option St} {K : St → Option ρ} (hX : fq R F X0 X) (h1 : PO (fun r => fq R' F' X r) T) (_ : ∀ p ∈ R', ∃ p' ∈ R, p'.1 ≤ p.1 ∧ p.2 ≤ p'.2) (_ : ∀ p ∈ F', p ∈ F) (h2 : ∀ Y, fq R F X0 Y → PO P (K Y)) : PO P (T.bind K) :=
  po_bindw h1 (fun v hv => h2 v (Eq.trans hv hX))
theorem qo_nmX {ρ : Type} {P : ρ → Prop} {R F : List (Nat × Nat)} {X0 A : St} {K : St → Option ρ} (hX : fq R F X0 A) (h : ∀ Y, fq R F X0 Y → PO P (K Y)) : PO P ((some A).bind K) := h A hX
theorem fq_chg_forgetOldest_L2_B (n : Nat) (X0 : St) (rec : Int32 → St → Option (St)) (hrec : ∀ (x0 : Int32) X, fq wR_chg_forgetOldest wF_chg_forgetOldest X0 X → PO (fun r => fq wR_chg_forgetOldest wF_chg_forgetOldest X0 r) (rec x0 X)) (v1 : Int32) (X : St) (hX : fq wR_chg_forgetOldest wF_chg_forgetOldest X0 X) : PO (fun r => fq wR_chg_forgetOldest wF_chg_forgetOldest X0 r) (chg_forgetOldest_L2_B n rec v1 X) := by
  unfold chg_forgetOldest_L2_B
  refine po_ite (fun hb1 => ?_) (fun _ => ?_)
  · refine po_ite (fun hb2 => ?_) (fun _ => po_none)
    refine po_ite (fun hb3 => ?_) (fun _ => po_none)
    refine po_ite (fun hb4 => ?_) (fun _ => po_none)
    refine po_ite (fun hb5 => ?_) (fun _ => po_none)
    refine qo_nmX (fq_I (fq_I hX (wr_o (by decide))) (wr_o (by decide))) (fun X1 hX1 => ?_)
    refine po_ite (fun hb6 => ?_) (fun _ => po_none)
    refine po_ite (fun hb7 => ?_) (fun _ => po_none)
    refine po_ite (fun hb8 => ?_) (fun _ => po_none)
    refine po_ite (fun hb9 => ?_) (fun _ => po_none)
    refine qo_nmX (fq_I (fq_I hX1 (wr_o (by decide))) (wr_o (by decide))) (fun X2 hX2 => ?_)
    exact hrec (v1 + (1 : Int32)) X2 hX2
  exact po_some (fq_I hX (wr_f (by decide)))
theorem fq_chg_forgetOldest_L2 (n : Nat) (X0 : St) : ∀ (w : Nat) (v1 : Int32) (X : St), fq wR_chg_forgetOldest wF_chg_forgetOldest X0 X → PO (fun r => fq wR_chg_forgetOldest wF_chg_forgetOldest X0 r) (chg_forgetOldest_L2 n w v1 X) := by
  intro w
  induction w with
  | zero => intro v1 X _; exact po_none
  | succ w ih => intro v1 X hX; exact fq_chg_forgetOldest_L2_B n X0 _ ih v1 X hX
theorem fq_chg_forgetOldest (n : Nat) (X0 : St) : PO (fun r => fq wR_chg_forgetOldest wF_chg_forgetOldest X0 r) (chg_forgetOldest n X0) := by
  have hX0 : fq wR_chg_forgetOldest wF_chg_forgetOldest X0 X0 := fq_rf
  unfold chg_forgetOldest
  refine fq_chg_forgetOldest_L2 n X0 n (1 : Int32) X0 hX0
theorem fq_poo_tell (v1 : Int32) (v2 : Int32) (v3 : Int32) (X0 : St) : PO (fun r => fq wR_poo_tell wF_poo_tell X0 r) (poo_tell v1 v2 v3 X0) := by
  have hX0 : fq wR_poo_tell wF_poo_tell X0 X0 := fq_rf
  unfold poo_tell
  refine po_ite (fun hb1 => ?_) (fun _ => ?_)
  · exact po_some hX0
  refine po_ite (fun hb2 => ?_) (fun _ => po_none)
  refine po_ite (fun hb3 => ?_) (fun _ => po_none)
  exact po_some (fq_I hX0 (wr_d 3 11 (by decide) (by decide) (by decide) hb2))
theorem fq_chg_tell_J31 (n : Nat) (X0 : St) (v1 : Int32) (v2 : Int32) (v3 : Int32) (v4 : Int32) (X : St) (hX : fq wR_chg_tell wF_chg_tell X0 X) : PO (fun r => fq wR_chg_tell wF_chg_tell X0 r) (chg_tell_J31 n v1 v2 v3 v4 X) := by
  unfold chg_tell_J31
  refine po_ite (fun hb1 => ?_) (fun _ => po_none)
  refine po_ite (fun hb2 => ?_) (fun _ => po_none)
  refine qo_nmX (fq_I (fq_I hX (wr_o (by decide))) (wr_o (by decide))) (fun X3 hX3 => ?_)
  refine po_ite (fun hb3 => ?_) (fun _ => po_none)
  refine po_ite (fun hb4 => ?_) (fun _ => po_none)
  refine qo_nmX (fq_I (fq_I hX3 (wr_o (by decide))) (wr_o (by decide))) (fun X4 hX4 => ?_)
  refine qo_nmX (fq_I (fq_I hX4 (wr_f (by decide))) (wr_f (by decide))) (fun X5 hX5 => ?_)
  refine qo_cV hX5 (fq_poo_tell v1 v2 v3 X5) (by decide) (by decide) (fun X6 hX6 => ?_)
  exact po_some hX6
theorem fq_chg_tell (n : Nat) (v1 : Int32) (v2 : Int32) (v3 : Int32) (X0 : St) : PO (fun r => fq wR_chg_tell wF_chg_tell X0 r) (chg_tell n v1 v2 v3 X0) := by
  have hX0 : fq wR_chg_tell wF_chg_tell X0 X0 := fq_rf
  unfold chg_tell
  refine po_bnd (fun c1 => ?_)
  refine po_ite (fun hb1 => ?_) (fun _ => ?_)
  · exact po_some hX0
  refine po_ite (fun hb2 => ?_) (fun _ => ?_)
  · refine qo_cV hX0 (fq_chg_forgetOldest n X0) (by decide) (by decide) (fun X2 hX2 => ?_)
    refine fq_chg_tell_J31 n X0 v1 v2 v3 c1 X2 hX2
  refine fq_chg_tell_J31 n X0 v1 v2 v3 c1 X0 hX0
theorem fq_chg_takeBack (X0 : St) : PO (fun r => fq wR_chg_takeBack wF_chg_takeBack X0 r.2) (chg_takeBack X0) := by
  have hX0 : fq wR_chg_takeBack wF_chg_takeBack X0 X0 := fq_rf
  unfold chg_takeBack
  refine po_ite (fun hb1 => ?_) (fun _ => ?_)
  · refine po_ite (fun hb2 => ?_) (fun _ => po_none)
    refine po_ite (fun hb3 => ?_) (fun _ => po_none)
    refine po_ite (fun hb4 => ?_) (fun _ => po_none)
    refine qo_cV (fq_I hX0 (wr_f (by decide))) (fq_poo_tell ((stI X0 12 5 ((X0.1 12 5) - (1 : Int32))).1 13 (nx ((stI X0 12 5 ((X0.1 12 5) - (1 : Int32))).1 12 5))) ((stI X0 12 5 ((X0.1 12 5) - (1 : Int32))).1 14 (nx ((stI X0 12 5 ((X0.1 12 5) - (1 : Int32))).1 12 5))) ((stI X0 12 5 ((X0.1 12 5) - (1 : Int32))).1 15 (nx ((stI X0 12 5 ((X0.1 12 5) - (1 : Int32))).1 12 5))) (stI X0 12 5 ((X0.1 12 5) - (1 : Int32)))) (by decide) (by decide) (fun X1 hX1 => ?_)
    exact po_some hX1
  exact po_some hX0
theorem fq_chg_doAgain (X0 : St) : PO (fun r => fq wR_chg_doAgain wF_chg_doAgain X0 r.2) (chg_doAgain X0) := by
  have hX0 : fq wR_chg_doAgain wF_chg_doAgain X0 X0 := fq_rf
  unfold chg_doAgain
  refine po_ite (fun hb1 => ?_) (fun _ => ?_)
  · refine po_ite (fun hb2 => ?_) (fun _ => po_none)
    refine po_ite (fun hb3 => ?_) (fun _ => po_none)
    refine po_ite (fun hb4 => ?_) (fun _ => po_none)
    refine qo_cV hX0 (fq_poo_tell (X0.1 13 (nx (X0.1 12 5))) (X0.1 14 (nx (X0.1 12 5))) (X0.1 16 (nx (X0.1 12 5))) X0) (by decide) (by decide) (fun X1 hX1 => ?_)
    exact po_some (fq_I hX1 (wr_f (by decide)))
  exact po_some hX0
theorem fq_ded_tire (v1 : Int32) (v2 : Int32) (X0 : St) : PO (fun r => fq wR_ded_tire wF_ded_tire X0 r) (ded_tire v1 v2 X0) := by
  have hX0 : fq wR_ded_tire wF_ded_tire X0 X0 := fq_rf
  unfold ded_tire
  refine po_ite (fun hb1 => ?_) (fun _ => po_none)
  refine po_ite (fun hb2 => ?_) (fun _ => po_none)
  refine po_ite (fun hb3 => ?_) (fun _ => po_none)
  refine po_ite (fun hb4 => ?_) (fun _ => ?_)
  · exact po_some (fq_I hX0 (wr_o (by decide)))
  refine po_ite (fun hb5 => ?_) (fun _ => po_none)
  refine qo_nmX (fq_I (fq_I hX0 (wr_o (by decide))) (wr_o (by decide))) (fun X1 hX1 => ?_)
  refine qo_nmX (fq_I hX1 (wr_o (by decide))) (fun X2 hX2 => ?_)
  exact po_some hX2
theorem fq_ded_swum_L9_B (n : Nat) (X0 : St) (k65 : Int32 → St → Option (St)) (hk65 : ∀ (x0 : Int32) X, fq wR_ded_swum wF_ded_swum X0 X → PO (fun r => fq wR_ded_swum wF_ded_swum X0 r) (k65 x0 X)) (rec : Int32 → Int32 → Int32 → Int32 → Int32 → St → Option (St)) (hrec : ∀ (x0 : Int32) (x1 : Int32) (x2 : Int32) (x3 : Int32) (x4 : Int32) X, fq wR_ded_swum wF_ded_swum X0 X → PO (fun r => fq wR_ded_swum wF_ded_swum X0 r) (rec x0 x1 x2 x3 x4 X)) (v1 : Int32) (v3 : Int32) (v4 : Int32) (v5 : Int32) (v6 : Int32) (X : St) (hX : fq wR_ded_swum wF_ded_swum X0 X) : PO (fun r => fq wR_ded_swum wF_ded_swum X0 r) (ded_swum_L9_B n k65 rec v1 v3 v4 v5 v6 X) := by
  unfold ded_swum_L9_B
  refine po_ite (fun hb1 => ?_) (fun _ => ?_)
  · refine qo_cV hX (fq_ded_tire v6 v5 X) (by decide) (by decide) (fun X2 hX2 => ?_)
    refine po_ite (fun hb2 => ?_) (fun _ => ?_)
    · exact hrec v1 v3 v4 v5 (v6 + (1 : Int32)) X2 hX2
    refine po_ite (fun hb3 => ?_) (fun _ => po_none)
    refine po_ite (fun hb4 => ?_) (fun _ => po_none)
    refine qo_nmX (fq_I (fq_I hX2 (wr_o (by decide))) (wr_o (by decide))) (fun X3 hX3 => ?_)
    exact hrec v1 v3 v4 v5 (v6 + (1 : Int32)) X3 hX3
  exact hk65 v3 X hX
theorem fq_ded_swum_L9 (n : Nat) (X0 : St) (k65 : Int32 → St → Option (St)) (hk65 : ∀ (x0 : Int32) X, fq wR_ded_swum wF_ded_swum X0 X → PO (fun r => fq wR_ded_swum wF_ded_swum X0 r) (k65 x0 X)) : ∀ (w : Nat) (v1 : Int32) (v3 : Int32) (v4 : Int32) (v5 : Int32) (v6 : Int32) (X : St), fq wR_ded_swum wF_ded_swum X0 X → PO (fun r => fq wR_ded_swum wF_ded_swum X0 r) (ded_swum_L9 n k65 w v1 v3 v4 v5 v6 X) := by
  intro w
  induction w with
  | zero => intro v1 v3 v4 v5 v6 X _; exact po_none
  | succ w ih => intro v1 v3 v4 v5 v6 X hX; exact fq_ded_swum_L9_B n X0 k65 hk65 _ ih v1 v3 v4 v5 v6 X hX
theorem fq_ded_swum (n : Nat) (v1 : Int32) (v3 : Int32) (v4 : Int32) (X0 : St) : PO (fun r => fq wR_ded_swum wF_ded_swum X0 r) (ded_swum n v1 v3 v4 X0) := by
  have hX0 : fq wR_ded_swum wF_ded_swum X0 X0 := fq_rf
  unfold ded_swum
  refine po_bnd (fun c1 => ?_)
  refine fq_ded_swum_L9 n X0 _ (fun v5 X4 hX4 => ?_) n v1 v3 v4 c1 (0 : Int32) X0 hX0
  refine qo_nmX (fq_I hX4 (wr_o (by decide))) (fun X6 hX6 => ?_)
  refine qo_nmX (fq_I hX6 (wr_o (by decide))) (fun X7 hX7 => ?_)
  refine qo_nmX (fq_I hX7 (wr_o (by decide))) (fun X8 hX8 => ?_)
  exact po_some hX8
theorem fq_ded_keepImage (X0 : St) : PO (fun r => fq wR_ded_keepImage wF_ded_keepImage X0 r) (ded_keepImage X0) := by
  have hX0 : fq wR_ded_keepImage wF_ded_keepImage X0 X0 := fq_rf
  unfold ded_keepImage
  refine po_ite (fun hb1 => ?_) (fun _ => po_none)
  refine qo_nmX (fq_cI hX0 (fun _ => (wr_o (by decide)))) (fun X1 hX1 => ?_)
  refine po_ite (fun hb2 => ?_) (fun _ => po_none)
  refine qo_nmX (fq_cI hX1 (fun _ => (wr_o (by decide)))) (fun X2 hX2 => ?_)
  refine po_ite (fun hb3 => ?_) (fun _ => po_none)
  refine qo_nmX (fq_cI hX2 (fun _ => (wr_o (by decide)))) (fun X3 hX3 => ?_)
  exact po_some (fq_I hX3 (wr_f (by decide)))
theorem fq_ded_layBack (X0 : St) : PO (fun r => fq wR_ded_layBack wF_ded_layBack X0 r) (ded_layBack X0) := by
  have hX0 : fq wR_ded_layBack wF_ded_layBack X0 X0 := fq_rf
  unfold ded_layBack
  refine po_ite (fun hb1 => ?_) (fun _ => po_none)
  refine qo_nmX (fq_cI hX0 (fun _ => (wr_o (by decide)))) (fun X1 hX1 => ?_)
  refine po_ite (fun hb2 => ?_) (fun _ => po_none)
  refine qo_nmX (fq_cI hX1 (fun _ => (wr_o (by decide)))) (fun X2 hX2 => ?_)
  refine po_ite (fun hb3 => ?_) (fun _ => po_none)
  refine qo_nmX (fq_cI hX2 (fun _ => (wr_o (by decide)))) (fun X3 hX3 => ?_)
  exact po_some hX3
theorem fq_few_walk_J86 (n : Nat) (X0 : St) (k9 : Int32 → Int32 → Int32 → Int32 → Int32 → Int32 → St → Option (St)) (hk9 : ∀ (x0 : Int32) (x1 : Int32) (x2 : Int32) (x3 : Int32) (x4 : Int32) (x5 : Int32) X, fq wR_few_walk wF_few_walk X0 X → PO (fun r => fq wR_few_walk wF_few_walk X0 r) (k9 x0 x1 x2 x3 x4 x5 X)) (v2 : Int32) (v3 : Int32) (v4 : Int32) (v5 : Int32) (v6 : Int32) (v7 : Int32) (X : St) (hX : fq wR_few_walk wF_few_walk X0 X) : PO (fun r => fq wR_few_walk wF_few_walk X0 r) (few_walk_J86 n k9 v2 v3 v4 v5 v6 v7 X) := by
  unfold few_walk_J86
  refine po_bnd (fun c5 => ?_)
  refine po_bnd (fun c6 => ?_)
  exact hk9 v2 v3 v4 c6 v6 (v7 + (1 : Int32)) X hX
theorem fq_few_walk_L9_B (n : Nat) (X0 : St) (rec : Int32 → Int32 → Int32 → Int32 → Int32 → Int32 → St → Option (St)) (hrec : ∀ (x0 : Int32) (x1 : Int32) (x2 : Int32) (x3 : Int32) (x4 : Int32) (x5 : Int32) X, fq wR_few_walk wF_few_walk X0 X → PO (fun r => fq wR_few_walk wF_few_walk X0 r) (rec x0 x1 x2 x3 x4 x5 X)) (v2 : Int32) (v3 : Int32) (v4 : Int32) (v5 : Int32) (v6 : Int32) (v7 : Int32) (X : St) (hX : fq wR_few_walk wF_few_walk X0 X) : PO (fun r => fq wR_few_walk wF_few_walk X0 r) (few_walk_L9_B n rec v2 v3 v4 v5 v6 v7 X) := by
  unfold few_walk_L9_B
  refine po_ite (fun hb1 => ?_) (fun _ => ?_)
  · refine po_ite (fun hb2 => ?_) (fun _ => ?_)
    · refine po_bnd (fun c1 => ?_)
      refine po_bnd (fun c2 => ?_)
      refine po_ite (fun hb3 => ?_) (fun _ => ?_)
      · refine po_bnd (fun c3 => ?_)
        refine po_bnd (fun c4 => ?_)
        refine po_ite (fun hb4 => ?_) (fun _ => ?_)
        · refine po_ite (fun hb5 => ?_) (fun _ => po_none)
          exact hrec v2 v3 v4 c1 (v6 + (1 : Int32)) (v7 + (1 : Int32)) (stI X 76 (nx v6) v7) (fq_I hX (wr_o (by decide)))
        refine fq_few_walk_J86 n X0 _ hrec v2 v3 v4 v5 v6 v7 X hX
      refine fq_few_walk_J86 n X0 _ hrec v2 v3 v4 v5 v6 v7 X hX
    exact po_some hX
  exact po_some hX
theorem fq_few_walk_L9 (n : Nat) (X0 : St) : ∀ (w : Nat) (v2 : Int32) (v3 : Int32) (v4 : Int32) (v5 : Int32) (v6 : Int32) (v7 : Int32) (X : St), fq wR_few_walk wF_few_walk X0 X → PO (fun r => fq wR_few_walk wF_few_walk X0 r) (few_walk_L9 n w v2 v3 v4 v5 v6 v7 X) := by
  intro w
  induction w with
  | zero => intro v2 v3 v4 v5 v6 v7 X _; exact po_none
  | succ w ih => intro v2 v3 v4 v5 v6 v7 X hX; exact fq_few_walk_L9_B n X0 _ ih v2 v3 v4 v5 v6 v7 X hX
theorem fq_few_walk (n : Nat) (v2 : Int32) (v3 : Int32) (v4 : Int32) (X0 : St) : PO (fun r => fq wR_few_walk wF_few_walk X0 r) (few_walk n v2 v3 v4 X0) := by
  have hX0 : fq wR_few_walk wF_few_walk X0 X0 := fq_rf
  unfold few_walk
  refine fq_few_walk_L9 n X0 n v2 v3 v4 (0 : Int32) (0 : Int32) (0 : Int32) X0 hX0
theorem fq_few_choose_L14_B (n : Nat) (X0 : St) (k39 : Int32 → Int32 → Int32 → St → Option (St)) (hk39 : ∀ (x0 : Int32) (x1 : Int32) (x2 : Int32) X, fq wR_few_choose wF_few_choose X0 X → PO (fun r => fq wR_few_choose wF_few_choose X0 r) (k39 x0 x1 x2 X)) (rec : Int32 → Int32 → Int32 → Int32 → St → Option (St)) (hrec : ∀ (x0 : Int32) (x1 : Int32) (x2 : Int32) (x3 : Int32) X, fq wR_few_choose wF_few_choose X0 X → PO (fun r => fq wR_few_choose wF_few_choose X0 r) (rec x0 x1 x2 x3 X)) (v2 : Int32) (v3 : Int32) (v4 : Int32) (v5 : Int32) (X : St) (hX : fq wR_few_choose wF_few_choose X0 X) : PO (fun r => fq wR_few_choose wF_few_choose X0 r) (few_choose_L14_B n k39 rec v2 v3 v4 v5 X) := by
  unfold few_choose_L14_B
  refine po_ite (fun hb1 => ?_) (fun _ => ?_)
  · refine po_ite (fun hb2 => ?_) (fun _ => po_none)
    refine po_ite (fun hb3 => ?_) (fun _ => po_none)
    exact hrec v2 v3 v4 (v5 + (1 : Int32)) (stI X (59 + nx v4) (nx v5) (0 : Int32)) (fq_I hX (wr_d 59 75 (by decide) (by decide) (by decide) hb2))
  exact hk39 v2 v3 v4 X hX
theorem fq_few_choose_L14 (n : Nat) (X0 : St) (k39 : Int32 → Int32 → Int32 → St → Option (St)) (hk39 : ∀ (x0 : Int32) (x1 : Int32) (x2 : Int32) X, fq wR_few_choose wF_few_choose X0 X → PO (fun r => fq wR_few_choose wF_few_choose X0 r) (k39 x0 x1 x2 X)) : ∀ (w : Nat) (v2 : Int32) (v3 : Int32) (v4 : Int32) (v5 : Int32) (X : St), fq wR_few_choose wF_few_choose X0 X → PO (fun r => fq wR_few_choose wF_few_choose X0 r) (few_choose_L14 n k39 w v2 v3 v4 v5 X) := by
  intro w
  induction w with
  | zero => intro v2 v3 v4 v5 X _; exact po_none
  | succ w ih => intro v2 v3 v4 v5 X hX; exact fq_few_choose_L14_B n X0 k39 hk39 _ ih v2 v3 v4 v5 X hX
theorem fq_few_choose_J116 (n : Nat) (X0 : St) (k53 : Int32 → Int32 → Int32 → Int32 → Int32 → St → Option (St)) (hk53 : ∀ (x0 : Int32) (x1 : Int32) (x2 : Int32) (x3 : Int32) (x4 : Int32) X, fq wR_few_choose wF_few_choose X0 X → PO (fun r => fq wR_few_choose wF_few_choose X0 r) (k53 x0 x1 x2 x3 x4 X)) (v2 : Int32) (v3 : Int32) (v4 : Int32) (v5 : Int32) (v6 : Int32) (v7 : Int32) (s0 : Int32) (X : St) (hX : fq wR_few_choose wF_few_choose X0 X) : PO (fun r => fq wR_few_choose wF_few_choose X0 r) (few_choose_J116 n k53 v2 v3 v4 v5 v6 v7 s0 X) := by
  unfold few_choose_J116
  refine po_ite (fun hb1 => ?_) (fun _ => po_none)
  refine po_ite (fun hb2 => ?_) (fun _ => po_none)
  refine qo_nmX (fq_I hX (wr_d 59 75 (by decide) (by decide) (by decide) hb1)) (fun X12 hX12 => ?_)
  exact hk53 v2 v3 v4 v5 (v6 + (1 : Int32)) X12 hX12
theorem fq_few_choose_L53_B (n : Nat) (X0 : St) (k147 : Int32 → Int32 → Int32 → Int32 → St → Option (St)) (hk147 : ∀ (x0 : Int32) (x1 : Int32) (x2 : Int32) (x3 : Int32) X, fq wR_few_choose wF_few_choose X0 X → PO (fun r => fq wR_few_choose wF_few_choose X0 r) (k147 x0 x1 x2 x3 X)) (rec : Int32 → Int32 → Int32 → Int32 → Int32 → St → Option (St)) (hrec : ∀ (x0 : Int32) (x1 : Int32) (x2 : Int32) (x3 : Int32) (x4 : Int32) X, fq wR_few_choose wF_few_choose X0 X → PO (fun r => fq wR_few_choose wF_few_choose X0 r) (rec x0 x1 x2 x3 x4 X)) (v2 : Int32) (v3 : Int32) (v4 : Int32) (v5 : Int32) (v6 : Int32) (X : St) (hX : fq wR_few_choose wF_few_choose X0 X) : PO (fun r => fq wR_few_choose wF_few_choose X0 r) (few_choose_L53_B n k147 rec v2 v3 v4 v5 v6 X) := by
  unfold few_choose_L53_B
  refine po_ite (fun hb1 => ?_) (fun _ => ?_)
  · refine po_bnd (fun c6 => ?_)
    refine po_bnd (fun c7 => ?_)
    refine po_bnd (fun c8 => ?_)
    refine po_bnd (fun c9 => ?_)
    refine po_ite (fun hb2 => ?_) (fun _ => ?_)
    · refine po_bnd (fun c10 => ?_)
      refine po_bnd (fun c11 => ?_)
      refine fq_few_choose_J116 n X0 _ hrec v2 v3 v4 v5 v6 c8 ((1 : Int32) + c11) X hX
    refine fq_few_choose_J116 n X0 _ hrec v2 v3 v4 v5 v6 c8 (1000 : Int32) X hX
  exact hk147 v2 v3 v4 v5 X hX
theorem fq_few_choose_L53 (n : Nat) (X0 : St) (k147 : Int32 → Int32 → Int32 → Int32 → St → Option (St)) (hk147 : ∀ (x0 : Int32) (x1 : Int32) (x2 : Int32) (x3 : Int32) X, fq wR_few_choose wF_few_choose X0 X → PO (fun r => fq wR_few_choose wF_few_choose X0 r) (k147 x0 x1 x2 x3 X)) : ∀ (w : Nat) (v2 : Int32) (v3 : Int32) (v4 : Int32) (v5 : Int32) (v6 : Int32) (X : St), fq wR_few_choose wF_few_choose X0 X → PO (fun r => fq wR_few_choose wF_few_choose X0 r) (few_choose_L53 n k147 w v2 v3 v4 v5 v6 X) := by
  intro w
  induction w with
  | zero => intro v2 v3 v4 v5 v6 X _; exact po_none
  | succ w ih => intro v2 v3 v4 v5 v6 X hX; exact fq_few_choose_L53_B n X0 k147 hk147 _ ih v2 v3 v4 v5 v6 X hX
theorem fq_few_choose_L45_B (n : Nat) (X0 : St) (k153 : Int32 → Int32 → Int32 → St → Option (St)) (hk153 : ∀ (x0 : Int32) (x1 : Int32) (x2 : Int32) X, fq wR_few_choose wF_few_choose X0 X → PO (fun r => fq wR_few_choose wF_few_choose X0 r) (k153 x0 x1 x2 X)) (rec : Int32 → Int32 → Int32 → Int32 → St → Option (St)) (hrec : ∀ (x0 : Int32) (x1 : Int32) (x2 : Int32) (x3 : Int32) X, fq wR_few_choose wF_few_choose X0 X → PO (fun r => fq wR_few_choose wF_few_choose X0 r) (rec x0 x1 x2 x3 X)) (v2 : Int32) (v3 : Int32) (v4 : Int32) (v5 : Int32) (X : St) (hX : fq wR_few_choose wF_few_choose X0 X) : PO (fun r => fq wR_few_choose wF_few_choose X0 r) (few_choose_L45_B n k153 rec v2 v3 v4 v5 X) := by
  unfold few_choose_L45_B
  refine po_ite (fun hb1 => ?_) (fun _ => ?_)
  · exact hk153 v2 v3 v4 X hX
  refine fq_few_choose_L53 n X0 _ (fun v14 v15 v16 v17 X13 hX13 => ?_) n v2 v3 v4 v5 (0 : Int32) X hX
  exact hrec v14 v15 v16 (v17 + (-1 : Int32)) X13 hX13
theorem fq_few_choose_L45 (n : Nat) (X0 : St) (k153 : Int32 → Int32 → Int32 → St → Option (St)) (hk153 : ∀ (x0 : Int32) (x1 : Int32) (x2 : Int32) X, fq wR_few_choose wF_few_choose X0 X → PO (fun r => fq wR_few_choose wF_few_choose X0 r) (k153 x0 x1 x2 X)) : ∀ (w : Nat) (v2 : Int32) (v3 : Int32) (v4 : Int32) (v5 : Int32) (X : St), fq wR_few_choose wF_few_choose X0 X → PO (fun r => fq wR_few_choose wF_few_choose X0 r) (few_choose_L45 n k153 w v2 v3 v4 v5 X) := by
  intro w
  induction w with
  | zero => intro v2 v3 v4 v5 X _; exact po_none
  | succ w ih => intro v2 v3 v4 v5 X hX; exact fq_few_choose_L45_B n X0 k153 hk153 _ ih v2 v3 v4 v5 X hX
theorem fq_few_choose (n : Nat) (v2 : Int32) (v3 : Int32) (X0 : St) : PO (fun r => fq wR_few_choose wF_few_choose X0 r) (few_choose n v2 v3 X0) := by
  have hX0 : fq wR_few_choose wF_few_choose X0 X0 := fq_rf
  unfold few_choose
  refine po_bnd (fun t1 => ?_)
  refine fq_few_choose_L14 n X0 _ (fun v3 v4 v5 X2 hX2 => ?_) n v2 v3 t1 (0 : Int32) X0 hX0
  refine fq_few_choose_L45 n X0 _ (fun v19 v20 v21 X18 hX18 => ?_) n v3 v4 v5 (v5 - (1 : Int32)) X2 hX2
  refine po_ite (fun hb1 => ?_) (fun _ => ?_)
  · exact po_some (fq_I hX18 (wr_f (by decide)))
  refine qo_cV (fq_I hX18 (wr_f (by decide))) (fq_few_walk n v21 v19 v20 (stI X18 57 7 (X18.1 59 (nx (0 : Int32))))) (by decide) (by decide) (fun X22 hX22 => ?_)
  exact po_some hX22
theorem fq_few_chooseGasps (n : Nat) (v2 : Int32) (v3 : Int32) (X0 : St) : PO (fun r => fq wR_few_chooseGasps wF_few_chooseGasps X0 r) (few_chooseGasps n v2 v3 X0) := by
  have hX0 : fq wR_few_chooseGasps wF_few_chooseGasps X0 X0 := fq_rf
  unfold few_chooseGasps
  refine qo_cV (fq_I (fq_I (fq_I hX0 (wr_f (by decide))) (wr_f (by decide))) (wr_f (by decide))) (fq_few_choose n (1 : Int32) (0 : Int32) (stI (stI (stI X0 57 3 (0 : Int32)) 57 5 v2) 57 6 v3)) (by decide) (by decide) (fun X1 hX1 => ?_)
  exact po_some hX1
theorem fq_tho_isSeenSince_L2_B (n : Nat) (X0 : St) (k33 : St → Option (Int32 × St)) (hk33 : ∀  X, fq wR_tho_isSeenSince wF_tho_isSeenSince X0 X → PO (fun r => fq wR_tho_isSeenSince wF_tho_isSeenSince X0 r.2) (k33  X)) (rec : Int32 → Int32 → St → Option (Int32 × St)) (hrec : ∀ (x0 : Int32) (x1 : Int32) X, fq wR_tho_isSeenSince wF_tho_isSeenSince X0 X → PO (fun r => fq wR_tho_isSeenSince wF_tho_isSeenSince X0 r.2) (rec x0 x1 X)) (v1 : Int32) (v2 : Int32) (X : St) (hX : fq wR_tho_isSeenSince wF_tho_isSeenSince X0 X) : PO (fun r => fq wR_tho_isSeenSince wF_tho_isSeenSince X0 r.2) (tho_isSeenSince_L2_B n k33 rec v1 v2 X) := by
  unfold tho_isSeenSince_L2_B
  refine po_ite (fun hb1 => ?_) (fun _ => ?_)
  · refine po_ite (fun hb2 => ?_) (fun _ => po_none)
    refine po_ite (fun hb3 => ?_) (fun _ => po_none)
    exact hrec v1 (v2 + (1 : Int32)) (stI X 27 (nx v2) (v1 * (X.1 28 (nx v2)))) (fq_I hX (wr_o (by decide)))
  exact hk33 X hX
theorem fq_tho_isSeenSince_L2 (n : Nat) (X0 : St) (k33 : St → Option (Int32 × St)) (hk33 : ∀  X, fq wR_tho_isSeenSince wF_tho_isSeenSince X0 X → PO (fun r => fq wR_tho_isSeenSince wF_tho_isSeenSince X0 r.2) (k33  X)) : ∀ (w : Nat) (v1 : Int32) (v2 : Int32) (X : St), fq wR_tho_isSeenSince wF_tho_isSeenSince X0 X → PO (fun r => fq wR_tho_isSeenSince wF_tho_isSeenSince X0 r.2) (tho_isSeenSince_L2 n k33 w v1 v2 X) := by
  intro w
  induction w with
  | zero => intro v1 v2 X _; exact po_none
  | succ w ih => intro v1 v2 X hX; exact fq_tho_isSeenSince_L2_B n X0 k33 hk33 _ ih v1 v2 X hX
theorem fq_tho_isSeenSince (n : Nat) (v1 : Int32) (X0 : St) : PO (fun r => fq wR_tho_isSeenSince wF_tho_isSeenSince X0 r.2) (tho_isSeenSince n v1 X0) := by
  have hX0 : fq wR_tho_isSeenSince wF_tho_isSeenSince X0 X0 := fq_rf
  unfold tho_isSeenSince
  refine fq_tho_isSeenSince_L2 n X0 _ (fun X1 hX1 => ?_) n v1 (0 : Int32) X0 hX0
  refine po_bnd (fun c2 => ?_)
  refine po_ite (fun hb1 => ?_) (fun _ => ?_)
  · exact po_some hX1
  exact po_some hX1
theorem fq_few_chooseLooks_L15_B (n : Nat) (X0 : St) (rec : Int32 → St → Option (St)) (hrec : ∀ (x0 : Int32) X, fq wR_few_chooseLooks wF_few_chooseLooks X0 X → PO (fun r => fq wR_few_chooseLooks wF_few_chooseLooks X0 r) (rec x0 X)) (v3 : Int32) (X : St) (hX : fq wR_few_chooseLooks wF_few_chooseLooks X0 X) : PO (fun r => fq wR_few_chooseLooks wF_few_chooseLooks X0 r) (few_chooseLooks_L15_B n rec v3 X) := by
  unfold few_chooseLooks_L15_B
  refine po_ite (fun hb1 => ?_) (fun _ => ?_)
  · refine qo_cV hX (fq_few_choose n (0 : Int32) (4 : Int32) X) (by decide) (by decide) (fun X2 hX2 => ?_)
    exact po_some hX2
  refine qo_cI hX (fq_tho_isSeenSince n v3 X) (by decide) (by decide) (fun c4 X3 hX3 => ?_)
  refine po_ite (fun hb2 => ?_) (fun _ => po_none)
  exact hrec (v3 + (1 : Int32)) (stI X3 77 (nx v3) (vp_nar .boolean c4)) (fq_I hX3 (wr_o (by decide)))
theorem fq_few_chooseLooks_L15 (n : Nat) (X0 : St) : ∀ (w : Nat) (v3 : Int32) (X : St), fq wR_few_chooseLooks wF_few_chooseLooks X0 X → PO (fun r => fq wR_few_chooseLooks wF_few_chooseLooks X0 r) (few_chooseLooks_L15 n w v3 X) := by
  intro w
  induction w with
  | zero => intro v3 X _; exact po_none
  | succ w ih => intro v3 X hX; exact fq_few_chooseLooks_L15_B n X0 _ ih v3 X hX
theorem fq_few_chooseLooks (n : Nat) (X0 : St) : PO (fun r => fq wR_few_chooseLooks wF_few_chooseLooks X0 r) (few_chooseLooks n X0) := by
  have hX0 : fq wR_few_chooseLooks wF_few_chooseLooks X0 X0 := fq_rf
  unfold few_chooseLooks
  refine po_ite (fun hb1 => ?_) (fun _ => po_none)
  refine qo_nmX (fq_I (fq_I hX0 (wr_f (by decide))) (wr_f (by decide))) (fun X1 hX1 => ?_)
  refine fq_few_chooseLooks_L15 n X0 n (0 : Int32) X1 hX1
theorem fq_gro_swap (v1 : Int32) (v2 : Int32) (X0 : St) : PO (fun r => fq wR_gro_swap wF_gro_swap X0 r) (gro_swap v1 v2 X0) := by
  have hX0 : fq wR_gro_swap wF_gro_swap X0 X0 := fq_rf
  unfold gro_swap
  refine po_ite (fun hb1 => ?_) (fun _ => po_none)
  refine po_ite (fun hb2 => ?_) (fun _ => po_none)
  refine po_ite (fun hb3 => ?_) (fun _ => po_none)
  refine po_ite (fun hb4 => ?_) (fun _ => po_none)
  refine qo_nmX (fq_I (fq_I hX0 (wr_o (by decide))) (wr_o (by decide))) (fun X1 hX1 => ?_)
  exact po_some hX1
theorem fq_gro_nextOrder_L4_B (n : Nat) (X0 : St) (k36 : Int32 → Int32 → St → Option (Int32 × St)) (hk36 : ∀ (x0 : Int32) (x1 : Int32) X, fq wR_gro_nextOrder wF_gro_nextOrder X0 X → PO (fun r => fq wR_gro_nextOrder wF_gro_nextOrder X0 r.2) (k36 x0 x1 X)) (rec : Int32 → Int32 → Int32 → St → Option (Int32 × St)) (hrec : ∀ (x0 : Int32) (x1 : Int32) (x2 : Int32) X, fq wR_gro_nextOrder wF_gro_nextOrder X0 X → PO (fun r => fq wR_gro_nextOrder wF_gro_nextOrder X0 r.2) (rec x0 x1 x2 X)) (v1 : Int32) (v2 : Int32) (v3 : Int32) (X : St) (hX : fq wR_gro_nextOrder wF_gro_nextOrder X0 X) : PO (fun r => fq wR_gro_nextOrder wF_gro_nextOrder X0 r.2) (gro_nextOrder_L4_B n k36 rec v1 v2 v3 X) := by
  unfold gro_nextOrder_L4_B
  refine po_ite (fun hb1 => ?_) (fun _ => ?_)
  · refine po_ite (fun hb2 => ?_) (fun _ => po_none)
    refine po_ite (fun hb3 => ?_) (fun _ => po_none)
    refine po_ite (fun hb4 => ?_) (fun _ => ?_)
    · exact hrec v1 v3 (v3 + (1 : Int32)) X hX
    exact hrec v1 v2 (v3 + (1 : Int32)) X hX
  exact hk36 v1 v2 X hX
theorem fq_gro_nextOrder_L4 (n : Nat) (X0 : St) (k36 : Int32 → Int32 → St → Option (Int32 × St)) (hk36 : ∀ (x0 : Int32) (x1 : Int32) X, fq wR_gro_nextOrder wF_gro_nextOrder X0 X → PO (fun r => fq wR_gro_nextOrder wF_gro_nextOrder X0 r.2) (k36 x0 x1 X)) : ∀ (w : Nat) (v1 : Int32) (v2 : Int32) (v3 : Int32) (X : St), fq wR_gro_nextOrder wF_gro_nextOrder X0 X → PO (fun r => fq wR_gro_nextOrder wF_gro_nextOrder X0 r.2) (gro_nextOrder_L4 n k36 w v1 v2 v3 X) := by
  intro w
  induction w with
  | zero => intro v1 v2 v3 X _; exact po_none
  | succ w ih => intro v1 v2 v3 X hX; exact fq_gro_nextOrder_L4_B n X0 k36 hk36 _ ih v1 v2 v3 X hX
theorem fq_gro_nextOrder_L51_B (n : Nat) (X0 : St) (k82 : Int32 → Int32 → Int32 → St → Option (Int32 × St)) (hk82 : ∀ (x0 : Int32) (x1 : Int32) (x2 : Int32) X, fq wR_gro_nextOrder wF_gro_nextOrder X0 X → PO (fun r => fq wR_gro_nextOrder wF_gro_nextOrder X0 r.2) (k82 x0 x1 x2 X)) (rec : Int32 → Int32 → Int32 → Int32 → St → Option (Int32 × St)) (hrec : ∀ (x0 : Int32) (x1 : Int32) (x2 : Int32) (x3 : Int32) X, fq wR_gro_nextOrder wF_gro_nextOrder X0 X → PO (fun r => fq wR_gro_nextOrder wF_gro_nextOrder X0 r.2) (rec x0 x1 x2 x3 X)) (v1 : Int32) (v2 : Int32) (v3 : Int32) (v4 : Int32) (X : St) (hX : fq wR_gro_nextOrder wF_gro_nextOrder X0 X) : PO (fun r => fq wR_gro_nextOrder wF_gro_nextOrder X0 r.2) (gro_nextOrder_L51_B n k82 rec v1 v2 v3 v4 X) := by
  unfold gro_nextOrder_L51_B
  refine po_ite (fun hb1 => ?_) (fun _ => ?_)
  · refine po_ite (fun hb2 => ?_) (fun _ => po_none)
    refine po_ite (fun hb3 => ?_) (fun _ => po_none)
    refine po_ite (fun hb4 => ?_) (fun _ => ?_)
    · exact hrec v1 v2 v4 (v4 + (1 : Int32)) X hX
    exact hrec v1 v2 v3 (v4 + (1 : Int32)) X hX
  exact hk82 v1 v2 v3 X hX
theorem fq_gro_nextOrder_L51 (n : Nat) (X0 : St) (k82 : Int32 → Int32 → Int32 → St → Option (Int32 × St)) (hk82 : ∀ (x0 : Int32) (x1 : Int32) (x2 : Int32) X, fq wR_gro_nextOrder wF_gro_nextOrder X0 X → PO (fun r => fq wR_gro_nextOrder wF_gro_nextOrder X0 r.2) (k82 x0 x1 x2 X)) : ∀ (w : Nat) (v1 : Int32) (v2 : Int32) (v3 : Int32) (v4 : Int32) (X : St), fq wR_gro_nextOrder wF_gro_nextOrder X0 X → PO (fun r => fq wR_gro_nextOrder wF_gro_nextOrder X0 r.2) (gro_nextOrder_L51 n k82 w v1 v2 v3 v4 X) := by
  intro w
  induction w with
  | zero => intro v1 v2 v3 v4 X _; exact po_none
  | succ w ih => intro v1 v2 v3 v4 X hX; exact fq_gro_nextOrder_L51_B n X0 k82 hk82 _ ih v1 v2 v3 v4 X hX
theorem fq_gro_nextOrder_L98_B (n : Nat) (X0 : St) (rec : Int32 → Int32 → St → Option (Int32 × St)) (hrec : ∀ (x0 : Int32) (x1 : Int32) X, fq wR_gro_nextOrder wF_gro_nextOrder X0 X → PO (fun r => fq wR_gro_nextOrder wF_gro_nextOrder X0 r.2) (rec x0 x1 X)) (v4 : Int32) (v5 : Int32) (X : St) (hX : fq wR_gro_nextOrder wF_gro_nextOrder X0 X) : PO (fun r => fq wR_gro_nextOrder wF_gro_nextOrder X0 r.2) (gro_nextOrder_L98_B n rec v4 v5 X) := by
  unfold gro_nextOrder_L98_B
  refine po_ite (fun hb1 => ?_) (fun _ => ?_)
  · refine qo_cV hX (fq_gro_swap v5 v4 X) (by decide) (by decide) (fun X9 hX9 => ?_)
    exact hrec (v4 + (-1 : Int32)) (v5 + (1 : Int32)) X9 hX9
  exact po_some hX
theorem fq_gro_nextOrder_L98 (n : Nat) (X0 : St) : ∀ (w : Nat) (v4 : Int32) (v5 : Int32) (X : St), fq wR_gro_nextOrder wF_gro_nextOrder X0 X → PO (fun r => fq wR_gro_nextOrder wF_gro_nextOrder X0 r.2) (gro_nextOrder_L98 n w v4 v5 X) := by
  intro w
  induction w with
  | zero => intro v4 v5 X _; exact po_none
  | succ w ih => intro v4 v5 X hX; exact fq_gro_nextOrder_L98_B n X0 _ ih v4 v5 X hX
theorem fq_gro_nextOrder (n : Nat) (v1 : Int32) (X0 : St) : PO (fun r => fq wR_gro_nextOrder wF_gro_nextOrder X0 r.2) (gro_nextOrder n v1 X0) := by
  have hX0 : fq wR_gro_nextOrder wF_gro_nextOrder X0 X0 := fq_rf
  unfold gro_nextOrder
  refine fq_gro_nextOrder_L4 n X0 _ (fun v2 v3 X1 hX1 => ?_) n v1 (-1 : Int32) (0 : Int32) X0 hX0
  refine po_ite (fun hb1 => ?_) (fun _ => ?_)
  · exact po_some hX1
  refine fq_gro_nextOrder_L51 n X0 _ (fun v5 v6 v7 X4 hX4 => ?_) n v2 v3 (v3 + (1 : Int32)) (v3 + (1 : Int32)) X1 hX1
  refine qo_cV hX4 (fq_gro_swap v6 v7 X4) (by decide) (by decide) (fun X8 hX8 => ?_)
  refine fq_gro_nextOrder_L98 n X0 n (v5 - (1 : Int32)) (v6 + (1 : Int32)) X8 hX8
theorem fq_gro_lineUp_L15_B (n : Nat) (X0 : St) (k33 : Int32 → Int32 → St → Option (Int32 × St)) (hk33 : ∀ (x0 : Int32) (x1 : Int32) X, fq wR_gro_lineUp wF_gro_lineUp X0 X → PO (fun r => fq wR_gro_lineUp wF_gro_lineUp X0 r.2) (k33 x0 x1 X)) (rec : Int32 → Int32 → Int32 → St → Option (Int32 × St)) (hrec : ∀ (x0 : Int32) (x1 : Int32) (x2 : Int32) X, fq wR_gro_lineUp wF_gro_lineUp X0 X → PO (fun r => fq wR_gro_lineUp wF_gro_lineUp X0 r.2) (rec x0 x1 x2 X)) (v1 : Int32) (v2 : Int32) (v3 : Int32) (X : St) (hX : fq wR_gro_lineUp wF_gro_lineUp X0 X) : PO (fun r => fq wR_gro_lineUp wF_gro_lineUp X0 r.2) (gro_lineUp_L15_B n k33 rec v1 v2 v3 X) := by
  unfold gro_lineUp_L15_B
  refine po_ite (fun hb1 => ?_) (fun _ => ?_)
  · refine po_ite (fun hb2 => ?_) (fun _ => po_none)
    exact hrec v1 v2 (v3 + (1 : Int32)) (stI X 79 (nx v3) v3) (fq_I hX (wr_o (by decide)))
  exact hk33 v1 v2 X hX
theorem fq_gro_lineUp_L15 (n : Nat) (X0 : St) (k33 : Int32 → Int32 → St → Option (Int32 × St)) (hk33 : ∀ (x0 : Int32) (x1 : Int32) X, fq wR_gro_lineUp wF_gro_lineUp X0 X → PO (fun r => fq wR_gro_lineUp wF_gro_lineUp X0 r.2) (k33 x0 x1 X)) : ∀ (w : Nat) (v1 : Int32) (v2 : Int32) (v3 : Int32) (X : St), fq wR_gro_lineUp wF_gro_lineUp X0 X → PO (fun r => fq wR_gro_lineUp wF_gro_lineUp X0 r.2) (gro_lineUp_L15 n k33 w v1 v2 v3 X) := by
  intro w
  induction w with
  | zero => intro v1 v2 v3 X _; exact po_none
  | succ w ih => intro v1 v2 v3 X hX; exact fq_gro_lineUp_L15_B n X0 k33 hk33 _ ih v1 v2 v3 X hX
theorem fq_gro_lineUp_L57_B (n : Nat) (X0 : St) (rec : Int32 → Int32 → Int32 → Int32 → St → Option (Int32 × St)) (hrec : ∀ (x0 : Int32) (x1 : Int32) (x2 : Int32) (x3 : Int32) X, fq wR_gro_lineUp wF_gro_lineUp X0 X → PO (fun r => fq wR_gro_lineUp wF_gro_lineUp X0 r.2) (rec x0 x1 x2 x3 X)) (v1 : Int32) (v2 : Int32) (v3 : Int32) (v4 : Int32) (X : St) (hX : fq wR_gro_lineUp wF_gro_lineUp X0 X) : PO (fun r => fq wR_gro_lineUp wF_gro_lineUp X0 r.2) (gro_lineUp_L57_B n rec v1 v2 v3 v4 X) := by
  unfold gro_lineUp_L57_B
  refine po_ite (fun hb1 => ?_) (fun _ => ?_)
  · refine qo_cI hX (fq_gro_nextOrder n v2 X) (by decide) (by decide) (fun c6 X5 hX5 => ?_)
    refine po_ite (fun hb2 => ?_) (fun _ => ?_)
    · exact po_some hX5
    refine po_bnd (fun c7 => ?_)
    refine po_ite (fun hb3 => ?_) (fun _ => ?_)
    · refine po_ite (fun hb4 => ?_) (fun _ => po_none)
      exact hrec v1 v2 c7 (v4 + (1 : Int32)) (cpI X5 79 (nx (0 : Int32)) 80 (nx (0 : Int32)) (nx v2)) (fq_cI hX5 (fun _ => (wr_o (by decide))))
    exact hrec v1 v2 v3 (v4 + (1 : Int32)) X5 hX5
  exact po_some hX
theorem fq_gro_lineUp_L57 (n : Nat) (X0 : St) : ∀ (w : Nat) (v1 : Int32) (v2 : Int32) (v3 : Int32) (v4 : Int32) (X : St), fq wR_gro_lineUp wF_gro_lineUp X0 X → PO (fun r => fq wR_gro_lineUp wF_gro_lineUp X0 r.2) (gro_lineUp_L57 n w v1 v2 v3 v4 X) := by
  intro w
  induction w with
  | zero => intro v1 v2 v3 v4 X _; exact po_none
  | succ w ih => intro v1 v2 v3 v4 X hX; exact fq_gro_lineUp_L57_B n X0 _ ih v1 v2 v3 v4 X hX
theorem fq_gro_lineUp (n : Nat) (v1 : Int32) (X0 : St) : PO (fun r => fq wR_gro_lineUp wF_gro_lineUp X0 r.2) (gro_lineUp n v1 X0) := by
  have hX0 : fq wR_gro_lineUp wF_gro_lineUp X0 X0 := fq_rf
  unfold gro_lineUp
  refine fq_gro_lineUp_L15 n X0 _ (fun v2 v3 X1 hX1 => ?_) n v1 (jmath_min (poo_many X0) (6 : Int32)) (0 : Int32) X0 hX0
  refine po_bnd (fun c4 => ?_)
  refine po_ite (fun hb1 => ?_) (fun _ => po_none)
  refine fq_gro_lineUp_L57 n X0 n v2 v3 c4 (1 : Int32) (cpI X1 79 (nx (0 : Int32)) 80 (nx (0 : Int32)) (nx v3)) (fq_cI hX1 (fun _ => (wr_o (by decide))))
theorem fq_rul_become (v2 : Int32) (X0 : St) : PO (fun r => fq wR_rul_become wF_rul_become X0 r) (rul_become v2 X0) := by
  have hX0 : fq wR_rul_become wF_rul_become X0 X0 := fq_rf
  unfold rul_become
  refine qo_nmX (fq_I hX0 (wr_f (by decide))) (fun X1 hX1 => ?_)
  refine po_ite (fun hb1 => ?_) (fun _ => po_none)
  refine qo_nmX (fq_cI hX1 (fun _ => (wr_o (by decide)))) (fun X2 hX2 => ?_)
  exact po_some hX2
theorem fq_rul_pop (X0 : St) : PO (fun r => fq wR_rul_pop wF_rul_pop X0 r.2) (rul_pop X0) := by
  have hX0 : fq wR_rul_pop wF_rul_pop X0 X0 := fq_rf
  unfold rul_pop
  refine po_ite (fun hb1 => ?_) (fun _ => ?_)
  · refine po_ite (fun hb2 => ?_) (fun _ => po_none)
    exact po_some (fq_I hX0 (wr_f (by decide)))
  exact po_some hX0
theorem fq_rul_push (v1 : Int32) (X0 : St) : PO (fun r => fq wR_rul_push wF_rul_push X0 r) (rul_push v1 X0) := by
  have hX0 : fq wR_rul_push wF_rul_push X0 X0 := fq_rf
  unfold rul_push
  refine po_ite (fun hb1 => ?_) (fun _ => ?_)
  · refine po_ite (fun hb2 => ?_) (fun _ => po_none)
    refine qo_nmX (fq_I (fq_I hX0 (wr_o (by decide))) (wr_f (by decide))) (fun X1 hX1 => ?_)
    exact po_some hX1
  exact po_some hX0
theorem fq_rul_worth (v1 : Int32) (X0 : St) : PO (fun r => fq wR_rul_worth wF_rul_worth X0 r.2) (rul_worth v1 X0) := by
  have hX0 : fq wR_rul_worth wF_rul_worth X0 X0 := fq_rf
  unfold rul_worth
  refine po_ite (fun hb1 => ?_) (fun _ => ?_)
  · refine po_ite (fun hb2 => ?_) (fun _ => ?_)
    · refine qo_cI hX0 (fq_rul_pop X0) (by decide) (by decide) (fun c2 X1 hX1 => ?_)
      refine po_ite (fun hb3 => ?_) (fun _ => ?_)
      · exact po_some hX1
      refine po_ite (fun hb4 => ?_) (fun _ => ?_)
      · refine po_ite (fun hb5 => ?_) (fun _ => ?_)
        · exact po_some hX1
        exact po_some hX1
      refine qo_cI hX1 (fq_rul_pop X1) (by decide) (by decide) (fun c4 X3 hX3 => ?_)
      refine po_bnd (fun c5 => ?_)
      exact po_some hX3
    refine po_ite (fun hb6 => ?_) (fun _ => po_none)
    exact po_some hX0
  exact po_some hX0
theorem fq_rul_byText_J76 (n : Nat) (X0 : St) (k9 : Int32 → Int32 → St → Option (Int32 × St)) (hk9 : ∀ (x0 : Int32) (x1 : Int32) X, fq wR_rul_byText wF_rul_byText X0 X → PO (fun r => fq wR_rul_byText wF_rul_byText X0 r.2) (k9 x0 x1 X)) (v1 : Int32) (v2 : Int32) (v3 : Int32) (X : St) (hX : fq wR_rul_byText wF_rul_byText X0 X) : PO (fun r => fq wR_rul_byText wF_rul_byText X0 r.2) (rul_byText_J76 n k9 v1 v2 v3 X) := by
  unfold rul_byText_J76
  refine po_ite (fun hb1 => ?_) (fun _ => ?_)
  · refine qo_cI hX (fq_rul_worth v3 X) (by decide) (by decide) (fun c6 X5 hX5 => ?_)
    refine qo_cV hX5 (fq_rul_push c6 X5) (by decide) (by decide) (fun X7 hX7 => ?_)
    exact hk9 v1 (v2 + (1 : Int32)) X7 hX7
  exact hk9 v1 (v2 + (1 : Int32)) X hX
theorem fq_rul_byText_J39 (n : Nat) (X0 : St) (k9 : Int32 → Int32 → St → Option (Int32 × St)) (hk9 : ∀ (x0 : Int32) (x1 : Int32) X, fq wR_rul_byText wF_rul_byText X0 X → PO (fun r => fq wR_rul_byText wF_rul_byText X0 r.2) (k9 x0 x1 X)) (v1 : Int32) (v2 : Int32) (v3 : Int32) (X : St) (hX : fq wR_rul_byText wF_rul_byText X0 X) : PO (fun r => fq wR_rul_byText wF_rul_byText X0 r.2) (rul_byText_J39 n k9 v1 v2 v3 X) := by
  unfold rul_byText_J39
  refine po_ite (fun hb1 => ?_) (fun _ => ?_)
  · exact hk9 (0 : Int32) (v2 + (1 : Int32)) X hX
  refine po_ite (fun hb2 => ?_) (fun _ => ?_)
  · refine po_ite (fun hb3 => ?_) (fun _ => ?_)
    · refine qo_cI hX (fq_rul_pop X) (by decide) (by decide) (fun c4 X3 hX3 => ?_)
      refine po_ite (fun hb4 => ?_) (fun _ => ?_)
      · exact hk9 (1 : Int32) (v2 + (1 : Int32)) X3 hX3
      exact hk9 (0 : Int32) (v2 + (1 : Int32)) X3 hX3
    refine fq_rul_byText_J76 n X0 _ hk9 v1 v2 v3 X hX
  refine fq_rul_byText_J76 n X0 _ hk9 v1 v2 v3 X hX
theorem fq_rul_byText_L9_B (n : Nat) (X0 : St) (rec : Int32 → Int32 → St → Option (Int32 × St)) (hrec : ∀ (x0 : Int32) (x1 : Int32) X, fq wR_rul_byText wF_rul_byText X0 X → PO (fun r => fq wR_rul_byText wF_rul_byText X0 r.2) (rec x0 x1 X)) (v1 : Int32) (v2 : Int32) (X : St) (hX : fq wR_rul_byText wF_rul_byText X0 X) : PO (fun r => fq wR_rul_byText wF_rul_byText X0 r.2) (rul_byText_L9_B n rec v1 v2 X) := by
  unfold rul_byText_L9_B
  refine po_ite (fun hb1 => ?_) (fun _ => ?_)
  · refine po_ite (fun hb2 => ?_) (fun _ => po_none)
    refine po_ite (fun hb3 => ?_) (fun _ => ?_)
    · refine po_ite (fun hb4 => ?_) (fun _ => ?_)
      · refine qo_cI hX (fq_rul_pop X) (by decide) (by decide) (fun c2 X1 hX1 => ?_)
        exact po_some hX1
      refine fq_rul_byText_J39 n X0 _ hrec v1 v2 (X.1 21 (nx v2)) X hX
    refine fq_rul_byText_J39 n X0 _ hrec v1 v2 (X.1 21 (nx v2)) X hX
  exact po_some hX
theorem fq_rul_byText_L9 (n : Nat) (X0 : St) : ∀ (w : Nat) (v1 : Int32) (v2 : Int32) (X : St), fq wR_rul_byText wF_rul_byText X0 X → PO (fun r => fq wR_rul_byText wF_rul_byText X0 r.2) (rul_byText_L9 n w v1 v2 X) := by
  intro w
  induction w with
  | zero => intro v1 v2 X _; exact po_none
  | succ w ih => intro v1 v2 X hX; exact fq_rul_byText_L9_B n X0 _ ih v1 v2 X hX
theorem fq_rul_byText (n : Nat) (X0 : St) : PO (fun r => fq wR_rul_byText wF_rul_byText X0 r.2) (rul_byText n X0) := by
  have hX0 : fq wR_rul_byText wF_rul_byText X0 X0 := fq_rf
  unfold rul_byText
  refine fq_rul_byText_L9 n X0 n (0 : Int32) (0 : Int32) (stI X0 20 4 (0 : Int32)) (fq_I hX0 (wr_f (by decide)))
theorem fq_rul_marks (n : Nat) (v1 : Int32) (v2 : Int32) (v3 : Int32) (v4 : Int32) (v5 : Int32) (v6 : Int32) (X0 : St) : PO (fun r => fq wR_rul_marks wF_rul_marks X0 r.2) (rul_marks n v1 v2 v3 v4 v5 v6 X0) := by
  have hX0 : fq wR_rul_marks wF_rul_marks X0 X0 := fq_rf
  unfold rul_marks
  refine po_ite (fun hb1 => ?_) (fun _ => ?_)
  · refine po_bnd (fun c1 => ?_)
    exact po_some hX0
  refine qo_nmX (fq_I (fq_I (fq_I hX0 (wr_o (by decide))) (wr_o (by decide))) (wr_o (by decide))) (fun X2 hX2 => ?_)
  refine qo_nmX (fq_I (fq_I (fq_I hX2 (wr_o (by decide))) (wr_o (by decide))) (wr_o (by decide))) (fun X3 hX3 => ?_)
  refine qo_cI hX3 (fq_rul_byText n X3) (by decide) (by decide) (fun c5 X4 hX4 => ?_)
  exact po_some hX4
theorem fq_poo_join (v1 : Int32) (v2 : Int32) (v3 : Int32) (v4 : Int32) (X0 : St) : PO (fun r => fq wR_poo_join wF_poo_join X0 r.2) (poo_join v1 v2 v3 v4 X0) := by
  have hX0 : fq wR_poo_join wF_poo_join X0 X0 := fq_rf
  unfold poo_join
  refine po_ite (fun hb1 => ?_) (fun _ => ?_)
  · refine qo_cV (fq_I hX0 (wr_f (by decide))) (fq_poo_tell (X0.1 1 1) (0 : Int32) v1 (stI X0 1 1 ((X0.1 1 1) + (1 : Int32)))) (by decide) (by decide) (fun X1 hX1 => ?_)
    refine qo_cV hX1 (fq_poo_tell (X0.1 1 1) (1 : Int32) v2 X1) (by decide) (by decide) (fun X2 hX2 => ?_)
    refine qo_cV hX2 (fq_poo_tell (X0.1 1 1) (2 : Int32) v3 X2) (by decide) (by decide) (fun X3 hX3 => ?_)
    refine qo_cV hX3 (fq_poo_tell (X0.1 1 1) (3 : Int32) (12 : Int32) X3) (by decide) (by decide) (fun X4 hX4 => ?_)
    refine qo_cV hX4 (fq_poo_tell (X0.1 1 1) (4 : Int32) v4 X4) (by decide) (by decide) (fun X5 hX5 => ?_)
    exact po_some hX5
  exact po_some hX0
theorem fq_poo_joinFour (r1 : Nat) (v2 : Int32) (X0 : St) : PO (fun r => fq wR_poo_joinFour wF_poo_joinFour X0 r.2) (poo_joinFour r1 v2 X0) := by
  have hX0 : fq wR_poo_joinFour wF_poo_joinFour X0 X0 := fq_rf
  unfold poo_joinFour
  refine po_ite (fun hb1 => ?_) (fun _ => ?_)
  · exact po_some hX0
  refine po_ite (fun hb2 => ?_) (fun _ => po_none)
  refine po_ite (fun hb3 => ?_) (fun _ => ?_)
  · refine po_ite (fun hb4 => ?_) (fun _ => po_none)
    refine po_ite (fun hb5 => ?_) (fun _ => po_none)
    refine po_bnd (fun t1 => ?_)
    refine po_ite (fun hb6 => ?_) (fun _ => po_none)
    refine po_bnd (fun t2 => ?_)
    refine po_ite (fun hb7 => ?_) (fun _ => po_none)
    refine po_bnd (fun t3 => ?_)
    refine po_bnd (fun c4 => ?_)
    refine po_ite (fun hb8 => ?_) (fun _ => ?_)
    · exact po_some hX0
    refine qo_cI hX0 (fq_poo_join ((X0.2 r1 (nx v2)).toInt32) t1 t2 t3 X0) (by decide) (by decide) (fun c6 X5 hX5 => ?_)
    refine po_ite (fun hb9 => ?_) (fun _ => ?_)
    · exact po_some hX5
    exact po_some hX5
  exact po_some hX0
theorem fq_poo_joinFrom_L9_B (n : Nat) (X0 : St) (rec : Nat → Int32 → Int32 → Int32 → Int32 → Int32 → St → Option (Int32 × St)) (hrec : ∀ (x0 : Nat) (x1 : Int32) (x2 : Int32) (x3 : Int32) (x4 : Int32) (x5 : Int32) X, fq wR_poo_joinFrom wF_poo_joinFrom X0 X → PO (fun r => fq wR_poo_joinFrom wF_poo_joinFrom X0 r.2) (rec x0 x1 x2 x3 x4 x5 X)) (r1 : Nat) (v2 : Int32) (v4 : Int32) (v5 : Int32) (v6 : Int32) (v7 : Int32) (X : St) (hX : fq wR_poo_joinFrom wF_poo_joinFrom X0 X) : PO (fun r => fq wR_poo_joinFrom wF_poo_joinFrom X0 r.2) (poo_joinFrom_L9_B n rec r1 v2 v4 v5 v6 v7 X) := by
  unfold poo_joinFrom_L9_B
  refine po_ite (fun hb1 => ?_) (fun _ => ?_)
  · refine po_ite (fun hb2 => ?_) (fun _ => ?_)
    · refine po_ite (fun hb3 => ?_) (fun _ => ?_)
      · exact po_some hX
      refine qo_cI hX (fq_poo_joinFour r1 v6 X) (by decide) (by decide) (fun c2 X1 hX1 => ?_)
      refine po_ite (fun hb4 => ?_) (fun _ => ?_)
      · exact po_some hX1
      exact hrec r1 v2 v4 (v5 + (1 : Int32)) (v6 + (4 : Int32)) (v7 + (1 : Int32)) X1 hX1
    exact po_some hX
  exact po_some hX
theorem fq_poo_joinFrom_L9 (n : Nat) (X0 : St) : ∀ (w : Nat) (r1 : Nat) (v2 : Int32) (v4 : Int32) (v5 : Int32) (v6 : Int32) (v7 : Int32) (X : St), fq wR_poo_joinFrom wF_poo_joinFrom X0 X → PO (fun r => fq wR_poo_joinFrom wF_poo_joinFrom X0 r.2) (poo_joinFrom_L9 n w r1 v2 v4 v5 v6 v7 X) := by
  intro w
  induction w with
  | zero => intro r1 v2 v4 v5 v6 v7 X _; exact po_none
  | succ w ih => intro r1 v2 v4 v5 v6 v7 X hX; exact fq_poo_joinFrom_L9_B n X0 _ ih r1 v2 v4 v5 v6 v7 X hX
theorem fq_poo_joinFrom (n : Nat) (r1 : Nat) (v2 : Int32) (v3 : Int32) (v4 : Int32) (X0 : St) : PO (fun r => fq wR_poo_joinFrom wF_poo_joinFrom X0 r.2) (poo_joinFrom n r1 v2 v3 v4 X0) := by
  have hX0 : fq wR_poo_joinFrom wF_poo_joinFrom X0 X0 := fq_rf
  unfold poo_joinFrom
  refine fq_poo_joinFrom_L9 n X0 n r1 v2 v4 (0 : Int32) v3 (0 : Int32) X0 hX0
theorem fq_rou_take_L20_B (n : Nat) (X0 : St) (rec : Nat → Int32 → Int32 → St → Option (St)) (hrec : ∀ (x0 : Nat) (x1 : Int32) (x2 : Int32) X, fq wR_rou_take wF_rou_take X0 X → PO (fun r => fq wR_rou_take wF_rou_take X0 r) (rec x0 x1 x2 X)) (r1 : Nat) (v3 : Int32) (v4 : Int32) (X : St) (hX : fq wR_rou_take wF_rou_take X0 X) : PO (fun r => fq wR_rou_take wF_rou_take X0 r) (rou_take_L20_B n rec r1 v3 v4 X) := by
  unfold rou_take_L20_B
  refine po_ite (fun hb1 => ?_) (fun _ => ?_)
  · refine po_ite (fun hb2 => ?_) (fun _ => po_none)
    refine po_ite (fun hb3 => ?_) (fun _ => ?_)
    · exact po_some hX
    refine po_ite (fun hb4 => ?_) (fun _ => po_none)
    refine po_ite (fun hb5 => ?_) (fun _ => po_none)
    refine qo_nmX (fq_I (fq_I hX (wr_o (by decide))) (wr_f (by decide))) (fun X2 hX2 => ?_)
    exact hrec r1 v3 (v4 + (1 : Int32)) X2 hX2
  exact po_some hX
theorem fq_rou_take_L20 (n : Nat) (X0 : St) : ∀ (w : Nat) (r1 : Nat) (v3 : Int32) (v4 : Int32) (X : St), fq wR_rou_take wF_rou_take X0 X → PO (fun r => fq wR_rou_take wF_rou_take X0 r) (rou_take_L20 n w r1 v3 v4 X) := by
  intro w
  induction w with
  | zero => intro r1 v3 v4 X _; exact po_none
  | succ w ih => intro r1 v3 v4 X hX; exact fq_rou_take_L20_B n X0 _ ih r1 v3 v4 X hX
theorem fq_rou_take (n : Nat) (r1 : Nat) (v2 : Int32) (X0 : St) : PO (fun r => fq wR_rou_take wF_rou_take X0 r) (rou_take n r1 v2 X0) := by
  have hX0 : fq wR_rou_take wF_rou_take X0 X0 := fq_rf
  unfold rou_take
  refine po_ite (fun hb1 => ?_) (fun _ => po_none)
  refine po_bnd (fun t1 => ?_)
  refine fq_rou_take_L20 n X0 n r1 t1 (0 : Int32) (stI X0 24 1 (0 : Int32)) (fq_I hX0 (wr_f (by decide)))
theorem fq_she_hold_J21 (X0 : St) (v1 : Int32) (v2 : Int32) (s0 : Int32) (s1 : Int32) (X : St) (hX : fq wR_she_hold wF_she_hold X0 X) : PO (fun r => fq wR_she_hold wF_she_hold X0 r) (she_hold_J21 v1 v2 s0 s1 X) := by
  unfold she_hold_J21
  refine po_ite (fun hb1 => ?_) (fun _ => po_none)
  refine po_ite (fun hb2 => ?_) (fun _ => po_none)
  refine po_ite (fun hb3 => ?_) (fun _ => po_none)
  refine qo_nmX (fq_I (fq_I (fq_I hX (wr_o (by decide))) (wr_o (by decide))) (wr_o (by decide))) (fun X1 hX1 => ?_)
  exact po_some hX1
theorem fq_she_hold (v1 : Int32) (v2 : Int32) (X0 : St) : PO (fun r => fq wR_she_hold wF_she_hold X0 r) (she_hold v1 v2 X0) := by
  have hX0 : fq wR_she_hold wF_she_hold X0 X0 := fq_rf
  unfold she_hold
  refine po_ite (fun hb1 => ?_) (fun _ => ?_)
  · exact po_some hX0
  refine po_ite (fun hb2 => ?_) (fun _ => ?_)
  · refine fq_she_hold_J21  X0 v1 v2 (-1 : Int32) v1 X0 hX0
  refine fq_she_hold_J21  X0 v1 v2 (5 : Int32) v1 X0 hX0
theorem fq_tap_take (v1 : Int32) (X0 : St) : PO (fun r => fq wR_tap_take wF_tap_take X0 r.2) (tap_take v1 X0) := by
  have hX0 : fq wR_tap_take wF_tap_take X0 X0 := fq_rf
  unfold tap_take
  refine po_ite (fun hb1 => ?_) (fun _ => ?_)
  · refine po_ite (fun hb2 => ?_) (fun _ => po_none)
    refine qo_nmX (fq_I (fq_I hX0 (wr_o (by decide))) (wr_f (by decide))) (fun X1 hX1 => ?_)
    exact po_some hX1
  exact po_some hX0
theorem fq_tap_empty (X0 : St) : PO (fun r => fq wR_tap_empty wF_tap_empty X0 r) (tap_empty X0) := by
  have hX0 : fq wR_tap_empty wF_tap_empty X0 X0 := fq_rf
  unfold tap_empty
  exact po_some (fq_I hX0 (wr_f (by decide)))
theorem fq_tap_takes (v1 : Int32) (X0 : St) : PO (fun r => fq wR_tap_takes wF_tap_takes X0 r.2) (tap_takes v1 X0) := by
  have hX0 : fq wR_tap_takes wF_tap_takes X0 X0 := fq_rf
  unfold tap_takes
  refine po_ite (fun hb1 => ?_) (fun _ => ?_)
  · refine po_ite (fun hb2 => ?_) (fun _ => po_none)
    refine po_ite (fun hb3 => ?_) (fun _ => ?_)
    · exact po_some (fq_I hX0 (wr_f (by decide)))
    exact po_some hX0
  exact po_some hX0
theorem fq_tap_write (v1 : Int32) (X0 : St) : PO (fun r => fq wR_tap_write wF_tap_write X0 r) (tap_write v1 X0) := by
  have hX0 : fq wR_tap_write wF_tap_write X0 X0 := fq_rf
  unfold tap_write
  refine po_ite (fun hb1 => ?_) (fun _ => ?_)
  · refine po_ite (fun hb2 => ?_) (fun _ => po_none)
    refine qo_nmX (fq_I (fq_I hX0 (wr_o (by decide))) (wr_f (by decide))) (fun X1 hX1 => ?_)
    exact po_some hX1
  exact po_some hX0
theorem fq_tap_writeNumber_L4_B (n : Nat) (X0 : St) (rec : Int32 → Int32 → St → Option (St)) (hrec : ∀ (x0 : Int32) (x1 : Int32) X, fq wR_tap_writeNumber wF_tap_writeNumber X0 X → PO (fun r => fq wR_tap_writeNumber wF_tap_writeNumber X0 r) (rec x0 x1 X)) (v1 : Int32) (v2 : Int32) (X : St) (hX : fq wR_tap_writeNumber wF_tap_writeNumber X0 X) : PO (fun r => fq wR_tap_writeNumber wF_tap_writeNumber X0 r) (tap_writeNumber_L4_B n rec v1 v2 X) := by
  unfold tap_writeNumber_L4_B
  refine po_ite (fun hb1 => ?_) (fun _ => ?_)
  · refine po_ite (fun hb2 => ?_) (fun _ => ?_)
    · refine po_ite (fun hb3 => ?_) (fun _ => po_none)
      refine po_ite (fun hb4 => ?_) (fun _ => ?_)
      · refine qo_cV hX (fq_tap_write v1 X) (by decide) (by decide) (fun X1 hX1 => ?_)
        exact po_some hX1
      refine po_ite (fun hb5 => ?_) (fun _ => po_none)
      refine po_bnd (fun t2 => ?_)
      exact hrec t2 (v2 + (1 : Int32)) (stI X 17 3 ((X.1 17 3) + (1 : Int32))) (fq_I hX (wr_f (by decide)))
    refine qo_cV hX (fq_tap_write v1 X) (by decide) (by decide) (fun X3 hX3 => ?_)
    exact po_some hX3
  refine qo_cV hX (fq_tap_write v1 X) (by decide) (by decide) (fun X4 hX4 => ?_)
  exact po_some hX4
theorem fq_tap_writeNumber_L4 (n : Nat) (X0 : St) : ∀ (w : Nat) (v1 : Int32) (v2 : Int32) (X : St), fq wR_tap_writeNumber wF_tap_writeNumber X0 X → PO (fun r => fq wR_tap_writeNumber wF_tap_writeNumber X0 r) (tap_writeNumber_L4 n w v1 v2 X) := by
  intro w
  induction w with
  | zero => intro v1 v2 X _; exact po_none
  | succ w ih => intro v1 v2 X hX; exact fq_tap_writeNumber_L4_B n X0 _ ih v1 v2 X hX
theorem fq_tap_writeNumber (n : Nat) (X0 : St) : PO (fun r => fq wR_tap_writeNumber wF_tap_writeNumber X0 r) (tap_writeNumber n X0) := by
  have hX0 : fq wR_tap_writeNumber wF_tap_writeNumber X0 X0 := fq_rf
  unfold tap_writeNumber
  refine fq_tap_writeNumber_L4 n X0 n (0 : Int32) (0 : Int32) X0 hX0
theorem fq_tap_isLevel_L26_B (C : Nat → Int32 → Int32 → St → Option (Int32 × St)) (hC : ∀ (j : Nat) (x0 : Int32) (x1 : Int32) (X : St), PO (fun r => fq wR_tap_isLevel wF_tap_isLevel X r.2) (C j x0 x1 X)) (n : Nat) (X0 : St) (rec : Int32 → Int32 → Int32 → St → Option (Int32 × St)) (hrec : ∀ (x0 : Int32) (x1 : Int32) (x2 : Int32) X, fq wR_tap_isLevel wF_tap_isLevel X0 X → PO (fun r => fq wR_tap_isLevel wF_tap_isLevel X0 r.2) (rec x0 x1 x2 X)) (v1 : Int32) (v2 : Int32) (v3 : Int32) (X : St) (hX : fq wR_tap_isLevel wF_tap_isLevel X0 X) : PO (fun r => fq wR_tap_isLevel wF_tap_isLevel X0 r.2) (tap_isLevel_L26_B C n rec v1 v2 v3 X) := by
  unfold tap_isLevel_L26_B
  refine po_ite (fun hb1 => ?_) (fun _ => ?_)
  · refine po_ite (fun hb2 => ?_) (fun _ => ?_)
    · refine po_ite (fun hb3 => ?_) (fun _ => po_none)
      refine po_ite (fun hb4 => ?_) (fun _ => ?_)
      · refine po_ite (fun hb5 => ?_) (fun _ => po_none)
        refine qo_cI (fq_I hX (wr_f (by decide))) (hC 0 (v1 + (1 : Int32)) v2 (stI X 17 3 ((X.1 17 3) + (1 : Int32)))) (by decide) (by decide) (fun c4 X3 hX3 => ?_)
        refine po_ite (fun hb6 => ?_) (fun _ => ?_)
        · exact po_some hX3
        refine qo_cV hX3 (fq_tap_write (- (X.1 18 (nx (X.1 17 3)))) X3) (by decide) (by decide) (fun X5 hX5 => ?_)
        refine po_ite (fun hb7 => ?_) (fun _ => ?_)
        · exact po_some hX5
        exact hrec v1 v2 (v3 + (1 : Int32)) X5 hX5
      exact po_some hX
    exact po_some hX
  exact po_some hX
theorem fq_tap_isLevel_L26 (C : Nat → Int32 → Int32 → St → Option (Int32 × St)) (hC : ∀ (j : Nat) (x0 : Int32) (x1 : Int32) (X : St), PO (fun r => fq wR_tap_isLevel wF_tap_isLevel X r.2) (C j x0 x1 X)) (n : Nat) (X0 : St) : ∀ (w : Nat) (v1 : Int32) (v2 : Int32) (v3 : Int32) (X : St), fq wR_tap_isLevel wF_tap_isLevel X0 X → PO (fun r => fq wR_tap_isLevel wF_tap_isLevel X0 r.2) (tap_isLevel_L26 C n w v1 v2 v3 X) := by
  intro w
  induction w with
  | zero => intro v1 v2 v3 X _; exact po_none
  | succ w ih => intro v1 v2 v3 X hX; exact fq_tap_isLevel_L26_B C hC n X0 _ ih v1 v2 v3 X hX
theorem fq_tap_isLevel_G (C : Nat → Int32 → Int32 → St → Option (Int32 × St)) (hC : ∀ (j : Nat) (x0 : Int32) (x1 : Int32) (X : St), PO (fun r => fq wR_tap_isLevel wF_tap_isLevel X r.2) (C j x0 x1 X)) (n : Nat) (v1 : Int32) (v2 : Int32) (X0 : St) : PO (fun r => fq wR_tap_isLevel wF_tap_isLevel X0 r.2) (tap_isLevel_G C n v1 v2 X0) := by
  have hX0 : fq wR_tap_isLevel wF_tap_isLevel X0 X0 := fq_rf
  unfold tap_isLevel_G
  refine po_ite (fun hb1 => ?_) (fun _ => ?_)
  · refine qo_cI hX0 (hC 0 (v1 + (1 : Int32)) v2 X0) (by decide) (by decide) (fun c2 X1 hX1 => ?_)
    refine po_ite (fun hb2 => ?_) (fun _ => ?_)
    · exact po_some hX1
    refine fq_tap_isLevel_L26 C hC n X0 n v1 v2 (0 : Int32) X1 hX1
  refine qo_cI hX0 (hC 1 v2 0 X0) (by decide) (by decide) (fun c7 X6 hX6 => ?_)
  refine po_ite (fun hb3 => ?_) (fun _ => po_none)
  exact po_some hX6
theorem fq_tap_isFactor_G (C : Nat → Int32 → Int32 → St → Option (Int32 × St)) (hC : ∀ (j : Nat) (x0 : Int32) (x1 : Int32) (X : St), PO (fun r => fq wR_tap_isLevel wF_tap_isLevel X r.2) (C j x0 x1 X)) (n : Nat) (v1 : Int32) (X0 : St) : PO (fun r => fq wR_tap_isLevel wF_tap_isLevel X0 r.2) (tap_isFactor_G C n v1 X0) := by
  have hX0 : fq wR_tap_isLevel wF_tap_isLevel X0 X0 := fq_rf
  unfold tap_isFactor_G
  refine po_ite (fun hb1 => ?_) (fun _ => ?_)
  · refine po_ite (fun hb2 => ?_) (fun _ => po_none)
    refine po_ite (fun hb3 => ?_) (fun _ => ?_)
    · refine po_bnd (fun t1 => ?_)
      refine po_ite (fun hb4 => ?_) (fun _ => ?_)
      · refine po_ite (fun hb5 => ?_) (fun _ => ?_)
        · refine qo_cI hX0 (hC 2 (X0.1 18 (nx (X0.1 17 3))) (v1 + (1 : Int32)) X0) (by decide) (by decide) (fun c3 X2 hX2 => ?_)
          refine po_ite (fun hb6 => ?_) (fun _ => ?_)
          · exact po_some hX2
          exact po_some hX2
        exact po_some hX0
      refine qo_cV (fq_I hX0 (wr_f (by decide))) (fq_tap_write ((-1 : Int32) - t1) (stI X0 17 3 ((X0.1 17 3) + (1 : Int32)))) (by decide) (by decide) (fun X4 hX4 => ?_)
      exact po_some hX4
    refine qo_cV hX0 (fq_tap_writeNumber n X0) (by decide) (by decide) (fun X5 hX5 => ?_)
    exact po_some hX5
  exact po_some hX0
theorem fq_tap_isOpened_J20 (C : Nat → Int32 → Int32 → St → Option (Int32 × St)) (hC : ∀ (j : Nat) (x0 : Int32) (x1 : Int32) (X : St), PO (fun r => fq wR_tap_isLevel wF_tap_isLevel X r.2) (C j x0 x1 X)) (n : Nat) (X0 : St) (v1 : Int32) (v2 : Int32) (X : St) (hX : fq wR_tap_isLevel wF_tap_isLevel X0 X) : PO (fun r => fq wR_tap_isLevel wF_tap_isLevel X0 r.2) (tap_isOpened_J20 C n v1 v2 X) := by
  unfold tap_isOpened_J20
  refine po_ite (fun hb1 => ?_) (fun _ => ?_)
  · refine qo_cI (fq_I hX (wr_f (by decide))) (hC 0 (0 : Int32) v2 (stI X 17 3 ((X.1 17 3) + (1 : Int32)))) (by decide) (by decide) (fun c2 X1 hX1 => ?_)
    refine po_ite (fun hb2 => ?_) (fun _ => ?_)
    · exact po_some hX1
    refine qo_cI hX1 (fq_tap_takes (41 : Int32) X1) (by decide) (by decide) (fun c4 X3 hX3 => ?_)
    refine po_ite (fun hb3 => ?_) (fun _ => ?_)
    · exact po_some hX3
    exact po_some hX3
  refine qo_cI (fq_I hX (wr_f (by decide))) (hC 1 v2 0 (stI X 17 3 ((X.1 17 3) + (1 : Int32)))) (by decide) (by decide) (fun c6 X5 hX5 => ?_)
  refine po_ite (fun hb4 => ?_) (fun _ => ?_)
  · exact po_some hX5
  refine po_ite (fun hb5 => ?_) (fun _ => ?_)
  · refine qo_cV hX5 (fq_tap_write (-33 : Int32) X5) (by decide) (by decide) (fun X7 hX7 => ?_)
    exact po_some hX7
  refine qo_cV hX5 (fq_tap_write (-126 : Int32) X5) (by decide) (by decide) (fun X8 hX8 => ?_)
  exact po_some hX8
theorem fq_tap_isOpened_G (C : Nat → Int32 → Int32 → St → Option (Int32 × St)) (hC : ∀ (j : Nat) (x0 : Int32) (x1 : Int32) (X : St), PO (fun r => fq wR_tap_isLevel wF_tap_isLevel X r.2) (C j x0 x1 X)) (n : Nat) (v1 : Int32) (v2 : Int32) (X0 : St) : PO (fun r => fq wR_tap_isLevel wF_tap_isLevel X0 r.2) (tap_isOpened_G C n v1 v2 X0) := by
  have hX0 : fq wR_tap_isLevel wF_tap_isLevel X0 X0 := fq_rf
  unfold tap_isOpened_G
  refine po_ite (fun hb1 => ?_) (fun _ => ?_)
  · refine fq_tap_isOpened_J20 C hC n X0 v1 v2 X0 hX0
  refine po_ite (fun hb2 => ?_) (fun _ => ?_)
  · refine fq_tap_isOpened_J20 C hC n X0 v1 v2 X0 hX0
  refine po_ite (fun hb3 => ?_) (fun _ => ?_)
  · refine fq_tap_isOpened_J20 C hC n X0 v1 v2 X0 hX0
  exact po_some hX0
theorem fq_tap_isLevel_grp (n : Nat) : ∀ (d j : Nat) (x0 : Int32) (x1 : Int32) (X : St), PO (fun r => fq wR_tap_isLevel wF_tap_isLevel X r.2) (tap_isLevel_grp n d j x0 x1 X) := by
  intro d
  induction d with
  | zero => intro j x0 x1 X; exact po_none
  | succ d ih =>
    intro j x0 x1 X
    show PO _ (if j = 0 then tap_isLevel_G (tap_isLevel_grp n d) n x0 x1 X else if j = 1 then tap_isFactor_G (tap_isLevel_grp n d) n x0 X else tap_isOpened_G (tap_isLevel_grp n d) n x0 x1 X)
    refine po_ite (fun _ => ?_) (fun _ => ?_)
    · exact fq_tap_isLevel_G (tap_isLevel_grp n d) ih n x0 x1 X
    refine po_ite (fun _ => ?_) (fun _ => ?_)
    · exact fq_tap_isFactor_G (tap_isLevel_grp n d) ih n x0 X
    exact fq_tap_isOpened_G (tap_isLevel_grp n d) ih n x0 x1 X
theorem fq_tap_isLevel (n : Nat) (v1 : Int32) (v2 : Int32) (X : St) : PO (fun r => fq wR_tap_isLevel wF_tap_isLevel X r.2) (tap_isLevel n v1 v2 X) := fq_tap_isLevel_grp n DEP 0 v1 v2 X
theorem fq_tap_isFactor (n : Nat) (v1 : Int32) (X : St) : PO (fun r => fq wR_tap_isLevel wF_tap_isLevel X r.2) (tap_isFactor n v1 X) := fq_tap_isLevel_grp n DEP 1 v1 0 X
theorem fq_tap_isOpened (n : Nat) (v1 : Int32) (v2 : Int32) (X : St) : PO (fun r => fq wR_tap_isLevel wF_tap_isLevel X r.2) (tap_isOpened n v1 v2 X) := fq_tap_isLevel_grp n DEP 2 v1 v2 X
theorem fq_tap_isLine (n : Nat) (X0 : St) : PO (fun r => fq wR_tap_isLine wF_tap_isLine X0 r.2) (tap_isLine n X0) := by
  have hX0 : fq wR_tap_isLine wF_tap_isLine X0 X0 := fq_rf
  unfold tap_isLine
  refine qo_cI hX0 (fq_tap_isLevel n (0 : Int32) (0 : Int32) X0) (by decide) (by decide) (fun c2 X1 hX1 => ?_)
  refine po_ite (fun hb1 => ?_) (fun _ => ?_)
  · exact po_some hX1
  refine qo_cI hX1 (fq_tap_takes (63 : Int32) X1) (by decide) (by decide) (fun c4 X3 hX3 => ?_)
  refine po_ite (fun hb2 => ?_) (fun _ => ?_)
  · refine qo_cV hX3 (fq_tap_write (-59 : Int32) X3) (by decide) (by decide) (fun X5 hX5 => ?_)
    exact po_some hX5
  refine qo_cV hX3 (fq_tap_write (-63 : Int32) X3) (by decide) (by decide) (fun X6 hX6 => ?_)
  refine qo_cI hX6 (fq_tap_isLevel n (0 : Int32) (0 : Int32) X6) (by decide) (by decide) (fun c8 X7 hX7 => ?_)
  refine po_ite (fun hb3 => ?_) (fun _ => ?_)
  · exact po_some hX7
  refine qo_cV hX7 (fq_tap_write (-59 : Int32) X7) (by decide) (by decide) (fun X9 hX9 => ?_)
  exact po_some hX9
theorem fq_tap_isText_L12_B (n : Nat) (X0 : St) (rec : Int32 → St → Option (Int32 × St)) (hrec : ∀ (x0 : Int32) X, fq wR_tap_isText wF_tap_isText X0 X → PO (fun r => fq wR_tap_isText wF_tap_isText X0 r.2) (rec x0 X)) (v1 : Int32) (X : St) (hX : fq wR_tap_isText wF_tap_isText X0 X) : PO (fun r => fq wR_tap_isText wF_tap_isText X0 r.2) (tap_isText_L12_B n rec v1 X) := by
  unfold tap_isText_L12_B
  refine po_ite (fun hb1 => ?_) (fun _ => ?_)
  · exact po_some hX
  refine qo_cI hX (fq_tap_isLine n X) (by decide) (by decide) (fun c2 X1 hX1 => ?_)
  refine po_ite (fun hb2 => ?_) (fun _ => ?_)
  · exact po_some hX1
  refine po_ite (fun hb3 => ?_) (fun _ => ?_)
  · refine qo_cI hX1 (fq_tap_takes (59 : Int32) X1) (by decide) (by decide) (fun c4 X3 hX3 => ?_)
    refine po_ite (fun hb4 => ?_) (fun _ => ?_)
    · exact po_some hX3
    exact hrec (v1 + (1 : Int32)) X3 hX3
  exact po_some hX1
theorem fq_tap_isText_L12 (n : Nat) (X0 : St) : ∀ (w : Nat) (v1 : Int32) (X : St), fq wR_tap_isText wF_tap_isText X0 X → PO (fun r => fq wR_tap_isText wF_tap_isText X0 r.2) (tap_isText_L12 n w v1 X) := by
  intro w
  induction w with
  | zero => intro v1 X _; exact po_none
  | succ w ih => intro v1 X hX; exact fq_tap_isText_L12_B n X0 _ ih v1 X hX
theorem fq_tap_isText (n : Nat) (X0 : St) : PO (fun r => fq wR_tap_isText wF_tap_isText X0 r.2) (tap_isText n X0) := by
  have hX0 : fq wR_tap_isText wF_tap_isText X0 X0 := fq_rf
  unfold tap_isText
  refine fq_tap_isText_L12 n X0 n (0 : Int32) (stI (stI X0 17 3 (0 : Int32)) 17 4 (0 : Int32)) (fq_I (fq_I hX0 (wr_f (by decide))) (wr_f (by decide)))
theorem fq_tho_compare_L15_B (n : Nat) (X0 : St) (k70 : Int32 → St → Option (St)) (hk70 : ∀ (x0 : Int32) X, fq wR_tho_compare wF_tho_compare X0 X → PO (fun r => fq wR_tho_compare wF_tho_compare X0 r) (k70 x0 X)) (rec : Int32 → Int32 → St → Option (St)) (hrec : ∀ (x0 : Int32) (x1 : Int32) X, fq wR_tho_compare wF_tho_compare X0 X → PO (fun r => fq wR_tho_compare wF_tho_compare X0 r) (rec x0 x1 X)) (v1 : Int32) (v2 : Int32) (X : St) (hX : fq wR_tho_compare wF_tho_compare X0 X) : PO (fun r => fq wR_tho_compare wF_tho_compare X0 r) (tho_compare_L15_B n k70 rec v1 v2 X) := by
  unfold tho_compare_L15_B
  refine po_ite (fun hb1 => ?_) (fun _ => ?_)
  · refine po_ite (fun hb2 => ?_) (fun _ => po_none)
    refine po_bnd (fun c1 => ?_)
    refine po_bnd (fun c2 => ?_)
    refine po_ite (fun hb3 => ?_) (fun _ => po_none)
    refine po_ite (fun hb4 => ?_) (fun _ => po_none)
    refine po_bnd (fun c3 => ?_)
    refine po_ite (fun hb5 => ?_) (fun _ => po_none)
    refine qo_nmX (fq_I (fq_I hX (wr_d 31 38 (by decide) (by decide) (by decide) hb4)) (wr_d 40 47 (by decide) (by decide) (by decide) hb4)) (fun X4 hX4 => ?_)
    exact hrec v1 (v2 + (1 : Int32)) X4 hX4
  exact hk70 v1 X hX
theorem fq_tho_compare_L15 (n : Nat) (X0 : St) (k70 : Int32 → St → Option (St)) (hk70 : ∀ (x0 : Int32) X, fq wR_tho_compare wF_tho_compare X0 X → PO (fun r => fq wR_tho_compare wF_tho_compare X0 r) (k70 x0 X)) : ∀ (w : Nat) (v1 : Int32) (v2 : Int32) (X : St), fq wR_tho_compare wF_tho_compare X0 X → PO (fun r => fq wR_tho_compare wF_tho_compare X0 r) (tho_compare_L15 n k70 w v1 v2 X) := by
  intro w
  induction w with
  | zero => intro v1 v2 X _; exact po_none
  | succ w ih => intro v1 v2 X hX; exact fq_tho_compare_L15_B n X0 k70 hk70 _ ih v1 v2 X hX
theorem fq_tho_compare_L2_B (n : Nat) (X0 : St) (rec : Int32 → St → Option (St)) (hrec : ∀ (x0 : Int32) X, fq wR_tho_compare wF_tho_compare X0 X → PO (fun r => fq wR_tho_compare wF_tho_compare X0 r) (rec x0 X)) (v1 : Int32) (X : St) (hX : fq wR_tho_compare wF_tho_compare X0 X) : PO (fun r => fq wR_tho_compare wF_tho_compare X0 r) (tho_compare_L2_B n rec v1 X) := by
  unfold tho_compare_L2_B
  refine po_ite (fun hb1 => ?_) (fun _ => ?_)
  · refine fq_tho_compare_L15 n X0 _ (fun v6 X5 hX5 => ?_) n v1 (0 : Int32) X hX
    exact hrec (v6 + (1 : Int32)) X5 hX5
  exact po_some hX
theorem fq_tho_compare_L2 (n : Nat) (X0 : St) : ∀ (w : Nat) (v1 : Int32) (X : St), fq wR_tho_compare wF_tho_compare X0 X → PO (fun r => fq wR_tho_compare wF_tho_compare X0 r) (tho_compare_L2 n w v1 X) := by
  intro w
  induction w with
  | zero => intro v1 X _; exact po_none
  | succ w ih => intro v1 X hX; exact fq_tho_compare_L2_B n X0 _ ih v1 X hX
theorem fq_tho_compare (n : Nat) (X0 : St) : PO (fun r => fq wR_tho_compare wF_tho_compare X0 r) (tho_compare n X0) := by
  have hX0 : fq wR_tho_compare wF_tho_compare X0 X0 := fq_rf
  unfold tho_compare
  refine fq_tho_compare_L2 n X0 n (0 : Int32) X0 hX0
theorem fq_tho_ready_L2_B (n : Nat) (X0 : St) (k49 : St → Option (St)) (hk49 : ∀  X, fq wR_tho_ready wF_tho_ready X0 X → PO (fun r => fq wR_tho_ready wF_tho_ready X0 r) (k49  X)) (rec : Int32 → St → Option (St)) (hrec : ∀ (x0 : Int32) X, fq wR_tho_ready wF_tho_ready X0 X → PO (fun r => fq wR_tho_ready wF_tho_ready X0 r) (rec x0 X)) (v1 : Int32) (X : St) (hX : fq wR_tho_ready wF_tho_ready X0 X) : PO (fun r => fq wR_tho_ready wF_tho_ready X0 r) (tho_ready_L2_B n k49 rec v1 X) := by
  unfold tho_ready_L2_B
  refine po_ite (fun hb1 => ?_) (fun _ => ?_)
  · refine po_bnd (fun c1 => ?_)
    refine po_ite (fun hb2 => ?_) (fun _ => po_none)
    refine po_bnd (fun c2 => ?_)
    refine po_ite (fun hb3 => ?_) (fun _ => po_none)
    exact hrec (v1 + (1 : Int32)) (stI (stI X 28 (nx v1) c1) 29 (nx v1) c2) (fq_I (fq_I hX (wr_o (by decide))) (wr_o (by decide)))
  exact hk49 X hX
theorem fq_tho_ready_L2 (n : Nat) (X0 : St) (k49 : St → Option (St)) (hk49 : ∀  X, fq wR_tho_ready wF_tho_ready X0 X → PO (fun r => fq wR_tho_ready wF_tho_ready X0 r) (k49  X)) : ∀ (w : Nat) (v1 : Int32) (X : St), fq wR_tho_ready wF_tho_ready X0 X → PO (fun r => fq wR_tho_ready wF_tho_ready X0 r) (tho_ready_L2 n k49 w v1 X) := by
  intro w
  induction w with
  | zero => intro v1 X _; exact po_none
  | succ w ih => intro v1 X hX; exact fq_tho_ready_L2_B n X0 k49 hk49 _ ih v1 X hX
theorem fq_tho_ready (n : Nat) (X0 : St) : PO (fun r => fq wR_tho_ready wF_tho_ready X0 r) (tho_ready n X0) := by
  have hX0 : fq wR_tho_ready wF_tho_ready X0 X0 := fq_rf
  unfold tho_ready
  refine fq_tho_ready_L2 n X0 _ (fun X3 hX3 => ?_) n (0 : Int32) X0 hX0
  refine po_bnd (fun c4 => ?_)
  refine po_bnd (fun c5 => ?_)
  refine qo_cV (fq_I (fq_I (fq_I hX3 (wr_f (by decide))) (wr_f (by decide))) (wr_f (by decide))) (fq_tho_compare n (stI (stI (stI X3 26 9 c4) 26 10 c5) 26 12 (-1 : Int32))) (by decide) (by decide) (fun X6 hX6 => ?_)
  exact po_some hX6
theorem fq_tho_slipAt (v1 : Int32) (v2 : Int32) (v3 : Int32) (X0 : St) : PO (fun r => fq wR_tho_slipAt wF_tho_slipAt X0 r) (tho_slipAt v1 v2 v3 X0) := by
  have hX0 : fq wR_tho_slipAt wF_tho_slipAt X0 X0 := fq_rf
  unfold tho_slipAt
  exact po_some (fq_I (fq_I (fq_I hX0 (wr_f (by decide))) (wr_f (by decide))) (wr_f (by decide)))
theorem fq_tho_leadBy (v1 : Int32) (X0 : St) : PO (fun r => fq wR_tho_leadBy wF_tho_leadBy X0 r) (tho_leadBy v1 X0) := by
  have hX0 : fq wR_tho_leadBy wF_tho_leadBy X0 X0 := fq_rf
  unfold tho_leadBy
  exact po_some (fq_I hX0 (wr_f (by decide)))
theorem fq_tho_quicken (v1 : Int32) (v2 : Int32) (X0 : St) : PO (fun r => fq wR_tho_quicken wF_tho_quicken X0 r) (tho_quicken v1 v2 X0) := by
  have hX0 : fq wR_tho_quicken wF_tho_quicken X0 X0 := fq_rf
  unfold tho_quicken
  refine po_ite (fun hb1 => ?_) (fun _ => ?_)
  · exact po_some hX0
  refine po_ite (fun hb2 => ?_) (fun _ => po_none)
  exact po_some (fq_I hX0 (wr_o (by decide)))
theorem fq_tho_delay (v1 : Int32) (v2 : Int32) (X0 : St) : PO (fun r => fq wR_tho_delay wF_tho_delay X0 r) (tho_delay v1 v2 X0) := by
  have hX0 : fq wR_tho_delay wF_tho_delay X0 X0 := fq_rf
  unfold tho_delay
  refine po_ite (fun hb1 => ?_) (fun _ => ?_)
  · exact po_some hX0
  refine po_ite (fun hb2 => ?_) (fun _ => po_none)
  exact po_some (fq_I hX0 (wr_o (by decide)))
theorem fq_tho_step_L2_B (n : Nat) (X0 : St) (k34 : Int32 → St → Option (St)) (hk34 : ∀ (x0 : Int32) X, fq wR_tho_step wF_tho_step X0 X → PO (fun r => fq wR_tho_step wF_tho_step X0 r) (k34 x0 X)) (rec : Int32 → Int32 → St → Option (St)) (hrec : ∀ (x0 : Int32) (x1 : Int32) X, fq wR_tho_step wF_tho_step X0 X → PO (fun r => fq wR_tho_step wF_tho_step X0 r) (rec x0 x1 X)) (v1 : Int32) (v2 : Int32) (X : St) (hX : fq wR_tho_step wF_tho_step X0 X) : PO (fun r => fq wR_tho_step wF_tho_step X0 r) (tho_step_L2_B n k34 rec v1 v2 X) := by
  unfold tho_step_L2_B
  refine po_ite (fun hb1 => ?_) (fun _ => ?_)
  · refine po_ite (fun hb2 => ?_) (fun _ => po_none)
    refine po_ite (fun hb3 => ?_) (fun _ => po_none)
    refine po_ite (fun hb4 => ?_) (fun _ => po_none)
    exact hrec v1 (v2 + (1 : Int32)) (stI X 27 (nx v2) ((X.1 27 (nx v2)) + (X.1 28 (nx v2)))) (fq_I hX (wr_o (by decide)))
  exact hk34 v1 X hX
theorem fq_tho_step_L2 (n : Nat) (X0 : St) (k34 : Int32 → St → Option (St)) (hk34 : ∀ (x0 : Int32) X, fq wR_tho_step wF_tho_step X0 X → PO (fun r => fq wR_tho_step wF_tho_step X0 r) (k34 x0 X)) : ∀ (w : Nat) (v1 : Int32) (v2 : Int32) (X : St), fq wR_tho_step wF_tho_step X0 X → PO (fun r => fq wR_tho_step wF_tho_step X0 r) (tho_step_L2 n k34 w v1 v2 X) := by
  intro w
  induction w with
  | zero => intro v1 v2 X _; exact po_none
  | succ w ih => intro v1 v2 X hX; exact fq_tho_step_L2_B n X0 k34 hk34 _ ih v1 v2 X hX
theorem fq_tho_step_L65_B (n : Nat) (X0 : St) (rec : Int32 → Int32 → St → Option (St)) (hrec : ∀ (x0 : Int32) (x1 : Int32) X, fq wR_tho_step wF_tho_step X0 X → PO (fun r => fq wR_tho_step wF_tho_step X0 r) (rec x0 x1 X)) (v2 : Int32) (v3 : Int32) (X : St) (hX : fq wR_tho_step wF_tho_step X0 X) : PO (fun r => fq wR_tho_step wF_tho_step X0 r) (tho_step_L65_B n rec v2 v3 X) := by
  unfold tho_step_L65_B
  refine po_ite (fun hb1 => ?_) (fun _ => ?_)
  · refine po_ite (fun hb2 => ?_) (fun _ => po_none)
    exact hrec v2 (v3 + (1 : Int32)) (stI X 27 (nx v3) v2) (fq_I hX (wr_o (by decide)))
  exact po_some hX
theorem fq_tho_step_L65 (n : Nat) (X0 : St) : ∀ (w : Nat) (v2 : Int32) (v3 : Int32) (X : St), fq wR_tho_step wF_tho_step X0 X → PO (fun r => fq wR_tho_step wF_tho_step X0 r) (tho_step_L65 n w v2 v3 X) := by
  intro w
  induction w with
  | zero => intro v2 v3 X _; exact po_none
  | succ w ih => intro v2 v3 X hX; exact fq_tho_step_L65_B n X0 _ ih v2 v3 X hX
theorem fq_tho_step (n : Nat) (v1 : Int32) (X0 : St) : PO (fun r => fq wR_tho_step wF_tho_step X0 r) (tho_step n v1 X0) := by
  have hX0 : fq wR_tho_step wF_tho_step X0 X0 := fq_rf
  unfold tho_step
  refine fq_tho_step_L2 n X0 _ (fun v2 X1 hX1 => ?_) n v1 (0 : Int32) X0 hX0
  refine po_ite (fun hb1 => ?_) (fun _ => ?_)
  · refine po_ite (fun hb2 => ?_) (fun _ => ?_)
    · exact po_some hX1
    refine po_ite (fun hb3 => ?_) (fun _ => po_none)
    refine fq_tho_step_L65 n X0 n (X1.1 27 (nx (X1.1 26 9))) (0 : Int32) X1 hX1
  exact po_some hX1
theorem fq_tho_still_L2_B (n : Nat) (X0 : St) (rec : Int32 → St → Option (St)) (hrec : ∀ (x0 : Int32) X, fq wR_tho_still wF_tho_still X0 X → PO (fun r => fq wR_tho_still wF_tho_still X0 r) (rec x0 X)) (v1 : Int32) (X : St) (hX : fq wR_tho_still wF_tho_still X0 X) : PO (fun r => fq wR_tho_still wF_tho_still X0 r) (tho_still_L2_B n rec v1 X) := by
  unfold tho_still_L2_B
  refine po_ite (fun hb1 => ?_) (fun _ => ?_)
  · refine po_ite (fun hb2 => ?_) (fun _ => po_none)
    exact hrec (v1 + (1 : Int32)) (stI X 27 (nx v1) (0 : Int32)) (fq_I hX (wr_o (by decide)))
  exact po_some hX
theorem fq_tho_still_L2 (n : Nat) (X0 : St) : ∀ (w : Nat) (v1 : Int32) (X : St), fq wR_tho_still wF_tho_still X0 X → PO (fun r => fq wR_tho_still wF_tho_still X0 r) (tho_still_L2 n w v1 X) := by
  intro w
  induction w with
  | zero => intro v1 X _; exact po_none
  | succ w ih => intro v1 X hX; exact fq_tho_still_L2_B n X0 _ ih v1 X hX
theorem fq_tho_still (n : Nat) (X0 : St) : PO (fun r => fq wR_tho_still wF_tho_still X0 r) (tho_still n X0) := by
  have hX0 : fq wR_tho_still wF_tho_still X0 X0 := fq_rf
  unfold tho_still
  refine fq_tho_still_L2 n X0 n (0 : Int32) X0 hX0
theorem fq_tho_think_L6_B (n : Nat) (X0 : St) (rec : Int32 → Int32 → St → Option (St)) (hrec : ∀ (x0 : Int32) (x1 : Int32) X, fq wR_tho_think wF_tho_think X0 X → PO (fun r => fq wR_tho_think wF_tho_think X0 r) (rec x0 x1 X)) (v1 : Int32) (v2 : Int32) (X : St) (hX : fq wR_tho_think wF_tho_think X0 X) : PO (fun r => fq wR_tho_think wF_tho_think X0 r) (tho_think_L6_B n rec v1 v2 X) := by
  unfold tho_think_L6_B
  refine po_ite (fun hb1 => ?_) (fun _ => ?_)
  · refine po_bnd (fun c2 => ?_)
    refine qo_cV hX (fq_tho_step n c2 X) (by decide) (by decide) (fun X3 hX3 => ?_)
    exact hrec v1 (v2 + (1 : Int32)) X3 hX3
  exact po_some hX
theorem fq_tho_think_L6 (n : Nat) (X0 : St) : ∀ (w : Nat) (v1 : Int32) (v2 : Int32) (X : St), fq wR_tho_think wF_tho_think X0 X → PO (fun r => fq wR_tho_think wF_tho_think X0 r) (tho_think_L6 n w v1 v2 X) := by
  intro w
  induction w with
  | zero => intro v1 v2 X _; exact po_none
  | succ w ih => intro v1 v2 X hX; exact fq_tho_think_L6_B n X0 _ ih v1 v2 X hX
theorem fq_tho_think (n : Nat) (v1 : Int32) (X0 : St) : PO (fun r => fq wR_tho_think wF_tho_think X0 r) (tho_think n v1 X0) := by
  have hX0 : fq wR_tho_think wF_tho_think X0 X0 := fq_rf
  unfold tho_think
  refine qo_cV hX0 (fq_tho_still n X0) (by decide) (by decide) (fun X1 hX1 => ?_)
  refine fq_tho_think_L6 n X0 n v1 (0 : Int32) X1 hX1
theorem fq_tho_firstSeen_L6_B (n : Nat) (X0 : St) (rec : Int32 → St → Option (Int32 × St)) (hrec : ∀ (x0 : Int32) X, fq wR_tho_firstSeen wF_tho_firstSeen X0 X → PO (fun r => fq wR_tho_firstSeen wF_tho_firstSeen X0 r.2) (rec x0 X)) (v1 : Int32) (X : St) (hX : fq wR_tho_firstSeen wF_tho_firstSeen X0 X) : PO (fun r => fq wR_tho_firstSeen wF_tho_firstSeen X0 r.2) (tho_firstSeen_L6_B n rec v1 X) := by
  unfold tho_firstSeen_L6_B
  refine po_ite (fun hb1 => ?_) (fun _ => ?_)
  · refine po_bnd (fun c2 => ?_)
    refine qo_cV hX (fq_tho_step n c2 X) (by decide) (by decide) (fun X3 hX3 => ?_)
    refine po_bnd (fun c4 => ?_)
    refine po_ite (fun hb2 => ?_) (fun _ => ?_)
    · exact hrec (v1 + (1 : Int32)) X3 hX3
    exact po_some hX3
  exact po_some hX
theorem fq_tho_firstSeen_L6 (n : Nat) (X0 : St) : ∀ (w : Nat) (v1 : Int32) (X : St), fq wR_tho_firstSeen wF_tho_firstSeen X0 X → PO (fun r => fq wR_tho_firstSeen wF_tho_firstSeen X0 r.2) (tho_firstSeen_L6 n w v1 X) := by
  intro w
  induction w with
  | zero => intro v1 X _; exact po_none
  | succ w ih => intro v1 X hX; exact fq_tho_firstSeen_L6_B n X0 _ ih v1 X hX
theorem fq_tho_firstSeen (n : Nat) (X0 : St) : PO (fun r => fq wR_tho_firstSeen wF_tho_firstSeen X0 r.2) (tho_firstSeen n X0) := by
  have hX0 : fq wR_tho_firstSeen wF_tho_firstSeen X0 X0 := fq_rf
  unfold tho_firstSeen
  refine qo_cV hX0 (fq_tho_still n X0) (by decide) (by decide) (fun X1 hX1 => ?_)
  refine fq_tho_firstSeen_L6 n X0 n (0 : Int32) X1 hX1
theorem fq_tho_marksOfTwo (n : Nat) (v1 : Int32) (v2 : Int32) (v3 : Int32) (v4 : Int32) (v5 : Int32) (X0 : St) : PO (fun r => fq wR_tho_marksOfTwo wF_tho_marksOfTwo X0 r.2) (tho_marksOfTwo n v1 v2 v3 v4 v5 X0) := by
  have hX0 : fq wR_tho_marksOfTwo wF_tho_marksOfTwo X0 X0 := fq_rf
  unfold tho_marksOfTwo
  refine po_ite (fun hb1 => ?_) (fun _ => ?_)
  · exact po_some hX0
  refine po_ite (fun hb2 => ?_) (fun _ => ?_)
  · exact po_some hX0
  refine po_ite (fun hb3 => ?_) (fun _ => po_none)
  refine po_ite (fun hb4 => ?_) (fun _ => po_none)
  refine po_ite (fun hb5 => ?_) (fun _ => po_none)
  refine po_ite (fun hb6 => ?_) (fun _ => po_none)
  refine qo_cI hX0 (fq_rul_marks n v3 v4 (X0.1 (31 + nx v1) (nx v2)) (X0.1 (40 + nx v1) (nx v2)) v5 (X0.1 26 10) X0) (by decide) (by decide) (fun c2 X1 hX1 => ?_)
  exact po_some hX1
theorem fq_tho_marksBehind_L32_B (n : Nat) (X0 : St) (k113 : Int32 → Int32 → Int32 → Int32 → St → Option (Int32 × St)) (hk113 : ∀ (x0 : Int32) (x1 : Int32) (x2 : Int32) (x3 : Int32) X, fq wR_tho_marksBehind wF_tho_marksBehind X0 X → PO (fun r => fq wR_tho_marksBehind wF_tho_marksBehind X0 r.2) (k113 x0 x1 x2 x3 X)) (rec : Int32 → Int32 → Int32 → Int32 → Int32 → St → Option (Int32 × St)) (hrec : ∀ (x0 : Int32) (x1 : Int32) (x2 : Int32) (x3 : Int32) (x4 : Int32) X, fq wR_tho_marksBehind wF_tho_marksBehind X0 X → PO (fun r => fq wR_tho_marksBehind wF_tho_marksBehind X0 r.2) (rec x0 x1 x2 x3 x4 X)) (v1 : Int32) (v2 : Int32) (v3 : Int32) (v4 : Int32) (v5 : Int32) (X : St) (hX : fq wR_tho_marksBehind wF_tho_marksBehind X0 X) : PO (fun r => fq wR_tho_marksBehind wF_tho_marksBehind X0 r.2) (tho_marksBehind_L32_B n k113 rec v1 v2 v3 v4 v5 X) := by
  unfold tho_marksBehind_L32_B
  refine po_ite (fun hb1 => ?_) (fun _ => ?_)
  · refine po_bnd (fun c2 => ?_)
    refine po_ite (fun hb2 => ?_) (fun _ => po_none)
    refine po_ite (fun hb3 => ?_) (fun _ => po_none)
    refine po_ite (fun hb4 => ?_) (fun _ => po_none)
    refine po_ite (fun hb5 => ?_) (fun _ => po_none)
    refine qo_cI hX (fq_rul_marks n c2 v2 (X.1 (31 + nx v4) (nx v5)) (X.1 (40 + nx v4) (nx v5)) v1 (X.1 26 10) X) (by decide) (by decide) (fun c4 X3 hX3 => ?_)
    refine po_ite (fun hb6 => ?_) (fun _ => po_none)
    refine po_ite (fun hb7 => ?_) (fun _ => po_none)
    refine po_ite (fun hb8 => ?_) (fun _ => po_none)
    refine qo_nmX (fq_I hX3 (wr_d 49 56 (by decide) (by decide) (by decide) hb6)) (fun X5 hX5 => ?_)
    exact hrec v1 v2 (v3 + c4) v4 (v5 + (1 : Int32)) X5 hX5
  exact hk113 v1 v2 v3 v4 X hX
theorem fq_tho_marksBehind_L32 (n : Nat) (X0 : St) (k113 : Int32 → Int32 → Int32 → Int32 → St → Option (Int32 × St)) (hk113 : ∀ (x0 : Int32) (x1 : Int32) (x2 : Int32) (x3 : Int32) X, fq wR_tho_marksBehind wF_tho_marksBehind X0 X → PO (fun r => fq wR_tho_marksBehind wF_tho_marksBehind X0 r.2) (k113 x0 x1 x2 x3 X)) : ∀ (w : Nat) (v1 : Int32) (v2 : Int32) (v3 : Int32) (v4 : Int32) (v5 : Int32) (X : St), fq wR_tho_marksBehind wF_tho_marksBehind X0 X → PO (fun r => fq wR_tho_marksBehind wF_tho_marksBehind X0 r.2) (tho_marksBehind_L32 n k113 w v1 v2 v3 v4 v5 X) := by
  intro w
  induction w with
  | zero => intro v1 v2 v3 v4 v5 X _; exact po_none
  | succ w ih => intro v1 v2 v3 v4 v5 X hX; exact fq_tho_marksBehind_L32_B n X0 k113 hk113 _ ih v1 v2 v3 v4 v5 X hX
theorem fq_tho_marksBehind_L14_B (n : Nat) (X0 : St) (rec : Int32 → Int32 → Int32 → Int32 → St → Option (Int32 × St)) (hrec : ∀ (x0 : Int32) (x1 : Int32) (x2 : Int32) (x3 : Int32) X, fq wR_tho_marksBehind wF_tho_marksBehind X0 X → PO (fun r => fq wR_tho_marksBehind wF_tho_marksBehind X0 r.2) (rec x0 x1 x2 x3 X)) (v1 : Int32) (v2 : Int32) (v3 : Int32) (v4 : Int32) (X : St) (hX : fq wR_tho_marksBehind wF_tho_marksBehind X0 X) : PO (fun r => fq wR_tho_marksBehind wF_tho_marksBehind X0 r.2) (tho_marksBehind_L14_B n rec v1 v2 v3 v4 X) := by
  unfold tho_marksBehind_L14_B
  refine po_ite (fun hb1 => ?_) (fun _ => ?_)
  · refine fq_tho_marksBehind_L32 n X0 _ (fun v7 v8 v9 v10 X6 hX6 => ?_) n v1 v2 v3 v4 (v4 + (1 : Int32)) X hX
    exact hrec v7 v8 v9 (v10 + (1 : Int32)) X6 hX6
  exact po_some hX
theorem fq_tho_marksBehind_L14 (n : Nat) (X0 : St) : ∀ (w : Nat) (v1 : Int32) (v2 : Int32) (v3 : Int32) (v4 : Int32) (X : St), fq wR_tho_marksBehind wF_tho_marksBehind X0 X → PO (fun r => fq wR_tho_marksBehind wF_tho_marksBehind X0 r.2) (tho_marksBehind_L14 n w v1 v2 v3 v4 X) := by
  intro w
  induction w with
  | zero => intro v1 v2 v3 v4 X _; exact po_none
  | succ w ih => intro v1 v2 v3 v4 X hX; exact fq_tho_marksBehind_L14_B n X0 _ ih v1 v2 v3 v4 X hX
theorem fq_tho_marksBehind (n : Nat) (v1 : Int32) (X0 : St) : PO (fun r => fq wR_tho_marksBehind wF_tho_marksBehind X0 r.2) (tho_marksBehind n v1 X0) := by
  have hX0 : fq wR_tho_marksBehind wF_tho_marksBehind X0 X0 := fq_rf
  unfold tho_marksBehind
  refine po_bnd (fun c1 => ?_)
  refine fq_tho_marksBehind_L14 n X0 n v1 c1 (0 : Int32) (0 : Int32) X0 hX0
theorem fq_tho_lost_L16_B (n : Nat) (X0 : St) (k37 : Int32 → Int32 → St → Option (Int32 × St)) (hk37 : ∀ (x0 : Int32) (x1 : Int32) X, fq wR_tho_lost wF_tho_lost X0 X → PO (fun r => fq wR_tho_lost wF_tho_lost X0 r.2) (k37 x0 x1 X)) (rec : Int32 → Int32 → Int32 → St → Option (Int32 × St)) (hrec : ∀ (x0 : Int32) (x1 : Int32) (x2 : Int32) X, fq wR_tho_lost wF_tho_lost X0 X → PO (fun r => fq wR_tho_lost wF_tho_lost X0 r.2) (rec x0 x1 x2 X)) (v1 : Int32) (v2 : Int32) (v3 : Int32) (X : St) (hX : fq wR_tho_lost wF_tho_lost X0 X) : PO (fun r => fq wR_tho_lost wF_tho_lost X0 r.2) (tho_lost_L16_B n k37 rec v1 v2 v3 X) := by
  unfold tho_lost_L16_B
  refine po_ite (fun hb1 => ?_) (fun _ => ?_)
  · refine po_ite (fun hb2 => ?_) (fun _ => po_none)
    refine po_ite (fun hb3 => ?_) (fun _ => po_none)
    exact hrec v1 v2 (v3 + (1 : Int32)) (stI X (49 + nx v2) (nx v3) (0 : Int32)) (fq_I hX (wr_d 49 56 (by decide) (by decide) (by decide) hb2))
  exact hk37 v1 v2 X hX
theorem fq_tho_lost_L16 (n : Nat) (X0 : St) (k37 : Int32 → Int32 → St → Option (Int32 × St)) (hk37 : ∀ (x0 : Int32) (x1 : Int32) X, fq wR_tho_lost wF_tho_lost X0 X → PO (fun r => fq wR_tho_lost wF_tho_lost X0 r.2) (k37 x0 x1 X)) : ∀ (w : Nat) (v1 : Int32) (v2 : Int32) (v3 : Int32) (X : St), fq wR_tho_lost wF_tho_lost X0 X → PO (fun r => fq wR_tho_lost wF_tho_lost X0 r.2) (tho_lost_L16 n k37 w v1 v2 v3 X) := by
  intro w
  induction w with
  | zero => intro v1 v2 v3 X _; exact po_none
  | succ w ih => intro v1 v2 v3 X hX; exact fq_tho_lost_L16_B n X0 k37 hk37 _ ih v1 v2 v3 X hX
theorem fq_tho_lost_L8_B (n : Nat) (X0 : St) (k43 : Int32 → St → Option (Int32 × St)) (hk43 : ∀ (x0 : Int32) X, fq wR_tho_lost wF_tho_lost X0 X → PO (fun r => fq wR_tho_lost wF_tho_lost X0 r.2) (k43 x0 X)) (rec : Int32 → Int32 → St → Option (Int32 × St)) (hrec : ∀ (x0 : Int32) (x1 : Int32) X, fq wR_tho_lost wF_tho_lost X0 X → PO (fun r => fq wR_tho_lost wF_tho_lost X0 r.2) (rec x0 x1 X)) (v1 : Int32) (v2 : Int32) (X : St) (hX : fq wR_tho_lost wF_tho_lost X0 X) : PO (fun r => fq wR_tho_lost wF_tho_lost X0 r.2) (tho_lost_L8_B n k43 rec v1 v2 X) := by
  unfold tho_lost_L8_B
  refine po_ite (fun hb1 => ?_) (fun _ => ?_)
  · refine fq_tho_lost_L16 n X0 _ (fun v3 v4 X2 hX2 => ?_) n v1 v2 (0 : Int32) X hX
    exact hrec v3 (v4 + (1 : Int32)) X2 hX2
  exact hk43 v1 X hX
theorem fq_tho_lost_L8 (n : Nat) (X0 : St) (k43 : Int32 → St → Option (Int32 × St)) (hk43 : ∀ (x0 : Int32) X, fq wR_tho_lost wF_tho_lost X0 X → PO (fun r => fq wR_tho_lost wF_tho_lost X0 r.2) (k43 x0 X)) : ∀ (w : Nat) (v1 : Int32) (v2 : Int32) (X : St), fq wR_tho_lost wF_tho_lost X0 X → PO (fun r => fq wR_tho_lost wF_tho_lost X0 r.2) (tho_lost_L8 n k43 w v1 v2 X) := by
  intro w
  induction w with
  | zero => intro v1 v2 X _; exact po_none
  | succ w ih => intro v1 v2 X hX; exact fq_tho_lost_L8_B n X0 k43 hk43 _ ih v1 v2 X hX
theorem fq_tho_lost_L45_B (n : Nat) (X0 : St) (rec : Int32 → Int32 → St → Option (Int32 × St)) (hrec : ∀ (x0 : Int32) (x1 : Int32) X, fq wR_tho_lost wF_tho_lost X0 X → PO (fun r => fq wR_tho_lost wF_tho_lost X0 r.2) (rec x0 x1 X)) (v1 : Int32) (v2 : Int32) (X : St) (hX : fq wR_tho_lost wF_tho_lost X0 X) : PO (fun r => fq wR_tho_lost wF_tho_lost X0 r.2) (tho_lost_L45_B n rec v1 v2 X) := by
  unfold tho_lost_L45_B
  refine po_ite (fun hb1 => ?_) (fun _ => ?_)
  · refine po_bnd (fun c7 => ?_)
    refine qo_cV hX (fq_tho_step n c7 X) (by decide) (by decide) (fun X8 hX8 => ?_)
    refine po_ite (fun hb2 => ?_) (fun _ => ?_)
    · refine po_ite (fun hb3 => ?_) (fun _ => ?_)
      · refine qo_cI hX8 (fq_tho_marksBehind n v2 X8) (by decide) (by decide) (fun c10 X9 hX9 => ?_)
        exact hrec (v1 + c10) (v2 + (1 : Int32)) X9 hX9
      refine po_ite (fun hb4 => ?_) (fun _ => po_none)
      refine po_ite (fun hb5 => ?_) (fun _ => po_none)
      refine qo_nmX (fq_I hX8 (wr_o (by decide))) (fun X11 hX11 => ?_)
      refine qo_cI hX11 (fq_tho_marksBehind n v2 X11) (by decide) (by decide) (fun c13 X12 hX12 => ?_)
      exact hrec (v1 + c13) (v2 + (1 : Int32)) X12 hX12
    refine qo_cI hX8 (fq_tho_marksBehind n v2 X8) (by decide) (by decide) (fun c15 X14 hX14 => ?_)
    exact hrec (v1 + c15) (v2 + (1 : Int32)) X14 hX14
  exact po_some hX
theorem fq_tho_lost_L45 (n : Nat) (X0 : St) : ∀ (w : Nat) (v1 : Int32) (v2 : Int32) (X : St), fq wR_tho_lost wF_tho_lost X0 X → PO (fun r => fq wR_tho_lost wF_tho_lost X0 r.2) (tho_lost_L45 n w v1 v2 X) := by
  intro w
  induction w with
  | zero => intro v1 v2 X _; exact po_none
  | succ w ih => intro v1 v2 X hX; exact fq_tho_lost_L45_B n X0 _ ih v1 v2 X hX
theorem fq_tho_lost (n : Nat) (X0 : St) : PO (fun r => fq wR_tho_lost wF_tho_lost X0 r.2) (tho_lost n X0) := by
  have hX0 : fq wR_tho_lost wF_tho_lost X0 X0 := fq_rf
  unfold tho_lost
  refine qo_cV hX0 (fq_tho_still n X0) (by decide) (by decide) (fun X1 hX1 => ?_)
  refine fq_tho_lost_L8 n X0 _ (fun v6 X5 hX5 => ?_) n (0 : Int32) (0 : Int32) X1 hX1
  refine fq_tho_lost_L45 n X0 n v6 (0 : Int32) X5 hX5
theorem fq_tho_worstTwo_L28_B (n : Nat) (X0 : St) (k77 : Int32 → Int32 → Int32 → St → Option (Int32 × St)) (hk77 : ∀ (x0 : Int32) (x1 : Int32) (x2 : Int32) X, fq wR_tho_worstTwo wF_tho_worstTwo X0 X → PO (fun r => fq wR_tho_worstTwo wF_tho_worstTwo X0 r.2) (k77 x0 x1 x2 X)) (rec : Int32 → Int32 → Int32 → Int32 → St → Option (Int32 × St)) (hrec : ∀ (x0 : Int32) (x1 : Int32) (x2 : Int32) (x3 : Int32) X, fq wR_tho_worstTwo wF_tho_worstTwo X0 X → PO (fun r => fq wR_tho_worstTwo wF_tho_worstTwo X0 r.2) (rec x0 x1 x2 x3 X)) (v1 : Int32) (v2 : Int32) (v3 : Int32) (v4 : Int32) (X : St) (hX : fq wR_tho_worstTwo wF_tho_worstTwo X0 X) : PO (fun r => fq wR_tho_worstTwo wF_tho_worstTwo X0 r.2) (tho_worstTwo_L28_B n k77 rec v1 v2 v3 v4 X) := by
  unfold tho_worstTwo_L28_B
  refine po_ite (fun hb1 => ?_) (fun _ => ?_)
  · refine po_ite (fun hb2 => ?_) (fun _ => po_none)
    refine po_ite (fun hb3 => ?_) (fun _ => po_none)
    refine po_ite (fun hb4 => ?_) (fun _ => ?_)
    · refine po_ite (fun hb5 => ?_) (fun _ => po_none)
      refine po_ite (fun hb6 => ?_) (fun _ => po_none)
      exact hrec (X.1 (49 + nx v3) (nx v4)) (((10 : Int32) * v3) + v4) v3 (v4 + (1 : Int32)) X hX
    exact hrec v1 v2 v3 (v4 + (1 : Int32)) X hX
  exact hk77 v1 v2 v3 X hX
theorem fq_tho_worstTwo_L28 (n : Nat) (X0 : St) (k77 : Int32 → Int32 → Int32 → St → Option (Int32 × St)) (hk77 : ∀ (x0 : Int32) (x1 : Int32) (x2 : Int32) X, fq wR_tho_worstTwo wF_tho_worstTwo X0 X → PO (fun r => fq wR_tho_worstTwo wF_tho_worstTwo X0 r.2) (k77 x0 x1 x2 X)) : ∀ (w : Nat) (v1 : Int32) (v2 : Int32) (v3 : Int32) (v4 : Int32) (X : St), fq wR_tho_worstTwo wF_tho_worstTwo X0 X → PO (fun r => fq wR_tho_worstTwo wF_tho_worstTwo X0 r.2) (tho_worstTwo_L28 n k77 w v1 v2 v3 v4 X) := by
  intro w
  induction w with
  | zero => intro v1 v2 v3 v4 X _; exact po_none
  | succ w ih => intro v1 v2 v3 v4 X hX; exact fq_tho_worstTwo_L28_B n X0 k77 hk77 _ ih v1 v2 v3 v4 X hX
theorem fq_tho_worstTwo_L12_B (n : Nat) (X0 : St) (rec : Int32 → Int32 → Int32 → St → Option (Int32 × St)) (hrec : ∀ (x0 : Int32) (x1 : Int32) (x2 : Int32) X, fq wR_tho_worstTwo wF_tho_worstTwo X0 X → PO (fun r => fq wR_tho_worstTwo wF_tho_worstTwo X0 r.2) (rec x0 x1 x2 X)) (v1 : Int32) (v2 : Int32) (v3 : Int32) (X : St) (hX : fq wR_tho_worstTwo wF_tho_worstTwo X0 X) : PO (fun r => fq wR_tho_worstTwo wF_tho_worstTwo X0 r.2) (tho_worstTwo_L12_B n rec v1 v2 v3 X) := by
  unfold tho_worstTwo_L12_B
  refine po_ite (fun hb1 => ?_) (fun _ => ?_)
  · refine fq_tho_worstTwo_L28 n X0 _ (fun v4 v5 v6 X3 hX3 => ?_) n v1 v2 v3 (v3 + (1 : Int32)) X hX
    exact hrec v4 v5 (v6 + (1 : Int32)) X3 hX3
  exact po_some hX
theorem fq_tho_worstTwo_L12 (n : Nat) (X0 : St) : ∀ (w : Nat) (v1 : Int32) (v2 : Int32) (v3 : Int32) (X : St), fq wR_tho_worstTwo wF_tho_worstTwo X0 X → PO (fun r => fq wR_tho_worstTwo wF_tho_worstTwo X0 r.2) (tho_worstTwo_L12 n w v1 v2 v3 X) := by
  intro w
  induction w with
  | zero => intro v1 v2 v3 X _; exact po_none
  | succ w ih => intro v1 v2 v3 X hX; exact fq_tho_worstTwo_L12_B n X0 _ ih v1 v2 v3 X hX
theorem fq_tho_worstTwo (n : Nat) (X0 : St) : PO (fun r => fq wR_tho_worstTwo wF_tho_worstTwo X0 r.2) (tho_worstTwo n X0) := by
  have hX0 : fq wR_tho_worstTwo wF_tho_worstTwo X0 X0 := fq_rf
  unfold tho_worstTwo
  refine qo_cI hX0 (fq_tho_lost n X0) (by decide) (by decide) (fun c2 X1 hX1 => ?_)
  refine fq_tho_worstTwo_L12 n X0 n (0 : Int32) (-2 : Int32) (0 : Int32) X1 hX1
theorem fq_tho_judged_L24_B (n : Nat) (X0 : St) (rec : Nat → Int32 → Int32 → St → Option (Int32 × St)) (hrec : ∀ (x0 : Nat) (x1 : Int32) (x2 : Int32) X, fq wR_tho_judged wF_tho_judged X0 X → PO (fun r => fq wR_tho_judged wF_tho_judged X0 r.2) (rec x0 x1 x2 X)) (r1 : Nat) (v3 : Int32) (v4 : Int32) (X : St) (hX : fq wR_tho_judged wF_tho_judged X0 X) : PO (fun r => fq wR_tho_judged wF_tho_judged X0 r.2) (tho_judged_L24_B n rec r1 v3 v4 X) := by
  unfold tho_judged_L24_B
  refine po_ite (fun hb1 => ?_) (fun _ => ?_)
  · refine po_bnd (fun c3 => ?_)
    refine qo_cV hX (fq_tho_step n c3 X) (by decide) (by decide) (fun X4 hX4 => ?_)
    refine po_bnd (fun c5 => ?_)
    refine po_ite (fun hb2 => ?_) (fun _ => po_none)
    refine po_ite (fun hb3 => ?_) (fun _ => ?_)
    · exact hrec r1 v3 (v4 + (1 : Int32)) X4 hX4
    exact po_some hX4
  exact po_some hX
theorem fq_tho_judged_L24 (n : Nat) (X0 : St) : ∀ (w : Nat) (r1 : Nat) (v3 : Int32) (v4 : Int32) (X : St), fq wR_tho_judged wF_tho_judged X0 X → PO (fun r => fq wR_tho_judged wF_tho_judged X0 r.2) (tho_judged_L24 n w r1 v3 v4 X) := by
  intro w
  induction w with
  | zero => intro r1 v3 v4 X _; exact po_none
  | succ w ih => intro r1 v3 v4 X hX; exact fq_tho_judged_L24_B n X0 _ ih r1 v3 v4 X hX
theorem fq_tho_judged (n : Nat) (r1 : Nat) (v2 : Int32) (X0 : St) : PO (fun r => fq wR_tho_judged wF_tho_judged X0 r.2) (tho_judged n r1 v2 X0) := by
  have hX0 : fq wR_tho_judged wF_tho_judged X0 X0 := fq_rf
  unfold tho_judged
  refine po_ite (fun hb1 => ?_) (fun _ => po_none)
  refine po_bnd (fun t1 => ?_)
  refine qo_cV hX0 (fq_tho_still n X0) (by decide) (by decide) (fun X2 hX2 => ?_)
  refine fq_tho_judged_L24 n X0 n r1 t1 (0 : Int32) X2 hX2
theorem fq_tho_slipByDraws_L5_B (n : Nat) (X0 : St) (rec : Int32 → Int32 → Int32 → St → Option (Int32 × St)) (hrec : ∀ (x0 : Int32) (x1 : Int32) (x2 : Int32) X, fq wR_tho_slipByDraws wF_tho_slipByDraws X0 X → PO (fun r => fq wR_tho_slipByDraws wF_tho_slipByDraws X0 r.2) (rec x0 x1 x2 X)) (v2 : Int32) (v3 : Int32) (v4 : Int32) (X : St) (hX : fq wR_tho_slipByDraws wF_tho_slipByDraws X0 X) : PO (fun r => fq wR_tho_slipByDraws wF_tho_slipByDraws X0 r.2) (tho_slipByDraws_L5_B n rec v2 v3 v4 X) := by
  unfold tho_slipByDraws_L5_B
  refine po_ite (fun hb1 => ?_) (fun _ => ?_)
  · refine po_bnd (fun t1 => ?_)
    refine po_ite (fun hb2 => ?_) (fun _ => ?_)
    · refine po_ite (fun hb3 => ?_) (fun _ => po_none)
      refine po_ite (fun hb4 => ?_) (fun _ => po_none)
      exact hrec v2 t1 (v4 + (1 : Int32)) (stI X 27 (nx v4) ((X.1 27 (nx v4)) + (1 : Int32))) (fq_I hX (wr_o (by decide)))
    exact hrec v2 t1 (v4 + (1 : Int32)) X hX
  exact po_some hX
theorem fq_tho_slipByDraws_L5 (n : Nat) (X0 : St) : ∀ (w : Nat) (v2 : Int32) (v3 : Int32) (v4 : Int32) (X : St), fq wR_tho_slipByDraws wF_tho_slipByDraws X0 X → PO (fun r => fq wR_tho_slipByDraws wF_tho_slipByDraws X0 r.2) (tho_slipByDraws_L5 n w v2 v3 v4 X) := by
  intro w
  induction w with
  | zero => intro v2 v3 v4 X _; exact po_none
  | succ w ih => intro v2 v3 v4 X hX; exact fq_tho_slipByDraws_L5_B n X0 _ ih v2 v3 v4 X hX
theorem fq_tho_slipByDraws (n : Nat) (v1 : Int32) (v2 : Int32) (X0 : St) : PO (fun r => fq wR_tho_slipByDraws wF_tho_slipByDraws X0 r.2) (tho_slipByDraws n v1 v2 X0) := by
  have hX0 : fq wR_tho_slipByDraws wF_tho_slipByDraws X0 X0 := fq_rf
  unfold tho_slipByDraws
  refine fq_tho_slipByDraws_L5 n X0 n v2 v1 (0 : Int32) X0 hX0
theorem fq_tho_train_L28_B (n : Nat) (X0 : St) (k79 : Int32 → Int32 → Int32 → Int32 → Int32 → Int32 → Int32 → Int32 → St → Option (Int32 × St)) (hk79 : ∀ (x0 : Int32) (x1 : Int32) (x2 : Int32) (x3 : Int32) (x4 : Int32) (x5 : Int32) (x6 : Int32) (x7 : Int32) X, fq wR_tho_train wF_tho_train X0 X → PO (fun r => fq wR_tho_train wF_tho_train X0 r.2) (k79 x0 x1 x2 x3 x4 x5 x6 x7 X)) (rec : Int32 → Int32 → Int32 → Int32 → Int32 → Int32 → Int32 → Int32 → Int32 → St → Option (Int32 × St)) (hrec : ∀ (x0 : Int32) (x1 : Int32) (x2 : Int32) (x3 : Int32) (x4 : Int32) (x5 : Int32) (x6 : Int32) (x7 : Int32) (x8 : Int32) X, fq wR_tho_train wF_tho_train X0 X → PO (fun r => fq wR_tho_train wF_tho_train X0 r.2) (rec x0 x1 x2 x3 x4 x5 x6 x7 x8 X)) (v2 : Int32) (v3 : Int32) (v4 : Int32) (v5 : Int32) (v6 : Int32) (v7 : Int32) (v8 : Int32) (v9 : Int32) (v10 : Int32) (X : St) (hX : fq wR_tho_train wF_tho_train X0 X) : PO (fun r => fq wR_tho_train wF_tho_train X0 r.2) (tho_train_L28_B n k79 rec v2 v3 v4 v5 v6 v7 v8 v9 v10 X) := by
  unfold tho_train_L28_B
  refine po_ite (fun hb1 => ?_) (fun _ => ?_)
  · refine qo_cI hX (fq_tho_slipByDraws n v5 v3 X) (by decide) (by decide) (fun c3 X2 hX2 => ?_)
    refine po_bnd (fun c4 => ?_)
    refine qo_cV hX2 (fq_tho_step n c4 X2) (by decide) (by decide) (fun X5 hX5 => ?_)
    refine qo_cI hX5 (fq_tho_marksBehind n v10 X5) (by decide) (by decide) (fun c7 X6 hX6 => ?_)
    exact hrec v2 v3 v4 c3 v6 v7 v8 (v9 + c7) (v10 + (1 : Int32)) X6 hX6
  exact hk79 v2 v3 v4 v5 v6 v7 v8 v9 X hX
theorem fq_tho_train_L28 (n : Nat) (X0 : St) (k79 : Int32 → Int32 → Int32 → Int32 → Int32 → Int32 → Int32 → Int32 → St → Option (Int32 × St)) (hk79 : ∀ (x0 : Int32) (x1 : Int32) (x2 : Int32) (x3 : Int32) (x4 : Int32) (x5 : Int32) (x6 : Int32) (x7 : Int32) X, fq wR_tho_train wF_tho_train X0 X → PO (fun r => fq wR_tho_train wF_tho_train X0 r.2) (k79 x0 x1 x2 x3 x4 x5 x6 x7 X)) : ∀ (w : Nat) (v2 : Int32) (v3 : Int32) (v4 : Int32) (v5 : Int32) (v6 : Int32) (v7 : Int32) (v8 : Int32) (v9 : Int32) (v10 : Int32) (X : St), fq wR_tho_train wF_tho_train X0 X → PO (fun r => fq wR_tho_train wF_tho_train X0 r.2) (tho_train_L28 n k79 w v2 v3 v4 v5 v6 v7 v8 v9 v10 X) := by
  intro w
  induction w with
  | zero => intro v2 v3 v4 v5 v6 v7 v8 v9 v10 X _; exact po_none
  | succ w ih => intro v2 v3 v4 v5 v6 v7 v8 v9 v10 X hX; exact fq_tho_train_L28_B n X0 k79 hk79 _ ih v2 v3 v4 v5 v6 v7 v8 v9 v10 X hX
theorem fq_tho_train_L12_B (n : Nat) (X0 : St) (rec : Int32 → Int32 → Int32 → Int32 → Int32 → Int32 → Int32 → St → Option (Int32 × St)) (hrec : ∀ (x0 : Int32) (x1 : Int32) (x2 : Int32) (x3 : Int32) (x4 : Int32) (x5 : Int32) (x6 : Int32) X, fq wR_tho_train wF_tho_train X0 X → PO (fun r => fq wR_tho_train wF_tho_train X0 r.2) (rec x0 x1 x2 x3 x4 x5 x6 X)) (v2 : Int32) (v3 : Int32) (v4 : Int32) (v5 : Int32) (v6 : Int32) (v7 : Int32) (v8 : Int32) (X : St) (hX : fq wR_tho_train wF_tho_train X0 X) : PO (fun r => fq wR_tho_train wF_tho_train X0 r.2) (tho_train_L12_B n rec v2 v3 v4 v5 v6 v7 v8 X) := by
  unfold tho_train_L12_B
  refine po_ite (fun hb1 => ?_) (fun _ => ?_)
  · refine qo_cV hX (fq_tho_still n X) (by decide) (by decide) (fun X1 hX1 => ?_)
    refine fq_tho_train_L28 n X0 _ (fun v9 v10 v11 v12 v13 v14 v15 v16 X8 hX8 => ?_) n v2 v3 v4 v5 v6 v7 v8 (0 : Int32) (0 : Int32) X1 hX1
    refine po_ite (fun hb2 => ?_) (fun _ => ?_)
    · exact hrec v9 v10 v11 v12 (v13 + v16) (v14 + (1 : Int32)) (v15 + (1 : Int32)) X8 hX8
    exact hrec v9 v10 v11 v12 (v13 + v16) (v14 + (0 : Int32)) (v15 + (1 : Int32)) X8 hX8
  refine po_ite (fun hb3 => ?_) (fun _ => ?_)
  · exact po_some hX
  exact po_some hX
theorem fq_tho_train_L12 (n : Nat) (X0 : St) : ∀ (w : Nat) (v2 : Int32) (v3 : Int32) (v4 : Int32) (v5 : Int32) (v6 : Int32) (v7 : Int32) (v8 : Int32) (X : St), fq wR_tho_train wF_tho_train X0 X → PO (fun r => fq wR_tho_train wF_tho_train X0 r.2) (tho_train_L12 n w v2 v3 v4 v5 v6 v7 v8 X) := by
  intro w
  induction w with
  | zero => intro v2 v3 v4 v5 v6 v7 v8 X _; exact po_none
  | succ w ih => intro v2 v3 v4 v5 v6 v7 v8 X hX; exact fq_tho_train_L12_B n X0 _ ih v2 v3 v4 v5 v6 v7 v8 X hX
theorem fq_tho_train (n : Nat) (v1 : Int32) (v2 : Int32) (v3 : Int32) (v4 : Int32) (X0 : St) : PO (fun r => fq wR_tho_train wF_tho_train X0 r.2) (tho_train n v1 v2 v3 v4 X0) := by
  have hX0 : fq wR_tho_train wF_tho_train X0 X0 := fq_rf
  unfold tho_train
  refine fq_tho_train_L12 n X0 n v2 v3 v4 v1 (0 : Int32) (0 : Int32) (0 : Int32) X0 hX0
theorem fq_way_add (v1 : Int32) (X0 : St) : PO (fun r => fq wR_way_add wF_way_add X0 r.2) (way_add v1 X0) := by
  have hX0 : fq wR_way_add wF_way_add X0 X0 := fq_rf
  unfold way_add
  refine po_ite (fun hb1 => ?_) (fun _ => ?_)
  · refine po_ite (fun hb2 => ?_) (fun _ => po_none)
    refine qo_nmX (fq_I (fq_I hX0 (wr_o (by decide))) (wr_f (by decide))) (fun X1 hX1 => ?_)
    exact po_some hX1
  exact po_some hX0
theorem fq_way_start (v1 : Int32) (X0 : St) : PO (fun r => fq wR_way_start wF_way_start X0 r.2) (way_start v1 X0) := by
  have hX0 : fq wR_way_start wF_way_start X0 X0 := fq_rf
  unfold way_start
  refine po_ite (fun hb1 => ?_) (fun _ => ?_)
  · refine qo_nmX (fq_I (fq_I (fq_I hX0 (wr_f (by decide))) (wr_f (by decide))) (wr_f (by decide))) (fun X1 hX1 => ?_)
    exact po_some hX1
  refine po_ite (fun hb2 => ?_) (fun _ => po_none)
  refine po_ite (fun hb3 => ?_) (fun _ => po_none)
  refine qo_nmX (fq_I (fq_I (fq_I hX0 (wr_f (by decide))) (wr_f (by decide))) (wr_f (by decide))) (fun X2 hX2 => ?_)
  exact po_some hX2
theorem fq_way_begins (v1 : Int32) (X0 : St) : PO (fun r => fq wR_way_begins wF_way_begins X0 r) (way_begins v1 X0) := by
  have hX0 : fq wR_way_begins wF_way_begins X0 X0 := fq_rf
  unfold way_begins
  refine po_ite (fun hb1 => ?_) (fun _ => ?_)
  · refine po_ite (fun hb2 => ?_) (fun _ => po_none)
    refine qo_nmX (fq_I (fq_I hX0 (wr_o (by decide))) (wr_f (by decide))) (fun X1 hX1 => ?_)
    exact po_some hX1
  exact po_some (fq_I hX0 (wr_f (by decide)))
theorem fq_way_plainCounts (v1 : Int32) (X0 : St) : PO (fun r => fq wR_way_plainCounts wF_way_plainCounts X0 r.2) (way_plainCounts v1 X0) := by
  have hX0 : fq wR_way_plainCounts wF_way_plainCounts X0 X0 := fq_rf
  unfold way_plainCounts
  refine qo_cV hX0 (fq_way_begins (1 : Int32) X0) (by decide) (by decide) (fun X1 hX1 => ?_)
  exact po_some hX1
theorem fq_way_counts (v1 : Int32) (X0 : St) : PO (fun r => fq wR_way_counts wF_way_counts X0 r.2) (way_counts v1 X0) := by
  have hX0 : fq wR_way_counts wF_way_counts X0 X0 := fq_rf
  unfold way_counts
  refine po_ite (fun hb1 => ?_) (fun _ => ?_)
  · refine po_ite (fun hb2 => ?_) (fun _ => ?_)
    · refine qo_cI hX0 (fq_way_plainCounts v1 X0) (by decide) (by decide) (fun c2 X1 hX1 => ?_)
      exact po_some hX1
    refine qo_cV hX0 (fq_way_begins (70 : Int32) X0) (by decide) (by decide) (fun X3 hX3 => ?_)
    refine qo_cI hX3 (fq_way_plainCounts v1 X3) (by decide) (by decide) (fun c5 X4 hX4 => ?_)
    exact po_some hX4
  refine qo_cV hX0 (fq_way_begins (20 : Int32) X0) (by decide) (by decide) (fun X6 hX6 => ?_)
  refine qo_cI hX6 (fq_way_plainCounts v1 X6) (by decide) (by decide) (fun c8 X7 hX7 => ?_)
  exact po_some hX7
theorem fq_way_plainTurns (v1 : Int32) (X0 : St) : PO (fun r => fq wR_way_plainTurns wF_way_plainTurns X0 r.2) (way_plainTurns v1 X0) := by
  have hX0 : fq wR_way_plainTurns wF_way_plainTurns X0 X0 := fq_rf
  unfold way_plainTurns
  refine qo_cV hX0 (fq_way_begins (10 : Int32) X0) (by decide) (by decide) (fun X1 hX1 => ?_)
  refine qo_cI hX1 (fq_way_counts v1 X1) (by decide) (by decide) (fun c3 X2 hX2 => ?_)
  exact po_some hX2
theorem fq_way_plainSinks (v1 : Int32) (X0 : St) : PO (fun r => fq wR_way_plainSinks wF_way_plainSinks X0 r.2) (way_plainSinks v1 X0) := by
  have hX0 : fq wR_way_plainSinks wF_way_plainSinks X0 X0 := fq_rf
  unfold way_plainSinks
  refine qo_cV hX0 (fq_way_begins (11 : Int32) X0) (by decide) (by decide) (fun X1 hX1 => ?_)
  exact po_some hX1
theorem fq_way_sinks (v1 : Int32) (X0 : St) : PO (fun r => fq wR_way_sinks wF_way_sinks X0 r.2) (way_sinks v1 X0) := by
  have hX0 : fq wR_way_sinks wF_way_sinks X0 X0 := fq_rf
  unfold way_sinks
  refine po_ite (fun hb1 => ?_) (fun _ => ?_)
  · refine po_ite (fun hb2 => ?_) (fun _ => ?_)
    · refine qo_cI hX0 (fq_way_plainSinks v1 X0) (by decide) (by decide) (fun c2 X1 hX1 => ?_)
      exact po_some hX1
    refine qo_cV hX0 (fq_way_begins (50 : Int32) X0) (by decide) (by decide) (fun X3 hX3 => ?_)
    refine qo_cI hX3 (fq_way_plainSinks v1 X3) (by decide) (by decide) (fun c5 X4 hX4 => ?_)
    refine qo_cI hX4 (fq_way_counts (2 : Int32) X4) (by decide) (by decide) (fun c7 X6 hX6 => ?_)
    exact po_some hX6
  refine qo_cV hX0 (fq_way_begins (40 : Int32) X0) (by decide) (by decide) (fun X8 hX8 => ?_)
  refine qo_cI hX8 (fq_way_plainSinks v1 X8) (by decide) (by decide) (fun c10 X9 hX9 => ?_)
  exact po_some hX9
theorem fq_way_turns_J48 (X0 : St) (v2 : Int32) (X : St) (hX : fq wR_way_turns wF_way_turns X0 X) : PO (fun r => fq wR_way_turns wF_way_turns X0 r.2) (way_turns_J48 v2 X) := by
  unfold way_turns_J48
  refine po_ite (fun hb1 => ?_) (fun _ => ?_)
  · refine qo_cI hX (fq_way_plainTurns v2 X) (by decide) (by decide) (fun c2 X1 hX1 => ?_)
    exact po_some hX1
  refine qo_cV hX (fq_way_begins (30 : Int32) X) (by decide) (by decide) (fun X3 hX3 => ?_)
  refine qo_cI hX3 (fq_way_plainTurns v2 X3) (by decide) (by decide) (fun c5 X4 hX4 => ?_)
  exact po_some hX4
theorem fq_way_turns (v1 : Int32) (X0 : St) : PO (fun r => fq wR_way_turns wF_way_turns X0 r.2) (way_turns v1 X0) := by
  have hX0 : fq wR_way_turns wF_way_turns X0 X0 := fq_rf
  unfold way_turns
  refine po_ite (fun hb1 => ?_) (fun _ => ?_)
  · refine po_ite (fun hb2 => ?_) (fun _ => ?_)
    · refine fq_way_turns_J48  X0 v1 X0 hX0
    refine qo_cV hX0 (fq_way_begins (41 : Int32) X0) (by decide) (by decide) (fun X6 hX6 => ?_)
    refine fq_way_turns_J48  X0 (v1 + (1 : Int32)) X6 hX6
  refine qo_cV hX0 (fq_way_begins (80 : Int32) X0) (by decide) (by decide) (fun X7 hX7 => ?_)
  refine qo_cI hX7 (fq_way_plainTurns v1 X7) (by decide) (by decide) (fun c9 X8 hX8 => ?_)
  refine qo_cI hX8 (fq_way_sinks (2 : Int32) X8) (by decide) (by decide) (fun c11 X10 hX10 => ?_)
  exact po_some hX10
theorem fq_way_plainTells (v1 : Int32) (X0 : St) : PO (fun r => fq wR_way_plainTells wF_way_plainTells X0 r.2) (way_plainTells v1 X0) := by
  have hX0 : fq wR_way_plainTells wF_way_plainTells X0 X0 := fq_rf
  unfold way_plainTells
  refine qo_cV hX0 (fq_way_begins (2 : Int32) X0) (by decide) (by decide) (fun X1 hX1 => ?_)
  refine qo_cI hX1 (fq_way_turns v1 X1) (by decide) (by decide) (fun c3 X2 hX2 => ?_)
  refine qo_cI hX2 (fq_way_sinks (1 : Int32) X2) (by decide) (by decide) (fun c5 X4 hX4 => ?_)
  exact po_some hX4
theorem fq_way_tells (v1 : Int32) (X0 : St) : PO (fun r => fq wR_way_tells wF_way_tells X0 r.2) (way_tells v1 X0) := by
  have hX0 : fq wR_way_tells wF_way_tells X0 X0 := fq_rf
  unfold way_tells
  refine po_ite (fun hb1 => ?_) (fun _ => ?_)
  · refine po_ite (fun hb2 => ?_) (fun _ => ?_)
    · refine qo_cI hX0 (fq_way_plainTells v1 X0) (by decide) (by decide) (fun c2 X1 hX1 => ?_)
      exact po_some hX1
    refine qo_cV hX0 (fq_way_begins (81 : Int32) X0) (by decide) (by decide) (fun X3 hX3 => ?_)
    refine qo_cI hX3 (fq_way_plainTells v1 X3) (by decide) (by decide) (fun c5 X4 hX4 => ?_)
    exact po_some hX4
  refine qo_cV hX0 (fq_way_begins (60 : Int32) X0) (by decide) (by decide) (fun X6 hX6 => ?_)
  refine qo_cI hX6 (fq_way_plainTells v1 X6) (by decide) (by decide) (fun c8 X7 hX7 => ?_)
  exact po_some hX7
theorem fq_el_swimmer (v1 : Int32) (v2 : Int32) (X0 : St) : PO (fun r => fq wR_el_swimmer wF_el_swimmer X0 r.2) (el_swimmer v1 v2 X0) := by
  have hX0 : fq wR_el_swimmer wF_el_swimmer X0 X0 := fq_rf
  unfold el_swimmer
  refine po_ite (fun hb1 => ?_) (fun _ => ?_)
  · exact po_some hX0
  refine po_bnd (fun c1 => ?_)
  refine po_ite (fun hb2 => ?_) (fun _ => ?_)
  · exact po_some hX0
  refine po_ite (fun hb3 => ?_) (fun _ => ?_)
  · refine qo_cI hX0 (fq_poo_join (irm v1 (100 : Int32)) (v1 / (100 : Int32)) v2 (0 : Int32) X0) (by decide) (by decide) (fun c3 X2 hX2 => ?_)
    exact po_some hX2
  exact po_some hX0
theorem fq_el_swimmers (n : Nat) (v1 : Int32) (v2 : Int32) (v3 : Int32) (X0 : St) : PO (fun r => fq wR_el_swimmers wF_el_swimmers X0 r.2) (el_swimmers n v1 v2 v3 X0) := by
  have hX0 : fq wR_el_swimmers wF_el_swimmers X0 X0 := fq_rf
  unfold el_swimmers
  refine po_ite (fun hb1 => ?_) (fun _ => ?_)
  · exact po_some hX0
  refine po_ite (fun hb2 => ?_) (fun _ => ?_)
  · exact po_some hX0
  refine po_ite (fun hb3 => ?_) (fun _ => ?_)
  · exact po_some hX0
  refine po_bnd (fun c1 => ?_)
  refine po_ite (fun hb4 => ?_) (fun _ => ?_)
  · exact po_some hX0
  refine po_ite (fun hb5 => ?_) (fun _ => ?_)
  · refine po_bnd (fun c2 => ?_)
    refine po_bnd (fun c3 => ?_)
    refine qo_cI hX0 (fq_poo_joinFrom n c2 c3 v2 v3 X0) (by decide) (by decide) (fun c5 X4 hX4 => ?_)
    exact po_some hX4
  exact po_some hX0
theorem fq_el_mend (n : Nat) (v1 : Int32) (v2 : Int32) (v3 : Int32) (X0 : St) : PO (fun r => fq wR_el_mend wF_el_mend X0 r.2) (el_mend n v1 v2 v3 X0) := by
  have hX0 : fq wR_el_mend wF_el_mend X0 X0 := fq_rf
  unfold el_mend
  refine po_ite (fun hb1 => ?_) (fun _ => ?_)
  · exact po_some hX0
  refine po_bnd (fun c1 => ?_)
  refine po_ite (fun hb2 => ?_) (fun _ => ?_)
  · exact po_some hX0
  refine po_bnd (fun c2 => ?_)
  refine qo_cV hX0 (fq_chg_tell n v1 v2 v3 X0) (by decide) (by decide) (fun X3 hX3 => ?_)
  exact po_some hX3
theorem fq_el_feed (v1 : Int32) (X0 : St) : PO (fun r => fq wR_el_feed wF_el_feed X0 r.2) (el_feed v1 X0) := by
  have hX0 : fq wR_el_feed wF_el_feed X0 X0 := fq_rf
  unfold el_feed
  refine po_ite (fun hb1 => ?_) (fun _ => ?_)
  · exact po_some hX0
  refine po_ite (fun hb2 => ?_) (fun _ => ?_)
  · exact po_some hX0
  refine po_ite (fun hb3 => ?_) (fun _ => ?_)
  · refine qo_cI hX0 (fq_tap_take v1 X0) (by decide) (by decide) (fun c2 X1 hX1 => ?_)
    exact po_some hX1
  exact po_some hX0
theorem fq_el_law_J26 (n : Nat) (X0 : St) (v1 : Int32) (s0 : Int32) (X : St) (hX : fq wR_el_law wF_el_law X0 X) : PO (fun r => fq wR_el_law wF_el_law X0 r.2) (el_law_J26 n v1 s0 X) := by
  unfold el_law_J26
  refine po_ite (fun hb1 => ?_) (fun _ => ?_)
  · refine qo_cV hX (fq_tap_empty X) (by decide) (by decide) (fun X3 hX3 => ?_)
    exact po_some hX3
  refine qo_cV hX (fq_rul_become (tap_codes X) X) (by decide) (by decide) (fun X4 hX4 => ?_)
  refine qo_cV hX4 (fq_tap_empty X4) (by decide) (by decide) (fun X5 hX5 => ?_)
  exact po_some hX5
theorem fq_el_law (n : Nat) (X0 : St) : PO (fun r => fq wR_el_law wF_el_law X0 r.2) (el_law n X0) := by
  have hX0 : fq wR_el_law wF_el_law X0 X0 := fq_rf
  unfold el_law
  refine qo_cI hX0 (fq_tap_isText n X0) (by decide) (by decide) (fun c2 X1 hX1 => ?_)
  refine po_ite (fun hb1 => ?_) (fun _ => ?_)
  · refine fq_el_law_J26 n X0 c2 ((-100 : Int32) - (tap_place X1)) X1 hX1
  refine fq_el_law_J26 n X0 c2 (1 : Int32) X1 hX1
theorem fq_el_loses (n : Nat) (v1 : Int32) (v2 : Int32) (v3 : Int32) (X0 : St) : PO (fun r => fq wR_el_loses wF_el_loses X0 r.2) (el_loses n v1 v2 v3 X0) := by
  have hX0 : fq wR_el_loses wF_el_loses X0 X0 := fq_rf
  unfold el_loses
  refine po_ite (fun hb1 => ?_) (fun _ => ?_)
  · exact po_some hX0
  refine po_ite (fun hb2 => ?_) (fun _ => ?_)
  · exact po_some hX0
  refine po_ite (fun hb3 => ?_) (fun _ => ?_)
  · exact po_some hX0
  refine po_ite (fun hb4 => ?_) (fun _ => ?_)
  · exact po_some hX0
  refine po_ite (fun hb5 => ?_) (fun _ => ?_)
  · exact po_some hX0
  refine po_ite (fun hb6 => ?_) (fun _ => ?_)
  · exact po_some hX0
  refine po_ite (fun hb7 => ?_) (fun _ => ?_)
  · exact po_some hX0
  refine po_ite (fun hb8 => ?_) (fun _ => ?_)
  · exact po_some hX0
  refine po_ite (fun hb9 => ?_) (fun _ => ?_)
  · refine qo_cV hX0 (fq_tho_ready n X0) (by decide) (by decide) (fun X1 hX1 => ?_)
    refine qo_cI hX1 (fq_tho_marksOfTwo n (v1 / (10 : Int32)) (irm v1 (10 : Int32)) v2 (v3 / (100 : Int32)) (irm v3 (100 : Int32)) X1) (by decide) (by decide) (fun c3 X2 hX2 => ?_)
    exact po_some hX2
  exact po_some hX0
theorem fq_el_begin (n : Nat) (v1 : Int32) (v2 : Int32) (X0 : St) : PO (fun r => fq wR_el_begin wF_el_begin X0 r.2) (el_begin n v1 v2 X0) := by
  have hX0 : fq wR_el_begin wF_el_begin X0 X0 := fq_rf
  unfold el_begin
  refine po_ite (fun hb1 => ?_) (fun _ => ?_)
  · exact po_some hX0
  refine po_ite (fun hb2 => ?_) (fun _ => ?_)
  · exact po_some hX0
  refine po_bnd (fun c1 => ?_)
  refine po_ite (fun hb3 => ?_) (fun _ => ?_)
  · refine po_bnd (fun c2 => ?_)
    refine po_bnd (fun c3 => ?_)
    refine qo_cV hX0 (fq_rou_take n c2 c3 X0) (by decide) (by decide) (fun X4 hX4 => ?_)
    refine qo_cV hX4 (fq_tho_ready n X4) (by decide) (by decide) (fun X5 hX5 => ?_)
    exact po_some hX5
  exact po_some hX0
theorem fq_el_routine_J16 (n : Nat) (X0 : St) (v2 : Int32) (s0 : Int32) (s1 : Int32) (X : St) (hX : fq wR_el_routine wF_el_routine X0 X) : PO (fun r => fq wR_el_routine wF_el_routine X0 r.2) (el_routine_J16 n v2 s0 s1 X) := by
  unfold el_routine_J16
  refine qo_cI hX (fq_el_begin n s1 s0 X) (by decide) (by decide) (fun c2 X1 hX1 => ?_)
  refine po_ite (fun hb1 => ?_) (fun _ => ?_)
  · refine po_ite (fun hb2 => ?_) (fun _ => ?_)
    · exact po_some hX1
    refine po_ite (fun hb3 => ?_) (fun _ => ?_)
    · refine qo_cI hX1 (fq_tho_lost n X1) (by decide) (by decide) (fun c4 X3 hX3 => ?_)
      exact po_some hX3
    refine po_ite (fun hb4 => ?_) (fun _ => ?_)
    · refine qo_cI hX1 (fq_tho_firstSeen n X1) (by decide) (by decide) (fun c6 X5 hX5 => ?_)
      exact po_some hX5
    refine qo_cI hX1 (fq_tho_worstTwo n X1) (by decide) (by decide) (fun c8 X7 hX7 => ?_)
    exact po_some hX7
  exact po_some hX1
theorem fq_el_routine (n : Nat) (v1 : Int32) (v2 : Int32) (X0 : St) : PO (fun r => fq wR_el_routine wF_el_routine X0 r.2) (el_routine n v1 v2 X0) := by
  have hX0 : fq wR_el_routine wF_el_routine X0 X0 := fq_rf
  unfold el_routine
  refine po_ite (fun hb1 => ?_) (fun _ => ?_)
  · refine fq_el_routine_J16 n X0 v2 (0 : Int32) v1 X0 hX0
  refine po_ite (fun hb2 => ?_) (fun _ => ?_)
  · refine fq_el_routine_J16 n X0 v2 (0 : Int32) v1 X0 hX0
  refine fq_el_routine_J16 n X0 v2 (1 : Int32) v1 X0 hX0
theorem fq_el_off_J28 (n : Nat) (X0 : St) (v2 : Int32) (v3 : Int32) (s0 : Int32) (s1 : Int32) (X : St) (hX : fq wR_el_off wF_el_off X0 X) : PO (fun r => fq wR_el_off wF_el_off X0 r.2) (el_off_J28 n v2 v3 s0 s1 X) := by
  unfold el_off_J28
  refine qo_cI hX (fq_el_begin n s1 s0 X) (by decide) (by decide) (fun c2 X1 hX1 => ?_)
  refine po_ite (fun hb1 => ?_) (fun _ => ?_)
  · refine qo_cV hX1 (fq_tho_think n v2 X1) (by decide) (by decide) (fun X3 hX3 => ?_)
    refine po_bnd (fun c4 => ?_)
    exact po_some hX3
  exact po_some hX1
theorem fq_el_off (n : Nat) (v1 : Int32) (v2 : Int32) (v3 : Int32) (X0 : St) : PO (fun r => fq wR_el_off wF_el_off X0 r.2) (el_off n v1 v2 v3 X0) := by
  have hX0 : fq wR_el_off wF_el_off X0 X0 := fq_rf
  unfold el_off
  refine po_ite (fun hb1 => ?_) (fun _ => ?_)
  · refine fq_el_off_J28 n X0 v2 v3 (0 : Int32) v1 X0 hX0
  refine po_ite (fun hb2 => ?_) (fun _ => ?_)
  · refine fq_el_off_J28 n X0 v2 v3 (0 : Int32) v1 X0 hX0
  refine po_ite (fun hb3 => ?_) (fun _ => ?_)
  · refine fq_el_off_J28 n X0 v2 v3 (0 : Int32) v1 X0 hX0
  refine fq_el_off_J28 n X0 v2 v3 (1 : Int32) v1 X0 hX0
theorem fq_el_apart_J24 (n : Nat) (X0 : St) (v2 : Int32) (v3 : Int32) (s0 : Int32) (s1 : Int32) (X : St) (hX : fq wR_el_apart wF_el_apart X0 X) : PO (fun r => fq wR_el_apart wF_el_apart X0 r.2) (el_apart_J24 n v2 v3 s0 s1 X) := by
  unfold el_apart_J24
  refine qo_cI hX (fq_el_begin n s1 s0 X) (by decide) (by decide) (fun c2 X1 hX1 => ?_)
  refine po_ite (fun hb1 => ?_) (fun _ => ?_)
  · refine qo_cV hX1 (fq_tho_think n v2 X1) (by decide) (by decide) (fun X3 hX3 => ?_)
    refine po_ite (fun hb2 => ?_) (fun _ => ?_)
    · refine po_bnd (fun c4 => ?_)
      exact po_some hX3
    refine po_bnd (fun c5 => ?_)
    exact po_some hX3
  exact po_some hX1
theorem fq_el_apart (n : Nat) (v1 : Int32) (v2 : Int32) (v3 : Int32) (X0 : St) : PO (fun r => fq wR_el_apart wF_el_apart X0 r.2) (el_apart n v1 v2 v3 X0) := by
  have hX0 : fq wR_el_apart wF_el_apart X0 X0 := fq_rf
  unfold el_apart
  refine po_ite (fun hb1 => ?_) (fun _ => ?_)
  · refine fq_el_apart_J24 n X0 v2 v3 (0 : Int32) v1 X0 hX0
  refine po_ite (fun hb2 => ?_) (fun _ => ?_)
  · refine fq_el_apart_J24 n X0 v2 v3 (0 : Int32) v1 X0 hX0
  refine po_ite (fun hb3 => ?_) (fun _ => ?_)
  · refine fq_el_apart_J24 n X0 v2 v3 (0 : Int32) v1 X0 hX0
  refine fq_el_apart_J24 n X0 v2 v3 (1 : Int32) v1 X0 hX0
theorem fq_el_gone_J23 (n : Nat) (X0 : St) (v2 : Int32) (s0 : Int32) (s1 : Int32) (X : St) (hX : fq wR_el_gone wF_el_gone X0 X) : PO (fun r => fq wR_el_gone wF_el_gone X0 r.2) (el_gone_J23 n v2 s0 s1 X) := by
  unfold el_gone_J23
  refine qo_cI hX (fq_el_begin n s1 s0 X) (by decide) (by decide) (fun c2 X1 hX1 => ?_)
  refine po_ite (fun hb1 => ?_) (fun _ => ?_)
  · refine po_ite (fun hb2 => ?_) (fun _ => ?_)
    · refine po_bnd (fun c3 => ?_)
      exact po_some hX1
    refine po_bnd (fun c4 => ?_)
    exact po_some hX1
  exact po_some hX1
theorem fq_el_gone (n : Nat) (v1 : Int32) (v2 : Int32) (X0 : St) : PO (fun r => fq wR_el_gone wF_el_gone X0 r.2) (el_gone n v1 v2 X0) := by
  have hX0 : fq wR_el_gone wF_el_gone X0 X0 := fq_rf
  unfold el_gone
  refine po_ite (fun hb1 => ?_) (fun _ => ?_)
  · refine fq_el_gone_J23 n X0 v2 (1 : Int32) v1 X0 hX0
  refine po_ite (fun hb2 => ?_) (fun _ => ?_)
  · refine fq_el_gone_J23 n X0 v2 (0 : Int32) v1 X0 hX0
  refine fq_el_gone_J23 n X0 v2 (1 : Int32) v1 X0 hX0
theorem fq_el_least (n : Nat) (v1 : Int32) (v2 : Int32) (X0 : St) : PO (fun r => fq wR_el_least wF_el_least X0 r.2) (el_least n v1 v2 X0) := by
  have hX0 : fq wR_el_least wF_el_least X0 X0 := fq_rf
  unfold el_least
  refine qo_cI hX0 (fq_el_begin n v1 (poo_has v2 X0) X0) (by decide) (by decide) (fun c2 X1 hX1 => ?_)
  refine po_ite (fun hb1 => ?_) (fun _ => ?_)
  · refine po_bnd (fun c3 => ?_)
    refine po_bnd (fun c4 => ?_)
    exact po_some hX1
  exact po_some hX1
theorem fq_el_gasps_J12 (n : Nat) (X0 : St) (v2 : Int32) (s0 : Int32) (s1 : Int32) (X : St) (hX : fq wR_el_gasps wF_el_gasps X0 X) : PO (fun r => fq wR_el_gasps wF_el_gasps X0 r.2) (el_gasps_J12 n v2 s0 s1 X) := by
  unfold el_gasps_J12
  refine qo_cI hX (fq_el_begin n s1 s0 X) (by decide) (by decide) (fun c2 X1 hX1 => ?_)
  refine po_ite (fun hb1 => ?_) (fun _ => ?_)
  · refine po_ite (fun hb2 => ?_) (fun _ => ?_)
    · exact po_some hX1
    refine po_bnd (fun c3 => ?_)
    refine po_bnd (fun c4 => ?_)
    refine qo_cV hX1 (fq_few_chooseGasps n c3 c4 X1) (by decide) (by decide) (fun X5 hX5 => ?_)
    refine po_bnd (fun c6 => ?_)
    exact po_some hX5
  exact po_some hX1
theorem fq_el_gasps (n : Nat) (v1 : Int32) (v2 : Int32) (X0 : St) : PO (fun r => fq wR_el_gasps wF_el_gasps X0 r.2) (el_gasps n v1 v2 X0) := by
  have hX0 : fq wR_el_gasps wF_el_gasps X0 X0 := fq_rf
  unfold el_gasps
  refine po_ite (fun hb1 => ?_) (fun _ => ?_)
  · refine fq_el_gasps_J12 n X0 v2 (0 : Int32) v1 X0 hX0
  refine fq_el_gasps_J12 n X0 v2 (1 : Int32) v1 X0 hX0
theorem fq_el_looks_J12 (n : Nat) (X0 : St) (v2 : Int32) (s0 : Int32) (s1 : Int32) (X : St) (hX : fq wR_el_looks wF_el_looks X0 X) : PO (fun r => fq wR_el_looks wF_el_looks X0 r.2) (el_looks_J12 n v2 s0 s1 X) := by
  unfold el_looks_J12
  refine qo_cI hX (fq_el_begin n s1 s0 X) (by decide) (by decide) (fun c2 X1 hX1 => ?_)
  refine po_ite (fun hb1 => ?_) (fun _ => ?_)
  · refine po_ite (fun hb2 => ?_) (fun _ => ?_)
    · exact po_some hX1
    refine qo_cV hX1 (fq_few_chooseLooks n X1) (by decide) (by decide) (fun X3 hX3 => ?_)
    refine po_bnd (fun c4 => ?_)
    exact po_some hX3
  exact po_some hX1
theorem fq_el_looks (n : Nat) (v1 : Int32) (v2 : Int32) (X0 : St) : PO (fun r => fq wR_el_looks wF_el_looks X0 r.2) (el_looks n v1 v2 X0) := by
  have hX0 : fq wR_el_looks wF_el_looks X0 X0 := fq_rf
  unfold el_looks
  refine po_ite (fun hb1 => ?_) (fun _ => ?_)
  · refine fq_el_looks_J12 n X0 v2 (0 : Int32) v1 X0 hX0
  refine fq_el_looks_J12 n X0 v2 (1 : Int32) v1 X0 hX0
theorem fq_el_fewestLost_J54 (n : Nat) (X0 : St) (k9 : Int32 → Int32 → Int32 → Int32 → Int32 → St → Option (Int32 × St)) (hk9 : ∀ (x0 : Int32) (x1 : Int32) (x2 : Int32) (x3 : Int32) (x4 : Int32) X, fq wR_el_fewestLost wF_el_fewestLost X0 X → PO (fun r => fq wR_el_fewestLost wF_el_fewestLost X0 r.2) (k9 x0 x1 x2 x3 x4 X)) (v1 : Int32) (v2 : Int32) (v3 : Int32) (v4 : Int32) (v5 : Int32) (X : St) (hX : fq wR_el_fewestLost wF_el_fewestLost X0 X) : PO (fun r => fq wR_el_fewestLost wF_el_fewestLost X0 r.2) (el_fewestLost_J54 n k9 v1 v2 v3 v4 v5 X) := by
  unfold el_fewestLost_J54
  refine qo_cI hX (fq_tho_lost n X) (by decide) (by decide) (fun c4 X3 hX3 => ?_)
  refine po_ite (fun hb1 => ?_) (fun _ => ?_)
  · exact hk9 v1 v2 c4 v5 (v5 + (1 : Int32)) X3 hX3
  refine po_ite (fun hb2 => ?_) (fun _ => ?_)
  · exact hk9 v1 v2 c4 v5 (v5 + (1 : Int32)) X3 hX3
  exact hk9 v1 v2 v3 v4 (v5 + (1 : Int32)) X3 hX3
theorem fq_el_fewestLost_L9_B (n : Nat) (X0 : St) (k89 : Int32 → Int32 → Int32 → St → Option (Int32 × St)) (hk89 : ∀ (x0 : Int32) (x1 : Int32) (x2 : Int32) X, fq wR_el_fewestLost wF_el_fewestLost X0 X → PO (fun r => fq wR_el_fewestLost wF_el_fewestLost X0 r.2) (k89 x0 x1 x2 X)) (rec : Int32 → Int32 → Int32 → Int32 → Int32 → St → Option (Int32 × St)) (hrec : ∀ (x0 : Int32) (x1 : Int32) (x2 : Int32) (x3 : Int32) (x4 : Int32) X, fq wR_el_fewestLost wF_el_fewestLost X0 X → PO (fun r => fq wR_el_fewestLost wF_el_fewestLost X0 r.2) (rec x0 x1 x2 x3 x4 X)) (v1 : Int32) (v2 : Int32) (v3 : Int32) (v4 : Int32) (v5 : Int32) (X : St) (hX : fq wR_el_fewestLost wF_el_fewestLost X0 X) : PO (fun r => fq wR_el_fewestLost wF_el_fewestLost X0 r.2) (el_fewestLost_L9_B n k89 rec v1 v2 v3 v4 v5 X) := by
  unfold el_fewestLost_L9_B
  refine po_ite (fun hb1 => ?_) (fun _ => ?_)
  · refine qo_cV hX (fq_tho_ready n X) (by decide) (by decide) (fun X1 hX1 => ?_)
    refine po_ite (fun hb2 => ?_) (fun _ => ?_)
    · refine qo_cV hX1 (fq_tho_quicken v5 (0 : Int32) X1) (by decide) (by decide) (fun X2 hX2 => ?_)
      refine fq_el_fewestLost_J54 n X0 _ hrec v1 v2 v3 v4 v5 X2 hX2
    refine qo_cV hX1 (fq_tho_leadBy v5 X1) (by decide) (by decide) (fun X5 hX5 => ?_)
    refine fq_el_fewestLost_J54 n X0 _ hrec v1 v2 v3 v4 v5 X5 hX5
  exact hk89 v1 v3 v4 X hX
theorem fq_el_fewestLost_L9 (n : Nat) (X0 : St) (k89 : Int32 → Int32 → Int32 → St → Option (Int32 × St)) (hk89 : ∀ (x0 : Int32) (x1 : Int32) (x2 : Int32) X, fq wR_el_fewestLost wF_el_fewestLost X0 X → PO (fun r => fq wR_el_fewestLost wF_el_fewestLost X0 r.2) (k89 x0 x1 x2 X)) : ∀ (w : Nat) (v1 : Int32) (v2 : Int32) (v3 : Int32) (v4 : Int32) (v5 : Int32) (X : St), fq wR_el_fewestLost wF_el_fewestLost X0 X → PO (fun r => fq wR_el_fewestLost wF_el_fewestLost X0 r.2) (el_fewestLost_L9 n k89 w v1 v2 v3 v4 v5 X) := by
  intro w
  induction w with
  | zero => intro v1 v2 v3 v4 v5 X _; exact po_none
  | succ w ih => intro v1 v2 v3 v4 v5 X hX; exact fq_el_fewestLost_L9_B n X0 k89 hk89 _ ih v1 v2 v3 v4 v5 X hX
theorem fq_el_fewestLost (n : Nat) (v1 : Int32) (v2 : Int32) (X0 : St) : PO (fun r => fq wR_el_fewestLost wF_el_fewestLost X0 r.2) (el_fewestLost n v1 v2 X0) := by
  have hX0 : fq wR_el_fewestLost wF_el_fewestLost X0 X0 := fq_rf
  unfold el_fewestLost
  refine fq_el_fewestLost_L9 n X0 _ (fun v7 v8 v9 X6 hX6 => ?_) n v1 v2 (0 : Int32) (-2 : Int32) (0 : Int32) X0 hX0
  refine po_ite (fun hb1 => ?_) (fun _ => ?_)
  · refine po_ite (fun hb2 => ?_) (fun _ => ?_)
    · exact po_some hX6
    exact po_some hX6
  exact po_some hX6
theorem fq_el_whose (n : Nat) (v1 : Int32) (v2 : Int32) (X0 : St) : PO (fun r => fq wR_el_whose wF_el_whose X0 r.2) (el_whose n v1 v2 X0) := by
  have hX0 : fq wR_el_whose wF_el_whose X0 X0 := fq_rf
  unfold el_whose
  refine qo_cI hX0 (fq_el_begin n v1 (el_isZeroOrOne v2) X0) (by decide) (by decide) (fun c2 X1 hX1 => ?_)
  refine po_ite (fun hb1 => ?_) (fun _ => ?_)
  · refine po_ite (fun hb2 => ?_) (fun _ => ?_)
    · refine qo_cI hX1 (fq_el_fewestLost n (1 : Int32) (1 : Int32) X1) (by decide) (by decide) (fun c4 X3 hX3 => ?_)
      exact po_some hX3
    refine qo_cI hX1 (fq_el_fewestLost n (0 : Int32) (1 : Int32) X1) (by decide) (by decide) (fun c6 X5 hX5 => ?_)
    exact po_some hX5
  exact po_some hX1
theorem fq_el_first (n : Nat) (v1 : Int32) (v2 : Int32) (X0 : St) : PO (fun r => fq wR_el_first wF_el_first X0 r.2) (el_first n v1 v2 X0) := by
  have hX0 : fq wR_el_first wF_el_first X0 X0 := fq_rf
  unfold el_first
  refine qo_cI hX0 (fq_el_begin n v1 (el_isZeroOrOne v2) X0) (by decide) (by decide) (fun c2 X1 hX1 => ?_)
  refine po_ite (fun hb1 => ?_) (fun _ => ?_)
  · refine po_ite (fun hb2 => ?_) (fun _ => ?_)
    · refine qo_cI hX1 (fq_el_fewestLost n (1 : Int32) (0 : Int32) X1) (by decide) (by decide) (fun c4 X3 hX3 => ?_)
      exact po_some hX3
    refine qo_cI hX1 (fq_el_fewestLost n (0 : Int32) (0 : Int32) X1) (by decide) (by decide) (fun c6 X5 hX5 => ?_)
    exact po_some hX5
  exact po_some hX1
theorem fq_el_slip_J44 (n : Nat) (X0 : St) (v1 : Int32) (v2 : Int32) (v3 : Int32) (s0 : Int32) (X : St) (hX : fq wR_el_slip wF_el_slip X0 X) : PO (fun r => fq wR_el_slip wF_el_slip X0 r.2) (el_slip_J44 n v1 v2 v3 s0 X) := by
  unfold el_slip_J44
  refine qo_cI hX (fq_el_begin n v1 s0 X) (by decide) (by decide) (fun c2 X1 hX1 => ?_)
  refine po_ite (fun hb1 => ?_) (fun _ => ?_)
  · refine qo_cV hX1 (fq_tho_slipAt (v2 / (100 : Int32)) (irm v2 (100 : Int32)) v3 X1) (by decide) (by decide) (fun X3 hX3 => ?_)
    refine qo_cI hX3 (fq_tho_lost n X3) (by decide) (by decide) (fun c5 X4 hX4 => ?_)
    exact po_some hX4
  exact po_some hX1
theorem fq_el_slip (n : Nat) (v1 : Int32) (v2 : Int32) (v3 : Int32) (X0 : St) : PO (fun r => fq wR_el_slip wF_el_slip X0 r.2) (el_slip n v1 v2 v3 X0) := by
  have hX0 : fq wR_el_slip wF_el_slip X0 X0 := fq_rf
  unfold el_slip
  refine po_ite (fun hb1 => ?_) (fun _ => ?_)
  · refine fq_el_slip_J44 n X0 v1 v2 v3 (0 : Int32) X0 hX0
  refine po_ite (fun hb2 => ?_) (fun _ => ?_)
  · refine fq_el_slip_J44 n X0 v1 v2 v3 (0 : Int32) X0 hX0
  refine po_ite (fun hb3 => ?_) (fun _ => ?_)
  · refine po_ite (fun hb4 => ?_) (fun _ => ?_)
    · refine fq_el_slip_J44 n X0 v1 v2 v3 (0 : Int32) X0 hX0
    refine po_ite (fun hb5 => ?_) (fun _ => ?_)
    · refine fq_el_slip_J44 n X0 v1 v2 v3 (0 : Int32) X0 hX0
    refine fq_el_slip_J44 n X0 v1 v2 v3 (1 : Int32) X0 hX0
  refine fq_el_slip_J44 n X0 v1 v2 v3 (0 : Int32) X0 hX0
theorem fq_el_line (n : Nat) (v1 : Int32) (v2 : Int32) (X0 : St) : PO (fun r => fq wR_el_line wF_el_line X0 r.2) (el_line n v1 v2 X0) := by
  have hX0 : fq wR_el_line wF_el_line X0 X0 := fq_rf
  unfold el_line
  refine po_ite (fun hb1 => ?_) (fun _ => ?_)
  · exact po_some hX0
  refine po_ite (fun hb2 => ?_) (fun _ => ?_)
  · exact po_some hX0
  refine po_ite (fun hb3 => ?_) (fun _ => ?_)
  · exact po_some hX0
  refine po_ite (fun hb4 => ?_) (fun _ => ?_)
  · exact po_some hX0
  refine qo_cI hX0 (fq_gro_lineUp n v1 X0) (by decide) (by decide) (fun c2 X1 hX1 => ?_)
  refine po_ite (fun hb5 => ?_) (fun _ => ?_)
  · exact po_some hX1
  refine po_bnd (fun c3 => ?_)
  exact po_some hX1
theorem fq_el_beginRipples (n : Nat) (v1 : Int32) (v2 : Int32) (X0 : St) : PO (fun r => fq wR_el_beginRipples wF_el_beginRipples X0 r.2) (el_beginRipples n v1 v2 X0) := by
  have hX0 : fq wR_el_beginRipples wF_el_beginRipples X0 X0 := fq_rf
  unfold el_beginRipples
  refine po_ite (fun hb1 => ?_) (fun _ => ?_)
  · exact po_some hX0
  refine po_ite (fun hb2 => ?_) (fun _ => ?_)
  · exact po_some hX0
  refine po_ite (fun hb3 => ?_) (fun _ => ?_)
  · exact po_some hX0
  refine po_ite (fun hb4 => ?_) (fun _ => ?_)
  · exact po_some hX0
  refine po_bnd (fun c1 => ?_)
  refine po_ite (fun hb5 => ?_) (fun _ => ?_)
  · refine po_bnd (fun c2 => ?_)
    refine po_ite (fun hb6 => ?_) (fun _ => ?_)
    · refine qo_cI hX0 (fq_el_begin n (v1 / (10 : Int32)) (1 : Int32) X0) (by decide) (by decide) (fun c4 X3 hX3 => ?_)
      refine po_ite (fun hb7 => ?_) (fun _ => ?_)
      · refine po_bnd (fun c5 => ?_)
        exact po_some hX3
      exact po_some hX3
    exact po_some hX0
  exact po_some hX0
theorem fq_el_judged (n : Nat) (v1 : Int32) (X0 : St) : PO (fun r => fq wR_el_judged wF_el_judged X0 r.2) (el_judged n v1 X0) := by
  have hX0 : fq wR_el_judged wF_el_judged X0 X0 := fq_rf
  unfold el_judged
  refine po_bnd (fun c1 => ?_)
  refine po_bnd (fun c2 => ?_)
  refine qo_cI hX0 (fq_tho_judged n c1 c2 X0) (by decide) (by decide) (fun c4 X3 hX3 => ?_)
  exact po_some hX3
theorem fq_el_judge (n : Nat) (v1 : Int32) (X0 : St) : PO (fun r => fq wR_el_judge wF_el_judge X0 r.2) (el_judge n v1 X0) := by
  have hX0 : fq wR_el_judge wF_el_judge X0 X0 := fq_rf
  unfold el_judge
  refine qo_cI hX0 (fq_el_beginRipples n v1 (1 : Int32) X0) (by decide) (by decide) (fun c2 X1 hX1 => ?_)
  refine po_ite (fun hb1 => ?_) (fun _ => ?_)
  · refine qo_cI hX1 (fq_el_judged n v1 X1) (by decide) (by decide) (fun c4 X3 hX3 => ?_)
    exact po_some hX3
  exact po_some hX1
theorem fq_el_whoLed_L18_B (n : Nat) (X0 : St) (rec : Int32 → Int32 → Int32 → St → Option (Int32 × St)) (hrec : ∀ (x0 : Int32) (x1 : Int32) (x2 : Int32) X, fq wR_el_whoLed wF_el_whoLed X0 X → PO (fun r => fq wR_el_whoLed wF_el_whoLed X0 r.2) (rec x0 x1 x2 X)) (v1 : Int32) (v3 : Int32) (v4 : Int32) (X : St) (hX : fq wR_el_whoLed wF_el_whoLed X0 X) : PO (fun r => fq wR_el_whoLed wF_el_whoLed X0 r.2) (el_whoLed_L18_B n rec v1 v3 v4 X) := by
  unfold el_whoLed_L18_B
  refine po_ite (fun hb1 => ?_) (fun _ => ?_)
  · refine qo_cV hX (fq_tho_leadBy v4 X) (by decide) (by decide) (fun X3 hX3 => ?_)
    refine qo_cI hX3 (fq_el_judged n v1 X3) (by decide) (by decide) (fun c5 X4 hX4 => ?_)
    refine po_ite (fun hb2 => ?_) (fun _ => ?_)
    · refine po_bnd (fun t6 => ?_)
      exact hrec v1 t6 (v4 + (1 : Int32)) X4 hX4
    exact hrec v1 v3 (v4 + (1 : Int32)) X4 hX4
  exact po_some hX
theorem fq_el_whoLed_L18 (n : Nat) (X0 : St) : ∀ (w : Nat) (v1 : Int32) (v3 : Int32) (v4 : Int32) (X : St), fq wR_el_whoLed wF_el_whoLed X0 X → PO (fun r => fq wR_el_whoLed wF_el_whoLed X0 r.2) (el_whoLed_L18 n w v1 v3 v4 X) := by
  intro w
  induction w with
  | zero => intro v1 v3 v4 X _; exact po_none
  | succ w ih => intro v1 v3 v4 X hX; exact fq_el_whoLed_L18_B n X0 _ ih v1 v3 v4 X hX
theorem fq_el_whoLed (n : Nat) (v1 : Int32) (X0 : St) : PO (fun r => fq wR_el_whoLed wF_el_whoLed X0 r.2) (el_whoLed n v1 X0) := by
  have hX0 : fq wR_el_whoLed wF_el_whoLed X0 X0 := fq_rf
  unfold el_whoLed
  refine qo_cI hX0 (fq_el_beginRipples n v1 (1 : Int32) X0) (by decide) (by decide) (fun c2 X1 hX1 => ?_)
  refine po_ite (fun hb1 => ?_) (fun _ => ?_)
  · refine fq_el_whoLed_L18 n X0 n v1 (0 : Int32) (0 : Int32) X1 hX1
  exact po_some hX1
theorem fq_el_later_L23_B (n : Nat) (X0 : St) (rec : Int32 → Int32 → Int32 → St → Option (Int32 × St)) (hrec : ∀ (x0 : Int32) (x1 : Int32) (x2 : Int32) X, fq wR_el_later wF_el_later X0 X → PO (fun r => fq wR_el_later wF_el_later X0 r.2) (rec x0 x1 x2 X)) (v1 : Int32) (v2 : Int32) (v4 : Int32) (X : St) (hX : fq wR_el_later wF_el_later X0 X) : PO (fun r => fq wR_el_later wF_el_later X0 r.2) (el_later_L23_B n rec v1 v2 v4 X) := by
  unfold el_later_L23_B
  refine po_ite (fun hb1 => ?_) (fun _ => ?_)
  · exact po_some hX
  refine qo_cV hX (fq_tho_delay v2 v4 X) (by decide) (by decide) (fun X3 hX3 => ?_)
  refine qo_cI hX3 (fq_el_judged n v1 X3) (by decide) (by decide) (fun c5 X4 hX4 => ?_)
  refine po_ite (fun hb2 => ?_) (fun _ => ?_)
  · exact po_some hX4
  exact hrec v1 v2 (v4 + (1 : Int32)) X4 hX4
theorem fq_el_later_L23 (n : Nat) (X0 : St) : ∀ (w : Nat) (v1 : Int32) (v2 : Int32) (v4 : Int32) (X : St), fq wR_el_later wF_el_later X0 X → PO (fun r => fq wR_el_later wF_el_later X0 r.2) (el_later_L23 n w v1 v2 v4 X) := by
  intro w
  induction w with
  | zero => intro v1 v2 v4 X _; exact po_none
  | succ w ih => intro v1 v2 v4 X hX; exact fq_el_later_L23_B n X0 _ ih v1 v2 v4 X hX
theorem fq_el_later (n : Nat) (v1 : Int32) (v2 : Int32) (X0 : St) : PO (fun r => fq wR_el_later wF_el_later X0 r.2) (el_later n v1 v2 X0) := by
  have hX0 : fq wR_el_later wF_el_later X0 X0 := fq_rf
  unfold el_later
  refine qo_cI hX0 (fq_el_beginRipples n v1 (poo_has v2 X0) X0) (by decide) (by decide) (fun c2 X1 hX1 => ?_)
  refine po_ite (fun hb1 => ?_) (fun _ => ?_)
  · refine fq_el_later_L23 n X0 n v1 v2 (0 : Int32) X1 hX1
  exact po_some hX1
theorem fq_el_quicker_L34_B (n : Nat) (X0 : St) (rec : Int32 → Int32 → Int32 → St → Option (Int32 × St)) (hrec : ∀ (x0 : Int32) (x1 : Int32) (x2 : Int32) X, fq wR_el_quicker wF_el_quicker X0 X → PO (fun r => fq wR_el_quicker wF_el_quicker X0 r.2) (rec x0 x1 x2 X)) (v1 : Int32) (v2 : Int32) (v4 : Int32) (X : St) (hX : fq wR_el_quicker wF_el_quicker X0 X) : PO (fun r => fq wR_el_quicker wF_el_quicker X0 r.2) (el_quicker_L34_B n rec v1 v2 v4 X) := by
  unfold el_quicker_L34_B
  refine po_ite (fun hb1 => ?_) (fun _ => ?_)
  · exact po_some hX
  refine qo_cV hX (fq_tho_quicken v2 v4 X) (by decide) (by decide) (fun X3 hX3 => ?_)
  refine qo_cI hX3 (fq_el_judged n v1 X3) (by decide) (by decide) (fun c5 X4 hX4 => ?_)
  refine po_ite (fun hb2 => ?_) (fun _ => ?_)
  · exact po_some hX4
  exact hrec v1 v2 (v4 + (1 : Int32)) X4 hX4
theorem fq_el_quicker_L34 (n : Nat) (X0 : St) : ∀ (w : Nat) (v1 : Int32) (v2 : Int32) (v4 : Int32) (X : St), fq wR_el_quicker wF_el_quicker X0 X → PO (fun r => fq wR_el_quicker wF_el_quicker X0 r.2) (el_quicker_L34 n w v1 v2 v4 X) := by
  intro w
  induction w with
  | zero => intro v1 v2 v4 X _; exact po_none
  | succ w ih => intro v1 v2 v4 X hX; exact fq_el_quicker_L34_B n X0 _ ih v1 v2 v4 X hX
theorem fq_el_quicker (n : Nat) (v1 : Int32) (v2 : Int32) (X0 : St) : PO (fun r => fq wR_el_quicker wF_el_quicker X0 r.2) (el_quicker n v1 v2 X0) := by
  have hX0 : fq wR_el_quicker wF_el_quicker X0 X0 := fq_rf
  unfold el_quicker
  refine qo_cI hX0 (fq_el_beginRipples n v1 (poo_has v2 X0) X0) (by decide) (by decide) (fun c2 X1 hX1 => ?_)
  refine po_ite (fun hb1 => ?_) (fun _ => ?_)
  · refine fq_el_quicker_L34 n X0 n v1 v2 (-9 : Int32) X1 hX1
  refine po_ite (fun hb2 => ?_) (fun _ => ?_)
  · exact po_some hX1
  exact po_some hX1
theorem fq_el_drawn_J47 (n : Nat) (X0 : St) (v2 : Int32) (v4 : Int32) (v5 : Int32) (v6 : Int32) (s0 : Int32) (s1 : Int32) (X : St) (hX : fq wR_el_drawn wF_el_drawn X0 X) : PO (fun r => fq wR_el_drawn wF_el_drawn X0 r.2) (el_drawn_J47 n v2 v4 v5 v6 s0 s1 X) := by
  unfold el_drawn_J47
  refine qo_cI hX (fq_el_begin n s1 s0 X) (by decide) (by decide) (fun c2 X1 hX1 => ?_)
  refine po_ite (fun hb1 => ?_) (fun _ => ?_)
  · refine po_ite (fun hb2 => ?_) (fun _ => ?_)
    · refine qo_cI hX1 (fq_tho_train n v2 v5 v6 (1 : Int32) X1) (by decide) (by decide) (fun c4 X3 hX3 => ?_)
      exact po_some hX3
    refine qo_cI hX1 (fq_tho_train n v2 v5 v6 (0 : Int32) X1) (by decide) (by decide) (fun c6 X5 hX5 => ?_)
    exact po_some hX5
  exact po_some hX1
theorem fq_el_drawn (n : Nat) (v1 : Int32) (v2 : Int32) (v3 : Int32) (v4 : Int32) (X0 : St) : PO (fun r => fq wR_el_drawn wF_el_drawn X0 r.2) (el_drawn n v1 v2 v3 v4 X0) := by
  have hX0 : fq wR_el_drawn wF_el_drawn X0 X0 := fq_rf
  unfold el_drawn
  refine po_ite (fun hb1 => ?_) (fun _ => ?_)
  · refine fq_el_drawn_J47 n X0 v2 v4 (v3 / (100 : Int32)) (irm v3 (100 : Int32)) (0 : Int32) v1 X0 hX0
  refine po_ite (fun hb2 => ?_) (fun _ => ?_)
  · refine fq_el_drawn_J47 n X0 v2 v4 (v3 / (100 : Int32)) (irm v3 (100 : Int32)) (0 : Int32) v1 X0 hX0
  refine po_ite (fun hb3 => ?_) (fun _ => ?_)
  · refine fq_el_drawn_J47 n X0 v2 v4 (v3 / (100 : Int32)) (irm v3 (100 : Int32)) (0 : Int32) v1 X0 hX0
  refine po_ite (fun hb4 => ?_) (fun _ => ?_)
  · refine fq_el_drawn_J47 n X0 v2 v4 (v3 / (100 : Int32)) (irm v3 (100 : Int32)) (0 : Int32) v1 X0 hX0
  refine fq_el_drawn_J47 n X0 v2 v4 (v3 / (100 : Int32)) (irm v3 (100 : Int32)) (1 : Int32) v1 X0 hX0
theorem fq_el_swim (n : Nat) (v1 : Int32) (X0 : St) : PO (fun r => fq wR_el_swim wF_el_swim X0 r.2) (el_swim n v1 X0) := by
  have hX0 : fq wR_el_swim wF_el_swim X0 X0 := fq_rf
  unfold el_swim
  refine qo_cI hX0 (fq_el_begin n v1 (1 : Int32) X0) (by decide) (by decide) (fun c2 X1 hX1 => ?_)
  refine po_ite (fun hb1 => ?_) (fun _ => ?_)
  · refine qo_cI hX1 (fq_tho_lost n X1) (by decide) (by decide) (fun c4 X3 hX3 => ?_)
    refine po_bnd (fun c5 => ?_)
    refine qo_cV hX3 (fq_ded_swum n (poo_many X3) c4 c5 X3) (by decide) (by decide) (fun X6 hX6 => ?_)
    exact po_some hX6
  exact po_some hX1
theorem fq_el_image (X0 : St) : PO (fun r => fq wR_el_image wF_el_image X0 r.2) (el_image X0) := by
  have hX0 : fq wR_el_image wF_el_image X0 X0 := fq_rf
  unfold el_image
  refine qo_cV hX0 (fq_ded_keepImage X0) (by decide) (by decide) (fun X1 hX1 => ?_)
  refine po_bnd (fun c2 => ?_)
  exact po_some hX1
theorem fq_el_back (X0 : St) : PO (fun r => fq wR_el_back wF_el_back X0 r.2) (el_back X0) := by
  have hX0 : fq wR_el_back wF_el_back X0 X0 := fq_rf
  unfold el_back
  refine po_bnd (fun c1 => ?_)
  refine po_ite (fun hb1 => ?_) (fun _ => ?_)
  · exact po_some hX0
  refine qo_cV hX0 (fq_ded_layBack X0) (by decide) (by decide) (fun X2 hX2 => ?_)
  refine po_bnd (fun c3 => ?_)
  exact po_some hX2
theorem fq_el_undo (X0 : St) : PO (fun r => fq wR_el_undo wF_el_undo X0 r.2) (el_undo X0) := by
  have hX0 : fq wR_el_undo wF_el_undo X0 X0 := fq_rf
  unfold el_undo
  refine qo_cI hX0 (fq_chg_takeBack X0) (by decide) (by decide) (fun c2 X1 hX1 => ?_)
  refine po_ite (fun hb1 => ?_) (fun _ => ?_)
  · exact po_some hX1
  exact po_some hX1
theorem fq_el_redo (X0 : St) : PO (fun r => fq wR_el_redo wF_el_redo X0 r.2) (el_redo X0) := by
  have hX0 : fq wR_el_redo wF_el_redo X0 X0 := fq_rf
  unfold el_redo
  refine qo_cI hX0 (fq_chg_doAgain X0) (by decide) (by decide) (fun c2 X1 hX1 => ?_)
  refine po_ite (fun hb1 => ?_) (fun _ => ?_)
  · exact po_some hX1
  exact po_some hX1
theorem fq_el_body (v1 : Int32) (X0 : St) : PO (fun r => fq wR_el_body wF_el_body X0 r.2) (el_body v1 X0) := by
  have hX0 : fq wR_el_body wF_el_body X0 X0 := fq_rf
  unfold el_body
  refine po_ite (fun hb1 => ?_) (fun _ => ?_)
  · exact po_some hX0
  refine po_ite (fun hb2 => ?_) (fun _ => ?_)
  · refine qo_cI hX0 (fq_way_add v1 X0) (by decide) (by decide) (fun c2 X1 hX1 => ?_)
    exact po_some hX1
  exact po_some hX0
theorem fq_el_act (v1 : Int32) (v2 : Int32) (v3 : Int32) (X0 : St) : PO (fun r => fq wR_el_act wF_el_act X0 r.2) (el_act v1 v2 v3 X0) := by
  have hX0 : fq wR_el_act wF_el_act X0 X0 := fq_rf
  unfold el_act
  refine qo_cI hX0 (fq_way_start v1 X0) (by decide) (by decide) (fun c2 X1 hX1 => ?_)
  refine po_ite (fun hb1 => ?_) (fun _ => ?_)
  · exact po_some hX1
  refine po_ite (fun hb2 => ?_) (fun _ => ?_)
  · refine qo_cI hX1 (fq_way_counts v3 X1) (by decide) (by decide) (fun c4 X3 hX3 => ?_)
    exact po_some hX3
  refine po_ite (fun hb3 => ?_) (fun _ => ?_)
  · refine qo_cI hX1 (fq_way_turns v3 X1) (by decide) (by decide) (fun c6 X5 hX5 => ?_)
    exact po_some hX5
  refine po_ite (fun hb4 => ?_) (fun _ => ?_)
  · refine qo_cI hX1 (fq_way_sinks v3 X1) (by decide) (by decide) (fun c8 X7 hX7 => ?_)
    exact po_some hX7
  refine po_ite (fun hb5 => ?_) (fun _ => ?_)
  · refine qo_cI hX1 (fq_way_tells v3 X1) (by decide) (by decide) (fun c10 X9 hX9 => ?_)
    exact po_some hX9
  exact po_some hX1
theorem fq_el_keep (v1 : Int32) (v2 : Int32) (X0 : St) : PO (fun r => fq wR_el_keep wF_el_keep X0 r.2) (el_keep v1 v2 X0) := by
  have hX0 : fq wR_el_keep wF_el_keep X0 X0 := fq_rf
  unfold el_keep
  refine po_ite (fun hb1 => ?_) (fun _ => ?_)
  · exact po_some hX0
  refine po_ite (fun hb2 => ?_) (fun _ => ?_)
  · refine qo_cV hX0 (fq_she_hold v1 v2 X0) (by decide) (by decide) (fun X1 hX1 => ?_)
    exact po_some hX1
  refine po_ite (fun hb3 => ?_) (fun _ => ?_)
  · exact po_some hX0
  refine qo_cV hX0 (fq_she_hold v1 v2 X0) (by decide) (by decide) (fun X2 hX2 => ?_)
  exact po_some hX2
