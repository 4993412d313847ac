/-! the same of the reference -/
def wR_mo_newSwimmer : List (Nat × Nat) := [(103, 103), (104, 104), (105, 105), (106, 106), (107, 107), (108, 108), (110, 110), (111, 111)]
def wF_mo_newSwimmer : List (Nat × Nat) := [(102, 0)]
theorem fr_mo_newSwimmer (v1 : Int32) (v2 : Int32) (v3 : Int32) (v4 : Int32) (X0 : St) : PO (fun r => fr wR_mo_newSwimmer wF_mo_newSwimmer X0 r.2) (mo_newSwimmer v1 v2 v3 v4 X0) := by
  have hX0 : fr wR_mo_newSwimmer wF_mo_newSwimmer X0 X0 := fr_rf
  unfold mo_newSwimmer
  refine po_ite (fun hb1 => ?_) (fun _ => po_none)
  refine po_ite (fun hb2 => ?_) (fun _ => po_none)
  refine po_nmX (fr_I (fr_I hX0 (wr_o (by decide))) (wr_o (by decide))) (fun X1 hX1 => ?_)
  refine po_ite (fun hb3 => ?_) (fun _ => po_none)
  refine po_ite (fun hb4 => ?_) (fun _ => po_none)
  refine po_nmX (fr_I (fr_I hX1 (wr_o (by decide))) (wr_o (by decide))) (fun X2 hX2 => ?_)
  refine po_ite (fun hb5 => ?_) (fun _ => po_none)
  refine po_ite (fun hb6 => ?_) (fun _ => po_none)
  refine po_nmX (fr_I (fr_I hX2 (wr_o (by decide))) (wr_o (by decide))) (fun X3 hX3 => ?_)
  refine po_ite (fun hb7 => ?_) (fun _ => po_none)
  refine po_ite (fun hb8 => ?_) (fun _ => po_none)
  refine po_nmX (fr_I (fr_I hX3 (wr_o (by decide))) (wr_o (by decide))) (fun X4 hX4 => ?_)
  exact po_some (fr_I hX4 (wr_f (by decide)))
def wR_mo_swimmer : List (Nat × Nat) := [(103, 103), (104, 104), (105, 105), (106, 106), (107, 107), (108, 108), (110, 110), (111, 111)]
def wF_mo_swimmer : List (Nat × Nat) := [(102, 0)]
theorem fr_mo_swimmer (v1 : Int32) (v2 : Int32) (X0 : St) : PO (fun r => fr wR_mo_swimmer wF_mo_swimmer X0 r.2) (mo_swimmer v1 v2 X0) := by
  have hX0 : fr wR_mo_swimmer wF_mo_swimmer X0 X0 := fr_rf
  unfold mo_swimmer
  refine po_ite (fun hb1 => ?_) (fun _ => ?_)
  · exact po_some hX0
  refine po_ite (fun hb2 => ?_) (fun _ => ?_)
  · exact po_some hX0
  refine po_ite (fun hb3 => ?_) (fun _ => ?_)
  · exact po_some hX0
  refine po_ite (fun hb4 => ?_) (fun _ => ?_)
  · exact po_some hX0
  refine po_ite (fun hb5 => ?_) (fun _ => ?_)
  · exact po_some hX0
  refine po_cI hX0 (fr_mo_newSwimmer (irm v1 (100 : Int32)) (v1 / (100 : Int32)) v2 (0 : Int32) X0) (by decide) (by decide) (fun c2 X1 hX1 => ?_)
  exact po_some hX1
def wR_mo_swimmers : List (Nat × Nat) := [(103, 103), (104, 104), (105, 105), (106, 106), (107, 107), (108, 108), (110, 110), (111, 111)]
def wF_mo_swimmers : List (Nat × Nat) := [(102, 0)]
theorem fr_mo_swimmers_L49_B (n : Nat) (X0 : St) (rec : Int32 → Int32 → Int32 → Int32 → Int32 → St → Option (Int32 × St)) (hrec : ∀ (x0 : Int32) (x1 : Int32) (x2 : Int32) (x3 : Int32) (x4 : Int32) X, fr wR_mo_swimmers wF_mo_swimmers X0 X → PO (fun r => fr wR_mo_swimmers wF_mo_swimmers X0 r.2) (rec x0 x1 x2 x3 x4 X)) (v1 : Int32) (v2 : Int32) (v3 : Int32) (v4 : Int32) (v5 : Int32) (X : St) (hX : fr wR_mo_swimmers wF_mo_swimmers X0 X) : PO (fun r => fr wR_mo_swimmers wF_mo_swimmers X0 r.2) (mo_swimmers_L49_B n rec v1 v2 v3 v4 v5 X) := by
  unfold mo_swimmers_L49_B
  refine po_ite (fun hb1 => ?_) (fun _ => ?_)
  · refine po_bnd (fun t1 => ?_)
    refine po_ite (fun hb2 => ?_) (fun _ => ?_)
    · exact po_some hX
    refine po_ite (fun hb3 => ?_) (fun _ => po_none)
    refine po_ite (fun hb4 => ?_) (fun _ => ?_)
    · exact po_some hX
    refine po_ite (fun hb5 => ?_) (fun _ => ?_)
    · exact po_some hX
    refine po_ite (fun hb6 => ?_) (fun _ => po_none)
    refine po_ite (fun hb7 => ?_) (fun _ => ?_)
    · exact po_some hX
    refine po_ite (fun hb8 => ?_) (fun _ => po_none)
    refine po_ite (fun hb9 => ?_) (fun _ => ?_)
    · exact po_some hX
    refine po_ite (fun hb10 => ?_) (fun _ => po_none)
    refine po_ite (fun hb11 => ?_) (fun _ => ?_)
    · exact po_some hX
    refine po_ite (fun hb12 => ?_) (fun _ => po_none)
    refine po_ite (fun hb13 => ?_) (fun _ => ?_)
    · exact po_some hX
    refine po_ite (fun hb14 => ?_) (fun _ => po_none)
    refine po_ite (fun hb15 => ?_) (fun _ => po_none)
    refine po_ite (fun hb16 => ?_) (fun _ => po_none)
    refine po_ite (fun hb17 => ?_) (fun _ => po_none)
    refine po_cI hX (fr_mo_newSwimmer ((X.2 132 (nx (((60 : Int32) * v1) + (t1.toInt32)))).toInt32) ((X.2 132 (nx ((((60 : Int32) * v1) + (t1.toInt32)) + (1 : Int32)))).toInt32) ((X.2 132 (nx ((((60 : Int32) * v1) + (t1.toInt32)) + (2 : Int32)))).toInt32) ((X.2 132 (nx ((((60 : Int32) * v1) + (t1.toInt32)) + (3 : Int32)))).toInt32) X) (by decide) (by decide) (fun c3 X2 hX2 => ?_)
    exact hrec v1 v2 v3 (v4 + (1 : Int32)) (v5 + (1 : Int32)) X2 hX2
  exact po_some hX
theorem fr_mo_swimmers_L49 (n : Nat) (X0 : St) : ∀ (w : Nat) (v1 : Int32) (v2 : Int32) (v3 : Int32) (v4 : Int32) (v5 : Int32) (X : St), fr wR_mo_swimmers wF_mo_swimmers X0 X → PO (fun r => fr wR_mo_swimmers wF_mo_swimmers X0 r.2) (mo_swimmers_L49 n w v1 v2 v3 v4 v5 X) := by
  intro w
  induction w with
  | zero => intro v1 v2 v3 v4 v5 X _; exact po_none
  | succ w ih => intro v1 v2 v3 v4 v5 X hX; exact fr_mo_swimmers_L49_B n X0 _ ih v1 v2 v3 v4 v5 X hX
theorem fr_mo_swimmers (n : Nat) (v1 : Int32) (v2 : Int32) (v3 : Int32) (X0 : St) : PO (fun r => fr wR_mo_swimmers wF_mo_swimmers X0 r.2) (mo_swimmers n v1 v2 v3 X0) := by
  have hX0 : fr wR_mo_swimmers wF_mo_swimmers X0 X0 := fr_rf
  unfold mo_swimmers
  refine po_ite (fun hb1 => ?_) (fun _ => ?_)
  · exact po_some hX0
  refine po_ite (fun hb2 => ?_) (fun _ => ?_)
  · exact po_some hX0
  refine po_ite (fun hb3 => ?_) (fun _ => po_none)
  refine po_ite (fun hb4 => ?_) (fun _ => ?_)
  · exact po_some hX0
  refine po_ite (fun hb5 => ?_) (fun _ => po_none)
  refine po_ite (fun hb6 => ?_) (fun _ => ?_)
  · refine fr_mo_swimmers_L49 n X0 n v1 v2 v3 (0 : Int32) (0 : Int32) X0 hX0
  exact po_some hX0
def wR_mo_becomes : List (Nat × Nat) := [(103, 103), (104, 104), (105, 105), (106, 106), (107, 107), (108, 108), (109, 109)]
def wF_mo_becomes : List (Nat × Nat) := []
theorem fr_mo_becomes (v1 : Int32) (v2 : Int32) (v3 : Int32) (X0 : St) : PO (fun r => fr wR_mo_becomes wF_mo_becomes X0 r) (mo_becomes v1 v2 v3 X0) := by
  have hX0 : fr wR_mo_becomes wF_mo_becomes X0 X0 := fr_rf
  unfold mo_becomes
  refine po_ite (fun hb1 => ?_) (fun _ => ?_)
  · refine po_ite (fun hb2 => ?_) (fun _ => po_none)
    exact po_some (fr_I hX0 (wr_o (by decide)))
  refine po_ite (fun hb3 => ?_) (fun _ => ?_)
  · refine po_ite (fun hb4 => ?_) (fun _ => po_none)
    exact po_some (fr_I hX0 (wr_o (by decide)))
  refine po_ite (fun hb5 => ?_) (fun _ => ?_)
  · refine po_ite (fun hb6 => ?_) (fun _ => po_none)
    exact po_some (fr_I hX0 (wr_o (by decide)))
  refine po_ite (fun hb7 => ?_) (fun _ => ?_)
  · refine po_ite (fun hb8 => ?_) (fun _ => po_none)
    exact po_some (fr_I hX0 (wr_o (by decide)))
  refine po_ite (fun hb9 => ?_) (fun _ => ?_)
  · refine po_ite (fun hb10 => ?_) (fun _ => po_none)
    exact po_some (fr_I hX0 (wr_o (by decide)))
  refine po_ite (fun hb11 => ?_) (fun _ => ?_)
  · refine po_ite (fun hb12 => ?_) (fun _ => po_none)
    exact po_some (fr_I hX0 (wr_o (by decide)))
  refine po_ite (fun hb13 => ?_) (fun _ => po_none)
  exact po_some (fr_I hX0 (wr_o (by decide)))
def wR_mo_mend : List (Nat × Nat) := [(103, 103), (104, 104), (105, 105), (106, 106), (107, 107), (108, 108), (109, 109), (127, 127)]
def wF_mo_mend : List (Nat × Nat) := [(102, 34), (102, 35)]
theorem fr_mo_mend_L56_B (n : Nat) (X0 : St) (k86 : Int32 → Int32 → Int32 → Int32 → St → Option (Int32 × St)) (hk86 : ∀ (x0 : Int32) (x1 : Int32) (x2 : Int32) (x3 : Int32) X, fr wR_mo_mend wF_mo_mend X0 X → PO (fun r => fr wR_mo_mend wF_mo_mend X0 r.2) (k86 x0 x1 x2 x3 X)) (rec : Int32 → Int32 → Int32 → Int32 → Int32 → St → Option (Int32 × St)) (hrec : ∀ (x0 : Int32) (x1 : Int32) (x2 : Int32) (x3 : Int32) (x4 : Int32) X, fr wR_mo_mend wF_mo_mend X0 X → PO (fun r => fr wR_mo_mend wF_mo_mend X0 r.2) (rec x0 x1 x2 x3 x4 X)) (v1 : Int32) (v2 : Int32) (v3 : Int32) (v4 : Int32) (v5 : Int32) (X : St) (hX : fr wR_mo_mend wF_mo_mend X0 X) : PO (fun r => fr wR_mo_mend wF_mo_mend X0 r.2) (mo_mend_L56_B n k86 rec v1 v2 v3 v4 v5 X) := by
  unfold mo_mend_L56_B
  refine po_ite (fun hb1 => ?_) (fun _ => ?_)
  · refine po_ite (fun hb2 => ?_) (fun _ => po_none)
    refine po_ite (fun hb3 => ?_) (fun _ => po_none)
    exact hrec v1 v2 v3 v4 (v5 + (1 : Int32)) (stI X 127 (nx v5) (X.1 127 (nx (v5 + (4 : Int32))))) (fr_I hX (wr_o (by decide)))
  exact hk86 v1 v2 v3 v4 X hX
theorem fr_mo_mend_L56 (n : Nat) (X0 : St) (k86 : Int32 → Int32 → Int32 → Int32 → St → Option (Int32 × St)) (hk86 : ∀ (x0 : Int32) (x1 : Int32) (x2 : Int32) (x3 : Int32) X, fr wR_mo_mend wF_mo_mend X0 X → PO (fun r => fr wR_mo_mend wF_mo_mend X0 r.2) (k86 x0 x1 x2 x3 X)) : ∀ (w : Nat) (v1 : Int32) (v2 : Int32) (v3 : Int32) (v4 : Int32) (v5 : Int32) (X : St), fr wR_mo_mend wF_mo_mend X0 X → PO (fun r => fr wR_mo_mend wF_mo_mend X0 r.2) (mo_mend_L56 n k86 w v1 v2 v3 v4 v5 X) := by
  intro w
  induction w with
  | zero => intro v1 v2 v3 v4 v5 X _; exact po_none
  | succ w ih => intro v1 v2 v3 v4 v5 X hX; exact fr_mo_mend_L56_B n X0 k86 hk86 _ ih v1 v2 v3 v4 v5 X hX
theorem fr_mo_mend_J96 (n : Nat) (X0 : St) (v1 : Int32) (v2 : Int32) (v3 : Int32) (v4 : Int32) (X : St) (hX : fr wR_mo_mend wF_mo_mend X0 X) : PO (fun r => fr wR_mo_mend wF_mo_mend X0 r.2) (mo_mend_J96 n v1 v2 v3 v4 X) := by
  unfold mo_mend_J96
  refine po_ite (fun hb1 => ?_) (fun _ => po_none)
  refine po_ite (fun hb2 => ?_) (fun _ => po_none)
  refine po_nmX (fr_I (fr_I hX (wr_o (by decide))) (wr_o (by decide))) (fun X8 hX8 => ?_)
  refine po_ite (fun hb3 => ?_) (fun _ => po_none)
  refine po_nmX (fr_I hX8 (wr_o (by decide))) (fun X9 hX9 => ?_)
  refine po_ite (fun hb4 => ?_) (fun _ => po_none)
  refine po_nmX (fr_I hX9 (wr_o (by decide))) (fun X10 hX10 => ?_)
  refine po_nmX (fr_I (fr_I hX10 (wr_f (by decide))) (wr_f (by decide))) (fun X11 hX11 => ?_)
  exact po_some hX11
theorem fr_mo_mend (n : Nat) (v1 : Int32) (v2 : Int32) (v3 : Int32) (X0 : St) : PO (fun r => fr wR_mo_mend wF_mo_mend X0 r.2) (mo_mend n v1 v2 v3 X0) := by
  have hX0 : fr wR_mo_mend wF_mo_mend X0 X0 := fr_rf
  unfold mo_mend
  refine po_ite (fun hb1 => ?_) (fun _ => ?_)
  · exact po_some hX0
  refine po_ite (fun hb2 => ?_) (fun _ => ?_)
  · exact po_some hX0
  refine po_bnd (fun c1 => ?_)
  refine po_ite (fun hb3 => ?_) (fun _ => ?_)
  · exact po_some hX0
  refine po_cV hX0 (fr_mo_becomes v1 v2 v3 X0) (by decide) (by decide) (fun X2 hX2 => ?_)
  refine po_ite (fun hb4 => ?_) (fun _ => ?_)
  · refine fr_mo_mend_L56 n X0 _ (fun v4 v5 v6 v7 X3 hX3 => ?_) n v1 v2 v3 c1 (0 : Int32) X2 hX2
    refine fr_mo_mend_J96 n X0 v4 v5 v6 v7 (stI X3 102 35 ((X3.1 102 35) - (1 : Int32))) (fr_I hX3 (wr_f (by decide)))
  refine fr_mo_mend_J96 n X0 v1 v2 v3 c1 X2 hX2
def wR_mo_undo : List (Nat × Nat) := [(103, 103), (104, 104), (105, 105), (106, 106), (107, 107), (108, 108), (109, 109)]
def wF_mo_undo : List (Nat × Nat) := [(102, 35)]
theorem fr_mo_undo (X0 : St) : PO (fun r => fr wR_mo_undo wF_mo_undo X0 r.2) (mo_undo X0) := by
  have hX0 : fr wR_mo_undo wF_mo_undo X0 X0 := fr_rf
  unfold mo_undo
  refine po_ite (fun hb1 => ?_) (fun _ => ?_)
  · exact po_some hX0
  refine po_ite (fun hb2 => ?_) (fun _ => po_none)
  refine po_ite (fun hb3 => ?_) (fun _ => po_none)
  refine po_ite (fun hb4 => ?_) (fun _ => po_none)
  refine po_cV (fr_I hX0 (wr_f (by decide))) (fr_mo_becomes ((stI X0 102 35 ((X0.1 102 35) - (1 : Int32))).1 127 (nx ((4 : Int32) * ((stI X0 102 35 ((X0.1 102 35) - (1 : Int32))).1 102 35)))) ((stI X0 102 35 ((X0.1 102 35) - (1 : Int32))).1 127 (nx (((4 : Int32) * ((stI X0 102 35 ((X0.1 102 35) - (1 : Int32))).1 102 35)) + (1 : Int32)))) ((stI X0 102 35 ((X0.1 102 35) - (1 : Int32))).1 127 (nx (((4 : Int32) * ((stI X0 102 35 ((X0.1 102 35) - (1 : Int32))).1 102 35)) + (2 : Int32)))) (stI X0 102 35 ((X0.1 102 35) - (1 : Int32)))) (by decide) (by decide) (fun X1 hX1 => ?_)
  exact po_some hX1
def wR_mo_redo : List (Nat × Nat) := [(103, 103), (104, 104), (105, 105), (106, 106), (107, 107), (108, 108), (109, 109)]
def wF_mo_redo : List (Nat × Nat) := [(102, 35)]
theorem fr_mo_redo (X0 : St) : PO (fun r => fr wR_mo_redo wF_mo_redo X0 r.2) (mo_redo X0) := by
  have hX0 : fr wR_mo_redo wF_mo_redo X0 X0 := fr_rf
  unfold mo_redo
  refine po_ite (fun hb1 => ?_) (fun _ => ?_)
  · exact po_some hX0
  refine po_ite (fun hb2 => ?_) (fun _ => po_none)
  refine po_ite (fun hb3 => ?_) (fun _ => po_none)
  refine po_ite (fun hb4 => ?_) (fun _ => po_none)
  refine po_cV hX0 (fr_mo_becomes (X0.1 127 (nx ((4 : Int32) * (X0.1 102 35)))) (X0.1 127 (nx (((4 : Int32) * (X0.1 102 35)) + (1 : Int32)))) (X0.1 127 (nx (((4 : Int32) * (X0.1 102 35)) + (3 : Int32)))) X0) (by decide) (by decide) (fun X1 hX1 => ?_)
  exact po_some (fr_I hX1 (wr_f (by decide)))
def wR_mo_feed : List (Nat × Nat) := [(112, 112)]
def wF_mo_feed : List (Nat × Nat) := [(102, 10)]
theorem fr_mo_feed (v1 : Int32) (X0 : St) : PO (fun r => fr wR_mo_feed wF_mo_feed X0 r.2) (mo_feed v1 X0) := by
  have hX0 : fr wR_mo_feed wF_mo_feed X0 X0 := fr_rf
  unfold mo_feed
  refine po_ite (fun hb1 => ?_) (fun _ => ?_)
  · exact po_some hX0
  refine po_ite (fun hb2 => ?_) (fun _ => ?_)
  · exact po_some hX0
  refine po_ite (fun hb3 => ?_) (fun _ => po_none)
  refine po_nmX (fr_I (fr_I hX0 (wr_f (by decide))) (wr_o (by decide))) (fun X1 hX1 => ?_)
  exact po_some hX1
def wR_mo_is : List (Nat × Nat) := []
def wF_mo_is : List (Nat × Nat) := [(102, 18)]
theorem fr_mo_is (v1 : Int32) (X0 : St) : PO (fun r => fr wR_mo_is wF_mo_is X0 r.2) (mo_is v1 X0) := by
  have hX0 : fr wR_mo_is wF_mo_is X0 X0 := fr_rf
  unfold mo_is
  refine po_bnd (fun c1 => ?_)
  refine po_ite (fun hb1 => ?_) (fun _ => ?_)
  · exact po_some (fr_I hX0 (wr_f (by decide)))
  exact po_some hX0
def wR_mo_codes : List (Nat × Nat) := [(120, 120)]
def wF_mo_codes : List (Nat × Nat) := [(102, 20)]
theorem fr_mo_codes (v1 : Int32) (X0 : St) : PO (fun r => fr wR_mo_codes wF_mo_codes X0 r.2) (mo_codes v1 X0) := by
  have hX0 : fr wR_mo_codes wF_mo_codes X0 X0 := fr_rf
  unfold mo_codes
  refine po_ite (fun hb1 => ?_) (fun _ => po_none)
  refine po_nmX (fr_I (fr_I hX0 (wr_f (by decide))) (wr_o (by decide))) (fun X1 hX1 => ?_)
  exact po_some hX1
def wR_mo_isO : List (Nat × Nat) := [(120, 120)]
def wF_mo_isO : List (Nat × Nat) := [(102, 18), (102, 19), (102, 20)]
theorem fr_mo_isO_J212 (C : Nat → St → Option (Int32 × St)) (hC : ∀ (j : Nat) (X : St), PO (fun r => fr wR_mo_isO wF_mo_isO X r.2) (C j  X)) (n : Nat) (X0 : St) (X : St) (hX : fr wR_mo_isO wF_mo_isO X0 X) : PO (fun r => fr wR_mo_isO wF_mo_isO X0 r.2) (mo_isO_J212 C n X) := by
  unfold mo_isO_J212
  exact po_some (fr_I hX (wr_f (by decide)))
theorem fr_mo_isO_J179 (C : Nat → St → Option (Int32 × St)) (hC : ∀ (j : Nat) (X : St), PO (fun r => fr wR_mo_isO wF_mo_isO X r.2) (C j  X)) (n : Nat) (X0 : St) (s0 : Int32) (X : St) (hX : fr wR_mo_isO wF_mo_isO X0 X) : PO (fun r => fr wR_mo_isO wF_mo_isO X0 r.2) (mo_isO_J179 C n s0 X) := by
  unfold mo_isO_J179
  refine po_ite (fun hb1 => ?_) (fun _ => po_none)
  exact po_some (fr_I hX (wr_f (by decide)))
theorem fr_mo_isO_J145 (C : Nat → St → Option (Int32 × St)) (hC : ∀ (j : Nat) (X : St), PO (fun r => fr wR_mo_isO wF_mo_isO X r.2) (C j  X)) (n : Nat) (X0 : St) (s0 : Int32) (X : St) (hX : fr wR_mo_isO wF_mo_isO X0 X) : PO (fun r => fr wR_mo_isO wF_mo_isO X0 r.2) (mo_isO_J145 C n s0 X) := by
  unfold mo_isO_J145
  refine po_ite (fun hb1 => ?_) (fun _ => po_none)
  exact po_some (fr_I hX (wr_f (by decide)))
theorem fr_mo_isO_L11_B (C : Nat → St → Option (Int32 × St)) (hC : ∀ (j : Nat) (X : St), PO (fun r => fr wR_mo_isO wF_mo_isO X r.2) (C j  X)) (n : Nat) (X0 : St) (rec : Int32 → Int32 → St → Option (Int32 × St)) (hrec : ∀ (x0 : Int32) (x1 : Int32) X, fr wR_mo_isO wF_mo_isO X0 X → PO (fun r => fr wR_mo_isO wF_mo_isO X0 r.2) (rec x0 x1 X)) (v1 : Int32) (v2 : Int32) (X : St) (hX : fr wR_mo_isO wF_mo_isO X0 X) : PO (fun r => fr wR_mo_isO wF_mo_isO X0 r.2) (mo_isO_L11_B C n rec v1 v2 X) := by
  unfold mo_isO_L11_B
  refine po_ite (fun hb1 => ?_) (fun _ => ?_)
  · refine po_bnd (fun c23 => ?_)
    refine po_ite (fun hb2 => ?_) (fun _ => ?_)
    · refine po_cI hX (fr_mo_codes ((18 : Int32) + v1) X) (by decide) (by decide) (fun c25 X24 hX24 => ?_)
      refine po_ite (fun hb3 => ?_) (fun _ => po_none)
      exact po_some hX24
    refine po_ite (fun hb4 => ?_) (fun _ => po_none)
    refine po_bnd (fun t26 => ?_)
    exact hrec t26 (v2 + (1 : Int32)) (stI X 102 18 ((X.1 102 18) + (1 : Int32))) (fr_I hX (wr_f (by decide)))
  refine po_cI hX (fr_mo_codes ((18 : Int32) + v1) X) (by decide) (by decide) (fun c28 X27 hX27 => ?_)
  refine po_ite (fun hb5 => ?_) (fun _ => po_none)
  exact po_some hX27
theorem fr_mo_isO_L11 (C : Nat → St → Option (Int32 × St)) (hC : ∀ (j : Nat) (X : St), PO (fun r => fr wR_mo_isO wF_mo_isO X r.2) (C j  X)) (n : Nat) (X0 : St) : ∀ (w : Nat) (v1 : Int32) (v2 : Int32) (X : St), fr wR_mo_isO wF_mo_isO X0 X → PO (fun r => fr wR_mo_isO wF_mo_isO X0 r.2) (mo_isO_L11 C n w v1 v2 X) := by
  intro w
  induction w with
  | zero => intro v1 v2 X _; exact po_none
  | succ w ih => intro v1 v2 X hX; exact fr_mo_isO_L11_B C hC n X0 _ ih v1 v2 X hX
theorem fr_mo_isO_G (C : Nat → St → Option (Int32 × St)) (hC : ∀ (j : Nat) (X : St), PO (fun r => fr wR_mo_isO wF_mo_isO X r.2) (C j  X)) (n : Nat) (X0 : St) : PO (fun r => fr wR_mo_isO wF_mo_isO X0 r.2) (mo_isO_G C n X0) := by
  have hX0 : fr wR_mo_isO wF_mo_isO X0 X0 := fr_rf
  unfold mo_isO_G
  refine po_bnd (fun c1 => ?_)
  refine po_ite (fun hb1 => ?_) (fun _ => ?_)
  · refine po_bnd (fun c2 => ?_)
    refine po_ite (fun hb2 => ?_) (fun _ => ?_)
    · refine po_ite (fun hb3 => ?_) (fun _ => ?_)
      · exact po_some hX0
      refine po_cI (fr_I hX0 (wr_f (by decide))) (fr_mo_is (33 : Int32) (stI X0 102 19 ((X0.1 102 19) + (1 : Int32)))) (by decide) (by decide) (fun c4 X3 hX3 => ?_)
      refine po_ite (fun hb4 => ?_) (fun _ => ?_)
      · refine po_cI hX3 (fr_mo_is (45 : Int32) X3) (by decide) (by decide) (fun c6 X5 hX5 => ?_)
        refine po_ite (fun hb5 => ?_) (fun _ => ?_)
        · refine po_cI hX5 (fr_mo_is (40 : Int32) X5) (by decide) (by decide) (fun c8 X7 hX7 => ?_)
          refine po_ite (fun hb6 => ?_) (fun _ => ?_)
          · refine fr_mo_isO_J212 C hC n X0  X7 hX7
          refine po_cI hX7 (hC 5 X7) (by decide) (by decide) (fun c10 X9 hX9 => ?_)
          refine po_ite (fun hb7 => ?_) (fun _ => ?_)
          · refine fr_mo_isO_J212 C hC n X0  X9 hX9
          refine po_cI hX9 (fr_mo_is (41 : Int32) X9) (by decide) (by decide) (fun c12 X11 hX11 => ?_)
          refine po_ite (fun hb8 => ?_) (fun _ => ?_)
          · refine fr_mo_isO_J212 C hC n X0  X11 hX11
          exact po_some (fr_I hX11 (wr_f (by decide)))
        refine po_cI hX5 (hC 0 X5) (by decide) (by decide) (fun c14 X13 hX13 => ?_)
        refine po_ite (fun hb9 => ?_) (fun _ => ?_)
        · refine fr_mo_isO_J179 C hC n X0 (0 : Int32) X13 hX13
        refine po_cI hX13 (fr_mo_codes (17 : Int32) X13) (by decide) (by decide) (fun c16 X15 hX15 => ?_)
        refine po_ite (fun hb10 => ?_) (fun _ => ?_)
        · refine fr_mo_isO_J179 C hC n X0 (0 : Int32) X15 hX15
        refine fr_mo_isO_J179 C hC n X0 (1 : Int32) X15 hX15
      refine po_cI hX3 (hC 0 X3) (by decide) (by decide) (fun c18 X17 hX17 => ?_)
      refine po_ite (fun hb11 => ?_) (fun _ => ?_)
      · refine fr_mo_isO_J145 C hC n X0 (0 : Int32) X17 hX17
      refine po_cI hX17 (fr_mo_codes (16 : Int32) X17) (by decide) (by decide) (fun c20 X19 hX19 => ?_)
      refine po_ite (fun hb12 => ?_) (fun _ => ?_)
      · refine fr_mo_isO_J145 C hC n X0 (0 : Int32) X19 hX19
      refine fr_mo_isO_J145 C hC n X0 (1 : Int32) X19 hX19
    refine po_cI (fr_I hX0 (wr_f (by decide))) (fr_mo_codes (mo_nameOf c2) (stI X0 102 18 ((X0.1 102 18) + (1 : Int32)))) (by decide) (by decide) (fun c22 X21 hX21 => ?_)
    refine po_ite (fun hb13 => ?_) (fun _ => po_none)
    exact po_some hX21
  refine fr_mo_isO_L11 C hC n X0 n (0 : Int32) (0 : Int32) X0 hX0
theorem fr_mo_isP_J52 (C : Nat → St → Option (Int32 × St)) (hC : ∀ (j : Nat) (X : St), PO (fun r => fr wR_mo_isO wF_mo_isO X r.2) (C j  X)) (n : Nat) (X0 : St) (k9 : St → Option (Int32 × St)) (hk9 : ∀  X, fr wR_mo_isO wF_mo_isO X0 X → PO (fun r => fr wR_mo_isO wF_mo_isO X0 r.2) (k9  X)) (s0 : Int32) (X : St) (hX : fr wR_mo_isO wF_mo_isO X0 X) : PO (fun r => fr wR_mo_isO wF_mo_isO X0 r.2) (mo_isP_J52 C n k9 s0 X) := by
  unfold mo_isP_J52
  refine po_ite (fun hb1 => ?_) (fun _ => ?_)
  · exact po_some hX
  refine po_cI (fr_I hX (wr_f (by decide))) (hC 0 (stI X 102 18 ((X.1 102 18) + (1 : Int32)))) (by decide) (by decide) (fun c5 X4 hX4 => ?_)
  refine po_ite (fun hb2 => ?_) (fun _ => ?_)
  · exact po_some hX4
  refine po_cI hX4 (fr_mo_codes s0 X4) (by decide) (by decide) (fun c7 X6 hX6 => ?_)
  exact hk9 X6 hX6
theorem fr_mo_isP_L9_B (C : Nat → St → Option (Int32 × St)) (hC : ∀ (j : Nat) (X : St), PO (fun r => fr wR_mo_isO wF_mo_isO X r.2) (C j  X)) (n : Nat) (X0 : St) (rec : St → Option (Int32 × St)) (hrec : ∀  X, fr wR_mo_isO wF_mo_isO X0 X → PO (fun r => fr wR_mo_isO wF_mo_isO X0 r.2) (rec  X)) (X : St) (hX : fr wR_mo_isO wF_mo_isO X0 X) : PO (fun r => fr wR_mo_isO wF_mo_isO X0 r.2) (mo_isP_L9_B C n rec X) := by
  unfold mo_isP_L9_B
  refine po_bnd (fun c3 => ?_)
  refine po_ite (fun hb1 => ?_) (fun _ => ?_)
  · refine fr_mo_isP_J52 C hC n X0 _ hrec (13 : Int32) X hX
  refine po_bnd (fun c8 => ?_)
  refine po_ite (fun hb2 => ?_) (fun _ => ?_)
  · refine fr_mo_isP_J52 C hC n X0 _ hrec (14 : Int32) X hX
  refine po_bnd (fun c9 => ?_)
  refine po_ite (fun hb3 => ?_) (fun _ => ?_)
  · refine fr_mo_isP_J52 C hC n X0 _ hrec (15 : Int32) X hX
  refine fr_mo_isP_J52 C hC n X0 _ hrec (-1 : Int32) X hX
theorem fr_mo_isP_L9 (C : Nat → St → Option (Int32 × St)) (hC : ∀ (j : Nat) (X : St), PO (fun r => fr wR_mo_isO wF_mo_isO X r.2) (C j  X)) (n : Nat) (X0 : St) : ∀ (w : Nat) (X : St), fr wR_mo_isO wF_mo_isO X0 X → PO (fun r => fr wR_mo_isO wF_mo_isO X0 r.2) (mo_isP_L9 C n w X) := by
  intro w
  induction w with
  | zero => intro X _; exact po_none
  | succ w ih => intro X hX; exact fr_mo_isP_L9_B C hC n X0 _ ih X hX
theorem fr_mo_isP_G (C : Nat → St → Option (Int32 × St)) (hC : ∀ (j : Nat) (X : St), PO (fun r => fr wR_mo_isO wF_mo_isO X r.2) (C j  X)) (n : Nat) (X0 : St) : PO (fun r => fr wR_mo_isO wF_mo_isO X0 r.2) (mo_isP_G C n X0) := by
  have hX0 : fr wR_mo_isO wF_mo_isO X0 X0 := fr_rf
  unfold mo_isP_G
  refine po_cI hX0 (hC 0 X0) (by decide) (by decide) (fun c2 X1 hX1 => ?_)
  refine po_ite (fun hb1 => ?_) (fun _ => ?_)
  · exact po_some hX1
  refine fr_mo_isP_L9 C hC n X0 n X1 hX1
theorem fr_mo_isS_J38 (C : Nat → St → Option (Int32 × St)) (hC : ∀ (j : Nat) (X : St), PO (fun r => fr wR_mo_isO wF_mo_isO X r.2) (C j  X)) (n : Nat) (X0 : St) (k9 : St → Option (Int32 × St)) (hk9 : ∀  X, fr wR_mo_isO wF_mo_isO X0 X → PO (fun r => fr wR_mo_isO wF_mo_isO X0 r.2) (k9  X)) (s0 : Int32) (X : St) (hX : fr wR_mo_isO wF_mo_isO X0 X) : PO (fun r => fr wR_mo_isO wF_mo_isO X0 r.2) (mo_isS_J38 C n k9 s0 X) := by
  unfold mo_isS_J38
  refine po_ite (fun hb1 => ?_) (fun _ => ?_)
  · exact po_some hX
  refine po_cI (fr_I hX (wr_f (by decide))) (hC 1 (stI X 102 18 ((X.1 102 18) + (1 : Int32)))) (by decide) (by decide) (fun c5 X4 hX4 => ?_)
  refine po_ite (fun hb2 => ?_) (fun _ => ?_)
  · exact po_some hX4
  refine po_cI hX4 (fr_mo_codes s0 X4) (by decide) (by decide) (fun c7 X6 hX6 => ?_)
  exact hk9 X6 hX6
theorem fr_mo_isS_L9_B (C : Nat → St → Option (Int32 × St)) (hC : ∀ (j : Nat) (X : St), PO (fun r => fr wR_mo_isO wF_mo_isO X r.2) (C j  X)) (n : Nat) (X0 : St) (rec : St → Option (Int32 × St)) (hrec : ∀  X, fr wR_mo_isO wF_mo_isO X0 X → PO (fun r => fr wR_mo_isO wF_mo_isO X0 r.2) (rec  X)) (X : St) (hX : fr wR_mo_isO wF_mo_isO X0 X) : PO (fun r => fr wR_mo_isO wF_mo_isO X0 r.2) (mo_isS_L9_B C n rec X) := by
  unfold mo_isS_L9_B
  refine po_bnd (fun c3 => ?_)
  refine po_ite (fun hb1 => ?_) (fun _ => ?_)
  · refine fr_mo_isS_J38 C hC n X0 _ hrec (11 : Int32) X hX
  refine po_bnd (fun c8 => ?_)
  refine po_ite (fun hb2 => ?_) (fun _ => ?_)
  · refine fr_mo_isS_J38 C hC n X0 _ hrec (12 : Int32) X hX
  refine fr_mo_isS_J38 C hC n X0 _ hrec (-1 : Int32) X hX
theorem fr_mo_isS_L9 (C : Nat → St → Option (Int32 × St)) (hC : ∀ (j : Nat) (X : St), PO (fun r => fr wR_mo_isO wF_mo_isO X r.2) (C j  X)) (n : Nat) (X0 : St) : ∀ (w : Nat) (X : St), fr wR_mo_isO wF_mo_isO X0 X → PO (fun r => fr wR_mo_isO wF_mo_isO X0 r.2) (mo_isS_L9 C n w X) := by
  intro w
  induction w with
  | zero => intro X _; exact po_none
  | succ w ih => intro X hX; exact fr_mo_isS_L9_B C hC n X0 _ ih X hX
theorem fr_mo_isS_G (C : Nat → St → Option (Int32 × St)) (hC : ∀ (j : Nat) (X : St), PO (fun r => fr wR_mo_isO wF_mo_isO X r.2) (C j  X)) (n : Nat) (X0 : St) : PO (fun r => fr wR_mo_isO wF_mo_isO X0 r.2) (mo_isS_G C n X0) := by
  have hX0 : fr wR_mo_isO wF_mo_isO X0 X0 := fr_rf
  unfold mo_isS_G
  refine po_cI hX0 (hC 1 X0) (by decide) (by decide) (fun c2 X1 hX1 => ?_)
  refine po_ite (fun hb1 => ?_) (fun _ => ?_)
  · exact po_some hX1
  refine fr_mo_isS_L9 C hC n X0 n X1 hX1
theorem fr_mo_isB_J52 (C : Nat → St → Option (Int32 × St)) (hC : ∀ (j : Nat) (X : St), PO (fun r => fr wR_mo_isO wF_mo_isO X r.2) (C j  X)) (n : Nat) (X0 : St) (s0 : Int32) (X : St) (hX : fr wR_mo_isO wF_mo_isO X0 X) : PO (fun r => fr wR_mo_isO wF_mo_isO X0 r.2) (mo_isB_J52 C n s0 X) := by
  unfold mo_isB_J52
  refine po_ite (fun hb1 => ?_) (fun _ => ?_)
  · exact po_some hX
  refine po_cI (fr_I hX (wr_f (by decide))) (hC 2 (stI X 102 18 ((X.1 102 18) + (1 : Int32)))) (by decide) (by decide) (fun c5 X4 hX4 => ?_)
  refine po_ite (fun hb2 => ?_) (fun _ => ?_)
  · exact po_some hX4
  refine po_cI hX4 (fr_mo_codes s0 X4) (by decide) (by decide) (fun c7 X6 hX6 => ?_)
  refine po_ite (fun hb3 => ?_) (fun _ => ?_)
  · exact po_some hX6
  exact po_some hX6
theorem fr_mo_isB_G (C : Nat → St → Option (Int32 × St)) (hC : ∀ (j : Nat) (X : St), PO (fun r => fr wR_mo_isO wF_mo_isO X r.2) (C j  X)) (n : Nat) (X0 : St) : PO (fun r => fr wR_mo_isO wF_mo_isO X0 r.2) (mo_isB_G C n X0) := by
  have hX0 : fr wR_mo_isO wF_mo_isO X0 X0 := fr_rf
  unfold mo_isB_G
  refine po_cI hX0 (hC 2 X0) (by decide) (by decide) (fun c2 X1 hX1 => ?_)
  refine po_ite (fun hb1 => ?_) (fun _ => ?_)
  · exact po_some hX1
  refine po_bnd (fun c3 => ?_)
  refine po_ite (fun hb2 => ?_) (fun _ => ?_)
  · refine fr_mo_isB_J52 C hC n X0 (8 : Int32) X1 hX1
  refine po_bnd (fun c8 => ?_)
  refine po_ite (fun hb3 => ?_) (fun _ => ?_)
  · refine fr_mo_isB_J52 C hC n X0 (9 : Int32) X1 hX1
  refine po_bnd (fun c9 => ?_)
  refine po_ite (fun hb4 => ?_) (fun _ => ?_)
  · refine fr_mo_isB_J52 C hC n X0 (10 : Int32) X1 hX1
  refine fr_mo_isB_J52 C hC n X0 (-1 : Int32) X1 hX1
theorem fr_mo_isA_L9_B (C : Nat → St → Option (Int32 × St)) (hC : ∀ (j : Nat) (X : St), PO (fun r => fr wR_mo_isO wF_mo_isO X r.2) (C j  X)) (n : Nat) (X0 : St) (rec : St → Option (Int32 × St)) (hrec : ∀  X, fr wR_mo_isO wF_mo_isO X0 X → PO (fun r => fr wR_mo_isO wF_mo_isO X0 r.2) (rec  X)) (X : St) (hX : fr wR_mo_isO wF_mo_isO X0 X) : PO (fun r => fr wR_mo_isO wF_mo_isO X0 r.2) (mo_isA_L9_B C n rec X) := by
  unfold mo_isA_L9_B
  refine po_cI hX (fr_mo_is (38 : Int32) X) (by decide) (by decide) (fun c4 X3 hX3 => ?_)
  refine po_ite (fun hb1 => ?_) (fun _ => ?_)
  · exact po_some hX3
  refine po_cI hX3 (hC 3 X3) (by decide) (by decide) (fun c6 X5 hX5 => ?_)
  refine po_ite (fun hb2 => ?_) (fun _ => ?_)
  · exact po_some hX5
  refine po_cI hX5 (fr_mo_codes (7 : Int32) X5) (by decide) (by decide) (fun c8 X7 hX7 => ?_)
  exact hrec X7 hX7
theorem fr_mo_isA_L9 (C : Nat → St → Option (Int32 × St)) (hC : ∀ (j : Nat) (X : St), PO (fun r => fr wR_mo_isO wF_mo_isO X r.2) (C j  X)) (n : Nat) (X0 : St) : ∀ (w : Nat) (X : St), fr wR_mo_isO wF_mo_isO X0 X → PO (fun r => fr wR_mo_isO wF_mo_isO X0 r.2) (mo_isA_L9 C n w X) := by
  intro w
  induction w with
  | zero => intro X _; exact po_none
  | succ w ih => intro X hX; exact fr_mo_isA_L9_B C hC n X0 _ ih X hX
theorem fr_mo_isA_G (C : Nat → St → Option (Int32 × St)) (hC : ∀ (j : Nat) (X : St), PO (fun r => fr wR_mo_isO wF_mo_isO X r.2) (C j  X)) (n : Nat) (X0 : St) : PO (fun r => fr wR_mo_isO wF_mo_isO X0 r.2) (mo_isA_G C n X0) := by
  have hX0 : fr wR_mo_isO wF_mo_isO X0 X0 := fr_rf
  unfold mo_isA_G
  refine po_cI hX0 (hC 3 X0) (by decide) (by decide) (fun c2 X1 hX1 => ?_)
  refine po_ite (fun hb1 => ?_) (fun _ => ?_)
  · exact po_some hX1
  refine fr_mo_isA_L9 C hC n X0 n X1 hX1
theorem fr_mo_isE_L9_B (C : Nat → St → Option (Int32 × St)) (hC : ∀ (j : Nat) (X : St), PO (fun r => fr wR_mo_isO wF_mo_isO X r.2) (C j  X)) (n : Nat) (X0 : St) (rec : St → Option (Int32 × St)) (hrec : ∀  X, fr wR_mo_isO wF_mo_isO X0 X → PO (fun r => fr wR_mo_isO wF_mo_isO X0 r.2) (rec  X)) (X : St) (hX : fr wR_mo_isO wF_mo_isO X0 X) : PO (fun r => fr wR_mo_isO wF_mo_isO X0 r.2) (mo_isE_L9_B C n rec X) := by
  unfold mo_isE_L9_B
  refine po_cI hX (fr_mo_is (124 : Int32) X) (by decide) (by decide) (fun c4 X3 hX3 => ?_)
  refine po_ite (fun hb1 => ?_) (fun _ => ?_)
  · exact po_some hX3
  refine po_cI hX3 (hC 4 X3) (by decide) (by decide) (fun c6 X5 hX5 => ?_)
  refine po_ite (fun hb2 => ?_) (fun _ => ?_)
  · exact po_some hX5
  refine po_cI hX5 (fr_mo_codes (6 : Int32) X5) (by decide) (by decide) (fun c8 X7 hX7 => ?_)
  exact hrec X7 hX7
theorem fr_mo_isE_L9 (C : Nat → St → Option (Int32 × St)) (hC : ∀ (j : Nat) (X : St), PO (fun r => fr wR_mo_isO wF_mo_isO X r.2) (C j  X)) (n : Nat) (X0 : St) : ∀ (w : Nat) (X : St), fr wR_mo_isO wF_mo_isO X0 X → PO (fun r => fr wR_mo_isO wF_mo_isO X0 r.2) (mo_isE_L9 C n w X) := by
  intro w
  induction w with
  | zero => intro X _; exact po_none
  | succ w ih => intro X hX; exact fr_mo_isE_L9_B C hC n X0 _ ih X hX
theorem fr_mo_isE_G (C : Nat → St → Option (Int32 × St)) (hC : ∀ (j : Nat) (X : St), PO (fun r => fr wR_mo_isO wF_mo_isO X r.2) (C j  X)) (n : Nat) (X0 : St) : PO (fun r => fr wR_mo_isO wF_mo_isO X0 r.2) (mo_isE_G C n X0) := by
  have hX0 : fr wR_mo_isO wF_mo_isO X0 X0 := fr_rf
  unfold mo_isE_G
  refine po_cI hX0 (hC 4 X0) (by decide) (by decide) (fun c2 X1 hX1 => ?_)
  refine po_ite (fun hb1 => ?_) (fun _ => ?_)
  · exact po_some hX1
  refine fr_mo_isE_L9 C hC n X0 n X1 hX1
theorem fr_mo_isO_grp (n : Nat) : ∀ (d j : Nat) (X : St), PO (fun r => fr wR_mo_isO wF_mo_isO X r.2) (mo_isO_grp n d j X) := by
  intro d
  induction d with
  | zero => intro j X; exact po_none
  | succ d ih =>
    intro j X
    show PO _ (if j = 0 then mo_isO_G (mo_isO_grp n d) n X else if j = 1 then mo_isP_G (mo_isO_grp n d) n X else if j = 2 then mo_isS_G (mo_isO_grp n d) n X else if j = 3 then mo_isB_G (mo_isO_grp n d) n X else if j = 4 then mo_isA_G (mo_isO_grp n d) n X else mo_isE_G (mo_isO_grp n d) n X)
    refine po_ite (fun _ => ?_) (fun _ => ?_)
    · exact fr_mo_isO_G (mo_isO_grp n d) ih n X
    refine po_ite (fun _ => ?_) (fun _ => ?_)
    · exact fr_mo_isP_G (mo_isO_grp n d) ih n X
    refine po_ite (fun _ => ?_) (fun _ => ?_)
    · exact fr_mo_isS_G (mo_isO_grp n d) ih n X
    refine po_ite (fun _ => ?_) (fun _ => ?_)
    · exact fr_mo_isB_G (mo_isO_grp n d) ih n X
    refine po_ite (fun _ => ?_) (fun _ => ?_)
    · exact fr_mo_isA_G (mo_isO_grp n d) ih n X
    exact fr_mo_isE_G (mo_isO_grp n d) ih n X
theorem fr_mo_isO (n : Nat) (X : St) : PO (fun r => fr wR_mo_isO wF_mo_isO X r.2) (mo_isO n X) := fr_mo_isO_grp n DEP 0 X
theorem fr_mo_isP (n : Nat) (X : St) : PO (fun r => fr wR_mo_isO wF_mo_isO X r.2) (mo_isP n X) := fr_mo_isO_grp n DEP 1 X
theorem fr_mo_isS (n : Nat) (X : St) : PO (fun r => fr wR_mo_isO wF_mo_isO X r.2) (mo_isS n X) := fr_mo_isO_grp n DEP 2 X
theorem fr_mo_isB (n : Nat) (X : St) : PO (fun r => fr wR_mo_isO wF_mo_isO X r.2) (mo_isB n X) := fr_mo_isO_grp n DEP 3 X
theorem fr_mo_isA (n : Nat) (X : St) : PO (fun r => fr wR_mo_isO wF_mo_isO X r.2) (mo_isA n X) := fr_mo_isO_grp n DEP 4 X
theorem fr_mo_isE (n : Nat) (X : St) : PO (fun r => fr wR_mo_isO wF_mo_isO X r.2) (mo_isE n X) := fr_mo_isO_grp n DEP 5 X
def wR_mo_isLine : List (Nat × Nat) := [(117, 117), (118, 118), (119, 119), (120, 120)]
def wF_mo_isLine : List (Nat × Nat) := [(102, 18), (102, 19), (102, 20), (102, 21)]
theorem fr_mo_isLine_J71 (n : Nat) (X0 : St) (X : St) (hX : fr wR_mo_isLine wF_mo_isLine X0 X) : PO (fun r => fr wR_mo_isLine wF_mo_isLine X0 r.2) (mo_isLine_J71 n X) := by
  unfold mo_isLine_J71
  refine po_ite (fun hb1 => ?_) (fun _ => po_none)
  refine po_nmX (fr_I (fr_I hX (wr_f (by decide))) (wr_o (by decide))) (fun X6 hX6 => ?_)
  exact po_some hX6
theorem fr_mo_isLine (n : Nat) (X0 : St) : PO (fun r => fr wR_mo_isLine wF_mo_isLine X0 r.2) (mo_isLine n X0) := by
  have hX0 : fr wR_mo_isLine wF_mo_isLine X0 X0 := fr_rf
  unfold mo_isLine
  refine po_ite (fun hb1 => ?_) (fun _ => po_none)
  refine po_cI (fr_I hX0 (wr_o (by decide))) (fr_mo_isE n (stI X0 117 (nx (X0.1 102 21)) (X0.1 102 20))) (by decide) (by decide) (fun c2 X1 hX1 => ?_)
  refine po_ite (fun hb2 => ?_) (fun _ => ?_)
  · exact po_some hX1
  refine po_ite (fun hb3 => ?_) (fun _ => po_none)
  refine po_ite (fun hb4 => ?_) (fun _ => po_none)
  refine po_nmX (fr_I hX1 (wr_o (by decide))) (fun X3 hX3 => ?_)
  refine po_cI hX3 (fr_mo_is (63 : Int32) X3) (by decide) (by decide) (fun c5 X4 hX4 => ?_)
  refine po_ite (fun hb5 => ?_) (fun _ => ?_)
  · refine fr_mo_isLine_J71 n X0  X4 hX4
  refine po_ite (fun hb6 => ?_) (fun _ => po_none)
  refine po_cI (fr_I hX4 (wr_o (by decide))) (fr_mo_isE n (stI X4 118 (nx (X4.1 102 21)) (X4.1 102 20))) (by decide) (by decide) (fun c8 X7 hX7 => ?_)
  refine po_ite (fun hb7 => ?_) (fun _ => ?_)
  · exact po_some hX7
  refine fr_mo_isLine_J71 n X0  X7 hX7
def wR_mo_law : List (Nat × Nat) := [(113, 113), (114, 114), (115, 115), (116, 116), (117, 117), (118, 118), (119, 119), (120, 120)]
def wF_mo_law : List (Nat × Nat) := [(102, 10), (102, 12), (102, 13), (102, 18), (102, 19), (102, 20), (102, 21)]
theorem fr_mo_law_L25_B (n : Nat) (X0 : St) (k46 : Int32 → St → Option (Int32 × St)) (hk46 : ∀ (x0 : Int32) X, fr wR_mo_law wF_mo_law X0 X → PO (fun r => fr wR_mo_law wF_mo_law X0 r.2) (k46 x0 X)) (rec : Int32 → St → Option (Int32 × St)) (hrec : ∀ (x0 : Int32) X, fr wR_mo_law wF_mo_law X0 X → PO (fun r => fr wR_mo_law wF_mo_law X0 r.2) (rec x0 X)) (v1 : Int32) (X : St) (hX : fr wR_mo_law wF_mo_law X0 X) : PO (fun r => fr wR_mo_law wF_mo_law X0 r.2) (mo_law_L25_B n k46 rec v1 X) := by
  unfold mo_law_L25_B
  refine po_ite (fun hb1 => ?_) (fun _ => ?_)
  · exact hk46 v1 X hX
  refine po_cI hX (fr_mo_is (59 : Int32) X) (by decide) (by decide) (fun c5 X4 hX4 => ?_)
  refine po_ite (fun hb2 => ?_) (fun _ => ?_)
  · exact hk46 v1 X4 hX4
  refine po_cI hX4 (fr_mo_isLine n X4) (by decide) (by decide) (fun c7 X6 hX6 => ?_)
  exact hrec c7 X6 hX6
theorem fr_mo_law_L25 (n : Nat) (X0 : St) (k46 : Int32 → St → Option (Int32 × St)) (hk46 : ∀ (x0 : Int32) X, fr wR_mo_law wF_mo_law X0 X → PO (fun r => fr wR_mo_law wF_mo_law X0 r.2) (k46 x0 X)) : ∀ (w : Nat) (v1 : Int32) (X : St), fr wR_mo_law wF_mo_law X0 X → PO (fun r => fr wR_mo_law wF_mo_law X0 r.2) (mo_law_L25 n k46 w v1 X) := by
  intro w
  induction w with
  | zero => intro v1 X _; exact po_none
  | succ w ih => intro v1 X hX; exact fr_mo_law_L25_B n X0 k46 hk46 _ ih v1 X hX
theorem fr_mo_law_L99_B (n : Nat) (X0 : St) (k149 : St → Option (Int32 × St)) (hk149 : ∀  X, fr wR_mo_law wF_mo_law X0 X → PO (fun r => fr wR_mo_law wF_mo_law X0 r.2) (k149  X)) (rec : Int32 → St → Option (Int32 × St)) (hrec : ∀ (x0 : Int32) X, fr wR_mo_law wF_mo_law X0 X → PO (fun r => fr wR_mo_law wF_mo_law X0 r.2) (rec x0 X)) (v3 : Int32) (X : St) (hX : fr wR_mo_law wF_mo_law X0 X) : PO (fun r => fr wR_mo_law wF_mo_law X0 r.2) (mo_law_L99_B n k149 rec v3 X) := by
  unfold mo_law_L99_B
  refine po_ite (fun hb1 => ?_) (fun _ => ?_)
  · refine po_ite (fun hb2 => ?_) (fun _ => po_none)
    refine po_ite (fun hb3 => ?_) (fun _ => po_none)
    refine po_ite (fun hb4 => ?_) (fun _ => po_none)
    refine po_ite (fun hb5 => ?_) (fun _ => po_none)
    refine po_nmX (fr_I (fr_I hX (wr_o (by decide))) (wr_o (by decide))) (fun X11 hX11 => ?_)
    refine po_ite (fun hb6 => ?_) (fun _ => po_none)
    refine po_ite (fun hb7 => ?_) (fun _ => po_none)
    exact hrec (v3 + (1 : Int32)) (stI X11 115 (nx v3) (X11.1 119 (nx v3))) (fr_I hX11 (wr_o (by decide)))
  exact hk149 X hX
theorem fr_mo_law_L99 (n : Nat) (X0 : St) (k149 : St → Option (Int32 × St)) (hk149 : ∀  X, fr wR_mo_law wF_mo_law X0 X → PO (fun r => fr wR_mo_law wF_mo_law X0 r.2) (k149  X)) : ∀ (w : Nat) (v3 : Int32) (X : St), fr wR_mo_law wF_mo_law X0 X → PO (fun r => fr wR_mo_law wF_mo_law X0 r.2) (mo_law_L99 n k149 w v3 X) := by
  intro w
  induction w with
  | zero => intro v3 X _; exact po_none
  | succ w ih => intro v3 X hX; exact fr_mo_law_L99_B n X0 k149 hk149 _ ih v3 X hX
theorem fr_mo_law_L151_B (n : Nat) (X0 : St) (rec : Int32 → St → Option (Int32 × St)) (hrec : ∀ (x0 : Int32) X, fr wR_mo_law wF_mo_law X0 X → PO (fun r => fr wR_mo_law wF_mo_law X0 r.2) (rec x0 X)) (v3 : Int32) (X : St) (hX : fr wR_mo_law wF_mo_law X0 X) : PO (fun r => fr wR_mo_law wF_mo_law X0 r.2) (mo_law_L151_B n rec v3 X) := by
  unfold mo_law_L151_B
  refine po_ite (fun hb1 => ?_) (fun _ => ?_)
  · refine po_ite (fun hb2 => ?_) (fun _ => po_none)
    refine po_ite (fun hb3 => ?_) (fun _ => po_none)
    exact hrec (v3 + (1 : Int32)) (stI X 116 (nx v3) (X.1 120 (nx v3))) (fr_I hX (wr_o (by decide)))
  exact po_some hX
theorem fr_mo_law_L151 (n : Nat) (X0 : St) : ∀ (w : Nat) (v3 : Int32) (X : St), fr wR_mo_law wF_mo_law X0 X → PO (fun r => fr wR_mo_law wF_mo_law X0 r.2) (mo_law_L151 n w v3 X) := by
  intro w
  induction w with
  | zero => intro v3 X _; exact po_none
  | succ w ih => intro v3 X hX; exact fr_mo_law_L151_B n X0 _ ih v3 X hX
theorem fr_mo_law_J66 (n : Nat) (X0 : St) (s0 : Int32) (X : St) (hX : fr wR_mo_law wF_mo_law X0 X) : PO (fun r => fr wR_mo_law wF_mo_law X0 r.2) (mo_law_J66 n s0 X) := by
  unfold mo_law_J66
  refine po_ite (fun hb1 => ?_) (fun _ => ?_)
  · exact po_some (fr_I hX (wr_f (by decide)))
  refine po_nmX (fr_I (fr_I (fr_I hX (wr_f (by decide))) (wr_f (by decide))) (wr_f (by decide))) (fun X10 hX10 => ?_)
  refine fr_mo_law_L99 n X0 _ (fun X12 hX12 => ?_) n (0 : Int32) X10 hX10
  refine fr_mo_law_L151 n X0 n (0 : Int32) X12 hX12
theorem fr_mo_law_J46 (n : Nat) (X0 : St) (v1 : Int32) (X : St) (hX : fr wR_mo_law wF_mo_law X0 X) : PO (fun r => fr wR_mo_law wF_mo_law X0 r.2) (mo_law_J46 n v1 X) := by
  unfold mo_law_J46
  refine po_ite (fun hb1 => ?_) (fun _ => ?_)
  · refine fr_mo_law_J66 n X0 (0 : Int32) X hX
  refine po_ite (fun hb2 => ?_) (fun _ => ?_)
  · refine fr_mo_law_J66 n X0 (1 : Int32) X hX
  refine fr_mo_law_J66 n X0 (0 : Int32) X hX
theorem fr_mo_law (n : Nat) (X0 : St) : PO (fun r => fr wR_mo_law wF_mo_law X0 r.2) (mo_law n X0) := by
  have hX0 : fr wR_mo_law wF_mo_law X0 X0 := fr_rf
  unfold mo_law
  refine po_nmX (fr_I (fr_I (fr_I hX0 (wr_f (by decide))) (wr_f (by decide))) (wr_f (by decide))) (fun X1 hX1 => ?_)
  refine po_cI (fr_I hX1 (wr_f (by decide))) (fr_mo_isLine n (stI X1 102 21 (0 : Int32))) (by decide) (by decide) (fun c3 X2 hX2 => ?_)
  refine fr_mo_law_L25 n X0 _ (fun v9 X8 hX8 => ?_) n c3 X2 hX2
  refine fr_mo_law_J46 n X0 v9 X8 hX8
def wR_mo_worked : List (Nat × Nat) := [(121, 121)]
def wF_mo_worked : List (Nat × Nat) := []
theorem fr_mo_worked_J81 (n : Nat) (X0 : St) (k5 : Int32 → Int32 → Int32 → St → Option (Int32 × St)) (hk5 : ∀ (x0 : Int32) (x1 : Int32) (x2 : Int32) X, fr wR_mo_worked wF_mo_worked X0 X → PO (fun r => fr wR_mo_worked wF_mo_worked X0 r.2) (k5 x0 x1 x2 X)) (v2 : Int32) (v3 : Int32) (v4 : Int32) (v5 : Int32) (X : St) (hX : fr wR_mo_worked wF_mo_worked X0 X) : PO (fun r => fr wR_mo_worked wF_mo_worked X0 r.2) (mo_worked_J81 n k5 v2 v3 v4 v5 X) := by
  unfold mo_worked_J81
  refine po_ite (fun hb1 => ?_) (fun _ => ?_)
  · refine po_ite (fun hb2 => ?_) (fun _ => po_none)
    refine po_ite (fun hb3 => ?_) (fun _ => po_none)
    refine po_nmX (fr_I hX (wr_o (by decide))) (fun X1 hX1 => ?_)
    exact hk5 v2 v3 (v4 + (1 : Int32)) X1 hX1
  refine po_ite (fun hb4 => ?_) (fun _ => po_none)
  refine po_ite (fun hb5 => ?_) (fun _ => ?_)
  · refine po_ite (fun hb6 => ?_) (fun _ => po_none)
    exact hk5 v2 v3 (v4 + (1 : Int32)) (stI X 121 (nx (v3 - (1 : Int32))) (1 : Int32)) (fr_I hX (wr_o (by decide)))
  refine po_ite (fun hb7 => ?_) (fun _ => po_none)
  exact hk5 v2 v3 (v4 + (1 : Int32)) (stI X 121 (nx (v3 - (1 : Int32))) (0 : Int32)) (fr_I hX (wr_o (by decide)))
theorem fr_mo_worked_J33 (n : Nat) (X0 : St) (k5 : Int32 → Int32 → Int32 → St → Option (Int32 × St)) (hk5 : ∀ (x0 : Int32) (x1 : Int32) (x2 : Int32) X, fr wR_mo_worked wF_mo_worked X0 X → PO (fun r => fr wR_mo_worked wF_mo_worked X0 r.2) (k5 x0 x1 x2 X)) (v2 : Int32) (v3 : Int32) (v4 : Int32) (v5 : Int32) (X : St) (hX : fr wR_mo_worked wF_mo_worked X0 X) : PO (fun r => fr wR_mo_worked wF_mo_worked X0 r.2) (mo_worked_J33 n k5 v2 v3 v4 v5 X) := by
  unfold mo_worked_J33
  refine po_ite (fun hb1 => ?_) (fun _ => ?_)
  · refine po_ite (fun hb2 => ?_) (fun _ => po_none)
    refine po_ite (fun hb3 => ?_) (fun _ => po_none)
    exact hk5 v2 (v3 + (1 : Int32)) (v4 + (1 : Int32)) (stI X 121 (nx v3) (X.1 122 (nx v5))) (fr_I hX (wr_o (by decide)))
  refine po_ite (fun hb4 => ?_) (fun _ => po_none)
  exact hk5 v2 (v3 + (1 : Int32)) (v4 + (1 : Int32)) (stI X 121 (nx v3) (v5 - (18 : Int32))) (fr_I hX (wr_o (by decide)))
theorem fr_mo_worked_L5_B (n : Nat) (X0 : St) (rec : Int32 → Int32 → Int32 → St → Option (Int32 × St)) (hrec : ∀ (x0 : Int32) (x1 : Int32) (x2 : Int32) X, fr wR_mo_worked wF_mo_worked X0 X → PO (fun r => fr wR_mo_worked wF_mo_worked X0 r.2) (rec x0 x1 x2 X)) (v2 : Int32) (v3 : Int32) (v4 : Int32) (X : St) (hX : fr wR_mo_worked wF_mo_worked X0 X) : PO (fun r => fr wR_mo_worked wF_mo_worked X0 r.2) (mo_worked_L5_B n rec v2 v3 v4 X) := by
  unfold mo_worked_L5_B
  refine po_ite (fun hb1 => ?_) (fun _ => ?_)
  · refine po_ite (fun hb2 => ?_) (fun _ => po_none)
    refine po_ite (fun hb3 => ?_) (fun _ => ?_)
    · refine po_ite (fun hb4 => ?_) (fun _ => ?_)
      · refine po_ite (fun hb5 => ?_) (fun _ => ?_)
        · refine fr_mo_worked_J81 n X0 _ hrec v2 v3 v4 (X.1 116 (nx v4)) X hX
        refine po_ite (fun hb6 => ?_) (fun _ => ?_)
        · refine fr_mo_worked_J81 n X0 _ hrec v2 v3 v4 (X.1 116 (nx v4)) X hX
        refine po_ite (fun hb7 => ?_) (fun _ => po_none)
        refine po_ite (fun hb8 => ?_) (fun _ => po_none)
        refine po_bnd (fun c2 => ?_)
        refine po_ite (fun hb9 => ?_) (fun _ => po_none)
        exact hrec v2 (v3 + (-1 : Int32)) (v4 + (1 : Int32)) (stI X 121 (nx ((v3 + (-1 : Int32)) - (1 : Int32))) c2) (fr_I hX (wr_o (by decide)))
      refine fr_mo_worked_J33 n X0 _ hrec v2 v3 v4 (X.1 116 (nx v4)) X hX
    refine fr_mo_worked_J33 n X0 _ hrec v2 v3 v4 (X.1 116 (nx v4)) X hX
  exact po_some hX
theorem fr_mo_worked_L5 (n : Nat) (X0 : St) : ∀ (w : Nat) (v2 : Int32) (v3 : Int32) (v4 : Int32) (X : St), fr wR_mo_worked wF_mo_worked X0 X → PO (fun r => fr wR_mo_worked wF_mo_worked X0 r.2) (mo_worked_L5 n w v2 v3 v4 X) := by
  intro w
  induction w with
  | zero => intro v2 v3 v4 X _; exact po_none
  | succ w ih => intro v2 v3 v4 X hX; exact fr_mo_worked_L5_B n X0 _ ih v2 v3 v4 X hX
theorem fr_mo_worked (n : Nat) (v1 : Int32) (v2 : Int32) (X0 : St) : PO (fun r => fr wR_mo_worked wF_mo_worked X0 r.2) (mo_worked n v1 v2 X0) := by
  have hX0 : fr wR_mo_worked wF_mo_worked X0 X0 := fr_rf
  unfold mo_worked
  refine fr_mo_worked_L5 n X0 n v2 (0 : Int32) v1 X0 hX0
def wR_mo_loss : List (Nat × Nat) := [(121, 121), (122, 122)]
def wF_mo_loss : List (Nat × Nat) := []
theorem fr_mo_loss_L132_B (n : Nat) (X0 : St) (k182 : Int32 → St → Option (Int32 × St)) (hk182 : ∀ (x0 : Int32) X, fr wR_mo_loss wF_mo_loss X0 X → PO (fun r => fr wR_mo_loss wF_mo_loss X0 r.2) (k182 x0 X)) (rec : Int32 → St → Option (Int32 × St)) (hrec : ∀ (x0 : Int32) X, fr wR_mo_loss wF_mo_loss X0 X → PO (fun r => fr wR_mo_loss wF_mo_loss X0 r.2) (rec x0 X)) (v6 : Int32) (X : St) (hX : fr wR_mo_loss wF_mo_loss X0 X) : PO (fun r => fr wR_mo_loss wF_mo_loss X0 r.2) (mo_loss_L132_B n k182 rec v6 X) := by
  unfold mo_loss_L132_B
  refine po_ite (fun hb1 => ?_) (fun _ => ?_)
  · refine po_ite (fun hb2 => ?_) (fun _ => po_none)
    refine po_ite (fun hb3 => ?_) (fun _ => po_none)
    refine po_ite (fun hb4 => ?_) (fun _ => ?_)
    · refine po_ite (fun hb5 => ?_) (fun _ => po_none)
      refine po_ite (fun hb6 => ?_) (fun _ => po_none)
      refine po_cI hX (fr_mo_worked n (X.1 113 (nx v6)) (X.1 114 (nx v6)) X) (by decide) (by decide) (fun c6 X5 hX5 => ?_)
      refine po_ite (fun hb7 => ?_) (fun _ => ?_)
      · exact hrec (v6 + (1 : Int32)) X5 hX5
      exact hk182 v6 X5 hX5
    exact hk182 v6 X hX
  exact po_some hX
theorem fr_mo_loss_L132 (n : Nat) (X0 : St) (k182 : Int32 → St → Option (Int32 × St)) (hk182 : ∀ (x0 : Int32) X, fr wR_mo_loss wF_mo_loss X0 X → PO (fun r => fr wR_mo_loss wF_mo_loss X0 r.2) (k182 x0 X)) : ∀ (w : Nat) (v6 : Int32) (X : St), fr wR_mo_loss wF_mo_loss X0 X → PO (fun r => fr wR_mo_loss wF_mo_loss X0 r.2) (mo_loss_L132 n k182 w v6 X) := by
  intro w
  induction w with
  | zero => intro v6 X _; exact po_none
  | succ w ih => intro v6 X hX; exact fr_mo_loss_L132_B n X0 k182 hk182 _ ih v6 X hX
theorem fr_mo_loss_J182 (n : Nat) (X0 : St) (v6 : Int32) (X : St) (hX : fr wR_mo_loss wF_mo_loss X0 X) : PO (fun r => fr wR_mo_loss wF_mo_loss X0 r.2) (mo_loss_J182 n v6 X) := by
  unfold mo_loss_J182
  refine po_ite (fun hb1 => ?_) (fun _ => po_none)
  refine po_ite (fun hb2 => ?_) (fun _ => po_none)
  refine po_cI hX (fr_mo_worked n (X.1 114 (nx v6)) (X.1 115 (nx v6)) X) (by decide) (by decide) (fun c10 X9 hX9 => ?_)
  exact po_some hX9
theorem fr_mo_loss (n : Nat) (v1 : Int32) (v2 : Int32) (v3 : Int32) (v4 : Int32) (v5 : Int32) (X0 : St) : PO (fun r => fr wR_mo_loss wF_mo_loss X0 r.2) (mo_loss n v1 v2 v3 v4 v5 X0) := by
  have hX0 : fr wR_mo_loss wF_mo_loss X0 X0 := fr_rf
  unfold mo_loss
  refine po_ite (fun hb1 => ?_) (fun _ => ?_)
  · refine po_ite (fun _ => po_none) (fun _ => ?_)
    refine po_ite (fun hb3 => ?_) (fun _ => ?_)
    · exact po_some hX0
    exact po_some hX0
  refine po_nmX (fr_I (fr_I hX0 (wr_o (by decide))) (wr_o (by decide))) (fun X1 hX1 => ?_)
  refine po_ite (fun hb4 => ?_) (fun _ => po_none)
  refine po_ite (fun hb5 => ?_) (fun _ => po_none)
  refine po_ite (fun hb6 => ?_) (fun _ => po_none)
  refine po_ite (fun hb7 => ?_) (fun _ => po_none)
  refine po_nmX (fr_I hX1 (wr_o (by decide))) (fun X2 hX2 => ?_)
  refine po_ite (fun hb8 => ?_) (fun _ => po_none)
  refine po_ite (fun hb9 => ?_) (fun _ => po_none)
  refine po_nmX (fr_I hX2 (wr_o (by decide))) (fun X3 hX3 => ?_)
  refine po_nmX (fr_I (fr_I hX3 (wr_o (by decide))) (wr_o (by decide))) (fun X4 hX4 => ?_)
  refine fr_mo_loss_L132 n X0 _ (fun v8 X7 hX7 => ?_) n (0 : Int32) X4 hX4
  refine fr_mo_loss_J182 n X0 v8 X7 hX7
def wR_mo_loses : List (Nat × Nat) := [(121, 121), (122, 122)]
def wF_mo_loses : List (Nat × Nat) := []
theorem fr_mo_loses (n : Nat) (v1 : Int32) (v2 : Int32) (v3 : Int32) (X0 : St) : PO (fun r => fr wR_mo_loses wF_mo_loses X0 r.2) (mo_loses n v1 v2 v3 X0) := by
  have hX0 : fr wR_mo_loses wF_mo_loses X0 X0 := fr_rf
  unfold mo_loses
  refine po_ite (fun hb1 => ?_) (fun _ => ?_)
  · exact po_some hX0
  refine po_ite (fun hb2 => ?_) (fun _ => ?_)
  · exact po_some hX0
  refine po_ite (fun hb3 => ?_) (fun _ => ?_)
  · exact po_some hX0
  refine po_ite (fun hb4 => ?_) (fun _ => ?_)
  · exact po_some hX0
  refine po_ite (fun hb5 => ?_) (fun _ => ?_)
  · exact po_some hX0
  refine po_cI hX0 (fr_mo_loss n (v1 / (10 : Int32)) (irm v1 (10 : Int32)) v2 (v3 / (100 : Int32)) (irm v3 (100 : Int32)) X0) (by decide) (by decide) (fun c2 X1 hX1 => ?_)
  exact po_some hX1
def wR_mo_reads : List (Nat × Nat) := [(133, 133)]
def wF_mo_reads : List (Nat × Nat) := [(102, 44)]
theorem fr_mo_reads_L5_B (n : Nat) (X0 : St) (rec : Int32 → St → Option (St)) (hrec : ∀ (x0 : Int32) X, fr wR_mo_reads wF_mo_reads X0 X → PO (fun r => fr wR_mo_reads wF_mo_reads X0 r) (rec x0 X)) (v1 : Int32) (X : St) (hX : fr wR_mo_reads wF_mo_reads X0 X) : PO (fun r => fr wR_mo_reads wF_mo_reads X0 r) (mo_reads_L5_B n rec v1 X) := by
  unfold mo_reads_L5_B
  refine po_ite (fun hb1 => ?_) (fun _ => po_none)
  refine po_ite (fun hb2 => ?_) (fun _ => ?_)
  · refine po_ite (fun hb3 => ?_) (fun _ => po_none)
    refine po_ite (fun hb4 => ?_) (fun _ => ?_)
    · exact po_some hX
    refine po_ite (fun hb5 => ?_) (fun _ => po_none)
    refine po_ite (fun hb6 => ?_) (fun _ => ?_)
    · exact po_some hX
    refine po_ite (fun hb7 => ?_) (fun _ => po_none)
    refine po_ite (fun hb8 => ?_) (fun _ => po_none)
    refine po_nmX (fr_I hX (wr_o (by decide))) (fun X1 hX1 => ?_)
    exact hrec v1 (stI X1 102 44 ((X1.1 102 44) + (1 : Int32))) (fr_I hX1 (wr_f (by decide)))
  exact po_some hX
theorem fr_mo_reads_L5 (n : Nat) (X0 : St) : ∀ (w : Nat) (v1 : Int32) (X : St), fr wR_mo_reads wF_mo_reads X0 X → PO (fun r => fr wR_mo_reads wF_mo_reads X0 r) (mo_reads_L5 n w v1 X) := by
  intro w
  induction w with
  | zero => intro v1 X _; exact po_none
  | succ w ih => intro v1 X hX; exact fr_mo_reads_L5_B n X0 _ ih v1 X hX
theorem fr_mo_reads (n : Nat) (v1 : Int32) (X0 : St) : PO (fun r => fr wR_mo_reads wF_mo_reads X0 r) (mo_reads n v1 X0) := by
  have hX0 : fr wR_mo_reads wF_mo_reads X0 X0 := fr_rf
  unfold mo_reads
  refine fr_mo_reads_L5 n X0 n v1 (stI X0 102 44 (0 : Int32)) (fr_I hX0 (wr_f (by decide)))
def wR_mo_drifts : List (Nat × Nat) := [(134, 134)]
def wF_mo_drifts : List (Nat × Nat) := [(102, 51)]
theorem fr_mo_drifts_L2_B (n : Nat) (X0 : St) (k21 : Int32 → St → Option (St)) (hk21 : ∀ (x0 : Int32) X, fr wR_mo_drifts wF_mo_drifts X0 X → PO (fun r => fr wR_mo_drifts wF_mo_drifts X0 r) (k21 x0 X)) (rec : Int32 → Int32 → St → Option (St)) (hrec : ∀ (x0 : Int32) (x1 : Int32) X, fr wR_mo_drifts wF_mo_drifts X0 X → PO (fun r => fr wR_mo_drifts wF_mo_drifts X0 r) (rec x0 x1 X)) (v1 : Int32) (v2 : Int32) (X : St) (hX : fr wR_mo_drifts wF_mo_drifts X0 X) : PO (fun r => fr wR_mo_drifts wF_mo_drifts X0 r) (mo_drifts_L2_B n k21 rec v1 v2 X) := by
  unfold mo_drifts_L2_B
  refine po_ite (fun hb1 => ?_) (fun _ => ?_)
  · refine po_ite (fun hb2 => ?_) (fun _ => po_none)
    exact hrec v1 (v2 + (1 : Int32)) (stI X 134 (nx v2) (0 : Int32)) (fr_I hX (wr_o (by decide)))
  exact hk21 v1 X hX
theorem fr_mo_drifts_L2 (n : Nat) (X0 : St) (k21 : Int32 → St → Option (St)) (hk21 : ∀ (x0 : Int32) X, fr wR_mo_drifts wF_mo_drifts X0 X → PO (fun r => fr wR_mo_drifts wF_mo_drifts X0 r) (k21 x0 X)) : ∀ (w : Nat) (v1 : Int32) (v2 : Int32) (X : St), fr wR_mo_drifts wF_mo_drifts X0 X → PO (fun r => fr wR_mo_drifts wF_mo_drifts X0 r) (mo_drifts_L2 n k21 w v1 v2 X) := by
  intro w
  induction w with
  | zero => intro v1 v2 X _; exact po_none
  | succ w ih => intro v1 v2 X hX; exact fr_mo_drifts_L2_B n X0 k21 hk21 _ ih v1 v2 X hX
theorem fr_mo_drifts_J89 (n : Nat) (X0 : St) (k33 : Int32 → Int32 → Int32 → St → Option (St)) (hk33 : ∀ (x0 : Int32) (x1 : Int32) (x2 : Int32) X, fr wR_mo_drifts wF_mo_drifts X0 X → PO (fun r => fr wR_mo_drifts wF_mo_drifts X0 r) (k33 x0 x1 x2 X)) (v1 : Int32) (v2 : Int32) (v3 : Int32) (v4 : Int32) (X : St) (hX : fr wR_mo_drifts wF_mo_drifts X0 X) : PO (fun r => fr wR_mo_drifts wF_mo_drifts X0 r) (mo_drifts_J89 n k33 v1 v2 v3 v4 X) := by
  unfold mo_drifts_J89
  refine po_ite (fun hb1 => ?_) (fun _ => po_none)
  refine po_ite (fun hb2 => ?_) (fun _ => po_none)
  refine po_nmX (fr_I hX (wr_o (by decide))) (fun X3 hX3 => ?_)
  exact hk33 v1 v2 (v3 + (1 : Int32)) X3 hX3
theorem fr_mo_drifts_L33_B (n : Nat) (X0 : St) (k123 : Int32 → Int32 → St → Option (St)) (hk123 : ∀ (x0 : Int32) (x1 : Int32) X, fr wR_mo_drifts wF_mo_drifts X0 X → PO (fun r => fr wR_mo_drifts wF_mo_drifts X0 r) (k123 x0 x1 X)) (rec : Int32 → Int32 → Int32 → St → Option (St)) (hrec : ∀ (x0 : Int32) (x1 : Int32) (x2 : Int32) X, fr wR_mo_drifts wF_mo_drifts X0 X → PO (fun r => fr wR_mo_drifts wF_mo_drifts X0 r) (rec x0 x1 x2 X)) (v1 : Int32) (v2 : Int32) (v3 : Int32) (X : St) (hX : fr wR_mo_drifts wF_mo_drifts X0 X) : PO (fun r => fr wR_mo_drifts wF_mo_drifts X0 r) (mo_drifts_L33_B n k123 rec v1 v2 v3 X) := by
  unfold mo_drifts_L33_B
  refine po_ite (fun hb1 => ?_) (fun _ => ?_)
  · refine po_ite (fun hb2 => ?_) (fun _ => po_none)
    refine po_ite (fun hb3 => ?_) (fun _ => ?_)
    · refine fr_mo_drifts_J89 n X0 _ hrec v1 v2 v3 (X.1 107 (nx v3)) X hX
    refine po_nmX (fr_I hX (wr_f (by decide))) (fun X4 hX4 => ?_)
    refine po_ite (fun hb4 => ?_) (fun _ => ?_)
    · refine fr_mo_drifts_J89 n X0 _ hrec v1 v2 v3 ((X.1 107 (nx v3)) + (1 : Int32)) X4 hX4
    refine fr_mo_drifts_J89 n X0 _ hrec v1 v2 v3 (X.1 107 (nx v3)) X4 hX4
  exact hk123 v1 v2 X hX
theorem fr_mo_drifts_L33 (n : Nat) (X0 : St) (k123 : Int32 → Int32 → St → Option (St)) (hk123 : ∀ (x0 : Int32) (x1 : Int32) X, fr wR_mo_drifts wF_mo_drifts X0 X → PO (fun r => fr wR_mo_drifts wF_mo_drifts X0 r) (k123 x0 x1 X)) : ∀ (w : Nat) (v1 : Int32) (v2 : Int32) (v3 : Int32) (X : St), fr wR_mo_drifts wF_mo_drifts X0 X → PO (fun r => fr wR_mo_drifts wF_mo_drifts X0 r) (mo_drifts_L33 n k123 w v1 v2 v3 X) := by
  intro w
  induction w with
  | zero => intro v1 v2 v3 X _; exact po_none
  | succ w ih => intro v1 v2 v3 X hX; exact fr_mo_drifts_L33_B n X0 k123 hk123 _ ih v1 v2 v3 X hX
theorem fr_mo_drifts_L125_B (n : Nat) (X0 : St) (k195 : Int32 → Int32 → St → Option (St)) (hk195 : ∀ (x0 : Int32) (x1 : Int32) X, fr wR_mo_drifts wF_mo_drifts X0 X → PO (fun r => fr wR_mo_drifts wF_mo_drifts X0 r) (k195 x0 x1 X)) (rec : Int32 → Int32 → Int32 → St → Option (St)) (hrec : ∀ (x0 : Int32) (x1 : Int32) (x2 : Int32) X, fr wR_mo_drifts wF_mo_drifts X0 X → PO (fun r => fr wR_mo_drifts wF_mo_drifts X0 r) (rec x0 x1 x2 X)) (v1 : Int32) (v2 : Int32) (v3 : Int32) (X : St) (hX : fr wR_mo_drifts wF_mo_drifts X0 X) : PO (fun r => fr wR_mo_drifts wF_mo_drifts X0 r) (mo_drifts_L125_B n k195 rec v1 v2 v3 X) := by
  unfold mo_drifts_L125_B
  refine po_ite (fun hb1 => ?_) (fun _ => ?_)
  · refine po_ite (fun hb2 => ?_) (fun _ => po_none)
    refine po_ite (fun hb3 => ?_) (fun _ => ?_)
    · refine po_ite (fun hb4 => ?_) (fun _ => ?_)
      · exact hk195 v1 v2 X hX
      refine po_ite (fun hb5 => ?_) (fun _ => po_none)
      refine po_ite (fun hb6 => ?_) (fun _ => po_none)
      refine po_nmX (fr_I hX (wr_o (by decide))) (fun X8 hX8 => ?_)
      exact hrec v1 v2 (v3 + (1 : Int32)) X8 hX8
    exact hk195 v1 v2 X hX
  exact hk195 v1 v2 X hX
theorem fr_mo_drifts_L125 (n : Nat) (X0 : St) (k195 : Int32 → Int32 → St → Option (St)) (hk195 : ∀ (x0 : Int32) (x1 : Int32) X, fr wR_mo_drifts wF_mo_drifts X0 X → PO (fun r => fr wR_mo_drifts wF_mo_drifts X0 r) (k195 x0 x1 X)) : ∀ (w : Nat) (v1 : Int32) (v2 : Int32) (v3 : Int32) (X : St), fr wR_mo_drifts wF_mo_drifts X0 X → PO (fun r => fr wR_mo_drifts wF_mo_drifts X0 r) (mo_drifts_L125 n k195 w v1 v2 v3 X) := by
  intro w
  induction w with
  | zero => intro v1 v2 v3 X _; exact po_none
  | succ w ih => intro v1 v2 v3 X hX; exact fr_mo_drifts_L125_B n X0 k195 hk195 _ ih v1 v2 v3 X hX
theorem fr_mo_drifts_J195 (n : Nat) (X0 : St) (k23 : Int32 → Int32 → St → Option (St)) (hk23 : ∀ (x0 : Int32) (x1 : Int32) X, fr wR_mo_drifts wF_mo_drifts X0 X → PO (fun r => fr wR_mo_drifts wF_mo_drifts X0 r) (k23 x0 x1 X)) (v1 : Int32) (v2 : Int32) (X : St) (hX : fr wR_mo_drifts wF_mo_drifts X0 X) : PO (fun r => fr wR_mo_drifts wF_mo_drifts X0 r) (mo_drifts_J195 n k23 v1 v2 X) := by
  unfold mo_drifts_J195
  refine po_ite (fun hb1 => ?_) (fun _ => ?_)
  · exact hk23 v1 (v2 + (1 : Int32)) X hX
  refine po_ite (fun hb2 => ?_) (fun _ => ?_)
  · refine po_ite (fun hb3 => ?_) (fun _ => po_none)
    refine po_ite (fun hb4 => ?_) (fun _ => po_none)
    refine po_nmX (fr_I hX (wr_o (by decide))) (fun X12 hX12 => ?_)
    exact hk23 v1 (v2 + (1 : Int32)) X12 hX12
  exact hk23 v1 (v2 + (1 : Int32)) X hX
theorem fr_mo_drifts_L23_B (n : Nat) (X0 : St) (rec : Int32 → Int32 → St → Option (St)) (hrec : ∀ (x0 : Int32) (x1 : Int32) X, fr wR_mo_drifts wF_mo_drifts X0 X → PO (fun r => fr wR_mo_drifts wF_mo_drifts X0 r) (rec x0 x1 X)) (v1 : Int32) (v2 : Int32) (X : St) (hX : fr wR_mo_drifts wF_mo_drifts X0 X) : PO (fun r => fr wR_mo_drifts wF_mo_drifts X0 r) (mo_drifts_L23_B n rec v1 v2 X) := by
  unfold mo_drifts_L23_B
  refine po_ite (fun hb1 => ?_) (fun _ => ?_)
  · refine fr_mo_drifts_L33 n X0 _ (fun v6 v7 X5 hX5 => ?_) n v1 v2 (0 : Int32) X hX
    refine fr_mo_drifts_L125 n X0 _ (fun v10 v11 X9 hX9 => ?_) n v6 v7 (0 : Int32) X5 hX5
    refine fr_mo_drifts_J195 n X0 _ hrec v10 v11 X9 hX9
  exact po_some hX
theorem fr_mo_drifts_L23 (n : Nat) (X0 : St) : ∀ (w : Nat) (v1 : Int32) (v2 : Int32) (X : St), fr wR_mo_drifts wF_mo_drifts X0 X → PO (fun r => fr wR_mo_drifts wF_mo_drifts X0 r) (mo_drifts_L23 n w v1 v2 X) := by
  intro w
  induction w with
  | zero => intro v1 v2 X _; exact po_none
  | succ w ih => intro v1 v2 X hX; exact fr_mo_drifts_L23_B n X0 _ ih v1 v2 X hX
theorem fr_mo_drifts (n : Nat) (v1 : Int32) (X0 : St) : PO (fun r => fr wR_mo_drifts wF_mo_drifts X0 r) (mo_drifts n v1 X0) := by
  have hX0 : fr wR_mo_drifts wF_mo_drifts X0 X0 := fr_rf
  unfold mo_drifts
  refine fr_mo_drifts_L2 n X0 _ (fun v2 X1 hX1 => ?_) n v1 (0 : Int32) X0 hX0
  refine fr_mo_drifts_L23 n X0 n v2 (0 : Int32) X1 hX1
def wR_mo_marks : List (Nat × Nat) := [(121, 121), (122, 122), (135, 135)]
def wF_mo_marks : List (Nat × Nat) := []
theorem fr_mo_marks_L39_B (n : Nat) (X0 : St) (k93 : Int32 → Int32 → Int32 → St → Option (Int32 × St)) (hk93 : ∀ (x0 : Int32) (x1 : Int32) (x2 : Int32) X, fr wR_mo_marks wF_mo_marks X0 X → PO (fun r => fr wR_mo_marks wF_mo_marks X0 r.2) (k93 x0 x1 x2 X)) (rec : Int32 → Int32 → Int32 → Int32 → St → Option (Int32 × St)) (hrec : ∀ (x0 : Int32) (x1 : Int32) (x2 : Int32) (x3 : Int32) X, fr wR_mo_marks wF_mo_marks X0 X → PO (fun r => fr wR_mo_marks wF_mo_marks X0 r.2) (rec x0 x1 x2 x3 X)) (v1 : Int32) (v2 : Int32) (v3 : Int32) (v4 : Int32) (X : St) (hX : fr wR_mo_marks wF_mo_marks X0 X) : PO (fun r => fr wR_mo_marks wF_mo_marks X0 r.2) (mo_marks_L39_B n k93 rec v1 v2 v3 v4 X) := by
  unfold mo_marks_L39_B
  refine po_ite (fun hb1 => ?_) (fun _ => ?_)
  · refine po_ite (fun hb2 => ?_) (fun _ => po_none)
    refine po_bnd (fun c1 => ?_)
    refine po_ite (fun hb3 => ?_) (fun _ => po_none)
    refine po_cI hX (fr_mo_loss n v2 v3 c1 (X.1 133 (nx v4)) v4 X) (by decide) (by decide) (fun c3 X2 hX2 => ?_)
    refine po_ite (fun hb4 => ?_) (fun _ => po_none)
    refine po_nmX (fr_I hX2 (wr_o (by decide))) (fun X4 hX4 => ?_)
    exact hrec v1 v2 v3 (v4 + (1 : Int32)) X4 hX4
  exact hk93 v1 v2 v3 X hX
theorem fr_mo_marks_L39 (n : Nat) (X0 : St) (k93 : Int32 → Int32 → Int32 → St → Option (Int32 × St)) (hk93 : ∀ (x0 : Int32) (x1 : Int32) (x2 : Int32) X, fr wR_mo_marks wF_mo_marks X0 X → PO (fun r => fr wR_mo_marks wF_mo_marks X0 r.2) (k93 x0 x1 x2 X)) : ∀ (w : Nat) (v1 : Int32) (v2 : Int32) (v3 : Int32) (v4 : Int32) (X : St), fr wR_mo_marks wF_mo_marks X0 X → PO (fun r => fr wR_mo_marks wF_mo_marks X0 r.2) (mo_marks_L39 n k93 w v1 v2 v3 v4 X) := by
  intro w
  induction w with
  | zero => intro v1 v2 v3 v4 X _; exact po_none
  | succ w ih => intro v1 v2 v3 v4 X hX; exact fr_mo_marks_L39_B n X0 k93 hk93 _ ih v1 v2 v3 v4 X hX
theorem fr_mo_marks_L16_B (n : Nat) (X0 : St) (k113 : Int32 → Int32 → St → Option (Int32 × St)) (hk113 : ∀ (x0 : Int32) (x1 : Int32) X, fr wR_mo_marks wF_mo_marks X0 X → PO (fun r => fr wR_mo_marks wF_mo_marks X0 r.2) (k113 x0 x1 X)) (rec : Int32 → Int32 → Int32 → St → Option (Int32 × St)) (hrec : ∀ (x0 : Int32) (x1 : Int32) (x2 : Int32) X, fr wR_mo_marks wF_mo_marks X0 X → PO (fun r => fr wR_mo_marks wF_mo_marks X0 r.2) (rec x0 x1 x2 X)) (v1 : Int32) (v2 : Int32) (v3 : Int32) (X : St) (hX : fr wR_mo_marks wF_mo_marks X0 X) : PO (fun r => fr wR_mo_marks wF_mo_marks X0 r.2) (mo_marks_L16_B n k113 rec v1 v2 v3 X) := by
  unfold mo_marks_L16_B
  refine po_ite (fun hb1 => ?_) (fun _ => ?_)
  · refine po_ite (fun hb2 => ?_) (fun _ => po_none)
    refine fr_mo_marks_L39 n X0 _ (fun v6 v7 v8 X5 hX5 => ?_) n v1 v2 v3 (0 : Int32) (stI X 135 (nx (((10 : Int32) * v2) + v3)) (0 : Int32)) (fr_I hX (wr_o (by decide)))
    refine po_ite (fun hb3 => ?_) (fun _ => po_none)
    refine po_bnd (fun t9 => ?_)
    exact hrec t9 v7 (v8 + (1 : Int32)) X5 hX5
  exact hk113 v1 v2 X hX
theorem fr_mo_marks_L16 (n : Nat) (X0 : St) (k113 : Int32 → Int32 → St → Option (Int32 × St)) (hk113 : ∀ (x0 : Int32) (x1 : Int32) X, fr wR_mo_marks wF_mo_marks X0 X → PO (fun r => fr wR_mo_marks wF_mo_marks X0 r.2) (k113 x0 x1 X)) : ∀ (w : Nat) (v1 : Int32) (v2 : Int32) (v3 : Int32) (X : St), fr wR_mo_marks wF_mo_marks X0 X → PO (fun r => fr wR_mo_marks wF_mo_marks X0 r.2) (mo_marks_L16 n k113 w v1 v2 v3 X) := by
  intro w
  induction w with
  | zero => intro v1 v2 v3 X _; exact po_none
  | succ w ih => intro v1 v2 v3 X hX; exact fr_mo_marks_L16_B n X0 k113 hk113 _ ih v1 v2 v3 X hX
theorem fr_mo_marks_L4_B (n : Nat) (X0 : St) (rec : Int32 → Int32 → St → Option (Int32 × St)) (hrec : ∀ (x0 : Int32) (x1 : Int32) X, fr wR_mo_marks wF_mo_marks X0 X → PO (fun r => fr wR_mo_marks wF_mo_marks X0 r.2) (rec x0 x1 X)) (v1 : Int32) (v2 : Int32) (X : St) (hX : fr wR_mo_marks wF_mo_marks X0 X) : PO (fun r => fr wR_mo_marks wF_mo_marks X0 r.2) (mo_marks_L4_B n rec v1 v2 X) := by
  unfold mo_marks_L4_B
  refine po_ite (fun hb1 => ?_) (fun _ => ?_)
  · refine fr_mo_marks_L16 n X0 _ (fun v11 v12 X10 hX10 => ?_) n v1 v2 (v2 + (1 : Int32)) X hX
    exact hrec v11 (v12 + (1 : Int32)) X10 hX10
  exact po_some hX
theorem fr_mo_marks_L4 (n : Nat) (X0 : St) : ∀ (w : Nat) (v1 : Int32) (v2 : Int32) (X : St), fr wR_mo_marks wF_mo_marks X0 X → PO (fun r => fr wR_mo_marks wF_mo_marks X0 r.2) (mo_marks_L4 n w v1 v2 X) := by
  intro w
  induction w with
  | zero => intro v1 v2 X _; exact po_none
  | succ w ih => intro v1 v2 X hX; exact fr_mo_marks_L4_B n X0 _ ih v1 v2 X hX
theorem fr_mo_marks (n : Nat) (X0 : St) : PO (fun r => fr wR_mo_marks wF_mo_marks X0 r.2) (mo_marks n X0) := by
  have hX0 : fr wR_mo_marks wF_mo_marks X0 X0 := fr_rf
  unfold mo_marks
  refine fr_mo_marks_L4 n X0 n (0 : Int32) (0 : Int32) X0 hX0
def wR_mo_marksNow : List (Nat × Nat) := [(121, 121), (122, 122), (134, 134), (135, 135)]
def wF_mo_marksNow : List (Nat × Nat) := [(102, 51)]
theorem fr_mo_marksNow (n : Nat) (X0 : St) : PO (fun r => fr wR_mo_marksNow wF_mo_marksNow X0 r.2) (mo_marksNow n X0) := by
  have hX0 : fr wR_mo_marksNow wF_mo_marksNow X0 X0 := fr_rf
  unfold mo_marksNow
  refine po_cV hX0 (fr_mo_drifts n (0 : Int32) X0) (by decide) (by decide) (fun X1 hX1 => ?_)
  refine po_cI hX1 (fr_mo_marks n X1) (by decide) (by decide) (fun c3 X2 hX2 => ?_)
  exact po_some hX2
def wR_mo_routine : List (Nat × Nat) := [(121, 121), (122, 122), (133, 133), (134, 134), (135, 135)]
def wF_mo_routine : List (Nat × Nat) := [(102, 44), (102, 51)]
theorem fr_mo_routine (n : Nat) (v1 : Int32) (v2 : Int32) (X0 : St) : PO (fun r => fr wR_mo_routine wF_mo_routine X0 r.2) (mo_routine n v1 v2 X0) := by
  have hX0 : fr wR_mo_routine wF_mo_routine X0 X0 := fr_rf
  unfold mo_routine
  refine po_ite (fun hb1 => ?_) (fun _ => ?_)
  · exact po_some hX0
  refine po_ite (fun hb2 => ?_) (fun _ => ?_)
  · exact po_some hX0
  refine po_bnd (fun c1 => ?_)
  refine po_ite (fun hb3 => ?_) (fun _ => ?_)
  · exact po_some hX0
  refine po_cV hX0 (fr_mo_reads n v1 X0) (by decide) (by decide) (fun X2 hX2 => ?_)
  refine po_cI hX2 (fr_mo_marksNow n X2) (by decide) (by decide) (fun c4 X3 hX3 => ?_)
  refine po_ite (fun hb4 => ?_) (fun _ => ?_)
  · exact po_some hX3
  refine po_ite (fun hb5 => ?_) (fun _ => ?_)
  · exact po_some hX3
  refine po_ite (fun hb6 => ?_) (fun _ => ?_)
  · refine po_bnd (fun c5 => ?_)
    exact po_some hX3
  refine po_bnd (fun c6 => ?_)
  exact po_some hX3
def wR_mo_off : List (Nat × Nat) := [(133, 133), (134, 134)]
def wF_mo_off : List (Nat × Nat) := [(102, 44), (102, 51)]
theorem fr_mo_off (n : Nat) (v1 : Int32) (v2 : Int32) (v3 : Int32) (X0 : St) : PO (fun r => fr wR_mo_off wF_mo_off X0 r.2) (mo_off n v1 v2 v3 X0) := by
  have hX0 : fr wR_mo_off wF_mo_off X0 X0 := fr_rf
  unfold mo_off
  refine po_ite (fun hb1 => ?_) (fun _ => ?_)
  · exact po_some hX0
  refine po_ite (fun hb2 => ?_) (fun _ => ?_)
  · exact po_some hX0
  refine po_ite (fun hb3 => ?_) (fun _ => ?_)
  · exact po_some hX0
  refine po_bnd (fun c1 => ?_)
  refine po_ite (fun hb4 => ?_) (fun _ => ?_)
  · exact po_some hX0
  refine po_cV hX0 (fr_mo_reads n v1 X0) (by decide) (by decide) (fun X2 hX2 => ?_)
  refine po_cV hX2 (fr_mo_drifts n (0 : Int32) X2) (by decide) (by decide) (fun X3 hX3 => ?_)
  refine po_bnd (fun c4 => ?_)
  exact po_some hX3
def wR_mo_apart : List (Nat × Nat) := [(133, 133), (134, 134)]
def wF_mo_apart : List (Nat × Nat) := [(102, 44), (102, 51)]
theorem fr_mo_apart (n : Nat) (v1 : Int32) (v2 : Int32) (v3 : Int32) (X0 : St) : PO (fun r => fr wR_mo_apart wF_mo_apart X0 r.2) (mo_apart n v1 v2 v3 X0) := by
  have hX0 : fr wR_mo_apart wF_mo_apart X0 X0 := fr_rf
  unfold mo_apart
  refine po_ite (fun hb1 => ?_) (fun _ => ?_)
  · exact po_some hX0
  refine po_ite (fun hb2 => ?_) (fun _ => ?_)
  · exact po_some hX0
  refine po_ite (fun hb3 => ?_) (fun _ => ?_)
  · exact po_some hX0
  refine po_bnd (fun c1 => ?_)
  refine po_ite (fun hb4 => ?_) (fun _ => ?_)
  · exact po_some hX0
  refine po_cV hX0 (fr_mo_reads n v1 X0) (by decide) (by decide) (fun X2 hX2 => ?_)
  refine po_cV hX2 (fr_mo_drifts n (0 : Int32) X2) (by decide) (by decide) (fun X3 hX3 => ?_)
  refine po_ite (fun hb5 => ?_) (fun _ => ?_)
  · refine po_bnd (fun c4 => ?_)
    exact po_some hX3
  refine po_bnd (fun c5 => ?_)
  exact po_some hX3
def wR_mo_gone : List (Nat × Nat) := [(133, 133)]
def wF_mo_gone : List (Nat × Nat) := [(102, 44)]
theorem fr_mo_gone_J22 (n : Nat) (X0 : St) (v1 : Int32) (v2 : Int32) (X : St) (hX : fr wR_mo_gone wF_mo_gone X0 X) : PO (fun r => fr wR_mo_gone wF_mo_gone X0 r.2) (mo_gone_J22 n v1 v2 X) := by
  unfold mo_gone_J22
  refine po_bnd (fun c1 => ?_)
  refine po_ite (fun hb1 => ?_) (fun _ => ?_)
  · exact po_some hX
  refine po_cV hX (fr_mo_reads n v1 X) (by decide) (by decide) (fun X2 hX2 => ?_)
  refine po_ite (fun hb2 => ?_) (fun _ => ?_)
  · refine po_bnd (fun c3 => ?_)
    exact po_some hX2
  refine po_ite (fun hb3 => ?_) (fun _ => po_none)
  refine po_bnd (fun c4 => ?_)
  exact po_some hX2
theorem fr_mo_gone (n : Nat) (v1 : Int32) (v2 : Int32) (X0 : St) : PO (fun r => fr wR_mo_gone wF_mo_gone X0 r.2) (mo_gone n v1 v2 X0) := by
  have hX0 : fr wR_mo_gone wF_mo_gone X0 X0 := fr_rf
  unfold mo_gone
  refine po_ite (fun hb1 => ?_) (fun _ => ?_)
  · exact po_some hX0
  refine po_ite (fun hb2 => ?_) (fun _ => ?_)
  · refine fr_mo_gone_J22 n X0 v1 v2 X0 hX0
  refine po_ite (fun hb3 => ?_) (fun _ => ?_)
  · exact po_some hX0
  refine fr_mo_gone_J22 n X0 v1 v2 X0 hX0
def wR_mo_least : List (Nat × Nat) := [(133, 133)]
def wF_mo_least : List (Nat × Nat) := [(102, 44)]
theorem fr_mo_least_L38_B (n : Nat) (X0 : St) (rec : Int32 → St → Option (Int32 × St)) (hrec : ∀ (x0 : Int32) X, fr wR_mo_least wF_mo_least X0 X → PO (fun r => fr wR_mo_least wF_mo_least X0 r.2) (rec x0 X)) (v4 : Int32) (X : St) (hX : fr wR_mo_least wF_mo_least X0 X) : PO (fun r => fr wR_mo_least wF_mo_least X0 r.2) (mo_least_L38_B n rec v4 X) := by
  unfold mo_least_L38_B
  refine po_bnd (fun c3 => ?_)
  refine po_ite (fun hb1 => ?_) (fun _ => ?_)
  · exact po_some hX
  exact hrec (v4 + (1 : Int32)) X hX
theorem fr_mo_least_L38 (n : Nat) (X0 : St) : ∀ (w : Nat) (v4 : Int32) (X : St), fr wR_mo_least wF_mo_least X0 X → PO (fun r => fr wR_mo_least wF_mo_least X0 r.2) (mo_least_L38 n w v4 X) := by
  intro w
  induction w with
  | zero => intro v4 X _; exact po_none
  | succ w ih => intro v4 X hX; exact fr_mo_least_L38_B n X0 _ ih v4 X hX
theorem fr_mo_least (n : Nat) (v1 : Int32) (v2 : Int32) (X0 : St) : PO (fun r => fr wR_mo_least wF_mo_least X0 r.2) (mo_least n v1 v2 X0) := by
  have hX0 : fr wR_mo_least wF_mo_least X0 X0 := fr_rf
  unfold mo_least
  refine po_ite (fun hb1 => ?_) (fun _ => ?_)
  · exact po_some hX0
  refine po_ite (fun hb2 => ?_) (fun _ => ?_)
  · exact po_some hX0
  refine po_bnd (fun c1 => ?_)
  refine po_ite (fun hb3 => ?_) (fun _ => ?_)
  · exact po_some hX0
  refine po_cV hX0 (fr_mo_reads n v1 X0) (by decide) (by decide) (fun X2 hX2 => ?_)
  refine fr_mo_least_L38 n X0 n (1 : Int32) X2 hX2
def wR_mo_isNeverApart : List (Nat × Nat) := [(134, 134)]
def wF_mo_isNeverApart : List (Nat × Nat) := [(102, 51)]
theorem fr_mo_isNeverApart (n : Nat) (X0 : St) : PO (fun r => fr wR_mo_isNeverApart wF_mo_isNeverApart X0 r.2) (mo_isNeverApart n X0) := by
  have hX0 : fr wR_mo_isNeverApart wF_mo_isNeverApart X0 X0 := fr_rf
  unfold mo_isNeverApart
  refine po_cV hX0 (fr_mo_drifts n (0 : Int32) X0) (by decide) (by decide) (fun X1 hX1 => ?_)
  refine po_bnd (fun c2 => ?_)
  refine po_ite (fun hb1 => ?_) (fun _ => ?_)
  · exact po_some hX1
  exact po_some hX1
def wR_mo_picks : List (Nat × Nat) := [(133, 133), (134, 134), (136, 136)]
def wF_mo_picks : List (Nat × Nat) := [(102, 51)]
theorem fr_mo_picks_L34_B (C : Nat → Int32 → Int32 → Int32 → Int32 → Int32 → St → Option (Int32 × St)) (hC : ∀ (j : Nat) (x0 : Int32) (x1 : Int32) (x2 : Int32) (x3 : Int32) (x4 : Int32) (X : St), PO (fun r => fr wR_mo_picks wF_mo_picks X r.2) (C j x0 x1 x2 x3 x4 X)) (n : Nat) (X0 : St) (rec : Int32 → Int32 → Int32 → Int32 → Int32 → St → Option (Int32 × St)) (hrec : ∀ (x0 : Int32) (x1 : Int32) (x2 : Int32) (x3 : Int32) (x4 : Int32) X, fr wR_mo_picks wF_mo_picks X0 X → PO (fun r => fr wR_mo_picks wF_mo_picks X0 r.2) (rec x0 x1 x2 x3 x4 X)) (v1 : Int32) (v2 : Int32) (v4 : Int32) (v5 : Int32) (v6 : Int32) (X : St) (hX : fr wR_mo_picks wF_mo_picks X0 X) : PO (fun r => fr wR_mo_picks wF_mo_picks X0 r.2) (mo_picks_L34_B C n rec v1 v2 v4 v5 v6 X) := by
  unfold mo_picks_L34_B
  refine po_ite (fun hb1 => ?_) (fun _ => ?_)
  · refine po_ite (fun hb2 => ?_) (fun _ => po_none)
    refine po_ite (fun hb3 => ?_) (fun _ => ?_)
    · refine po_ite (fun hb4 => ?_) (fun _ => po_none)
      refine po_ite (fun hb5 => ?_) (fun _ => po_none)
      refine po_cI (fr_I (fr_I hX (wr_o (by decide))) (wr_o (by decide))) (hC 0 (v1 + (1 : Int32)) v2 (v6 + (1 : Int32)) v4 v5 (stI (stI X 133 (nx v6) v5) 136 (nx v1) v6)) (by decide) (by decide) (fun c5 X4 hX4 => ?_)
      refine po_ite (fun hb6 => ?_) (fun _ => po_none)
      refine po_ite (fun hb7 => ?_) (fun _ => ?_)
      · exact hrec v1 v2 v4 v5 (v6 + (1 : Int32)) (stI X4 133 (nx v6) v4) (fr_I hX4 (wr_o (by decide)))
      exact po_some (fr_I hX4 (wr_o (by decide)))
    exact hrec v1 v2 v4 v5 (v6 + (1 : Int32)) X hX
  exact po_some hX
theorem fr_mo_picks_L34 (C : Nat → Int32 → Int32 → Int32 → Int32 → Int32 → St → Option (Int32 × St)) (hC : ∀ (j : Nat) (x0 : Int32) (x1 : Int32) (x2 : Int32) (x3 : Int32) (x4 : Int32) (X : St), PO (fun r => fr wR_mo_picks wF_mo_picks X r.2) (C j x0 x1 x2 x3 x4 X)) (n : Nat) (X0 : St) : ∀ (w : Nat) (v1 : Int32) (v2 : Int32) (v4 : Int32) (v5 : Int32) (v6 : Int32) (X : St), fr wR_mo_picks wF_mo_picks X0 X → PO (fun r => fr wR_mo_picks wF_mo_picks X0 r.2) (mo_picks_L34 C n w v1 v2 v4 v5 v6 X) := by
  intro w
  induction w with
  | zero => intro v1 v2 v4 v5 v6 X _; exact po_none
  | succ w ih => intro v1 v2 v4 v5 v6 X hX; exact fr_mo_picks_L34_B C hC n X0 _ ih v1 v2 v4 v5 v6 X hX
theorem fr_mo_picks_G (C : Nat → Int32 → Int32 → Int32 → Int32 → Int32 → St → Option (Int32 × St)) (hC : ∀ (j : Nat) (x0 : Int32) (x1 : Int32) (x2 : Int32) (x3 : Int32) (x4 : Int32) (X : St), PO (fun r => fr wR_mo_picks wF_mo_picks X r.2) (C j x0 x1 x2 x3 x4 X)) (n : Nat) (v1 : Int32) (v2 : Int32) (v3 : Int32) (v4 : Int32) (v5 : Int32) (X0 : St) : PO (fun r => fr wR_mo_picks wF_mo_picks X0 r.2) (mo_picks_G C n v1 v2 v3 v4 v5 X0) := by
  have hX0 : fr wR_mo_picks wF_mo_picks X0 X0 := fr_rf
  unfold mo_picks_G
  refine po_ite (fun hb1 => ?_) (fun _ => ?_)
  · refine po_ite (fun hb2 => ?_) (fun _ => ?_)
    · refine po_bnd (fun c1 => ?_)
      refine po_ite (fun hb3 => ?_) (fun _ => ?_)
      · exact po_some hX0
      exact po_some hX0
    refine po_cI hX0 (fr_mo_isNeverApart n X0) (by decide) (by decide) (fun c3 X2 hX2 => ?_)
    refine po_ite (fun hb4 => ?_) (fun _ => po_none)
    exact po_some hX2
  refine fr_mo_picks_L34 C hC n X0 n v1 v2 v4 v5 v3 X0 hX0
theorem fr_mo_picks_grp (n : Nat) : ∀ (d j : Nat) (x0 : Int32) (x1 : Int32) (x2 : Int32) (x3 : Int32) (x4 : Int32) (X : St), PO (fun r => fr wR_mo_picks wF_mo_picks X r.2) (mo_picks_grp n d j x0 x1 x2 x3 x4 X) := by
  intro d
  induction d with
  | zero => intro j x0 x1 x2 x3 x4 X; exact po_none
  | succ d ih =>
    intro j x0 x1 x2 x3 x4 X
    show PO _ (mo_picks_G (mo_picks_grp n d) n x0 x1 x2 x3 x4 X)
    exact fr_mo_picks_G (mo_picks_grp n d) ih n x0 x1 x2 x3 x4 X
theorem fr_mo_picks (n : Nat) (v1 : Int32) (v2 : Int32) (v3 : Int32) (v4 : Int32) (v5 : Int32) (X : St) : PO (fun r => fr wR_mo_picks wF_mo_picks X r.2) (mo_picks n v1 v2 v3 v4 v5 X) := fr_mo_picks_grp n DEP 0 v1 v2 v3 v4 v5 X
def wR_mo_fewest : List (Nat × Nat) := [(133, 133), (134, 134), (136, 136)]
def wF_mo_fewest : List (Nat × Nat) := [(102, 44), (102, 51)]
theorem fr_mo_fewest_L50_B (n : Nat) (X0 : St) (k77 : Int32 → Int32 → St → Option (Int32 × St)) (hk77 : ∀ (x0 : Int32) (x1 : Int32) X, fr wR_mo_fewest wF_mo_fewest X0 X → PO (fun r => fr wR_mo_fewest wF_mo_fewest X0 r.2) (k77 x0 x1 X)) (rec : Int32 → Int32 → Int32 → Int32 → St → Option (Int32 × St)) (hrec : ∀ (x0 : Int32) (x1 : Int32) (x2 : Int32) (x3 : Int32) X, fr wR_mo_fewest wF_mo_fewest X0 X → PO (fun r => fr wR_mo_fewest wF_mo_fewest X0 r.2) (rec x0 x1 x2 x3 X)) (v2 : Int32) (v3 : Int32) (v4 : Int32) (v6 : Int32) (X : St) (hX : fr wR_mo_fewest wF_mo_fewest X0 X) : PO (fun r => fr wR_mo_fewest wF_mo_fewest X0 r.2) (mo_fewest_L50_B n k77 rec v2 v3 v4 v6 X) := by
  unfold mo_fewest_L50_B
  refine po_ite (fun hb1 => ?_) (fun _ => ?_)
  · refine po_cI hX (fr_mo_picks n (0 : Int32) v6 (0 : Int32) v3 v4 X) (by decide) (by decide) (fun c4 X3 hX3 => ?_)
    refine po_ite (fun hb2 => ?_) (fun _ => ?_)
    · exact hrec v2 v3 v4 (v6 + (1 : Int32)) X3 hX3
    exact hk77 v2 v6 X3 hX3
  exact hk77 v2 v6 X hX
theorem fr_mo_fewest_L50 (n : Nat) (X0 : St) (k77 : Int32 → Int32 → St → Option (Int32 × St)) (hk77 : ∀ (x0 : Int32) (x1 : Int32) X, fr wR_mo_fewest wF_mo_fewest X0 X → PO (fun r => fr wR_mo_fewest wF_mo_fewest X0 r.2) (k77 x0 x1 X)) : ∀ (w : Nat) (v2 : Int32) (v3 : Int32) (v4 : Int32) (v6 : Int32) (X : St), fr wR_mo_fewest wF_mo_fewest X0 X → PO (fun r => fr wR_mo_fewest wF_mo_fewest X0 r.2) (mo_fewest_L50 n k77 w v2 v3 v4 v6 X) := by
  intro w
  induction w with
  | zero => intro v2 v3 v4 v6 X _; exact po_none
  | succ w ih => intro v2 v3 v4 v6 X hX; exact fr_mo_fewest_L50_B n X0 k77 hk77 _ ih v2 v3 v4 v6 X hX
theorem fr_mo_fewest_J77 (n : Nat) (X0 : St) (v2 : Int32) (v6 : Int32) (X : St) (hX : fr wR_mo_fewest wF_mo_fewest X0 X) : PO (fun r => fr wR_mo_fewest wF_mo_fewest X0 r.2) (mo_fewest_J77 n v2 v6 X) := by
  unfold mo_fewest_J77
  refine po_ite (fun hb1 => ?_) (fun _ => ?_)
  · exact po_some hX
  refine po_ite (fun hb2 => ?_) (fun _ => ?_)
  · exact po_some hX
  refine po_ite (fun hb3 => ?_) (fun _ => ?_)
  · refine po_ite (fun hb4 => ?_) (fun _ => po_none)
    exact po_some hX
  exact po_some hX
theorem fr_mo_fewest (n : Nat) (v1 : Int32) (v2 : Int32) (v3 : Int32) (v4 : Int32) (X0 : St) : PO (fun r => fr wR_mo_fewest wF_mo_fewest X0 r.2) (mo_fewest n v1 v2 v3 v4 X0) := by
  have hX0 : fr wR_mo_fewest wF_mo_fewest X0 X0 := fr_rf
  unfold mo_fewest
  refine po_ite (fun hb1 => ?_) (fun _ => ?_)
  · exact po_some hX0
  refine po_ite (fun hb2 => ?_) (fun _ => ?_)
  · exact po_some hX0
  refine po_bnd (fun c1 => ?_)
  refine po_ite (fun hb3 => ?_) (fun _ => ?_)
  · exact po_some hX0
  refine po_cV hX0 (fr_mo_reads n v1 X0) (by decide) (by decide) (fun X2 hX2 => ?_)
  refine po_ite (fun hb4 => ?_) (fun _ => ?_)
  · exact po_some hX2
  refine fr_mo_fewest_L50 n X0 _ (fun v6 v7 X5 hX5 => ?_) n v2 v3 v4 (0 : Int32) X2 hX2
  refine fr_mo_fewest_J77 n X0 v6 v7 X5 hX5
def wR_mo_gasps : List (Nat × Nat) := [(133, 133), (134, 134), (136, 136)]
def wF_mo_gasps : List (Nat × Nat) := [(102, 44), (102, 51)]
theorem fr_mo_gasps (n : Nat) (v1 : Int32) (v2 : Int32) (X0 : St) : PO (fun r => fr wR_mo_gasps wF_mo_gasps X0 r.2) (mo_gasps n v1 v2 X0) := by
  have hX0 : fr wR_mo_gasps wF_mo_gasps X0 X0 := fr_rf
  unfold mo_gasps
  refine po_cI hX0 (fr_mo_fewest n v1 v2 (1 : Int32) (0 : Int32) X0) (by decide) (by decide) (fun c2 X1 hX1 => ?_)
  exact po_some hX1
def wR_mo_looks : List (Nat × Nat) := [(133, 133), (134, 134), (136, 136)]
def wF_mo_looks : List (Nat × Nat) := [(102, 44), (102, 51)]
theorem fr_mo_looks (n : Nat) (v1 : Int32) (v2 : Int32) (X0 : St) : PO (fun r => fr wR_mo_looks wF_mo_looks X0 r.2) (mo_looks n v1 v2 X0) := by
  have hX0 : fr wR_mo_looks wF_mo_looks X0 X0 := fr_rf
  unfold mo_looks
  refine po_cI hX0 (fr_mo_fewest n v1 v2 (0 : Int32) (4 : Int32) X0) (by decide) (by decide) (fun c2 X1 hX1 => ?_)
  exact po_some hX1
def wR_mo_whose : List (Nat × Nat) := [(109, 109), (121, 121), (122, 122), (133, 133), (134, 134), (135, 135)]
def wF_mo_whose : List (Nat × Nat) := [(102, 44), (102, 51)]
theorem fr_mo_whose_L55_B (n : Nat) (X0 : St) (k109 : Int32 → Int32 → Int32 → Int32 → St → Option (Int32 × St)) (hk109 : ∀ (x0 : Int32) (x1 : Int32) (x2 : Int32) (x3 : Int32) X, fr wR_mo_whose wF_mo_whose X0 X → PO (fun r => fr wR_mo_whose wF_mo_whose X0 r.2) (k109 x0 x1 x2 x3 X)) (rec : Int32 → Int32 → Int32 → Int32 → Int32 → St → Option (Int32 × St)) (hrec : ∀ (x0 : Int32) (x1 : Int32) (x2 : Int32) (x3 : Int32) (x4 : Int32) X, fr wR_mo_whose wF_mo_whose X0 X → PO (fun r => fr wR_mo_whose wF_mo_whose X0 r.2) (rec x0 x1 x2 x3 x4 X)) (v2 : Int32) (v4 : Int32) (v5 : Int32) (v6 : Int32) (v7 : Int32) (X : St) (hX : fr wR_mo_whose wF_mo_whose X0 X) : PO (fun r => fr wR_mo_whose wF_mo_whose X0 r.2) (mo_whose_L55_B n k109 rec v2 v4 v5 v6 v7 X) := by
  unfold mo_whose_L55_B
  refine po_ite (fun hb1 => ?_) (fun _ => ?_)
  · refine po_cI (fr_I hX (wr_o (by decide))) (fr_mo_marksNow n (stI X 109 (nx (0 : Int32)) v7)) (by decide) (by decide) (fun c4 X3 hX3 => ?_)
    refine po_ite (fun hb2 => ?_) (fun _ => ?_)
    · exact hrec v2 v4 v7 c4 (v7 + (1 : Int32)) X3 hX3
    refine po_ite (fun hb3 => ?_) (fun _ => ?_)
    · exact hrec v2 v4 v7 c4 (v7 + (1 : Int32)) X3 hX3
    exact hrec v2 v4 v5 v6 (v7 + (1 : Int32)) X3 hX3
  exact hk109 v2 v4 v5 v6 X hX
theorem fr_mo_whose_L55 (n : Nat) (X0 : St) (k109 : Int32 → Int32 → Int32 → Int32 → St → Option (Int32 × St)) (hk109 : ∀ (x0 : Int32) (x1 : Int32) (x2 : Int32) (x3 : Int32) X, fr wR_mo_whose wF_mo_whose X0 X → PO (fun r => fr wR_mo_whose wF_mo_whose X0 r.2) (k109 x0 x1 x2 x3 X)) : ∀ (w : Nat) (v2 : Int32) (v4 : Int32) (v5 : Int32) (v6 : Int32) (v7 : Int32) (X : St), fr wR_mo_whose wF_mo_whose X0 X → PO (fun r => fr wR_mo_whose wF_mo_whose X0 r.2) (mo_whose_L55 n k109 w v2 v4 v5 v6 v7 X) := by
  intro w
  induction w with
  | zero => intro v2 v4 v5 v6 v7 X _; exact po_none
  | succ w ih => intro v2 v4 v5 v6 v7 X hX; exact fr_mo_whose_L55_B n X0 k109 hk109 _ ih v2 v4 v5 v6 v7 X hX
theorem fr_mo_whose (n : Nat) (v1 : Int32) (v2 : Int32) (X0 : St) : PO (fun r => fr wR_mo_whose wF_mo_whose X0 r.2) (mo_whose n v1 v2 X0) := by
  have hX0 : fr wR_mo_whose wF_mo_whose X0 X0 := fr_rf
  unfold mo_whose
  refine po_ite (fun hb1 => ?_) (fun _ => ?_)
  · exact po_some hX0
  refine po_ite (fun hb2 => ?_) (fun _ => ?_)
  · exact po_some hX0
  refine po_bnd (fun c1 => ?_)
  refine po_ite (fun hb3 => ?_) (fun _ => ?_)
  · exact po_some hX0
  refine po_cV hX0 (fr_mo_reads n v1 X0) (by decide) (by decide) (fun X2 hX2 => ?_)
  refine fr_mo_whose_L55 n X0 _ (fun v6 v7 v8 v9 X5 hX5 => ?_) n v2 (X2.1 109 (nx (0 : Int32))) (-2 : Int32) (-2 : Int32) (0 : Int32) X2 hX2
  refine po_ite (fun hb4 => ?_) (fun _ => ?_)
  · exact po_some (fr_I hX5 (wr_o (by decide)))
  exact po_some (fr_I hX5 (wr_o (by decide)))
def wR_mo_first : List (Nat × Nat) := [(107, 107), (121, 121), (122, 122), (133, 133), (134, 134), (135, 135)]
def wF_mo_first : List (Nat × Nat) := [(102, 44), (102, 51)]
theorem fr_mo_first_L47_B (n : Nat) (X0 : St) (rec : Int32 → Int32 → Int32 → Int32 → St → Option (Int32 × St)) (hrec : ∀ (x0 : Int32) (x1 : Int32) (x2 : Int32) (x3 : Int32) X, fr wR_mo_first wF_mo_first X0 X → PO (fun r => fr wR_mo_first wF_mo_first X0 r.2) (rec x0 x1 x2 x3 X)) (v2 : Int32) (v4 : Int32) (v5 : Int32) (v6 : Int32) (X : St) (hX : fr wR_mo_first wF_mo_first X0 X) : PO (fun r => fr wR_mo_first wF_mo_first X0 r.2) (mo_first_L47_B n rec v2 v4 v5 v6 X) := by
  unfold mo_first_L47_B
  refine po_ite (fun hb1 => ?_) (fun _ => ?_)
  · refine po_ite (fun hb2 => ?_) (fun _ => po_none)
    refine po_ite (fun hb3 => ?_) (fun _ => po_none)
    refine po_cI (fr_I hX (wr_o (by decide))) (fr_mo_marksNow n (stI X 107 (nx v6) (0 : Int32))) (by decide) (by decide) (fun c4 X3 hX3 => ?_)
    refine po_ite (fun hb4 => ?_) (fun _ => po_none)
    refine po_ite (fun hb5 => ?_) (fun _ => ?_)
    · exact hrec v2 v6 c4 (v6 + (1 : Int32)) (stI X3 107 (nx v6) (X.1 107 (nx v6))) (fr_I hX3 (wr_o (by decide)))
    refine po_ite (fun hb6 => ?_) (fun _ => ?_)
    · exact hrec v2 v6 c4 (v6 + (1 : Int32)) (stI X3 107 (nx v6) (X.1 107 (nx v6))) (fr_I hX3 (wr_o (by decide)))
    exact hrec v2 v4 v5 (v6 + (1 : Int32)) (stI X3 107 (nx v6) (X.1 107 (nx v6))) (fr_I hX3 (wr_o (by decide)))
  refine po_ite (fun hb7 => ?_) (fun _ => ?_)
  · exact po_some hX
  exact po_some hX
theorem fr_mo_first_L47 (n : Nat) (X0 : St) : ∀ (w : Nat) (v2 : Int32) (v4 : Int32) (v5 : Int32) (v6 : Int32) (X : St), fr wR_mo_first wF_mo_first X0 X → PO (fun r => fr wR_mo_first wF_mo_first X0 r.2) (mo_first_L47 n w v2 v4 v5 v6 X) := by
  intro w
  induction w with
  | zero => intro v2 v4 v5 v6 X _; exact po_none
  | succ w ih => intro v2 v4 v5 v6 X hX; exact fr_mo_first_L47_B n X0 _ ih v2 v4 v5 v6 X hX
theorem fr_mo_first (n : Nat) (v1 : Int32) (v2 : Int32) (X0 : St) : PO (fun r => fr wR_mo_first wF_mo_first X0 r.2) (mo_first n v1 v2 X0) := by
  have hX0 : fr wR_mo_first wF_mo_first X0 X0 := fr_rf
  unfold mo_first
  refine po_ite (fun hb1 => ?_) (fun _ => ?_)
  · exact po_some hX0
  refine po_ite (fun hb2 => ?_) (fun _ => ?_)
  · exact po_some hX0
  refine po_bnd (fun c1 => ?_)
  refine po_ite (fun hb3 => ?_) (fun _ => ?_)
  · exact po_some hX0
  refine po_cV hX0 (fr_mo_reads n v1 X0) (by decide) (by decide) (fun X2 hX2 => ?_)
  refine fr_mo_first_L47 n X0 n v2 (-2 : Int32) (-2 : Int32) (0 : Int32) X2 hX2
def wR_mo_slip : List (Nat × Nat) := [(121, 121), (122, 122), (133, 133), (134, 134), (135, 135)]
def wF_mo_slip : List (Nat × Nat) := [(102, 44), (102, 48), (102, 49), (102, 50), (102, 51)]
theorem fr_mo_slip (n : Nat) (v1 : Int32) (v2 : Int32) (v3 : Int32) (X0 : St) : PO (fun r => fr wR_mo_slip wF_mo_slip X0 r.2) (mo_slip n v1 v2 v3 X0) := by
  have hX0 : fr wR_mo_slip wF_mo_slip X0 X0 := fr_rf
  unfold mo_slip
  refine po_ite (fun hb1 => ?_) (fun _ => ?_)
  · exact po_some hX0
  refine po_ite (fun hb2 => ?_) (fun _ => ?_)
  · exact po_some hX0
  refine po_ite (fun hb3 => ?_) (fun _ => ?_)
  · exact po_some hX0
  refine po_ite (fun hb4 => ?_) (fun _ => ?_)
  · exact po_some hX0
  refine po_ite (fun hb5 => ?_) (fun _ => ?_)
  · exact po_some hX0
  refine po_bnd (fun c1 => ?_)
  refine po_ite (fun hb6 => ?_) (fun _ => ?_)
  · exact po_some hX0
  refine po_cV hX0 (fr_mo_reads n v1 X0) (by decide) (by decide) (fun X2 hX2 => ?_)
  refine po_nmX (fr_I (fr_I hX2 (wr_f (by decide))) (wr_f (by decide))) (fun X3 hX3 => ?_)
  refine po_cI (fr_I hX3 (wr_f (by decide))) (fr_mo_marksNow n (stI X3 102 50 v3)) (by decide) (by decide) (fun c5 X4 hX4 => ?_)
  exact po_some (fr_I hX4 (wr_f (by decide)))
def wR_mo_exchange : List (Nat × Nat) := [(137, 137)]
def wF_mo_exchange : List (Nat × Nat) := []
theorem fr_mo_exchange (v1 : Int32) (v2 : Int32) (X0 : St) : PO (fun r => fr wR_mo_exchange wF_mo_exchange X0 r) (mo_exchange v1 v2 X0) := by
  have hX0 : fr wR_mo_exchange wF_mo_exchange X0 X0 := fr_rf
  unfold mo_exchange
  refine po_ite (fun hb1 => ?_) (fun _ => po_none)
  refine po_ite (fun hb2 => ?_) (fun _ => po_none)
  refine po_ite (fun hb3 => ?_) (fun _ => po_none)
  refine po_ite (fun hb4 => ?_) (fun _ => po_none)
  refine po_nmX (fr_I (fr_I hX0 (wr_o (by decide))) (wr_o (by decide))) (fun X1 hX1 => ?_)
  exact po_some hX1
def wR_mo_nextOrder : List (Nat × Nat) := [(137, 137)]
def wF_mo_nextOrder : List (Nat × Nat) := []
theorem fr_mo_nextOrder_L7_B (n : Nat) (X0 : St) (k34 : Int32 → St → Option (Int32 × St)) (hk34 : ∀ (x0 : Int32) X, fr wR_mo_nextOrder wF_mo_nextOrder X0 X → PO (fun r => fr wR_mo_nextOrder wF_mo_nextOrder X0 r.2) (k34 x0 X)) (rec : Int32 → St → Option (Int32 × St)) (hrec : ∀ (x0 : Int32) X, fr wR_mo_nextOrder wF_mo_nextOrder X0 X → PO (fun r => fr wR_mo_nextOrder wF_mo_nextOrder X0 r.2) (rec x0 X)) (v1 : Int32) (X : St) (hX : fr wR_mo_nextOrder wF_mo_nextOrder X0 X) : PO (fun r => fr wR_mo_nextOrder wF_mo_nextOrder X0 r.2) (mo_nextOrder_L7_B n k34 rec v1 X) := by
  unfold mo_nextOrder_L7_B
  refine po_ite (fun hb1 => ?_) (fun _ => ?_)
  · exact hk34 v1 X hX
  refine po_ite (fun hb2 => ?_) (fun _ => po_none)
  refine po_ite (fun hb3 => ?_) (fun _ => po_none)
  refine po_ite (fun hb4 => ?_) (fun _ => ?_)
  · exact hrec (v1 + (-1 : Int32)) X hX
  exact hk34 v1 X hX
theorem fr_mo_nextOrder_L7 (n : Nat) (X0 : St) (k34 : Int32 → St → Option (Int32 × St)) (hk34 : ∀ (x0 : Int32) X, fr wR_mo_nextOrder wF_mo_nextOrder X0 X → PO (fun r => fr wR_mo_nextOrder wF_mo_nextOrder X0 r.2) (k34 x0 X)) : ∀ (w : Nat) (v1 : Int32) (X : St), fr wR_mo_nextOrder wF_mo_nextOrder X0 X → PO (fun r => fr wR_mo_nextOrder wF_mo_nextOrder X0 r.2) (mo_nextOrder_L7 n k34 w v1 X) := by
  intro w
  induction w with
  | zero => intro v1 X _; exact po_none
  | succ w ih => intro v1 X hX; exact fr_mo_nextOrder_L7_B n X0 k34 hk34 _ ih v1 X hX
theorem fr_mo_nextOrder_L47_B (n : Nat) (X0 : St) (k68 : Int32 → Int32 → St → Option (Int32 × St)) (hk68 : ∀ (x0 : Int32) (x1 : Int32) X, fr wR_mo_nextOrder wF_mo_nextOrder X0 X → PO (fun r => fr wR_mo_nextOrder wF_mo_nextOrder X0 r.2) (k68 x0 x1 X)) (rec : Int32 → Int32 → St → Option (Int32 × St)) (hrec : ∀ (x0 : Int32) (x1 : Int32) X, fr wR_mo_nextOrder wF_mo_nextOrder X0 X → PO (fun r => fr wR_mo_nextOrder wF_mo_nextOrder X0 r.2) (rec x0 x1 X)) (v1 : Int32) (v2 : Int32) (X : St) (hX : fr wR_mo_nextOrder wF_mo_nextOrder X0 X) : PO (fun r => fr wR_mo_nextOrder wF_mo_nextOrder X0 r.2) (mo_nextOrder_L47_B n k68 rec v1 v2 X) := by
  unfold mo_nextOrder_L47_B
  refine po_ite (fun hb1 => ?_) (fun _ => po_none)
  refine po_ite (fun hb2 => ?_) (fun _ => po_none)
  refine po_ite (fun hb3 => ?_) (fun _ => ?_)
  · exact hrec v1 (v2 + (-1 : Int32)) X hX
  exact hk68 v1 v2 X hX
theorem fr_mo_nextOrder_L47 (n : Nat) (X0 : St) (k68 : Int32 → Int32 → St → Option (Int32 × St)) (hk68 : ∀ (x0 : Int32) (x1 : Int32) X, fr wR_mo_nextOrder wF_mo_nextOrder X0 X → PO (fun r => fr wR_mo_nextOrder wF_mo_nextOrder X0 r.2) (k68 x0 x1 X)) : ∀ (w : Nat) (v1 : Int32) (v2 : Int32) (X : St), fr wR_mo_nextOrder wF_mo_nextOrder X0 X → PO (fun r => fr wR_mo_nextOrder wF_mo_nextOrder X0 r.2) (mo_nextOrder_L47 n k68 w v1 v2 X) := by
  intro w
  induction w with
  | zero => intro v1 v2 X _; exact po_none
  | succ w ih => intro v1 v2 X hX; exact fr_mo_nextOrder_L47_B n X0 k68 hk68 _ ih v1 v2 X hX
theorem fr_mo_nextOrder_L86_B (n : Nat) (X0 : St) (rec : Int32 → Int32 → St → Option (Int32 × St)) (hrec : ∀ (x0 : Int32) (x1 : Int32) X, fr wR_mo_nextOrder wF_mo_nextOrder X0 X → PO (fun r => fr wR_mo_nextOrder wF_mo_nextOrder X0 r.2) (rec x0 x1 X)) (v3 : Int32) (v4 : Int32) (X : St) (hX : fr wR_mo_nextOrder wF_mo_nextOrder X0 X) : PO (fun r => fr wR_mo_nextOrder wF_mo_nextOrder X0 r.2) (mo_nextOrder_L86_B n rec v3 v4 X) := by
  unfold mo_nextOrder_L86_B
  refine po_ite (fun hb1 => ?_) (fun _ => ?_)
  · refine po_cV hX (fr_mo_exchange v3 v4 X) (by decide) (by decide) (fun X7 hX7 => ?_)
    exact hrec (v3 + (1 : Int32)) (v4 + (-1 : Int32)) X7 hX7
  exact po_some hX
theorem fr_mo_nextOrder_L86 (n : Nat) (X0 : St) : ∀ (w : Nat) (v3 : Int32) (v4 : Int32) (X : St), fr wR_mo_nextOrder wF_mo_nextOrder X0 X → PO (fun r => fr wR_mo_nextOrder wF_mo_nextOrder X0 r.2) (mo_nextOrder_L86 n w v3 v4 X) := by
  intro w
  induction w with
  | zero => intro v3 v4 X _; exact po_none
  | succ w ih => intro v3 v4 X hX; exact fr_mo_nextOrder_L86_B n X0 _ ih v3 v4 X hX
theorem fr_mo_nextOrder_J34 (n : Nat) (X0 : St) (v1 : Int32) (X : St) (hX : fr wR_mo_nextOrder wF_mo_nextOrder X0 X) : PO (fun r => fr wR_mo_nextOrder wF_mo_nextOrder X0 r.2) (mo_nextOrder_J34 n v1 X) := by
  unfold mo_nextOrder_J34
  refine po_ite (fun hb1 => ?_) (fun _ => ?_)
  · exact po_some hX
  refine fr_mo_nextOrder_L47 n X0 _ (fun v4 v5 X3 hX3 => ?_) n v1 ((X.1 102 0) - (1 : Int32)) X hX
  refine po_cV hX3 (fr_mo_exchange v4 v5 X3) (by decide) (by decide) (fun X6 hX6 => ?_)
  refine fr_mo_nextOrder_L86 n X0 n (v4 + (1 : Int32)) ((X6.1 102 0) - (1 : Int32)) X6 hX6
theorem fr_mo_nextOrder (n : Nat) (X0 : St) : PO (fun r => fr wR_mo_nextOrder wF_mo_nextOrder X0 r.2) (mo_nextOrder n X0) := by
  have hX0 : fr wR_mo_nextOrder wF_mo_nextOrder X0 X0 := fr_rf
  unfold mo_nextOrder
  refine fr_mo_nextOrder_L7 n X0 _ (fun v2 X1 hX1 => ?_) n ((X0.1 102 0) - (2 : Int32)) X0 hX0
  refine fr_mo_nextOrder_J34 n X0 v2 X1 hX1
def wR_mo_line : List (Nat × Nat) := [(137, 137), (138, 138)]
def wF_mo_line : List (Nat × Nat) := []
theorem fr_mo_line_L42_B (n : Nat) (X0 : St) (k61 : Int32 → Int32 → St → Option (Int32 × St)) (hk61 : ∀ (x0 : Int32) (x1 : Int32) X, fr wR_mo_line wF_mo_line X0 X → PO (fun r => fr wR_mo_line wF_mo_line X0 r.2) (k61 x0 x1 X)) (rec : Int32 → Int32 → Int32 → St → Option (Int32 × St)) (hrec : ∀ (x0 : Int32) (x1 : Int32) (x2 : Int32) X, fr wR_mo_line wF_mo_line X0 X → PO (fun r => fr wR_mo_line wF_mo_line X0 r.2) (rec x0 x1 x2 X)) (v1 : Int32) (v2 : Int32) (v3 : Int32) (X : St) (hX : fr wR_mo_line wF_mo_line X0 X) : PO (fun r => fr wR_mo_line wF_mo_line X0 r.2) (mo_line_L42_B n k61 rec v1 v2 v3 X) := by
  unfold mo_line_L42_B
  refine po_ite (fun hb1 => ?_) (fun _ => ?_)
  · refine po_ite (fun hb2 => ?_) (fun _ => po_none)
    exact hrec v1 v2 (v3 + (1 : Int32)) (stI X 137 (nx v3) v3) (fr_I hX (wr_o (by decide)))
  exact hk61 v1 v2 X hX
theorem fr_mo_line_L42 (n : Nat) (X0 : St) (k61 : Int32 → Int32 → St → Option (Int32 × St)) (hk61 : ∀ (x0 : Int32) (x1 : Int32) X, fr wR_mo_line wF_mo_line X0 X → PO (fun r => fr wR_mo_line wF_mo_line X0 r.2) (k61 x0 x1 X)) : ∀ (w : Nat) (v1 : Int32) (v2 : Int32) (v3 : Int32) (X : St), fr wR_mo_line wF_mo_line X0 X → PO (fun r => fr wR_mo_line wF_mo_line X0 r.2) (mo_line_L42 n k61 w v1 v2 v3 X) := by
  intro w
  induction w with
  | zero => intro v1 v2 v3 X _; exact po_none
  | succ w ih => intro v1 v2 v3 X hX; exact fr_mo_line_L42_B n X0 k61 hk61 _ ih v1 v2 v3 X hX
theorem fr_mo_line_L94_B (n : Nat) (X0 : St) (k121 : Int32 → Int32 → Int32 → St → Option (Int32 × St)) (hk121 : ∀ (x0 : Int32) (x1 : Int32) (x2 : Int32) X, fr wR_mo_line wF_mo_line X0 X → PO (fun r => fr wR_mo_line wF_mo_line X0 r.2) (k121 x0 x1 x2 X)) (rec : Int32 → Int32 → Int32 → Int32 → St → Option (Int32 × St)) (hrec : ∀ (x0 : Int32) (x1 : Int32) (x2 : Int32) (x3 : Int32) X, fr wR_mo_line wF_mo_line X0 X → PO (fun r => fr wR_mo_line wF_mo_line X0 r.2) (rec x0 x1 x2 x3 X)) (v1 : Int32) (v2 : Int32) (v3 : Int32) (v6 : Int32) (X : St) (hX : fr wR_mo_line wF_mo_line X0 X) : PO (fun r => fr wR_mo_line wF_mo_line X0 r.2) (mo_line_L94_B n k121 rec v1 v2 v3 v6 X) := by
  unfold mo_line_L94_B
  refine po_ite (fun hb1 => ?_) (fun _ => ?_)
  · refine po_ite (fun hb2 => ?_) (fun _ => po_none)
    refine po_ite (fun hb3 => ?_) (fun _ => po_none)
    exact hrec v1 v2 v3 (v6 + (1 : Int32)) (stI X 138 (nx v6) (X.1 137 (nx v6))) (fr_I hX (wr_o (by decide)))
  exact hk121 v1 v2 v3 X hX
theorem fr_mo_line_L94 (n : Nat) (X0 : St) (k121 : Int32 → Int32 → Int32 → St → Option (Int32 × St)) (hk121 : ∀ (x0 : Int32) (x1 : Int32) (x2 : Int32) X, fr wR_mo_line wF_mo_line X0 X → PO (fun r => fr wR_mo_line wF_mo_line X0 r.2) (k121 x0 x1 x2 X)) : ∀ (w : Nat) (v1 : Int32) (v2 : Int32) (v3 : Int32) (v6 : Int32) (X : St), fr wR_mo_line wF_mo_line X0 X → PO (fun r => fr wR_mo_line wF_mo_line X0 r.2) (mo_line_L94 n k121 w v1 v2 v3 v6 X) := by
  intro w
  induction w with
  | zero => intro v1 v2 v3 v6 X _; exact po_none
  | succ w ih => intro v1 v2 v3 v6 X hX; exact fr_mo_line_L94_B n X0 k121 hk121 _ ih v1 v2 v3 v6 X hX
theorem fr_mo_line_L66_B (n : Nat) (X0 : St) (k130 : Int32 → Int32 → St → Option (Int32 × St)) (hk130 : ∀ (x0 : Int32) (x1 : Int32) X, fr wR_mo_line wF_mo_line X0 X → PO (fun r => fr wR_mo_line wF_mo_line X0 r.2) (k130 x0 x1 X)) (rec : Int32 → Int32 → Int32 → Int32 → St → Option (Int32 × St)) (hrec : ∀ (x0 : Int32) (x1 : Int32) (x2 : Int32) (x3 : Int32) X, fr wR_mo_line wF_mo_line X0 X → PO (fun r => fr wR_mo_line wF_mo_line X0 r.2) (rec x0 x1 x2 x3 X)) (v1 : Int32) (v2 : Int32) (v3 : Int32) (v4 : Int32) (X : St) (hX : fr wR_mo_line wF_mo_line X0 X) : PO (fun r => fr wR_mo_line wF_mo_line X0 r.2) (mo_line_L66_B n k130 rec v1 v2 v3 v4 X) := by
  unfold mo_line_L66_B
  refine po_ite (fun hb1 => ?_) (fun _ => ?_)
  · exact hk130 v2 v3 X hX
  refine po_bnd (fun c4 => ?_)
  refine po_ite (fun hb2 => ?_) (fun _ => ?_)
  · refine fr_mo_line_L94 n X0 _ (fun v6 v7 v8 X5 hX5 => ?_) n v1 v2 c4 (0 : Int32) X hX
    refine po_cI hX5 (fr_mo_nextOrder n X5) (by decide) (by decide) (fun c10 X9 hX9 => ?_)
    exact hrec v6 v7 v8 c10 X9 hX9
  refine po_ite (fun hb3 => ?_) (fun _ => ?_)
  · refine fr_mo_line_L94 n X0 _ (fun v12 v13 v14 X11 hX11 => ?_) n v1 v2 c4 (0 : Int32) X hX
    refine po_cI hX11 (fr_mo_nextOrder n X11) (by decide) (by decide) (fun c16 X15 hX15 => ?_)
    exact hrec v12 v13 v14 c16 X15 hX15
  refine po_cI hX (fr_mo_nextOrder n X) (by decide) (by decide) (fun c18 X17 hX17 => ?_)
  exact hrec v1 v2 v3 c18 X17 hX17
theorem fr_mo_line_L66 (n : Nat) (X0 : St) (k130 : Int32 → Int32 → St → Option (Int32 × St)) (hk130 : ∀ (x0 : Int32) (x1 : Int32) X, fr wR_mo_line wF_mo_line X0 X → PO (fun r => fr wR_mo_line wF_mo_line X0 r.2) (k130 x0 x1 X)) : ∀ (w : Nat) (v1 : Int32) (v2 : Int32) (v3 : Int32) (v4 : Int32) (X : St), fr wR_mo_line wF_mo_line X0 X → PO (fun r => fr wR_mo_line wF_mo_line X0 r.2) (mo_line_L66 n k130 w v1 v2 v3 v4 X) := by
  intro w
  induction w with
  | zero => intro v1 v2 v3 v4 X _; exact po_none
  | succ w ih => intro v1 v2 v3 v4 X hX; exact fr_mo_line_L66_B n X0 k130 hk130 _ ih v1 v2 v3 v4 X hX
theorem fr_mo_line (n : Nat) (v1 : Int32) (v2 : Int32) (X0 : St) : PO (fun r => fr wR_mo_line wF_mo_line X0 r.2) (mo_line n v1 v2 X0) := by
  have hX0 : fr wR_mo_line wF_mo_line X0 X0 := fr_rf
  unfold mo_line
  refine po_ite (fun hb1 => ?_) (fun _ => ?_)
  · exact po_some hX0
  refine po_ite (fun hb2 => ?_) (fun _ => ?_)
  · exact po_some hX0
  refine po_ite (fun hb3 => ?_) (fun _ => ?_)
  · exact po_some hX0
  refine po_ite (fun hb4 => ?_) (fun _ => ?_)
  · refine fr_mo_line_L42 n X0 _ (fun v2 v3 X1 hX1 => ?_) n v1 v2 (0 : Int32) X0 hX0
    refine fr_mo_line_L66 n X0 _ (fun v20 v21 X19 hX19 => ?_) n v2 v3 (-1 : Int32) (1 : Int32) X1 hX1
    refine po_ite (fun hb5 => ?_) (fun _ => ?_)
    · exact po_some hX19
    refine po_ite (fun hb6 => ?_) (fun _ => po_none)
    exact po_some hX19
  exact po_some hX0
def wR_mo_wrong : List (Nat × Nat) := [(134, 134)]
def wF_mo_wrong : List (Nat × Nat) := [(102, 51)]
theorem fr_mo_wrong_L7_B (n : Nat) (X0 : St) (rec : Int32 → Int32 → St → Option (Int32 × St)) (hrec : ∀ (x0 : Int32) (x1 : Int32) X, fr wR_mo_wrong wF_mo_wrong X0 X → PO (fun r => fr wR_mo_wrong wF_mo_wrong X0 r.2) (rec x0 x1 X)) (v1 : Int32) (v2 : Int32) (X : St) (hX : fr wR_mo_wrong wF_mo_wrong X0 X) : PO (fun r => fr wR_mo_wrong wF_mo_wrong X0 r.2) (mo_wrong_L7_B n rec v1 v2 X) := by
  unfold mo_wrong_L7_B
  refine po_ite (fun hb1 => ?_) (fun _ => ?_)
  · refine po_ite (fun hb2 => ?_) (fun _ => po_none)
    refine po_ite (fun hb3 => ?_) (fun _ => ?_)
    · refine po_ite (fun hb4 => ?_) (fun _ => po_none)
      refine po_bnd (fun c2 => ?_)
      refine po_ite (fun hb5 => ?_) (fun _ => ?_)
      · exact hrec v1 (v2 + (1 : Int32)) X hX
      exact po_some hX
    exact po_some hX
  exact po_some hX
theorem fr_mo_wrong_L7 (n : Nat) (X0 : St) : ∀ (w : Nat) (v1 : Int32) (v2 : Int32) (X : St), fr wR_mo_wrong wF_mo_wrong X0 X → PO (fun r => fr wR_mo_wrong wF_mo_wrong X0 r.2) (mo_wrong_L7 n w v1 v2 X) := by
  intro w
  induction w with
  | zero => intro v1 v2 X _; exact po_none
  | succ w ih => intro v1 v2 X hX; exact fr_mo_wrong_L7_B n X0 _ ih v1 v2 X hX
theorem fr_mo_wrong (n : Nat) (v1 : Int32) (X0 : St) : PO (fun r => fr wR_mo_wrong wF_mo_wrong X0 r.2) (mo_wrong n v1 X0) := by
  have hX0 : fr wR_mo_wrong wF_mo_wrong X0 X0 := fr_rf
  unfold mo_wrong
  refine po_cV hX0 (fr_mo_drifts n (0 : Int32) X0) (by decide) (by decide) (fun X1 hX1 => ?_)
  refine fr_mo_wrong_L7 n X0 n v1 (0 : Int32) X1 hX1
def wR_mo_judge : List (Nat × Nat) := [(133, 133), (134, 134)]
def wF_mo_judge : List (Nat × Nat) := [(102, 44), (102, 51)]
theorem fr_mo_judge (n : Nat) (v1 : Int32) (X0 : St) : PO (fun r => fr wR_mo_judge wF_mo_judge X0 r.2) (mo_judge n v1 X0) := by
  have hX0 : fr wR_mo_judge wF_mo_judge X0 X0 := fr_rf
  unfold mo_judge
  refine po_ite (fun hb1 => ?_) (fun _ => ?_)
  · exact po_some hX0
  refine po_bnd (fun c1 => ?_)
  refine po_ite (fun hb2 => ?_) (fun _ => ?_)
  · exact po_some hX0
  refine po_cV hX0 (fr_mo_reads n (v1 / (10 : Int32)) X0) (by decide) (by decide) (fun X2 hX2 => ?_)
  refine po_cI hX2 (fr_mo_wrong n v1 X2) (by decide) (by decide) (fun c4 X3 hX3 => ?_)
  exact po_some hX3
def wR_mo_whoLed : List (Nat × Nat) := [(109, 109), (133, 133), (134, 134)]
def wF_mo_whoLed : List (Nat × Nat) := [(102, 44), (102, 51)]
theorem fr_mo_whoLed_L42_B (n : Nat) (X0 : St) (rec : Int32 → Int32 → Int32 → Int32 → St → Option (Int32 × St)) (hrec : ∀ (x0 : Int32) (x1 : Int32) (x2 : Int32) (x3 : Int32) X, fr wR_mo_whoLed wF_mo_whoLed X0 X → PO (fun r => fr wR_mo_whoLed wF_mo_whoLed X0 r.2) (rec x0 x1 x2 x3 X)) (v1 : Int32) (v3 : Int32) (v4 : Int32) (v5 : Int32) (X : St) (hX : fr wR_mo_whoLed wF_mo_whoLed X0 X) : PO (fun r => fr wR_mo_whoLed wF_mo_whoLed X0 r.2) (mo_whoLed_L42_B n rec v1 v3 v4 v5 X) := by
  unfold mo_whoLed_L42_B
  refine po_ite (fun hb1 => ?_) (fun _ => ?_)
  · refine po_cI (fr_I hX (wr_o (by decide))) (fr_mo_wrong n v1 (stI X 109 (nx (0 : Int32)) v5)) (by decide) (by decide) (fun c4 X3 hX3 => ?_)
    refine po_ite (fun hb2 => ?_) (fun _ => ?_)
    · refine po_bnd (fun t5 => ?_)
      exact hrec v1 v3 t5 (v5 + (1 : Int32)) X3 hX3
    exact hrec v1 v3 v4 (v5 + (1 : Int32)) X3 hX3
  exact po_some (fr_I hX (wr_o (by decide)))
theorem fr_mo_whoLed_L42 (n : Nat) (X0 : St) : ∀ (w : Nat) (v1 : Int32) (v3 : Int32) (v4 : Int32) (v5 : Int32) (X : St), fr wR_mo_whoLed wF_mo_whoLed X0 X → PO (fun r => fr wR_mo_whoLed wF_mo_whoLed X0 r.2) (mo_whoLed_L42 n w v1 v3 v4 v5 X) := by
  intro w
  induction w with
  | zero => intro v1 v3 v4 v5 X _; exact po_none
  | succ w ih => intro v1 v3 v4 v5 X hX; exact fr_mo_whoLed_L42_B n X0 _ ih v1 v3 v4 v5 X hX
theorem fr_mo_whoLed (n : Nat) (v1 : Int32) (X0 : St) : PO (fun r => fr wR_mo_whoLed wF_mo_whoLed X0 r.2) (mo_whoLed n v1 X0) := by
  have hX0 : fr wR_mo_whoLed wF_mo_whoLed X0 X0 := fr_rf
  unfold mo_whoLed
  refine po_ite (fun hb1 => ?_) (fun _ => ?_)
  · exact po_some hX0
  refine po_bnd (fun c1 => ?_)
  refine po_ite (fun hb2 => ?_) (fun _ => ?_)
  · exact po_some hX0
  refine po_cV hX0 (fr_mo_reads n (v1 / (10 : Int32)) X0) (by decide) (by decide) (fun X2 hX2 => ?_)
  refine fr_mo_whoLed_L42 n X0 n v1 (X2.1 109 (nx (0 : Int32))) (0 : Int32) (0 : Int32) X2 hX2
def wR_mo_later : List (Nat × Nat) := [(108, 108), (133, 133), (134, 134)]
def wF_mo_later : List (Nat × Nat) := [(102, 44), (102, 51)]
theorem fr_mo_later_L53_B (n : Nat) (X0 : St) (rec : Int32 → Int32 → Int32 → Int32 → Int32 → St → Option (Int32 × St)) (hrec : ∀ (x0 : Int32) (x1 : Int32) (x2 : Int32) (x3 : Int32) (x4 : Int32) X, fr wR_mo_later wF_mo_later X0 X → PO (fun r => fr wR_mo_later wF_mo_later X0 r.2) (rec x0 x1 x2 x3 x4 X)) (v1 : Int32) (v2 : Int32) (v4 : Int32) (v5 : Int32) (v6 : Int32) (X : St) (hX : fr wR_mo_later wF_mo_later X0 X) : PO (fun r => fr wR_mo_later wF_mo_later X0 r.2) (mo_later_L53_B n rec v1 v2 v4 v5 v6 X) := by
  unfold mo_later_L53_B
  refine po_ite (fun hb1 => ?_) (fun _ => ?_)
  · refine po_ite (fun hb2 => ?_) (fun _ => po_none)
    exact po_some (fr_I hX (wr_o (by decide)))
  refine po_ite (fun hb3 => ?_) (fun _ => po_none)
  refine po_cI (fr_I hX (wr_o (by decide))) (fr_mo_wrong n v1 (stI X 108 (nx v2) v6)) (by decide) (by decide) (fun c4 X3 hX3 => ?_)
  refine po_ite (fun hb4 => ?_) (fun _ => ?_)
  · exact hrec v1 v2 v4 v6 (v6 + (-1 : Int32)) X3 hX3
  exact hrec v1 v2 v4 v5 (v6 + (-1 : Int32)) X3 hX3
theorem fr_mo_later_L53 (n : Nat) (X0 : St) : ∀ (w : Nat) (v1 : Int32) (v2 : Int32) (v4 : Int32) (v5 : Int32) (v6 : Int32) (X : St), fr wR_mo_later wF_mo_later X0 X → PO (fun r => fr wR_mo_later wF_mo_later X0 r.2) (mo_later_L53 n w v1 v2 v4 v5 v6 X) := by
  intro w
  induction w with
  | zero => intro v1 v2 v4 v5 v6 X _; exact po_none
  | succ w ih => intro v1 v2 v4 v5 v6 X hX; exact fr_mo_later_L53_B n X0 _ ih v1 v2 v4 v5 v6 X hX
theorem fr_mo_later (n : Nat) (v1 : Int32) (v2 : Int32) (X0 : St) : PO (fun r => fr wR_mo_later wF_mo_later X0 r.2) (mo_later n v1 v2 X0) := by
  have hX0 : fr wR_mo_later wF_mo_later X0 X0 := fr_rf
  unfold mo_later
  refine po_ite (fun hb1 => ?_) (fun _ => ?_)
  · exact po_some hX0
  refine po_ite (fun hb2 => ?_) (fun _ => ?_)
  · exact po_some hX0
  refine po_bnd (fun c1 => ?_)
  refine po_ite (fun hb3 => ?_) (fun _ => ?_)
  · exact po_some hX0
  refine po_cV hX0 (fr_mo_reads n (v1 / (10 : Int32)) X0) (by decide) (by decide) (fun X2 hX2 => ?_)
  refine po_ite (fun hb4 => ?_) (fun _ => po_none)
  refine fr_mo_later_L53 n X0 n v1 v2 (X2.1 108 (nx v2)) (-2 : Int32) (99 : Int32) X2 hX2
def wR_mo_quicker : List (Nat × Nat) := [(107, 107), (133, 133), (134, 134)]
def wF_mo_quicker : List (Nat × Nat) := [(102, 44), (102, 51)]
theorem fr_mo_quicker_L54_B (n : Nat) (X0 : St) (rec : Int32 → Int32 → Int32 → Int32 → Int32 → St → Option (Int32 × St)) (hrec : ∀ (x0 : Int32) (x1 : Int32) (x2 : Int32) (x3 : Int32) (x4 : Int32) X, fr wR_mo_quicker wF_mo_quicker X0 X → PO (fun r => fr wR_mo_quicker wF_mo_quicker X0 r.2) (rec x0 x1 x2 x3 x4 X)) (v1 : Int32) (v2 : Int32) (v4 : Int32) (v5 : Int32) (v6 : Int32) (X : St) (hX : fr wR_mo_quicker wF_mo_quicker X0 X) : PO (fun r => fr wR_mo_quicker wF_mo_quicker X0 r.2) (mo_quicker_L54_B n rec v1 v2 v4 v5 v6 X) := by
  unfold mo_quicker_L54_B
  refine po_ite (fun hb1 => ?_) (fun _ => ?_)
  · refine po_ite (fun hb2 => ?_) (fun _ => po_none)
    exact po_some (fr_I hX (wr_o (by decide)))
  refine po_ite (fun hb3 => ?_) (fun _ => po_none)
  refine po_cI (fr_I hX (wr_o (by decide))) (fr_mo_wrong n v1 (stI X 107 (nx v2) v6)) (by decide) (by decide) (fun c4 X3 hX3 => ?_)
  refine po_ite (fun hb4 => ?_) (fun _ => ?_)
  · exact hrec v1 v2 v4 v6 (v6 + (-1 : Int32)) X3 hX3
  exact hrec v1 v2 v4 v5 (v6 + (-1 : Int32)) X3 hX3
theorem fr_mo_quicker_L54 (n : Nat) (X0 : St) : ∀ (w : Nat) (v1 : Int32) (v2 : Int32) (v4 : Int32) (v5 : Int32) (v6 : Int32) (X : St), fr wR_mo_quicker wF_mo_quicker X0 X → PO (fun r => fr wR_mo_quicker wF_mo_quicker X0 r.2) (mo_quicker_L54 n w v1 v2 v4 v5 v6 X) := by
  intro w
  induction w with
  | zero => intro v1 v2 v4 v5 v6 X _; exact po_none
  | succ w ih => intro v1 v2 v4 v5 v6 X hX; exact fr_mo_quicker_L54_B n X0 _ ih v1 v2 v4 v5 v6 X hX
theorem fr_mo_quicker (n : Nat) (v1 : Int32) (v2 : Int32) (X0 : St) : PO (fun r => fr wR_mo_quicker wF_mo_quicker X0 r.2) (mo_quicker n v1 v2 X0) := by
  have hX0 : fr wR_mo_quicker wF_mo_quicker X0 X0 := fr_rf
  unfold mo_quicker
  refine po_ite (fun hb1 => ?_) (fun _ => ?_)
  · exact po_some hX0
  refine po_ite (fun hb2 => ?_) (fun _ => ?_)
  · exact po_some hX0
  refine po_bnd (fun c1 => ?_)
  refine po_ite (fun hb3 => ?_) (fun _ => ?_)
  · exact po_some hX0
  refine po_cV hX0 (fr_mo_reads n (v1 / (10 : Int32)) X0) (by decide) (by decide) (fun X2 hX2 => ?_)
  refine po_ite (fun hb4 => ?_) (fun _ => po_none)
  refine fr_mo_quicker_L54 n X0 n v1 v2 (X2.1 107 (nx v2)) (-99 : Int32) (9 : Int32) X2 hX2
def wR_mo_drawn : List (Nat × Nat) := [(121, 121), (122, 122), (133, 133), (134, 134), (135, 135)]
def wF_mo_drawn : List (Nat × Nat) := [(102, 44), (102, 51), (102, 52)]
theorem fr_mo_drawn_L88_B (n : Nat) (X0 : St) (rec : Int32 → Int32 → Int32 → Int32 → Int32 → St → Option (Int32 × St)) (hrec : ∀ (x0 : Int32) (x1 : Int32) (x2 : Int32) (x3 : Int32) (x4 : Int32) X, fr wR_mo_drawn wF_mo_drawn X0 X → PO (fun r => fr wR_mo_drawn wF_mo_drawn X0 r.2) (rec x0 x1 x2 x3 x4 X)) (v3 : Int32) (v4 : Int32) (v6 : Int32) (v7 : Int32) (v8 : Int32) (X : St) (hX : fr wR_mo_drawn wF_mo_drawn X0 X) : PO (fun r => fr wR_mo_drawn wF_mo_drawn X0 r.2) (mo_drawn_L88_B n rec v3 v4 v6 v7 v8 X) := by
  unfold mo_drawn_L88_B
  refine po_ite (fun hb1 => ?_) (fun _ => ?_)
  · refine po_cV hX (fr_mo_drifts n (1 : Int32) X) (by decide) (by decide) (fun X3 hX3 => ?_)
    refine po_cI hX3 (fr_mo_marks n X3) (by decide) (by decide) (fun c5 X4 hX4 => ?_)
    refine po_ite (fun hb2 => ?_) (fun _ => ?_)
    · exact hrec v3 v4 (v6 + c5) (v7 + (1 : Int32)) (v8 + (1 : Int32)) X4 hX4
    exact hrec v3 v4 (v6 + c5) v7 (v8 + (1 : Int32)) X4 hX4
  refine po_ite (fun hb3 => ?_) (fun _ => ?_)
  · exact po_some hX
  exact po_some hX
theorem fr_mo_drawn_L88 (n : Nat) (X0 : St) : ∀ (w : Nat) (v3 : Int32) (v4 : Int32) (v6 : Int32) (v7 : Int32) (v8 : Int32) (X : St), fr wR_mo_drawn wF_mo_drawn X0 X → PO (fun r => fr wR_mo_drawn wF_mo_drawn X0 r.2) (mo_drawn_L88 n w v3 v4 v6 v7 v8 X) := by
  intro w
  induction w with
  | zero => intro v3 v4 v6 v7 v8 X _; exact po_none
  | succ w ih => intro v3 v4 v6 v7 v8 X hX; exact fr_mo_drawn_L88_B n X0 _ ih v3 v4 v6 v7 v8 X hX
theorem fr_mo_drawn (n : Nat) (v1 : Int32) (v2 : Int32) (v3 : Int32) (v4 : Int32) (X0 : St) : PO (fun r => fr wR_mo_drawn wF_mo_drawn X0 r.2) (mo_drawn n v1 v2 v3 v4 X0) := by
  have hX0 : fr wR_mo_drawn wF_mo_drawn X0 X0 := fr_rf
  unfold mo_drawn
  refine po_ite (fun hb1 => ?_) (fun _ => ?_)
  · exact po_some hX0
  refine po_ite (fun hb2 => ?_) (fun _ => ?_)
  · exact po_some hX0
  refine po_ite (fun hb3 => ?_) (fun _ => ?_)
  · exact po_some hX0
  refine po_ite (fun hb4 => ?_) (fun _ => ?_)
  · exact po_some hX0
  refine po_ite (fun hb5 => ?_) (fun _ => ?_)
  · exact po_some hX0
  refine po_bnd (fun c1 => ?_)
  refine po_ite (fun hb6 => ?_) (fun _ => ?_)
  · exact po_some hX0
  refine po_cV hX0 (fr_mo_reads n v1 X0) (by decide) (by decide) (fun X2 hX2 => ?_)
  refine fr_mo_drawn_L88 n X0 n v3 v4 (0 : Int32) (0 : Int32) (0 : Int32) (stI (stI X2 102 51 v2) 102 52 (irm v3 (100 : Int32))) (fr_I (fr_I hX2 (wr_f (by decide))) (wr_f (by decide)))
def wR_mo_swim : List (Nat × Nat) := [(110, 110), (111, 111), (121, 121), (122, 122), (123, 123), (133, 133), (134, 134), (135, 135)]
def wF_mo_swim : List (Nat × Nat) := [(102, 44), (102, 51)]
theorem fr_mo_swim_L38_B (n : Nat) (X0 : St) (k69 : Int32 → Int32 → St → Option (Int32 × St)) (hk69 : ∀ (x0 : Int32) (x1 : Int32) X, fr wR_mo_swim wF_mo_swim X0 X → PO (fun r => fr wR_mo_swim wF_mo_swim X0 r.2) (k69 x0 x1 X)) (rec : Int32 → Int32 → Int32 → St → Option (Int32 × St)) (hrec : ∀ (x0 : Int32) (x1 : Int32) (x2 : Int32) X, fr wR_mo_swim wF_mo_swim X0 X → PO (fun r => fr wR_mo_swim wF_mo_swim X0 r.2) (rec x0 x1 x2 X)) (v3 : Int32) (v4 : Int32) (v5 : Int32) (X : St) (hX : fr wR_mo_swim wF_mo_swim X0 X) : PO (fun r => fr wR_mo_swim wF_mo_swim X0 r.2) (mo_swim_L38_B n k69 rec v3 v4 v5 X) := by
  unfold mo_swim_L38_B
  refine po_ite (fun hb1 => ?_) (fun _ => ?_)
  · refine po_ite (fun hb2 => ?_) (fun _ => po_none)
    refine po_ite (fun hb3 => ?_) (fun _ => ?_)
    · exact hrec v3 v4 (v5 + (1 : Int32)) X hX
    exact hrec v3 (v4 + (1 : Int32)) (v5 + (1 : Int32)) X hX
  exact hk69 v3 v4 X hX
theorem fr_mo_swim_L38 (n : Nat) (X0 : St) (k69 : Int32 → Int32 → St → Option (Int32 × St)) (hk69 : ∀ (x0 : Int32) (x1 : Int32) X, fr wR_mo_swim wF_mo_swim X0 X → PO (fun r => fr wR_mo_swim wF_mo_swim X0 r.2) (k69 x0 x1 X)) : ∀ (w : Nat) (v3 : Int32) (v4 : Int32) (v5 : Int32) (X : St), fr wR_mo_swim wF_mo_swim X0 X → PO (fun r => fr wR_mo_swim wF_mo_swim X0 r.2) (mo_swim_L38 n k69 w v3 v4 v5 X) := by
  intro w
  induction w with
  | zero => intro v3 v4 v5 X _; exact po_none
  | succ w ih => intro v3 v4 v5 X hX; exact fr_mo_swim_L38_B n X0 k69 hk69 _ ih v3 v4 v5 X hX
theorem fr_mo_swim_J151 (n : Nat) (X0 : St) (k105 : Int32 → Int32 → Int32 → St → Option (Int32 × St)) (hk105 : ∀ (x0 : Int32) (x1 : Int32) (x2 : Int32) X, fr wR_mo_swim wF_mo_swim X0 X → PO (fun r => fr wR_mo_swim wF_mo_swim X0 r.2) (k105 x0 x1 x2 X)) (v3 : Int32) (v4 : Int32) (v5 : Int32) (X : St) (hX : fr wR_mo_swim wF_mo_swim X0 X) : PO (fun r => fr wR_mo_swim wF_mo_swim X0 r.2) (mo_swim_J151 n k105 v3 v4 v5 X) := by
  unfold mo_swim_J151
  refine po_ite (fun hb1 => ?_) (fun _ => po_none)
  refine po_ite (fun hb2 => ?_) (fun _ => po_none)
  refine po_ite (fun hb3 => ?_) (fun _ => po_none)
  refine po_ite (fun hb4 => ?_) (fun _ => ?_)
  · exact hk105 v3 v4 (v5 + (1 : Int32)) (stI X 110 (nx v5) ((X.1 110 (nx v5)) + v4)) (fr_I hX (wr_o (by decide)))
  refine po_ite (fun hb5 => ?_) (fun _ => po_none)
  refine po_nmX (fr_I (fr_I hX (wr_o (by decide))) (wr_o (by decide))) (fun X12 hX12 => ?_)
  refine po_nmX (fr_I hX12 (wr_o (by decide))) (fun X13 hX13 => ?_)
  exact hk105 v3 v4 (v5 + (1 : Int32)) X13 hX13
theorem fr_mo_swim_L105_B (n : Nat) (X0 : St) (rec : Int32 → Int32 → Int32 → St → Option (Int32 × St)) (hrec : ∀ (x0 : Int32) (x1 : Int32) (x2 : Int32) X, fr wR_mo_swim wF_mo_swim X0 X → PO (fun r => fr wR_mo_swim wF_mo_swim X0 r.2) (rec x0 x1 x2 X)) (v3 : Int32) (v4 : Int32) (v5 : Int32) (X : St) (hX : fr wR_mo_swim wF_mo_swim X0 X) : PO (fun r => fr wR_mo_swim wF_mo_swim X0 r.2) (mo_swim_L105_B n rec v3 v4 v5 X) := by
  unfold mo_swim_L105_B
  refine po_ite (fun hb1 => ?_) (fun _ => ?_)
  · refine po_ite (fun hb2 => ?_) (fun _ => po_none)
    refine po_bnd (fun c11 => ?_)
    refine po_ite (fun hb3 => ?_) (fun _ => ?_)
    · refine fr_mo_swim_J151 n X0 _ hrec v3 v4 v5 X hX
    refine po_ite (fun hb4 => ?_) (fun _ => po_none)
    refine po_ite (fun hb5 => ?_) (fun _ => po_none)
    refine po_nmX (fr_I (fr_I hX (wr_o (by decide))) (wr_o (by decide))) (fun X14 hX14 => ?_)
    refine fr_mo_swim_J151 n X0 _ hrec v3 v4 v5 X14 hX14
  exact po_some hX
theorem fr_mo_swim_L105 (n : Nat) (X0 : St) : ∀ (w : Nat) (v3 : Int32) (v4 : Int32) (v5 : Int32) (X : St), fr wR_mo_swim wF_mo_swim X0 X → PO (fun r => fr wR_mo_swim wF_mo_swim X0 r.2) (mo_swim_L105 n w v3 v4 v5 X) := by
  intro w
  induction w with
  | zero => intro v3 v4 v5 X _; exact po_none
  | succ w ih => intro v3 v4 v5 X hX; exact fr_mo_swim_L105_B n X0 _ ih v3 v4 v5 X hX
theorem fr_mo_swim (n : Nat) (v1 : Int32) (X0 : St) : PO (fun r => fr wR_mo_swim wF_mo_swim X0 r.2) (mo_swim n v1 X0) := by
  have hX0 : fr wR_mo_swim wF_mo_swim X0 X0 := fr_rf
  unfold mo_swim
  refine po_ite (fun hb1 => ?_) (fun _ => ?_)
  · exact po_some hX0
  refine po_bnd (fun c1 => ?_)
  refine po_ite (fun hb2 => ?_) (fun _ => ?_)
  · exact po_some hX0
  refine po_cV hX0 (fr_mo_reads n v1 X0) (by decide) (by decide) (fun X2 hX2 => ?_)
  refine po_cI hX2 (fr_mo_marksNow n X2) (by decide) (by decide) (fun c4 X3 hX3 => ?_)
  refine fr_mo_swim_L38 n X0 _ (fun v6 v7 X5 hX5 => ?_) n c4 (0 : Int32) (0 : Int32) X3 hX3
  refine po_nmX (fr_I hX5 (wr_o (by decide))) (fun X8 hX8 => ?_)
  refine po_nmX (fr_I hX8 (wr_o (by decide))) (fun X9 hX9 => ?_)
  refine po_nmX (fr_I hX9 (wr_o (by decide))) (fun X10 hX10 => ?_)
  refine fr_mo_swim_L105 n X0 n v6 v7 (0 : Int32) X10 hX10
def wR_mo_image : List (Nat × Nat) := [(124, 124), (125, 125), (126, 126)]
def wF_mo_image : List (Nat × Nat) := [(102, 29), (102, 30)]
theorem fr_mo_image_L15_B (n : Nat) (X0 : St) (k51 : St → Option (Int32 × St)) (hk51 : ∀  X, fr wR_mo_image wF_mo_image X0 X → PO (fun r => fr wR_mo_image wF_mo_image X0 r.2) (k51  X)) (rec : Int32 → St → Option (Int32 × St)) (hrec : ∀ (x0 : Int32) X, fr wR_mo_image wF_mo_image X0 X → PO (fun r => fr wR_mo_image wF_mo_image X0 r.2) (rec x0 X)) (v1 : Int32) (X : St) (hX : fr wR_mo_image wF_mo_image X0 X) : PO (fun r => fr wR_mo_image wF_mo_image X0 r.2) (mo_image_L15_B n k51 rec v1 X) := by
  unfold mo_image_L15_B
  refine po_ite (fun hb1 => ?_) (fun _ => ?_)
  · refine po_ite (fun hb2 => ?_) (fun _ => po_none)
    refine po_ite (fun hb3 => ?_) (fun _ => po_none)
    refine po_ite (fun hb4 => ?_) (fun _ => po_none)
    refine po_ite (fun hb5 => ?_) (fun _ => po_none)
    refine po_nmX (fr_I (fr_I hX (wr_o (by decide))) (wr_o (by decide))) (fun X2 hX2 => ?_)
    exact hrec (v1 + (1 : Int32)) X2 hX2
  exact hk51 X hX
theorem fr_mo_image_L15 (n : Nat) (X0 : St) (k51 : St → Option (Int32 × St)) (hk51 : ∀  X, fr wR_mo_image wF_mo_image X0 X → PO (fun r => fr wR_mo_image wF_mo_image X0 r.2) (k51  X)) : ∀ (w : Nat) (v1 : Int32) (X : St), fr wR_mo_image wF_mo_image X0 X → PO (fun r => fr wR_mo_image wF_mo_image X0 r.2) (mo_image_L15 n k51 w v1 X) := by
  intro w
  induction w with
  | zero => intro v1 X _; exact po_none
  | succ w ih => intro v1 X hX; exact fr_mo_image_L15_B n X0 k51 hk51 _ ih v1 X hX
theorem fr_mo_image_L53_B (n : Nat) (X0 : St) (rec : Int32 → St → Option (Int32 × St)) (hrec : ∀ (x0 : Int32) X, fr wR_mo_image wF_mo_image X0 X → PO (fun r => fr wR_mo_image wF_mo_image X0 r.2) (rec x0 X)) (v1 : Int32) (X : St) (hX : fr wR_mo_image wF_mo_image X0 X) : PO (fun r => fr wR_mo_image wF_mo_image X0 r.2) (mo_image_L53_B n rec v1 X) := by
  unfold mo_image_L53_B
  refine po_ite (fun hb1 => ?_) (fun _ => ?_)
  · refine po_ite (fun hb2 => ?_) (fun _ => po_none)
    refine po_ite (fun hb3 => ?_) (fun _ => po_none)
    exact hrec (v1 + (1 : Int32)) (stI X 126 (nx v1) (X.1 123 (nx v1))) (fr_I hX (wr_o (by decide)))
  exact po_some hX
theorem fr_mo_image_L53 (n : Nat) (X0 : St) : ∀ (w : Nat) (v1 : Int32) (X : St), fr wR_mo_image wF_mo_image X0 X → PO (fun r => fr wR_mo_image wF_mo_image X0 r.2) (mo_image_L53 n w v1 X) := by
  intro w
  induction w with
  | zero => intro v1 X _; exact po_none
  | succ w ih => intro v1 X hX; exact fr_mo_image_L53_B n X0 _ ih v1 X hX
theorem fr_mo_image (n : Nat) (X0 : St) : PO (fun r => fr wR_mo_image wF_mo_image X0 r.2) (mo_image n X0) := by
  have hX0 : fr wR_mo_image wF_mo_image X0 X0 := fr_rf
  unfold mo_image
  refine po_nmX (fr_I (fr_I hX0 (wr_f (by decide))) (wr_f (by decide))) (fun X1 hX1 => ?_)
  refine fr_mo_image_L15 n X0 _ (fun X3 hX3 => ?_) n (0 : Int32) X1 hX1
  refine fr_mo_image_L53 n X0 n (0 : Int32) X3 hX3
def wR_mo_back : List (Nat × Nat) := [(110, 110), (111, 111), (123, 123)]
def wF_mo_back : List (Nat × Nat) := []
theorem fr_mo_back_J41 (n : Nat) (X0 : St) (k12 : Int32 → St → Option (Int32 × St)) (hk12 : ∀ (x0 : Int32) X, fr wR_mo_back wF_mo_back X0 X → PO (fun r => fr wR_mo_back wF_mo_back X0 r.2) (k12 x0 X)) (v1 : Int32) (s0 : Int32) (s1 : Int32) (X : St) (hX : fr wR_mo_back wF_mo_back X0 X) : PO (fun r => fr wR_mo_back wF_mo_back X0 r.2) (mo_back_J41 n k12 v1 s0 s1 X) := by
  unfold mo_back_J41
  refine po_ite (fun hb1 => ?_) (fun _ => po_none)
  refine po_ite (fun hb2 => ?_) (fun _ => ?_)
  · refine po_ite (fun hb3 => ?_) (fun _ => po_none)
    refine po_ite (fun hb4 => ?_) (fun _ => po_none)
    refine po_nmX (fr_I (fr_I hX (wr_o (by decide))) (wr_o (by decide))) (fun X1 hX1 => ?_)
    exact hk12 (v1 + (1 : Int32)) X1 hX1
  refine po_ite (fun hb5 => ?_) (fun _ => po_none)
  exact hk12 (v1 + (1 : Int32)) (stI (stI X 110 (nx s1) s0) 111 (nx v1) (0 : Int32)) (fr_I (fr_I hX (wr_o (by decide))) (wr_o (by decide)))
theorem fr_mo_back_L12_B (n : Nat) (X0 : St) (k72 : St → Option (Int32 × St)) (hk72 : ∀  X, fr wR_mo_back wF_mo_back X0 X → PO (fun r => fr wR_mo_back wF_mo_back X0 r.2) (k72  X)) (rec : Int32 → St → Option (Int32 × St)) (hrec : ∀ (x0 : Int32) X, fr wR_mo_back wF_mo_back X0 X → PO (fun r => fr wR_mo_back wF_mo_back X0 r.2) (rec x0 X)) (v1 : Int32) (X : St) (hX : fr wR_mo_back wF_mo_back X0 X) : PO (fun r => fr wR_mo_back wF_mo_back X0 r.2) (mo_back_L12_B n k72 rec v1 X) := by
  unfold mo_back_L12_B
  refine po_ite (fun hb1 => ?_) (fun _ => ?_)
  · refine po_ite (fun hb2 => ?_) (fun _ => ?_)
    · refine po_ite (fun hb3 => ?_) (fun _ => po_none)
      refine fr_mo_back_J41 n X0 _ hrec v1 (X.1 124 (nx v1)) v1 X hX
    refine fr_mo_back_J41 n X0 _ hrec v1 (0 : Int32) v1 X hX
  exact hk72 X hX
theorem fr_mo_back_L12 (n : Nat) (X0 : St) (k72 : St → Option (Int32 × St)) (hk72 : ∀  X, fr wR_mo_back wF_mo_back X0 X → PO (fun r => fr wR_mo_back wF_mo_back X0 r.2) (k72  X)) : ∀ (w : Nat) (v1 : Int32) (X : St), fr wR_mo_back wF_mo_back X0 X → PO (fun r => fr wR_mo_back wF_mo_back X0 r.2) (mo_back_L12 n k72 w v1 X) := by
  intro w
  induction w with
  | zero => intro v1 X _; exact po_none
  | succ w ih => intro v1 X hX; exact fr_mo_back_L12_B n X0 k72 hk72 _ ih v1 X hX
theorem fr_mo_back_L74_B (n : Nat) (X0 : St) (rec : Int32 → St → Option (Int32 × St)) (hrec : ∀ (x0 : Int32) X, fr wR_mo_back wF_mo_back X0 X → PO (fun r => fr wR_mo_back wF_mo_back X0 r.2) (rec x0 X)) (v1 : Int32) (X : St) (hX : fr wR_mo_back wF_mo_back X0 X) : PO (fun r => fr wR_mo_back wF_mo_back X0 r.2) (mo_back_L74_B n rec v1 X) := by
  unfold mo_back_L74_B
  refine po_ite (fun hb1 => ?_) (fun _ => ?_)
  · refine po_ite (fun hb2 => ?_) (fun _ => po_none)
    refine po_ite (fun hb3 => ?_) (fun _ => po_none)
    exact hrec (v1 + (1 : Int32)) (stI X 123 (nx v1) (X.1 126 (nx v1))) (fr_I hX (wr_o (by decide)))
  exact po_some hX
theorem fr_mo_back_L74 (n : Nat) (X0 : St) : ∀ (w : Nat) (v1 : Int32) (X : St), fr wR_mo_back wF_mo_back X0 X → PO (fun r => fr wR_mo_back wF_mo_back X0 r.2) (mo_back_L74 n w v1 X) := by
  intro w
  induction w with
  | zero => intro v1 X _; exact po_none
  | succ w ih => intro v1 X hX; exact fr_mo_back_L74_B n X0 _ ih v1 X hX
theorem fr_mo_back (n : Nat) (X0 : St) : PO (fun r => fr wR_mo_back wF_mo_back X0 r.2) (mo_back n X0) := by
  have hX0 : fr wR_mo_back wF_mo_back X0 X0 := fr_rf
  unfold mo_back
  refine po_ite (fun hb1 => ?_) (fun _ => ?_)
  · exact po_some hX0
  refine fr_mo_back_L12 n X0 _ (fun X2 hX2 => ?_) n (0 : Int32) X0 hX0
  refine fr_mo_back_L74 n X0 n (0 : Int32) X2 hX2
def wR_mo_ran : List (Nat × Nat) := [(129, 129)]
def wF_mo_ran : List (Nat × Nat) := [(102, 39)]
theorem fr_mo_ran (v1 : Int32) (X0 : St) : PO (fun r => fr wR_mo_ran wF_mo_ran X0 r) (mo_ran v1 X0) := by
  have hX0 : fr wR_mo_ran wF_mo_ran X0 X0 := fr_rf
  unfold mo_ran
  refine po_ite (fun hb1 => ?_) (fun _ => ?_)
  · refine po_ite (fun hb2 => ?_) (fun _ => po_none)
    refine po_nmX (fr_I (fr_I hX0 (wr_o (by decide))) (wr_f (by decide))) (fun X1 hX1 => ?_)
    exact po_some hX1
  exact po_some (fr_I hX0 (wr_f (by decide)))
def wR_mo_countsBy : List (Nat × Nat) := [(129, 129)]
def wF_mo_countsBy : List (Nat × Nat) := [(102, 39)]
theorem fr_mo_countsBy_G (C : Nat → Int32 → Int32 → Int32 → St → Option (Int32 × St)) (hC : ∀ (j : Nat) (x0 : Int32) (x1 : Int32) (x2 : Int32) (X : St), PO (fun r => fr wR_mo_countsBy wF_mo_countsBy X r.2) (C j x0 x1 x2 X)) (v1 : Int32) (v2 : Int32) (v3 : Int32) (X0 : St) : PO (fun r => fr wR_mo_countsBy wF_mo_countsBy X0 r.2) (mo_countsBy_G C v1 v2 v3 X0) := by
  have hX0 : fr wR_mo_countsBy wF_mo_countsBy X0 X0 := fr_rf
  unfold mo_countsBy_G
  refine po_ite (fun hb1 => ?_) (fun _ => ?_)
  · refine po_cV hX0 (fr_mo_ran (1 : Int32) X0) (by decide) (by decide) (fun X1 hX1 => ?_)
    exact po_some hX1
  refine po_ite (fun hb2 => ?_) (fun _ => ?_)
  · refine po_cV hX0 (fr_mo_ran (20 : Int32) X0) (by decide) (by decide) (fun X2 hX2 => ?_)
    refine po_cI hX2 (hC 0 v1 (0 : Int32) v3 X2) (by decide) (by decide) (fun c4 X3 hX3 => ?_)
    exact po_some hX3
  refine po_ite (fun hb3 => ?_) (fun _ => ?_)
  · refine po_cV hX0 (fr_mo_ran (70 : Int32) X0) (by decide) (by decide) (fun X5 hX5 => ?_)
    refine po_cI hX5 (hC 0 v1 (0 : Int32) v3 X5) (by decide) (by decide) (fun c7 X6 hX6 => ?_)
    exact po_some hX6
  refine po_cI hX0 (hC 0 v1 (mo_above v2) v3 X0) (by decide) (by decide) (fun c9 X8 hX8 => ?_)
  exact po_some hX8
theorem fr_mo_countsBy_grp : ∀ (d j : Nat) (x0 : Int32) (x1 : Int32) (x2 : Int32) (X : St), PO (fun r => fr wR_mo_countsBy wF_mo_countsBy X r.2) (mo_countsBy_grp d j x0 x1 x2 X) := by
  intro d
  induction d with
  | zero => intro j x0 x1 x2 X; exact po_none
  | succ d ih =>
    intro j x0 x1 x2 X
    show PO _ (mo_countsBy_G (mo_countsBy_grp d) x0 x1 x2 X)
    exact fr_mo_countsBy_G (mo_countsBy_grp d) ih x0 x1 x2 X
theorem fr_mo_countsBy (v1 : Int32) (v2 : Int32) (v3 : Int32) (X : St) : PO (fun r => fr wR_mo_countsBy wF_mo_countsBy X r.2) (mo_countsBy v1 v2 v3 X) := fr_mo_countsBy_grp DEP 0 v1 v2 v3 X
def wR_mo_sinksBy : List (Nat × Nat) := [(129, 129)]
def wF_mo_sinksBy : List (Nat × Nat) := [(102, 39)]
theorem fr_mo_sinksBy_G (C : Nat → Int32 → Int32 → Int32 → St → Option (Int32 × St)) (hC : ∀ (j : Nat) (x0 : Int32) (x1 : Int32) (x2 : Int32) (X : St), PO (fun r => fr wR_mo_sinksBy wF_mo_sinksBy X r.2) (C j x0 x1 x2 X)) (v1 : Int32) (v2 : Int32) (v3 : Int32) (X0 : St) : PO (fun r => fr wR_mo_sinksBy wF_mo_sinksBy X0 r.2) (mo_sinksBy_G C v1 v2 v3 X0) := by
  have hX0 : fr wR_mo_sinksBy wF_mo_sinksBy X0 X0 := fr_rf
  unfold mo_sinksBy_G
  refine po_ite (fun hb1 => ?_) (fun _ => ?_)
  · refine po_cV hX0 (fr_mo_ran (11 : Int32) X0) (by decide) (by decide) (fun X1 hX1 => ?_)
    exact po_some hX1
  refine po_ite (fun hb2 => ?_) (fun _ => ?_)
  · refine po_cI hX0 (hC 0 v1 (mo_above v2) v3 X0) (by decide) (by decide) (fun c3 X2 hX2 => ?_)
    exact po_some hX2
  refine po_ite (fun hb3 => ?_) (fun _ => ?_)
  · refine po_cI hX0 (hC 0 v1 (mo_above v2) v3 X0) (by decide) (by decide) (fun c5 X4 hX4 => ?_)
    exact po_some hX4
  refine po_ite (fun hb4 => ?_) (fun _ => ?_)
  · refine po_cV hX0 (fr_mo_ran (40 : Int32) X0) (by decide) (by decide) (fun X6 hX6 => ?_)
    refine po_cI hX6 (hC 0 v1 (2 : Int32) v3 X6) (by decide) (by decide) (fun c8 X7 hX7 => ?_)
    exact po_some hX7
  refine po_ite (fun hb5 => ?_) (fun _ => ?_)
  · refine po_cV hX0 (fr_mo_ran (50 : Int32) X0) (by decide) (by decide) (fun X9 hX9 => ?_)
    refine po_cI hX9 (hC 0 v1 (1 : Int32) v3 X9) (by decide) (by decide) (fun c11 X10 hX10 => ?_)
    refine po_ite (fun hb6 => ?_) (fun _ => po_none)
    refine po_cI hX10 (fr_mo_countsBy v1 (X10.1 128 (nx v1)) (2 : Int32) X10) (by decide) (by decide) (fun c13 X12 hX12 => ?_)
    exact po_some hX12
  refine po_cI hX0 (hC 0 v1 (mo_above v2) v3 X0) (by decide) (by decide) (fun c15 X14 hX14 => ?_)
  exact po_some hX14
theorem fr_mo_sinksBy_grp : ∀ (d j : Nat) (x0 : Int32) (x1 : Int32) (x2 : Int32) (X : St), PO (fun r => fr wR_mo_sinksBy wF_mo_sinksBy X r.2) (mo_sinksBy_grp d j x0 x1 x2 X) := by
  intro d
  induction d with
  | zero => intro j x0 x1 x2 X; exact po_none
  | succ d ih =>
    intro j x0 x1 x2 X
    show PO _ (mo_sinksBy_G (mo_sinksBy_grp d) x0 x1 x2 X)
    exact fr_mo_sinksBy_G (mo_sinksBy_grp d) ih x0 x1 x2 X
theorem fr_mo_sinksBy (v1 : Int32) (v2 : Int32) (v3 : Int32) (X : St) : PO (fun r => fr wR_mo_sinksBy wF_mo_sinksBy X r.2) (mo_sinksBy v1 v2 v3 X) := fr_mo_sinksBy_grp DEP 0 v1 v2 v3 X
def wR_mo_turnsBy : List (Nat × Nat) := [(129, 129)]
def wF_mo_turnsBy : List (Nat × Nat) := [(102, 39)]
theorem fr_mo_turnsBy_G (C : Nat → Int32 → Int32 → Int32 → St → Option (Int32 × St)) (hC : ∀ (j : Nat) (x0 : Int32) (x1 : Int32) (x2 : Int32) (X : St), PO (fun r => fr wR_mo_turnsBy wF_mo_turnsBy X r.2) (C j x0 x1 x2 X)) (v1 : Int32) (v2 : Int32) (v3 : Int32) (X0 : St) : PO (fun r => fr wR_mo_turnsBy wF_mo_turnsBy X0 r.2) (mo_turnsBy_G C v1 v2 v3 X0) := by
  have hX0 : fr wR_mo_turnsBy wF_mo_turnsBy X0 X0 := fr_rf
  unfold mo_turnsBy_G
  refine po_ite (fun hb1 => ?_) (fun _ => ?_)
  · refine po_cV hX0 (fr_mo_ran (10 : Int32) X0) (by decide) (by decide) (fun X1 hX1 => ?_)
    refine po_ite (fun hb2 => ?_) (fun _ => po_none)
    refine po_cI hX1 (fr_mo_countsBy v1 (X1.1 128 (nx v1)) v3 X1) (by decide) (by decide) (fun c3 X2 hX2 => ?_)
    exact po_some hX2
  refine po_ite (fun hb3 => ?_) (fun _ => ?_)
  · refine po_cI hX0 (hC 0 v1 (mo_above v2) v3 X0) (by decide) (by decide) (fun c5 X4 hX4 => ?_)
    exact po_some hX4
  refine po_ite (fun hb4 => ?_) (fun _ => ?_)
  · refine po_cV hX0 (fr_mo_ran (30 : Int32) X0) (by decide) (by decide) (fun X6 hX6 => ?_)
    refine po_cI hX6 (hC 0 v1 (0 : Int32) v3 X6) (by decide) (by decide) (fun c8 X7 hX7 => ?_)
    exact po_some hX7
  refine po_ite (fun hb5 => ?_) (fun _ => ?_)
  · refine po_cV hX0 (fr_mo_ran (41 : Int32) X0) (by decide) (by decide) (fun X9 hX9 => ?_)
    refine po_cI hX9 (hC 0 v1 (2 : Int32) (v3 + (1 : Int32)) X9) (by decide) (by decide) (fun c11 X10 hX10 => ?_)
    exact po_some hX10
  refine po_ite (fun hb6 => ?_) (fun _ => ?_)
  · refine po_cI hX0 (hC 0 v1 (mo_above v2) v3 X0) (by decide) (by decide) (fun c13 X12 hX12 => ?_)
    exact po_some hX12
  refine po_ite (fun hb7 => ?_) (fun _ => ?_)
  · refine po_cI hX0 (hC 0 v1 (mo_above v2) v3 X0) (by decide) (by decide) (fun c15 X14 hX14 => ?_)
    exact po_some hX14
  refine po_ite (fun hb8 => ?_) (fun _ => ?_)
  · refine po_cI hX0 (hC 0 v1 (mo_above v2) v3 X0) (by decide) (by decide) (fun c17 X16 hX16 => ?_)
    exact po_some hX16
  refine po_ite (fun hb9 => ?_) (fun _ => ?_)
  · refine po_cV hX0 (fr_mo_ran (80 : Int32) X0) (by decide) (by decide) (fun X18 hX18 => ?_)
    refine po_cI hX18 (hC 0 v1 (4 : Int32) v3 X18) (by decide) (by decide) (fun c20 X19 hX19 => ?_)
    refine po_ite (fun hb10 => ?_) (fun _ => po_none)
    refine po_cI hX19 (fr_mo_sinksBy v1 (X19.1 128 (nx v1)) (2 : Int32) X19) (by decide) (by decide) (fun c22 X21 hX21 => ?_)
    exact po_some hX21
  refine po_cI hX0 (hC 0 v1 (mo_above v2) v3 X0) (by decide) (by decide) (fun c24 X23 hX23 => ?_)
  exact po_some hX23
theorem fr_mo_turnsBy_grp : ∀ (d j : Nat) (x0 : Int32) (x1 : Int32) (x2 : Int32) (X : St), PO (fun r => fr wR_mo_turnsBy wF_mo_turnsBy X r.2) (mo_turnsBy_grp d j x0 x1 x2 X) := by
  intro d
  induction d with
  | zero => intro j x0 x1 x2 X; exact po_none
  | succ d ih =>
    intro j x0 x1 x2 X
    show PO _ (mo_turnsBy_G (mo_turnsBy_grp d) x0 x1 x2 X)
    exact fr_mo_turnsBy_G (mo_turnsBy_grp d) ih x0 x1 x2 X
theorem fr_mo_turnsBy (v1 : Int32) (v2 : Int32) (v3 : Int32) (X : St) : PO (fun r => fr wR_mo_turnsBy wF_mo_turnsBy X r.2) (mo_turnsBy v1 v2 v3 X) := fr_mo_turnsBy_grp DEP 0 v1 v2 v3 X
def wR_mo_tells : List (Nat × Nat) := [(129, 129)]
def wF_mo_tells : List (Nat × Nat) := [(102, 39)]
theorem fr_mo_tells_G (C : Nat → Int32 → Int32 → Int32 → St → Option (Int32 × St)) (hC : ∀ (j : Nat) (x0 : Int32) (x1 : Int32) (x2 : Int32) (X : St), PO (fun r => fr wR_mo_tells wF_mo_tells X r.2) (C j x0 x1 x2 X)) (v1 : Int32) (v2 : Int32) (v3 : Int32) (X0 : St) : PO (fun r => fr wR_mo_tells wF_mo_tells X0 r.2) (mo_tells_G C v1 v2 v3 X0) := by
  have hX0 : fr wR_mo_tells wF_mo_tells X0 X0 := fr_rf
  unfold mo_tells_G
  refine po_ite (fun hb1 => ?_) (fun _ => ?_)
  · refine po_cV hX0 (fr_mo_ran (2 : Int32) X0) (by decide) (by decide) (fun X1 hX1 => ?_)
    refine po_ite (fun hb2 => ?_) (fun _ => po_none)
    refine po_cI hX1 (fr_mo_turnsBy v1 (X1.1 128 (nx v1)) v3 X1) (by decide) (by decide) (fun c3 X2 hX2 => ?_)
    refine po_ite (fun hb3 => ?_) (fun _ => po_none)
    refine po_cI hX2 (fr_mo_sinksBy v1 (X2.1 128 (nx v1)) (1 : Int32) X2) (by decide) (by decide) (fun c5 X4 hX4 => ?_)
    exact po_some hX4
  refine po_ite (fun hb4 => ?_) (fun _ => ?_)
  · refine po_cV hX0 (fr_mo_ran (60 : Int32) X0) (by decide) (by decide) (fun X6 hX6 => ?_)
    refine po_cI hX6 (hC 0 v1 (3 : Int32) v3 X6) (by decide) (by decide) (fun c8 X7 hX7 => ?_)
    exact po_some hX7
  refine po_ite (fun hb5 => ?_) (fun _ => ?_)
  · refine po_cV hX0 (fr_mo_ran (81 : Int32) X0) (by decide) (by decide) (fun X9 hX9 => ?_)
    refine po_cI hX9 (hC 0 v1 (4 : Int32) v3 X9) (by decide) (by decide) (fun c11 X10 hX10 => ?_)
    exact po_some hX10
  refine po_cI hX0 (hC 0 v1 (mo_above v2) v3 X0) (by decide) (by decide) (fun c13 X12 hX12 => ?_)
  exact po_some hX12
theorem fr_mo_tells_grp : ∀ (d j : Nat) (x0 : Int32) (x1 : Int32) (x2 : Int32) (X : St), PO (fun r => fr wR_mo_tells wF_mo_tells X r.2) (mo_tells_grp d j x0 x1 x2 X) := by
  intro d
  induction d with
  | zero => intro j x0 x1 x2 X; exact po_none
  | succ d ih =>
    intro j x0 x1 x2 X
    show PO _ (mo_tells_G (mo_tells_grp d) x0 x1 x2 X)
    exact fr_mo_tells_G (mo_tells_grp d) ih x0 x1 x2 X
theorem fr_mo_tells (v1 : Int32) (v2 : Int32) (v3 : Int32) (X : St) : PO (fun r => fr wR_mo_tells wF_mo_tells X r.2) (mo_tells v1 v2 v3 X) := fr_mo_tells_grp DEP 0 v1 v2 v3 X
def wR_mo_body : List (Nat × Nat) := [(128, 128)]
def wF_mo_body : List (Nat × Nat) := [(102, 37)]
theorem fr_mo_body (v1 : Int32) (X0 : St) : PO (fun r => fr wR_mo_body wF_mo_body X0 r.2) (mo_body v1 X0) := by
  have hX0 : fr wR_mo_body wF_mo_body X0 X0 := fr_rf
  unfold mo_body
  refine po_ite (fun hb1 => ?_) (fun _ => ?_)
  · exact po_some hX0
  refine po_ite (fun hb2 => ?_) (fun _ => ?_)
  · exact po_some hX0
  refine po_ite (fun hb3 => ?_) (fun _ => po_none)
  refine po_nmX (fr_I (fr_I hX0 (wr_o (by decide))) (wr_f (by decide))) (fun X1 hX1 => ?_)
  exact po_some hX1
def wR_mo_act : List (Nat × Nat) := [(129, 129)]
def wF_mo_act : List (Nat × Nat) := [(102, 39)]
theorem fr_mo_act (v1 : Int32) (v2 : Int32) (v3 : Int32) (X0 : St) : PO (fun r => fr wR_mo_act wF_mo_act X0 r.2) (mo_act v1 v2 v3 X0) := by
  have hX0 : fr wR_mo_act wF_mo_act X0 X0 := fr_rf
  unfold mo_act
  refine po_ite (fun hb1 => ?_) (fun _ => ?_)
  · exact po_some (fr_I hX0 (wr_f (by decide)))
  refine po_ite (fun hb2 => ?_) (fun _ => ?_)
  · exact po_some (fr_I hX0 (wr_f (by decide)))
  refine po_ite (fun hb3 => ?_) (fun _ => po_none)
  refine po_bnd (fun t1 => ?_)
  refine po_ite (fun hb4 => ?_) (fun _ => ?_)
  · refine po_cI (fr_I hX0 (wr_f (by decide))) (fr_mo_countsBy v1 t1 v3 (stI X0 102 39 (0 : Int32))) (by decide) (by decide) (fun c3 X2 hX2 => ?_)
    exact po_some hX2
  refine po_ite (fun hb5 => ?_) (fun _ => ?_)
  · refine po_cI (fr_I hX0 (wr_f (by decide))) (fr_mo_turnsBy v1 t1 v3 (stI X0 102 39 (0 : Int32))) (by decide) (by decide) (fun c5 X4 hX4 => ?_)
    exact po_some hX4
  refine po_ite (fun hb6 => ?_) (fun _ => ?_)
  · refine po_cI (fr_I hX0 (wr_f (by decide))) (fr_mo_sinksBy v1 t1 v3 (stI X0 102 39 (0 : Int32))) (by decide) (by decide) (fun c7 X6 hX6 => ?_)
    exact po_some hX6
  refine po_cI (fr_I hX0 (wr_f (by decide))) (fr_mo_tells v1 t1 v3 (stI X0 102 39 (0 : Int32))) (by decide) (by decide) (fun c9 X8 hX8 => ?_)
  exact po_some hX8
def wR_mo_keep : List (Nat × Nat) := [(130, 130), (131, 131)]
def wF_mo_keep : List (Nat × Nat) := []
theorem fr_mo_keep (v1 : Int32) (v2 : Int32) (X0 : St) : PO (fun r => fr wR_mo_keep wF_mo_keep X0 r.2) (mo_keep v1 v2 X0) := by
  have hX0 : fr wR_mo_keep wF_mo_keep X0 X0 := fr_rf
  unfold mo_keep
  refine po_ite (fun hb1 => ?_) (fun _ => ?_)
  · exact po_some hX0
  refine po_ite (fun hb2 => ?_) (fun _ => ?_)
  · exact po_some hX0
  refine po_ite (fun hb3 => ?_) (fun _ => ?_)
  · refine po_ite (fun hb4 => ?_) (fun _ => po_none)
    refine po_ite (fun hb5 => ?_) (fun _ => po_none)
    refine po_nmX (fr_I (fr_I hX0 (wr_o (by decide))) (wr_o (by decide))) (fun X1 hX1 => ?_)
    exact po_some hX1
  refine po_ite (fun hb6 => ?_) (fun _ => po_none)
  refine po_ite (fun hb7 => ?_) (fun _ => po_none)
  refine po_nmX (fr_I (fr_I hX0 (wr_o (by decide))) (wr_o (by decide))) (fun X2 hX2 => ?_)
  exact po_some hX2
def wR_mo_row : List (Nat × Nat) := [(130, 130), (131, 131), (132, 132)]
def wF_mo_row : List (Nat × Nat) := []
theorem fr_mo_row_L48_B (n : Nat) (X0 : St) (rec : Int32 → Int32 → St → Option (Int32 × St)) (hrec : ∀ (x0 : Int32) (x1 : Int32) X, fr wR_mo_row wF_mo_row X0 X → PO (fun r => fr wR_mo_row wF_mo_row X0 r.2) (rec x0 x1 X)) (v1 : Int32) (v4 : Int32) (X : St) (hX : fr wR_mo_row wF_mo_row X0 X) : PO (fun r => fr wR_mo_row wF_mo_row X0 r.2) (mo_row_L48_B n rec v1 v4 X) := by
  unfold mo_row_L48_B
  refine po_ite (fun hb1 => ?_) (fun _ => ?_)
  · refine po_ite (fun hb2 => ?_) (fun _ => po_none)
    exact hrec v1 (v4 + (1 : Int32)) (stL X 132 (nx (((60 : Int32) * v1) + v4)) (0 : Int64)) (fr_L hX (wr_o (by decide)))
  exact po_some hX
theorem fr_mo_row_L48 (n : Nat) (X0 : St) : ∀ (w : Nat) (v1 : Int32) (v4 : Int32) (X : St), fr wR_mo_row wF_mo_row X0 X → PO (fun r => fr wR_mo_row wF_mo_row X0 r.2) (mo_row_L48 n w v1 v4 X) := by
  intro w
  induction w with
  | zero => intro v1 v4 X _; exact po_none
  | succ w ih => intro v1 v4 X hX; exact fr_mo_row_L48_B n X0 _ ih v1 v4 X hX
theorem fr_mo_row (n : Nat) (v1 : Int32) (v2 : Int32) (v3 : Int32) (X0 : St) : PO (fun r => fr wR_mo_row wF_mo_row X0 r.2) (mo_row n v1 v2 v3 X0) := by
  have hX0 : fr wR_mo_row wF_mo_row X0 X0 := fr_rf
  unfold mo_row
  refine po_ite (fun hb1 => ?_) (fun _ => ?_)
  · exact po_some hX0
  refine po_ite (fun hb2 => ?_) (fun _ => ?_)
  · exact po_some hX0
  refine po_ite (fun hb3 => ?_) (fun _ => ?_)
  · exact po_some hX0
  refine po_ite (fun hb4 => ?_) (fun _ => ?_)
  · exact po_some hX0
  refine po_ite (fun hb5 => ?_) (fun _ => po_none)
  refine po_ite (fun hb6 => ?_) (fun _ => po_none)
  refine fr_mo_row_L48 n X0 n v1 (0 : Int32) (stI (stI X0 130 (nx v1) v2) 131 (nx v1) v3) (fr_I (fr_I hX0 (wr_o (by decide))) (wr_o (by decide)))
def wR_mo_put : List (Nat × Nat) := [(132, 132)]
def wF_mo_put : List (Nat × Nat) := []
theorem fr_mo_put (v1 : Int32) (v2 : Int32) (w3 : Int64) (X0 : St) : PO (fun r => fr wR_mo_put wF_mo_put X0 r.2) (mo_put v1 v2 w3 X0) := by
  have hX0 : fr wR_mo_put wF_mo_put X0 X0 := fr_rf
  unfold mo_put
  refine po_ite (fun hb1 => ?_) (fun _ => ?_)
  · exact po_some hX0
  refine po_ite (fun hb2 => ?_) (fun _ => po_none)
  refine po_ite (fun hb3 => ?_) (fun _ => ?_)
  · exact po_some hX0
  refine po_bnd (fun c1 => ?_)
  refine po_ite (fun hb4 => ?_) (fun _ => ?_)
  · exact po_some hX0
  refine po_ite (fun hb5 => ?_) (fun _ => po_none)
  refine po_ite (fun hb6 => ?_) (fun _ => ?_)
  · exact po_some hX0
  refine po_ite (fun hb7 => ?_) (fun _ => po_none)
  refine po_ite (fun hb8 => ?_) (fun _ => po_none)
  refine po_nmX (fr_L hX0 (wr_o (by decide))) (fun X2 hX2 => ?_)
  exact po_some hX2
def wR_mo_shift : List (Nat × Nat) := [(132, 132)]
def wF_mo_shift : List (Nat × Nat) := []
theorem fr_mo_shift_L142_B (n : Nat) (X0 : St) (rec : Int32 → Int32 → Int32 → Int32 → Int32 → Int32 → St → Option (Int32 × St)) (hrec : ∀ (x0 : Int32) (x1 : Int32) (x2 : Int32) (x3 : Int32) (x4 : Int32) (x5 : Int32) X, fr wR_mo_shift wF_mo_shift X0 X → PO (fun r => fr wR_mo_shift wF_mo_shift X0 r.2) (rec x0 x1 x2 x3 x4 x5 X)) (v1 : Int32) (v2 : Int32) (v3 : Int32) (v4 : Int32) (v5 : Int32) (v6 : Int32) (X : St) (hX : fr wR_mo_shift wF_mo_shift X0 X) : PO (fun r => fr wR_mo_shift wF_mo_shift X0 r.2) (mo_shift_L142_B n rec v1 v2 v3 v4 v5 v6 X) := by
  unfold mo_shift_L142_B
  refine po_ite (fun hb1 => ?_) (fun _ => ?_)
  · exact po_some hX
  refine po_ite (fun hb2 => ?_) (fun _ => po_none)
  refine po_ite (fun hb3 => ?_) (fun _ => po_none)
  refine po_nmX (fr_L hX (wr_o (by decide))) (fun X3 hX3 => ?_)
  exact hrec v1 v2 v3 v4 v5 (v6 + (-1 : Int32)) X3 hX3
theorem fr_mo_shift_L142 (n : Nat) (X0 : St) : ∀ (w : Nat) (v1 : Int32) (v2 : Int32) (v3 : Int32) (v4 : Int32) (v5 : Int32) (v6 : Int32) (X : St), fr wR_mo_shift wF_mo_shift X0 X → PO (fun r => fr wR_mo_shift wF_mo_shift X0 r.2) (mo_shift_L142 n w v1 v2 v3 v4 v5 v6 X) := by
  intro w
  induction w with
  | zero => intro v1 v2 v3 v4 v5 v6 X _; exact po_none
  | succ w ih => intro v1 v2 v3 v4 v5 v6 X hX; exact fr_mo_shift_L142_B n X0 _ ih v1 v2 v3 v4 v5 v6 X hX
theorem fr_mo_shift_L188_B (n : Nat) (X0 : St) (rec : Int32 → Int32 → Int32 → Int32 → Int32 → Int32 → St → Option (Int32 × St)) (hrec : ∀ (x0 : Int32) (x1 : Int32) (x2 : Int32) (x3 : Int32) (x4 : Int32) (x5 : Int32) X, fr wR_mo_shift wF_mo_shift X0 X → PO (fun r => fr wR_mo_shift wF_mo_shift X0 r.2) (rec x0 x1 x2 x3 x4 x5 X)) (v1 : Int32) (v2 : Int32) (v3 : Int32) (v4 : Int32) (v5 : Int32) (v6 : Int32) (X : St) (hX : fr wR_mo_shift wF_mo_shift X0 X) : PO (fun r => fr wR_mo_shift wF_mo_shift X0 r.2) (mo_shift_L188_B n rec v1 v2 v3 v4 v5 v6 X) := by
  unfold mo_shift_L188_B
  refine po_ite (fun hb1 => ?_) (fun _ => ?_)
  · refine po_ite (fun hb2 => ?_) (fun _ => po_none)
    refine po_ite (fun hb3 => ?_) (fun _ => po_none)
    refine po_nmX (fr_L hX (wr_o (by decide))) (fun X4 hX4 => ?_)
    exact hrec v1 v2 v3 v4 v5 (v6 + (1 : Int32)) X4 hX4
  exact po_some hX
theorem fr_mo_shift_L188 (n : Nat) (X0 : St) : ∀ (w : Nat) (v1 : Int32) (v2 : Int32) (v3 : Int32) (v4 : Int32) (v5 : Int32) (v6 : Int32) (X : St), fr wR_mo_shift wF_mo_shift X0 X → PO (fun r => fr wR_mo_shift wF_mo_shift X0 r.2) (mo_shift_L188 n w v1 v2 v3 v4 v5 v6 X) := by
  intro w
  induction w with
  | zero => intro v1 v2 v3 v4 v5 v6 X _; exact po_none
  | succ w ih => intro v1 v2 v3 v4 v5 v6 X hX; exact fr_mo_shift_L188_B n X0 _ ih v1 v2 v3 v4 v5 v6 X hX
theorem fr_mo_shift (n : Nat) (v1 : Int32) (v2 : Int32) (v3 : Int32) (v4 : Int32) (v5 : Int32) (X0 : St) : PO (fun r => fr wR_mo_shift wF_mo_shift X0 r.2) (mo_shift n v1 v2 v3 v4 v5 X0) := by
  have hX0 : fr wR_mo_shift wF_mo_shift X0 X0 := fr_rf
  unfold mo_shift
  refine po_ite (fun hb1 => ?_) (fun _ => ?_)
  · exact po_some hX0
  refine po_ite (fun hb2 => ?_) (fun _ => ?_)
  · exact po_some hX0
  refine po_ite (fun hb3 => ?_) (fun _ => po_none)
  refine po_ite (fun hb4 => ?_) (fun _ => ?_)
  · exact po_some hX0
  refine po_ite (fun hb5 => ?_) (fun _ => po_none)
  refine po_ite (fun hb6 => ?_) (fun _ => ?_)
  · exact po_some hX0
  refine po_bnd (fun c1 => ?_)
  refine po_ite (fun hb7 => ?_) (fun _ => ?_)
  · exact po_some hX0
  refine po_bnd (fun c2 => ?_)
  refine po_ite (fun hb8 => ?_) (fun _ => ?_)
  · exact po_some hX0
  refine po_ite (fun hb9 => ?_) (fun _ => po_none)
  refine po_ite (fun hb10 => ?_) (fun _ => po_none)
  refine po_ite (fun hb11 => ?_) (fun _ => ?_)
  · refine po_ite (fun hb12 => ?_) (fun _ => ?_)
    · exact po_some hX0
    refine po_ite (fun hb13 => ?_) (fun _ => ?_)
    · exact po_some hX0
    refine po_ite (fun hb14 => ?_) (fun _ => ?_)
    · exact po_some hX0
    refine po_ite (fun hb15 => ?_) (fun _ => po_none)
    refine po_ite (fun hb16 => ?_) (fun _ => ?_)
    · exact po_some hX0
    refine po_ite (fun hb17 => ?_) (fun _ => po_none)
    refine po_ite (fun hb18 => ?_) (fun _ => ?_)
    · exact po_some hX0
    refine po_ite (fun hb19 => ?_) (fun _ => ?_)
    · refine po_ite (fun hb20 => ?_) (fun _ => ?_)
      · refine fr_mo_shift_L142 n X0 n v1 v2 v3 v4 v5 (v5 - (1 : Int32)) X0 hX0
      refine fr_mo_shift_L188 n X0 n v1 v2 v3 v4 v5 (0 : Int32) X0 hX0
    refine fr_mo_shift_L188 n X0 n v1 v2 v3 v4 v5 (0 : Int32) X0 hX0
  exact po_some hX0
