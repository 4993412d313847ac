/-! how far off each is by then -/
/-- a count goes by: by how much each is off then -/
def stp (m : Nat) (q : Nat → Int32) (ld : Int32) (c : Int32) (d : Nat → Int32) : Nat → Int32 := fun w => if c = 4 ∧ (0 ≤ ld.toInt ∧ ld.toInt < m) then d (nx ld) + q (nx ld) else d w + q w
def itr (S : Nat → (Nat → Int32) → Nat → Int32) : Nat → Nat → Int32
  | 0 => fun _ => 0
  | t + 1 => S t (itr S t)
theorem st1_s (n : Nat) (K : Int32 → St → Option St) (c : Int32) {m : Nat} (hm : m ≤ 8) : ∀ (w u k : Nat) (v : Int32) (X : St), v.toInt = k → k + u = m → u < w → (X.1 1 1).toInt = m → ∃ Y, tho_step_L2 n K w c v X = K c Y ∧ Y.2 = X.2 ∧ ∀ o i, Y.1 o i = if o = 27 ∧ k ≤ i ∧ i < m then X.1 27 i + X.1 28 i else X.1 o i := by
  intro w
  induction w with
  | zero => intro u k v X h1 h2 h3; omega
  | succ w ih =>
    intro u k v X h1 h2 h3 h4
    show ∃ Y, tho_step_L2_B n K (tho_step_L2 n K w) c v X = K c Y ∧ _
    unfold tho_step_L2_B poo_many
    cases u with
    | zero =>
      refine ⟨X, ?_, rfl, fun o i => ?_⟩
      · rw [if_neg (by rw [ltk]; omega)]
      · rw [if_neg (by omega)]
    | succ u =>
      have ib : inB v 8 = true := by rw [inB_iff]; omega
      obtain ⟨Y, y1, y2, y3⟩ := ih u (k + 1) (v + 1) (stI X 27 k (X.1 27 k + X.1 28 k)) (inc h1 (by omega)) (by omega) (by omega) (by rw [stI_at, if_neg (by omega)]; exact h4)
      refine ⟨Y, ?_, y2, fun o i => ?_⟩
      · rw [← y1, if_pos (by rw [ltk]; omega), if_pos ib, if_pos ib, if_pos ib, nxk h1]
      · rw [y3]
        by_cases c1 : o = 27 ∧ k + 1 ≤ i ∧ i < m
        · rw [if_pos c1, if_pos (by omega), stI_at, if_neg (by omega), stI_at, if_neg (by omega)]
        · rw [if_neg c1, stI_at]
          by_cases c2 : o = 27 ∧ i = k
          · rw [if_pos c2, if_pos (by omega), c2.2]
          · rw [if_neg c2, if_neg (by omega)]
theorem st2_s (n : Nat) (c : Int32) {m : Nat} (hm : m ≤ 8) : ∀ (w u k : Nat) (v : Int32) (X : St), v.toInt = k → k + u = m → u < w → (X.1 1 1).toInt = m → ∃ Y, tho_step_L65 n w c v X = some Y ∧ Y.2 = X.2 ∧ ∀ o i, Y.1 o i = if o = 27 ∧ k ≤ i ∧ i < m then c else X.1 o i := by
  intro w
  induction w with
  | zero => intro u k v X h1 h2 h3; omega
  | succ w ih =>
    intro u k v X h1 h2 h3 h4
    show ∃ Y, tho_step_L65_B n (tho_step_L65 n w) c v X = some Y ∧ _
    unfold tho_step_L65_B poo_many
    cases u with
    | zero =>
      refine ⟨X, ?_, rfl, fun o i => ?_⟩
      · rw [if_neg (by rw [ltk]; omega)]
      · rw [if_neg (by omega)]
    | succ u =>
      have ib : inB v 8 = true := by rw [inB_iff]; omega
      obtain ⟨Y, y1, y2, y3⟩ := ih u (k + 1) (v + 1) (stI X 27 k c) (inc h1 (by omega)) (by omega) (by omega) (by rw [stI_at, if_neg (by omega)]; exact h4)
      refine ⟨Y, ?_, y2, fun o i => ?_⟩
      · rw [← y1, if_pos (by rw [ltk]; omega), if_pos ib, nxk h1]
      · rw [y3]
        by_cases c1 : o = 27 ∧ k + 1 ≤ i ∧ i < m
        · rw [if_pos c1, if_pos (by omega)]
        · rw [if_neg c1, stI_at]
          by_cases c2 : o = 27 ∧ i = k
          · rw [if_pos c2, if_pos (by omega)]
          · rw [if_neg c2, if_neg (by omega)]
theorem step_s {n : Nat} (hn : 4096 ≤ n) {c : Int32} {m : Nat} (hm : m ≤ 8) {A : St} (h1 : (A.1 1 1).toInt = m) : ∃ Y, tho_step n c A = some Y ∧ Y.2 = A.2 ∧ (∀ o i, o ≠ 27 → Y.1 o i = A.1 o i) ∧ ∀ w, w < m → Y.1 27 w = stp m (fun k => A.1 28 k) (A.1 26 9) c (fun k => A.1 27 k) w := by
  unfold tho_step
  obtain ⟨Z, z1, z2, z3⟩ := st1_s n (fun v2 X1 =>
    (if v2 = (4 : Int32) then
    (if (poo_has (X1.1 26 9) X1) = 0 then
    (some X1)
    else
    (if inB (X1.1 26 9) 8 then
    (tho_step_L65 n n (X1.1 27 (nx (X1.1 26 9))) (0 : Int32) X1) else none))
    else
    (some X1))) c hm n m 0 0 A ti0 (by omega) (by omega) h1
  have e1 : Z.1 1 1 = A.1 1 1 := by rw [z3, if_neg (by omega)]
  have e2 : Z.1 26 9 = A.1 26 9 := by rw [z3, if_neg (by omega)]
  rw [z1]
  by_cases c4 : c = 4
  · by_cases c5 : 0 ≤ (A.1 26 9).toInt ∧ (A.1 26 9).toInt < m
    · have hk := nx_ti c5.1
      obtain ⟨Y, y1, y2, y3⟩ := st2_s n (Z.1 27 (nx (A.1 26 9))) hm n m 0 0 Z ti0 (by omega) (by omega) (by rw [e1]; exact h1)
      refine ⟨Y, ?_, y2.trans z2, ?_, ?_⟩
      · rw [if_pos c4, e2, if_neg (fun h => has_s.mp h (by rw [e1, h1]; exact c5)), if_pos (by rw [inB_iff]; omega)]
        exact y1
      · intro o i ho
        rw [y3, if_neg (by omega), z3, if_neg (by omega)]
      · intro w hw
        rw [y3, if_pos (by omega), z3, if_pos (by omega)]
        unfold stp
        rw [if_pos ⟨c4, c5⟩]
    · refine ⟨Z, ?_, z2, ?_, ?_⟩
      · rw [if_pos c4, e2, if_pos (has_s.mpr (by rw [e1, h1]; exact c5))]
      · intro o i ho
        rw [z3, if_neg (by omega)]
      · intro w hw
        rw [z3, if_pos (by omega)]
        unfold stp
        rw [if_neg (fun h => c5 h.2)]
  · refine ⟨Z, ?_, z2, ?_, ?_⟩
    · rw [if_neg c4]
    · intro o i ho
      rw [z3, if_neg (by omega)]
    · intro w hw
      rw [z3, if_pos (by omega)]
      unfold stp
      rw [if_neg (fun h => c4 h.1)]
theorem stl_s (n : Nat) : ∀ (w u k : Nat) (v : Int32) (X : St), v.toInt = k → k + u = 8 → u < w → ∃ Y, tho_still_L2 n w v X = some Y ∧ Y.2 = X.2 ∧ ∀ o i, Y.1 o i = if o = 27 ∧ k ≤ i ∧ i < 8 then 0 else X.1 o i := by
  intro w
  induction w with
  | zero => intro u k v X h1 h2 h3; omega
  | succ w ih =>
    intro u k v X h1 h2 h3
    show ∃ Y, tho_still_L2_B n (tho_still_L2 n w) v X = some Y ∧ _
    unfold tho_still_L2_B
    cases u with
    | zero =>
      refine ⟨X, ?_, rfl, fun o i => ?_⟩
      · rw [if_neg (by rw [ltk, show (8 : Int32).toInt = 8 by decide]; omega)]
      · rw [if_neg (by omega)]
    | succ u =>
      have ib : inB v 8 = true := by rw [inB_iff]; omega
      obtain ⟨Y, y1, y2, y3⟩ := ih u (k + 1) (v + 1) (stI X 27 k 0) (inc h1 (by omega)) (by omega) (by omega)
      refine ⟨Y, ?_, y2, fun o i => ?_⟩
      · rw [← y1, if_pos (by rw [ltk, show (8 : Int32).toInt = 8 by decide]; omega), if_pos ib, nxk h1]
      · rw [y3]
        by_cases c1 : o = 27 ∧ k + 1 ≤ i ∧ i < 8
        · rw [if_pos c1, if_pos (by omega)]
        · rw [if_neg c1, stI_at]
          by_cases c2 : o = 27 ∧ i = k
          · rw [if_pos c2, if_pos (by omega)]
          · rw [if_neg c2, if_neg (by omega)]
theorem still_s {n : Nat} (hn : 4096 ≤ n) (X : St) : ∃ Y, tho_still n X = some Y ∧ Y.2 = X.2 ∧ (∀ o i, o ≠ 27 → Y.1 o i = X.1 o i) ∧ ∀ w, w < 8 → Y.1 27 w = 0 := by
  obtain ⟨Y, y1, y2, y3⟩ := stl_s n n 8 0 0 X ti0 (by omega) (by omega)
  exact ⟨Y, y1, y2, fun o i ho => by rw [y3, if_neg (by omega)], fun w hw => by rw [y3, if_pos (by omega)]⟩
theorem actAt_s {A : St} {c k : Nat} {v : Int32} (h1 : (A.1 24 1).toInt = c) (hc : c ≤ 60) (hv : v.toInt = k) (hk : k < c) : rou_actAt v A = some (A.1 25 k) := by
  unfold rou_actAt
  rw [if_neg (by rw [ltk, ti0]; omega), if_pos (by rw [ltk]; omega), if_pos (by rw [inB_iff]; omega), nxk hv]
/-- the step without a slip -/
def sp0 (m : Nat) (q : Nat → Int32) (ld : Int32) (f : Nat → Int32) : Nat → (Nat → Int32) → Nat → Int32 := fun t d => stp m q ld (f t) d
theorem stp_cg {m : Nat} {q d e : Nat → Int32} {ld c : Int32} (h : ∀ w, w < m → d w = e w) : ∀ w, w < m → stp m q ld c d w = stp m q ld c e w := by
  intro w hw
  unfold stp
  by_cases c1 : c = 4 ∧ (0 ≤ ld.toInt ∧ ld.toInt < m)
  · have := nx_ti c1.2.1
    rw [if_pos c1, if_pos c1, h _ (by omega)]
  · rw [if_neg c1, if_neg c1, h w hw]
theorem thk_s (n : Nat) (hn : 4096 ≤ n) {m c : Nat} {v1 : Int32} {f : Nat → Int32} {T : Nat} (hm : m ≤ 8) (hc : c ≤ 60) (hT : (jmath_min v1 (Int32.ofNat c)).toInt = T) (hTc : T ≤ c) {q : Nat → Int32} {ld : Int32} : ∀ (w j k : Nat) (v : Int32) (A : St), v.toInt = k → k + j = T → j < w → (A.1 1 1).toInt = m → A.1 24 1 = Int32.ofNat c → (∀ i, i < c → A.1 25 i = f i) → (∀ i, i < m → A.1 28 i = q i) → A.1 26 9 = ld → (∀ i, i < m → A.1 27 i = itr (sp0 m q ld f) k i) → ∃ Y, tho_think_L6 n w v1 v A = some Y ∧ Y.2 = A.2 ∧ (∀ o i, o ≠ 27 → Y.1 o i = A.1 o i) ∧ ∀ i, i < m → Y.1 27 i = itr (sp0 m q ld f) T i := by
  intro w
  induction w with
  | zero => intro j k v A h1 h2 h3; omega
  | succ w ih =>
    intro j k v A h1 h2 h3 h4 h5 h6 h7 h8 h9
    show ∃ Y, tho_think_L6_B n (tho_think_L6 n w) v1 v A = some Y ∧ _
    unfold tho_think_L6_B rou_counts
    rw [h5]
    cases j with
    | zero =>
      refine ⟨A, ?_, rfl, fun _ _ _ => rfl, fun i hi => ?_⟩
      · rw [if_neg (by rw [ltk]; omega)]
      · rw [h9 i hi, show k = T by omega]
    | succ j =>
      obtain ⟨Z, z1, z2, z3, z4⟩ := step_s (c := f k) hn hm h4
      obtain ⟨Y, y1, y2, y3, y4⟩ := ih j (k + 1) (v + 1) Z (inc h1 (by omega)) (by omega) (by omega) (by rw [z3 _ _ (by omega)]; exact h4) (by rw [z3 _ _ (by omega)]; exact h5) (fun i hi => by rw [z3 _ _ (by omega)]; exact h6 i hi) (fun i hi => by rw [z3 _ _ (by omega)]; exact h7 i hi) (by rw [z3 _ _ (by omega)]; exact h8) (fun i hi => by
        rw [z4 i hi, h8]
        show _ = stp m q ld (f k) (itr (sp0 m q ld f) k) i
        unfold stp
        by_cases c1 : f k = 4 ∧ (0 ≤ ld.toInt ∧ ld.toInt < m)
        · have := nx_ti c1.2.1
          rw [if_pos c1, if_pos c1, ← h9 _ (by omega), ← h7 _ (by omega)]
        · rw [if_neg c1, if_neg c1, ← h9 i hi, ← h7 i hi])
      refine ⟨Y, ?_, y2.trans z2, fun o i ho => (y3 o i ho).trans (z3 o i ho), y4⟩
      rw [if_pos (by rw [ltk]; omega), actAt_s (by rw [h5]; exact ti_ofNat (by omega)) hc h1 (by omega), h6 k (by omega), Option.bind_some, z1, Option.bind_some, y1]
theorem think_s {n : Nat} (hn : 4096 ≤ n) {m c : Nat} {v1 : Int32} {f : Nat → Int32} {T : Nat} (hm : m ≤ 8) (hc : c ≤ 60) (hT : (jmath_min v1 (Int32.ofNat c)).toInt = T) (hTc : T ≤ c) {A : St} (h4 : (A.1 1 1).toInt = m) (h5 : A.1 24 1 = Int32.ofNat c) (h6 : ∀ i, i < c → A.1 25 i = f i) : ∃ Y, tho_think n v1 A = some Y ∧ Y.2 = A.2 ∧ (∀ o i, o ≠ 27 → Y.1 o i = A.1 o i) ∧ ∀ i, i < m → Y.1 27 i = itr (sp0 m (fun k => A.1 28 k) (A.1 26 9) f) T i := by
  obtain ⟨Z, z1, z2, z3, z4⟩ := still_s hn A
  obtain ⟨Y, y1, y2, y3, y4⟩ := thk_s n hn hm hc hT hTc (f := f) (q := fun k => A.1 28 k) (ld := A.1 26 9) n T 0 0 Z ti0 (by omega) (by omega) (by rw [z3 _ _ (by omega)]; exact h4) (by rw [z3 _ _ (by omega)]; exact h5) (fun i hi => by rw [z3 _ _ (by omega)]; exact h6 i hi) (fun i hi => by rw [z3 _ _ (by omega)]) (by rw [z3 _ _ (by omega)]) (fun i hi => z4 i (by omega))
  refine ⟨Y, ?_, y2.trans z2, fun o i ho => (y3 o i ho).trans (z3 o i ho), y4⟩
  unfold tho_think
  rw [z1, Option.bind_some, y1]
-- the model's
theorem ix8 {v w : Int32} {t k : Nat} (hv : v.toInt = t) (hw : w.toInt = k) (ht : t ≤ 60) (hk : k < 8) : (((8 : Int32) * v) + w).toInt = ((8 * t + k : Nat) : Int) ∧ ((((8 : Int32) * v) + (8 : Int32)) + w).toInt = ((8 * (t + 1) + k : Nat) : Int) := by
  have e8 : (8 : Int32).toInt = 8 := by decide
  have e1 : ((8 : Int32) * v).toInt = 8 * t := by rw [ti_mul] <;> rw [e8] <;> omega
  have e2 : (((8 : Int32) * v) + (8 : Int32)).toInt = 8 * t + 8 := by rw [ti_add] <;> rw [e8] <;> omega
  exact ⟨by rw [ti_add] <;> omega, by rw [ti_add] <;> omega⟩
theorem dz_s (n : Nat) (K : Int32 → St → Option St) (md : Int32) : ∀ (w u k : Nat) (v : Int32) (X : St), v.toInt = k → k + u = 8 → u < w → ∃ Y, mo_drifts_L2 n K w md v X = K md Y ∧ Y.2 = X.2 ∧ ∀ o i, Y.1 o i = if o = 134 ∧ k ≤ i ∧ i < 8 then 0 else X.1 o i := by
  intro w
  induction w with
  | zero => intro u k v X h1 h2 h3; omega
  | succ w ih =>
    intro u k v X h1 h2 h3
    show ∃ Y, mo_drifts_L2_B n K (mo_drifts_L2 n K w) md v X = K md Y ∧ _
    unfold mo_drifts_L2_B
    cases u with
    | zero =>
      refine ⟨X, ?_, rfl, fun o i => ?_⟩
      · rw [if_neg (by rw [ltk, show (8 : Int32).toInt = 8 by decide]; omega)]
      · rw [if_neg (by omega)]
    | succ u =>
      have ib : inB v 488 = true := by rw [inB_iff]; omega
      obtain ⟨Y, y1, y2, y3⟩ := ih u (k + 1) (v + 1) (stI X 134 k 0) (inc h1 (by omega)) (by omega) (by omega)
      refine ⟨Y, ?_, y2, fun o i => ?_⟩
      · rw [← y1, if_pos (by rw [ltk, show (8 : Int32).toInt = 8 by decide]; omega), if_pos ib, nxk h1]
      · rw [y3]
        by_cases c1 : o = 134 ∧ k + 1 ≤ i ∧ i < 8
        · rw [if_pos c1, if_pos (by omega)]
        · rw [if_neg c1, stI_at]
          by_cases c2 : o = 134 ∧ i = k
          · rw [if_pos c2, if_pos (by omega)]
          · rw [if_neg c2, if_neg (by omega)]
theorem J89_s {n : Nat} {K : Int32 → Int32 → Int32 → St → Option St} {md v p e : Int32} {t k : Nat} {X : St} (hv : v.toInt = t) (hp : p.toInt = k) (ht : t < 60) (hk : k < 8) : mo_drifts_J89 n K md v p e X = K md v (p + 1) (stI X 134 (8 * (t + 1) + k) (X.1 134 (8 * t + k) + e)) := by
  obtain ⟨a1, a2⟩ := ix8 hv hp (by omega) hk
  unfold mo_drifts_J89
  rw [if_pos (by rw [inB_iff, a1]; omega), if_pos (by rw [inB_iff, a2]; omega), Option.bind_some, nxk a1, nxk a2]
/-- each has drifted on: without draws -/
theorem d0_s (n : Nat) (K : Int32 → Int32 → St → Option St) {v : Int32} {t m : Nat} (hv : v.toInt = t) (ht : t < 60) (hm : m ≤ 8) : ∀ (w u k : Nat) (p : Int32) (X : St), p.toInt = k → k + u = m → u < w → (X.1 102 0).toInt = m → ∃ Y, mo_drifts_L33 n K w 0 v p X = K 0 v Y ∧ Y.2 = X.2 ∧ ∀ o i, Y.1 o i = if o = 134 ∧ 8 * (t + 1) + k ≤ i ∧ i < 8 * (t + 1) + m then X.1 134 (i - 8) + X.1 107 (i - 8 * (t + 1)) else X.1 o i := by
  intro w
  induction w with
  | zero => intro u k p X h1 h2 h3; omega
  | succ w ih =>
    intro u k p X h1 h2 h3 h4
    show ∃ Y, mo_drifts_L33_B n K (mo_drifts_L33 n K w) 0 v p X = K 0 v Y ∧ _
    unfold mo_drifts_L33_B
    cases u with
    | zero =>
      refine ⟨X, ?_, rfl, fun o i => ?_⟩
      · rw [if_neg (by rw [ltk]; omega)]
      · rw [if_neg (by omega)]
    | succ u =>
      have ib : inB p 8 = true := by rw [inB_iff]; omega
      obtain ⟨Y, y1, y2, y3⟩ := ih u (k + 1) (p + 1) (stI X 134 (8 * (t + 1) + k) (X.1 134 (8 * t + k) + X.1 107 k)) (inc h1 (by omega)) (by omega) (by omega) (by rw [stI_at, if_neg (by omega)]; exact h4)
      refine ⟨Y, ?_, y2, fun o i => ?_⟩
      · rw [← y1, if_pos (by rw [ltk]; omega), if_pos ib, if_pos rfl, J89_s hv h1 ht (by omega), nxk h1]
      · rw [y3]
        by_cases c1 : o = 134 ∧ 8 * (t + 1) + (k + 1) ≤ i ∧ i < 8 * (t + 1) + m
        · rw [if_pos c1, if_pos (by omega), stI_at, if_neg (by omega), stI_at, if_neg (by omega)]
        · rw [if_neg c1, stI_at]
          by_cases c2 : o = 134 ∧ i = 8 * (t + 1) + k
          · rw [if_pos c2, if_pos (by omega), c2.2, show 8 * (t + 1) + k - 8 = 8 * t + k by omega, show 8 * (t + 1) + k - 8 * (t + 1) = k by omega]
          · rw [if_neg c2, if_neg (by omega)]
/-- where they look, all are as far off as she who leads -/
theorem d1_s (n : Nat) (K : Int32 → Int32 → St → Option St) {md v : Int32} {t m : Nat} (hv : v.toInt = t) (ht : t < 60) (hm : m ≤ 8) {L : Int32} : ∀ (w u k : Nat) (p : Int32) (X : St), p.toInt = k → k + u = m → u < w → (X.1 102 0).toInt = m → X.1 133 t = 4 → (0 ≤ (X.1 109 0).toInt ∧ (X.1 109 0).toInt < m) → X.1 134 (8 * (t + 1) + nx (X.1 109 0)) = L → ∃ Y, mo_drifts_L125 n K w md v p X = K md v Y ∧ Y.2 = X.2 ∧ ∀ o i, Y.1 o i = if o = 134 ∧ 8 * (t + 1) + k ≤ i ∧ i < 8 * (t + 1) + m then L else X.1 o i := by
  intro w
  induction w with
  | zero => intro u k p X h1 h2 h3; omega
  | succ w ih =>
    intro u k p X h1 h2 h3 h4 h5 h6 h7
    show ∃ Y, mo_drifts_L125_B n K (mo_drifts_L125 n K w) md v p X = K md v Y ∧ _
    unfold mo_drifts_L125_B
    cases u with
    | zero =>
      refine ⟨X, ?_, rfl, fun o i => ?_⟩
      · rw [if_neg (by rw [ltk]; omega)]
      · rw [if_neg (by omega)]
    | succ u =>
      have ib : inB v 60 = true := by rw [inB_iff]; omega
      have hl := nx_ti h6.1
      obtain ⟨-, a2⟩ := ix8 hv h1 (by omega) (show k < 8 by omega)
      obtain ⟨-, a3⟩ := ix8 hv (show (X.1 109 0).toInt = (nx (X.1 109 0) : Nat) by omega) (by omega) (show nx (X.1 109 0) < 8 by omega)
      obtain ⟨Y, y1, y2, y3⟩ := ih u (k + 1) (p + 1) (stI X 134 (8 * (t + 1) + k) L) (inc h1 (by omega)) (by omega) (by omega) (by rw [stI_at, if_neg (by omega)]; exact h4) (by rw [stI_at, if_neg (by omega)]; exact h5) (by rw [stI_at, if_neg (by omega)]; exact h6) (by
        rw [stI_at (o' := 109), if_neg (by omega), stI_at]
        by_cases e : 134 = 134 ∧ 8 * (t + 1) + nx (X.1 109 0) = 8 * (t + 1) + k
        · rw [if_pos e]
        · rw [if_neg e]; exact h7)
      have h0 : ¬ mo_isOne (X.1 109 0) X = 0 := fun h => by
        unfold mo_isOne at h
        have := within0.mp h
        rw [ti_sub (by rw [ti1]; omega) (by rw [ti1]; omega), ti0, ti1] at this
        omega
      refine ⟨Y, ?_, y2, fun o i => ?_⟩
      · rw [← y1, if_pos (by rw [ltk]; omega), if_pos ib, nxk hv, if_pos h5, show nx (0 : Int32) = 0 by decide, if_neg h0, if_pos (by rw [inB_iff, a3]; omega), if_pos (by rw [inB_iff, a2]; omega), Option.bind_some, nxk a2, nxk a3, h7]
      · rw [y3]
        by_cases c1 : o = 134 ∧ 8 * (t + 1) + (k + 1) ≤ i ∧ i < 8 * (t + 1) + m
        · rw [if_pos c1, if_pos (by omega)]
        · rw [if_neg c1, stI_at]
          by_cases c2 : o = 134 ∧ i = 8 * (t + 1) + k
          · rw [if_pos c2, if_pos (by omega)]
          · rw [if_neg c2, if_neg (by omega)]
/-- after the drifting: she who leads, and a slip -/
theorem d2_s (n : Nat) (hn : 4096 ≤ n) (K : Int32 → Int32 → St → Option St) {md v : Int32} {t m : Nat} (hv : v.toInt = t) (ht : t < 60) (hm : m ≤ 8) {X : St} (h4 : (X.1 102 0).toInt = m) (hs : X.1 102 48 = -2 ∨ (0 ≤ (X.1 102 48).toInt ∧ (X.1 102 48).toInt < m)) (q d : Nat → Int32) (hd : ∀ w, w < m → X.1 134 (8 * (t + 1) + w) = d w + q w) : ∃ Y, mo_drifts_L125 n (fun v10 v11 X9 => (mo_drifts_J195 n K v10 v11 X9)) n md v 0 X = K md (v + 1) Y ∧ Y.2 = X.2 ∧ (∀ o i, ¬ (o = 134 ∧ 8 * (t + 1) ≤ i) → Y.1 o i = X.1 o i) ∧ ∀ w, w < m → Y.1 134 (8 * (t + 1) + w) = stp m q (X.1 109 0) (X.1 133 t) d w + (if X.1 102 48 = Int32.ofNat w ∧ X.1 102 49 = Int32.ofNat t then X.1 102 50 else 0) := by
  have key : ∃ Z, mo_drifts_L125 n (fun v10 v11 X9 => (mo_drifts_J195 n K v10 v11 X9)) n md v 0 X = mo_drifts_J195 n K md v Z ∧ Z.2 = X.2 ∧ (∀ o i, ¬ (o = 134 ∧ 8 * (t + 1) ≤ i) → Z.1 o i = X.1 o i) ∧ ∀ w, w < m → Z.1 134 (8 * (t + 1) + w) = stp m q (X.1 109 0) (X.1 133 t) d w := by
    by_cases c1 : X.1 133 t = 4 ∧ (0 ≤ (X.1 109 0).toInt ∧ (X.1 109 0).toInt < m)
    · have := nx_ti c1.2.1
      obtain ⟨Z, z1, z2, z3⟩ := d1_s n (fun v10 v11 X9 => (mo_drifts_J195 n K v10 v11 X9)) (md := md) hv ht hm n m 0 0 X ti0 (by omega) (by omega) h4 c1.1 c1.2 (hd _ (by omega))
      refine ⟨Z, z1, z2, fun o i ho => by rw [z3, if_neg (by omega)], fun w hw => ?_⟩
      rw [z3, if_pos (by omega)]
      unfold stp
      rw [if_pos c1]
    · refine ⟨X, ?_, rfl, fun _ _ _ => rfl, fun w hw => ?_⟩
      · obtain ⟨N, rfl⟩ : ∃ N, n = N + 1 := ⟨n - 1, by omega⟩
        show mo_drifts_L125_B (N + 1) (fun v10 v11 X9 => (mo_drifts_J195 (N + 1) K v10 v11 X9)) _ md v 0 X = _
        unfold mo_drifts_L125_B
        by_cases c2 : (0 : Int32) < X.1 102 0
        · rw [if_pos c2, if_pos (by rw [inB_iff]; omega), nxk hv]
          by_cases c3 : X.1 133 t = 4
          · have h0 : mo_isOne (X.1 109 0) X = 0 := by
              unfold mo_isOne
              rw [within0, ti_sub (by rw [ti1]; omega) (by rw [ti1]; omega), ti0, ti1]
              have : ¬ (0 ≤ (X.1 109 0).toInt ∧ (X.1 109 0).toInt < m) := fun h => c1 ⟨c3, h⟩
              omega
            rw [if_pos c3, show nx (0 : Int32) = 0 by decide, if_pos h0]
          · rw [if_neg c3]
        · rw [if_neg c2]
      · rw [hd w hw]
        unfold stp
        rw [if_neg c1]
  obtain ⟨Z, z1, z2, z3, z4⟩ := key
  have e48 : Z.1 102 48 = X.1 102 48 := z3 _ _ (by omega)
  have e49 : Z.1 102 49 = X.1 102 49 := z3 _ _ (by omega)
  have e50 : Z.1 102 50 = X.1 102 50 := z3 _ _ (by omega)
  rw [z1]
  unfold mo_drifts_J195
  rw [e48, e49, e50]
  by_cases c1 : X.1 102 48 = -2
  · refine ⟨Z, by rw [if_pos c1], z2, z3, fun w hw => ?_⟩
    rw [z4 w hw, if_neg (fun h => by
      have := congrArg Int32.toInt (h.1.symm.trans c1)
      rw [ti_ofNat (by omega), show (-2 : Int32).toInt = -2 by decide] at this
      omega), Int32.add_zero]
  · rw [if_neg c1]
    rcases hs with hs | hs
    · exact absurd hs c1
    · by_cases c2 : X.1 102 49 = v
      · have hl := nx_ti hs.1
        obtain ⟨-, a3⟩ := ix8 hv (show (X.1 102 48).toInt = (nx (X.1 102 48) : Nat) by omega) (by omega) (show nx (X.1 102 48) < 8 by omega)
        have ev : v = Int32.ofNat t := ofk hv
        have e2 := nxk a3
        refine ⟨stI Z 134 (8 * (t + 1) + nx (X.1 102 48)) (Z.1 134 (8 * (t + 1) + nx (X.1 102 48)) + X.1 102 50), ?_, z2, fun o i ho => ?_, fun w hw => ?_⟩
        · rw [if_pos c2, if_pos (by rw [inB_iff, a3]; omega), if_pos (by rw [inB_iff, a3]; omega), Option.bind_some, e2]
        · rw [stI_at, if_neg (by omega), z3 _ _ ho]
        · rw [stI_at]
          by_cases c3 : w = nx (X.1 102 48)
          · rw [if_pos ⟨rfl, by omega⟩, ← c3, z4 w hw, if_pos ⟨by rw [c3]; exact (ofNat_nx hs.1).symm, by rw [c2]; exact ev⟩]
          · rw [if_neg (fun h => c3 (by omega)), z4 w hw, if_neg (fun h => c3 (by rw [h.1, nx_ofNat (by omega)])), Int32.add_zero]
      · refine ⟨Z, by rw [if_neg c2], z2, z3, fun w hw => ?_⟩
        rw [z4 w hw, if_neg (fun h => c2 (by rw [h.2]; exact (ofk hv).symm)), Int32.add_zero]
