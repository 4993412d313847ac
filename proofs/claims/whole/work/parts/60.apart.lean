/-! off, apart -/
theorem itr_eq {m T : Nat} {S S' : Nat → (Nat → Int32) → Nat → Int32} (h : ∀ t, t < T → ∀ d e : Nat → Int32, (∀ w, w < m → d w = e w) → ∀ w, w < m → S t d w = S' t e w) : ∀ t, t ≤ T → ∀ w, w < m → itr S t w = itr S' t w := by
  intro t
  induction t with
  | zero => intro _ w _; rfl
  | succ t ih => intro ht w hw; exact h t (by omega) _ _ (fun w hw => ih (by omega) w hw) w hw
abbrev agr (B X : St) : Prop := X.2 = B.2 ∧ ∀ o i, o ≠ 134 → ¬ (o = 102 ∧ i = 51) → X.1 o i = B.1 o i
/-- the step with slips -/
def spS (m : Nat) (q : Nat → Nat → Int32) (ld : Int32) (f : Nat → Int32) (sl : Nat → Nat → Int32) : Nat → (Nat → Int32) → Nat → Int32 := fun t d w => stp m (q t) ld (f t) d w + sl t w
def slp (B : St) : Nat → Nat → Int32 := fun t w => if B.1 102 48 = Int32.ofNat w ∧ B.1 102 49 = Int32.ofNat t then B.1 102 50 else 0
theorem d3_s (n : Nat) (hn : 4096 ≤ n) {md : Int32} {m c : Nat} {B : St} {f : Nat → Int32} {q : Nat → Nat → Int32} {P : Nat → Int32 → Prop} (hm : m ≤ 8) (hc : c ≤ 60) (b1 : (B.1 102 0).toInt = m) (b2 : (B.1 102 44).toInt = c) (b3 : ∀ i, i < c → B.1 133 i = f i) (b4 : B.1 102 48 = -2 ∨ (0 ≤ (B.1 102 48).toInt ∧ (B.1 102 48).toInt < m)) (H : ∀ (t : Nat) (v : Int32) (X : St) (K : Int32 → Int32 → St → Option St), t < c → v.toInt = t → agr B X → P t (X.1 102 51) → ∃ Z, mo_drifts_L33 n K n md v 0 X = K md v Z ∧ Z.2 = X.2 ∧ (∀ o i, ¬ (o = 134 ∧ 8 * (t + 1) ≤ i) → ¬ (o = 102 ∧ i = 51) → Z.1 o i = X.1 o i) ∧ P (t + 1) (Z.1 102 51) ∧ ∀ w, w < m → Z.1 134 (8 * (t + 1) + w) = X.1 134 (8 * t + w) + q t w) : ∀ (w j k : Nat) (v : Int32) (X : St), v.toInt = k → k + j = c → j < w → agr B X → P k (X.1 102 51) → (∀ t, t ≤ k → ∀ w, w < m → X.1 134 (8 * t + w) = itr (spS m q (B.1 109 0) f (slp B)) t w) → ∃ Y, mo_drifts_L23 n w md v X = some Y ∧ agr B Y ∧ P c (Y.1 102 51) ∧ ∀ t, t ≤ c → ∀ w, w < m → Y.1 134 (8 * t + w) = itr (spS m q (B.1 109 0) f (slp B)) t w := by
  intro w
  induction w with
  | zero => intro j k v X h1 h2 h3; omega
  | succ w ih =>
    intro j k v X h1 h2 h3 h4 h5 h6
    show ∃ Y, mo_drifts_L23_B n (mo_drifts_L23 n w) md v X = some Y ∧ _
    have e44 : X.1 102 44 = B.1 102 44 := h4.2 _ _ (by omega) (by omega)
    unfold mo_drifts_L23_B
    rw [e44]
    cases j with
    | zero =>
      have ek : k = c := by omega
      subst ek
      refine ⟨X, ?_, h4, h5, h6⟩
      rw [if_neg (by rw [ltk]; omega)]
    | succ j =>
      rw [if_pos (by rw [ltk]; omega)]
      obtain ⟨Z, z1, z2, z3, z4, z5⟩ := H k v X (fun v6 v7 X5 => (mo_drifts_L125 n (fun v10 v11 X9 => (mo_drifts_J195 n (mo_drifts_L23 n w) v10 v11 X9)) n v6 v7 (0 : Int32) X5)) (by omega) h1 h4 h5
      have zB : ∀ o i, o ≠ 134 → ¬ (o = 102 ∧ i = 51) → Z.1 o i = B.1 o i := fun o i h1 h2 => by rw [z3 _ _ (by omega) h2, h4.2 _ _ h1 h2]
      obtain ⟨Y, y1, y2, y3, y4⟩ := d2_s n hn (mo_drifts_L23 n w) (md := md) h1 (by omega) hm (X := Z) (by rw [zB _ _ (by omega) (by omega)]; exact b1) (by rw [zB _ _ (by omega) (by omega)]; exact b4) (q k) (itr (spS m q (B.1 109 0) f (slp B)) k) (fun w hw => by rw [z5 w hw, h6 k (Nat.le_refl _) w hw])
      rw [z1]
      show ∃ Y, mo_drifts_L125 n (fun v10 v11 X9 => (mo_drifts_J195 n (mo_drifts_L23 n w) v10 v11 X9)) n md v (0 : Int32) Z = some Y ∧ _
      rw [y1]
      have yB : agr B Y := ⟨y2.trans (z2.trans h4.1), fun o i o1 o2 => by rw [y3 _ _ (by omega), zB _ _ o1 o2]⟩
      refine ih j (k + 1) (v + 1) Y (inc h1 (by omega)) (by omega) (by omega) yB (by rw [y3 _ _ (by omega)]; exact z4) (fun t ht w hw => ?_)
      by_cases c1 : t = k + 1
      · rw [c1, y4 w hw, zB 109 _ (by omega) (by omega), zB 133 _ (by omega) (by omega), b3 k (by omega), zB 102 48 (by omega) (by omega), zB 102 49 (by omega) (by omega), zB 102 50 (by omega) (by omega)]
        rfl
      · rw [y3 _ _ (by omega), z3 _ _ (by omega) (by omega), h6 t (by omega) w hw]
theorem drifts0_s {n : Nat} (hn : 4096 ≤ n) {m c : Nat} {B : St} {f : Nat → Int32} (hm : m ≤ 8) (hc : c ≤ 60) (b1 : (B.1 102 0).toInt = m) (b2 : (B.1 102 44).toInt = c) (b3 : ∀ i, i < c → B.1 133 i = f i) (b4 : B.1 102 48 = -2 ∨ (0 ≤ (B.1 102 48).toInt ∧ (B.1 102 48).toInt < m)) : ∃ Y, mo_drifts n 0 B = some Y ∧ Y.2 = B.2 ∧ (∀ o i, o ≠ 134 → Y.1 o i = B.1 o i) ∧ ∀ t, t ≤ c → ∀ w, w < m → Y.1 134 (8 * t + w) = itr (spS m (fun _ w => B.1 107 w) (B.1 109 0) f (slp B)) t w := by
  obtain ⟨A, a1, a2, a3⟩ := dz_s n (fun v2 X1 => (mo_drifts_L23 n n v2 (0 : Int32) X1)) 0 n 8 0 0 B ti0 (by omega) (by omega)
  have aB : ∀ o i, o ≠ 134 → A.1 o i = B.1 o i := fun o i ho => by rw [a3, if_neg (by omega)]
  obtain ⟨Y, y1, y2, y3, y4⟩ := d3_s n hn (md := 0) (B := A) (f := f) (q := fun _ w => B.1 107 w) (P := fun _ s => s = B.1 102 51) hm hc (by rw [aB _ _ (by omega)]; exact b1) (by rw [aB _ _ (by omega)]; exact b2) (fun i hi => by rw [aB _ _ (by omega)]; exact b3 i hi) (by rw [aB _ _ (by omega)]; exact b4) (fun t v X K ht hv hX hs => by
    obtain ⟨Z, z1, z2, z3⟩ := d0_s n K hv (by omega) hm n m 0 0 X ti0 (by omega) (by omega) (by rw [hX.2 _ _ (by omega) (by omega), aB _ _ (by omega)]; exact b1)
    refine ⟨Z, z1, z2, fun o i h1 h2 => by rw [z3, if_neg (by omega)], by rw [z3, if_neg (by omega)]; exact hs, fun w hw => ?_⟩
    rw [z3, if_pos (by omega), hX.2 107 _ (by omega) (by omega), aB _ _ (by omega), show 8 * (t + 1) + w - 8 = 8 * t + w by omega, show 8 * (t + 1) + w - 8 * (t + 1) = w by omega]) n c 0 0 A ti0 (by omega) (by omega) ⟨rfl, fun _ _ _ _ => rfl⟩ (by show A.1 102 51 = _; rw [aB _ _ (by omega)]) (fun t ht w hw => by
    rw [show t = 0 by omega, a3, if_pos (by omega)]; rfl)
  refine ⟨Y, ?_, y2.1.trans a2, fun o i ho => ?_, fun t ht w hw => ?_⟩
  · unfold mo_drifts
    rw [a1, y1]
  · by_cases c1 : o = 102 ∧ i = 51
    · rw [c1.1, c1.2, y3]
    · rw [y2.2 _ _ ho c1, aB _ _ ho]
  · have e : slp A = slp B := by unfold slp; rw [aB _ _ (by omega), aB _ _ (by omega), aB _ _ (by omega)]
    rw [y4 t ht w hw, aB _ _ (by omega), e]
/-- nobody slips -/
theorem slp0 {B : St} {m : Nat} (h : B.1 102 48 = -2) : ∀ t w, w < 8 → slp B t w = 0 := by
  intro t w hw
  unfold slp
  rw [if_neg (fun e => by
    have := congrArg Int32.toInt (e.1.symm.trans h)
    rw [ti_ofNat (by omega), show (-2 : Int32).toInt = -2 by decide] at this
    omega)]
def ap (d l : Nat → Int32) (i j : Nat) : Int32 := jmath_abs ((d i - l i) - (d j - l j))
theorem offC {A : St} {v : Int32} {k : Nat} (hv : v.toInt = k) (hk : (k : Int) < (A.1 1 1).toInt) (h8 : (A.1 1 1).toInt ≤ 8) : tho_offOf v A = some (A.1 27 k - A.1 29 k) := by
  unfold tho_offOf
  rw [if_neg (fun h => has_s.mp h (by omega)), if_pos (by rw [inB_iff]; omega), if_pos (by rw [inB_iff]; omega), nxk hv]
theorem offM {B : St} {v p : Int32} {k t : Nat} (hv : v.toInt = k) (hk : k < 8) (hp : p.toInt = t) (ht : t ≤ 60) : mo_offOf v p B = some (B.1 134 (8 * t + k) - B.1 108 k) := by
  obtain ⟨a1, -⟩ := ix8 hp hv ht hk
  unfold mo_offOf
  rw [if_pos (by rw [inB_iff, a1]; omega), if_pos (by rw [inB_iff]; omega), nxk a1, nxk hv]
theorem betC {A : St} {v u : Int32} {k j : Nat} (hv : v.toInt = k) (hk : (k : Int) < (A.1 1 1).toInt) (hu : u.toInt = j) (hj : (j : Int) < (A.1 1 1).toInt) (h8 : (A.1 1 1).toInt ≤ 8) : tho_between v u A = some (ap (fun w => A.1 27 w) (fun w => A.1 29 w) k j) := by
  unfold tho_between
  rw [offC hv hk h8, offC hu hj h8]
  rfl
theorem aptM {B : St} {v u p : Int32} {k j t : Nat} (hv : v.toInt = k) (hk : k < 8) (hu : u.toInt = j) (hj : j < 8) (hp : p.toInt = t) (ht : t ≤ 60) : mo_apartOf v u p B = some (ap (fun w => B.1 134 (8 * t + w)) (fun w => B.1 108 w) k j) := by
  unfold mo_apartOf
  rw [offM hv hk hp ht, offM hu hj hp ht]
  rfl
theorem ap_cg {d l d' l' : Nat → Int32} {m i j : Nat} (h1 : ∀ w, w < m → d w = d' w) (h2 : ∀ w, w < m → l w = l' w) (hi : i < m) (hj : j < m) : ap d l i j = ap d' l' i j := by
  unfold ap
  rw [h1 i hi, h1 j hj, h2 i hi, h2 j hj]
abbrev bet (F : Int32 → Int32 → Option Int32) (m : Nat) (e : Nat → Nat → Int32) : Prop := ∀ (v u : Int32) (i j : Nat), v.toInt = i → u.toInt = j → i < m → j < m → F v u = some (e i j)
/-- the farthest two so far -/
def far3 (m : Nat) (e : Nat → Nat → Int32) (cd bs g : Int32) : Prop := (cd = -2 ∧ bs = -1 ∧ g = 0) ∨ ∃ i j, i < m ∧ j < m ∧ cd = Int32.ofNat (10 * i + j) ∧ bs = e i j ∧ 0 ≤ bs.toInt ∧ g = bs
theorem ix10 {v u : Int32} {i j : Nat} (hv : v.toInt = i) (hu : u.toInt = j) (hi : i < 8) (hj : j < 8) : (((10 : Int32) * v) + u).toInt = ((10 * i + j : Nat) : Int) := by
  have e1 : ((10 : Int32) * v).toInt = 10 * i := by rw [ti_mul] <;> rw [show (10 : Int32).toInt = 10 by decide] <;> omega
  rw [ti_add] <;> omega
theorem fa1_s (n : Nat) {A B : St} {p : Int32} {m i : Nat} {e : Nat → Nat → Int32} {K1 : Int32 → Int32 → Option Int32} {K2 : Int32 → Int32 → Int32 → Option Int32} {K3 : Int32 → Int32 → Int32 → Int32 → Option Int32} (hm : m ≤ 8) (a1 : (A.1 1 1).toInt = m) (b1 : (B.1 102 0).toInt = m) (hA : bet (fun v u => tho_between v u A) m e) (hB : bet (fun v u => mo_apartOf v u p B) m e) {v : Int32} (hv : v.toInt = i) (hi : i < m) : ∀ (w r j : Nat) (u cd bs g : Int32), u.toInt = j → j + r = m → r < w → far3 m e cd bs g → ∃ cd' bs' g', tho_widest_L19 n A K1 w g v u = K1 g' v ∧ tho_widestTwo_L23 n A K2 w bs cd v u = K2 bs' cd' v ∧ mo_farthest_L23 n B K3 w p cd bs v u = K3 p cd' bs' v ∧ far3 m e cd' bs' g' := by
  intro w
  induction w with
  | zero => intro r j u cd bs g h1 h2 h3; omega
  | succ w ih =>
    intro r j u cd bs g h1 h2 h3 h4
    show ∃ cd' bs' g', tho_widest_L19_B n A K1 (tho_widest_L19 n A K1 w) g v u = K1 g' v ∧ tho_widestTwo_L23_B n A K2 (tho_widestTwo_L23 n A K2 w) bs cd v u = K2 bs' cd' v ∧ mo_farthest_L23_B n B K3 (mo_farthest_L23 n B K3 w) p cd bs v u = K3 p cd' bs' v ∧ far3 m e cd' bs' g'
    unfold tho_widest_L19_B tho_widestTwo_L23_B mo_farthest_L23_B poo_many
    cases r with
    | zero =>
      have q1 : ¬ u < A.1 1 1 := by rw [ltk]; omega
      have q2 : ¬ u < B.1 102 0 := by rw [ltk]; omega
      simp only [if_neg q1, if_neg q2]
      exact ⟨cd, bs, g, rfl, rfl, rfl, h4⟩
    | succ r =>
      have q1 : u < A.1 1 1 := by rw [ltk]; omega
      have q2 : u < B.1 102 0 := by rw [ltk]; omega
      have eA := hA v u i j hv h1 hi (by omega)
      have eB := hB v u i j hv h1 hi (by omega)
      simp only [if_pos q1, if_pos q2, eA, eB, Option.bind_some]
      have s1 := inc h1 (by omega)
      have ecd : ((10 : Int32) * v) + u = Int32.ofNat (10 * i + j) := ofk (ix10 hv h1 (by omega) (by omega))
      by_cases c1 : bs < e i j
      · simp only [if_pos c1]
        rw [ltk] at c1
        refine ih r (j + 1) (u + 1) _ _ _ s1 (by omega) (by omega) (Or.inr ⟨i, j, hi, by omega, ecd, rfl, ?_, ?_⟩)
        · rcases h4 with h | ⟨i', j', -, -, -, -, h, -⟩
          · rw [h.2.1, ti_m1] at c1; omega
          · omega
        · rcases h4 with h | ⟨i', j', -, -, -, -, h, h'⟩
          · rw [h.2.1, ti_m1] at c1
            rw [h.2.2, ti_eq, max_ti, ti0]; omega
          · rw [h', ti_eq, max_ti]; omega
      · simp only [if_neg c1]
        rw [ltk] at c1
        refine ih r (j + 1) (u + 1) _ _ _ s1 (by omega) (by omega) ?_
        rcases h4 with h | ⟨i', j', h5, h6, h7, h8, h9, h'⟩
        · rw [h.2.1, ti_m1] at c1
          refine Or.inl ⟨h.1, h.2.1, ?_⟩
          rw [h.2.2, ti_eq, max_ti, ti0]; omega
        · refine Or.inr ⟨i', j', h5, h6, h7, h8, h9, ?_⟩
          rw [h', ti_eq, max_ti]; omega
theorem fa2_s (n : Nat) (hn : 4096 ≤ n) {A B : St} {p : Int32} {m : Nat} {e : Nat → Nat → Int32} (hm : m ≤ 8) (a1 : (A.1 1 1).toInt = m) (b1 : (B.1 102 0).toInt = m) (hA : bet (fun v u => tho_between v u A) m e) (hB : bet (fun v u => mo_apartOf v u p B) m e) : ∀ (w r i : Nat) (v cd bs g : Int32), v.toInt = i → i + r = m → r < w → far3 m e cd bs g → ∃ cd' bs' g', tho_widest_L4 n A w g v = some g' ∧ tho_widestTwo_L7 n A w bs cd v = some cd' ∧ mo_farthest_L8 n B w p cd bs v = some cd' ∧ far3 m e cd' bs' g' := by
  intro w
  induction w with
  | zero => intro r i v cd bs g h1 h2 h3; omega
  | succ w ih =>
    intro r i v cd bs g h1 h2 h3 h4
    show ∃ cd' bs' g', tho_widest_L4_B n A (tho_widest_L4 n A w) g v = some g' ∧ tho_widestTwo_L7_B n A (tho_widestTwo_L7 n A w) bs cd v = some cd' ∧ mo_farthest_L8_B n B (mo_farthest_L8 n B w) p cd bs v = some cd' ∧ far3 m e cd' bs' g'
    unfold tho_widest_L4_B tho_widestTwo_L7_B mo_farthest_L8_B poo_many
    cases r with
    | zero =>
      have q1 : ¬ v < A.1 1 1 := by rw [ltk]; omega
      have q2 : ¬ v < B.1 102 0 := by rw [ltk]; omega
      simp only [if_neg q1, if_neg q2]
      exact ⟨cd, bs, g, rfl, rfl, rfl, h4⟩
    | succ r =>
      have q1 : v < A.1 1 1 := by rw [ltk]; omega
      have q2 : v < B.1 102 0 := by rw [ltk]; omega
      have s1 := inc h1 (by omega)
      obtain ⟨cd1, bs1, g1, r1, r2, r3, r4⟩ := fa1_s n (K1 := fun v2 v3 => tho_widest_L4 n A w v2 (v3 + 1)) (K2 := fun v3 v4 v5 => tho_widestTwo_L7 n A w v3 v4 (v5 + 1)) (K3 := fun v3 v4 v5 v6 => mo_farthest_L8 n B w v3 v4 v5 (v6 + 1)) hm a1 b1 hA hB h1 (by omega) n (m - (i + 1)) (i + 1) (v + 1) cd bs g s1 (by omega) (by omega) h4
      simp only [if_pos q1, if_pos q2]
      rw [r1, r2, r3]
      exact ih r (i + 1) (v + 1) cd1 bs1 g1 s1 (by omega) (by omega) r4
theorem far_s {n : Nat} (hn : 4096 ≤ n) {A B : St} {p : Int32} {m : Nat} {e : Nat → Nat → Int32} (hm : m ≤ 8) (a1 : (A.1 1 1).toInt = m) (b1 : (B.1 102 0).toInt = m) (hA : bet (fun v u => tho_between v u A) m e) (hB : bet (fun v u => mo_apartOf v u p B) m e) : (∃ g, tho_widest n A = some g ∧ mo_greatest n p B = some g) ∧ ∃ c, tho_widestTwo n A = some c ∧ mo_farthest n p B = some c := by
  obtain ⟨cd, bs, g, r1, r2, r3, r4⟩ := fa2_s n hn hm a1 b1 hA hB n m 0 0 (-2) (-1) 0 ti0 (by omega) (by omega) (Or.inl ⟨rfl, rfl, rfl⟩)
  have r3' : mo_farthest n p B = some cd := r3
  refine ⟨⟨g, r1, ?_⟩, cd, r2, r3⟩
  unfold mo_greatest
  rw [r3', Option.bind_some]
  rcases r4 with h | ⟨i, j, h5, h6, h7, h8, h9, h'⟩
  · rw [if_pos h.1, h.2.2]
  · have ec : cd.toInt = ((10 * i + j : Nat) : Int) := by rw [h7, ti_ofNat (by omega)]
    have d1 : (cd / 10).toInt = i := by
      rw [ti_div (by decide), ec, show (10 : Int32).toInt = 10 by decide, Int.tdiv_eq_ediv_of_nonneg (by omega)]
      omega
    have d2 : (irm cd 10).toInt = j := by
      rw [ti_irm (by decide), ec, show (10 : Int32).toInt = 10 by decide, Int.tmod_eq_emod_of_nonneg (by omega)]
      omega
    rw [if_neg (fun h => by rw [h, show (-2 : Int32).toInt = -2 by decide] at ec; omega), show mo_apartOf (cd / 10) (irm cd 10) p B = some (e i j) from hB _ _ i j d1 d2 h5 h6, Option.bind_some, h', h8]
