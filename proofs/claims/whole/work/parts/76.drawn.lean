/-! drawn -/
def nxs (s : Int32) : Int32 := s * (1103515245 : Int32) + (12345 : Int32)
def sdk : Nat → Int32 → Int32
  | 0, s => s
  | k + 1, s => nxs (sdk k s)
/-- whether she slips at a draw -/
def drw (sl s : Int32) (w : Nat) : Int32 := if (irm (jus (sdk (w + 1) s) (8 : Int32)) (12 : Int32)) < sl then 1 else 0
def rowS (m : Nat) : Nat → Int32 → Int32
  | 0, s => s
  | t + 1, s => sdk m (rowS m t s)
theorem sbd_s (n : Nat) {sl s : Int32} {m : Nat} (hm : m ≤ 8) : ∀ (w r k : Nat) (v3 v4 : Int32) (A : St), v4.toInt = k → k + r = m → r < w → v3 = sdk k s → (A.1 1 1).toInt = m → ∃ Y, tho_slipByDraws_L5 n w sl v3 v4 A = some (sdk m s, Y) ∧ Y.2 = A.2 ∧ ∀ o i, Y.1 o i = if o = 27 ∧ k ≤ i ∧ i < m then A.1 27 i + drw sl s i else A.1 o i := by
  intro w
  induction w with
  | zero => intro r k v3 v4 A h1 h2 h3; omega
  | succ w ih =>
    intro r k v3 v4 A h1 h2 h3 h4 h5
    show ∃ Y, tho_slipByDraws_L5_B n (tho_slipByDraws_L5 n w) sl v3 v4 A = _ ∧ _
    unfold tho_slipByDraws_L5_B poo_many
    cases r with
    | zero =>
      have ek : k = m := by omega
      subst ek
      rw [if_neg (by rw [ltk]; omega), h4]
      exact ⟨A, rfl, rfl, fun o i => by rw [if_neg (by omega)]⟩
    | succ r =>
      have ib : inB v4 8 = true := by rw [inB_iff]; omega
      have e1 : v3 * (1103515245 : Int32) + (12345 : Int32) = sdk (k + 1) s := by rw [h4]; rfl
      rw [if_pos (by rw [ltk]; omega), Option.bind_some, e1]
      have s1 := inc h1 (by omega)
      by_cases c : (irm (jus (sdk (k + 1) s) (8 : Int32)) (12 : Int32)) < sl
      · rw [if_pos c, if_pos ib, if_pos ib, nxk h1]
        obtain ⟨Y, y1, y2, y3⟩ := ih r (k + 1) (sdk (k + 1) s) (v4 + 1) (stI A 27 k (A.1 27 k + 1)) s1 (by omega) (by omega) rfl (by rw [stI_at, if_neg (by omega)]; exact h5)
        refine ⟨Y, y1, y2, fun o i => ?_⟩
        rw [y3]
        by_cases c1 : o = 27 ∧ k + 1 ≤ i ∧ i < m
        · rw [if_pos c1, if_pos (by omega), stI_at, if_neg (by omega)]
        · rw [if_neg c1, stI_at]
          by_cases c2 : o = 27 ∧ i = k
          · rw [if_pos c2, if_pos (by omega), c2.2]
            unfold drw
            rw [if_pos c]
          · rw [if_neg c2, if_neg (by omega)]
      · rw [if_neg c]
        obtain ⟨Y, y1, y2, y3⟩ := ih r (k + 1) (sdk (k + 1) s) (v4 + 1) A s1 (by omega) (by omega) rfl h5
        refine ⟨Y, y1, y2, fun o i => ?_⟩
        rw [y3]
        by_cases c1 : o = 27 ∧ k + 1 ≤ i ∧ i < m
        · rw [if_pos c1, if_pos (by omega)]
        · rw [if_neg c1]
          by_cases c2 : o = 27 ∧ i = k
          · rw [if_pos (by omega), c2.1, c2.2]
            unfold drw
            rw [if_neg c, Int32.add_zero]
          · rw [if_neg (by omega)]
/-- how far off each is, in a training that begins with seed s -/
def drD (X : St) (m : Nat) (f : Nat → Int32) (sl s : Int32) : Nat → Nat → Int32 := itr (spS m (fun t w => X.1 7 w + drw sl (rowS m t s) w) (X.1 9 0) f (fun _ _ => 0))
theorem tr1_s (n : Nat) (hn : 4096 ≤ n) {X : St} {M : Mk6} {m c : Nat} {f : Nat → Int32} {K : Int32 → Int32 → Int32 → Int32 → Int32 → Int32 → Int32 → Int32 → St → Option (Int32 × St)} {v2 sl v4 v6 v7 v8 s : Int32} (hm : m ≤ 8) (hc : c ≤ 60) (hM : MkC n X M) (hs : 1 ≤ (X.1 10 0).toInt) : ∀ (w r k : Nat) (v10 v9 v5 : Int32) (A : St), v10.toInt = k → k + r = c → r < w → v5 = rowS m k s → TC X m c f (fun w => X.1 7 w) (fun w => X.1 8 w) (X.1 9 0) A → (∀ w, w < m → A.1 27 w = drD X m f sl s k w) → ∃ A', tho_train_L28 n K w v2 sl v4 v5 v6 v7 v8 v9 v10 A = K v2 sl v4 (rowS m c s) v6 v7 v8 (v9 + sumF (fun t => sumP m (lf M X (drD X m f sl s) (fun w => X.1 8 w) f t)) k r) A' ∧ ∀ o i, ¬ tcw o i → A'.1 o i = A.1 o i := by
  intro w
  induction w with
  | zero => intro r k v10 v9 v5 A h1 h2 h3; omega
  | succ w ih =>
    intro r k v10 v9 v5 A h1 h2 h3 h4 hA hd
    show ∃ A', tho_train_L28_B n K (tho_train_L28 n K w) v2 sl v4 v5 v6 v7 v8 v9 v10 A = _ ∧ _
    unfold tho_train_L28_B rou_counts
    have hc1 : (A.1 24 1).toInt = c := by rw [hA.1.2.1]; exact ti_ofNat (by omega)
    cases r with
    | zero =>
      have ek : k = c := by omega
      refine ⟨A, ?_, fun _ _ _ => rfl⟩
      rw [if_neg (by rw [ltk]; omega), h4, ek]
      show _ = K v2 sl v4 (rowS m c s) v6 v7 v8 (v9 + 0) A
      rw [Int32.add_zero]
    | succ r =>
      obtain ⟨Y, y1, y2, y3⟩ := sbd_s n (sl := sl) (s := rowS m k s) hm n m 0 (rowS m k s) 0 A ti0 (by omega) (by omega) rfl hA.1.1
      have y1' : tho_slipByDraws n v5 sl A = some (rowS m (k + 1) s, Y) := by rw [h4]; exact y1
      have hY : TC X m c f (fun w => X.1 7 w) (fun w => X.1 8 w) (X.1 9 0) Y := hA.cg hm (fun o i ho => by rw [y3, if_neg (fun z => ho (Or.inr (Or.inr (Or.inl z.1))))])
      obtain ⟨Z, z1, z2, z3, z4⟩ := step_s (c := f k) hn hm hY.1.1
      have hZ : TC X m c f (fun w => X.1 7 w) (fun w => X.1 8 w) (X.1 9 0) Z := hY.cg hm (fun o i ho => z3 o i (fun z => ho (Or.inr (Or.inr (Or.inl z)))))
      have zd : ∀ w, w < m → Z.1 27 w = drD X m f sl s (k + 1) w := by
        intro w hw
        have e27 : ∀ u, u < m → Y.1 27 u = drD X m f sl s k u + drw sl (rowS m k s) u := fun u hu => by
          rw [y3, if_pos (by omega), hd u hu]
        rw [z4 w hw, hY.1.2.2.2.2.2]
        show _ = stp m (fun w => X.1 7 w + drw sl (rowS m k s) w) (X.1 9 0) (f k) (drD X m f sl s k) w + 0
        unfold stp
        rw [Int32.add_zero]
        by_cases c1 : f k = 4 ∧ (0 ≤ (X.1 9 0).toInt ∧ (X.1 9 0).toInt < m)
        · have := nx_ti c1.2.1
          have q : Y.1 28 (nx (X.1 9 0)) = X.1 7 (nx (X.1 9 0)) := hY.1.2.2.2.1 _ (by omega)
          rw [if_pos c1, if_pos c1]
          dsimp only
          rw [e27 _ (by omega), q]
          grind
        · have q : Y.1 28 w = X.1 7 w := hY.1.2.2.2.1 w hw
          rw [if_neg c1, if_neg c1]
          dsimp only
          rw [e27 w hw, q]
          grind
      obtain ⟨U, u1, u2, u3⟩ := mb_s hn hm hc hM hs h1 (by omega) hZ zd
      have uA : ∀ o i, ¬ tcw o i → U.1 o i = A.1 o i := fun o i ho => by
        rw [u3 o i (fun z => ho (Or.inl z)) (fun z => ho (Or.inr (Or.inl z))) (fun z => ho (Or.inr (Or.inr (Or.inr (Or.inr z))))), if_neg (fun z => ho (Or.inr (Or.inr (Or.inr (Or.inl (by omega)))))), z3 o i (fun z => ho (Or.inr (Or.inr (Or.inl z)))), y3, if_neg (fun z => ho (Or.inr (Or.inr (Or.inl z.1))))]
      obtain ⟨A', r1, r2⟩ := ih r (k + 1) (v10 + 1) (v9 + sumP m (los M X (drD X m f sl s (k + 1)) (fun w => X.1 8 w) (f k) v10)) (rowS m (k + 1) s) U (inc h1 (by omega)) (by omega) (by omega) rfl (hA.cg hm uA) (fun w hw => by
        rw [u3 _ _ (by omega) (by omega) (by omega), if_neg (by omega)]
        exact zd w hw)
      have ev : v10 = Int32.ofNat k := ofk h1
      have y24 : (Y.1 24 1).toInt = c := by rw [hY.1.2.1]; exact ti_ofNat (by omega)
      refine ⟨A', ?_, fun o i ho => (r2 o i ho).trans (uA o i ho)⟩
      rw [if_pos (by rw [ltk]; omega), y1', Option.bind_some]
      dsimp only
      rw [actAt_s y24 hc h1 (by omega), hY.1.2.2.1 k (by omega), Option.bind_some, z1, Option.bind_some, u1, Option.bind_some]
      dsimp only
      refine r1.trans ?_
      show K v2 sl v4 (rowS m c s) v6 v7 v8 (v9 + sumP m (los M X (drD X m f sl s (k + 1)) (fun w => X.1 8 w) (f k) v10) + sumF (fun t => sumP m (lf M X (drD X m f sl s) (fun w => X.1 8 w) f t)) (k + 1) r) A' = K v2 sl v4 (rowS m c s) v6 v7 v8 (v9 + (sumP m (lf M X (drD X m f sl s) (fun w => X.1 8 w) f k) + sumF (fun t => sumP m (lf M X (drD X m f sl s) (fun w => X.1 8 w) f t)) (k + 1) r)) A'
      rw [Int32.add_assoc, ev]
      rfl
/-- each has drifted on: with draws -/
theorem e0_s (n : Nat) (K : Int32 → Int32 → St → Option St) {v sl s : Int32} {t m : Nat} (hv : v.toInt = t) (ht : t < 60) (hm : m ≤ 8) : ∀ (w u k : Nat) (p : Int32) (X : St), p.toInt = k → k + u = m → u < w → (X.1 102 0).toInt = m → X.1 102 52 = sl → X.1 102 51 = sdk k s → ∃ Y, mo_drifts_L33 n K w 1 v p X = K 1 v Y ∧ Y.2 = X.2 ∧ Y.1 102 51 = sdk m s ∧ ∀ o i, ¬ (o = 102 ∧ i = 51) → Y.1 o i = if o = 134 ∧ 8 * (t + 1) + k ≤ i ∧ i < 8 * (t + 1) + m then X.1 134 (i - 8) + (X.1 107 (i - 8 * (t + 1)) + drw sl s (i - 8 * (t + 1))) else X.1 o i := by
  intro w
  induction w with
  | zero => intro u k p X h1 h2 h3; omega
  | succ w ih =>
    intro u k p X h1 h2 h3 h4 h5 h6
    show ∃ Y, mo_drifts_L33_B n K (mo_drifts_L33 n K w) 1 v p X = K 1 v Y ∧ _
    unfold mo_drifts_L33_B
    cases u with
    | zero =>
      have ek : k = m := by omega
      refine ⟨X, ?_, rfl, by rw [h6, ek], fun o i _ => ?_⟩
      · rw [if_neg (by rw [ltk]; omega)]
      · rw [if_neg (by omega)]
    | succ u =>
      have ib : inB p 8 = true := by rw [inB_iff]; omega
      have e1 : X.1 102 51 * (1103515245 : Int32) + (12345 : Int32) = sdk (k + 1) s := by rw [h6]; rfl
      have x51 : (stI X 102 51 (sdk (k + 1) s)).1 102 51 = sdk (k + 1) s := stI_self
      have x52 : (stI X 102 51 (sdk (k + 1) s)).1 102 52 = sl := by rw [stI_at, if_neg (by omega)]; exact h5
      have x107 : (stI X 102 51 (sdk (k + 1) s)).1 107 k = X.1 107 k := by rw [stI_at, if_neg (by omega)]
      have x134 : (stI X 102 51 (sdk (k + 1) s)).1 134 (8 * t + k) = X.1 134 (8 * t + k) := by rw [stI_at, if_neg (by omega)]
      rw [if_pos (by rw [ltk]; omega), if_pos ib, if_neg (by decide), e1, Option.bind_some, x51, x52]
      have goal : ∀ e : Int32, e = X.1 107 k + drw sl s k → ∃ Y, mo_drifts_J89 n (mo_drifts_L33 n K w) 1 v p e (stI X 102 51 (sdk (k + 1) s)) = K 1 v Y ∧ Y.2 = X.2 ∧ Y.1 102 51 = sdk m s ∧ ∀ o i, ¬ (o = 102 ∧ i = 51) → Y.1 o i = if o = 134 ∧ 8 * (t + 1) + k ≤ i ∧ i < 8 * (t + 1) + m then X.1 134 (i - 8) + (X.1 107 (i - 8 * (t + 1)) + drw sl s (i - 8 * (t + 1))) else X.1 o i := by
        intro e he
        obtain ⟨Y, y1, y2, y3, y4⟩ := ih u (k + 1) (p + 1) (stI (stI X 102 51 (sdk (k + 1) s)) 134 (8 * (t + 1) + k) (X.1 134 (8 * t + k) + e)) (inc h1 (by omega)) (by omega) (by omega) (by rw [stI_at, if_neg (by omega), stI_at, if_neg (by omega)]; exact h4) (by rw [stI_at, if_neg (by omega)]; exact x52) (by rw [stI_at, if_neg (by omega)]; exact x51)
        refine ⟨Y, ?_, y2, y3, fun o i ho => ?_⟩
        · rw [J89_s hv h1 ht (by omega), x134]
          exact y1
        · rw [y4 o i ho]
          by_cases c1 : o = 134 ∧ 8 * (t + 1) + (k + 1) ≤ i ∧ i < 8 * (t + 1) + m
          · rw [if_pos c1, if_pos (by omega), stI_at, if_neg (by omega), stI_at, if_neg (by omega), stI_at, if_neg (by omega), stI_at, if_neg (by omega)]
          · rw [if_neg c1, stI_at]
            by_cases c2 : o = 134 ∧ i = 8 * (t + 1) + k
            · rw [if_pos c2, if_pos (by omega), c2.2, he, show 8 * (t + 1) + k - 8 = 8 * t + k by omega, show 8 * (t + 1) + k - 8 * (t + 1) = k by omega]
            · rw [if_neg c2, if_neg (by omega), stI_at, if_neg ho]
      by_cases c : (irm (jus (sdk (k + 1) s) (8 : Int32)) (12 : Int32)) < sl
      · rw [if_pos c, nxk h1]
        exact goal _ (by unfold drw; rw [if_pos c])
      · rw [if_neg c, nxk h1]
        exact goal _ (by unfold drw; rw [if_neg c, Int32.add_zero])
theorem drifts1_s {n : Nat} (hn : 4096 ≤ n) {X : St} {m c : Nat} {B : St} {f : Nat → Int32} {sl s : Int32} (hm : m ≤ 8) (hc : c ≤ 60) (hB : TB X m c f (fun w => X.1 7 w) (fun w => X.1 8 w) (X.1 9 0) B) (b4 : B.1 102 48 = -2) (b5 : B.1 102 52 = sl) (b6 : B.1 102 51 = s) : ∃ Y, mo_drifts n 1 B = some Y ∧ Y.2 = B.2 ∧ (∀ o i, o ≠ 134 → ¬ (o = 102 ∧ i = 51) → Y.1 o i = B.1 o i) ∧ Y.1 102 51 = rowS m c s ∧ ∀ t, t ≤ c → ∀ w, w < m → Y.1 134 (8 * t + w) = drD X m f sl s t w := by
  obtain ⟨A, a1, a2, a3⟩ := dz_s n (fun v2 X1 => (mo_drifts_L23 n n v2 (0 : Int32) X1)) 1 n 8 0 0 B ti0 (by omega) (by omega)
  have aB : ∀ o i, o ≠ 134 → A.1 o i = B.1 o i := fun o i ho => by rw [a3, if_neg (by omega)]
  have a48 : A.1 102 48 = -2 := (aB _ _ (by omega)).trans b4
  obtain ⟨Y, y1, y2, y3, y4⟩ := d3_s n hn (md := 1) (B := A) (f := f) (q := fun t w => B.1 107 w + drw sl (rowS m t s) w) (P := fun t z => z = rowS m t s) hm hc (by rw [aB _ _ (by omega)]; exact hB.1) (by rw [aB _ _ (by omega), hB.2.1]; exact ti_ofNat (by omega)) (fun i hi => by rw [aB _ _ (by omega)]; exact hB.2.2.1 i hi) (Or.inl a48) (fun t v Z K ht hv hZ hz => by
    obtain ⟨U, u1, u2, u3, u4⟩ := e0_s n K (sl := sl) (s := rowS m t s) hv (by omega) hm n m 0 0 Z ti0 (by omega) (by omega) (by rw [hZ.2 _ _ (by omega) (by omega), aB _ _ (by omega)]; exact hB.1) (by rw [hZ.2 _ _ (by omega) (by omega), aB _ _ (by omega)]; exact b5) hz
    refine ⟨U, u1, u2, fun o i h1 h2 => by rw [u4 o i h2, if_neg (by omega)], u3, fun w hw => ?_⟩
    rw [u4 _ _ (by omega), if_pos (by omega), hZ.2 107 _ (by omega) (by omega), aB _ _ (by omega), show 8 * (t + 1) + w - 8 = 8 * t + w by omega, show 8 * (t + 1) + w - 8 * (t + 1) = w by omega]) n c 0 0 A ti0 (by omega) (by omega) ⟨rfl, fun _ _ _ _ => rfl⟩ (by show A.1 102 51 = s; rw [aB _ _ (by omega)]; exact b6) (fun t ht w hw => by
    rw [show t = 0 by omega, a3, if_pos (by omega)]; rfl)
  refine ⟨Y, ?_, y2.1.trans a2, fun o i ho hi => by rw [y2.2 _ _ ho hi, aB _ _ ho], y3, fun t ht w hw => ?_⟩
  · unfold mo_drifts
    rw [a1, y1]
  · rw [y4 t ht w hw]
    unfold drD
    rw [show A.1 109 0 = X.1 9 0 from (aB _ _ (by omega)).trans hB.2.2.2.2.2.1]
    refine itr_eq (T := c) (fun t ht d e hd w hw => ?_) t ht w hw
    unfold spS
    rw [slp0 (m := 8) a48 t w (by omega)]
    have : stp m (fun w => B.1 107 w + drw sl (rowS m t s) w) (X.1 9 0) (f t) d w = stp m (fun w => X.1 7 w + drw sl (rowS m t s) w) (X.1 9 0) (f t) e w := by
      unfold stp
      by_cases c1 : f t = 4 ∧ (0 ≤ (X.1 9 0).toInt ∧ (X.1 9 0).toInt < m)
      · have := nx_ti c1.2.1
        have q : B.1 107 (nx (X.1 9 0)) = X.1 7 (nx (X.1 9 0)) := hB.2.2.2.1 _ (by omega)
        rw [if_pos c1, if_pos c1]
        dsimp only
        rw [hd _ (by omega), q]
      · have q : B.1 107 w = X.1 7 w := hB.2.2.2.1 w hw
        rw [if_neg c1, if_neg c1]
        dsimp only
        rw [hd w hw, q]
    rw [this]
theorem trn_s (n : Nat) (hn : 4096 ≤ n) {X : St} {M : Mk6} {c : Nat} {f : Nat → Int32} {T sl kd v3 v4 : Int32} (hP : IPool X) (hc : c ≤ 60) (hMC : MkC n X M) (hMM : MkM n X M) (hs : 1 ≤ (X.1 10 0).toInt) (hk : kd = 0 ↔ ¬ v4 = 0) (h3 : v3 / (100 : Int32) = T) : ∀ (w r : Nat) (v8 s v6 v7 : Int32) (A B : St), v8.toInt + r = T.toInt → 0 ≤ v8.toInt → T.toInt ≤ 30 → r < w → TC X (mny X) c f (fun w => X.1 7 w) (fun w => X.1 8 w) (X.1 9 0) A → TB X (mny X) c f (fun w => X.1 7 w) (fun w => X.1 8 w) (X.1 9 0) B → B.1 102 48 = -2 → B.1 102 52 = sl → B.1 102 51 = s → ∃ R A' B', tho_train_L12 n w T sl kd s v6 v7 v8 A = some (R, A') ∧ mo_drawn_L88 n w v3 v4 v6 v7 v8 B = some (R, B') ∧ B'.1 102 48 = -2 := by
  obtain ⟨m1, m2⟩ := mny_s hP
  intro w
  induction w with
  | zero => intro r v8 s v6 v7 A B h1 h2 h3 h4; omega
  | succ w ih =>
    intro r v8 s v6 v7 A B h1 h2 h3' h4 hA hB h48 h52 h51
    show ∃ R A' B', tho_train_L12_B n (tho_train_L12 n w) T sl kd s v6 v7 v8 A = some (R, A') ∧ mo_drawn_L88_B n (mo_drawn_L88 n w) v3 v4 v6 v7 v8 B = some (R, B') ∧ B'.1 102 48 = -2
    unfold tho_train_L12_B mo_drawn_L88_B
    rw [h3]
    cases r with
    | zero =>
      have q1 : ¬ v8 < T := by rw [ltk]; omega
      rw [if_neg q1, if_neg q1]
      by_cases c0 : kd = 0
      · rw [if_pos c0, if_neg (hk.mp c0)]
        exact ⟨_, A, B, rfl, rfl, h48⟩
      · rw [if_neg c0, if_pos (Decidable.byContradiction (fun h => c0 (hk.mpr h)))]
        exact ⟨_, A, B, rfl, rfl, h48⟩
    | succ r =>
      have q1 : v8 < T := by rw [ltk]; omega
      obtain ⟨Z, z1, z2, z3, z4⟩ := still_s hn A
      obtain ⟨A', r1, r2⟩ := tr1_s n hn (K := fun v9 v10 v11 v12 v13 v14 v15 v16 X8 =>
        (if v16 = 0 then
        (tho_train_L12 n w v9 v10 v11 v12 (v13 + v16) (v14 + (1 : Int32)) (v15 + (1 : Int32)) X8)
        else
        (tho_train_L12 n w v9 v10 v11 v12 (v13 + v16) (v14 + (0 : Int32)) (v15 + (1 : Int32)) X8))) (v2 := T) (sl := sl) (v4 := kd) (v6 := v6) (v7 := v7) (v8 := v8) (s := s) m2 hc hMC hs n c 0 0 0 s Z ti0 (by omega) (by omega) rfl (hA.cg m2 (fun o i ho => z3 o i (fun z => ho (Or.inr (Or.inr (Or.inl z)))))) (fun w hw => by rw [z4 w (by omega)]; rfl)
      obtain ⟨D, d1, d2, d3, d4, d5⟩ := drifts1_s hn (sl := sl) (s := s) m2 hc hB h48 h52 h51
      have hDB : TB X (mny X) c f (fun w => X.1 7 w) (fun w => X.1 8 w) (X.1 9 0) D := hB.cg (fun o i o1 o2 o3 o4 o5 => d3 o i o3 (by omega))
      have hD : TM X (mny X) c f (fun w => X.1 8 w) (drD X (mny X) f sl s) D := ⟨hDB.1, by rw [hDB.2.1]; exact ti_ofNat (by omega), hDB.2.2.1, hDB.2.2.2.2.1, d5, hDB.2.2.2.2.2.2.1, hDB.2.2.2.2.2.2.2.1, hDB.2.2.2.2.2.2.2.2⟩
      obtain ⟨B', b1, b2, b3, -⟩ := mm_s hn hP m2 hc hMM hs hD
      rw [sum_tp, Int32.zero_add] at r1
      generalize sumP (mny X) (fun i j => sumF (fun t => lf M X (drD X (mny X) f sl s) (fun w => X.1 8 w) f t i j) 0 c) = V at r1 b1
      have hA' : TC X (mny X) c f (fun w => X.1 7 w) (fun w => X.1 8 w) (X.1 9 0) A' := hA.cg m2 (fun o i ho => (r2 o i ho).trans (z3 o i (fun z => ho (Or.inr (Or.inr (Or.inl z))))))
      have hB' : TB X (mny X) c f (fun w => X.1 7 w) (fun w => X.1 8 w) (X.1 9 0) B' := hDB.cg (fun o i o1 o2 o3 o4 o5 => b3 o i o1 o2 o4)
      have ev : (v8 + 1).toInt = v8.toInt + 1 := by rw [ti_add] <;> rw [ti1] <;> omega
      rw [if_pos q1, z1, Option.bind_some, r1, if_pos q1, d1, Option.bind_some, b1, Option.bind_some]
      dsimp only
      have fin := fun v6 v7 => ih r (v8 + 1) (rowS (mny X) c s) v6 v7 A' B' (by omega) (by omega) h3' (by omega) hA' hB' (by rw [b3 _ _ (by omega) (by omega) (by omega), d3 _ _ (by omega) (by omega)]; exact h48) (by rw [b3 _ _ (by omega) (by omega) (by omega), d3 _ _ (by omega) (by omega)]; exact h52) (by rw [b3 _ _ (by omega) (by omega) (by omega)]; exact d4)
      by_cases c0 : V = 0
      · rw [if_pos c0, if_pos c0]
        exact fin _ _
      · rw [if_neg c0, if_neg c0, Int32.add_zero]
        exact fin _ _
theorem op_drawn (n : Nat) (hn : 4096 ≤ n) (a s v u : Int32) (X : St) (hP : IPool X) (hB : IBnd X) (hs : ISh X) (hw : IWy X) (hp : ISlp X) (hL : ILaw X) : ∃ r X1, el_drawn n a s v u X = some (r, X1) ∧ ∀ Y, Mo X Y → ∃ Y1, mo_drawn n a s v u Y = some (r, Y1) ∧ Y1.1 102 48 = -2 := by
  obtain ⟨m1, m2⟩ := mny_s hP
  refine joinr (fun Y hY => ?_)
  have e30 : (30 : Int32).toInt = 30 := by decide
  have e12 : (12 : Int32).toInt = 12 := by decide
  have e100 : (100 : Int32).toInt = 100 := by decide
  have y48 : Y.1 102 48 = -2 := (hY.2 _ _ (by omega)).trans hp
  have badC : ∀ x y, el_drawn_J47 n s u x y 0 a X = some (-1, X) := fun x y => by
    unfold el_drawn_J47
    rw [bad_s (Or.inl rfl), Option.bind_some]
    dsimp only
    rw [if_neg (by decide)]
  have hq : (v / 100).toInt = v.toInt.tdiv 100 := ti_div (by decide)
  unfold el_drawn mo_drawn
  by_cases ha : 0 ≤ a.toInt ∧ a.toInt ≤ 5
  · have hx := nx_ti ha.1
    rw [if_neg (c := mo_isShelf a = 0) (fun h => shm0.mp h ha)]
    simp only [badC]
    by_cases h1 : 1 ≤ (v / 100).toInt ∧ (v / 100).toInt ≤ 30
    · have vpos : ¬ v < 0 := by
        intro h
        rw [ltk, ti0] at h
        have := Int.tdiv_nonneg (a := -v.toInt) (b := 100) (by omega) (by omega)
        rw [Int.neg_tdiv] at this
        omega
      rw [if_neg (c := v / 100 < 1) (by rw [ltk, ti1]; omega), if_neg (c := 30 < v / 100) (by rw [ltk, e30]; omega), if_neg (c := v < 0) vpos, if_neg (c := mo_within (v / 100) 1 30 = 0) (fun h => by have := within0.mp h; rw [ti1, e30] at this; omega)]
      by_cases h2 : 12 < irm v 100
      · rw [if_pos h2, if_pos h2]
        exact ⟨_, _, rfl, _, rfl, y48⟩
      rw [if_neg h2, if_neg h2]
      by_cases hu : 0 ≤ u.toInt ∧ u.toInt ≤ 1
      · rw [if_neg (c := el_isZeroOrOne u = 0) (fun h => zo0.mp h hu), if_neg (c := mo_within u 0 1 = 0) (fun h => w01.mp h hu)]
        unfold el_drawn_J47
        rcases beg_s hn (h := 1) (by decide) ha hP hs hw with ⟨c, k1, k2, k3⟩ | ⟨A, x1, x2, x3⟩
        · refine ⟨c, X, ?_, Y, ?_, y48⟩
          · rw [k2, Option.bind_some]
            dsimp only
            rw [if_neg k1.1]
          · rw [k3 Y hY, Option.bind_some, if_pos k1.2]
        · obtain ⟨y0, B, b1, b2⟩ := x3 Y hY
          obtain ⟨M, hMC, hMM⟩ := marks_ex hn hL
          have hc := rc_le hs (a := nx a) (by omega)
          have h48 : B.1 102 48 = -2 := (b2.lo (by omega) (by omega) (by omega)).trans hp
          have hB0 : TB X (mny X) (rc X (nx a)) (ac X (nx a)) (fun w => X.1 7 w) (fun w => X.1 8 w) (X.1 9 0) (stI (stI B 102 51 s) 102 52 (irm v 100)) := (b2.tb hP).cg (fun o i o1 o2 o3 o4 o5 => by rw [stI_at, if_neg (by omega), stI_at, if_neg (by omega)])
          have run := fun kd hk => trn_s n hn (T := v / 100) (sl := irm v 100) (kd := kd) (v3 := v) (v4 := u) hP hc hMC hMM (seen_rng hB).1 hk rfl n (v / 100).toInt.toNat 0 s 0 0 A (stI (stI B 102 51 s) 102 52 (irm v 100)) (by rw [ti0]; omega) (by decide) h1.2 (by omega) (x2.tc hP) hB0 (by rw [stI_at, if_neg (by omega), stI_at, if_neg (by omega)]; exact h48) stI_self (by rw [stI_at, if_neg (by omega), stI_self])
          rw [x1, Option.bind_some]
          dsimp only
          rw [if_pos rfl, y0, Option.bind_some, if_neg (c := (0 : Int32) < 0) (by decide), b1, Option.bind_some]
          unfold tho_train
          by_cases c0 : u = 0
          · obtain ⟨R, A', B', r1, r2, r3⟩ := run 1 ⟨fun h => absurd h (by decide), fun h => absurd c0 h⟩
            rw [if_pos c0, r1]
            exact ⟨R, A', rfl, B', r2, r3⟩
          · obtain ⟨R, A', B', r1, r2, r3⟩ := run 0 ⟨fun _ => c0, fun _ => rfl⟩
            rw [if_neg c0, r1]
            exact ⟨R, A', rfl, B', r2, r3⟩
      · rw [if_pos (c := el_isZeroOrOne u = 0) (zo0.mpr hu), if_pos (c := mo_within u 0 1 = 0) (w01.mpr hu)]
        exact ⟨_, _, rfl, _, rfl, y48⟩
    · refine ⟨-1, X, ?_, Y, ?_, y48⟩
      · by_cases c1 : v / 100 < 1
        · rw [if_pos c1]
        · rw [if_neg c1, if_pos (by rw [ltk, e30]; rw [ltk, ti1] at c1; omega)]
      · by_cases c1 : v < 0
        · rw [if_pos c1]
        · rw [if_neg c1, if_pos (within0.mpr (by rw [ti1, e30]; omega))]
  · refine ⟨-1, X, ?_, Y, ?_, y48⟩
    · unfold el_drawn_J47
      simp only [bad_s (Or.inr ha), Option.bind_some, show ¬ (-1 : Int32) = 0 by decide, ↓reduceIte, ite_self]
    · rw [if_pos (shm0.mpr ha)]
