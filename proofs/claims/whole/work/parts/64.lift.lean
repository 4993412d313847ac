/-! lift -/
theorem bitm : ∀ a, a < 256 → ∀ k, k < 8 → ((Int32.ofNat a &&& ((1 : Int32) <<< (Int32.ofNat k &&& 31))) = 0 ↔ ¬ ((Int32.ofNat a >>> (Int32.ofNat k &&& 31)) &&& (1 : Int32)) = 1) := by decide +kernel
theorem shlm : ∀ m, m < 9 → ((1 : Int32) <<< (Int32.ofNat m &&& 31)).toInt = ((2 ^ m : Nat) : Int) ∧ 2 ^ m ≤ 256 := by decide
theorem tal_s {X : St} {v : Int32} {k : Nat} (h8 : (X.1 1 1).toInt ≤ 8) (hv : v.toInt = k) (hk : (k : Int) < (X.1 1 1).toInt) : gro_tall v X = some (X.1 5 k) := by
  unfold gro_tall
  rw [show (2 : Int32) = Int32.ofNat 2 by decide, tld 2 (by omega) h8 hv hk]
  rfl
theorem tt_s (n : Nat) {X : St} (hP : IPool X) {K : Int32 → Int32 → Int32 → Int32 → Int32 → Int32 → Int32 → Option Int32} {a b c d e t : Int32} {k0 : Nat} (hk : k0 < 256) : ∀ (w j k : Nat) (v s : Int32), v.toInt = k → k + j = mny X → j < w → ∃ S, gro_tallTogether_L4 n X w (Int32.ofNat k0) s v = some S ∧ mo_lift_L84 n X K w a b c d e (Int32.ofNat k0) (s - 3 * t) v = K a b c d e (Int32.ofNat k0) (S - 3 * t) := by
  obtain ⟨m1, m2⟩ := mny_s hP
  intro w
  induction w with
  | zero => intro j k v s h1 h2 h3; omega
  | succ w ih =>
    intro j k v s h1 h2 h3
    show ∃ S, gro_tallTogether_L4_B n X (gro_tallTogether_L4 n X w) (Int32.ofNat k0) s v = some S ∧ mo_lift_L84_B n X K (mo_lift_L84 n X K w) a b c d e (Int32.ofNat k0) (s - 3 * t) v = K a b c d e (Int32.ofNat k0) (S - 3 * t)
    unfold gro_tallTogether_L4_B mo_lift_L84_B poo_many
    have e0 : X.1 102 0 = X.1 1 1 := hP.1
    rw [e0]
    cases j with
    | zero =>
      have q1 : ¬ v < X.1 1 1 := by rw [ltk]; omega
      simp only [if_neg q1]
      exact ⟨s, rfl, rfl⟩
    | succ j =>
      have q1 : v < X.1 1 1 := by rw [ltk]; omega
      have ev : v = Int32.ofNat k := ofk h1
      have hb := bitm k0 hk k (by omega)
      rw [← ev] at hb
      have ib : inB v 8 = true := by rw [inB_iff]; omega
      simp only [if_pos q1, tal_s (X := X) (by omega) h1 (by omega), Option.bind_some, if_pos ib, nxk h1]
      by_cases c1 : (Int32.ofNat k0 &&& ((1 : Int32) <<< (v &&& 31))) = 0
      · rw [if_pos c1, if_neg (hb.mp c1)]
        exact ih j (k + 1) (v + 1) s (inc h1 (by omega)) (by omega) (by omega)
      · have c2 : ((Int32.ofNat k0 >>> (v &&& 31)) &&& (1 : Int32)) = 1 := Decidable.byContradiction (fun h => c1 (hb.mpr h))
        rw [if_neg c1, if_pos c2, show X.1 105 k = X.1 5 k from pl_w hP (w := 2) (by omega) (by omega)]
        obtain ⟨S, s1, s2⟩ := ih j (k + 1) (v + 1) (s + X.1 5 k) (inc h1 (by omega)) (by omega) (by omega)
        refine ⟨S, s1, ?_⟩
        rw [← s2, show s + X.1 5 k - 3 * t = s - 3 * t + X.1 5 k by grind]
theorem lf1_s (n : Nat) (hn : 4096 ≤ n) {X : St} (hP : IPool X) {K1 : Int32 → Int32 → Int32 → Int32 → Int32 → Option Int32} {K2 : Int32 → Int32 → Int32 → Int32 → Int32 → Option Int32} {a1 a2 v : Int32} {k : Nat} (hv : v.toInt = k) (hk : k < mny X) : ∀ (w j x : Nat) (u b p q : Int32), u.toInt = x → x + j = 2 ^ mny X → j < w → ∃ b' p' q', gro_lifted_L27 n X K1 w a1 b p q v u = K1 a1 b' p' q' v ∧ mo_lift_L35 n X K2 w a2 p q b v u = K2 a2 p' q' b' v := by
  obtain ⟨m1, m2⟩ := mny_s hP
  have e0 : X.1 102 0 = X.1 1 1 := hP.1
  obtain ⟨t1, t2⟩ := shlm (mny X) (by omega)
  have et : (1 : Int32) <<< (X.1 1 1 &&& 31) = (1 : Int32) <<< (Int32.ofNat (mny X) &&& 31) := by rw [← ofk m1]
  intro w
  induction w with
  | zero => intro j x u b p q h1 h2 h3; omega
  | succ w ih =>
    intro j x u b p q h1 h2 h3
    show ∃ b' p' q', gro_lifted_L27_B n X K1 (gro_lifted_L27 n X K1 w) a1 b p q v u = K1 a1 b' p' q' v ∧ mo_lift_L35_B n X K2 (mo_lift_L35 n X K2 w) a2 p q b v u = K2 a2 p' q' b' v
    unfold gro_lifted_L27_B mo_lift_L35_B poo_many
    rw [e0, et]
    cases j with
    | zero =>
      have q1 : ¬ u < (1 : Int32) <<< (Int32.ofNat (mny X) &&& 31) := by rw [ltk, t1]; omega
      simp only [if_neg q1]
      exact ⟨b, p, q, rfl, rfl⟩
    | succ j =>
      have q1 : u < (1 : Int32) <<< (Int32.ofNat (mny X) &&& 31) := by rw [ltk, t1]; omega
      have eu : u = Int32.ofNat x := ofk h1
      have ev : v = Int32.ofNat k := ofk hv
      have hb := bitm x (by omega) k (by omega)
      rw [← ev, ← eu] at hb
      have ib : inB v 8 = true := by rw [inB_iff]; omega
      have s1 := inc h1 (by omega)
      have et5 : X.1 105 k = X.1 5 k := pl_w hP (w := 2) (by omega) (by omega)
      have tt : ∀ K, ∃ S, gro_tallTogether n u X = some S ∧ mo_lift_L84 n X K n a2 p q b v u ((-3 : Int32) * X.1 5 k) 0 = K a2 p q b v u (S - 3 * X.1 5 k) := by
        intro K
        obtain ⟨S, r1, r2⟩ := tt_s n hP (K := K) (a := a2) (b := p) (c := q) (d := b) (e := v) (t := X.1 5 k) (k0 := x) (by omega) n (mny X) 0 0 0 ti0 (by omega) (by omega)
        rw [← eu] at r1 r2
        refine ⟨S, r1, ?_⟩
        rw [← r2, show (-3 : Int32) * X.1 5 k = 0 - 3 * X.1 5 k by grind]
      have fin := ih j (x + 1) (u + 1)
      obtain ⟨S, r1, r2⟩ := tt (fun v1 v2 v3 v4 v5 v6 v7 =>
        (if v7 < 0 then
        (mo_lift_L35 n X K2 w v1 v2 v3 v4 v5 (v6 + (1 : Int32)))
        else
        (if v2 = (-2 : Int32) then
        (mo_lift_L35 n X K2 w v1 v5 v6 v7 v5 (v6 + (1 : Int32)))
        else
        (if v7 < v4 then
        (mo_lift_L35 n X K2 w v1 v5 v6 v7 v5 (v6 + (1 : Int32)))
        else
        (mo_lift_L35 n X K2 w v1 v2 v3 v4 v5 (v6 + (1 : Int32)))))))
      simp only [if_pos q1, r1, tal_s (X := X) (by omega) hv (by omega), Option.bind_some, if_pos ib, nxk hv, et5, r2]
      unfold gro_lifted_J87
      by_cases c1 : jint_bitCount u = 3
      · simp only [if_pos c1]
        by_cases c2 : (u &&& ((1 : Int32) <<< (v &&& 31))) = 0
        · simp only [if_pos c2, if_neg (hb.mp c2)]
          by_cases c3 : S - 3 * X.1 5 k < 0
          · simp only [if_pos c3, ↓reduceIte]
            exact fin b p q s1 (by omega) (by omega)
          · simp only [if_neg c3, show ¬ (1 : Int32) = 0 by decide, ↓reduceIte]
            by_cases c4 : p = -2
            · simp only [if_pos c4]
              exact fin _ _ _ s1 (by omega) (by omega)
            · simp only [if_neg c4]
              by_cases c5 : S - 3 * X.1 5 k < b
              · simp only [if_pos c5]
                exact fin _ _ _ s1 (by omega) (by omega)
              · simp only [if_neg c5]
                exact fin _ _ _ s1 (by omega) (by omega)
        · have c3 : ((u >>> (v &&& 31)) &&& (1 : Int32)) = 1 := Decidable.byContradiction (fun h => c2 (hb.mpr h))
          simp only [if_neg c2, if_pos c3, ↓reduceIte]
          exact fin _ _ _ s1 (by omega) (by omega)
      · simp only [if_neg c1, ↓reduceIte]
        exact fin _ _ _ s1 (by omega) (by omega)
theorem lf2_s (n : Nat) (hn : 4096 ≤ n) {X : St} (hP : IPool X) {a1 a2 : Int32} (ha : a1 = 0 ↔ ¬ a2 = 0) : ∀ (w j k : Nat) (v b p q : Int32), v.toInt = k → k + j = mny X → j < w → ∃ r, gro_lifted_L12 n X w a1 b p q v = some r ∧ mo_lift_L23 n X w a2 p q b v = some r := by
  obtain ⟨m1, m2⟩ := mny_s hP
  have e0 : X.1 102 0 = X.1 1 1 := hP.1
  obtain ⟨t1, t2⟩ := shlm (mny X) (by omega)
  intro w
  induction w with
  | zero => intro j k v b p q h1 h2 h3; omega
  | succ w ih =>
    intro j k v b p q h1 h2 h3
    show ∃ r, gro_lifted_L12_B n X (gro_lifted_L12 n X w) a1 b p q v = some r ∧ mo_lift_L23_B n X (mo_lift_L23 n X w) a2 p q b v = some r
    unfold gro_lifted_L12_B mo_lift_L23_B poo_many
    rw [e0]
    cases j with
    | zero =>
      have q1 : ¬ v < X.1 1 1 := by rw [ltk]; omega
      simp only [if_neg q1]
      by_cases c : a1 = 0
      · rw [if_pos c, if_neg (ha.mp c)]
        exact ⟨q, rfl, rfl⟩
      · rw [if_neg c, if_pos (Decidable.byContradiction (fun h => c (ha.mpr h)))]
        exact ⟨p, rfl, rfl⟩
    | succ j =>
      have q1 : v < X.1 1 1 := by rw [ltk]; omega
      obtain ⟨b', p', q', r1, r2⟩ := lf1_s n hn hP (K1 := fun v3 v4 v5 v6 v7 => gro_lifted_L12 n X w v3 v4 v5 v6 (v7 + 1)) (K2 := fun v8 v9 v10 v11 v12 => mo_lift_L23 n X w v8 v9 v10 v11 (v12 + 1)) (a1 := a1) (a2 := a2) h1 (by omega) n (2 ^ mny X) 0 0 b p q ti0 (by omega) (by omega)
      simp only [if_pos q1]
      rw [r1, r2]
      exact ih j (k + 1) (v + 1) b' p' q' (inc h1 (by omega)) (by omega) (by omega)
theorem op_lift (n : Nat) (hn : 4096 ≤ n) (v : Int32) (X : St) (hP : IPool X) : ∃ r, el_lift n v X = some r ∧ mo_lift n v X = some r := by
  unfold el_lift mo_lift gro_lifted
  by_cases hv : 0 ≤ v.toInt ∧ v.toInt ≤ 1
  · rw [if_neg (fun h => zo0.mp h hv), if_neg (fun h => w01.mp h hv)]
    by_cases c : v = 0
    · obtain ⟨r, r1, r2⟩ := lf2_s n hn hP (a1 := 1) (a2 := v) ⟨fun h => absurd h (by decide), fun h => absurd c h⟩ n (mny X) 0 0 0 (-2) (-2) ti0 (by omega) (by have := (mny_s hP).2; omega)
      refine ⟨r, ?_, r2⟩
      rw [if_pos c, r1]
      rfl
    · obtain ⟨r, r1, r2⟩ := lf2_s n hn hP (a1 := 0) (a2 := v) ⟨fun _ => c, fun _ => rfl⟩ n (mny X) 0 0 0 (-2) (-2) ti0 (by omega) (by have := (mny_s hP).2; omega)
      refine ⟨r, ?_, r2⟩
      rw [if_neg c, r1]
      rfl
  · refine ⟨-1, ?_, ?_⟩
    · rw [if_pos (zo0.mpr hv)]
    · rw [if_pos (w01.mpr hv)]
