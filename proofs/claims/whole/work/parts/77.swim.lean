/-! swim -/
theorem orm : ∀ b, b < 256 → ∀ k, k < 8 → (Int32.ofNat b ||| ((1 : Int32) <<< (Int32.ofNat k &&& 31))) = Int32.ofNat (b ||| 2 ^ k) ∧ b ||| 2 ^ k < 256 := by decide +kernel
theorem tbm : ∀ b, b < 256 → ∀ k, k < 8 → ((Int32.ofNat b &&& ((1 : Int32) <<< (Int32.ofNat k &&& 31))) = 0 ↔ Nat.testBit b k = false) := by decide +kernel
/-- who is gone, in thought -/
theorem g2_s {n : Nat} (hn : 4096 ≤ n) {X A : St} {c : Nat} {f : Nat → Int32} (hP : IPool X) (hB : IBnd X) (hc : c ≤ 60) (hA : agA X c f A) {k : Nat} (hk : k < mny X) : ∃ G, (∀ v : Int32, v.toInt = k → tho_goneOf n v A = some G) ∧ ∀ B : St, B.1 102 44 = Int32.ofNat c → (∀ i, i < c → B.1 133 i = f i) → B.1 106 k = X.1 6 k → B.1 109 2 = X.1 11 0 → mo_goneAt n (B.1 106 k) B = some G := by
  obtain ⟨m1, m2⟩ := mny_s hP
  have a1 : A.1 1 1 = X.1 1 1 := hA.1 _ _ (by omega)
  have hb := br_rng hB (k := k) (by omega)
  have A24 : (A.1 24 1).toInt = c := by rw [hA.2.2.1]; exact ti_ofNat (by omega)
  have run := fun (B : St) (h1 : B.1 102 44 = Int32.ofNat c) (h2 : ∀ i, i < c → B.1 133 i = f i) (h3 : B.1 109 2 = X.1 11 0) => gone_s n (b := X.1 6 k) (up := X.1 11 0) (A := A) (B := B) f hc (by omega) (up_rng hB) A24 hA.2.2.2 (by rw [h1]; exact ti_ofNat (by omega)) h2 h3 n c 0 0 0 0 0 (by omega) (by omega) ti0 (by decide) (by decide) (by rw [ti0]; omega) (by decide) (by decide) (by have := up_rng hB; rw [ti0]; omega)
  -- a state that the model may be in
  obtain ⟨G, g1, -⟩ := run (stI (stI (fun o i => if o = 133 then f i else 0, fun _ _ => 0) 102 44 (Int32.ofNat c)) 109 2 (X.1 11 0)) (by rw [stI_at, if_neg (by omega), stI_self]) (fun i hi => by rw [stI_at, if_neg (by omega), stI_at, if_neg (by omega)]; show (if 133 = 133 then f i else 0) = f i; exact if_pos rfl) stI_self
  refine ⟨G, fun v hv => ?_, fun B h1 h2 h3 h4 => ?_⟩
  · unfold tho_goneOf
    rw [show (3 : Int32) = Int32.ofNat 3 by decide, tld 3 (by omega) (by rw [a1]; omega) hv (by rw [a1]; omega), Option.bind_some, show (8 : Int32) = Int32.ofNat 8 by decide, tldw 8 (by omega) (by rw [a1]; omega), Option.bind_some, hA.1 (3 + 3) _ (by omega), hA.1 (3 + 8) _ (by omega)]
    unfold rou_firstGone
    rw [g1]
    rfl
  · obtain ⟨G', g3, g4⟩ := run B h1 h2 h4
    rw [g1] at g3
    injection g3 with g3
    rw [h3, g3]
    exact g4
theorem ab_s (n : Nat) {A : St} {m : Nat} {G : Nat → Int32} (hm : m ≤ 8) (h1 : (A.1 1 1).toInt = m) (hG : ∀ (k : Nat) (v : Int32), k < m → v.toInt = k → tho_goneOf n v A = some (G k)) : ∀ (w r k : Nat) (v : Int32) (b : Nat), v.toInt = k → k + r = m → r < w → b < 256 → ∃ b', b' < 256 ∧ tho_allGone_L4 n A w (Int32.ofNat b) v = some (Int32.ofNat b') ∧ ∀ i, i < 8 → (b'.testBit i = true ↔ (b.testBit i = true ∨ (k ≤ i ∧ i < m ∧ G i ≠ -2))) := by
  intro w
  induction w with
  | zero => intro r k v b h1 h2 h3; omega
  | succ w ih =>
    intro r k v b hv h2 h3 hb
    show ∃ b', b' < 256 ∧ tho_allGone_L4_B n A (tho_allGone_L4 n A w) (Int32.ofNat b) v = some (Int32.ofNat b') ∧ _
    unfold tho_allGone_L4_B poo_many
    cases r with
    | zero =>
      rw [if_neg (by rw [ltk]; omega)]
      exact ⟨b, hb, rfl, fun i hi => ⟨fun h => Or.inl h, fun h => h.elim id (fun z => by omega)⟩⟩
    | succ r =>
      rw [if_pos (by rw [ltk]; omega), hG k v (by omega) hv, Option.bind_some]
      have s1 := inc hv (by omega)
      by_cases c : G k = -2
      · rw [if_pos c]
        obtain ⟨b', b1, b2, b3⟩ := ih r (k + 1) (v + 1) b s1 (by omega) (by omega) hb
        refine ⟨b', b1, b2, fun i hi => (b3 i hi).trans ⟨fun h => h.elim Or.inl (fun z => Or.inr ⟨by omega, z.2⟩), fun h => h.elim Or.inl (fun z => ?_)⟩⟩
        by_cases e : i = k
        · rw [e] at z; exact absurd c z.2.2
        · exact Or.inr ⟨by omega, z.2⟩
      · rw [if_neg c, Option.bind_some]
        obtain ⟨o1, o2⟩ := orm b hb k (by omega)
        rw [ofk hv, o1, ← ofk hv]
        obtain ⟨b', b1, b2, b3⟩ := ih r (k + 1) (v + 1) (b ||| 2 ^ k) s1 (by omega) (by omega) o2
        refine ⟨b', b1, b2, fun i hi => (b3 i hi).trans ?_⟩
        rw [Nat.testBit_or, Nat.testBit_two_pow, Bool.or_eq_true, decide_eq_true_eq]
        constructor
        · rintro ((h | h) | h)
          · exact Or.inl h
          · exact Or.inr ⟨by omega, by omega, by rw [← h]; exact c⟩
          · exact Or.inr ⟨by omega, h.2⟩
        · rintro (h | h)
          · exact Or.inl (Or.inl h)
          · by_cases e : k = i
            · exact Or.inl (Or.inr e)
            · exact Or.inr ⟨by omega, h.2⟩
theorem und_s (n : Nat) {K : Int32 → Int32 → St → Option (Int32 × St)} {A B : St} {c : Nat} {f : Nat → Int32} {v3 : Int32} (hc : c ≤ 60) (a1 : (A.1 24 1).toInt = c) (a2 : ∀ i, i < c → A.1 25 i = f i) (b1 : (B.1 102 44).toInt = c) (b2 : ∀ i, i < c → B.1 133 i = f i) : ∀ (w r k : Nat) (v s : Int32), v.toInt = k → k + r = c → r < w → ∃ s', rou_countsUnder_L4 n A w s v = some s' ∧ mo_swim_L38 n K w v3 s v B = K v3 s' B := by
  intro w
  induction w with
  | zero => intro r k v s h1 h2 h3; omega
  | succ w ih =>
    intro r k v s h1 h2 h3
    show ∃ s', rou_countsUnder_L4_B n A (rou_countsUnder_L4 n A w) s v = some s' ∧ mo_swim_L38_B n K (mo_swim_L38 n K w) v3 s v B = K v3 s' B
    unfold rou_countsUnder_L4_B mo_swim_L38_B
    cases r with
    | zero =>
      rw [if_neg (by rw [ltk]; omega), if_neg (by rw [ltk]; omega)]
      exact ⟨s, rfl, rfl⟩
    | succ r =>
      have ib : inB v 60 = true := by rw [inB_iff]; omega
      have q1 : v < A.1 24 1 := by rw [ltk]; omega
      have q2 : v < B.1 102 44 := by rw [ltk]; omega
      have s1 := inc h1 (by omega)
      rw [if_pos q1, if_pos q2, if_pos ib, if_pos ib, nxk h1, a2 k (by omega), b2 k (by omega), und_eq]
      by_cases c1 : rou_isUnder (f k) = 0
      · rw [if_pos c1, if_pos c1]
        exact ih r (k + 1) (v + 1) s s1 (by omega) (by omega)
      · rw [if_neg c1, if_neg c1]
        exact ih r (k + 1) (v + 1) (s + 1) s1 (by omega) (by omega)
/-- deeds, alike on both sides -/
def ded2 (A B : St) : Prop := (∀ i, i < 8 → A.1 82 i = B.1 110 i ∧ A.1 83 i = B.1 111 i) ∧ A.1 84 3 = B.1 123 3 ∧ A.1 84 4 = B.1 123 4
theorem sw_s (n : Nat) {K : Int32 → St → Option St} {m b : Nat} {G : Nat → Int32} {mm tot cu : Int32} {B0 : St} (hm : m ≤ 8) (hmm : mm.toInt = m) (hb : b < 256) (hbit : ∀ i, i < 8 → (b.testBit i = true ↔ (i < m ∧ G i ≠ -2))) (b0 : (B0.1 102 0).toInt = m) (HG : ∀ B : St, (∀ o i, o ≠ 110 → o ≠ 111 → o ≠ 123 → B.1 o i = B0.1 o i) → ∀ k, k < m → mo_goneAt n (B.1 106 k) B = some (G k)) : ∀ (w r k : Nat) (v : Int32) (A B : St), v.toInt = k → k + r = m → r < w → ded2 A B → (∀ o i, o ≠ 110 → o ≠ 111 → o ≠ 123 → B.1 o i = B0.1 o i) → ∃ A' B', ded_swum_L9 n K w mm tot (Int32.ofNat b) cu v A = K tot A' ∧ mo_swim_L105 n w tot cu v B = some (tot, B') ∧ ded2 A' B' ∧ (∀ o i, ¬ ((o = 82 ∨ o = 83) ∧ i < m) → ¬ (o = 84 ∧ 3 ≤ i) → A'.1 o i = A.1 o i) ∧ (∀ o i, o ≠ 110 → o ≠ 111 → ¬ (o = 123 ∧ 3 ≤ i) → B'.1 o i = B.1 o i) := by
  have e8 : (8 : Int32).toInt = 8 := by decide
  intro w
  induction w with
  | zero => intro r k v A B h1 h2 h3; omega
  | succ w ih =>
    intro r k v A B h1 h2 h3 hR hB
    show ∃ A' B', ded_swum_L9_B n K (ded_swum_L9 n K w) mm tot (Int32.ofNat b) cu v A = K tot A' ∧ mo_swim_L105_B n (mo_swim_L105 n w) tot cu v B = some (tot, B') ∧ _
    unfold ded_swum_L9_B mo_swim_L105_B
    have b1 : (B.1 102 0).toInt = m := by rw [hB _ _ (by omega) (by omega) (by omega)]; exact b0
    cases r with
    | zero =>
      rw [if_neg (by rw [ltk, min_ti, e8]; omega), if_neg (by rw [ltk]; omega)]
      exact ⟨A, B, rfl, rfl, hR, fun _ _ _ _ => rfl, fun _ _ _ _ _ => rfl⟩
    | succ r =>
      have ib : inB v 8 = true := by rw [inB_iff]; omega
      have s1 := inc h1 (by omega)
      have q1 : v < jmath_min mm 8 := by rw [ltk, min_ti, e8]; omega
      have q2 : v < B.1 102 0 := by rw [ltk]; omega
      obtain ⟨R1, R2, R3⟩ := hR
      have tb := tbm b hb k (by omega)
      rw [← ofk h1] at tb
      have n3 : nx (3 : Int32) = 3 := by decide
      have n4 : nx (4 : Int32) = 4 := by decide
      -- the class's and the model's tiredness
      have fin : ∀ (A1 B1 : St), ded2 A1 B1 → (∀ o i, ¬ ((o = 82 ∨ o = 83) ∧ i < m) → ¬ (o = 84 ∧ 3 ≤ i) → A1.1 o i = A.1 o i) → (∀ o i, o ≠ 110 → o ≠ 111 → ¬ (o = 123 ∧ 3 ≤ i) → B1.1 o i = B.1 o i) → ∃ A' B', ded_swum_L9 n K w mm tot (Int32.ofNat b) cu (v + 1) A1 = K tot A' ∧ mo_swim_L105 n w tot cu (v + 1) B1 = some (tot, B') ∧ ded2 A' B' ∧ (∀ o i, ¬ ((o = 82 ∨ o = 83) ∧ i < m) → ¬ (o = 84 ∧ 3 ≤ i) → A'.1 o i = A.1 o i) ∧ (∀ o i, o ≠ 110 → o ≠ 111 → ¬ (o = 123 ∧ 3 ≤ i) → B'.1 o i = B.1 o i) := by
        intro A1 B1 g1 g2 g3
        obtain ⟨A', B', t1, t2, t3, t4, t5⟩ := ih r (k + 1) (v + 1) A1 B1 s1 (by omega) (by omega) g1 (fun o i o1 o2 o3 => by rw [g3 o i o1 o2 (by omega)]; exact hB o i o1 o2 o3)
        exact ⟨A', B', t1, t2, t3, fun o i h h' => (t4 o i h h').trans (g2 o i h h'), fun o i o1 o2 o3 => (t5 o i o1 o2 o3).trans (g3 o i o1 o2 o3)⟩
      rw [if_pos q1, if_pos q2, if_pos ib, nxk h1, HG B hB k (by omega), Option.bind_some]
      have R82 := (R1 k (by omega)).1
      have R83 := (R1 k (by omega)).2
      unfold ded_tire
      rw [if_pos ib, if_pos ib, if_pos ib, if_pos ib, nxk h1, stI_self]
      by_cases cb : G k = -2
      · have nb : (Int32.ofNat b &&& ((1 : Int32) <<< (v &&& 31))) = 0 := tb.mpr (by
          cases e : b.testBit k with
          | false => rfl
          | true => exact absurd cb ((hbit k (by omega)).mp e).2)
        rw [if_pos cb]
        unfold mo_swim_J151
        rw [if_pos ib, if_pos ib, if_pos ib, if_pos ib, nxk h1, stI_self, R82]
        by_cases ct : B.1 110 k + cu < 100
        · rw [if_pos ct, if_pos ct, Option.bind_some, if_pos nb]
          refine fin _ _ ⟨fun i hi => ⟨?_, ?_⟩, ?_, ?_⟩ (fun o i h h' => ?_) (fun o i o1 o2 o3 => ?_)
          · rw [stI_at, stI_at]
            by_cases e : i = k
            · rw [if_pos ⟨rfl, e⟩, if_pos ⟨rfl, e⟩]
            · rw [if_neg (fun z => e z.2), if_neg (fun z => e z.2)]; exact (R1 i hi).1
          · rw [stI_at, if_neg (by omega), stI_at, if_neg (by omega)]; exact (R1 i hi).2
          · rw [stI_at, if_neg (by omega), stI_at, if_neg (by omega)]; exact R2
          · rw [stI_at, if_neg (by omega), stI_at, if_neg (by omega)]; exact R3
          · rw [stI_at, if_neg (by omega)]
          · rw [stI_at, if_neg (by omega)]
        · rw [if_neg ct, if_neg ct, Option.bind_some, Option.bind_some, Option.bind_some, Option.bind_some, Option.bind_some, if_pos nb, n4]
          refine fin _ _ ⟨fun i hi => ⟨?_, ?_⟩, ?_, ?_⟩ (fun o i h h' => ?_) (fun o i o1 o2 o3 => ?_)
          · simp only [stI_at, Nat.reduceEqDiff, false_and, ↓reduceIte, true_and]
            by_cases e : i = k
            · rw [if_pos e, if_pos e]
            · rw [if_neg e, if_neg e, if_neg e, if_neg e]; exact (R1 i hi).1
          · simp only [stI_at, Nat.reduceEqDiff, false_and, ↓reduceIte, true_and]
            exact (R1 i hi).2
          · simp only [stI_at, Nat.reduceEqDiff, false_and, and_false, ↓reduceIte, true_and, and_self]
            exact R2
          · simp only [stI_at, Nat.reduceEqDiff, false_and, and_false, ↓reduceIte, true_and, and_self]
            rw [R3]
          · rw [stI_at, if_neg (by omega), stI_at, if_neg (by omega), stI_at, if_neg (by omega)]
          · rw [stI_at, if_neg (by omega), stI_at, if_neg (by omega), stI_at, if_neg (by omega)]
      · have nb : ¬ (Int32.ofNat b &&& ((1 : Int32) <<< (v &&& 31))) = 0 := fun e => by
          have := tb.mp e
          rw [(hbit k (by omega)).mpr ⟨by omega, cb⟩] at this
          cases this
        rw [if_neg cb]
        unfold mo_swim_J151
        have m110 : ∀ (x y : Int32) i, (stI (stI B 111 k x) 123 3 y).1 110 i = B.1 110 i := fun x y i => by rw [stI_at, if_neg (by omega), stI_at, if_neg (by omega)]
        simp only [if_pos ib, Option.bind_some, nxk h1, n3, n4, stI_self, m110, R82]
        by_cases ct : B.1 110 k + cu < 100
        · simp only [if_pos ct, Option.bind_some, if_neg nb]
          refine fin _ _ ⟨fun i hi => ⟨?_, ?_⟩, ?_, ?_⟩ (fun o i h h' => ?_) (fun o i o1 o2 o3 => ?_)
          · simp only [stI_at, Nat.reduceEqDiff, false_and, ↓reduceIte, true_and]
            by_cases e : i = k
            · rw [if_pos e, if_pos e]
            · rw [if_neg e, if_neg e]; exact (R1 i hi).1
          · simp only [stI_at, Nat.reduceEqDiff, false_and, ↓reduceIte, true_and]
            by_cases e : i = k
            · rw [if_pos e, if_pos e, R83]
            · rw [if_neg e, if_neg e]; exact (R1 i hi).2
          · simp only [stI_at, Nat.reduceEqDiff, false_and, and_false, ↓reduceIte, true_and, and_self]
            rw [R2]
          · simp only [stI_at, Nat.reduceEqDiff, false_and, and_false, ↓reduceIte, true_and, and_self]
            exact R3
          · rw [stI_at, if_neg (by omega), stI_at, if_neg (by omega), stI_at, if_neg (by omega)]
          · rw [stI_at, if_neg (by omega), stI_at, if_neg (by omega), stI_at, if_neg (by omega)]
        · simp only [if_neg ct, Option.bind_some, if_neg nb]
          refine fin _ _ ⟨fun i hi => ⟨?_, ?_⟩, ?_, ?_⟩ (fun o i h h' => ?_) (fun o i o1 o2 o3 => ?_)
          · simp only [stI_at, Nat.reduceEqDiff, false_and, ↓reduceIte, true_and]
            by_cases e : i = k
            · rw [if_pos e, if_pos e]
            · rw [if_neg e, if_neg e, if_neg e, if_neg e]; exact (R1 i hi).1
          · simp only [stI_at, Nat.reduceEqDiff, false_and, ↓reduceIte, true_and]
            by_cases e : i = k
            · rw [if_pos e, if_pos e, R83]
            · rw [if_neg e, if_neg e]; exact (R1 i hi).2
          · simp only [stI_at, Nat.reduceEqDiff, false_and, and_false, ↓reduceIte, true_and, and_self]
            rw [R2]
          · simp only [stI_at, Nat.reduceEqDiff, false_and, and_false, ↓reduceIte, true_and, and_self]
            rw [R3]
          · rw [stI_at, if_neg (by omega), stI_at, if_neg (by omega), stI_at, if_neg (by omega), stI_at, if_neg (by omega), stI_at, if_neg (by omega)]
          · rw [stI_at, if_neg (by omega), stI_at, if_neg (by omega), stI_at, if_neg (by omega), stI_at, if_neg (by omega), stI_at, if_neg (by omega)]
