/-! the fewest: the model's search -/
abbrev agS (B0 B : St) : Prop := ∀ o i, o ≠ 133 → o ≠ 134 → o ≠ 136 → ¬ (o = 102 ∧ i = 51) → B.1 o i = B0.1 o i
def CK (n : Nat) (fm : Int32) (X : St) : Option (Int32 × St) := (if fm = (1 : Int32) then
  ((mo_goneBits n X).bind fun c1 =>
  (if c1 = 0 then
  (some ((1 : Int32), X))
  else
  (some ((0 : Int32), X))))
  else
  ((mo_isNeverApart n X).bind fun (c3, X2) =>
  (if isZ c3 then (some (c3, X2)) else none)))
theorem dfs_s {n : Nat} (hn : 4096 ≤ n) {fm to : Int32} {c K : Nat} {f : Nat → Int32} {dl : Nat → Int32 → Option Nat} {B0 : St} (hc : c ≤ 16) (hK : K ≤ 10) (b44 : (B0.1 102 44).toInt = c) (HC : ∀ (B : St) (g : Nat → Int32), agS B0 B → (∀ j, j < c → B.1 133 j = g j) → ∃ r B', CK n fm B = some (r, B') ∧ (r = 0 ∨ r = 1) ∧ (r = 1 ↔ (rnS dl g c).isSome = true) ∧ ∀ o i, o ≠ 134 → ¬ (o = 102 ∧ i = 51) → B'.1 o i = B.1 o i) : ∀ (k d i t : Nat) (B : St) (g : Nat → Int32), k < d → i + k = K → t ≤ c → agS B0 B → (∀ j, j < c → B.1 133 j = g j) → (∀ j, t ≤ j → j < c → g j = f j) → ∃ r B', mo_picks_grp n d 0 (Int32.ofNat i) (Int32.ofNat K) (Int32.ofNat t) fm to B = some (r, B') ∧ (r = 0 ∨ r = 1) ∧ (r = 1 ↔ exB c f fm to dl (c - t) (rnS dl g t) k = true) ∧ (r = 1 → ∀ j, i ≤ j → j < K → B'.1 136 j = Int32.ofNat ((sol c f fm to dl (c - t) (rnS dl g t) k).getD (j - i) 0)) ∧ (∀ j, j < i → B'.1 136 j = B.1 136 j) ∧ (∀ j, j < c → B'.1 133 j = g j) ∧ agS B0 B' := by
  intro k
  induction k with
  | zero =>
    intro d i t B g hd hi ht hB hg hgf
    obtain ⟨D, rfl⟩ : ∃ D, d = D + 1 := ⟨d - 1, by omega⟩
    have ei : i = K := by omega
    subst ei
    obtain ⟨r, B', r1, r2, r3, r4⟩ := HC B g hB hg
    refine ⟨r, B', ?_, r2, ?_, fun _ j j1 j2 => by omega, fun j hj => r4 _ _ (by omega) (by omega), fun j hj => (r4 _ _ (by omega) (by omega)).trans (hg j hj), fun o i o1 o2 o3 o4 => (r4 o i o2 o4).trans (hB o i o1 o2 o3 o4)⟩
    · show mo_picks_G (mo_picks_grp n D) n (Int32.ofNat i) (Int32.ofNat i) (Int32.ofNat t) fm to B = _
      unfold mo_picks_G
      rw [if_pos rfl]
      exact r1
    · exact r3.trans (ex0_s (c - t) t (by omega) hgf).symm
  | succ k ihk =>
    intro d i t B g hd hi ht hB hg hgf
    obtain ⟨D, rfl⟩ : ∃ D, d = D + 1 := ⟨d - 1, by omega⟩
    have ne : ¬ Int32.ofNat i = Int32.ofNat K := fun e => by
      have := congrArg Int32.toInt e
      rw [ti_ofNat (by omega), ti_ofNat (by omega)] at this
      omega
    -- from a place on
    have loop : ∀ (r w t : Nat) (v : Int32) (B : St) (g : Nat → Int32), t + r = c → r < w → v.toInt = t → agS B0 B → (∀ j, j < c → B.1 133 j = g j) → (∀ j, t ≤ j → j < c → g j = f j) → ∃ r' B', mo_picks_L34 (mo_picks_grp n D) n w (Int32.ofNat i) (Int32.ofNat K) fm to v B = some (r', B') ∧ (r' = 0 ∨ r' = 1) ∧ (r' = 1 ↔ exB c f fm to dl r (rnS dl g t) (k + 1) = true) ∧ (r' = 1 → ∀ j, i ≤ j → j < K → B'.1 136 j = Int32.ofNat ((sol c f fm to dl r (rnS dl g t) (k + 1)).getD (j - i) 0)) ∧ (∀ j, j < i → B'.1 136 j = B.1 136 j) ∧ (∀ j, j < c → B'.1 133 j = g j) ∧ agS B0 B' := by
      intro r
      induction r with
      | zero =>
        intro w t v B g h1 h2 h3 hB hg hgf
        obtain ⟨W, rfl⟩ : ∃ W, w = W + 1 := ⟨w - 1, by omega⟩
        have e44 : (B.1 102 44).toInt = c := by rw [hB _ _ (by omega) (by omega) (by omega) (by omega)]; exact b44
        refine ⟨0, B, ?_, Or.inl rfl, ?_, fun h => absurd h (by decide), fun _ _ => rfl, hg, hB⟩
        · show mo_picks_L34_B (mo_picks_grp n D) n (mo_picks_L34 (mo_picks_grp n D) n W) (Int32.ofNat i) (Int32.ofNat K) fm to v B = _
          unfold mo_picks_L34_B
          rw [if_neg (by rw [ltk]; omega)]
        · refine ⟨fun h => absurd h (by decide), fun h => ?_⟩
          have h' : ((rnS dl g t).isSome && decide (k + 1 = 0)) = true := h
          rw [Bool.and_eq_true, decide_eq_true_eq] at h'
          omega
      | succ r ihr =>
        intro w t v B g h1 h2 h3 hB hg hgf
        obtain ⟨W, rfl⟩ : ∃ W, w = W + 1 := ⟨w - 1, by omega⟩
        have e44 : (B.1 102 44).toInt = c := by rw [hB _ _ (by omega) (by omega) (by omega) (by omega)]; exact b44
        show ∃ r' B', mo_picks_L34_B (mo_picks_grp n D) n (mo_picks_L34 (mo_picks_grp n D) n W) (Int32.ofNat i) (Int32.ofNat K) fm to v B = some (r', B') ∧ _
        have ec : c - (r + 1) = t := by omega
        have EX : exB c f fm to dl (r + 1) (rnS dl g t) (k + 1) = (exB c f fm to dl r ((rnS dl g t).bind fun x => dl x (f t)) (k + 1) || (decide (f t = fm) && exB c f fm to dl r ((rnS dl g t).bind fun x => dl x to) k)) := by
          show (exB c f fm to dl r ((rnS dl g t).bind fun x => dl x (f (c - (r + 1)))) (k + 1) || (decide (f (c - (r + 1)) = fm) && (decide (0 < k + 1) && exB c f fm to dl r ((rnS dl g t).bind fun x => dl x to) (k + 1 - 1)))) = _
          rw [ec, show decide (0 < k + 1) = true from decide_eq_true (by omega), Bool.true_and, Nat.add_sub_cancel]
        have SL : sol c f fm to dl (r + 1) (rnS dl g t) (k + 1) = if f t = fm ∧ exB c f fm to dl r ((rnS dl g t).bind fun x => dl x to) k = true then t :: sol c f fm to dl r ((rnS dl g t).bind fun x => dl x to) k else sol c f fm to dl r ((rnS dl g t).bind fun x => dl x (f t)) (k + 1) := by
          show (if k + 1 = 0 then [] else if f (c - (r + 1)) = fm ∧ exB c f fm to dl r ((rnS dl g t).bind fun x => dl x to) (k + 1 - 1) = true then (c - (r + 1)) :: sol c f fm to dl r ((rnS dl g t).bind fun x => dl x to) (k + 1 - 1) else sol c f fm to dl r ((rnS dl g t).bind fun x => dl x (f (c - (r + 1)))) (k + 1)) = _
          rw [ec, if_neg (Nat.succ_ne_zero k), Nat.add_sub_cancel]
        have gt : g t = f t := hgf t (Nat.le_refl _) (by omega)
        have rn1 : rnS dl g (t + 1) = (rnS dl g t).bind fun x => dl x (f t) := by
          show (rnS dl g t).bind (fun x => dl x (g t)) = _
          rw [gt]
        have s3 := inc h3 (by omega)
        -- not here
        have skip : ∀ (B2 : St), (¬ (f t = fm ∧ exB c f fm to dl r ((rnS dl g t).bind fun x => dl x to) k = true)) → agS B0 B2 → (∀ j, j < c → B2.1 133 j = g j) → (∀ j, j < i → B2.1 136 j = B.1 136 j) → ∃ r' B', mo_picks_L34 (mo_picks_grp n D) n W (Int32.ofNat i) (Int32.ofNat K) fm to (v + 1) B2 = some (r', B') ∧ (r' = 0 ∨ r' = 1) ∧ (r' = 1 ↔ exB c f fm to dl (r + 1) (rnS dl g t) (k + 1) = true) ∧ (r' = 1 → ∀ j, i ≤ j → j < K → B'.1 136 j = Int32.ofNat ((sol c f fm to dl (r + 1) (rnS dl g t) (k + 1)).getD (j - i) 0)) ∧ (∀ j, j < i → B'.1 136 j = B.1 136 j) ∧ (∀ j, j < c → B'.1 133 j = g j) ∧ agS B0 B' := by
          intro B2 hno hB2 hg2 h136
          obtain ⟨r', B', q1, q2, q3, q4, q5, q6, q7⟩ := ihr W (t + 1) (v + 1) B2 g (by omega) (by omega) s3 hB2 hg2 (fun j j1 j2 => hgf j (by omega) j2)
          rw [rn1] at q3 q4
          refine ⟨r', B', q1, q2, ?_, ?_, fun j hj => (q5 j hj).trans (h136 j hj), q6, q7⟩
          · rw [EX]
            have : (decide (f t = fm) && exB c f fm to dl r ((rnS dl g t).bind fun x => dl x to) k) = false := by
              cases hb : (decide (f t = fm) && exB c f fm to dl r ((rnS dl g t).bind fun x => dl x to) k) with
              | false => rfl
              | true =>
                rw [Bool.and_eq_true, decide_eq_true_eq] at hb
                exact absurd hb hno
            rw [this, Bool.or_false]
            exact q3
          · rw [SL, if_neg hno]
            exact q4
        unfold mo_picks_L34_B
        rw [if_pos (by rw [ltk]; omega), if_pos (by rw [inB_iff]; omega), nxk h3, hg t (by omega), gt]
        by_cases c1 : f t = fm
        · have ib : inB v 60 = true := by rw [inB_iff]; omega
          have ii : (Int32.ofNat i).toInt = i := ti_ofNat (by omega)
          rw [if_pos c1, if_pos ib, if_pos (by rw [inB_iff]; omega), nxk ii]
          have e1 : Int32.ofNat i + 1 = Int32.ofNat (i + 1) := ofk (inc ii (by omega))
          have e2 : v + 1 = Int32.ofNat (t + 1) := ofk s3
          obtain ⟨r', B1, q1, q2, q3, q4, q5, q6, q7⟩ := ihk D (i + 1) (t + 1) (stI (stI B 133 t to) 136 i v) (updl g t to) (by omega) (by omega) (by omega) (fun o j o1 o2 o3 o4 => by rw [stI_at, if_neg (by omega), stI_at, if_neg (by omega)]; exact hB o j o1 o2 o3 o4) (fun j hj => by
            rw [stI_at, if_neg (by omega), stI_at]
            unfold updl
            by_cases e : j = t
            · rw [if_pos ⟨rfl, e⟩, if_pos e]
            · rw [if_neg (fun z => e z.2), if_neg e]; exact hg j hj) (fun j j1 j2 => by rw [updl_ne (by omega)]; exact hgf j (by omega) j2)
          have rn2 : rnS dl (updl g t to) (t + 1) = (rnS dl g t).bind fun x => dl x to := by
            show (rnS dl (updl g t to) t).bind (fun x => dl x (updl g t to t)) = _
            rw [rn_cg t (fun j hj => updl_ne (by omega)), updl_eq]
          rw [rn2, show c - (t + 1) = r by omega] at q3 q4
          have g133 : ∀ j, j < c → (stI B1 133 t fm).1 133 j = g j := fun j hj => by
            rw [stI_at]
            by_cases e : j = t
            · rw [if_pos ⟨rfl, e⟩, e, gt, c1]
            · rw [if_neg (fun z => e z.2), q6 j hj, updl_ne e]
          have agB1 : agS B0 (stI B1 133 t fm) := fun o j o1 o2 o3 o4 => by rw [stI_at, if_neg (by omega)]; exact q7 o j o1 o2 o3 o4
          have p136 : ∀ j, j < i → (stI B1 133 t fm).1 136 j = B.1 136 j := fun j hj => by
            rw [stI_at, if_neg (by omega), q5 j (by omega), stI_at, if_neg (by omega), stI_at, if_neg (by omega)]
          rw [e1, e2, q1, Option.bind_some]
          dsimp only
          rw [if_pos ib]
          rcases q2 with z | z
          · rw [z, if_pos rfl, ← e2]
            refine skip _ (fun h => ?_) agB1 g133 p136
            rw [z] at q3
            exact absurd (q3.mpr h.2) (by decide)
          · rw [z, if_neg (by decide)]
            have ex := q3.mp z
            refine ⟨1, _, rfl, Or.inr rfl, ⟨fun _ => ?_, fun _ => rfl⟩, fun _ j j1 j2 => ?_, p136, g133, agB1⟩
            · rw [EX, ex, c1, decide_eq_true rfl, Bool.true_and, Bool.or_true]
            · rw [SL, if_pos ⟨c1, ex⟩, stI_at, if_neg (by omega)]
              by_cases e : j = i
              · rw [e, q5 i (Nat.lt_succ_self _), stI_self, Nat.sub_self]
                exact ofk h3
              · rw [q4 z j (by omega) j2, show j - i = (j - (i + 1)) + 1 by omega]
                rfl
        · rw [if_neg c1]
          exact skip B (fun h => c1 h.1) hB hg (fun _ _ => rfl)
    show ∃ r B', mo_picks_G (mo_picks_grp n D) n (Int32.ofNat i) (Int32.ofNat K) (Int32.ofNat t) fm to B = some (r, B') ∧ _
    unfold mo_picks_G
    rw [if_neg ne]
    exact loop (c - t) n t (Int32.ofNat t) B g (by omega) (by omega) (ti_ofNat (by omega)) hB hg hgf
/-- the model has its answer -/
theorem fws_s {n : Nat} (hn : 4096 ≤ n) {KK : Int32 → Int32 → St → Option (Int32 × St)} {fm to v2 : Int32} {c : Nat} {f : Nat → Int32} {dl : Nat → Int32 → Option Nat} {B0 : St} (hc : c ≤ 16) (b44 : (B0.1 102 44).toInt = c) (HC : ∀ (B : St) (g : Nat → Int32), agS B0 B → (∀ j, j < c → B.1 133 j = g j) → ∃ r B', CK n fm B = some (r, B') ∧ (r = 0 ∨ r = 1) ∧ (r = 1 ↔ (rnS dl g c).isSome = true) ∧ ∀ o i, o ≠ 134 → ¬ (o = 102 ∧ i = 51) → B'.1 o i = B.1 o i) : ∀ (r w k : Nat) (v6 : Int32) (B : St), k + r = 11 → r < w → v6.toInt = k → k ≤ fF c f fm to dl c 0 → agS B0 B → (∀ j, j < c → B.1 133 j = f j) → ∃ B', mo_fewest_L50 n KK w v2 fm to v6 B = KK v2 (if fF c f fm to dl c 0 ≤ 10 then Int32.ofNat (fF c f fm to dl c 0) else 11) B' ∧ (fF c f fm to dl c 0 ≤ 10 → ∀ j, j < fF c f fm to dl c 0 → B'.1 136 j = Int32.ofNat ((sol c f fm to dl c (some 0) (fF c f fm to dl c 0)).getD j 0)) := by
  have e11 : (11 : Int32).toInt = 11 := by decide
  intro r
  induction r with
  | zero =>
    intro w k v6 B h1 h2 h3 h4 hB hg
    obtain ⟨W, rfl⟩ : ∃ W, w = W + 1 := ⟨w - 1, by omega⟩
    refine ⟨B, ?_, fun h => by omega⟩
    show mo_fewest_L50_B n KK (mo_fewest_L50 n KK W) v2 fm to v6 B = _
    unfold mo_fewest_L50_B
    rw [if_neg (by rw [ltk, e11]; omega), if_neg (by omega), show v6 = 11 by rw [ti_eq, h3, e11]; omega]
  | succ r ih =>
    intro w k v6 B h1 h2 h3 h4 hB hg
    obtain ⟨W, rfl⟩ : ∃ W, w = W + 1 := ⟨w - 1, by omega⟩
    show ∃ B', mo_fewest_L50_B n KK (mo_fewest_L50 n KK W) v2 fm to v6 B = _ ∧ _
    unfold mo_fewest_L50_B
    obtain ⟨r', B1, q1, q2, q3, q4, -, q6, q7⟩ := dfs_s hn (K := k) (to := to) (f := f) hc (by omega) b44 HC k DEP 0 0 B f (by show k < 400; omega) (by omega) (Nat.zero_le _) hB hg (fun _ _ _ => rfl)
    have q1' : mo_picks n 0 v6 0 fm to B = some (r', B1) := by rw [ofk h3]; exact q1
    have rn0 : rnS dl f 0 = some 0 := rfl
    rw [rn0, Nat.sub_zero] at q3 q4
    rw [if_pos (by rw [ltk, e11]; omega), q1', Option.bind_some]
    dsimp only
    rcases q2 with z | z
    · rw [z, if_pos rfl]
      have nk : ¬ fF c f fm to dl c 0 = k := fun e => by
        have := exB_at c f fm to dl c 0 (by omega)
        rw [e] at this
        rw [z] at q3
        exact absurd (q3.mpr this) (by decide)
      exact ih W (k + 1) (v6 + 1) B1 (by omega) (by omega) (inc h3 (by omega)) (by omega) q7 q6
    · rw [z, if_neg (by decide)]
      have le := exB_le c f fm to dl c 0 k (by omega) (q3.mp z)
      have ek : fF c f fm to dl c 0 = k := by omega
      refine ⟨B1, ?_, fun _ j hj => ?_⟩
      · rw [if_pos (by omega), ek, ofk h3]
      · rw [ek] at hj ⊢
        have := q4 z j (Nat.zero_le _) hj
        rw [Nat.sub_zero] at this
        exact this
