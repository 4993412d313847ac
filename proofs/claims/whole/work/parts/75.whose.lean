/-! whose, first -/
def agA (X : St) (c : Nat) (f : Nat → Int32) (A : St) : Prop := (∀ o i, o < 20 → A.1 o i = X.1 o i) ∧ lwC X A ∧ A.1 24 1 = Int32.ofNat c ∧ ∀ i, i < c → A.1 25 i = f i
theorem agA.cg {X : St} {c : Nat} {f : Nat → Int32} {A A' : St} (h : agA X c f A) (e : ∀ o i, ¬ tcw o i → A'.1 o i = A.1 o i) : agA X c f A' := by
  obtain ⟨h1, ⟨h2, h3⟩, h4, h5⟩ := h
  exact ⟨fun o i ho => by rw [e o i (by unfold tcw; omega)]; exact h1 o i ho, ⟨by rw [e _ _ (by unfold tcw; omega)]; exact h2, fun i => by rw [e _ _ (by unfold tcw; omega)]; exact h3 i⟩, by rw [e _ _ (by unfold tcw; omega)]; exact h4, fun i hi => by rw [e _ _ (by unfold tcw; omega)]; exact h5 i hi⟩
theorem Rdy.ag {X A : St} {a : Nat} (h : Rdy X a A) : agA X (rc X a) (ac X a) A := ⟨fun o i ho => h.lo (by omega), ⟨h.lo (by omega), fun i => h.lo (by omega)⟩, h.2.1, h.2.2.1⟩
/-- swimmers make ready anew -/
theorem again_s {n : Nat} (hn : 4096 ≤ n) {X A : St} {c : Nat} {f : Nat → Int32} (hP : IPool X) (hA : agA X c f A) : ∃ Y, tho_ready n A = some Y ∧ TC X (mny X) c f (fun w => X.1 7 w) (fun w => X.1 8 w) (X.1 9 0) Y ∧ Y.1 26 12 = -1 ∧ agA X c f Y := by
  obtain ⟨m1, m2⟩ := mny_s hP
  obtain ⟨h1, ⟨h2, h3⟩, h4, h5⟩ := hA
  obtain ⟨Y, y1, y2, y3, y4, y5, y6, y7, y8⟩ := rdy_s hn (X := A) (Z := A) (m := mny X) (by rw [h1 _ _ (by omega)]; exact m1) m2 (fun _ _ _ => rfl)
  have ed : ∀ k i, dst A k i = dst X k i := fun k i => by
    unfold dst
    rw [h1 _ _ (by omega), h1 _ _ (by omega), h1 _ _ (by omega), h1 _ _ (by omega)]
  have eu : ∀ k i, unl A k i = unl X k i := fun k i => by
    unfold unl
    rw [h1 _ _ (by omega), h1 _ _ (by omega)]
  refine ⟨Y, y1, ⟨⟨by rw [y3 _ _ (by omega), h1 _ _ (by omega)]; exact m1, by rw [y3 _ _ (by omega)]; exact h4, fun i hi => by rw [y3 _ _ (by omega)]; exact h5 i hi, fun w hw => by rw [(y7 w hw).1, h1 _ _ (by omega)], fun w hw => by rw [(y7 w hw).2, h1 _ _ (by omega)], by rw [y4, h1 _ _ (by omega)]⟩, fun i j hi hj => by rw [← ed, ← eu]; exact y8 i j hi hj, by rw [y5, h1 _ _ (by omega)], by rw [y3 _ _ (by omega)]; exact h2, fun i => by rw [y3 _ _ (by omega)]; exact h3 i⟩, y6, fun o i ho => by rw [y3 _ _ (by omega)]; exact h1 o i ho, ⟨by rw [y3 _ _ (by omega)]; exact h2, fun i => by rw [y3 _ _ (by omega)]; exact h3 i⟩, by rw [y3 _ _ (by omega)]; exact h4, fun i hi => by rw [y3 _ _ (by omega)]; exact h5 i hi⟩
theorem TC.ld {X : St} {m c : Nat} {f q l : Nat → Int32} {ld v : Int32} {A : St} (h : TC X m c f q l ld A) : TC X m c f q l v (stI A 26 9 v) := by
  obtain ⟨h0, h7, h8, h9, h10⟩ := h
  exact ⟨h0.ld, fun i j hi hj => ⟨by rw [stI_at, if_neg (by omega)]; exact (h7 i j hi hj).1, by rw [stI_at, if_neg (by omega)]; exact (h7 i j hi hj).2⟩, by rw [stI_at, if_neg (by omega)]; exact h8, by rw [stI_at, if_neg (by omega)]; exact h9, fun i => by rw [stI_at, if_neg (by omega)]; exact h10 i⟩
theorem TC.qu {X : St} {m c k : Nat} {f q l : Nat → Int32} {ld v : Int32} {A : St} (hm : m ≤ 8) (h : TC X m c f q l ld A) : TC X m c f (updl q k v) l ld (stI A 28 k v) := by
  obtain ⟨h0, h7, h8, h9, h10⟩ := h
  exact ⟨h0.qu, fun i j hi hj => ⟨by rw [stI_at, if_neg (by omega)]; exact (h7 i j hi hj).1, by rw [stI_at, if_neg (by omega)]; exact (h7 i j hi hj).2⟩, by rw [stI_at, if_neg (by omega)]; exact h8, by rw [stI_at, if_neg (by omega)]; exact h9, fun i => by rw [stI_at, if_neg (by omega)]; exact h10 i⟩
theorem TB.ld {X : St} {m c : Nat} {f q l : Nat → Int32} {ld v : Int32} {B : St} (h : TB X m c f q l ld B) : TB X m c f q l v (stI B 109 0 v) := by
  obtain ⟨h1, h2, h3, h4, h5, h6, h7, h8, h9, h10, h11⟩ := h
  exact ⟨by rw [stI_at, if_neg (by omega)]; exact h1, by rw [stI_at, if_neg (by omega)]; exact h2, fun i hi => by rw [stI_at, if_neg (by omega)]; exact h3 i hi, fun i hi => by rw [stI_at, if_neg (by omega)]; exact h4 i hi, fun i hi => by rw [stI_at, if_neg (by omega)]; exact h5 i hi, stI_self, by rw [stI_at, if_neg (by omega)]; exact h7, fun o k o1 o2 => by rw [stI_at, if_neg (by omega)]; exact h8 o k o1 o2, by rw [stI_at, if_neg (by omega)]; exact h9, by rw [stI_at, if_neg (by omega)]; exact h10, fun o i o1 o2 => by rw [stI_at, if_neg (by omega)]; exact h11 o i o1 o2⟩
theorem TB.qu {X : St} {m c k : Nat} {f q l : Nat → Int32} {ld v : Int32} {B : St} (h : TB X m c f q l ld B) : TB X m c f (updl q k v) l ld (stI B 107 k v) := by
  obtain ⟨h1, h2, h3, h4, h5, h6, h7, h8, h9, h10, h11⟩ := h
  refine ⟨by rw [stI_at, if_neg (by omega)]; exact h1, by rw [stI_at, if_neg (by omega)]; exact h2, fun i hi => by rw [stI_at, if_neg (by omega)]; exact h3 i hi, fun i hi => ?_, fun i hi => by rw [stI_at, if_neg (by omega)]; exact h5 i hi, by rw [stI_at, if_neg (by omega)]; exact h6, by rw [stI_at, if_neg (by omega)]; exact h7, fun o k o1 o2 => by rw [stI_at, if_neg (by omega)]; exact h8 o k o1 o2, by rw [stI_at, if_neg (by omega)]; exact h9, by rw [stI_at, if_neg (by omega)]; exact h10, fun o i o1 o2 => by rw [stI_at, if_neg (by omega)]; exact h11 o i o1 o2⟩
  rw [stI_at]
  unfold updl
  by_cases e : i = k
  · rw [if_pos ⟨rfl, e⟩, if_pos e]
  · rw [if_neg (fun z => e z.2), if_neg e]; exact h4 i hi
/-- the fewest so far -/
def few2 (mk wh who ms : Int32) : Prop := (wh = -2 ∧ who = -2 ∧ ms = -2) ∨ (wh ≠ -2 ∧ who = wh ∧ ms = mk)
theorem vne {v : Int32} {k : Nat} (h : v.toInt = k) : v ≠ -2 := fun e => by
  rw [e, show (-2 : Int32).toInt = -2 by decide] at h; omega
theorem fw1_s (n : Nat) (hn : 4096 ≤ n) {X : St} {M : Mk6} {c : Nat} {f : Nat → Int32} {K : Int32 → Int32 → Int32 → St → Option (Int32 × St)} {K' : Int32 → Int32 → Int32 → Int32 → St → Option (Int32 × St)} {v1 u2 u4 : Int32} (hP : IPool X) (hc : c ≤ 60) (hMC : MkC n X M) (hMM : MkM n X M) (hs : 1 ≤ (X.1 10 0).toInt) : ∀ (w r k : Nat) (v mk wh who ms ldB : Int32) (A B : St), v.toInt = k → k + r = mny X → r < w → agA X c f A → TB X (mny X) c f (fun w => X.1 7 w) (fun w => X.1 8 w) ldB B → B.1 102 48 = -2 → few2 mk wh who ms → ∃ mk' wh' who' ms' A' B', el_fewestLost_L9 n K w v1 1 mk wh v A = K v1 mk' wh' A' ∧ mo_whose_L55 n K' w u2 u4 who ms v B = K' u2 u4 who' ms' B' ∧ few2 mk' wh' who' ms' ∧ ∀ o i, o ≠ 121 → o ≠ 122 → o ≠ 134 → o ≠ 135 → ¬ (o = 109 ∧ i = 0) → B'.1 o i = B.1 o i := by
  obtain ⟨m1, m2⟩ := mny_s hP
  intro w
  induction w with
  | zero => intro r k v mk wh who ms ldB A B h1 h2 h3; omega
  | succ w ih =>
    intro r k v mk wh who ms ldB A B h1 h2 h3 hA hB h48 hf
    show ∃ mk' wh' who' ms' A' B', el_fewestLost_L9_B n K (el_fewestLost_L9 n K w) v1 1 mk wh v A = K v1 mk' wh' A' ∧ mo_whose_L55_B n K' (mo_whose_L55 n K' w) u2 u4 who ms v B = K' u2 u4 who' ms' B' ∧ few2 mk' wh' who' ms' ∧ ∀ o i, o ≠ 121 → o ≠ 122 → o ≠ 134 → o ≠ 135 → ¬ (o = 109 ∧ i = 0) → B'.1 o i = B.1 o i
    unfold el_fewestLost_L9_B mo_whose_L55_B poo_many
    have a1 : A.1 1 1 = X.1 1 1 := hA.1 _ _ (by omega)
    have b0 := hB.1
    cases r with
    | zero =>
      have q1 : ¬ v < A.1 1 1 := by rw [a1, ltk]; omega
      have q2 : ¬ v < B.1 102 0 := by rw [ltk]; omega
      rw [if_neg q1, if_neg q2]
      exact ⟨mk, wh, who, ms, A, B, rfl, rfl, hf, fun _ _ _ _ _ _ _ => rfl⟩
    | succ r =>
      have q1 : v < A.1 1 1 := by rw [a1, ltk]; omega
      have q2 : v < B.1 102 0 := by rw [ltk]; omega
      obtain ⟨Y, y1, y2, y3, y4⟩ := again_s hn hP hA
      have hA2 := y2.ld (v := v)
      have hB2 := hB.ld (v := v)
      have g48 : (stI B 109 0 v).1 102 48 = -2 := by rw [stI_at, if_neg (by omega)]; exact h48
      obtain ⟨V, A', B', r1, r2, r3, r4, r5, r6, -, -⟩ := now_s hn hP m2 hc hMC hMM hs hA2 hB2 (Or.inl g48) (fun t w ht hw => by
        rw [slC0 (by rw [stI_at, if_neg (by omega)]; exact y3) hc t w ht, slp0 (m := 8) g48 t w (by omega)])
      have hA' : agA X c f A' := (agA.cg (A := stI Y 26 9 v) ⟨fun o i ho => by rw [stI_at, if_neg (by omega)]; exact y4.1 o i ho, ⟨by rw [stI_at, if_neg (by omega)]; exact y4.2.1.1, fun i => by rw [stI_at, if_neg (by omega)]; exact y4.2.1.2 i⟩, by rw [stI_at, if_neg (by omega)]; exact y4.2.2.1, fun i hi => by rw [stI_at, if_neg (by omega)]; exact y4.2.2.2 i hi⟩ r4)
      have hB' : TB X (mny X) c f (fun w => X.1 7 w) (fun w => X.1 8 w) v B' := hB2.cg (fun o i o1 o2 o3 o4 _ => r6 o i o1 o2 o3 o4)
      have g48' : B'.1 102 48 = -2 := (r6 _ _ (by omega) (by omega) (by omega) (by omega)).trans g48
      rw [if_pos q1, y1, Option.bind_some, if_neg (by decide)]
      unfold tho_leadBy el_fewestLost_J54
      rw [Option.bind_some, r1, Option.bind_some]
      dsimp only
      rw [if_pos q2, show nx (0 : Int32) = 0 by decide, r2, Option.bind_some]
      dsimp only
      have fin : ∀ mk wh who ms, few2 mk wh who ms → ∃ mk' wh' who' ms' A'' B'', el_fewestLost_L9 n K w v1 1 mk wh (v + 1) A' = K v1 mk' wh' A'' ∧ mo_whose_L55 n K' w u2 u4 who ms (v + 1) B' = K' u2 u4 who' ms' B'' ∧ few2 mk' wh' who' ms' ∧ ∀ o i, o ≠ 121 → o ≠ 122 → o ≠ 134 → o ≠ 135 → ¬ (o = 109 ∧ i = 0) → B''.1 o i = B.1 o i := by
        intro mk wh who ms hf
        obtain ⟨mk', wh', who', ms', A'', B'', s1, s2, s3, s4⟩ := ih r (k + 1) (v + 1) mk wh who ms v A' B' (inc h1 (by omega)) (by omega) (by omega) hA' hB' g48' hf
        exact ⟨mk', wh', who', ms', A'', B'', s1, s2, s3, fun o i o1 o2 o3 o4 o5 => by rw [s4 o i o1 o2 o3 o4 o5, r6 o i o1 o2 o3 o4, stI_at, if_neg o5]⟩
      have new : few2 V v v V := Or.inr ⟨vne h1, rfl, rfl⟩
      rcases hf with ⟨f1, f2, f3⟩ | ⟨f1, f2, f3⟩
      · rw [if_pos f1, if_pos f2]
        exact fin _ _ _ _ new
      · rw [if_neg f1, if_neg (c := who = -2) (by rw [f2]; exact f1), f3]
        by_cases c2 : V < mk
        · rw [if_pos c2, if_pos c2]
          exact fin _ _ _ _ new
        · rw [if_neg c2, if_neg c2]
          exact fin _ _ _ _ (Or.inr ⟨f1, f2, rfl⟩)
theorem op_whose (n : Nat) (hn : 4096 ≤ n) (a v : Int32) (X : St) (hP : IPool X) (hB : IBnd X) (hs : ISh X) (hw : IWy X) (hp : ISlp X) (hL : ILaw X) : ∃ r X1, el_whose n a v X = some (r, X1) ∧ ∀ Y, Mo X Y → ∃ Y1, mo_whose n a v Y = some (r, Y1) ∧ ∀ i, Y1.1 109 i = Y.1 109 i := by
  obtain ⟨m1, m2⟩ := mny_s hP
  refine joinr (fun Y hY => ?_)
  unfold el_whose mo_whose
  by_cases ha : 0 ≤ a.toInt ∧ a.toInt ≤ 5
  · have hx := nx_ti ha.1
    rw [if_neg (c := mo_isShelf a = 0) (fun h => shm0.mp h ha)]
    by_cases hv : 0 ≤ v.toInt ∧ v.toInt ≤ 1
    · rw [if_neg (c := mo_within v 0 1 = 0) (fun h => w01.mp h hv)]
      rcases beg_s hn (h := el_isZeroOrOne v) (fun h => zo0.mp h hv) ha hP hs hw with ⟨c, k1, k2, k3⟩ | ⟨A, x1, x2, x3⟩
      · refine ⟨c, X, ?_, Y, ?_, fun _ => rfl⟩
        · rw [k2, Option.bind_some]
          dsimp only
          rw [if_neg k1.1]
        · rw [k3 Y hY, Option.bind_some, if_pos k1.2]
      · obtain ⟨y0, B, b1, b2⟩ := x3 Y hY
        obtain ⟨M, hMC, hMM⟩ := marks_ex hn hL
        have hc := rc_le hs (a := nx a) (by omega)
        have h48 : B.1 102 48 = -2 := (b2.lo (by omega) (by omega) (by omega)).trans hp
        have post : ∀ (B' : St), (∀ o i, o ≠ 121 → o ≠ 122 → o ≠ 134 → o ≠ 135 → ¬ (o = 109 ∧ i = 0) → B'.1 o i = B.1 o i) → ∀ i, (stI B' 109 (nx 0) (B.1 109 (nx 0))).1 109 i = Y.1 109 i := by
          intro B' h i
          rw [stI_at, show nx (0 : Int32) = 0 by decide]
          by_cases e : i = 0
          · rw [if_pos ⟨rfl, e⟩, e, hY.2 _ _ (by omega)]
            exact b2.lo (by omega) (by omega) (by omega)
          · rw [if_neg (fun z => e z.2), h _ _ (by omega) (by omega) (by omega) (by omega) (by omega), hY.2 _ _ (by omega)]
            exact b2.lo (by omega) (by omega) (by omega)
        have run : ∀ v1 : Int32, ∃ mk wh who ms A' B', el_fewestLost n v1 1 A = (if v1 = 0 then (if wh = (-2 : Int32) then (some (wh, A')) else (some (mk, A'))) else (some (wh, A'))) ∧ mo_whose_L55 n (fun v6 v7 v8 v9 X5 =>
          (if v6 = 0 then
          (some (v8, (stI X5 109 (nx (0 : Int32)) v7)))
          else
          (some (v9, (stI X5 109 (nx (0 : Int32)) v7))))) n v (B.1 109 (nx (0 : Int32))) (-2 : Int32) (-2 : Int32) (0 : Int32) B = (if v = 0 then (some (who, (stI B' 109 (nx (0 : Int32)) (B.1 109 (nx (0 : Int32)))))) else (some (ms, (stI B' 109 (nx (0 : Int32)) (B.1 109 (nx (0 : Int32))))))) ∧ few2 mk wh who ms ∧ ∀ o i, o ≠ 121 → o ≠ 122 → o ≠ 134 → o ≠ 135 → ¬ (o = 109 ∧ i = 0) → B'.1 o i = B.1 o i := by
          intro v1
          exact fw1_s n hn (K := fun v7 v8 v9 X6 =>
            (if v7 = 0 then
            (if v9 = (-2 : Int32) then
            (some (v9, X6))
            else
            (some (v8, X6)))
            else
            (some (v9, X6)))) (K' := fun v6 v7 v8 v9 X5 =>
          (if v6 = 0 then
          (some (v8, (stI X5 109 (nx (0 : Int32)) v7)))
          else
          (some (v9, (stI X5 109 (nx (0 : Int32)) v7))))) (v1 := v1) (u2 := v) (u4 := B.1 109 (nx (0 : Int32))) hP hc hMC hMM (seen_rng hB).1 n (mny X) 0 0 0 (-2) (-2) (-2) (X.1 9 0) A B ti0 (by omega) (by omega) x2.ag (b2.tb hP) h48 (Or.inl ⟨rfl, rfl, rfl⟩)
        rw [x1, Option.bind_some]
        dsimp only
        rw [if_pos rfl, y0, Option.bind_some, if_neg (c := (0 : Int32) < 0) (by decide), b1, Option.bind_some]
        by_cases c0 : v = 0
        · obtain ⟨mk, wh, who, ms, A', B', r1, r2, r3, r4⟩ := run 1
          rw [if_pos c0, r1, r2, if_pos c0, if_neg (by decide)]
          refine ⟨wh, A', rfl, _, ?_, post B' r4⟩
          rcases r3 with ⟨f1, f2, f3⟩ | ⟨f1, f2, f3⟩
          · rw [f1, f2]
          · rw [f2]
        · obtain ⟨mk, wh, who, ms, A', B', r1, r2, r3, r4⟩ := run 0
          rw [if_neg c0, r1, r2, if_neg c0, if_pos rfl]
          rcases r3 with ⟨f1, f2, f3⟩ | ⟨f1, f2, f3⟩
          · rw [if_pos f1]
            refine ⟨wh, A', rfl, _, ?_, post B' r4⟩
            rw [f1, f3]
          · rw [if_neg f1]
            refine ⟨mk, A', rfl, _, ?_, post B' r4⟩
            rw [f3]
    · refine ⟨-1, X, ?_, Y, ?_, fun _ => rfl⟩
      · rw [zo0.mpr hv, bad_s (Or.inl rfl), Option.bind_some]
        dsimp only
        rw [if_neg (by decide)]
      · rw [if_pos (w01.mpr hv)]
  · refine ⟨-1, X, ?_, Y, ?_, fun _ => rfl⟩
    · rw [bad_s (Or.inr ha), Option.bind_some]
      dsimp only
      rw [if_neg (by decide)]
    · rw [if_pos (shm0.mpr ha)]
theorem fw2_s (n : Nat) (hn : 4096 ≤ n) {X : St} {M : Mk6} {c : Nat} {f : Nat → Int32} {K : Int32 → Int32 → Int32 → St → Option (Int32 × St)} {v1 u2 : Int32} (hP : IPool X) (hc : c ≤ 60) (hMC : MkC n X M) (hMM : MkM n X M) (hs : 1 ≤ (X.1 10 0).toInt) : ∀ (w r k : Nat) (v mk wh who ms : Int32) (A B : St), v.toInt = k → k + r = mny X → r < w → agA X c f A → TB X (mny X) c f (fun w => X.1 7 w) (fun w => X.1 8 w) (X.1 9 0) B → B.1 102 48 = -2 → few2 mk wh who ms → ∃ mk' wh' who' ms' A' B', el_fewestLost_L9 n K w v1 0 mk wh v A = K v1 mk' wh' A' ∧ mo_first_L47 n w u2 who ms v B = (if u2 = 0 then some (who', B') else some (ms', B')) ∧ few2 mk' wh' who' ms' ∧ ∀ o i, o ≠ 121 → o ≠ 122 → o ≠ 134 → o ≠ 135 → B'.1 o i = B.1 o i := by
  obtain ⟨m1, m2⟩ := mny_s hP
  intro w
  induction w with
  | zero => intro r k v mk wh who ms A B h1 h2 h3; omega
  | succ w ih =>
    intro r k v mk wh who ms A B h1 h2 h3 hA hB h48 hf
    show ∃ mk' wh' who' ms' A' B', el_fewestLost_L9_B n K (el_fewestLost_L9 n K w) v1 0 mk wh v A = K v1 mk' wh' A' ∧ mo_first_L47_B n (mo_first_L47 n w) u2 who ms v B = (if u2 = 0 then some (who', B') else some (ms', B')) ∧ few2 mk' wh' who' ms' ∧ ∀ o i, o ≠ 121 → o ≠ 122 → o ≠ 134 → o ≠ 135 → B'.1 o i = B.1 o i
    unfold el_fewestLost_L9_B mo_first_L47_B poo_many
    have a1 : A.1 1 1 = X.1 1 1 := hA.1 _ _ (by omega)
    have b0 := hB.1
    cases r with
    | zero =>
      have q1 : ¬ v < A.1 1 1 := by rw [a1, ltk]; omega
      have q2 : ¬ v < B.1 102 0 := by rw [ltk]; omega
      rw [if_neg q1, if_neg q2]
      exact ⟨mk, wh, who, ms, A, B, rfl, rfl, hf, fun _ _ _ _ _ _ => rfl⟩
    | succ r =>
      have q1 : v < A.1 1 1 := by rw [a1, ltk]; omega
      have q2 : v < B.1 102 0 := by rw [ltk]; omega
      have ib : inB v 8 = true := by rw [inB_iff]; omega
      obtain ⟨Y, y1, y2, y3, y4⟩ := again_s hn hP hA
      have y11 : Y.1 1 1 = X.1 1 1 := y4.1 _ _ (by omega)
      have hA2 := y2.qu (k := k) (v := 0) m2
      have hB2 := hB.qu (k := k) (v := 0)
      have g48 : (stI B 107 k 0).1 102 48 = -2 := by rw [stI_at, if_neg (by omega)]; exact h48
      obtain ⟨V, A', B', r1, r2, r3, r4, r5, r6, -, -⟩ := now_s hn hP m2 hc hMC hMM hs hA2 hB2 (Or.inl g48) (fun t w ht hw => by
        rw [slC0 (by rw [stI_at, if_neg (by omega)]; exact y3) hc t w ht, slp0 (m := 8) g48 t w (by omega)])
      have hA' : agA X c f A' := (agA.cg (A := stI Y 28 k 0) ⟨fun o i ho => by rw [stI_at, if_neg (by omega)]; exact y4.1 o i ho, ⟨by rw [stI_at, if_neg (by omega)]; exact y4.2.1.1, fun i => by rw [stI_at, if_neg (by omega)]; exact y4.2.1.2 i⟩, by rw [stI_at, if_neg (by omega)]; exact y4.2.2.1, fun i hi => by rw [stI_at, if_neg (by omega)]; exact y4.2.2.2 i hi⟩ r4)
      have bB : ∀ o i, o ≠ 121 → o ≠ 122 → o ≠ 134 → o ≠ 135 → (stI B' 107 k (B.1 107 k)).1 o i = B.1 o i := by
        intro o i o1 o2 o3 o4
        rw [stI_at]
        by_cases e : o = 107 ∧ i = k
        · rw [if_pos e, e.1, e.2]
        · rw [if_neg e, r6 o i o1 o2 o3 o4, stI_at, if_neg e]
      have hB' : TB X (mny X) c f (fun w => X.1 7 w) (fun w => X.1 8 w) (X.1 9 0) (stI B' 107 k (B.1 107 k)) := hB.cg (fun o i o1 o2 o3 o4 _ => bB o i o1 o2 o3 o4)
      have g48' : (stI B' 107 k (B.1 107 k)).1 102 48 = -2 := (bB _ _ (by omega) (by omega) (by omega) (by omega)).trans h48
      rw [if_pos q1, y1, Option.bind_some, if_pos rfl]
      unfold tho_quicken el_fewestLost_J54
      rw [if_neg (c := poo_has v Y = 0) (fun h => has_s.mp h (by rw [y11]; omega)), if_pos ib, nxk h1, Option.bind_some, r1, Option.bind_some]
      dsimp only
      rw [if_pos q2, if_pos ib, if_pos ib, r2, Option.bind_some]
      dsimp only
      rw [if_pos ib]
      have fin : ∀ mk wh who ms, few2 mk wh who ms → ∃ mk' wh' who' ms' A'' B'', el_fewestLost_L9 n K w v1 0 mk wh (v + 1) A' = K v1 mk' wh' A'' ∧ mo_first_L47 n w u2 who ms (v + 1) (stI B' 107 k (B.1 107 k)) = (if u2 = 0 then some (who', B'') else some (ms', B'')) ∧ few2 mk' wh' who' ms' ∧ ∀ o i, o ≠ 121 → o ≠ 122 → o ≠ 134 → o ≠ 135 → B''.1 o i = B.1 o i := by
        intro mk wh who ms hf
        obtain ⟨mk', wh', who', ms', A'', B'', s1, s2, s3, s4⟩ := ih r (k + 1) (v + 1) mk wh who ms A' _ (inc h1 (by omega)) (by omega) (by omega) hA' hB' g48' hf
        exact ⟨mk', wh', who', ms', A'', B'', s1, s2, s3, fun o i o1 o2 o3 o4 => by rw [s4 o i o1 o2 o3 o4, bB o i o1 o2 o3 o4]⟩
      have new : few2 V v v V := Or.inr ⟨vne h1, rfl, rfl⟩
      rcases hf with ⟨f1, f2, f3⟩ | ⟨f1, f2, f3⟩
      · rw [if_pos f1, if_pos f2]
        exact fin _ _ _ _ new
      · rw [if_neg f1, if_neg (c := who = -2) (by rw [f2]; exact f1), f3]
        by_cases c2 : V < mk
        · rw [if_pos c2, if_pos c2]
          exact fin _ _ _ _ new
        · rw [if_neg c2, if_neg c2]
          exact fin _ _ _ _ (Or.inr ⟨f1, f2, rfl⟩)
theorem op_first (n : Nat) (hn : 4096 ≤ n) (a v : Int32) (X : St) (hP : IPool X) (hB : IBnd X) (hs : ISh X) (hw : IWy X) (hp : ISlp X) (hL : ILaw X) : ∃ r X1, el_first n a v X = some (r, X1) ∧ ∀ Y, Mo X Y → ∃ Y1, mo_first n a v Y = some (r, Y1) ∧ ∀ i, Y1.1 107 i = Y.1 107 i := by
  obtain ⟨m1, m2⟩ := mny_s hP
  refine joinr (fun Y hY => ?_)
  unfold el_first mo_first
  by_cases ha : 0 ≤ a.toInt ∧ a.toInt ≤ 5
  · have hx := nx_ti ha.1
    rw [if_neg (c := mo_isShelf a = 0) (fun h => shm0.mp h ha)]
    by_cases hv : 0 ≤ v.toInt ∧ v.toInt ≤ 1
    · rw [if_neg (c := mo_within v 0 1 = 0) (fun h => w01.mp h hv)]
      rcases beg_s hn (h := el_isZeroOrOne v) (fun h => zo0.mp h hv) ha hP hs hw with ⟨c, k1, k2, k3⟩ | ⟨A, x1, x2, x3⟩
      · refine ⟨c, X, ?_, Y, ?_, fun _ => rfl⟩
        · rw [k2, Option.bind_some]
          dsimp only
          rw [if_neg k1.1]
        · rw [k3 Y hY, Option.bind_some, if_pos k1.2]
      · obtain ⟨y0, B, b1, b2⟩ := x3 Y hY
        obtain ⟨M, hMC, hMM⟩ := marks_ex hn hL
        have hc := rc_le hs (a := nx a) (by omega)
        have h48 : B.1 102 48 = -2 := (b2.lo (by omega) (by omega) (by omega)).trans hp
        have post : ∀ (B' : St), (∀ o i, o ≠ 121 → o ≠ 122 → o ≠ 134 → o ≠ 135 → B'.1 o i = B.1 o i) → ∀ i, B'.1 107 i = Y.1 107 i := by
          intro B' h i
          rw [h _ _ (by omega) (by omega) (by omega) (by omega), hY.2 _ _ (by omega)]
          exact b2.lo (by omega) (by omega) (by omega)
        have run : ∀ v1 : Int32, ∃ mk wh who ms A' B', el_fewestLost n v1 0 A = (if v1 = 0 then (if wh = (-2 : Int32) then (some (wh, A')) else (some (mk, A'))) else (some (wh, A'))) ∧ mo_first_L47 n n v (-2) (-2) 0 B = (if v = 0 then some (who, B') else some (ms, B')) ∧ few2 mk wh who ms ∧ ∀ o i, o ≠ 121 → o ≠ 122 → o ≠ 134 → o ≠ 135 → B'.1 o i = B.1 o i := by
          intro v1
          exact fw2_s n hn (K := fun v7 v8 v9 X6 =>
            (if v7 = 0 then
            (if v9 = (-2 : Int32) then
            (some (v9, X6))
            else
            (some (v8, X6)))
            else
            (some (v9, X6)))) (v1 := v1) (u2 := v) hP hc hMC hMM (seen_rng hB).1 n (mny X) 0 0 0 (-2) (-2) (-2) A B ti0 (by omega) (by omega) x2.ag (b2.tb hP) h48 (Or.inl ⟨rfl, rfl, rfl⟩)
        rw [x1, Option.bind_some]
        dsimp only
        rw [if_pos rfl, y0, Option.bind_some, if_neg (c := (0 : Int32) < 0) (by decide), b1, Option.bind_some]
        by_cases c0 : v = 0
        · obtain ⟨mk, wh, who, ms, A', B', r1, r2, r3, r4⟩ := run 1
          rw [if_pos c0, r1, r2, if_pos c0, if_neg (by decide)]
          refine ⟨wh, A', rfl, _, ?_, post B' r4⟩
          rcases r3 with ⟨f1, f2, f3⟩ | ⟨f1, f2, f3⟩
          · rw [f1, f2]
          · rw [f2]
        · obtain ⟨mk, wh, who, ms, A', B', r1, r2, r3, r4⟩ := run 0
          rw [if_neg c0, r1, r2, if_neg c0, if_pos rfl]
          rcases r3 with ⟨f1, f2, f3⟩ | ⟨f1, f2, f3⟩
          · rw [if_pos f1]
            refine ⟨wh, A', rfl, _, ?_, post B' r4⟩
            rw [f1, f3]
          · rw [if_neg f1]
            refine ⟨mk, A', rfl, _, ?_, post B' r4⟩
            rw [f3]
    · refine ⟨-1, X, ?_, Y, ?_, fun _ => rfl⟩
      · rw [zo0.mpr hv, bad_s (Or.inl rfl), Option.bind_some]
        dsimp only
        rw [if_neg (by decide)]
      · rw [if_pos (w01.mpr hv)]
  · refine ⟨-1, X, ?_, Y, ?_, fun _ => rfl⟩
    · rw [bad_s (Or.inr ha), Option.bind_some]
      dsimp only
      rw [if_neg (by decide)]
    · rw [if_pos (shm0.mpr ha)]
