/-! off, apart: alike -/
def ISlp (X : St) : Prop := X.1 102 48 = -2
def mny (X : St) : Nat := (X.1 1 1).toInt.toNat
/-- by how much each is off after t counts -/
def dri (X : St) (a : Nat) : Nat → Nat → Int32 := itr (sp0 (mny X) (fun k => X.1 7 k) (X.1 9 0) (ac X a))
theorem mny_s {X : St} (hP : IPool X) : (X.1 1 1).toInt = mny X ∧ mny X ≤ 8 := by
  have h1 := hP.2.1
  have h2 := hP.2.2.1
  unfold mny
  omega
theorem sp0_cg {m T : Nat} {q q' : Nat → Int32} {ld : Int32} {f : Nat → Int32} (h : ∀ w, w < m → q w = q' w) : ∀ t, t ≤ T → ∀ w, w < m → itr (sp0 m q ld f) t w = itr (sp0 m q' ld f) t w := by
  refine itr_eq (fun t _ d e hd w hw => ?_)
  unfold sp0 stp
  by_cases c1 : f t = 4 ∧ (0 ≤ ld.toInt ∧ ld.toInt < m)
  · have := nx_ti c1.2.1
    rw [if_pos c1, if_pos c1, hd _ (by omega), h _ (by omega)]
  · rw [if_neg c1, if_neg c1, hd w hw, h w hw]
theorem thkX_s {n : Nat} (hn : 4096 ≤ n) {X A : St} {a : Nat} {v : Int32} (ha : a < 6) (hP : IPool X) (hs : ISh X) (hA : Rdy X a A) (hv : 0 ≤ v.toInt) : ∃ T Y, (jmath_min v (Int32.ofNat (rc X a))).toInt = (T : Nat) ∧ T ≤ rc X a ∧ tho_think n v A = some Y ∧ Y.2 = A.2 ∧ (∀ o i, o ≠ 27 → Y.1 o i = A.1 o i) ∧ ∀ i, i < mny X → Y.1 27 i = dri X a T i := by
  obtain ⟨m1, m2⟩ := mny_s hP
  have hc := rc_le hs ha
  have hT : (jmath_min v (Int32.ofNat (rc X a))).toInt = ((min v.toInt (rc X a)).toNat : Nat) := by
    rw [min_ti, rc_ti hs ha]; omega
  obtain ⟨Y, y1, y2, y3, y4⟩ := think_s hn (m := mny X) (c := rc X a) (f := ac X a) m2 hc hT (by omega) (A := A) (by rw [hA.lo (by omega)]; exact m1) hA.2.1 hA.2.2.1
  refine ⟨_, Y, hT, by omega, y1, y2, y3, fun i hi => ?_⟩
  rw [y4 i hi, hA.2.2.2.1]
  exact sp0_cg (T := (min v.toInt (rc X a)).toNat) (fun w hw => (hA.2.2.2.2.2.2.1 w (by omega)).1) _ (Nat.le_refl _) i hi
theorem spS_0 {m T : Nat} {q q' : Nat → Int32} {ld : Int32} {f : Nat → Int32} {B : St} (hm : m ≤ 8) (hs : B.1 102 48 = -2) (h : ∀ w, w < m → q w = q' w) : ∀ t, t ≤ T → ∀ w, w < m → itr (spS m (fun _ w => q w) ld f (slp B)) t w = itr (sp0 m q' ld f) t w := by
  refine itr_eq (fun t _ d e hd w hw => ?_)
  unfold spS sp0 stp
  rw [slp0 hs (m := m) t w (by omega), Int32.add_zero]
  by_cases c1 : f t = 4 ∧ (0 ≤ ld.toInt ∧ ld.toInt < m)
  · have := nx_ti c1.2.1
    rw [if_pos c1, if_pos c1, hd _ (by omega), ← h _ (by omega)]
  · rw [if_neg c1, if_neg c1, hd w hw, ← h w hw]
theorem drfX_s {n : Nat} (hn : 4096 ≤ n) {X B : St} {a : Nat} (ha : a < 6) (hP : IPool X) (hs : ISh X) (hB : Rds X a B) (hp : ISlp X) : ∃ Y, mo_drifts n 0 B = some Y ∧ Y.2 = B.2 ∧ (∀ o i, o ≠ 134 → Y.1 o i = B.1 o i) ∧ ∀ t, t ≤ rc X a → ∀ w, w < mny X → Y.1 134 (8 * t + w) = dri X a t w := by
  obtain ⟨m1, m2⟩ := mny_s hP
  have hc := rc_le hs ha
  have h0 : B.1 102 0 = X.1 1 1 := (hB.lo (by omega) (by omega) (by omega)).trans hP.1
  have h48 : B.1 102 48 = -2 := (hB.lo (by omega) (by omega) (by omega)).trans hp
  obtain ⟨Y, y1, y2, y3, y4⟩ := drifts0_s hn (m := mny X) (c := rc X a) (B := B) (f := ac X a) m2 hc (by rw [h0]; exact m1) (by rw [hB.2.1]; exact rc_ti hs ha) hB.2.2.1 (Or.inl h48)
  refine ⟨Y, y1, y2, y3, fun t ht w hw => ?_⟩
  rw [y4 t ht w hw, show B.1 109 0 = X.1 9 0 from (hB.lo (by omega) (by omega) (by omega)).trans (pl_j hP (j := 0) (by omega))]
  exact spS_0 (T := rc X a) m2 h48 (fun w hw => (hB.lo (by omega) (by omega) (by omega)).trans (pl_w hP (w := 4) (by omega) (by omega))) t ht w hw
theorem late_C {X A : St} {a w : Nat} (hP : IPool X) (hA : Rdy X a A) (hw : w < mny X) : A.1 29 w = X.1 8 w := (hA.2.2.2.2.2.2.1 w (by have := mny_s hP; omega)).2
theorem late_M {X B : St} {a w : Nat} (hP : IPool X) (hB : Rds X a B) (hw : w < mny X) : B.1 108 w = X.1 8 w := (hB.lo (by omega) (by omega) (by omega)).trans (pl_w hP (w := 5) (by omega) (by have := mny_s hP; omega))
theorem w60 {v : Int32} : mo_within v 0 60 = 0 ↔ ¬ (0 ≤ v.toInt ∧ v.toInt ≤ 60) := by
  rw [within0, ti0, show (60 : Int32).toInt = 60 by decide]; omega
theorem w01 {v : Int32} : mo_within v 0 1 = 0 ↔ ¬ (0 ≤ v.toInt ∧ v.toInt ≤ 1) := by
  rw [within0, ti0, ti1]; omega
theorem op_off (n : Nat) (hn : 4096 ≤ n) (a v u : Int32) (X : St) (hP : IPool X) (hs : ISh X) (hw : IWy X) (hp : ISlp X) : ∃ r X1, el_off n a v u X = some (r, X1) ∧ ∀ Y, Mo X Y → ∃ Y1, mo_off n a v u Y = some (r, Y1) := by
  obtain ⟨m1, m2⟩ := mny_s hP
  have e60 : (60 : Int32).toInt = 60 := by decide
  by_cases ha : 0 ≤ a.toInt ∧ a.toInt ≤ 5
  · have hx := nx_ti ha.1
    by_cases hv : 0 ≤ v.toInt ∧ v.toInt ≤ 60
    · by_cases hu : 0 ≤ u.toInt ∧ u.toInt < (X.1 1 1).toInt
      · have eE : el_off n a v u X = el_off_J28 n v u 1 a X := by
          unfold el_off
          rw [if_neg (by rw [ltk, ti0]; omega), if_neg (by rw [ltk, e60]; omega), if_neg (fun h => has_s.mp h hu)]
        rw [eE]
        unfold el_off_J28
        rcases beg_s hn (h := 1) (by decide) ha hP hs hw with ⟨c, c1, c2, c3⟩ | ⟨A, x1, x2, x3⟩
        · refine ⟨-2000000000, X, ?_, fun Y hY => ⟨Y, ?_⟩⟩
          · rw [c2, Option.bind_some]
            dsimp only
            rw [if_neg c1.1]
          · unfold mo_off
            rw [if_neg (fun h => shm0.mp h ha), if_neg (fun h => w60.mp h hv), if_neg (fun h => (one_s hP hY).mp h hu), c3 Y hY, Option.bind_some, if_pos c1.2]
        · obtain ⟨T, Z, t1, t2, z1, z2, z3, z4⟩ := thkX_s hn (by omega) hP hs x2 hv.1
          have hk : u.toInt = u.toInt.toNat := by omega
          have hkm : u.toInt.toNat < mny X := by omega
          have z11 : Z.1 1 1 = X.1 1 1 := (z3 _ _ (by omega)).trans (x2.lo (by omega))
          refine ⟨dri X (nx a) T u.toInt.toNat - X.1 8 u.toInt.toNat, Z, ?_, fun Y hY => ?_⟩
          · rw [x1, Option.bind_some]
            dsimp only
            rw [if_pos rfl, z1, Option.bind_some, offC hk (by rw [z11]; omega) (by rw [z11]; omega), Option.bind_some, z4 _ hkm, z3 _ _ (by omega), late_C hP x2 hkm]
          · obtain ⟨y0, B, b1, b2⟩ := x3 Y hY
            obtain ⟨D, d1, d2, d3, d4⟩ := drfX_s hn (by omega) hP hs b2 hp
            refine ⟨D, ?_⟩
            unfold mo_off
            rw [if_neg (fun h => shm0.mp h ha), if_neg (fun h => w60.mp h hv), if_neg (fun h => (one_s hP hY).mp h hu), y0, Option.bind_some, if_neg (by decide), b1, Option.bind_some, d1, Option.bind_some, d3 102 44 (by omega), b2.2.1, offM hk (by omega) t1 (by have := rc_le hs (a := nx a) (by omega); omega), Option.bind_some, d4 T t2 _ hkm, d3 108 _ (by omega), late_M hP b2 hkm]
      · refine ⟨-2000000000, X, ?_, fun Y hY => ⟨Y, ?_⟩⟩
        · unfold el_off el_off_J28
          rw [if_neg (by rw [ltk, ti0]; omega), if_neg (by rw [ltk, e60]; omega), if_pos (has_s.mpr hu), bad_s (Or.inl rfl), Option.bind_some]
          dsimp only
          rw [if_neg (by decide)]
        · unfold mo_off
          rw [if_neg (fun h => shm0.mp h ha), if_neg (fun h => w60.mp h hv), if_pos ((one_s hP hY).mpr hu)]
    · refine ⟨-2000000000, X, ?_, fun Y hY => ⟨Y, ?_⟩⟩
      · unfold el_off el_off_J28
        by_cases h1 : v < 0
        · rw [if_pos h1, bad_s (Or.inl rfl), Option.bind_some]
          dsimp only
          rw [if_neg (by decide)]
        · rw [if_neg h1, if_pos (by rw [ltk, e60]; rw [ltk, ti0] at h1; omega), bad_s (Or.inl rfl), Option.bind_some]
          dsimp only
          rw [if_neg (by decide)]
      · unfold mo_off
        rw [if_neg (fun h => shm0.mp h ha), if_pos (w60.mpr hv)]
  · refine ⟨-2000000000, X, ?_, fun Y hY => ⟨Y, ?_⟩⟩
    · unfold el_off el_off_J28
      simp only [bad_s (Or.inr ha), Option.bind_some, show ¬ (-1 : Int32) = 0 by decide, ↓reduceIte, ite_self]
    · unfold mo_off
      rw [if_pos (shm0.mpr ha)]
/-- both sides' distances at T -/
theorem bet_s {X A B Z D : St} {a T : Nat} {p : Int32} (hP : IPool X) (hA : Rdy X a A) (hB : Rds X a B) (hp : p.toInt = T) (hT : T ≤ 60) (z3 : ∀ o i, o ≠ 27 → Z.1 o i = A.1 o i) (z4 : ∀ i, i < mny X → Z.1 27 i = dri X a T i) (d3 : ∀ o i, o ≠ 134 → D.1 o i = B.1 o i) (d4 : ∀ w, w < mny X → D.1 134 (8 * T + w) = dri X a T w) : (Z.1 1 1).toInt = mny X ∧ (D.1 102 0).toInt = mny X ∧ bet (fun v u => tho_between v u Z) (mny X) (ap (dri X a T) (fun w => X.1 8 w)) ∧ bet (fun v u => mo_apartOf v u p D) (mny X) (ap (dri X a T) (fun w => X.1 8 w)) := by
  obtain ⟨m1, m2⟩ := mny_s hP
  have z11 : Z.1 1 1 = X.1 1 1 := (z3 _ _ (by omega)).trans (hA.lo (by omega))
  have d11 : D.1 102 0 = X.1 1 1 := ((d3 _ _ (by omega)).trans (hB.lo (by omega) (by omega) (by omega))).trans hP.1
  refine ⟨by rw [z11]; exact m1, by rw [d11]; exact m1, fun v u i j h1 h2 h3 h4 => ?_, fun v u i j h1 h2 h3 h4 => ?_⟩
  · show tho_between v u Z = _
    rw [betC h1 (by rw [z11]; omega) h2 (by rw [z11]; omega) (by rw [z11]; omega)]
    exact congrArg some (ap_cg (m := mny X) z4 (fun w hw => (z3 _ _ (by omega)).trans (late_C hP hA hw)) h3 h4)
  · show mo_apartOf v u p D = _
    rw [aptM h1 (by omega) h2 (by omega) hp hT]
    exact congrArg some (ap_cg (m := mny X) d4 (fun w hw => (d3 _ _ (by omega)).trans (late_M hP hB hw)) h3 h4)
theorem zo0 {v : Int32} : el_isZeroOrOne v = 0 ↔ ¬ (0 ≤ v.toInt ∧ v.toInt ≤ 1) := by
  unfold el_isZeroOrOne
  by_cases h1 : v = 0
  · rw [if_pos h1, h1]; decide
  · rw [if_neg h1]
    by_cases h2 : v = 1
    · rw [if_pos h2, h2]; decide
    · rw [if_neg h2]
      have g1 : v.toInt ≠ 0 := fun h => h1 (ti_eq.mpr (by rw [h]; decide))
      have g2 : v.toInt ≠ 1 := fun h => h2 (ti_eq.mpr (by rw [h]; decide))
      exact ⟨fun _ => by omega, fun _ => rfl⟩
theorem op_apart (n : Nat) (hn : 4096 ≤ n) (a v u : Int32) (X : St) (hP : IPool X) (hs : ISh X) (hw : IWy X) (hp : ISlp X) : ∃ r X1, el_apart n a v u X = some (r, X1) ∧ ∀ Y, Mo X Y → ∃ Y1, mo_apart n a v u Y = some (r, Y1) := by
  obtain ⟨m1, m2⟩ := mny_s hP
  have e60 : (60 : Int32).toInt = 60 := by decide
  by_cases ha : 0 ≤ a.toInt ∧ a.toInt ≤ 5
  · have hx := nx_ti ha.1
    by_cases hv : 0 ≤ v.toInt ∧ v.toInt ≤ 60
    · by_cases hu : 0 ≤ u.toInt ∧ u.toInt ≤ 1
      · have eE : el_apart n a v u X = el_apart_J24 n v u 1 a X := by
          unfold el_apart
          rw [if_neg (by rw [ltk, ti0]; omega), if_neg (by rw [ltk, e60]; omega), if_neg (fun h => zo0.mp h hu)]
        rw [eE]
        unfold el_apart_J24
        rcases beg_s hn (h := 1) (by decide) ha hP hs hw with ⟨c, c1, c2, c3⟩ | ⟨A, x1, x2, x3⟩
        · refine ⟨c, X, ?_, fun Y hY => ⟨Y, ?_⟩⟩
          · rw [c2, Option.bind_some]
            dsimp only
            rw [if_neg c1.1]
          · unfold mo_apart
            rw [if_neg (fun h => shm0.mp h ha), if_neg (fun h => w60.mp h hv), if_neg (fun h => w01.mp h hu), c3 Y hY, Option.bind_some, if_pos c1.2]
        · obtain ⟨T, Z, t1, t2, z1, z2, z3, z4⟩ := thkX_s hn (by omega) hP hs x2 hv.1
          have hT60 : T ≤ 60 := by have := rc_le hs (a := nx a) (by omega); omega
          have key : ∀ Y, Mo X Y → ∃ B D, mo_reads n a Y = some B ∧ mo_noRow a 0 Y = some 0 ∧ mo_drifts n 0 B = some D ∧ D.1 102 44 = Int32.ofNat (rc X (nx a)) ∧ (∃ g, tho_widest n Z = some g ∧ mo_greatest n (jmath_min v (Int32.ofNat (rc X (nx a)))) D = some g) ∧ ∃ c, tho_widestTwo n Z = some c ∧ mo_farthest n (jmath_min v (Int32.ofNat (rc X (nx a)))) D = some c := by
            intro Y hY
            obtain ⟨y0, B, b1, b2⟩ := x3 Y hY
            obtain ⟨D, d1, d2, d3, d4⟩ := drfX_s hn (by omega) hP hs b2 hp
            obtain ⟨g1, g2, g3, g4⟩ := bet_s hP x2 b2 t1 hT60 z3 z4 d3 (d4 T t2)
            exact ⟨B, D, b1, y0, d1, by rw [d3 _ _ (by omega), b2.2.1], far_s hn m2 g1 g2 g3 g4⟩
          obtain ⟨-, -, -, -, -, -, ⟨g, gA, -⟩, ⟨c, cA, -⟩⟩ := key X Mo.rf
          by_cases c0 : u = 0
          · refine ⟨g, Z, ?_, fun Y hY => ?_⟩
            · rw [x1, Option.bind_some]
              dsimp only
              rw [if_pos rfl, z1, Option.bind_some, if_pos c0, gA, Option.bind_some]
            · obtain ⟨B, D, k1, k2, k3, k4, ⟨g', gA', gB⟩, -⟩ := key Y hY
              rw [gA] at gA'
              injection gA' with gA'
              refine ⟨D, ?_⟩
              unfold mo_apart
              rw [if_neg (fun h => shm0.mp h ha), if_neg (fun h => w60.mp h hv), if_neg (fun h => w01.mp h hu), k2, Option.bind_some, if_neg (by decide), k1, Option.bind_some, k3, Option.bind_some, if_pos c0, k4, gB, Option.bind_some, gA']
          · refine ⟨c, Z, ?_, fun Y hY => ?_⟩
            · rw [x1, Option.bind_some]
              dsimp only
              rw [if_pos rfl, z1, Option.bind_some, if_neg c0, cA, Option.bind_some]
            · obtain ⟨B, D, k1, k2, k3, k4, -, ⟨c', cA', cB⟩⟩ := key Y hY
              rw [cA] at cA'
              injection cA' with cA'
              refine ⟨D, ?_⟩
              unfold mo_apart
              rw [if_neg (fun h => shm0.mp h ha), if_neg (fun h => w60.mp h hv), if_neg (fun h => w01.mp h hu), k2, Option.bind_some, if_neg (by decide), k1, Option.bind_some, k3, Option.bind_some, if_neg c0, k4, cB, Option.bind_some, cA']
      · refine ⟨-1, X, ?_, fun Y hY => ⟨Y, ?_⟩⟩
        · unfold el_apart el_apart_J24
          rw [if_neg (by rw [ltk, ti0]; omega), if_neg (by rw [ltk, e60]; omega), if_pos (zo0.mpr hu), bad_s (Or.inl rfl), Option.bind_some]
          dsimp only
          rw [if_neg (by decide)]
        · unfold mo_apart
          rw [if_neg (fun h => shm0.mp h ha), if_neg (fun h => w60.mp h hv), if_pos (w01.mpr hu)]
    · refine ⟨-1, X, ?_, fun Y hY => ⟨Y, ?_⟩⟩
      · unfold el_apart el_apart_J24
        by_cases h1 : v < 0
        · rw [if_pos h1, bad_s (Or.inl rfl), Option.bind_some]
          dsimp only
          rw [if_neg (by decide)]
        · rw [if_neg h1, if_pos (by rw [ltk, e60]; rw [ltk, ti0] at h1; omega), bad_s (Or.inl rfl), Option.bind_some]
          dsimp only
          rw [if_neg (by decide)]
      · unfold mo_apart
        rw [if_neg (fun h => shm0.mp h ha), if_pos (w60.mpr hv)]
  · refine ⟨-1, X, ?_, fun Y hY => ⟨Y, ?_⟩⟩
    · unfold el_apart el_apart_J24
      simp only [bad_s (Or.inr ha), Option.bind_some, show ¬ (-1 : Int32) = 0 by decide, ↓reduceIte, ite_self]
    · unfold mo_apart
      rw [if_pos (shm0.mpr ha)]
