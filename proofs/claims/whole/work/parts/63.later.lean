/-! whoLed, later, quicker -/
theorem joinr {β : Type} {E : Option (β × St)} {X : St} {P : St → β → Prop} (h : ∀ Y, Mo X Y → ∃ r A, E = some (r, A) ∧ P Y r) : ∃ r A, E = some (r, A) ∧ ∀ Y, Mo X Y → P Y r := by
  obtain ⟨r, A, e, -⟩ := h X Mo.rf
  refine ⟨r, A, e, fun Y hY => ?_⟩
  obtain ⟨r', A', e', p⟩ := h Y hY
  rw [e] at e'
  injection e' with e'
  injection e' with e1 _
  rw [e1]
  exact p
theorem rowE.cg {b : Nat} {A B A' B' : St} (h : rowE b A B) (a2 : A'.2 = A.2) (a1 : A'.1 94 b = A.1 94 b) (b2 : B'.2 = B.2) (b1 : B'.1 131 b = B.1 131 b) : rowE b A' B' := by
  obtain ⟨h1, h2, h3, h4⟩ := h
  exact ⟨by rw [b1, a1]; exact h1, by rw [a1]; exact h2, by rw [a1]; exact h3, fun i hi => by rw [a2, b2]; exact h4 i hi⟩
theorem MC.ld {m c : Nat} {f q l : Nat → Int32} {ld v : Int32} {A : St} (h : MC m c f q l ld A) : MC m c f q l v (stI A 26 9 v) := by
  obtain ⟨h1, h2, h3, h4, h5, h6⟩ := h
  exact ⟨by rw [stI_at, if_neg (by omega)]; exact h1, by rw [stI_at, if_neg (by omega)]; exact h2, fun i hi => by rw [stI_at, if_neg (by omega)]; exact h3 i hi, fun i hi => by rw [stI_at, if_neg (by omega)]; exact h4 i hi, fun i hi => by rw [stI_at, if_neg (by omega)]; exact h5 i hi, stI_self⟩
theorem MM.ld {m c : Nat} {f q l : Nat → Int32} {ld v : Int32} {A : St} (h : MM m c f q l ld A) : MM m c f q l v (stI A 109 0 v) := by
  obtain ⟨h1, h2, h3, h4, h5, h6, h7⟩ := h
  exact ⟨by rw [stI_at, if_neg (by omega)]; exact h1, by rw [stI_at, if_neg (by omega)]; exact h2, fun i hi => by rw [stI_at, if_neg (by omega)]; exact h3 i hi, fun i hi => by rw [stI_at, if_neg (by omega)]; exact h4 i hi, fun i hi => by rw [stI_at, if_neg (by omega)]; exact h5 i hi, stI_self, by rw [stI_at, if_neg (by omega)]; exact h7⟩
def updl (l : Nat → Int32) (k : Nat) (v : Int32) : Nat → Int32 := fun w => if w = k then v else l w
theorem MC.la {m c k : Nat} {f q l : Nat → Int32} {ld v : Int32} {A : St} (h : MC m c f q l ld A) : MC m c f q (updl l k v) ld (stI A 29 k v) := by
  obtain ⟨h1, h2, h3, h4, h5, h6⟩ := h
  refine ⟨by rw [stI_at, if_neg (by omega)]; exact h1, by rw [stI_at, if_neg (by omega)]; exact h2, fun i hi => by rw [stI_at, if_neg (by omega)]; exact h3 i hi, fun i hi => by rw [stI_at, if_neg (by omega)]; exact h4 i hi, fun i hi => ?_, by rw [stI_at, if_neg (by omega)]; exact h6⟩
  rw [stI_at]
  unfold updl
  by_cases e : i = k
  · rw [if_pos ⟨rfl, e⟩, if_pos e]
  · rw [if_neg (fun z => e z.2), if_neg e]; exact h5 i hi
theorem MM.la {m c k : Nat} {f q l : Nat → Int32} {ld v : Int32} {A : St} (h : MM m c f q l ld A) : MM m c f q (updl l k v) ld (stI A 108 k v) := by
  obtain ⟨h1, h2, h3, h4, h5, h6, h7⟩ := h
  refine ⟨by rw [stI_at, if_neg (by omega)]; exact h1, by rw [stI_at, if_neg (by omega)]; exact h2, fun i hi => by rw [stI_at, if_neg (by omega)]; exact h3 i hi, fun i hi => by rw [stI_at, if_neg (by omega)]; exact h4 i hi, fun i hi => ?_, by rw [stI_at, if_neg (by omega)]; exact h6, by rw [stI_at, if_neg (by omega)]; exact h7⟩
  rw [stI_at]
  unfold updl
  by_cases e : i = k
  · rw [if_pos ⟨rfl, e⟩, if_pos e]
  · rw [if_neg (fun z => e z.2), if_neg e]; exact h5 i hi
theorem MC.qu {m c k : Nat} {f q l : Nat → Int32} {ld v : Int32} {A : St} (h : MC m c f q l ld A) : MC m c f (updl q k v) l ld (stI A 28 k v) := by
  obtain ⟨h1, h2, h3, h4, h5, h6⟩ := h
  refine ⟨by rw [stI_at, if_neg (by omega)]; exact h1, by rw [stI_at, if_neg (by omega)]; exact h2, fun i hi => by rw [stI_at, if_neg (by omega)]; exact h3 i hi, fun i hi => ?_, fun i hi => by rw [stI_at, if_neg (by omega)]; exact h5 i hi, by rw [stI_at, if_neg (by omega)]; exact h6⟩
  rw [stI_at]
  unfold updl
  by_cases e : i = k
  · rw [if_pos ⟨rfl, e⟩, if_pos e]
  · rw [if_neg (fun z => e z.2), if_neg e]; exact h4 i hi
theorem MM.qu {m c k : Nat} {f q l : Nat → Int32} {ld v : Int32} {A : St} (h : MM m c f q l ld A) : MM m c f (updl q k v) l ld (stI A 107 k v) := by
  obtain ⟨h1, h2, h3, h4, h5, h6, h7⟩ := h
  refine ⟨by rw [stI_at, if_neg (by omega)]; exact h1, by rw [stI_at, if_neg (by omega)]; exact h2, fun i hi => by rw [stI_at, if_neg (by omega)]; exact h3 i hi, fun i hi => ?_, fun i hi => by rw [stI_at, if_neg (by omega)]; exact h5 i hi, by rw [stI_at, if_neg (by omega)]; exact h6, by rw [stI_at, if_neg (by omega)]; exact h7⟩
  rw [stI_at]
  unfold updl
  by_cases e : i = k
  · rw [if_pos ⟨rfl, e⟩, if_pos e]
  · rw [if_neg (fun z => e z.2), if_neg e]; exact h4 i hi
theorem who_s (n : Nat) (hn : 4096 ≤ n) {m c b : Nat} {f q l : Nat → Int32} {V g : Int32} (hm : m ≤ 8) (hc : c ≤ 60) (hb : b < 6) (hV : (irm V 10).toInt = b) : ∀ (w r k : Nat) (s v ldA ldB : Int32) (A B : St), v.toInt = k → k + r = m → r < w → MC m c f q l ldA A → MM m c f q l ldB B → rowE b A B → ∃ R A', el_whoLed_L18 n w V s v A = some (R, A') ∧ ∃ B', mo_whoLed_L42 n w V g s v B = some (R, stI B' 109 0 g) ∧ ∀ o i, o ≠ 134 → ¬ (o = 109 ∧ i = 0) → B'.1 o i = B.1 o i := by
  intro w
  induction w with
  | zero => intro r k s v ldA ldB A B h1 h2 h3; omega
  | succ w ih =>
    intro r k s v ldA ldB A B h1 h2 h3 hA hB hR
    show ∃ R A', el_whoLed_L18_B n (el_whoLed_L18 n w) V s v A = some (R, A') ∧ ∃ B', mo_whoLed_L42_B n (mo_whoLed_L42 n w) V g s v B = some (R, stI B' 109 0 g) ∧ ∀ o i, o ≠ 134 → ¬ (o = 109 ∧ i = 0) → B'.1 o i = B.1 o i
    unfold el_whoLed_L18_B mo_whoLed_L42_B poo_many tho_leadBy
    have a1 := hA.1
    have b1 := hB.1
    cases r with
    | zero =>
      rw [if_neg (by rw [ltk]; omega)]
      refine ⟨s, A, rfl, B, ?_, fun _ _ _ _ => rfl⟩
      rw [if_neg (by rw [ltk]; omega)]
      rfl
    | succ r =>
      obtain ⟨R, A', B', r1, r2, r3, r4, r5, r6⟩ := jud_s hn hm hc hb hV (hA.ld (v := v)) (hB.ld (v := v)) (hR.cg rfl (by rw [stI_at, if_neg (by omega)]) rfl (by rw [stI_at, if_neg (by omega)]))
      have hA' := (hA.ld (v := v)).cg r3
      have hB' := (hB.ld (v := v)).cg r6
      have hR' : rowE b A' B' := hR.cg r2 (by rw [r3 _ _ (by omega), stI_at, if_neg (by omega)]) r5 (by rw [r6 _ _ (by omega), stI_at, if_neg (by omega)])
      have fin : ∀ s', ∃ R A'', el_whoLed_L18 n w V s' (v + 1) A' = some (R, A'') ∧ ∃ B'', mo_whoLed_L42 n w V g s' (v + 1) B' = some (R, stI B'' 109 0 g) ∧ ∀ o i, o ≠ 134 → ¬ (o = 109 ∧ i = 0) → B''.1 o i = B.1 o i := by
        intro s'
        obtain ⟨R, A'', u1, B'', u2, u3⟩ := ih r (k + 1) s' (v + 1) v v A' B' (inc h1 (by omega)) (by omega) (by omega) hA' hB' hR'
        exact ⟨R, A'', u1, B'', u2, fun o i o1 o2 => by rw [u3 o i o1 o2, r6 o i o1, stI_at, if_neg o2]⟩
      have q1 : v < A.1 1 1 := by rw [ltk]; omega
      have q2 : v < B.1 102 0 := by rw [ltk]; omega
      simp only [if_pos q1, if_pos q2, Option.bind_some, r1, show nx (0 : Int32) = 0 by decide, r4]
      by_cases c1 : R = -2
      · simp only [if_pos c1]
        exact fin _
      · simp only [if_neg c1]
        exact fin _
theorem op_whoLed (n : Nat) (hn : 4096 ≤ n) (v : Int32) (X : St) (hP : IPool X) (hs : ISh X) (hw : IWy X) (hp : ISlp X) : ∃ r X1, el_whoLed n v X = some (r, X1) ∧ ∀ Y, Mo X Y → ∃ Y1, mo_whoLed n v Y = some (r, Y1) ∧ ∀ i, Y1.1 109 i = Y.1 109 i := by
  obtain ⟨m1, m2⟩ := mny_s hP
  refine joinr (fun Y hY => ?_)
  unfold el_whoLed mo_whoLed
  by_cases hv : two v
  · have va : 0 ≤ (v / 10).toInt ∧ (v / 10).toInt ≤ 5 := hv.2.1
    have vb : 0 ≤ (irm v 10).toInt ∧ (irm v 10).toInt ≤ 5 := hv.2.2
    have xa := nx_ti va.1
    have xb := nx_ti vb.1
    rw [if_neg (fun h => ars0.mp h hv)]
    rcases rip_s hn (h := 1) (by decide) hv hP hs hw with ⟨c, A, c1, c2, c3⟩ | ⟨A, x1, x2, x3⟩
    · refine ⟨c, A, ?_, Y, ?_, fun _ => rfl⟩
      · rw [c2, Option.bind_some]
        dsimp only
        rw [if_neg c1.1]
      · rw [c3 Y hY, Option.bind_some, if_pos c1.2.1]
    · obtain ⟨y0, B, b1, b2⟩ := x3 Y hY
      obtain ⟨R, A', r1, B', r2, r3⟩ := who_s n hn (b := nx (irm v 10)) (V := v) (g := B.1 109 0) m2 (rc_le hs (a := nx (v / 10)) (by omega)) (by omega) (by omega) n (mny X) 0 0 0 _ _ A B ti0 (by omega) (by omega) (x2.mc hP) (b2.mm hP hp) (rowE_s hs (by omega) x2 b2)
      refine ⟨R, A', ?_, stI B' 109 0 (B.1 109 0), ?_, fun i => ?_⟩
      · rw [x1, Option.bind_some]
        dsimp only
        rw [if_pos rfl, r1]
      · rw [y0, Option.bind_some, if_neg (by decide), b1, Option.bind_some, show nx (0 : Int32) = 0 by decide, r2]
      · rw [stI_at]
        by_cases e : i = 0
        · rw [if_pos ⟨rfl, e⟩, e, hY.2 _ _ (by omega)]
          exact b2.lo (by omega) (by omega) (by omega)
        · rw [if_neg (fun z => e z.2), r3 _ _ (by omega) (by omega), hY.2 _ _ (by omega)]
          exact b2.lo (by omega) (by omega) (by omega)
  · refine ⟨-1, X, ?_, Y, ?_, fun _ => rfl⟩
    · rw [rip_bad (Or.inr hv), Option.bind_some]
      dsimp only
      rw [if_neg (by decide)]
    · rw [if_pos (ars0.mpr hv)]
/-- the least number that will do -/
def fstv (P : Int → Prop) (lo hi : Int) (none r : Int32) : Prop := (∃ j : Int, lo ≤ j ∧ j ≤ hi ∧ P j ∧ (∀ i, lo ≤ i → i < j → ¬ P i) ∧ r.toInt = j) ∨ ((∀ i, lo ≤ i → i ≤ hi → ¬ P i) ∧ r = none)
theorem fstv_u {P : Int → Prop} {lo hi : Int} {o r s : Int32} (h1 : fstv P lo hi o r) (h2 : fstv P lo hi o s) : r = s := by
  rcases h1 with ⟨j, a1, a2, a3, a4, a5⟩ | ⟨a1, a2⟩
  · rcases h2 with ⟨k, b1, b2, b3, b4, b5⟩ | ⟨b1, b2⟩
    · rw [ti_eq, a5, b5]
      rcases Int.lt_trichotomy j k with e | e | e
      · exact absurd a3 (b4 j a1 e)
      · exact e
      · exact absurd b3 (a4 k b1 e)
    · exact absurd a3 (b1 j a1 a2)
  · rcases h2 with ⟨k, b1, b2, b3, b4, b5⟩ | ⟨b1, b2⟩
    · exact absurd b3 (a1 k b1 b2)
    · rw [a2, b2]
def Jlater (n : Nat) (V : Int32) (k : Nat) (B0 : St) (i : Int) : Prop := ∃ B', mo_wrong n V (stI B0 108 k (Int32.ofInt i)) = some (-2, B')
theorem Jlater_s {n : Nat} (hn : 4096 ≤ n) {m c b k : Nat} {f q l : Nat → Int32} {V ld : Int32} {A0 B0 : St} (hm : m ≤ 8) (hc : c ≤ 60) (hb : b < 6) (hV : (irm V 10).toInt = b) (hA : MC m c f q l ld A0) (hB : MM m c f q l ld B0) (hR : rowE b A0 B0) : (∀ (A : St) (x : Int32), A.2 = A0.2 → (∀ o i, o ≠ 27 → ¬ (o = 29 ∧ i = k) → A.1 o i = A0.1 o i) → ∃ r A', el_judged n V (stI A 29 k x) = some (r, A') ∧ (r = -2 ↔ Jlater n V k B0 x.toInt) ∧ A'.2 = A0.2 ∧ ∀ o i, o ≠ 27 → ¬ (o = 29 ∧ i = k) → A'.1 o i = A0.1 o i) ∧ (∀ (B : St) (x : Int32), B.2 = B0.2 → (∀ o i, o ≠ 134 → ¬ (o = 108 ∧ i = k) → B.1 o i = B0.1 o i) → ∃ r B', mo_wrong n V (stI B 108 k x) = some (r, B') ∧ (r = -2 ↔ Jlater n V k B0 x.toInt) ∧ B'.2 = B0.2 ∧ ∀ o i, o ≠ 134 → ¬ (o = 108 ∧ i = k) → B'.1 o i = B0.1 o i) := by
  have sc : ∀ (A : St) (x : Int32), (∀ o i, o ≠ 27 → ¬ (o = 29 ∧ i = k) → A.1 o i = A0.1 o i) → ∀ o i, o ≠ 27 → (stI A 29 k x).1 o i = (stI A0 29 k x).1 o i := by
    intro A x h o i ho
    rw [stI_at, stI_at]
    by_cases e : o = 29 ∧ i = k
    · rw [if_pos e, if_pos e]
    · rw [if_neg e, if_neg e, h o i ho e]
  have sm : ∀ (B : St) (x : Int32), (∀ o i, o ≠ 134 → ¬ (o = 108 ∧ i = k) → B.1 o i = B0.1 o i) → ∀ o i, o ≠ 134 → (stI B 108 k x).1 o i = (stI B0 108 k x).1 o i := by
    intro A x h o i ho
    rw [stI_at, stI_at]
    by_cases e : o = 108 ∧ i = k
    · rw [if_pos e, if_pos e]
    · rw [if_neg e, if_neg e, h o i ho e]
  have row0 : ∀ x : Int32, rowE b (stI A0 29 k x) (stI B0 108 k x) := fun x => hR.cg rfl (by rw [stI_at, if_neg (by omega)]) rfl (by rw [stI_at, if_neg (by omega)])
  have hA1 : ∀ x : Int32, MC m c f q (updl l k x) ld (stI A0 29 k x) := fun x => hA.la
  have hB1 : ∀ x : Int32, MM m c f q (updl l k x) ld (stI B0 108 k x) := fun x => hB.la
  constructor
  · intro A x h2 h1
    obtain ⟨r, A', B', r1, r2, r3, r4, -⟩ := jud_s hn hm hc hb hV ((hA1 x).cg (sc A x h1)) (hB1 x) ((row0 x).cg h2 (sc A x h1 _ _ (by omega)) rfl rfl)
    refine ⟨r, A', r1, ?_, r2.trans h2, fun o i o1 o2 => by rw [r3 o i o1, stI_at, if_neg o2, h1 o i o1 o2]⟩
    unfold Jlater
    rw [Int32.ofInt_toInt, r4]
    exact ⟨fun h => ⟨B', by rw [h]⟩, fun ⟨_, h⟩ => by injection h with h; injection h⟩
  · intro B x h2 h1
    obtain ⟨r, A', B', r1, -, -, r4, r5, r6⟩ := jud_s hn hm hc hb hV (hA1 x) ((hB1 x).cg (sm B x h1)) ((row0 x).cg rfl rfl h2 (sm B x h1 _ _ (by omega)))
    obtain ⟨s, A'', B'', s1, -, -, s4, -⟩ := jud_s hn hm hc hb hV (hA1 x) (hB1 x) (row0 x)
    rw [r1] at s1
    injection s1 with s1
    injection s1 with s1 _
    refine ⟨r, B', r4, ?_, r5.trans h2, fun o i o1 o2 => by rw [r6 o i o1, stI_at, if_neg o2, h1 o i o1 o2]⟩
    unfold Jlater
    rw [Int32.ofInt_toInt, s4, ← s1]
    exact ⟨fun h => ⟨B'', by rw [h]⟩, fun ⟨_, h⟩ => by injection h with h; injection h⟩
theorem clater_s (n : Nat) {V v : Int32} {k : Nat} {A0 : St} {P : Int → Prop} (hv : v.toInt = k) (hk : (k : Int) < (A0.1 1 1).toInt) (h8 : (A0.1 1 1).toInt ≤ 8) (H : ∀ (A : St) (x : Int32), A.2 = A0.2 → (∀ o i, o ≠ 27 → ¬ (o = 29 ∧ i = k) → A.1 o i = A0.1 o i) → ∃ r A', el_judged n V (stI A 29 k x) = some (r, A') ∧ (r = -2 ↔ P x.toInt) ∧ A'.2 = A0.2 ∧ ∀ o i, o ≠ 27 → ¬ (o = 29 ∧ i = k) → A'.1 o i = A0.1 o i) : ∀ (w j : Nat) (x : Int32) (A : St), x.toInt + j = 99 + 1 → j < w → A.2 = A0.2 → (∀ o i, o ≠ 27 → ¬ (o = 29 ∧ i = k) → A.1 o i = A0.1 o i) → ∃ r A', el_later_L23 n w V v x A = some (r, A') ∧ fstv P x.toInt 99 (-2) r := by
  intro w
  induction w with
  | zero => intro j x A h1 h2; omega
  | succ w ih =>
    intro j x A h1 h2 h3 h4
    show ∃ r A', el_later_L23_B n (el_later_L23 n w) V v x A = some (r, A') ∧ _
    unfold el_later_L23_B tho_delay
    have eH : (99 : Int32).toInt = 99 := by decide
    cases j with
    | zero =>
      rw [if_pos (by rw [ltk, eH]; omega)]
      exact ⟨_, A, rfl, Or.inr ⟨fun i i1 i2 => by omega, rfl⟩⟩
    | succ j =>
      rw [if_neg (by rw [ltk, eH]; omega), if_neg (fun h => has_s.mp h (by rw [h4 _ _ (by omega) (by omega)]; omega)), if_pos (by rw [inB_iff]; omega), Option.bind_some, nxk hv]
      obtain ⟨r, A', r1, r2, r3, r4⟩ := H A x h3 h4
      simp only [r1, Option.bind_some]
      by_cases c1 : r = -2
      · rw [if_pos c1]
        exact ⟨x, A', rfl, Or.inl ⟨x.toInt, by omega, by omega, r2.mp c1, fun i i1 i2 => by omega, rfl⟩⟩
      · rw [if_neg c1]
        have rx := ti_rng x
        have ex : (x + 1).toInt = x.toInt + 1 := by rw [ti_add] <;> rw [ti1] <;> omega
        obtain ⟨s, A'', s1, s2⟩ := ih j (x + 1) A' (by omega) (by omega) r3 r4
        refine ⟨s, A'', s1, ?_⟩
        rw [ex] at s2
        have np : ¬ P x.toInt := fun h => c1 (r2.mpr h)
        rcases s2 with ⟨y, a1, a2, a3, a4, a5⟩ | ⟨a1, a2⟩
        · refine Or.inl ⟨y, by omega, a2, a3, fun i i1 i2 => ?_, a5⟩
          rcases Int.lt_or_eq_of_le i1 with e | e
          · exact a4 i (by omega) i2
          · rw [← e]; exact np
        · refine Or.inr ⟨fun i i1 i2 => ?_, a2⟩
          rcases Int.lt_or_eq_of_le i1 with e | e
          · exact a1 i (by omega) i2
          · rw [← e]; exact np
theorem mlater_s (n : Nat) {V v g : Int32} {k : Nat} {B0 : St} {P : Int → Prop} (hv : v.toInt = k) (hk : k < 8) (H : ∀ (B : St) (x : Int32), B.2 = B0.2 → (∀ o i, o ≠ 134 → ¬ (o = 108 ∧ i = k) → B.1 o i = B0.1 o i) → ∃ r B', mo_wrong n V (stI B 108 k x) = some (r, B') ∧ (r = -2 ↔ P x.toInt) ∧ B'.2 = B0.2 ∧ ∀ o i, o ≠ 134 → ¬ (o = 108 ∧ i = k) → B'.1 o i = B0.1 o i) : ∀ (w j : Nat) (s x : Int32) (B : St), x.toInt + 1 = 0 + j → x.toInt ≤ 99 → j < w → B.2 = B0.2 → (∀ o i, o ≠ 134 → ¬ (o = 108 ∧ i = k) → B.1 o i = B0.1 o i) → fstv P (x.toInt + 1) 99 (-2) s → ∃ r B', mo_later_L53 n w V v g s x B = some (r, stI B' 108 k g) ∧ fstv P (0) 99 (-2) r ∧ ∀ o i, o ≠ 134 → ¬ (o = 108 ∧ i = k) → B'.1 o i = B0.1 o i := by
  intro w
  induction w with
  | zero => intro j s x B h0 h1 h2; omega
  | succ w ih =>
    intro j s x B h1 h0 h2 h3 h4 h5
    show ∃ r B', mo_later_L53_B n (mo_later_L53 n w) V v g s x B = some (r, stI B' 108 k g) ∧ _
    unfold mo_later_L53_B
    have eW : (0 : Int32).toInt = 0 := by decide
    have ib : inB v 8 = true := by rw [inB_iff]; omega
    cases j with
    | zero =>
      refine ⟨s, B, ?_, ?_, h4⟩
      · rw [if_pos (by rw [ltk, eW]; omega), if_pos ib, nxk hv]
      · rw [show (0 : Int) = x.toInt + 1 by omega]; exact h5
    | succ j =>
      rw [if_neg (by rw [ltk, eW]; omega), if_pos ib, nxk hv]
      obtain ⟨r, B', r1, r2, r3, r4⟩ := H B x h3 h4
      have ex : (x + -1).toInt = x.toInt - 1 := by rw [ti_add] <;> rw [ti_m1] <;> omega
      simp only [r1, Option.bind_some]
      by_cases c1 : r = -2
      · rw [if_pos c1]
        exact ih j x (x + -1) B' (by omega) (by omega) (by omega) r3 r4 (by
          rw [ex, show x.toInt - 1 + 1 = x.toInt by omega]
          exact Or.inl ⟨x.toInt, by omega, by omega, r2.mp c1, fun i i1 i2 => by omega, rfl⟩)
      · rw [if_neg c1]
        have np : ¬ P x.toInt := fun h => c1 (r2.mpr h)
        refine ih j s (x + -1) B' (by omega) (by omega) (by omega) r3 r4 ?_
        rw [ex, show x.toInt - 1 + 1 = x.toInt by omega]
        rcases h5 with ⟨y, a1, a2, a3, a4, a5⟩ | ⟨a1, a2⟩
        · refine Or.inl ⟨y, by omega, a2, a3, fun i i1 i2 => ?_, a5⟩
          rcases Int.lt_or_eq_of_le i1 with e | e
          · exact a4 i (by omega) i2
          · rw [← e]; exact np
        · refine Or.inr ⟨fun i i1 i2 => ?_, a2⟩
          rcases Int.lt_or_eq_of_le i1 with e | e
          · exact a1 i (by omega) i2
          · rw [← e]; exact np
theorem op_later (n : Nat) (hn : 4096 ≤ n) (v u : Int32) (X : St) (hP : IPool X) (hs : ISh X) (hw : IWy X) (hp : ISlp X) : ∃ r X1, el_later n v u X = some (r, X1) ∧ ∀ Y, Mo X Y → ∃ Y1, mo_later n v u Y = some (r, Y1) ∧ ∀ i, Y1.1 108 i = Y.1 108 i := by
  obtain ⟨m1, m2⟩ := mny_s hP
  refine joinr (fun Y hY => ?_)
  unfold el_later mo_later
  by_cases hv : two v
  · have va : 0 ≤ (v / 10).toInt ∧ (v / 10).toInt ≤ 5 := hv.2.1
    have vb : 0 ≤ (irm v 10).toInt ∧ (irm v 10).toInt ≤ 5 := hv.2.2
    have xa := nx_ti va.1
    have xb := nx_ti vb.1
    rw [if_neg (fun h => ars0.mp h hv)]
    by_cases hu : 0 ≤ u.toInt ∧ u.toInt < (X.1 1 1).toInt
    · rw [has1 hu, if_neg (fun h => (one_s hP hY).mp h hu)]
      rcases rip_s hn (h := 1) (by decide) hv hP hs hw with ⟨c, A, c1, c2, c3⟩ | ⟨A, x1, x2, x3⟩
      · refine ⟨c, A, ?_, Y, ?_, fun _ => rfl⟩
        · rw [c2, Option.bind_some]
          dsimp only
          rw [if_neg c1.1]
        · rw [c3 Y hY, Option.bind_some, if_pos c1.2.1]
      · obtain ⟨y0, B, b1, b2⟩ := x3 Y hY
        have hk : u.toInt = u.toInt.toNat := by omega
        generalize u.toInt.toNat = k at hk
        obtain ⟨H1, H2⟩ := Jlater_s hn (b := nx (irm v 10)) (V := v) (k := k) m2 (rc_le hs (a := nx (v / 10)) (by omega)) (by omega) (by omega) (x2.mc hP) (b2.mm hP hp) (rowE_s hs (by omega) x2 b2)
        have a11 : A.1 1 1 = X.1 1 1 := x2.lo (by omega)
        obtain ⟨r, A', r1, r2⟩ := clater_s n (P := Jlater n v k B) hk (by rw [a11]; omega) (by rw [a11]; omega) H1 n (99 + 1 - (0) : Int).toNat (0) A (by rw [show (0 : Int32).toInt = 0 by decide]; decide) (by have q : (99 + 1 - (0) : Int).toNat ≤ 100 := (by decide); omega) rfl (fun _ _ _ _ => rfl)
        obtain ⟨s, B', s1, s2, s3⟩ := mlater_s n (P := Jlater n v k B) (g := B.1 108 k) hk (by omega) H2 n (99 + 1 - (0) : Int).toNat (-2) 99 B (by rw [show (99 : Int32).toInt = 99 by decide]; decide) (by decide) (by have q : (99 + 1 - (0) : Int).toNat ≤ 100 := (by decide); omega) rfl (fun _ _ _ _ => rfl) (Or.inr ⟨fun i i1 i2 => by rw [show (99 : Int32).toInt = 99 by decide] at i1; omega, rfl⟩)
        rw [show (0 : Int32).toInt = 0 by decide] at r2
        have ers := fstv_u r2 s2
        refine ⟨r, A', ?_, stI B' 108 k (B.1 108 k), ?_, fun i => ?_⟩
        · rw [x1, Option.bind_some]
          dsimp only
          rw [if_pos rfl, r1]
        · rw [y0, Option.bind_some, if_neg (by decide), b1, Option.bind_some, if_pos (by rw [inB_iff]; omega), nxk hk, s1, ers]
        · rw [stI_at]
          by_cases e : i = k
          · rw [if_pos ⟨rfl, e⟩, e, hY.2 _ _ (by omega)]
            exact b2.lo (by omega) (by omega) (by omega)
          · rw [if_neg (fun z => e z.2), s3 _ _ (by omega) (by omega), hY.2 _ _ (by omega)]
            exact b2.lo (by omega) (by omega) (by omega)
    · have h0 : poo_has u X = 0 := has_s.mpr hu
      refine ⟨-1, X, ?_, Y, ?_, fun _ => rfl⟩
      · rw [h0, rip_bad (Or.inl rfl), Option.bind_some]
        dsimp only
        rw [if_neg (by decide)]
      · rw [if_pos ((one_s hP hY).mpr hu)]
  · refine ⟨-1, X, ?_, Y, ?_, fun _ => rfl⟩
    · rw [rip_bad (Or.inr hv), Option.bind_some]
      dsimp only
      rw [if_neg (by decide)]
    · rw [if_pos (ars0.mpr hv)]
def Jquicker (n : Nat) (V : Int32) (k : Nat) (B0 : St) (i : Int) : Prop := ∃ B', mo_wrong n V (stI B0 107 k (Int32.ofInt i)) = some (-2, B')
theorem Jquicker_s {n : Nat} (hn : 4096 ≤ n) {m c b k : Nat} {f q l : Nat → Int32} {V ld : Int32} {A0 B0 : St} (hm : m ≤ 8) (hc : c ≤ 60) (hb : b < 6) (hV : (irm V 10).toInt = b) (hA : MC m c f q l ld A0) (hB : MM m c f q l ld B0) (hR : rowE b A0 B0) : (∀ (A : St) (x : Int32), A.2 = A0.2 → (∀ o i, o ≠ 27 → ¬ (o = 28 ∧ i = k) → A.1 o i = A0.1 o i) → ∃ r A', el_judged n V (stI A 28 k x) = some (r, A') ∧ (r = -2 ↔ Jquicker n V k B0 x.toInt) ∧ A'.2 = A0.2 ∧ ∀ o i, o ≠ 27 → ¬ (o = 28 ∧ i = k) → A'.1 o i = A0.1 o i) ∧ (∀ (B : St) (x : Int32), B.2 = B0.2 → (∀ o i, o ≠ 134 → ¬ (o = 107 ∧ i = k) → B.1 o i = B0.1 o i) → ∃ r B', mo_wrong n V (stI B 107 k x) = some (r, B') ∧ (r = -2 ↔ Jquicker n V k B0 x.toInt) ∧ B'.2 = B0.2 ∧ ∀ o i, o ≠ 134 → ¬ (o = 107 ∧ i = k) → B'.1 o i = B0.1 o i) := by
  have sc : ∀ (A : St) (x : Int32), (∀ o i, o ≠ 27 → ¬ (o = 28 ∧ i = k) → A.1 o i = A0.1 o i) → ∀ o i, o ≠ 27 → (stI A 28 k x).1 o i = (stI A0 28 k x).1 o i := by
    intro A x h o i ho
    rw [stI_at, stI_at]
    by_cases e : o = 28 ∧ i = k
    · rw [if_pos e, if_pos e]
    · rw [if_neg e, if_neg e, h o i ho e]
  have sm : ∀ (B : St) (x : Int32), (∀ o i, o ≠ 134 → ¬ (o = 107 ∧ i = k) → B.1 o i = B0.1 o i) → ∀ o i, o ≠ 134 → (stI B 107 k x).1 o i = (stI B0 107 k x).1 o i := by
    intro A x h o i ho
    rw [stI_at, stI_at]
    by_cases e : o = 107 ∧ i = k
    · rw [if_pos e, if_pos e]
    · rw [if_neg e, if_neg e, h o i ho e]
  have row0 : ∀ x : Int32, rowE b (stI A0 28 k x) (stI B0 107 k x) := fun x => hR.cg rfl (by rw [stI_at, if_neg (by omega)]) rfl (by rw [stI_at, if_neg (by omega)])
  have hA1 : ∀ x : Int32, MC m c f (updl q k x) l ld (stI A0 28 k x) := fun x => hA.qu
  have hB1 : ∀ x : Int32, MM m c f (updl q k x) l ld (stI B0 107 k x) := fun x => hB.qu
  constructor
  · intro A x h2 h1
    obtain ⟨r, A', B', r1, r2, r3, r4, -⟩ := jud_s hn hm hc hb hV ((hA1 x).cg (sc A x h1)) (hB1 x) ((row0 x).cg h2 (sc A x h1 _ _ (by omega)) rfl rfl)
    refine ⟨r, A', r1, ?_, r2.trans h2, fun o i o1 o2 => by rw [r3 o i o1, stI_at, if_neg o2, h1 o i o1 o2]⟩
    unfold Jquicker
    rw [Int32.ofInt_toInt, r4]
    exact ⟨fun h => ⟨B', by rw [h]⟩, fun ⟨_, h⟩ => by injection h with h; injection h⟩
  · intro B x h2 h1
    obtain ⟨r, A', B', r1, -, -, r4, r5, r6⟩ := jud_s hn hm hc hb hV (hA1 x) ((hB1 x).cg (sm B x h1)) ((row0 x).cg rfl rfl h2 (sm B x h1 _ _ (by omega)))
    obtain ⟨s, A'', B'', s1, -, -, s4, -⟩ := jud_s hn hm hc hb hV (hA1 x) (hB1 x) (row0 x)
    rw [r1] at s1
    injection s1 with s1
    injection s1 with s1 _
    refine ⟨r, B', r4, ?_, r5.trans h2, fun o i o1 o2 => by rw [r6 o i o1, stI_at, if_neg o2, h1 o i o1 o2]⟩
    unfold Jquicker
    rw [Int32.ofInt_toInt, s4, ← s1]
    exact ⟨fun h => ⟨B'', by rw [h]⟩, fun ⟨_, h⟩ => by injection h with h; injection h⟩
theorem cquicker_s (n : Nat) {V v : Int32} {k : Nat} {A0 : St} {P : Int → Prop} (hv : v.toInt = k) (hk : (k : Int) < (A0.1 1 1).toInt) (h8 : (A0.1 1 1).toInt ≤ 8) (H : ∀ (A : St) (x : Int32), A.2 = A0.2 → (∀ o i, o ≠ 27 → ¬ (o = 28 ∧ i = k) → A.1 o i = A0.1 o i) → ∃ r A', el_judged n V (stI A 28 k x) = some (r, A') ∧ (r = -2 ↔ P x.toInt) ∧ A'.2 = A0.2 ∧ ∀ o i, o ≠ 27 → ¬ (o = 28 ∧ i = k) → A'.1 o i = A0.1 o i) : ∀ (w j : Nat) (x : Int32) (A : St), x.toInt + j = 9 + 1 → j < w → A.2 = A0.2 → (∀ o i, o ≠ 27 → ¬ (o = 28 ∧ i = k) → A.1 o i = A0.1 o i) → ∃ r A', el_quicker_L34 n w V v x A = some (r, A') ∧ fstv P x.toInt 9 (-99) r := by
  intro w
  induction w with
  | zero => intro j x A h1 h2; omega
  | succ w ih =>
    intro j x A h1 h2 h3 h4
    show ∃ r A', el_quicker_L34_B n (el_quicker_L34 n w) V v x A = some (r, A') ∧ _
    unfold el_quicker_L34_B tho_quicken
    have eH : (9 : Int32).toInt = 9 := by decide
    cases j with
    | zero =>
      rw [if_pos (by rw [ltk, eH]; omega)]
      exact ⟨_, A, rfl, Or.inr ⟨fun i i1 i2 => by omega, rfl⟩⟩
    | succ j =>
      rw [if_neg (by rw [ltk, eH]; omega), if_neg (fun h => has_s.mp h (by rw [h4 _ _ (by omega) (by omega)]; omega)), if_pos (by rw [inB_iff]; omega), Option.bind_some, nxk hv]
      obtain ⟨r, A', r1, r2, r3, r4⟩ := H A x h3 h4
      simp only [r1, Option.bind_some]
      by_cases c1 : r = -2
      · rw [if_pos c1]
        exact ⟨x, A', rfl, Or.inl ⟨x.toInt, by omega, by omega, r2.mp c1, fun i i1 i2 => by omega, rfl⟩⟩
      · rw [if_neg c1]
        have rx := ti_rng x
        have ex : (x + 1).toInt = x.toInt + 1 := by rw [ti_add] <;> rw [ti1] <;> omega
        obtain ⟨s, A'', s1, s2⟩ := ih j (x + 1) A' (by omega) (by omega) r3 r4
        refine ⟨s, A'', s1, ?_⟩
        rw [ex] at s2
        have np : ¬ P x.toInt := fun h => c1 (r2.mpr h)
        rcases s2 with ⟨y, a1, a2, a3, a4, a5⟩ | ⟨a1, a2⟩
        · refine Or.inl ⟨y, by omega, a2, a3, fun i i1 i2 => ?_, a5⟩
          rcases Int.lt_or_eq_of_le i1 with e | e
          · exact a4 i (by omega) i2
          · rw [← e]; exact np
        · refine Or.inr ⟨fun i i1 i2 => ?_, a2⟩
          rcases Int.lt_or_eq_of_le i1 with e | e
          · exact a1 i (by omega) i2
          · rw [← e]; exact np
theorem mquicker_s (n : Nat) {V v g : Int32} {k : Nat} {B0 : St} {P : Int → Prop} (hv : v.toInt = k) (hk : k < 8) (H : ∀ (B : St) (x : Int32), B.2 = B0.2 → (∀ o i, o ≠ 134 → ¬ (o = 107 ∧ i = k) → B.1 o i = B0.1 o i) → ∃ r B', mo_wrong n V (stI B 107 k x) = some (r, B') ∧ (r = -2 ↔ P x.toInt) ∧ B'.2 = B0.2 ∧ ∀ o i, o ≠ 134 → ¬ (o = 107 ∧ i = k) → B'.1 o i = B0.1 o i) : ∀ (w j : Nat) (s x : Int32) (B : St), x.toInt + 1 = -9 + j → x.toInt ≤ 9 → j < w → B.2 = B0.2 → (∀ o i, o ≠ 134 → ¬ (o = 107 ∧ i = k) → B.1 o i = B0.1 o i) → fstv P (x.toInt + 1) 9 (-99) s → ∃ r B', mo_quicker_L54 n w V v g s x B = some (r, stI B' 107 k g) ∧ fstv P (-9) 9 (-99) r ∧ ∀ o i, o ≠ 134 → ¬ (o = 107 ∧ i = k) → B'.1 o i = B0.1 o i := by
  intro w
  induction w with
  | zero => intro j s x B h0 h1 h2; omega
  | succ w ih =>
    intro j s x B h1 h0 h2 h3 h4 h5
    show ∃ r B', mo_quicker_L54_B n (mo_quicker_L54 n w) V v g s x B = some (r, stI B' 107 k g) ∧ _
    unfold mo_quicker_L54_B
    have eW : (-9 : Int32).toInt = -9 := by decide
    have ib : inB v 8 = true := by rw [inB_iff]; omega
    cases j with
    | zero =>
      refine ⟨s, B, ?_, ?_, h4⟩
      · rw [if_pos (by rw [ltk, eW]; omega), if_pos ib, nxk hv]
      · rw [show (-9 : Int) = x.toInt + 1 by omega]; exact h5
    | succ j =>
      rw [if_neg (by rw [ltk, eW]; omega), if_pos ib, nxk hv]
      obtain ⟨r, B', r1, r2, r3, r4⟩ := H B x h3 h4
      have ex : (x + -1).toInt = x.toInt - 1 := by rw [ti_add] <;> rw [ti_m1] <;> omega
      simp only [r1, Option.bind_some]
      by_cases c1 : r = -2
      · rw [if_pos c1]
        exact ih j x (x + -1) B' (by omega) (by omega) (by omega) r3 r4 (by
          rw [ex, show x.toInt - 1 + 1 = x.toInt by omega]
          exact Or.inl ⟨x.toInt, by omega, by omega, r2.mp c1, fun i i1 i2 => by omega, rfl⟩)
      · rw [if_neg c1]
        have np : ¬ P x.toInt := fun h => c1 (r2.mpr h)
        refine ih j s (x + -1) B' (by omega) (by omega) (by omega) r3 r4 ?_
        rw [ex, show x.toInt - 1 + 1 = x.toInt by omega]
        rcases h5 with ⟨y, a1, a2, a3, a4, a5⟩ | ⟨a1, a2⟩
        · refine Or.inl ⟨y, by omega, a2, a3, fun i i1 i2 => ?_, a5⟩
          rcases Int.lt_or_eq_of_le i1 with e | e
          · exact a4 i (by omega) i2
          · rw [← e]; exact np
        · refine Or.inr ⟨fun i i1 i2 => ?_, a2⟩
          rcases Int.lt_or_eq_of_le i1 with e | e
          · exact a1 i (by omega) i2
          · rw [← e]; exact np
theorem op_quicker (n : Nat) (hn : 4096 ≤ n) (v u : Int32) (X : St) (hP : IPool X) (hs : ISh X) (hw : IWy X) (hp : ISlp X) : ∃ r X1, el_quicker n v u X = some (r, X1) ∧ ∀ Y, Mo X Y → ∃ Y1, mo_quicker n v u Y = some (r, Y1) ∧ ∀ i, Y1.1 107 i = Y.1 107 i := by
  obtain ⟨m1, m2⟩ := mny_s hP
  refine joinr (fun Y hY => ?_)
  unfold el_quicker mo_quicker
  by_cases hv : two v
  · have va : 0 ≤ (v / 10).toInt ∧ (v / 10).toInt ≤ 5 := hv.2.1
    have vb : 0 ≤ (irm v 10).toInt ∧ (irm v 10).toInt ≤ 5 := hv.2.2
    have xa := nx_ti va.1
    have xb := nx_ti vb.1
    rw [if_neg (fun h => ars0.mp h hv)]
    by_cases hu : 0 ≤ u.toInt ∧ u.toInt < (X.1 1 1).toInt
    · rw [has1 hu, if_neg (fun h => (one_s hP hY).mp h hu)]
      rcases rip_s hn (h := 1) (by decide) hv hP hs hw with ⟨c, A, c1, c2, c3⟩ | ⟨A, x1, x2, x3⟩
      · refine ⟨c, A, ?_, Y, ?_, fun _ => rfl⟩
        · rw [c2, Option.bind_some]
          dsimp only
          rw [if_neg c1.1, if_neg c1.2.2]
        · rw [c3 Y hY, Option.bind_some, if_pos c1.2.1]
      · obtain ⟨y0, B, b1, b2⟩ := x3 Y hY
        have hk : u.toInt = u.toInt.toNat := by omega
        generalize u.toInt.toNat = k at hk
        obtain ⟨H1, H2⟩ := Jquicker_s hn (b := nx (irm v 10)) (V := v) (k := k) m2 (rc_le hs (a := nx (v / 10)) (by omega)) (by omega) (by omega) (x2.mc hP) (b2.mm hP hp) (rowE_s hs (by omega) x2 b2)
        have a11 : A.1 1 1 = X.1 1 1 := x2.lo (by omega)
        obtain ⟨r, A', r1, r2⟩ := cquicker_s n (P := Jquicker n v k B) hk (by rw [a11]; omega) (by rw [a11]; omega) H1 n (9 + 1 - (-9) : Int).toNat (-9) A (by rw [show (-9 : Int32).toInt = -9 by decide]; decide) (by have q : (9 + 1 - (-9) : Int).toNat ≤ 100 := (by decide); omega) rfl (fun _ _ _ _ => rfl)
        obtain ⟨s, B', s1, s2, s3⟩ := mquicker_s n (P := Jquicker n v k B) (g := B.1 107 k) hk (by omega) H2 n (9 + 1 - (-9) : Int).toNat (-99) 9 B (by rw [show (9 : Int32).toInt = 9 by decide]; decide) (by decide) (by have q : (9 + 1 - (-9) : Int).toNat ≤ 100 := (by decide); omega) rfl (fun _ _ _ _ => rfl) (Or.inr ⟨fun i i1 i2 => by rw [show (9 : Int32).toInt = 9 by decide] at i1; omega, rfl⟩)
        rw [show (-9 : Int32).toInt = -9 by decide] at r2
        have ers := fstv_u r2 s2
        refine ⟨r, A', ?_, stI B' 107 k (B.1 107 k), ?_, fun i => ?_⟩
        · rw [x1, Option.bind_some]
          dsimp only
          rw [if_pos rfl, r1]
        · rw [y0, Option.bind_some, if_neg (by decide), b1, Option.bind_some, if_pos (by rw [inB_iff]; omega), nxk hk, s1, ers]
        · rw [stI_at]
          by_cases e : i = k
          · rw [if_pos ⟨rfl, e⟩, e, hY.2 _ _ (by omega)]
            exact b2.lo (by omega) (by omega) (by omega)
          · rw [if_neg (fun z => e z.2), s3 _ _ (by omega) (by omega), hY.2 _ _ (by omega)]
            exact b2.lo (by omega) (by omega) (by omega)
    · have h0 : poo_has u X = 0 := has_s.mpr hu
      refine ⟨-2000000000, X, ?_, Y, ?_, fun _ => rfl⟩
      · rw [h0, rip_bad (Or.inl rfl), Option.bind_some]
        dsimp only
        rw [if_neg (by decide), if_pos rfl]
      · rw [if_pos ((one_s hP hY).mpr hu)]
  · refine ⟨-2000000000, X, ?_, Y, ?_, fun _ => rfl⟩
    · rw [rip_bad (Or.inr hv), Option.bind_some]
      dsimp only
      rw [if_neg (by decide), if_pos rfl]
    · rw [if_pos (ars0.mpr hv)]
