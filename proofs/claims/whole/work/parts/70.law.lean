/-! the law -/
abbrev Lin : Type := List Int32 × List Int32
def cod (o : Nat) (X : St) : Nat → List Int32 → Prop
  | _, [] => True
  | k, y :: l => X.1 o k = y ∧ cod o X (k + 1) l
theorem cod_app {o : Nat} {X : St} : ∀ (l l' : List Int32) (k : Nat), cod o X k (l ++ l') ↔ cod o X k l ∧ cod o X (k + l.length) l' := by
  intro l
  induction l with
  | nil => intro l' k; exact ⟨fun h => ⟨trivial, h⟩, fun h => h.2⟩
  | cons y l ih =>
    intro l' k
    show (X.1 o k = y ∧ cod o X (k + 1) (l ++ l')) ↔ (X.1 o k = y ∧ cod o X (k + 1) l) ∧ cod o X (k + (l.length + 1)) l'
    rw [ih, show k + 1 + l.length = k + (l.length + 1) by omega, and_assoc]
theorem cod_get {o : Nat} {X : St} : ∀ (l : List Int32) (k : Nat), cod o X k l → ∀ i, i < l.length → X.1 o (k + i) = l.getD i 0 := by
  intro l
  induction l with
  | nil => intro k h i hi; exact absurd hi (Nat.not_lt_zero i)
  | cons y l ih =>
    intro k h i hi
    cases i with
    | zero => exact h.1
    | succ i =>
      have := ih (k + 1) h.2 i (Nat.lt_of_succ_lt_succ hi)
      rw [show k + (i + 1) = k + 1 + i by omega, this]
      rfl
theorem cod_map {o : Nat} {X : St} : ∀ (l : List Int32) (k : Nat), cod o X k (l.map phi) → ∀ i, i < l.length → X.1 o (k + i) = phi (l.getD i 0) := by
  intro l
  induction l with
  | nil => intro k h i hi; exact absurd hi (Nat.not_lt_zero i)
  | cons y l ih =>
    intro k h i hi
    cases i with
    | zero => exact h.1
    | succ i =>
      have := ih (k + 1) h.2 i (Nat.lt_of_succ_lt_succ hi)
      rw [show k + (i + 1) = k + 1 + i by omega, this]
      rfl
theorem cod_cg {o : Nat} {X Y : St} (h : ∀ i, Y.1 o i = X.1 o i) : ∀ (l : List Int32) (k : Nat), cod o X k l → cod o Y k l := by
  intro l
  induction l with
  | nil => intro k h; exact trivial
  | cons y l ih => intro k hk; exact ⟨by rw [h]; exact hk.1, ih _ hk.2⟩
def cls : Lin → List Int32
  | ([], s) => s.map phi ++ [-59]
  | (a :: as, s) => (a :: as).map phi ++ (-63 :: (s.map phi ++ [-59]))
def flat : List Lin → List Int32
  | [] => []
  | p :: ls => cls p ++ flat ls
/-- the lines in the model's arrays -/
def lay (X : St) : List Lin → Nat → Nat → Prop
  | [], _, _ => True
  | p :: ls, i, k => (X.1 113 i).toInt = k ∧ (X.1 114 i).toInt = ((k + p.1.length : Nat) : Int) ∧ (X.1 115 i).toInt = ((k + p.1.length + p.2.length : Nat) : Int) ∧ cod 116 X k p.1 ∧ cod 116 X (k + p.1.length) p.2 ∧ lay X ls (i + 1) (k + p.1.length + p.2.length)
theorem lay_cg {X Y : St} (h : ∀ o i, 113 ≤ o → o ≤ 116 → Y.1 o i = X.1 o i) : ∀ (ls : List Lin) (i k : Nat), lay X ls i k → lay Y ls i k := by
  intro ls
  induction ls with
  | nil => intro i k h; exact trivial
  | cons p ls ih =>
    intro i k hk
    obtain ⟨h1, h2, h3, h4, h5, h6⟩ := hk
    exact ⟨by rw [h _ _ (by omega) (by omega)]; exact h1, by rw [h _ _ (by omega) (by omega)]; exact h2, by rw [h _ _ (by omega) (by omega)]; exact h3, cod_cg (fun i => h _ _ (by omega) (by omega)) _ _ h4, cod_cg (fun i => h _ _ (by omega) (by omega)) _ _ h5, ih _ _ h6⟩
abbrev wfl (ls : List Lin) : Prop := ∀ p ∈ ls, (p.1 = [] ∨ WF p.1) ∧ WF p.2
/-- the law, on both sides -/
def ILaw (X : St) : Prop := (X.1 20 3 = 0 ∧ X.1 102 12 = 0) ∨ ∃ ls, ls ≠ [] ∧ ls.length ≤ 60 ∧ X.1 102 12 = 1 ∧ (X.1 102 13).toInt = ls.length ∧ wfl ls ∧ (X.1 20 3).toInt = (flat ls).length ∧ (flat ls).length ≤ 128 ∧ cod 21 X 0 (flat ls) ∧ lay X ls 0 0
/-- what the lines come to -/
def lawV (nm : Nat → Int32) : List Lin → Int32 → Prop
  | [], r => r = 0
  | ([], s) :: _, r => pus nm s r
  | (a :: as, s) :: ls, r => ∃ v, pus nm (a :: as) v ∧ ((v = 0 ∧ lawV nm ls r) ∨ (v ≠ 0 ∧ pus nm s r))
theorem lawV_ex {nm : Nat → Int32} : ∀ ls, wfl ls → ∃ r, lawV nm ls r := by
  intro ls
  induction ls with
  | nil => intro _; exact ⟨0, rfl⟩
  | cons p ls ih =>
    intro h
    obtain ⟨p1, p2⟩ := h p List.mem_cons_self
    obtain ⟨s, hs⟩ := p2.2 nm
    obtain ⟨a, b⟩ := p
    cases a with
    | nil => exact ⟨s, hs⟩
    | cons y a =>
      rcases p1 with e | e
      · cases e
      · obtain ⟨v, hv⟩ := e.2 nm
        by_cases c : v = 0
        · obtain ⟨r, hr⟩ := ih (fun q hq => h q (List.mem_cons_of_mem _ hq))
          exact ⟨r, v, hv, Or.inl ⟨c, hr⟩⟩
        · exact ⟨s, v, hv, Or.inr ⟨c, hs⟩⟩
theorem end59 {n w k : Nat} {v : Int32} {X : St} {L : Nat} (h1 : v.toInt = k) (h2 : (X.1 20 3).toInt = L) (h3 : k < L) (h4 : L ≤ 128) (h5 : X.1 21 k = -59) (h6 : (X.1 20 4).toInt = ((0 + 1 : Nat) : Int)) : ∃ X', rul_byText_L9 n (w + 1) 0 v X = some (X.1 22 0, X') ∧ X'.2 = X.2 ∧ ∀ o i, ¬ (o = 20 ∧ i = 4) → X'.1 o i = X.1 o i := by
  obtain ⟨t, t1, t2⟩ := pop_s h6 (by omega)
  refine ⟨stI X 20 4 t, ?_, rfl, fun o i ho => by rw [stI_at, if_neg ho]⟩
  show rul_byText_L9_B n (rul_byText_L9 n w) 0 v X = _
  unfold rul_byText_L9_B
  rw [if_pos (by rw [ltk]; omega), if_pos (by rw [inB_iff]; omega), nxk h1, if_pos h5, if_pos rfl, t2]
  rfl
/-- the class works out the lines -/
theorem lawC {n : Nat} {nm : Nat → Int32} {L : Nat} (hL : L ≤ 128) : ∀ (ls : List Lin) (w k : Nat) (v r : Int32) (X : St), wfl ls → lawV nm ls r → v.toInt = k → (X.1 20 3).toInt = L → k + (flat ls).length = L → (X.1 20 4).toInt = ((0 : Nat) : Int) → cod 21 X k (flat ls) → (∀ i, i < 6 → X.1 23 i = nm i) → ∃ X', rul_byText_L9 n (w + 1 + (flat ls).length) 0 v X = some (r, X') ∧ X'.2 = X.2 ∧ ∀ o i, o ≠ 22 → ¬ (o = 20 ∧ i = 4) → X'.1 o i = X.1 o i := by
  intro ls
  induction ls with
  | nil =>
    intro w k v r X hw hV h1 h2 h3 h4 h5 h6
    refine ⟨X, ?_, rfl, fun _ _ _ _ => rfl⟩
    show rul_byText_L9_B n (rul_byText_L9 n w) 0 v X = _
    unfold rul_byText_L9_B
    have h3' : k + 0 = L := h3
    rw [if_neg (by rw [ltk]; omega)]
    have : r = 0 := hV
    rw [this]
  | cons p ls ih =>
    intro w k v r X hw hV h1 h2 h3 h4 h5 h6
    obtain ⟨p1, p2⟩ := hw p List.mem_cons_self
    obtain ⟨a, s⟩ := p
    have lf : (flat ((a, s) :: ls)).length = (cls (a, s)).length + (flat ls).length := List.length_append
    obtain ⟨k1, k2⟩ := (cod_app (cls (a, s)) (flat ls) k).mp h5
    cases a with
    | nil =>
      have lc : (cls ([], s)).length = s.length + 1 := by
        show (s.map phi ++ [-59]).length = _
        rw [List.length_append, List.length_map]
        rfl
      obtain ⟨j1, j2⟩ := (cod_app (s.map phi) [-59] k).mp k1
      rw [List.length_map] at j2
      have hs : pus nm s r := hV
      obtain ⟨f', q1, q2, q3⟩ := hs 0 (fun i => X.1 22 i)
      obtain ⟨X1, v', r1, r2, r3, r4, r5, r6⟩ := tx1 (n := n) (L := L) s (w + (flat ls).length + 1 + 1) 0 k v X (0 + 1, f') h1 h2 (by omega) hL (by omega) h4 (cod_map s k j1) p2.1 h6 q1
      obtain ⟨X2, e1, e2, e3⟩ := end59 (n := n) (w := w + (flat ls).length + 1) (L := L) r2 (by rw [r6 _ _ (by omega) (by omega)]; exact h2) (by omega) hL (by rw [r6 _ _ (by omega) (by omega)]; exact j2.1) r3
      refine ⟨X2, ?_, e2.trans r4, fun o i o1 o2 => (e3 o i o2).trans (r6 o i o1 o2)⟩
      rw [lf, lc, show w + 1 + (s.length + 1 + (flat ls).length) = w + (flat ls).length + 1 + 1 + s.length by omega, r1, e1, r5 0]
      show some (f' 0, X2) = _
      rw [q2]
    | cons y a =>
      have pa : WF (y :: a) := by
        rcases p1 with e | e
        · cases e
        · exact e
      have lc : (cls (y :: a, s)).length = (y :: a).length + (1 + (s.length + 1)) := by
        show ((y :: a).map phi ++ (-63 :: (s.map phi ++ [-59]))).length = _
        simp only [List.length_append, List.length_map, List.length_cons, List.length_nil]
        omega
      obtain ⟨j1, j2⟩ := (cod_app ((y :: a).map phi) (-63 :: (s.map phi ++ [-59])) k).mp k1
      rw [List.length_map] at j2
      obtain ⟨j3, j4⟩ := j2
      obtain ⟨j5, j6⟩ := (cod_app (s.map phi) [-59] (k + (y :: a).length + 1)).mp j4
      rw [List.length_map] at j6
      obtain ⟨u, hu, hV2⟩ : ∃ v, pus nm (y :: a) v ∧ ((v = 0 ∧ lawV nm ls r) ∨ (v ≠ 0 ∧ pus nm s r)) := hV
      obtain ⟨f', q1, q2, q3⟩ := hu 0 (fun i => X.1 22 i)
      generalize hla : (y :: a).length = la at lc j3 j4 j5 j6
      obtain ⟨X1, v1, r1, r2, r3, r4, r5, r6⟩ := tx1 (n := n) (L := L) (y :: a) (w + (flat ls).length + (s.length + 1) + 1 + 1) 0 k v X (0 + 1, f') h1 h2 (by omega) hL (by omega) h4 (cod_map (y :: a) k j1) pa.1 h6 q1
      rw [hla] at r1 r2
      obtain ⟨t, t1, t2⟩ := pop_s (X := X1) (h := 0) r3 (by omega)
      have x22 : X1.1 22 0 = u := by rw [r5 0]; exact q2
      have st63 : ∀ W, rul_byText_L9 n (W + 1) 0 v1 X1 = (if u = 0 then rul_byText_L9 n W 1 (v1 + 1) (stI X1 20 4 t) else rul_byText_L9 n W 0 (v1 + 1) (stI X1 20 4 t)) := by
        intro W
        show rul_byText_L9_B n (rul_byText_L9 n W) 0 v1 X1 = _
        have e0 : X1.1 21 (k + la) = -63 := by rw [r6 _ _ (by omega) (by omega)]; exact j3
        unfold rul_byText_L9_B
        rw [if_pos (by rw [ltk, r6 20 3 (by omega) (by omega)]; omega), if_pos (by rw [inB_iff]; omega), nxk r2, e0, if_neg (by decide)]
        unfold rul_byText_J39
        rw [if_neg (by decide), if_pos rfl, if_pos rfl, t2, Option.bind_some]
        dsimp only
        rw [x22]
      have s1 := inc r2 (by omega)
      have X1c : ∀ o i, o ≠ 22 → ¬ (o = 20 ∧ i = 4) → (stI X1 20 4 t).1 o i = X.1 o i := fun o i o1 o2 => by rw [stI_at, if_neg o2]; exact r6 o i o1 o2
      rcases hV2 with ⟨c, hr⟩ | ⟨c, hr⟩
      · -- past this line
        obtain ⟨v2, z1, z2⟩ := tx2 (n := n) (L := L) s.length (w + (flat ls).length + 1 + 1) (k + la + 1) (v1 + 1) (stI X1 20 4 t) s1 (by rw [X1c _ _ (by omega) (by omega)]; exact h2) (by omega) hL (fun i hi => by
          rw [X1c _ _ (by omega) (by omega), cod_map s _ j5 i hi]
          have hm : s.getD i 0 ∈ s := by
            rw [List.getD_eq_getElem?_getD, List.getElem?_eq_getElem hi]
            exact List.getElem_mem hi
          exact (phi_ne (p2.1 _ hm)).1)
        obtain ⟨X2, b1, b2, b3⟩ := ih w (k + la + 1 + s.length + 1) (v2 + 1) r (stI X1 20 4 t) (fun q hq => hw q (List.mem_cons_of_mem _ hq)) hr (inc z2 (by omega)) (by rw [X1c _ _ (by omega) (by omega)]; exact h2) (by omega) (by rw [stI_self]; exact t1) (cod_cg (fun i => X1c _ _ (by omega) (by omega)) _ _ (by
          rw [lc] at k2
          rw [show k + la + 1 + s.length + 1 = k + (la + (1 + (s.length + 1))) by omega]
          exact k2)) (fun i hi => by rw [X1c _ _ (by omega) (by omega)]; exact h6 i hi)
        refine ⟨X2, ?_, b2.trans r4, fun o i o1 o2 => (b3 o i o1 o2).trans (X1c o i o1 o2)⟩
        rw [lf, lc, show w + 1 + (la + (1 + (s.length + 1)) + (flat ls).length) = w + (flat ls).length + (s.length + 1) + 1 + 1 + la by omega, r1, st63, if_pos c, show w + (flat ls).length + (s.length + 1) + 1 = w + (flat ls).length + 1 + 1 + s.length by omega, z1]
        rw [show w + (flat ls).length + 1 = w + 1 + (flat ls).length by omega] at *
        rw [← b1]
        show rul_byText_L9_B n (rul_byText_L9 n (w + 1 + (flat ls).length)) 1 v2 (stI X1 20 4 t) = _
        have e59 : (stI X1 20 4 t).1 21 (k + la + 1 + s.length) = -59 := by rw [X1c _ _ (by omega) (by omega)]; exact j6.1
        unfold rul_byText_L9_B
        rw [if_pos (by rw [ltk, X1c 20 3 (by omega) (by omega)]; omega), if_pos (by rw [inB_iff]; omega), nxk z2, e59, if_pos rfl, if_neg (by decide)]
        unfold rul_byText_J39
        rw [if_pos rfl]
      · obtain ⟨f2, q4, q5, q6⟩ := hr 0 (fun i => (stI X1 20 4 t).1 22 i)
        obtain ⟨X2, v2, z1, z2, z3, z4, z5, z6⟩ := tx1 (n := n) (L := L) s (w + (flat ls).length + 1 + 1) 0 (k + la + 1) (v1 + 1) (stI X1 20 4 t) (0 + 1, f2) s1 (by rw [X1c _ _ (by omega) (by omega)]; exact h2) (by omega) hL (by omega) (by rw [stI_self]; exact t1) (fun i hi => by rw [X1c _ _ (by omega) (by omega)]; exact cod_map s _ j5 i hi) p2.1 (fun i hi => by rw [X1c _ _ (by omega) (by omega)]; exact h6 i hi) q4
        obtain ⟨X3, e1, e2, e3⟩ := end59 (n := n) (w := w + (flat ls).length + 1) (L := L) z2 (by rw [z6 _ _ (by omega) (by omega), X1c _ _ (by omega) (by omega)]; exact h2) (by omega) hL (by rw [z6 _ _ (by omega) (by omega), X1c _ _ (by omega) (by omega)]; exact j6.1) z3
        refine ⟨X3, ?_, e2.trans (z4.trans r4), fun o i o1 o2 => (e3 o i o2).trans ((z6 o i o1 o2).trans (X1c o i o1 o2))⟩
        rw [lf, lc, show w + 1 + (la + (1 + (s.length + 1)) + (flat ls).length) = w + (flat ls).length + (s.length + 1) + 1 + 1 + la by omega, r1, st63, if_neg c, show w + (flat ls).length + (s.length + 1) + 1 = w + (flat ls).length + 1 + 1 + s.length by omega, z1, e1, z5 0]
        show some (f2 0, X3) = _
        rw [q5]
def clp (c : Int32) : Int32 := jmath_max 0 (jmath_min 99 c)
theorem flat_len : ∀ (ls : List Lin) (p : Lin), (flat (p :: ls)).length ≥ p.1.length + p.2.length + 1 + (flat ls).length := by
  intro ls p
  obtain ⟨a, s⟩ := p
  have lf : (flat ((a, s) :: ls)).length = (cls (a, s)).length + (flat ls).length := List.length_append
  rw [lf]
  cases a with
  | nil =>
    show (s.map phi ++ [-59]).length + _ ≥ _
    simp only [List.length_append, List.length_map, List.length_cons, List.length_nil]
    omega
  | cons y a =>
    show ((y :: a).map phi ++ (-63 :: (s.map phi ++ [-59]))).length + _ ≥ _
    simp only [List.length_append, List.length_map, List.length_cons, List.length_nil]
    omega
theorem j182 {n : Nat} (hn : 4096 ≤ n) {nm : Nat → Int32} {i k : Nat} {v r : Int32} {X : St} {s : List Int32} (hv : v.toInt = i) (hi : i < 60) (h1 : (X.1 114 i).toInt = k) (h2 : (X.1 115 i).toInt = ((k + s.length : Nat) : Int)) (hk : k + s.length ≤ 128) (hc : cod 116 X k s) (hw : WF s) (hm : ∀ i, i < 6 → X.1 122 i = nm i) (hp : pus nm s r) : ∃ X', mo_loss_J182 n v X = some (clp r, X') ∧ X'.2 = X.2 ∧ ∀ o i, o ≠ 121 → X'.1 o i = X.1 o i := by
  obtain ⟨X', w1, w2, w3⟩ := work_s hn (a := X.1 114 i) (e := X.1 115 i) h1 h2 hk (cod_get s k hc) hw.1 hm hp
  refine ⟨X', ?_, w2, w3⟩
  have ib : inB v 60 = true := by rw [inB_iff]; omega
  unfold mo_loss_J182
  rw [if_pos ib, if_pos ib, nxk hv, w1]
  rfl
/-- the model works out the lines -/
theorem lawM {n : Nat} (hn : 4096 ≤ n) {nm : Nat → Int32} {N : Nat} (hN : N ≤ 60) : ∀ (ls : List Lin) (w i k : Nat) (v r : Int32) (X : St), wfl ls → lawV nm ls r → v.toInt = i → (X.1 102 13).toInt = N → i + ls.length = N → lay X ls i k → k + (flat ls).length ≤ 128 → (∀ i, i < 6 → X.1 122 i = nm i) → ∃ X', mo_loss_L132 n (fun v8 X7 => (mo_loss_J182 n v8 X7)) (w + 1 + ls.length) v X = some (clp r, X') ∧ X'.2 = X.2 ∧ ∀ o i, o ≠ 121 → X'.1 o i = X.1 o i := by
  intro ls
  induction ls with
  | nil =>
    intro w i k v r X hw hV h1 h2 h3 h4 h5 h6
    have h3' : i + 0 = N := h3
    have hr : r = 0 := hV
    refine ⟨X, ?_, rfl, fun _ _ _ => rfl⟩
    show mo_loss_L132_B n _ (mo_loss_L132 n _ w) v X = _
    unfold mo_loss_L132_B
    rw [if_neg (by rw [ltk]; omega), hr]
    rfl
  | cons p ls ih =>
    intro w i k v r X hw hV h1 h2 h3 h4 h5 h6
    rw [List.length_cons] at h3
    obtain ⟨p1, p2⟩ := hw p List.mem_cons_self
    have fl := flat_len ls p
    obtain ⟨g1, g2, g3, g4, g5, g6⟩ := h4
    obtain ⟨a, s⟩ := p
    dsimp only at g1 g2 g3 g4 g5 g6 fl p1 p2
    have ib : inB v 60 = true := by rw [inB_iff]; omega
    show ∃ X', mo_loss_L132_B n (fun v8 X7 => (mo_loss_J182 n v8 X7)) (mo_loss_L132 n (fun v8 X7 => (mo_loss_J182 n v8 X7)) (w + 1 + ls.length)) v X = some (clp r, X') ∧ X'.2 = X.2 ∧ ∀ o i, o ≠ 121 → X'.1 o i = X.1 o i
    unfold mo_loss_L132_B
    rw [if_pos (by rw [ltk]; omega), if_pos ib, if_pos ib, nxk h1]
    cases a with
    | nil =>
      have hs : pus nm s r := hV
      rw [if_neg (by rw [ltk, g1, g2]; show ¬ (k : Int) < ((k + 0 : Nat) : Int); omega)]
      exact j182 hn h1 (by omega) g2 g3 (by show k + 0 + s.length ≤ 128; have : ([] : List Int32).length = 0 := rfl; omega) g5 p2 h6 hs
    | cons y a =>
      have pa : WF (y :: a) := by
        rcases p1 with e | e
        · cases e
        · exact e
      obtain ⟨u, hu, hV2⟩ : ∃ v, pus nm (y :: a) v ∧ ((v = 0 ∧ lawV nm ls r) ∨ (v ≠ 0 ∧ pus nm s r)) := hV
      have la : 0 < (y :: a).length := by rw [List.length_cons]; omega
      obtain ⟨X1, w1, w2, w3⟩ := work_s hn (a := X.1 113 i) (e := X.1 114 i) g1 g2 (by omega) (cod_get _ k g4) pa.1 h6 hu
      rw [if_pos (by rw [ltk, g1, g2]; omega), if_pos ib, if_pos ib, w1, Option.bind_some]
      dsimp only
      rcases hV2 with ⟨c, hr⟩ | ⟨c, hr⟩
      · rw [if_pos c]
        obtain ⟨X2, z1, z2, z3⟩ := ih w (i + 1) _ (v + 1) r X1 (fun q hq => hw q (List.mem_cons_of_mem _ hq)) hr (inc h1 (by omega)) (by rw [w3 _ _ (by omega)]; exact h2) (by omega) (lay_cg (fun o i o1 o2 => w3 o i (by omega)) _ _ _ g6) (by omega) (fun i hi => by rw [w3 _ _ (by omega)]; exact h6 i hi)
        exact ⟨X2, z1, z2.trans w2, fun o i ho => (z3 o i ho).trans (w3 o i ho)⟩
      · rw [if_neg c]
        obtain ⟨X2, z1, z2, z3⟩ := j182 hn (X := X1) (s := s) h1 (by omega) (by rw [w3 _ _ (by omega)]; exact g2) (by rw [w3 _ _ (by omega)]; exact g3) (by omega) (cod_cg (fun i => w3 _ _ (by omega)) _ _ g5) p2 (fun i hi => by rw [w3 _ _ (by omega)]; exact h6 i hi) hr
        exact ⟨X2, z1, z2.trans w2, fun o i ho => (z3 o i ho).trans (w3 o i ho)⟩
abbrev lwC (X A : St) : Prop := A.1 20 3 = X.1 20 3 ∧ ∀ i, A.1 21 i = X.1 21 i
abbrev lwM (X B : St) : Prop := B.1 102 12 = X.1 102 12 ∧ B.1 102 13 = X.1 102 13 ∧ ∀ o i, 113 ≤ o → o ≤ 116 → B.1 o i = X.1 o i
def nmf (d a f u t s : Int32) : Nat → Int32 := fun i => if i = 0 then d else if i = 1 then a else if i = 2 then f else if i = 3 then u else if i = 4 then t else s
/-- the marks that the law takes are the same on both sides -/
theorem marks1 {n : Nat} (hn : 4096 ≤ n) {X : St} (hL : ILaw X) (d a f u t s : Int32) (hs : 1 ≤ s.toInt) : ∃ V, (∀ A, lwC X A → ∃ A', rul_marks n d a f u t s A = some (V, A') ∧ A'.2 = A.2 ∧ ∀ o i, o ≠ 22 → o ≠ 23 → ¬ (o = 20 ∧ i = 4) → A'.1 o i = A.1 o i) ∧ ∀ (B : St) (v1 v2 : Int32) (i j : Nat), lwM X B → v1.toInt = i → v2.toInt = j → i < 8 → j < 8 → B.1 109 1 = s → jmath_abs (B.1 103 i - B.1 103 j) + jmath_abs (B.1 104 i - B.1 104 j) = f → jmath_abs (B.1 105 i - B.1 105 j) = u → ∃ B', mo_loss n v1 v2 d a t B = some (V, B') ∧ B'.2 = B.2 ∧ ∀ o i, o ≠ 121 → o ≠ 122 → B'.1 o i = B.1 o i := by
  rcases hL with ⟨l1, l2⟩ | ⟨ls, e1, e2, e3, e4, e5, e6, e7, e8, e9⟩
  · have s0 : ¬ s = 0 := fun e => by rw [e, ti0] at hs; omega
    by_cases ca : a = 2
    · refine ⟨jmath_min 99 (2 * (d / s)), fun A hA => ⟨A, ?_, rfl, fun _ _ _ _ _ => rfl⟩, fun B v1 v2 i j hB h1 h2 h3 h4 h5 h6 h7 => ⟨B, ?_, rfl, fun _ _ _ _ => rfl⟩⟩
      · unfold rul_marks rul_byRote
        rw [hA.1, if_pos l1, if_pos (by rw [ltk, ti0]; omega), if_neg s0, if_pos ca]
        rfl
      · unfold mo_loss
        rw [hB.1, if_pos l2, show nx (1 : Int32) = 1 by decide, h5, if_neg s0, if_pos ca, Int32.mul_comm]
    · refine ⟨jmath_min 99 (d / s), fun A hA => ⟨A, ?_, rfl, fun _ _ _ _ _ => rfl⟩, fun B v1 v2 i j hB h1 h2 h3 h4 h5 h6 h7 => ⟨B, ?_, rfl, fun _ _ _ _ => rfl⟩⟩
      · unfold rul_marks rul_byRote
        rw [hA.1, if_pos l1, if_pos (by rw [ltk, ti0]; omega), if_neg s0, if_neg ca]
        rfl
      · unfold mo_loss
        rw [hB.1, if_pos l2, show nx (1 : Int32) = 1 by decide, h5, if_neg s0, if_neg ca, Int32.mul_one]
  · obtain ⟨r, hr⟩ := lawV_ex (nm := nmf d a f u t s) ls e5
    have fl0 : 0 < (flat ls).length := by
      cases ls with
      | nil => exact absurd rfl e1
      | cons p ls => have := flat_len ls p; omega
    refine ⟨clp r, fun A hA => ?_, fun B v1 v2 i j hB h1 h2 h3 h4 h5 h6 h7 => ?_⟩
    · have n0 : ¬ A.1 20 3 = 0 := fun e => by rw [← hA.1, e, ti0] at e6; omega
      obtain ⟨W, hW⟩ : ∃ W, n = W + 1 + (flat ls).length := ⟨n - 1 - (flat ls).length, by omega⟩
      obtain ⟨A', r1, r2, r3⟩ := lawC (n := n) (nm := nmf d a f u t s) (L := (flat ls).length) e7 ls W 0 0 r (stI (stI (stI (stI (stI (stI (stI A 23 0 d) 23 1 a) 23 2 f) 23 3 u) 23 4 t) 23 5 s) 20 4 0) e5 hr ti0 (by
        rw [stI_at, if_neg (by omega), stI_at, if_neg (by omega), stI_at, if_neg (by omega), stI_at, if_neg (by omega), stI_at, if_neg (by omega), stI_at, if_neg (by omega), stI_at, if_neg (by omega), hA.1]
        exact e6) (by omega) (by rw [stI_self]; exact ti0) (cod_cg (fun i => by
        rw [stI_at, if_neg (by omega), stI_at, if_neg (by omega), stI_at, if_neg (by omega), stI_at, if_neg (by omega), stI_at, if_neg (by omega), stI_at, if_neg (by omega), stI_at, if_neg (by omega)]
        exact hA.2 i) _ _ e8) (fun i hi => by
        unfold nmf
        rcases (show i = 0 ∨ i = 1 ∨ i = 2 ∨ i = 3 ∨ i = 4 ∨ i = 5 by omega) with e | e | e | e | e | e <;> subst e <;> rfl)
      refine ⟨A', ?_, r2, fun o i o1 o2 o3 => ?_⟩
      · unfold rul_marks rul_byText
        rw [if_neg n0, Option.bind_some, Option.bind_some]
        have e : rul_byText_L9 n n 0 0 (stI (stI (stI (stI (stI (stI (stI A 23 0 d) 23 1 a) 23 2 f) 23 3 u) 23 4 t) 23 5 s) 20 4 0) = some (r, A') := by
          rw [← r1, ← hW]
        rw [show nx (0 : Int32) = 0 by decide, show nx (1 : Int32) = 1 by decide, show nx (2 : Int32) = 2 by decide, show nx (3 : Int32) = 3 by decide, show nx (4 : Int32) = 4 by decide, show nx (5 : Int32) = 5 by decide, e]
        rfl
      · rw [r3 o i o1 o3, stI_at, if_neg o3, stI_at, if_neg (by omega), stI_at, if_neg (by omega), stI_at, if_neg (by omega), stI_at, if_neg (by omega), stI_at, if_neg (by omega), stI_at, if_neg (by omega)]
    · have n0 : ¬ B.1 102 12 = 0 := fun e => by rw [← hB.1, e] at e3; exact absurd e3 (by decide)
      have i1 : inB v1 8 = true := by rw [inB_iff]; omega
      have i2 : inB v2 8 = true := by rw [inB_iff]; omega
      obtain ⟨W, hW⟩ : ∃ W, n = W + 1 + ls.length := ⟨n - 1 - ls.length, by omega⟩
      obtain ⟨B', r1, r2, r3⟩ := lawM hn (nm := nmf d a f u t s) (N := ls.length) e2 ls W 0 0 0 r (stI (stI (stI (stI (stI (stI B 122 0 d) 122 1 a) 122 2 f) 122 3 u) 122 4 t) 122 5 s) e5 hr ti0 (by
        rw [stI_at, if_neg (by omega), stI_at, if_neg (by omega), stI_at, if_neg (by omega), stI_at, if_neg (by omega), stI_at, if_neg (by omega), stI_at, if_neg (by omega), hB.2.1]
        exact e4) (by omega) (lay_cg (fun o i o1 o2 => by
        rw [stI_at, if_neg (by omega), stI_at, if_neg (by omega), stI_at, if_neg (by omega), stI_at, if_neg (by omega), stI_at, if_neg (by omega), stI_at, if_neg (by omega)]
        exact hB.2.2 o i o1 o2) _ _ _ e9) (by omega) (fun i hi => by
        unfold nmf
        rcases (show i = 0 ∨ i = 1 ∨ i = 2 ∨ i = 3 ∨ i = 4 ∨ i = 5 by omega) with e | e | e | e | e | e <;> subst e <;> rfl)
      refine ⟨B', ?_, r2, fun o i o1 o2 => ?_⟩
      · have e : mo_loss_L132 n (fun v8 X7 => (mo_loss_J182 n v8 X7)) n 0 (stI (stI (stI (stI (stI (stI B 122 0 d) 122 1 a) 122 2 f) 122 3 u) 122 4 t) 122 5 s) = some (clp r, B') := by
          rw [← r1, ← hW]
        unfold mo_loss
        rw [if_neg n0, Option.bind_some, if_pos i1, if_pos i2, if_pos i1, if_pos i2, Option.bind_some, if_pos i1, if_pos i2, Option.bind_some, Option.bind_some]
        rw [show nx (0 : Int32) = 0 by decide, show nx (1 : Int32) = 1 by decide, show nx (2 : Int32) = 2 by decide, show nx (3 : Int32) = 3 by decide, show nx (4 : Int32) = 4 by decide, show nx (5 : Int32) = 5 by decide, nxk h1, nxk h2]
        have g : ∀ (Z : St) (o i p : Nat) (x : Int32), o ≠ 122 → (stI Z 122 p x).1 o i = Z.1 o i := fun Z o i p x h => by rw [stI_at, if_neg (fun z => h z.1)]
        simp only [g _ 103 _ _ _ (by decide), g _ 104 _ _ _ (by decide), g _ 105 _ _ _ (by decide), g _ 109 _ _ _ (by decide), h5, h6, h7]
        exact e
      · rw [r3 o i o1, stI_at, if_neg (by omega), stI_at, if_neg (by omega), stI_at, if_neg (by omega), stI_at, if_neg (by omega), stI_at, if_neg (by omega), stI_at, if_neg (by omega)]
