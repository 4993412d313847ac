/-! the text is read: levels -/
def frA (A A' : St) : Prop := A'.2 = A.2 ∧ ∀ o i, o ≠ 19 → ¬ (o = 17 ∧ (i = 3 ∨ i = 4)) → A'.1 o i = A.1 o i
def frB (B B' : St) : Prop := B'.2 = B.2 ∧ ∀ o i, o ≠ 120 → ¬ (o = 102 ∧ (i = 18 ∨ i = 19 ∨ i = 20)) → B'.1 o i = B.1 o i
theorem frA.tr {A B C : St} (h1 : frA A B) (h2 : frA B C) : frA A C := ⟨h2.1.trans h1.1, fun o i o1 o2 => (h2.2 o i o1 o2).trans (h1.2 o i o1 o2)⟩
theorem frB.tr {A B C : St} (h1 : frB A B) (h2 : frB B C) : frB A C := ⟨h2.1.trans h1.1, fun o i o1 o2 => (h2.2 o i o1 o2).trans (h1.2 o i o1 o2)⟩
theorem frA.rf {A : St} : frA A A := ⟨rfl, fun _ _ _ _ => rfl⟩
theorem frB.rf {A : St} : frB A A := ⟨rfl, fun _ _ _ _ => rfl⟩
def PA (X : St) (L p cc : Nat) (A : St) : Prop := (A.1 17 2).toInt = L ∧ (A.1 17 3).toInt = p ∧ (A.1 17 4).toInt = cc ∧ ∀ i, i < L → A.1 18 i = X.1 18 i
def PB (X : St) (L p mc o : Nat) (B : St) : Prop := (B.1 102 10).toInt = L ∧ (B.1 102 18).toInt = p ∧ (B.1 102 20).toInt = mc ∧ (B.1 102 19).toInt = o ∧ ∀ i, i < L → B.1 112 i = X.1 18 i
def Suc (X : St) (L p0 cc mc o : Nat) (A0 B0 A B : St) (p : Nat) (l : List Int32) : Prop := PA X L p (cc + l.length) A ∧ PB X L p (mc + l.length) o B ∧ p ≤ L ∧ l.length + p0 ≤ p ∧ p0 < p ∧ WF l ∧ cod 19 A cc (l.map phi) ∧ cod 120 B mc l ∧ (∀ i, i < cc → A.1 19 i = A0.1 19 i) ∧ (∀ i, i < mc → B.1 120 i = B0.1 120 i) ∧ frA A0 A ∧ frB B0 B
def Fai (A0 B0 A B : St) : Prop := (∃ p : Nat, (A.1 17 3).toInt = p ∧ (B.1 102 18).toInt = p) ∧ frA A0 A ∧ frB B0 B
def Out (X : St) (L p0 cc mc o : Nat) (A0 B0 : St) (E1 E2 : Option (Int32 × St)) : Prop := (∃ A B p l, E1 = some (1, A) ∧ E2 = some (1, B) ∧ Suc X L p0 cc mc o A0 B0 A B p l) ∨ (∃ A B, E1 = some (0, A) ∧ E2 = some (0, B) ∧ Fai A0 B0 A B)
theorem wr_s {A : St} {v : Int32} {cc : Nat} (h : (A.1 17 4).toInt = cc) (hc : cc < 128) : ∃ t : Int32, t.toInt = ((cc + 1 : Nat) : Int) ∧ tap_write v A = some (stI (stI A 19 cc v) 17 4 t) := by
  refine ⟨A.1 17 4 + 1, inc h (by omega), ?_⟩
  unfold tap_write
  rw [if_pos (by rw [ltk, show (128 : Int32).toInt = 128 by decide]; omega), if_pos (by rw [inB_iff]; omega), nxk h, Option.bind_some, stI_at, if_neg (by omega)]
theorem co_s {B : St} {v : Int32} {mc : Nat} (h : (B.1 102 20).toInt = mc) (hc : mc < 128) : ∃ t : Int32, t.toInt = ((mc + 1 : Nat) : Int) ∧ mo_codes v B = some (1, stI (stI B 102 20 t) 120 mc v) := by
  refine ⟨B.1 102 20 + 1, inc h (by omega), ?_⟩
  unfold mo_codes
  rw [if_pos (by rw [inB_iff]; omega), nxk h, Option.bind_some]
theorem cod_st {o o' i' k : Nat} {v : Int32} {A : St} (l : List Int32) (h : o ≠ o' ∨ k + l.length ≤ i') (hc : cod o A k l) : cod o (stI A o' i' v) k l := by
  induction l generalizing k with
  | nil => exact trivial
  | cons y l ih =>
    rw [List.length_cons] at h
    refine ⟨?_, ih (by omega) hc.2⟩
    rw [stI_at, if_neg (by omega)]
    exact hc.1
theorem cod_ex {o : Nat} {A A' : St} (l : List Int32) {k : Nat} (h : ∀ i, k ≤ i → i < k + l.length → A'.1 o i = A.1 o i) (hc : cod o A k l) : cod o A' k l := by
  induction l generalizing k with
  | nil => exact trivial
  | cons y l ih =>
    rw [List.length_cons] at h
    refine ⟨?_, ih (fun i i1 i2 => h i (by omega) (by omega)) hc.2⟩
    rw [h k (Nat.le_refl _) (by omega)]
    exact hc.1
/-- the signs of a level, and the model's codes of them -/
def opc (v : Nat) (x : Int32) : Option Int32 := if v = 0 then (if x = 124 then some 6 else none) else if v = 1 then (if x = 38 then some 7 else none) else if v = 2 then (if x = 60 then some 8 else if x = 61 then some 9 else if x = 62 then some 10 else none) else if v = 3 then (if x = 43 then some 11 else if x = 45 then some 12 else none) else (if x = 42 then some 13 else if x = 47 then some 14 else if x = 37 then some 15 else none)
theorem opc_s {v : Nat} {x y : Int32} (hv : v < 5) (h : opc v x = some y) : tap_levelOf x = Int32.ofNat v ∧ phi y = -x ∧ 6 ≤ y.toInt ∧ y.toInt ≤ 15 := by
  rcases (show v = 0 ∨ v = 1 ∨ v = 2 ∨ v = 3 ∨ v = 4 by omega) with e | e | e | e | e <;> subst e
  · unfold opc at h
    rw [if_pos rfl] at h
    by_cases c : x = 124
    · rw [if_pos c] at h; injection h with h; subst h; subst c; decide
    · rw [if_neg c] at h; cases h
  · unfold opc at h
    rw [if_neg (by decide), if_pos rfl] at h
    by_cases c : x = 38
    · rw [if_pos c] at h; injection h with h; subst h; subst c; decide
    · rw [if_neg c] at h; cases h
  · unfold opc at h
    rw [if_neg (by decide), if_neg (by decide), if_pos rfl] at h
    by_cases c : x = 60
    · rw [if_pos c] at h; injection h with h; subst h; subst c; decide
    rw [if_neg c] at h
    by_cases c2 : x = 61
    · rw [if_pos c2] at h; injection h with h; subst h; subst c2; decide
    rw [if_neg c2] at h
    by_cases c3 : x = 62
    · rw [if_pos c3] at h; injection h with h; subst h; subst c3; decide
    · rw [if_neg c3] at h; cases h
  · unfold opc at h
    rw [if_neg (by decide), if_neg (by decide), if_neg (by decide), if_pos rfl] at h
    by_cases c : x = 43
    · rw [if_pos c] at h; injection h with h; subst h; subst c; decide
    rw [if_neg c] at h
    by_cases c2 : x = 45
    · rw [if_pos c2] at h; injection h with h; subst h; subst c2; decide
    · rw [if_neg c2] at h; cases h
  · unfold opc at h
    rw [if_neg (by decide), if_neg (by decide), if_neg (by decide), if_neg (by decide)] at h
    by_cases c : x = 42
    · rw [if_pos c] at h; injection h with h; subst h; subst c; decide
    rw [if_neg c] at h
    by_cases c2 : x = 47
    · rw [if_pos c2] at h; injection h with h; subst h; subst c2; decide
    rw [if_neg c2] at h
    by_cases c3 : x = 37
    · rw [if_pos c3] at h; injection h with h; subst h; subst c3; decide
    · rw [if_neg c3] at h; cases h
theorem opc_n {v : Nat} {x : Int32} (hv : v < 5) (h : opc v x = none) : tap_levelOf x ≠ Int32.ofNat v := by
  unfold tap_levelOf
  by_cases c1 : x = 37
  · subst c1; rw [if_pos rfl]; intro e; rcases (show v = 0 ∨ v = 1 ∨ v = 2 ∨ v = 3 ∨ v = 4 by omega) with z | z | z | z | z <;> subst z <;> first | exact absurd e (by decide) | exact absurd h (by decide)
  rw [if_neg c1]
  by_cases c2 : x = 38
  · subst c2; rw [if_pos rfl]; intro e; rcases (show v = 0 ∨ v = 1 ∨ v = 2 ∨ v = 3 ∨ v = 4 by omega) with z | z | z | z | z <;> subst z <;> first | exact absurd e (by decide) | exact absurd h (by decide)
  rw [if_neg c2]
  by_cases c3 : x = 42
  · subst c3; rw [if_pos rfl]; intro e; rcases (show v = 0 ∨ v = 1 ∨ v = 2 ∨ v = 3 ∨ v = 4 by omega) with z | z | z | z | z <;> subst z <;> first | exact absurd e (by decide) | exact absurd h (by decide)
  rw [if_neg c3]
  by_cases c4 : x = 43
  · subst c4; rw [if_pos rfl]; intro e; rcases (show v = 0 ∨ v = 1 ∨ v = 2 ∨ v = 3 ∨ v = 4 by omega) with z | z | z | z | z <;> subst z <;> first | exact absurd e (by decide) | exact absurd h (by decide)
  rw [if_neg c4]
  by_cases c5 : x = 45
  · subst c5; rw [if_pos rfl]; intro e; rcases (show v = 0 ∨ v = 1 ∨ v = 2 ∨ v = 3 ∨ v = 4 by omega) with z | z | z | z | z <;> subst z <;> first | exact absurd e (by decide) | exact absurd h (by decide)
  rw [if_neg c5]
  by_cases c6 : x = 47
  · subst c6; rw [if_pos rfl]; intro e; rcases (show v = 0 ∨ v = 1 ∨ v = 2 ∨ v = 3 ∨ v = 4 by omega) with z | z | z | z | z <;> subst z <;> first | exact absurd e (by decide) | exact absurd h (by decide)
  rw [if_neg c6]
  by_cases c7 : x = 60
  · subst c7; rw [if_pos rfl]; intro e; rcases (show v = 0 ∨ v = 1 ∨ v = 2 ∨ v = 3 ∨ v = 4 by omega) with z | z | z | z | z <;> subst z <;> first | exact absurd e (by decide) | exact absurd h (by decide)
  rw [if_neg c7]
  by_cases c8 : x = 61
  · subst c8; rw [if_pos rfl]; intro e; rcases (show v = 0 ∨ v = 1 ∨ v = 2 ∨ v = 3 ∨ v = 4 by omega) with z | z | z | z | z <;> subst z <;> first | exact absurd e (by decide) | exact absurd h (by decide)
  rw [if_neg c8]
  by_cases c9 : x = 62
  · subst c9; rw [if_pos rfl]; intro e; rcases (show v = 0 ∨ v = 1 ∨ v = 2 ∨ v = 3 ∨ v = 4 by omega) with z | z | z | z | z <;> subst z <;> first | exact absurd e (by decide) | exact absurd h (by decide)
  rw [if_neg c9]
  by_cases c10 : x = 124
  · subst c10; rw [if_pos rfl]; intro e; rcases (show v = 0 ∨ v = 1 ∨ v = 2 ∨ v = 3 ∨ v = 4 by omega) with z | z | z | z | z <;> subst z <;> first | exact absurd e (by decide) | exact absurd h (by decide)
  rw [if_neg c10]
  intro e
  rcases (show v = 0 ∨ v = 1 ∨ v = 2 ∨ v = 3 ∨ v = 4 by omega) with z | z | z | z | z <;> subst z <;> exact absurd e (by decide)
theorem sign_s {X B : St} {L p mc o : Nat} (hL : L ≤ 120) (h : PB X L p mc o B) : mo_sign B = some (if p < L then X.1 18 p else -1) := by
  obtain ⟨h1, h2, h3, h4, h5⟩ := h
  unfold mo_sign
  by_cases c : p < L
  · rw [if_pos (by rw [ltk]; omega), if_pos (by rw [inB_iff]; omega), nxk h2, h5 p c, if_pos c]
  · rw [if_neg (by rw [ltk]; omega), if_neg c]
theorem PA.adv {X A : St} {L p cc : Nat} (hp : p < 1000) (h : PA X L p cc A) : PA X L (p + 1) cc (stI A 17 3 (A.1 17 3 + 1)) := by
  obtain ⟨h1, h2, h3, h4⟩ := h
  exact ⟨by rw [stI_at, if_neg (by omega)]; exact h1, by rw [stI_self]; exact inc h2 (by omega), by rw [stI_at, if_neg (by omega)]; exact h3, fun i hi => by rw [stI_at, if_neg (by omega)]; exact h4 i hi⟩
theorem PB.adv {X B : St} {L p mc o : Nat} (hp : p < 1000) (h : PB X L p mc o B) : PB X L (p + 1) mc o (stI B 102 18 (B.1 102 18 + 1)) := by
  obtain ⟨h1, h2, h3, h4, h5⟩ := h
  exact ⟨by rw [stI_at, if_neg (by omega)]; exact h1, by rw [stI_self]; exact inc h2 (by omega), by rw [stI_at, if_neg (by omega)]; exact h3, by rw [stI_at, if_neg (by omega)]; exact h4, fun i hi => by rw [stI_at, if_neg (by omega)]; exact h5 i hi⟩
theorem frA.st {A : St} {i : Nat} {v : Int32} (h : i = 3 ∨ i = 4) : frA A (stI A 17 i v) := ⟨rfl, fun o k h1 h2 => by rw [stI_at, if_neg (by omega)]⟩
theorem frA.s9 {A : St} {i : Nat} {v : Int32} : frA A (stI A 19 i v) := ⟨rfl, fun o k h1 h2 => by rw [stI_at, if_neg (by omega)]⟩
theorem frB.st {A : St} {i : Nat} {v : Int32} (h : i = 18 ∨ i = 19 ∨ i = 20) : frB A (stI A 102 i v) := ⟨rfl, fun o k h1 h2 => by rw [stI_at, if_neg (by omega)]⟩
theorem frB.s0 {A : St} {i : Nat} {v : Int32} : frB A (stI A 120 i v) := ⟨rfl, fun o k h1 h2 => by rw [stI_at, if_neg (by omega)]⟩
/-- a code written at the end of both -/
theorem Suc.wr {X : St} {L p0 cc mc o p q : Nat} {A0 B0 A1 B1 A B : St} {l l2 : List Int32} {y t t' : Int32} (h1 : Suc X L p0 cc mc o A0 B0 A1 B1 p l) (hq : p + 1 ≤ q) (h2 : PA X L q (cc + l.length + l2.length) A) (h3 : PB X L q (mc + l.length + l2.length) o B) (hqL : q ≤ L) (hl : l2.length + (p + 1) ≤ q) (hW : WF (l ++ (l2 ++ [y]))) (c1 : cod 19 A (cc + l.length) (l2.map phi)) (c2 : cod 120 B (mc + l.length) l2) (k1 : ∀ i, i < cc + l.length → A.1 19 i = A1.1 19 i) (k2 : ∀ i, i < mc + l.length → B.1 120 i = B1.1 120 i) (f1 : frA A1 A) (f2 : frB B1 B) (ht : t.toInt = ((cc + l.length + l2.length + 1 : Nat) : Int)) (ht' : t'.toInt = ((mc + l.length + l2.length + 1 : Nat) : Int)) : Suc X L p0 cc mc o A0 B0 (stI (stI A 19 (cc + l.length + l2.length) (phi y)) 17 4 t) (stI (stI B 102 20 t') 120 (mc + l.length + l2.length) y) q (l ++ (l2 ++ [y])) := by
  obtain ⟨s1, s2, s3, s4, s5, s6, s7, s8, s9, s10, s11, s12⟩ := h1
  obtain ⟨a1, a2, a3, a4⟩ := h2
  obtain ⟨b1, b2, b3, b4, b5⟩ := h3
  have ln : (l ++ (l2 ++ [y])).length = l.length + l2.length + 1 := by
    simp only [List.length_append, List.length_cons, List.length_nil]
    omega
  refine ⟨⟨?_, ?_, ?_, fun i hi => ?_⟩, ⟨?_, ?_, ?_, ?_, fun i hi => ?_⟩, hqL, by omega, by omega, hW, ?_, ?_, fun i hi => ?_, fun i hi => ?_, s11.tr (f1.tr (frA.s9.tr (frA.st (Or.inr rfl)))), s12.tr (f2.tr ((frB.st (Or.inr (Or.inr rfl))).tr frB.s0))⟩
  · rw [stI_at, if_neg (by omega), stI_at, if_neg (by omega)]; exact a1
  · rw [stI_at, if_neg (by omega), stI_at, if_neg (by omega)]; exact a2
  · rw [stI_self, ht, ln]; congr 1; omega
  · rw [stI_at, if_neg (by omega), stI_at, if_neg (by omega)]; exact a4 i hi
  · rw [stI_at, if_neg (by omega), stI_at, if_neg (by omega)]; exact b1
  · rw [stI_at, if_neg (by omega), stI_at, if_neg (by omega)]; exact b2
  · rw [stI_at, if_neg (by omega), stI_self, ht', ln]; congr 1; omega
  · rw [stI_at, if_neg (by omega), stI_at, if_neg (by omega)]; exact b4
  · rw [stI_at, if_neg (by omega), stI_at, if_neg (by omega)]; exact b5 i hi
  · rw [List.map_append, List.map_append]
    refine (cod_app _ _ _).mpr ⟨?_, (cod_app _ _ _).mpr ⟨?_, ?_⟩⟩
    · refine cod_st _ (Or.inl (by omega)) (cod_st _ (Or.inr (by rw [List.length_map]; omega)) (cod_ex _ (fun i i1 i2 => ?_) s7))
      rw [List.length_map] at i2
      exact k1 i i2
    · rw [List.length_map]
      exact cod_st _ (Or.inl (by omega)) (cod_st _ (Or.inr (by rw [List.length_map]; omega)) c1)
    · rw [List.length_map, List.length_map]
      refine ⟨?_, trivial⟩
      rw [stI_at, if_neg (by omega), stI_self]
  · refine (cod_app _ _ _).mpr ⟨?_, (cod_app _ _ _).mpr ⟨?_, ?_⟩⟩
    · exact cod_st _ (Or.inr (by omega)) (cod_st _ (Or.inl (by omega)) (cod_ex _ (fun i i1 i2 => k2 i i2) s8))
    · exact cod_st _ (Or.inr (by omega)) (cod_st _ (Or.inl (by omega)) c2)
    · exact ⟨stI_self, trivial⟩
  · rw [stI_at, if_neg (by omega), stI_at, if_neg (by omega), k1 i (by omega)]; exact s9 i hi
  · rw [stI_at, if_neg (by omega), stI_at, if_neg (by omega), k2 i (by omega)]; exact s10 i hi
/-- one operand more, with its sign, or none -/
theorem lev1 {n : Nat} {X : St} {L p0 cc mc o v p : Nat} {A0 B0 A B : St} {l : List Int32} {y : Int32} {CC : Nat → Int32 → Int32 → St → Option (Int32 × St)} {CM : St → Option (Int32 × St)} {KC KM : St → Option (Int32 × St)} (hL : L ≤ 120) (hv : v < 5) (hcc : cc ≤ p0) (hmc : mc ≤ p0) (hS : Suc X L p0 cc mc o A0 B0 A B p l) (hp : p < L) (hy : opc v (X.1 18 p) = some y) (H : Out X L (p + 1) (cc + l.length) (mc + l.length) o (stI A 17 3 (A.1 17 3 + 1)) (stI B 102 18 (B.1 102 18 + 1)) (CC 0 (Int32.ofNat v + 1) (Int32.ofNat o) (stI A 17 3 (A.1 17 3 + 1))) (CM (stI B 102 18 (B.1 102 18 + 1)))) (HK : ∀ A' B' p' l', Suc X L p0 cc mc o A0 B0 A' B' p' l' → p + 2 ≤ p' → Out X L p0 cc mc o A0 B0 (KC A') (KM B')) : Out X L p0 cc mc o A0 B0 ((CC 0 (Int32.ofNat v + 1) (Int32.ofNat o) (stI A 17 3 (A.1 17 3 + 1))).bind fun (c4, X3) => (if c4 = 0 then some ((0 : Int32), X3) else ((tap_write (-(X.1 18 p)) X3).bind fun X5 => KC X5))) ((CM (stI B 102 18 (B.1 102 18 + 1))).bind fun (c5, X4) => (if c5 = 0 then some ((0 : Int32), X4) else ((mo_codes y X4).bind fun (c7, X6) => KM X6))) := by
  have hS' := hS
  obtain ⟨s1, s2, s3, s4, s5, s6, s7, s8, s9, s10, s11, s12⟩ := hS'
  obtain ⟨-, q2, q3, q4⟩ := opc_s hv hy
  rcases H with ⟨A2, B2, p2, l2, e1, e2, t1, t2, t3, t4, t5, t6, t7, t8, t9, t10, t11, t12⟩ | ⟨A2, B2, e1, e2, f1, f2, f3⟩
  · obtain ⟨t, w1, w2⟩ := wr_s (v := -(X.1 18 p)) t1.2.2.1 (by omega)
    obtain ⟨t', w3, w4⟩ := co_s (v := y) t2.2.2.1 (by omega)
    have hN := Suc.wr (y := y) (t := t) (t' := t') hS (by omega) t1 t2 t3 t4 (wf_two s6 t6 ⟨q3, q4⟩) t7 t8 (fun i hi => (t9 i hi).trans (by rw [stI_at, if_neg (by omega)])) (fun i hi => (t10 i hi).trans (by rw [stI_at, if_neg (by omega)])) ((frA.st (Or.inl rfl)).tr t11) ((frB.st (Or.inl rfl)).tr t12) w1 w3
    rw [e1, e2, Option.bind_some]
    dsimp only
    rw [Option.bind_some]
    dsimp only
    rw [if_neg (by decide), if_neg (by decide), w2, w4, Option.bind_some, Option.bind_some]
    dsimp only
    rw [← q2]
    exact HK _ _ _ _ hN (by omega)
  · rw [e1, e2]
    exact Or.inr ⟨A2, B2, rfl, rfl, f1, s11.tr ((frA.st (Or.inl rfl)).tr f2), s12.tr ((frB.st (Or.inl rfl)).tr f3)⟩
/-- a level's loop -/
theorem lev2 {n : Nat} {X : St} {L p0 cc mc o v : Nat} {A0 B0 : St} {CC : Nat → Int32 → Int32 → St → Option (Int32 × St)} {CM : St → Option (Int32 × St)} {ML : Nat → St → Option (Int32 × St)} (hL : L ≤ 120) (hv : v < 5) (hv2 : v ≠ 2) (hcc : cc ≤ p0) (hmc : mc ≤ p0) (HM : ∀ (w : Nat) (B : St) (p mc' : Nat), PB X L p mc' o B → ML (w + 1) B = match (if p < L then opc v (X.1 18 p) else none) with
    | none => some (1, B)
    | some y => ((CM (stI B 102 18 (B.1 102 18 + 1))).bind fun (c5, X4) => (if c5 = 0 then some ((0 : Int32), X4) else ((mo_codes y X4).bind fun (c7, X6) => ML w X6)))) (H : ∀ (p c' m' : Nat) (A B : St), PA X L p c' A → PB X L p m' o B → p ≤ L → c' ≤ p → m' ≤ p → Out X L p c' m' o A B (CC 0 (Int32.ofNat v + 1) (Int32.ofNat o) A) (CM B)) : ∀ (r w u p k : Nat) (v3 : Int32) (A B : St) (l : List Int32), p + r = L → r < w → r < u → v3.toInt = k → k ≤ p → Suc X L p0 cc mc o A0 B0 A B p l → Out X L p0 cc mc o A0 B0 (tap_isLevel_L26 CC n w (Int32.ofNat v) (Int32.ofNat o) v3 A) (ML u B) := by
  intro r
  induction r using Nat.strongRecOn with
  | ind r ih =>
    intro w u p k v3 A B l h1 h2 h3 h4 h5 hS
    obtain ⟨W, rfl⟩ : ∃ W, w = W + 1 := ⟨w - 1, by omega⟩
    obtain ⟨U, rfl⟩ : ∃ U, u = U + 1 := ⟨u - 1, by omega⟩
    show Out X L p0 cc mc o A0 B0 (tap_isLevel_L26_B CC n (tap_isLevel_L26 CC n W) (Int32.ofNat v) (Int32.ofNat o) v3 A) (ML (U + 1) B)
    have hS' := hS
    obtain ⟨s1, s2, s3, s4, s5, s6, s7, s8, s9, s10, s11, s12⟩ := hS'
    rw [HM U B p _ s2]
    unfold tap_isLevel_L26_B
    have e120 : (120 : Int32).toInt = 120 := by decide
    obtain ⟨a1, a2, a3, a4⟩ := s1
    by_cases cp : p < L
    · rw [if_pos (by rw [ltk, e120]; omega), if_pos (by rw [ltk]; omega), if_pos (by rw [inB_iff]; omega), nxk a2, a4 p cp]
      cases ho : opc v (X.1 18 p) with
      | none =>
        have e : (if p < L then (none : Option Int32) else none) = none := ite_self _
        rw [e, if_neg (opc_n hv ho)]
        exact Or.inl ⟨A, B, p, l, rfl, rfl, hS⟩
      | some y =>
        rw [if_pos cp, if_pos (opc_s hv ho).1, if_pos (by rw [inB_iff]; omega)]
        have nv2 : ¬ Int32.ofNat v = 2 := fun e => hv2 (by
          have := congrArg Int32.toInt e
          rw [ti_ofNat (by omega), show (2 : Int32).toInt = 2 by decide] at this
          omega)
        refine lev1 (n := n) (KC := fun X5 => if Int32.ofNat v = 2 then some ((1 : Int32), X5) else tap_isLevel_L26 CC n W (Int32.ofNat v) (Int32.ofNat o) (v3 + 1) X5) (KM := ML U) hL hv hcc hmc hS cp ho (H (p + 1) _ _ _ _ (PA.adv (by omega) ⟨a1, a2, a3, a4⟩) (PB.adv (by omega) s2) (by omega) (by omega) (by omega)) (fun A' B' p' l' hN hp' => ?_)
        rw [if_neg nv2]
        exact ih (L - p') (by omega) W U p' (k + 1) (v3 + 1) A' B' l' (by have := hN.2.2.1; omega) (by omega) (by omega) (inc h4 (by omega)) (by omega) hN
    · rw [if_neg cp]
      have e : (if v3 < 120 then (if A.1 17 3 < A.1 17 2 then (if inB (A.1 17 3) 120 then (if tap_levelOf (A.1 18 (nx (A.1 17 3))) = Int32.ofNat v then (if inB (A.1 17 3) 120 then ((CC 0 (Int32.ofNat v + 1) (Int32.ofNat o) (stI A 17 3 (A.1 17 3 + 1))).bind fun (c4, X3) => (if c4 = 0 then some ((0 : Int32), X3) else ((tap_write (-(A.1 18 (nx (A.1 17 3)))) X3).bind fun X5 => (if Int32.ofNat v = 2 then some ((1 : Int32), X5) else tap_isLevel_L26 CC n W (Int32.ofNat v) (Int32.ofNat o) (v3 + 1) X5)))) else none) else some ((1 : Int32), A)) else none) else some ((1 : Int32), A)) else some ((1 : Int32), A)) = some (1, A) := by
        by_cases c : v3 < 120
        · rw [if_pos c, if_neg (by rw [ltk]; omega)]
        · rw [if_neg c]
      refine Or.inl ⟨A, B, p, l, e, rfl, hS⟩
