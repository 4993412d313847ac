/-! the fewest: the class's table -/
section FEW
variable (c : Nat) (f : Nat → Int32) (fm to : Int32) (dl : Nat → Int32 → Option Nat)
/-- how few changes from state s on, with r counts left -/
def fF : Nat → Nat → Nat
  | 0, _ => 0
  | r + 1, s => min 1000 (min (match dl s (f (c - (r + 1))) with | none => 1000 | some s' => fF r s') (if f (c - (r + 1)) = fm then 1 + (match dl s to with | none => 1000 | some s' => fF r s') else 1000))
def val (r : Nat) (so : Option Nat) : Nat := match so with | none => 1000 | some s => fF c f fm to dl r s
theorem fF_s (r s : Nat) : fF c f fm to dl (r + 1) s = min 1000 (min (val c f fm to dl r (dl s (f (c - (r + 1))))) (if f (c - (r + 1)) = fm then 1 + val c f fm to dl r (dl s to) else 1000)) := rfl
/-- is there a choice of k changes -/
def exB : Nat → Option Nat → Nat → Bool
  | 0, s, k => s.isSome && decide (k = 0)
  | r + 1, s, k => exB r (s.bind fun x => dl x (f (c - (r + 1)))) k || (decide (f (c - (r + 1)) = fm) && (decide (0 < k) && exB r (s.bind fun x => dl x to) (k - 1)))
/-- the first one -/
def sol : Nat → Option Nat → Nat → List Nat
  | 0, _, _ => []
  | r + 1, s, k => if k = 0 then [] else if f (c - (r + 1)) = fm ∧ exB c f fm to dl r (s.bind fun x => dl x to) (k - 1) = true then (c - (r + 1)) :: sol r (s.bind fun x => dl x to) (k - 1) else sol r (s.bind fun x => dl x (f (c - (r + 1)))) k
theorem exB_no : ∀ (r k : Nat), exB c f fm to dl r none k = false := by
  intro r
  induction r with
  | zero => intro k; rfl
  | succ r ih =>
    intro k
    show (exB c f fm to dl r none k || (decide (f (c - (r + 1)) = fm) && (decide (0 < k) && exB c f fm to dl r none (k - 1)))) = false
    rw [ih, ih, Bool.and_false, Bool.and_false, Bool.or_false]
theorem exB_le : ∀ (r s k : Nat), k < 1000 → exB c f fm to dl r (some s) k = true → fF c f fm to dl r s ≤ k := by
  intro r
  induction r with
  | zero => intro s k _ _; exact Nat.zero_le _
  | succ r ih =>
    intro s k hk h
    rw [fF_s]
    have vle : ∀ (so : Option Nat) (j : Nat), j < 1000 → exB c f fm to dl r so j = true → val c f fm to dl r so ≤ j := by
      intro so j hj h
      cases so with
      | none => rw [exB_no] at h; cases h
      | some s' => exact ih s' j hj h
    have h' : (exB c f fm to dl r (dl s (f (c - (r + 1)))) k || (decide (f (c - (r + 1)) = fm) && (decide (0 < k) && exB c f fm to dl r (dl s to) (k - 1)))) = true := h
    rw [Bool.or_eq_true, Bool.and_eq_true, Bool.and_eq_true, decide_eq_true_eq, decide_eq_true_eq] at h'
    rcases h' with e | ⟨e1, e2, e3⟩
    · have := vle _ _ hk e
      omega
    · have := vle _ _ (by omega) e3
      rw [if_pos e1]
      omega
theorem exB_at : ∀ (r s : Nat), fF c f fm to dl r s < 1000 → exB c f fm to dl r (some s) (fF c f fm to dl r s) = true := by
  intro r
  induction r with
  | zero => intro s _; rfl
  | succ r ih =>
    intro s h
    have vat : ∀ (so : Option Nat), val c f fm to dl r so < 1000 → exB c f fm to dl r so (val c f fm to dl r so) = true := by
      intro so h
      cases so with
      | none => exact absurd h (Nat.lt_irrefl _)
      | some s' => exact ih s' h
    show (exB c f fm to dl r (dl s (f (c - (r + 1)))) (fF c f fm to dl (r + 1) s) || (decide (f (c - (r + 1)) = fm) && (decide (0 < fF c f fm to dl (r + 1) s) && exB c f fm to dl r (dl s to) (fF c f fm to dl (r + 1) s - 1)))) = true
    rw [fF_s] at h ⊢
    rw [Bool.or_eq_true, Bool.and_eq_true, Bool.and_eq_true, decide_eq_true_eq, decide_eq_true_eq]
    by_cases e : f (c - (r + 1)) = fm
    · rw [if_pos e] at h ⊢
      by_cases q : val c f fm to dl r (dl s (f (c - (r + 1)))) ≤ 1 + val c f fm to dl r (dl s to)
      · have q2 : min 1000 (min (val c f fm to dl r (dl s (f (c - (r + 1))))) (1 + val c f fm to dl r (dl s to))) = val c f fm to dl r (dl s (f (c - (r + 1)))) := by omega
        rw [q2] at h ⊢
        exact Or.inl (vat _ h)
      · have q2 : min 1000 (min (val c f fm to dl r (dl s (f (c - (r + 1))))) (1 + val c f fm to dl r (dl s to))) = 1 + val c f fm to dl r (dl s to) := by omega
        rw [q2] at h ⊢
        refine Or.inr ⟨e, by omega, ?_⟩
        rw [Nat.add_sub_cancel_left]
        exact vat _ (by omega)
    · rw [if_neg e] at h ⊢
      have q2 : min 1000 (min (val c f fm to dl r (dl s (f (c - (r + 1))))) 1000) = val c f fm to dl r (dl s (f (c - (r + 1)))) := by omega
      rw [q2] at h ⊢
      exact Or.inl (vat _ h)
theorem fF_1000 (r s : Nat) : fF c f fm to dl r s ≤ 1000 := by
  cases r with
  | zero => exact Nat.zero_le _
  | succ r => rw [fF_s]; omega
theorem val_1000 (r : Nat) (so : Option Nat) : val c f fm to dl r so ≤ 1000 := by
  cases so with
  | none => exact Nat.le_refl _
  | some s => exact fF_1000 c f fm to dl r s
end FEW
theorem few_tab : ∀ t, t < 17 → (59 + t < NO ∧ knd (59 + t) = 0 ∧ oln (59 + t) = 170) := by decide
theorem okI_few {t : Nat} {j : Int32} (h : t < 17) (h1 : 0 ≤ j.toInt) (h2 : j.toInt < 170) : okI (59 + t) j = true := by
  obtain ⟨t1, t2, t3⟩ := few_tab t h
  unfold okI
  rw [t2, t3, (inB_iff (n := 170)).mpr (by omega), decide_eq_true t1]
  rfl
/-- what is read in the table -/
def afr (dl : Nat → Int32 → Option Nat) (s : Nat) (a x : Int32) : Prop := (∀ s', dl s a = some s' → x = Int32.ofNat s' ∧ s' < 170) ∧ (dl s a = none → x.toInt < 0 ∨ 170 ≤ x.toInt)
def tbv (A : St) (t : Nat) (so : Option Nat) : Int32 := match so with | none => 1000 | some s' => A.1 (59 + t) s'
theorem from_s {A : St} {t s : Nat} {v x a : Int32} {dl : Nat → Int32 → Option Nat} (hv : v.toInt = t) (ht : t < 17) (h : afr dl s a x) : few_from v x A = some (tbv A t (dl s a)) := by
  have e170 : (170 : Int32).toInt = 170 := by decide
  have e16 : (16 : Int32).toInt = 16 := by decide
  unfold few_from
  cases hd : dl s a with
  | none =>
    rcases h.2 hd with e | e
    · rw [if_pos (by rw [ltk, ti0]; exact e)]
      rfl
    · rw [if_neg (by rw [ltk, ti0]; omega), if_neg (by rw [ltk, e170]; omega)]
      rfl
  | some s' =>
    obtain ⟨e1, e2⟩ := h.1 s' hd
    have ex : x.toInt = s' := by rw [e1, ti_ofNat (by omega)]
    rw [if_neg (by rw [ltk, ti0]; omega), if_pos (by rw [ltk, e170]; omega), if_neg (by rw [ltk, ti0]; omega), if_neg (by rw [ltk, e16]; omega), if_pos (by rw [inB_iff]; omega), nxk hv, if_pos (okI_few ht (by omega) (by omega)), nxk ex]
    rfl
/-- the class's side of a search: counts, acts, what follows a state -/
def Few (c : Nat) (f : Nat → Int32) (dl : Nat → Int32 → Option Nat) (acs : Int32 → Prop) (A : St) : Prop := (A.1 24 1).toInt = c ∧ (∀ i, i < c → A.1 25 i = f i) ∧ ∀ (v a : Int32) (s : Nat), v.toInt = s → s < 170 → acs a → ∃ x, few_after v a A = some x ∧ afr dl s a x
abbrev fewO (o i : Nat) : Prop := (59 ≤ o ∧ o ≤ 75) ∨ o = 76 ∨ (o = 57 ∧ i = 7)
theorem after_cg {A B : St} {v a : Int32} (h : ∀ o i, (o = 57 ∧ i ≤ 6) ∨ o = 77 → B.1 o i = A.1 o i) : few_after v a B = few_after v a A := by
  unfold few_after few_afterBreathing few_afterLooking few_afterLooking_J19
  rw [h 57 3 (by omega), h 57 4 (by omega), h 57 5 (by omega), h 57 6 (by omega), h 77 _ (by omega), h 77 _ (by omega)]
theorem Few.cg {c : Nat} {f : Nat → Int32} {dl : Nat → Int32 → Option Nat} {acs : Int32 → Prop} {A B : St} (hA : Few c f dl acs A) (h : ∀ o i, ¬ fewO o i → B.1 o i = A.1 o i) : Few c f dl acs B := by
  obtain ⟨h1, h2, h3⟩ := hA
  refine ⟨by rw [h _ _ (by unfold fewO; omega)]; exact h1, fun i hi => by rw [h _ _ (by unfold fewO; omega)]; exact h2 i hi, fun v a s hv hs ha => ?_⟩
  rw [after_cg (fun o i ho => h o i (by unfold fewO; omega))]
  exact h3 v a s hv hs ha
theorem ch1_s (n : Nat) {K : Int32 → Int32 → Int32 → St → Option St} {fm to v4 : Int32} {c : Nat} (h4 : v4.toInt = c) (hc : c ≤ 16) : ∀ (w r k : Nat) (v : Int32) (A : St), v.toInt = k → k + r = 170 → r < w → ∃ A', few_choose_L14 n K w fm to v4 v A = K fm to v4 A' ∧ A'.2 = A.2 ∧ ∀ o i, A'.1 o i = if o = 59 + c ∧ k ≤ i ∧ i < 170 then 0 else A.1 o i := by
  have e170 : (170 : Int32).toInt = 170 := by decide
  intro w
  induction w with
  | zero => intro r k v A h1 h2 h3; omega
  | succ w ih =>
    intro r k v A h1 h2 h3
    show ∃ A', few_choose_L14_B n K (few_choose_L14 n K w) fm to v4 v A = K fm to v4 A' ∧ _
    unfold few_choose_L14_B
    cases r with
    | zero =>
      rw [if_neg (by rw [ltk, e170]; omega)]
      exact ⟨A, rfl, rfl, fun o i => by rw [if_neg (by omega)]⟩
    | succ r =>
      rw [if_pos (by rw [ltk, e170]; omega), if_pos (by rw [inB_iff]; omega), nxk h4, if_pos (okI_few (by omega) (by omega) (by omega)), nxk h1]
      obtain ⟨A', r1, r2, r3⟩ := ih r (k + 1) (v + 1) (stI A (59 + c) k 0) (inc h1 (by omega)) (by omega) (by omega)
      refine ⟨A', r1, r2, fun o i => ?_⟩
      rw [r3, stI_at]
      by_cases c1 : o = 59 + c ∧ k + 1 ≤ i ∧ i < 170
      · rw [if_pos c1, if_pos (by omega)]
      · rw [if_neg c1]
        by_cases c2 : o = 59 + c ∧ i = k
        · rw [if_pos c2, if_pos (by omega)]
        · rw [if_neg c2, if_neg (by omega)]
theorem ch2_s (n : Nat) {K : Int32 → Int32 → Int32 → Int32 → St → Option St} {fm to v4 v5 : Int32} {c t : Nat} {f : Nat → Int32} {dl : Nat → Int32 → Option Nat} {acs : Int32 → Prop} (hc : c ≤ 16) (h5 : v5.toInt = t) (ht : t < c) (hf : acs (f t)) (hto : acs to) : ∀ (w r k : Nat) (v : Int32) (A : St), v.toInt = k → k + r = 170 → r < w → Few c f dl acs A → (∀ s, s < 170 → A.1 (59 + (t + 1)) s = Int32.ofNat (fF c f fm to dl (c - (t + 1)) s)) → ∃ A', few_choose_L53 n K w fm to v4 v5 v A = K fm to v4 v5 A' ∧ A'.2 = A.2 ∧ ∀ o i, A'.1 o i = if o = 59 + t ∧ k ≤ i ∧ i < 170 then Int32.ofNat (fF c f fm to dl (c - t) i) else A.1 o i := by
  have e170 : (170 : Int32).toInt = 170 := by decide
  intro w
  induction w with
  | zero => intro r k v A h1 h2 h3; omega
  | succ w ih =>
    intro r k v A h1 h2 h3 hA hT
    show ∃ A', few_choose_L53_B n K (few_choose_L53 n K w) fm to v4 v5 v A = K fm to v4 v5 A' ∧ _
    unfold few_choose_L53_B
    cases r with
    | zero =>
      rw [if_neg (by rw [ltk, e170]; omega)]
      exact ⟨A, rfl, rfl, fun o i => by rw [if_neg (by omega)]⟩
    | succ r =>
      obtain ⟨x, x1, x2⟩ := hA.2.2 v (f t) k h1 (by omega) hf
      obtain ⟨y, y1, y2⟩ := hA.2.2 v to k h1 (by omega) hto
      have act : rou_actAt v5 A = some (f t) := by rw [actAt_s hA.1 (by omega) h5 ht, hA.2.1 t ht]
      have s5 := inc h5 (by omega)
      have fx := from_s (A := A) s5 (by omega) x2
      have fy := from_s (A := A) s5 (by omega) y2
      have hv : ∀ so : Option Nat, (∀ s', so = some s' → s' < 170) → tbv A (t + 1) so = Int32.ofNat (val c f fm to dl (c - (t + 1)) so) := by
        intro so hso
        cases so with
        | none => show (1000 : Int32) = Int32.ofNat 1000; decide
        | some s' => exact hT s' (hso s' rfl)
      rw [hv _ (fun s' e => (x2.1 s' e).2)] at fx
      rw [hv _ (fun s' e => (y2.1 s' e).2)] at fy
      have V1 := val_1000 c f fm to dl (c - (t + 1)) (dl k (f t))
      have V2 := val_1000 c f fm to dl (c - (t + 1)) (dl k to)
      have et : c - t = c - (t + 1) + 1 := by omega
      have ect : c - (c - (t + 1) + 1) = t := by omega
      have FF := fF_s c f fm to dl (c - (t + 1)) k
      rw [ect, ← et] at FF
      have s1 := inc h1 (by omega)
      -- the number that is written
      have go : ∀ s0 : Int32, jmath_min (1000 : Int32) (jmath_min (Int32.ofNat (val c f fm to dl (c - (t + 1)) (dl k (f t)))) s0) = Int32.ofNat (fF c f fm to dl (c - t) k) → ∃ A', few_choose_J116 n (few_choose_L53 n K w) fm to v4 v5 v (Int32.ofNat (val c f fm to dl (c - (t + 1)) (dl k (f t)))) s0 A = K fm to v4 v5 A' ∧ A'.2 = A.2 ∧ ∀ o i, A'.1 o i = if o = 59 + t ∧ k ≤ i ∧ i < 170 then Int32.ofNat (fF c f fm to dl (c - t) i) else A.1 o i := by
        intro s0 hs0
        unfold few_choose_J116
        rw [if_pos (by rw [inB_iff]; omega), nxk h5, if_pos (okI_few (by omega) (by omega) (by omega)), nxk h1, Option.bind_some, hs0]
        obtain ⟨A', r1, r2, r3⟩ := ih r (k + 1) (v + 1) (stI A (59 + t) k (Int32.ofNat (fF c f fm to dl (c - t) k))) s1 (by omega) (by omega) (hA.cg (fun o i ho => by rw [stI_at, if_neg (fun z => ho (Or.inl (by omega)))])) (fun s hs => by rw [stI_at, if_neg (by omega)]; exact hT s hs)
        refine ⟨A', r1, r2, fun o i => ?_⟩
        rw [r3, stI_at]
        by_cases c1 : o = 59 + t ∧ k + 1 ≤ i ∧ i < 170
        · rw [if_pos c1, if_pos (by omega)]
        · rw [if_neg c1]
          by_cases c2 : o = 59 + t ∧ i = k
          · rw [if_pos c2, if_pos (by omega), c2.2]
          · rw [if_neg c2, if_neg (by omega)]
      have e1000 : (1000 : Int32).toInt = 1000 := by decide
      rw [if_pos (by rw [ltk, e170]; omega), act, Option.bind_some, x1, Option.bind_some, fx, Option.bind_some, Option.bind_some]
      by_cases c1 : f t = fm
      · rw [if_pos c1, y1, Option.bind_some, fy, Option.bind_some]
        refine go _ ?_
        rw [if_pos c1] at FF
        have e1 : ((1 : Int32) + Int32.ofNat (val c f fm to dl (c - (t + 1)) (dl k to))).toInt = ((1 + val c f fm to dl (c - (t + 1)) (dl k to) : Nat) : Int) := by
          rw [ti_add, ti1, ti_ofNat (by omega)] <;> (try rw [ti1, ti_ofNat (by omega)]) <;> omega
        rw [ti_eq, min_ti, min_ti, e1, e1000, ti_ofNat (by omega), ti_ofNat (by omega), FF]
        omega
      · rw [if_neg c1]
        refine go _ ?_
        rw [if_neg c1] at FF
        rw [ti_eq, min_ti, min_ti, e1000, ti_ofNat (by omega), ti_ofNat (by omega), FF]
        omega
theorem ch3_s (n : Nat) (hn : 4096 ≤ n) {K : Int32 → Int32 → Int32 → St → Option St} {fm to v4 : Int32} {c : Nat} {f : Nat → Int32} {dl : Nat → Int32 → Option Nat} {acs : Int32 → Prop} (hc : c ≤ 16) (hf : ∀ i, i < c → acs (f i)) (hto : acs to) : ∀ (t w : Nat) (v : Int32) (A : St), v.toInt = (t : Int) - 1 → t < w → t ≤ c → Few c f dl acs A → (∀ j s, t ≤ j → j ≤ c → s < 170 → A.1 (59 + j) s = Int32.ofNat (fF c f fm to dl (c - j) s)) → ∃ A', few_choose_L45 n K w fm to v4 v A = K fm to v4 A' ∧ A'.2 = A.2 ∧ (∀ j s, j ≤ c → s < 170 → A'.1 (59 + j) s = Int32.ofNat (fF c f fm to dl (c - j) s)) ∧ ∀ o i, ¬ (59 ≤ o ∧ o ≤ 75) → A'.1 o i = A.1 o i := by
  intro t
  induction t with
  | zero =>
    intro w v A h1 h2 h3 hA hT
    obtain ⟨W, rfl⟩ : ∃ W, w = W + 1 := ⟨w - 1, by omega⟩
    refine ⟨A, ?_, rfl, fun j s hj hs => hT j s (Nat.zero_le _) hj hs, fun _ _ _ => rfl⟩
    show few_choose_L45_B n K (few_choose_L45 n K W) fm to v4 v A = _
    unfold few_choose_L45_B
    rw [if_pos (by rw [ltk, ti0]; omega)]
  | succ t ih =>
    intro w v A h1 h2 h3 hA hT
    obtain ⟨W, rfl⟩ : ∃ W, w = W + 1 := ⟨w - 1, by omega⟩
    have hv : v.toInt = t := by omega
    obtain ⟨Z, z1, z2, z3⟩ := ch2_s n (K := fun v14 v15 v16 v17 X13 => few_choose_L45 n K W v14 v15 v16 (v17 + (-1 : Int32)) X13) (fm := fm) (to := to) (v4 := v4) hc hv (by omega) (hf t (by omega)) hto n 170 0 0 A ti0 (by omega) (by omega) hA (fun s hs => hT (t + 1) s (Nat.le_refl _) (by omega) hs)
    obtain ⟨A', r1, r2, r3, r4⟩ := ih W (v + -1) Z (by rw [ti_add] <;> rw [ti_m1] <;> omega) (by omega) (by omega) (hA.cg (fun o i ho => by rw [z3, if_neg (fun z => ho (Or.inl (by omega)))])) (fun j s hj hj2 hs => by
      rw [z3]
      by_cases e : 59 + j = 59 + t ∧ 0 ≤ s ∧ s < 170
      · rw [if_pos e, show j = t by omega]
      · rw [if_neg e]; exact hT j s (by omega) hj2 hs)
    refine ⟨A', ?_, r2.trans z2, r3, fun o i ho => (r4 o i ho).trans (by rw [z3, if_neg (by omega)])⟩
    show few_choose_L45_B n K (few_choose_L45 n K W) fm to v4 v A = _
    unfold few_choose_L45_B
    rw [if_neg (by rw [ltk, ti0]; omega), z1]
    exact r1
