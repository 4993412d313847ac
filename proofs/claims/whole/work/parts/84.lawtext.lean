/-! law: the whole text -/
def layN (X : St) : List Lin → Nat → Nat → Prop
  | [], _, _ => True
  | p :: ls, i, k => (X.1 117 i).toInt = k ∧ (X.1 118 i).toInt = ((k + p.1.length : Nat) : Int) ∧ (X.1 119 i).toInt = ((k + p.1.length + p.2.length : Nat) : Int) ∧ cod 120 X k p.1 ∧ cod 120 X (k + p.1.length) p.2 ∧ layN X ls (i + 1) (k + p.1.length + p.2.length)
def mlen : List Lin → Nat
  | [] => 0
  | p :: ls => p.1.length + p.2.length + mlen ls
theorem layN_app {X : St} : ∀ (ls ls' : List Lin) (i k : Nat), layN X ls i k → layN X ls' (i + ls.length) (k + mlen ls) → layN X (ls ++ ls') i k := by
  intro ls
  induction ls with
  | nil => intro ls' i k _ h; exact h
  | cons p ls ih =>
    intro ls' i k h h'
    obtain ⟨h1, h2, h3, h4, h5, h6⟩ := h
    refine ⟨h1, h2, h3, h4, h5, ih ls' _ _ h6 ?_⟩
    rw [List.length_cons] at h'
    have e : mlen (p :: ls) = p.1.length + p.2.length + mlen ls := rfl
    rw [e] at h'
    rw [show i + 1 + ls.length = i + (ls.length + 1) by omega, show k + p.1.length + p.2.length + mlen ls = k + (p.1.length + p.2.length + mlen ls) by omega]
    exact h'
theorem layN_cg {X Y : St} : ∀ (ls : List Lin) (i k : Nat), (∀ o j, 117 ≤ o → o ≤ 119 → j < i + ls.length → Y.1 o j = X.1 o j) → (∀ j, j < k + mlen ls → Y.1 120 j = X.1 120 j) → layN X ls i k → layN Y ls i k := by
  intro ls
  induction ls with
  | nil => intro i k _ _ _; exact trivial
  | cons p ls ih =>
    intro i k g1 g2 h
    obtain ⟨h1, h2, h3, h4, h5, h6⟩ := h
    rw [List.length_cons] at g1
    have e : mlen (p :: ls) = p.1.length + p.2.length + mlen ls := rfl
    rw [e] at g2
    refine ⟨by rw [g1 _ _ (by omega) (by omega) (by omega)]; exact h1, by rw [g1 _ _ (by omega) (by omega) (by omega)]; exact h2, by rw [g1 _ _ (by omega) (by omega) (by omega)]; exact h3, cod_ex _ (fun j j1 j2 => g2 j (by omega)) h4, cod_ex _ (fun j j1 j2 => g2 j (by omega)) h5, ih _ _ (fun o j a b c => g1 o j a b (by omega)) (fun j a => g2 j (by omega)) h6⟩
theorem flat_app : ∀ (ls : List Lin) (q : Lin), flat (ls ++ [q]) = flat ls ++ cls q := by
  intro ls
  induction ls with
  | nil => intro q; show cls q ++ [] = [] ++ cls q; rw [List.append_nil, List.nil_append]
  | cons p ls ih => intro q; show cls p ++ flat (ls ++ [q]) = cls p ++ flat ls ++ cls q; rw [ih, List.append_assoc]
theorem mlen_app : ∀ (ls : List Lin) (q : Lin), mlen (ls ++ [q]) = mlen ls + q.1.length + q.2.length := by
  intro ls
  induction ls with
  | nil => intro q; show q.1.length + q.2.length + 0 = 0 + q.1.length + q.2.length; omega
  | cons p ls ih => intro q; show p.1.length + p.2.length + mlen (ls ++ [q]) = p.1.length + p.2.length + mlen ls + q.1.length + q.2.length; rw [ih]; omega
/-- where the reading of the text stands ahead of a line -/
def atL (X : St) (L p : Nat) (ls : List Lin) (A B : St) : Prop := PA X L p (flat ls).length A ∧ PB X L p (mlen ls) 0 B ∧ (B.1 102 21).toInt = ls.length ∧ 2 * ls.length ≤ p ∧ (flat ls).length ≤ p ∧ mlen ls ≤ p ∧ p ≤ L ∧ wfl ls ∧ cod 19 A 0 (flat ls) ∧ layN B ls 0 0
def endL (X : St) (L : Nat) (ls : List Lin) (A B : St) : Prop := PA X L L (flat ls).length A ∧ PB X L L (mlen ls) 0 B ∧ (B.1 102 21).toInt = ls.length ∧ ls ≠ [] ∧ ls.length ≤ 60 ∧ (flat ls).length ≤ 121 ∧ mlen ls ≤ 120 ∧ wfl ls ∧ cod 19 A 0 (flat ls) ∧ layN B ls 0 0
abbrev frT (B B' : St) : Prop := B'.2 = B.2 ∧ ∀ o k, ¬ (117 ≤ o ∧ o ≤ 120) → ¬ (o = 102 ∧ 18 ≤ k ∧ k ≤ 21) → B'.1 o k = B.1 o k
theorem txt_s {n : Nat} (hn : 4096 ≤ n) {X : St} {L : Nat} {K : Int32 → St → Option (Int32 × St)} (hL : L ≤ 120) (hT : ∀ i, i < L → 0 ≤ (X.1 18 i).toInt ∧ (X.1 18 i).toInt ≤ 255) : ∀ (r w u p : Nat) (v : Int32) (ls : List Lin) (A B : St), p + r = L → r < w → r < u → v.toInt = ls.length → atL X L p ls A B → (∃ A' B' ls', tap_isText_L12 n w v A = some (1, A') ∧ ((mo_isLine n B).bind fun (c7, X6) => mo_law_L25 n K u c7 X6) = K 1 B' ∧ endL X L ls' A' B' ∧ frA A A' ∧ frT B B') ∨ (∃ A' B' c p', tap_isText_L12 n w v A = some (0, A') ∧ ((mo_isLine n B).bind fun (c7, X6) => mo_law_L25 n K u c7 X6) = K c B' ∧ (c = 0 ∨ (c = 1 ∧ ¬ B'.1 102 18 = B'.1 102 10)) ∧ (A'.1 17 3).toInt = ((p' : Nat) : Int) ∧ (B'.1 102 18).toInt = p' ∧ frA A A' ∧ frT B B') := by
  intro r
  induction r using Nat.strongRecOn with
  | ind r ih =>
    intro w u p v ls A B h1 h2 h3 h4 hS
    obtain ⟨W, rfl⟩ : ∃ W, w = W + 1 := ⟨w - 1, by omega⟩
    obtain ⟨U, rfl⟩ : ∃ U, u = U + 1 := ⟨u - 1, by omega⟩
    obtain ⟨s1, s2, s3, s4, s5, s6, s7, s8, s9, s10⟩ := hS
    have eT : tap_isText_L12 n (W + 1) v A = (tap_isLine n A).bind fun (c2, X1) => (if c2 = 0 then some ((0 : Int32), X1) else (if (X1.1 17 3) < (X1.1 17 2) then ((tap_takes 59 X1).bind fun (c4, X3) => (if c4 = 0 then some ((0 : Int32), X3) else tap_isText_L12 n W (v + 1) X3)) else some ((1 : Int32), X1))) := by
      show tap_isText_L12_B n (tap_isText_L12 n W) v A = _
      unfold tap_isText_L12_B
      rw [if_neg (by rw [ltk, show (120 : Int32).toInt = 120 by decide]; omega)]
    rw [eT]
    rcases line_s hn hL hT s1 s2 s3 (by omega) s7 s5 s6 with ⟨A1, B1, p1, q, e1, e2, t1, t2, t3, t4, t5, t6, t7, t8, t9, t10, t11, t12, t13, t14, t15, t16, t17, t18⟩ | ⟨A1, B1, e1, e2, ⟨pf, g1, g1'⟩, g2, g3⟩
    · rw [e1, e2, Option.bind_some]
      dsimp only
      rw [Option.bind_some]
      dsimp only
      rw [if_neg (by decide)]
      have eM : mo_law_L25 n K (U + 1) 1 B1 = (mo_is 59 B1).bind fun (c5, X4) => (if c5 = 0 then K 1 X4 else ((mo_isLine n X4).bind fun (c7, X6) => mo_law_L25 n K U c7 X6)) := by
        show mo_law_L25_B n K (mo_law_L25 n K U) 1 B1 = _
        unfold mo_law_L25_B
        rw [if_neg (by decide)]
      rw [eM, is_s hL t2 (by decide), Option.bind_some]
      dsimp only
      have lnl : (ls ++ [q]).length = ls.length + 1 := by simp only [List.length_append, List.length_cons, List.length_nil]
      have fll : (flat (ls ++ [q])).length = (flat ls).length + (cls q).length := by rw [flat_app, List.length_append]
      have mll := mlen_app ls q
      have wll : wfl (ls ++ [q]) := fun z hz => by
        rcases List.mem_append.mp hz with e | e
        · exact s8 z e
        · rw [List.mem_singleton.mp e]; exact ⟨t8, t9⟩
      have cdl : cod 19 A1 0 (flat (ls ++ [q])) := by
        rw [flat_app]
        refine (cod_app _ _ _).mpr ⟨cod_ex _ (fun k k1 k2 => t16 k (by omega)) s9, ?_⟩
        rw [Nat.zero_add]; exact t10
      have lal : layN B1 (ls ++ [q]) 0 0 := by
        refine layN_app _ _ _ _ (layN_cg _ _ _ (fun o j a b c => t18.2.2.1 o j a b (by omega)) (fun j a => t18.2.2.2 j (by omega)) s10) ?_
        rw [Nat.zero_add, Nat.zero_add]
        exact ⟨t13, t14, t15, t11, t12, trivial⟩
      have fT : frT B B1 := ⟨t18.1, t18.2.1⟩
      by_cases cp : p1 < L
      · rw [if_pos (by rw [ltk, t1.1, t1.2.1]; omega), takes_s hL t1, Option.bind_some]
        dsimp only
        by_cases c59 : X.1 18 p1 = 59
        · simp only [if_pos (And.intro cp c59), show ¬ (1 : Int32) = 0 by decide, ↓reduceIte]
          have hN : atL X L (p1 + 1) (ls ++ [q]) (stI A1 17 3 (A1.1 17 3 + 1)) (stI B1 102 18 (B1.1 102 18 + 1)) := by
            refine ⟨?_, ?_, ?_, by omega, by omega, by omega, by omega, wll, cod_st _ (Or.inl (by omega)) cdl, layN_cg _ _ _ (fun o j a b c => by rw [stI_at, if_neg (by omega)]) (fun j a => by rw [stI_at, if_neg (by omega)]) lal⟩
            · rw [fll]; exact PA.adv (by omega) t1
            · rw [mll]; exact PB.adv (by omega) t2
            · rw [stI_at, if_neg (by omega), lnl]; exact t3
          rcases ih (L - (p1 + 1)) (by omega) W U (p1 + 1) (v + 1) (ls ++ [q]) _ _ (by omega) (by omega) (by omega) (by rw [lnl]; exact inc h4 (by omega)) hN with ⟨A', B', ls', k1, k2, k3, k4, k5⟩ | ⟨A', B', c, p', k1, k2, k3, k4, k5, k6, k7⟩
          · exact Or.inl ⟨A', B', ls', k1, k2, k3, t17.tr ((frA.st (Or.inl rfl)).tr k4), k5.1.trans fT.1, fun o k a b => by rw [k5.2 o k a b, stI_at, if_neg (by omega)]; exact fT.2 o k a b⟩
          · exact Or.inr ⟨A', B', c, p', k1, k2, k3, k4, k5, t17.tr ((frA.st (Or.inl rfl)).tr k6), k7.1.trans fT.1, fun o k a b => by rw [k7.2 o k a b, stI_at, if_neg (by omega)]; exact fT.2 o k a b⟩
        · have n59 : ¬ (p1 < L ∧ X.1 18 p1 = 59) := fun z => c59 z.2
          simp only [if_neg n59, ↓reduceIte]
          exact Or.inr ⟨A1, B1, 1, p1, rfl, rfl, Or.inr ⟨rfl, fun e => by rw [ti_eq, t2.1, t2.2.1] at e; omega⟩, t1.2.1, t2.2.1, t17, fT⟩
      · have n59 : ¬ (p1 < L ∧ X.1 18 p1 = 59) := fun z => cp z.1
        rw [if_neg (by rw [ltk, t1.1, t1.2.1]; omega)]
        simp only [if_neg n59, ↓reduceIte]
        have ep : p1 = L := by omega
        subst ep
        refine Or.inl ⟨A1, B1, ls ++ [q], rfl, rfl, ⟨?_, ?_, ?_, fun e => ?_, by omega, by omega, by omega, wll, cdl, lal⟩, t17, fT⟩
        · rw [fll]; exact t1
        · rw [mll]; exact t2
        · rw [lnl]; exact t3
        · have := congrArg List.length e
          rw [lnl] at this
          exact absurd this (Nat.succ_ne_zero _)
    · rw [e1, e2, Option.bind_some]
      dsimp only
      rw [Option.bind_some]
      dsimp only
      rw [if_pos rfl]
      refine Or.inr ⟨A1, B1, 0, pf, rfl, ?_, Or.inl rfl, g1, g1', g2, g3.1, g3.2.1⟩
      show mo_law_L25_B n K (mo_law_L25 n K U) 0 B1 = _
      unfold mo_law_L25_B
      rw [if_pos rfl]
theorem l99_s (n : Nat) {K : St → Option (Int32 × St)} {N : Nat} (hN : N ≤ 60) : ∀ (w r k : Nat) (v : Int32) (B : St), v.toInt = k → k + r = N → r < w → (B.1 102 13).toInt = N → ∃ B', mo_law_L99 n K w v B = K B' ∧ B'.2 = B.2 ∧ ∀ o i, B'.1 o i = if 113 ≤ o ∧ o ≤ 115 ∧ k ≤ i ∧ i < N then B.1 (o + 4) i else B.1 o i := by
  intro w
  induction w with
  | zero => intro r k v B h1 h2 h3; omega
  | succ w ih =>
    intro r k v B h1 h2 h3 h4
    show ∃ B', mo_law_L99_B n K (mo_law_L99 n K w) v B = K B' ∧ _
    unfold mo_law_L99_B
    cases r with
    | zero =>
      rw [if_neg (by rw [ltk]; omega)]
      exact ⟨B, rfl, rfl, fun o i => by rw [if_neg (by omega)]⟩
    | succ r =>
      have i0 : inB v 61 = true := by rw [inB_iff]; omega
      have i1 : inB v 60 = true := by rw [inB_iff]; omega
      rw [if_pos (by rw [ltk]; omega), if_pos i0, if_pos i1, if_pos i0, if_pos i1, Option.bind_some, if_pos i0, if_pos i1, nxk h1]
      obtain ⟨B', r1, r2, r3⟩ := ih r (k + 1) (v + 1) (stI (stI (stI B 113 k (B.1 117 k)) 114 k ((stI B 113 k (B.1 117 k)).1 118 k)) 115 k ((stI (stI B 113 k (B.1 117 k)) 114 k ((stI B 113 k (B.1 117 k)).1 118 k)).1 119 k)) (inc h1 (by omega)) (by omega) (by omega) (by rw [stI_at, if_neg (by omega), stI_at, if_neg (by omega), stI_at, if_neg (by omega)]; exact h4)
      refine ⟨B', r1, r2, fun o i => ?_⟩
      rw [r3]
      by_cases c1 : 113 ≤ o ∧ o ≤ 115 ∧ k + 1 ≤ i ∧ i < N
      · rw [if_pos c1, if_pos (by omega), stI_at, if_neg (by omega), stI_at, if_neg (by omega), stI_at, if_neg (by omega)]
      · rw [if_neg c1]
        by_cases c2 : 113 ≤ o ∧ o ≤ 115 ∧ i = k
        · rw [if_pos (by omega), c2.2.2]
          rcases (show o = 113 ∨ o = 114 ∨ o = 115 by omega) with e | e | e <;> subst e
          · rw [stI_at, if_neg (by omega), stI_at, if_neg (by omega), stI_self]
          · rw [stI_at, if_neg (by omega), stI_self, stI_at, if_neg (by omega)]
          · rw [stI_self, stI_at, if_neg (by omega), stI_at, if_neg (by omega)]
        · rw [if_neg (by omega), stI_at, if_neg (by omega), stI_at, if_neg (by omega), stI_at, if_neg (by omega)]
theorem l151_s (n : Nat) {N : Nat} (hN : N ≤ 128) : ∀ (w r k : Nat) (v : Int32) (B : St), v.toInt = k → k + r = N → r < w → (B.1 102 20).toInt = N → ∃ B', mo_law_L151 n w v B = some (1, B') ∧ B'.2 = B.2 ∧ ∀ o i, B'.1 o i = if o = 116 ∧ k ≤ i ∧ i < N then B.1 120 i else B.1 o i := by
  intro w
  induction w with
  | zero => intro r k v B h1 h2 h3; omega
  | succ w ih =>
    intro r k v B h1 h2 h3 h4
    show ∃ B', mo_law_L151_B n (mo_law_L151 n w) v B = some (1, B') ∧ _
    unfold mo_law_L151_B
    cases r with
    | zero =>
      rw [if_neg (by rw [ltk]; omega)]
      exact ⟨B, rfl, rfl, fun o i => by rw [if_neg (by omega)]⟩
    | succ r =>
      have i0 : inB v 200 = true := by rw [inB_iff]; omega
      rw [if_pos (by rw [ltk]; omega), if_pos i0, if_pos i0, nxk h1]
      obtain ⟨B', r1, r2, r3⟩ := ih r (k + 1) (v + 1) (stI B 116 k (B.1 120 k)) (inc h1 (by omega)) (by omega) (by omega) (by rw [stI_at, if_neg (by omega)]; exact h4)
      refine ⟨B', r1, r2, fun o i => ?_⟩
      rw [r3]
      by_cases c1 : o = 116 ∧ k + 1 ≤ i ∧ i < N
      · rw [if_pos c1, if_pos (by omega), stI_at, if_neg (by omega)]
      · rw [if_neg c1, stI_at]
        by_cases c2 : o = 116 ∧ i = k
        · rw [if_pos c2, if_pos (by omega), c2.2]
        · rw [if_neg c2, if_neg (by omega)]
theorem lay_N {B Z : St} : ∀ (ls : List Lin) (i k : Nat), (∀ j, j < i + ls.length → Z.1 113 j = B.1 117 j ∧ Z.1 114 j = B.1 118 j ∧ Z.1 115 j = B.1 119 j) → (∀ j, j < k + mlen ls → Z.1 116 j = B.1 120 j) → layN B ls i k → lay Z ls i k := by
  intro ls
  induction ls with
  | nil => intro i k _ _ _; exact trivial
  | cons p ls ih =>
    intro i k g1 g2 h
    obtain ⟨h1, h2, h3, h4, h5, h6⟩ := h
    rw [List.length_cons] at g1
    have e : mlen (p :: ls) = p.1.length + p.2.length + mlen ls := rfl
    rw [e] at g2
    obtain ⟨a1, a2, a3⟩ := g1 i (by omega)
    have cc : ∀ (l : List Int32) (k' : Nat), (∀ j, k' ≤ j → j < k' + l.length → Z.1 116 j = B.1 120 j) → cod 120 B k' l → cod 116 Z k' l := by
      intro l
      induction l with
      | nil => intro k' _ _; exact trivial
      | cons y l ih2 =>
        intro k' g h
        rw [List.length_cons] at g
        exact ⟨by rw [g k' (Nat.le_refl _) (by omega)]; exact h.1, ih2 _ (fun j j1 j2 => g j (by omega) (by omega)) h.2⟩
    exact ⟨by rw [a1]; exact h1, by rw [a2]; exact h2, by rw [a3]; exact h3, cc _ _ (fun j j1 j2 => g2 j (by omega)) h4, cc _ _ (fun j j1 j2 => g2 j (by omega)) h5, ih _ _ (fun j hj => g1 j (by omega)) (fun j hj => g2 j (by omega)) h6⟩
theorem op_law (n : Nat) (hn : 4096 ≤ n) (X : St) (hT : ITape X) (hL : ILaw X) : ∃ r A, el_law n X = some (r, A) ∧ ∀ Y, Mo X Y → ∃ Y1, mo_law n Y = some (r, Y1) ∧ ∀ Z : St, (∀ o i, o < 102 → Z.1 o i = A.1 o i) → (∀ o i, 102 ≤ o → Z.1 o i = Y1.1 o i) → ITape Z ∧ ILaw Z := by
  refine joinr2 (P := fun Y r A => ∃ Y1, mo_law n Y = some (r, Y1) ∧ ∀ Z : St, (∀ o i, o < 102 → Z.1 o i = A.1 o i) → (∀ o i, 102 ≤ o → Z.1 o i = Y1.1 o i) → ITape Z ∧ ILaw Z) (fun Y hY => ?_)
  obtain ⟨T1, T2, T3, T4⟩ := hT
  generalize hLn : (X.1 17 2).toInt.toNat = L at *
  have eL : (X.1 17 2).toInt = L := by omega
  have hL120 : L ≤ 120 := by omega
  have hTr : ∀ i, i < L → 0 ≤ (X.1 18 i).toInt ∧ (X.1 18 i).toInt ≤ 255 := fun i hi => (T4 i (by omega)).2
  generalize hA0 : stI (stI X 17 3 0) 17 4 0 = A0
  generalize hB0 : stI (stI (stI (stI Y 102 18 0) 102 19 0) 102 20 0) 102 21 0 = B0
  have a0 : ∀ o i, ¬ (o = 17 ∧ (i = 3 ∨ i = 4)) → A0.1 o i = X.1 o i := fun o i h => by rw [← hA0, stI_at, if_neg (by omega), stI_at, if_neg (by omega)]
  have b0 : ∀ o i, 102 ≤ o → ¬ (o = 102 ∧ 18 ≤ i ∧ i ≤ 21) → B0.1 o i = X.1 o i := fun o i h h' => by rw [← hB0, stI_at, if_neg (by omega), stI_at, if_neg (by omega), stI_at, if_neg (by omega), stI_at, if_neg (by omega), hY.2 _ _ h]
  have hS : atL X L 0 [] A0 B0 := by
    refine ⟨⟨?_, ?_, ?_, fun i hi => a0 _ _ (by omega)⟩, ⟨?_, ?_, ?_, ?_, fun i hi => ?_⟩, ?_, Nat.le_refl _, Nat.le_refl _, Nat.le_refl _, Nat.zero_le _, fun q hq => absurd hq List.not_mem_nil, trivial, trivial⟩
    · rw [a0 _ _ (by omega)]; exact eL
    · rw [← hA0, stI_at, if_neg (by omega), stI_self]; exact ti0
    · rw [← hA0, stI_self]; exact ti0
    · rw [b0 _ _ (by omega) (by omega), T1]; exact eL
    · rw [← hB0, stI_at, if_neg (by omega), stI_at, if_neg (by omega), stI_at, if_neg (by omega), stI_self]; exact ti0
    · rw [← hB0, stI_at, if_neg (by omega), stI_self]; exact ti0
    · rw [← hB0, stI_at, if_neg (by omega), stI_at, if_neg (by omega), stI_self]; exact ti0
    · rw [b0 _ _ (by omega) (by omega)]; exact (T4 i (by omega)).1
    · rw [← hB0, stI_self]; exact ti0
  have eM : mo_law n Y = (mo_isLine n B0).bind fun (c7, X6) => mo_law_L25 n (fun v9 X8 => mo_law_J46 n v9 X8) n c7 X6 := by
    rw [← hB0]; rfl
  have eC : el_law n X = (tap_isText_L12 n n 0 A0).bind fun (c2, X1) => (if c2 = 0 then (el_law_J26 n c2 ((-100 : Int32) - (tap_place X1)) X1) else (el_law_J26 n c2 (1 : Int32) X1)) := by
    rw [← hA0]; rfl
  rw [eM, eC]
  rcases txt_s hn (K := fun v9 X8 => mo_law_J46 n v9 X8) hL120 hTr L n n 0 0 [] A0 B0 (by omega) (by omega) (by omega) ti0 hS with ⟨A', B', ls, k1, k2, ⟨p1, p2, p3, p4, p5, p6, p7, p8, p9, p10⟩, k4, k5⟩ | ⟨A', B', c, p', k1, k2, k3, k4, k5, k6, k7⟩
  · rw [k1, k2, Option.bind_some]
    dsimp only
    rw [if_neg (by decide)]
    have ecc : jmath_min (jmath_min (A'.1 17 4) 128) 128 = A'.1 17 4 := by
      have e128 : (128 : Int32).toInt = 128 := by decide
      have := p1.2.2.1
      rw [ti_eq, min_ti, min_ti, e128]; omega
    have cpk' : cpOk 0 0 (A'.1 17 4) 128 128 = true := by
      have h := nxk p1.2.2.1
      unfold cpOk
      rw [h, show nx (0 : Int32) = 0 by decide]
      have c1 : ¬ A'.1 17 4 < 0 := by rw [ltk, ti0, p1.2.2.1]; omega
      simp [c1]
      omega
    have C1 : el_law_J26 n 1 1 A' = some (1, stI (cpI (stI A' 20 3 (A'.1 17 4)) 19 0 21 0 (nx (A'.1 17 4))) 17 2 0) := by
      unfold el_law_J26 rul_become tap_codes tap_empty
      rw [if_neg (by decide), Option.bind_some, ecc, stI_self, if_pos cpk']
      rfl
    obtain ⟨D1, d1, d2, d3⟩ := l99_s n (K := fun X12 => mo_law_L151 n n 0 X12) p5 n ls.length 0 0 (stI (stI (stI B' 102 10 0) 102 12 1) 102 13 (B'.1 102 21)) ti0 (by omega) (by omega) (by rw [stI_self]; exact p3)
    obtain ⟨D2, d4, d5, d6⟩ := l151_s n (N := mlen ls) (by omega) n (mlen ls) 0 0 D1 ti0 (by omega) (by omega) (by rw [d3, if_neg (by omega), stI_at, if_neg (by omega), stI_at, if_neg (by omega), stI_at, if_neg (by omega)]; exact p2.2.2.1)
    have M1 : mo_law_J46 n 1 B' = some (1, D2) := by
      unfold mo_law_J46 mo_law_J66
      rw [if_neg (by decide), if_pos (by rw [ti_eq, p2.1, p2.2.1]), if_neg (by decide), Option.bind_some, stI_at (o' := 102) (i' := 21), if_neg (by omega), stI_at (o' := 102) (i' := 21), if_neg (by omega), d1]
      exact d4
    refine ⟨1, _, C1, D2, M1, fun Z z1 z2 => ⟨⟨?_, ?_, ?_, fun i hi => ?_⟩, Or.inr ⟨ls, p4, p5, ?_, ?_, p8, ?_, by omega, ?_, ?_⟩⟩⟩
    · rw [z1 17 _ (by omega), z2 102 _ (by omega), stI_self, d6, if_neg (by omega), d3, if_neg (by omega), stI_at, if_neg (by omega), stI_at, if_neg (by omega), stI_self]
    · rw [z1 _ _ (by omega), stI_self]; decide
    · rw [z1 _ _ (by omega), stI_self]; decide
    · rw [z1 _ _ (by omega), stI_self, ti0] at hi; omega
    · rw [z2 _ _ (by omega), d6, if_neg (by omega), d3, if_neg (by omega), stI_at, if_neg (by omega), stI_self]
    · rw [z2 _ _ (by omega), d6, if_neg (by omega), d3, if_neg (by omega), stI_self]; exact p3
    · rw [z1 _ _ (by omega), stI_at, if_neg (by omega)]
      show ((if 20 = 21 then _ else (stI A' 20 3 (A'.1 17 4)).1 20 3)).toInt = _
      rw [if_neg (by omega), stI_self]; exact p1.2.2.1
    · have e21 : ∀ i, i < (flat ls).length → Z.1 21 i = A'.1 19 i := by
        intro i hi
        rw [z1 _ _ (by omega), stI_at, if_neg (by omega)]
        show (if 21 = 21 then (if 0 ≤ i ∧ i < 0 + nx (A'.1 17 4) then (stI A' 20 3 (A'.1 17 4)).1 19 (0 + (i - 0)) else (stI A' 20 3 (A'.1 17 4)).1 21 i) else (stI A' 20 3 (A'.1 17 4)).1 21 i) = A'.1 19 i
        rw [if_pos rfl, if_pos (by rw [nxk p1.2.2.1]; omega), Nat.zero_add, Nat.sub_zero, stI_at, if_neg (by omega)]
      have cc : ∀ (l : List Int32) (k' : Nat), (∀ j, k' ≤ j → j < k' + l.length → Z.1 21 j = A'.1 19 j) → cod 19 A' k' l → cod 21 Z k' l := by
        intro l
        induction l with
        | nil => intro k' _ _; exact trivial
        | cons y l ih2 =>
          intro k' g h
          rw [List.length_cons] at g
          exact ⟨by rw [g k' (Nat.le_refl _) (by omega)]; exact h.1, ih2 _ (fun j j1 j2 => g j (by omega) (by omega)) h.2⟩
      exact cc _ _ (fun j j1 j2 => e21 j (by omega)) p9
    · refine lay_N (B := B') ls 0 0 (fun j hj => ?_) (fun j hj => ?_) p10
      · refine ⟨?_, ?_, ?_⟩
        · rw [z2 _ _ (by omega), d6, if_neg (by omega), d3, if_pos (by omega), stI_at, if_neg (by omega), stI_at, if_neg (by omega), stI_at, if_neg (by omega)]
        · rw [z2 _ _ (by omega), d6, if_neg (by omega), d3, if_pos (by omega), stI_at, if_neg (by omega), stI_at, if_neg (by omega), stI_at, if_neg (by omega)]
        · rw [z2 _ _ (by omega), d6, if_neg (by omega), d3, if_pos (by omega), stI_at, if_neg (by omega), stI_at, if_neg (by omega), stI_at, if_neg (by omega)]
      · rw [z2 _ _ (by omega), d6, if_pos (by omega), d3, if_neg (by omega), stI_at, if_neg (by omega), stI_at, if_neg (by omega), stI_at, if_neg (by omega)]
  · rw [k1, k2, Option.bind_some]
    dsimp only
    rw [if_pos rfl]
    have C1 : el_law_J26 n 0 ((-100 : Int32) - (tap_place A')) A' = some ((-100 : Int32) - A'.1 17 3, stI A' 17 2 0) := by
      unfold el_law_J26 tap_place tap_empty
      rw [if_pos rfl]
      rfl
    have M0 : mo_law_J66 n 0 B' = some ((-100 : Int32) - A'.1 17 3, stI B' 102 10 0) := by
      unfold mo_law_J66
      rw [if_pos rfl, stI_at, if_neg (by omega), show B'.1 102 18 = A'.1 17 3 by rw [ti_eq, k4, k5]]
    have M1 : mo_law_J46 n c B' = some ((-100 : Int32) - A'.1 17 3, stI B' 102 10 0) := by
      unfold mo_law_J46
      rcases k3 with e | ⟨e, e'⟩
      · rw [if_pos e, M0]
      · rw [e, if_neg (by decide), if_neg e', M0]
    refine ⟨_, _, C1, _, M1, fun Z z1 z2 => ⟨⟨?_, ?_, ?_, fun i hi => ?_⟩, ?_⟩⟩
    · rw [z1 17 _ (by omega), z2 102 _ (by omega), stI_self, stI_self]
    · rw [z1 _ _ (by omega), stI_self]; decide
    · rw [z1 _ _ (by omega), stI_self]; decide
    · rw [z1 _ _ (by omega), stI_self, ti0] at hi; omega
    · have c1 : ∀ o i, o < 102 → o ≠ 19 → o ≠ 17 → Z.1 o i = X.1 o i := fun o i a b c => by
        rw [z1 _ _ a, stI_at, if_neg (by omega), k6.2 _ _ b (by omega), a0 _ _ (by omega)]
      have c2 : ∀ o i, 102 ≤ o → ¬ (117 ≤ o ∧ o ≤ 120) → ¬ (o = 102 ∧ 18 ≤ i ∧ i ≤ 21) → ¬ (o = 102 ∧ i = 10) → Z.1 o i = X.1 o i := fun o i a b c d => by
        rw [z2 _ _ a, stI_at, if_neg (by omega), k7.2 _ _ b c, b0 _ _ a c]
      rcases hL with ⟨l1, l2⟩ | ⟨ls, q1, q2, q3, q4, q5, q6, q7, q8, q9⟩
      · exact Or.inl ⟨by rw [c1 _ _ (by omega) (by omega) (by omega)]; exact l1, by rw [c2 _ _ (by omega) (by omega) (by omega) (by omega)]; exact l2⟩
      · exact Or.inr ⟨ls, q1, q2, by rw [c2 _ _ (by omega) (by omega) (by omega) (by omega)]; exact q3, by rw [c2 _ _ (by omega) (by omega) (by omega) (by omega)]; exact q4, q5, by rw [c1 _ _ (by omega) (by omega) (by omega)]; exact q6, q7, cod_cg (fun i => c1 _ _ (by omega) (by omega) (by omega)) _ _ q8, lay_cg (fun o i o1 o2 => c2 _ _ (by omega) (by omega) (by omega) (by omega)) _ _ _ q9⟩
