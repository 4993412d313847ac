/-! law -/
def frL (B B' : St) (i : Nat) (mc : Nat) : Prop := B'.2 = B.2 ∧ (∀ o k, ¬ (117 ≤ o ∧ o ≤ 120) → ¬ (o = 102 ∧ 18 ≤ k ∧ k ≤ 21) → B'.1 o k = B.1 o k) ∧ (∀ o k, 117 ≤ o → o ≤ 119 → k < i → B'.1 o k = B.1 o k) ∧ ∀ k, k < mc → B'.1 120 k = B.1 120 k
theorem frB.L {B B' : St} {i mc : Nat} (h : frB B B') (h2 : ∀ k, k < mc → B'.1 120 k = B.1 120 k) : frL B B' i mc := ⟨h.1, fun o k h1 h2 => h.2 o k (by omega) (by omega), fun o k h1 h2 _ => h.2 o k (by omega) (by omega), h2⟩
theorem frL.st {B : St} {i mc o k : Nat} {v : Int32} (h : (117 ≤ o ∧ o ≤ 119 ∧ i ≤ k) ∨ (o = 102 ∧ 18 ≤ k ∧ k ≤ 21)) : frL B (stI B o k v) i mc := ⟨rfl, fun o' k' h1 h2 => by rw [stI_at, if_neg (by omega)], fun o' k' h1 h2 h3 => by rw [stI_at, if_neg (by omega)], fun k' h1 => by rw [stI_at, if_neg (by omega)]⟩
theorem frL.tr {A B C : St} {i j mc mc' : Nat} (h1 : frL A B i mc) (h2 : frL B C j mc') (hij : i ≤ j) (hm : mc ≤ mc') : frL A C i mc := ⟨h2.1.trans h1.1, fun o k a b => (h2.2.1 o k a b).trans (h1.2.1 o k a b), fun o k a b c => (h2.2.2.1 o k a b (by omega)).trans (h1.2.2.1 o k a b c), fun k a => (h2.2.2.2 k (by omega)).trans (h1.2.2.2 k a)⟩
theorem frL.z {A B : St} {i mc : Nat} (h : frL A B i mc) : frL A B i 0 := ⟨h.1, h.2.1, h.2.2.1, fun k a => absurd a (Nat.not_lt_zero k)⟩
/-- a line that was read -/
def SucL (X : St) (L p0 cc mc i : Nat) (A0 B0 A B : St) (p : Nat) (q : Lin) : Prop := PA X L p (cc + (cls q).length) A ∧ PB X L p (mc + q.1.length + q.2.length) 0 B ∧ (B.1 102 21).toInt = ((i + 1 : Nat) : Int) ∧ p0 < p ∧ p ≤ L ∧ (cls q).length + p0 ≤ p + 1 ∧ q.1.length + q.2.length + p0 ≤ p ∧ (q.1 = [] ∨ WF q.1) ∧ WF q.2 ∧ cod 19 A cc (cls q) ∧ cod 120 B mc q.1 ∧ cod 120 B (mc + q.1.length) q.2 ∧ (B.1 117 i).toInt = mc ∧ (B.1 118 i).toInt = ((mc + q.1.length : Nat) : Int) ∧ (B.1 119 i).toInt = ((mc + q.1.length + q.2.length : Nat) : Int) ∧ (∀ k, k < cc → A.1 19 k = A0.1 19 k) ∧ frA A0 A ∧ frL B0 B i mc
def FaiL (A0 B0 A B : St) (i mc : Nat) : Prop := (∃ p : Nat, (A.1 17 3).toInt = p ∧ (B.1 102 18).toInt = p) ∧ frA A0 A ∧ frL B0 B i 0
theorem J71_s {n : Nat} {B : St} {i mc : Nat} (h1 : (B.1 102 21).toInt = i) (hi : i ≤ 60) (h2 : (B.1 102 20).toInt = mc) : ∃ t : Int32, t.toInt = ((i + 1 : Nat) : Int) ∧ mo_isLine_J71 n B = some (1, stI (stI B 102 21 t) 119 i (B.1 102 20)) := by
  refine ⟨B.1 102 21 + 1, inc h1 (by omega), ?_⟩
  unfold mo_isLine_J71
  rw [if_pos (by rw [inB_iff]; omega), nxk h1, Option.bind_some, stI_at, if_neg (by omega)]
theorem PB.o {X B B' : St} {L p mc o : Nat} (h : PB X L p mc o B) (e : ∀ o k, o = 102 ∧ (k = 10 ∨ k = 18 ∨ k = 19 ∨ k = 20) ∨ o = 112 → B'.1 o k = B.1 o k) : PB X L p mc o B' := by
  obtain ⟨h1, h2, h3, h4, h5⟩ := h
  exact ⟨by rw [e _ _ (by omega)]; exact h1, by rw [e _ _ (by omega)]; exact h2, by rw [e _ _ (by omega)]; exact h3, by rw [e _ _ (by omega)]; exact h4, fun i hi => by rw [e _ _ (by omega)]; exact h5 i hi⟩
theorem line_s {n : Nat} (hn : 4096 ≤ n) {X A B : St} {L p cc mc i : Nat} (hL : L ≤ 120) (hT : ∀ i, i < L → 0 ≤ (X.1 18 i).toInt ∧ (X.1 18 i).toInt ≤ 255) (hA : PA X L p cc A) (hB : PB X L p mc 0 B) (hi : (B.1 102 21).toInt = i) (h60 : i ≤ 60) (hp : p ≤ L) (hc : cc ≤ p) (hm : mc ≤ p) : (∃ A' B' p' q, tap_isLine n A = some (1, A') ∧ mo_isLine n B = some (1, B') ∧ SucL X L p cc mc i A B A' B' p' q) ∨ (∃ A' B', tap_isLine n A = some (0, A') ∧ mo_isLine n B = some (0, B') ∧ FaiL A B A' B' i mc) := by
  have i61 : inB (B.1 102 21) 61 = true := by rw [inB_iff]; omega
  unfold tap_isLine mo_isLine
  rw [if_pos i61, nxk hi]
  have mc20 : (B.1 102 20).toInt = mc := hB.2.2.1
  have hB1 : PB X L p mc 0 (stI B 117 i (B.1 102 20)) := hB.o (fun o k h => by rw [stI_at, if_neg (by omega)])
  have f1 : ∀ m, frL B (stI B 117 i (B.1 102 20)) i m := fun m => frL.st (Or.inl ⟨by omega, by omega, Nat.le_refl _⟩)
  rcases expr_s hn hL hT hA hB1 hp hc hm with ⟨A1, B1, p1, l, e1, e2, s1, s2, s3, s4, s5, s6, s7, s8, s9, s10, s11, s12⟩ | ⟨A1, B1, e1, e2, ⟨pf, g1, g1'⟩, g2, g3⟩
  · rw [e1, e2, Option.bind_some]
    dsimp only
    rw [Option.bind_some]
    dsimp only
    rw [if_neg (by decide), if_neg (by decide)]
    have k21 : (B1.1 102 21).toInt = i := by rw [s12.2 _ _ (by omega) (by omega), stI_at, if_neg (by omega)]; exact hi
    have k61 : inB (B1.1 102 21) 61 = true := by rw [inB_iff]; omega
    have b117 : B1.1 117 i = B.1 102 20 := by rw [s12.2 _ _ (by omega) (by omega), stI_self]
    rw [if_pos k61, if_pos k61, nxk k21, b117, Option.bind_some, takes_s hL s1, Option.bind_some]
    dsimp only
    have s2' : PB X L p1 (mc + l.length) 0 (stI B1 118 i (B.1 102 20)) := s2.o (fun o k h => by rw [stI_at, if_neg (by omega)])
    have f2 : frL B (stI B1 118 i (B.1 102 20)) i mc := (f1 mc).tr ((s12.L (i := i) (mc := mc) s10).tr (frL.st (mc := mc) (Or.inl ⟨by omega, by omega, Nat.le_refl _⟩)) (Nat.le_refl _) (Nat.le_refl _)) (Nat.le_refl _) (Nat.le_refl _)
    rw [is_s hL s2' (by decide), Option.bind_some]
    dsimp only
    by_cases c63 : p1 < L ∧ X.1 18 p1 = 63
    · simp only [if_pos c63, show ¬ (1 : Int32) = 0 by decide, ↓reduceIte]
      obtain ⟨t, w1, w2⟩ := wr_s (A := stI A1 17 3 (A1.1 17 3 + 1)) (v := -63) (PA.adv (by omega) s1).2.2.1 (by omega)
      have pb3 := PB.adv (by omega) s2'
      have q21 : (stI (stI B1 118 i (B.1 102 20)) 102 18 ((stI B1 118 i (B.1 102 20)).1 102 18 + 1)).1 102 21 = B1.1 102 21 := by rw [stI_at, if_neg (by omega), stI_at, if_neg (by omega)]
      have q20 : (stI (stI B1 118 i (B.1 102 20)) 102 18 ((stI B1 118 i (B.1 102 20)).1 102 18 + 1)).1 102 20 = B1.1 102 20 := by rw [stI_at, if_neg (by omega), stI_at, if_neg (by omega)]
      rw [w2, Option.bind_some, q21, if_pos k61, nxk k21, q20]
      have hA3 : PA X L (p1 + 1) (cc + l.length + 1) (stI (stI (stI A1 17 3 (A1.1 17 3 + 1)) 19 (cc + l.length) (-63)) 17 4 t) := by
        obtain ⟨x1, x2, x3, x4⟩ := PA.adv (by omega) s1
        exact ⟨by rw [stI_at, if_neg (by omega), stI_at, if_neg (by omega)]; exact x1, by rw [stI_at, if_neg (by omega), stI_at, if_neg (by omega)]; exact x2, by rw [stI_self]; exact w1, fun i hi => by rw [stI_at, if_neg (by omega), stI_at, if_neg (by omega)]; exact x4 i hi⟩
      have hB3 : PB X L (p1 + 1) (mc + l.length) 0 (stI (stI (stI B1 118 i (B.1 102 20)) 102 18 ((stI B1 118 i (B.1 102 20)).1 102 18 + 1)) 118 i (B1.1 102 20)) := pb3.o (fun o k h => by rw [stI_at, if_neg (by omega)])
      have f3 : frL B (stI (stI (stI B1 118 i (B.1 102 20)) 102 18 ((stI B1 118 i (B.1 102 20)).1 102 18 + 1)) 118 i (B1.1 102 20)) i mc := f2.tr ((frL.st (i := i) (mc := mc) (Or.inr ⟨rfl, by omega, by omega⟩)).tr (frL.st (mc := mc) (Or.inl ⟨by omega, by omega, Nat.le_refl _⟩)) (Nat.le_refl _) (Nat.le_refl _)) (Nat.le_refl _) (Nat.le_refl _)
      have fA3 : frA A (stI (stI (stI A1 17 3 (A1.1 17 3 + 1)) 19 (cc + l.length) (-63)) 17 4 t) := s11.tr ((frA.st (Or.inl rfl)).tr (frA.s9.tr (frA.st (Or.inr rfl))))
      rcases expr_s hn hL hT hA3 hB3 (by omega) (by omega) (by omega) with ⟨A4, B4, p4, l4, e3, e4, u1, u2, u3, u4, u5, u6, u7, u8, u9, u10, u11, u12⟩ | ⟨A4, B4, e3, e4, ⟨pf, g1, g1'⟩, g2, g3⟩
      · rw [e3, e4, Option.bind_some]
        dsimp only
        rw [Option.bind_some]
        dsimp only
        rw [if_neg (by decide), if_neg (by decide)]
        obtain ⟨t2, w3, w4⟩ := wr_s (v := -59) u1.2.2.1 (by omega)
        have r21 : (B4.1 102 21).toInt = i := by
          rw [u12.2 _ _ (by omega) (by omega), stI_at, if_neg (by omega), q21]; exact k21
        obtain ⟨t3, w5, w6⟩ := J71_s (n := n) r21 h60 u2.2.2.1
        rw [w4, Option.bind_some, w6]
        have la : l ≠ [] := fun e => by
          subst e
          obtain ⟨v, hv⟩ := s6.2 (fun _ => 0)
          obtain ⟨f', q1, -⟩ := hv 0 (fun _ => 0)
          injection q1 with q1
          injection q1 with q1 _
          omega
        obtain ⟨y, ys, rfl⟩ : ∃ y ys, l = y :: ys := by
          cases l with
          | nil => exact absurd rfl la
          | cons y ys => exact ⟨y, ys, rfl⟩
        have lc : (cls (y :: ys, l4)).length = (y :: ys).length + l4.length + 2 := by
          show ((y :: ys).map phi ++ (-63 :: (l4.map phi ++ [-59]))).length = _
          simp only [List.length_append, List.length_map, List.length_cons, List.length_nil]
          omega
        have cA : ∀ k, k < cc + (y :: ys).length + 1 → A4.1 19 k = (stI (stI (stI A1 17 3 (A1.1 17 3 + 1)) 19 (cc + (y :: ys).length) (-63)) 17 4 t).1 19 k := u9
        refine Or.inl ⟨_, _, p4, (y :: ys, l4), rfl, rfl, ⟨?_, ?_, ?_, fun k hk => ?_⟩, ?_, ?_, by omega, u3, by rw [lc]; omega, by show (y :: ys).length + l4.length + p ≤ p4; omega, Or.inr s6, u6, ?_, ?_, ?_, ?_, ?_, ?_, fun k hk => ?_, fA3.tr (u11.tr (frA.s9.tr (frA.st (Or.inr rfl)))), f3.tr ((u12.L (i := i) (mc := mc) (fun k hk => u10 k (by omega))).tr ((frL.st (i := i) (mc := mc) (Or.inr ⟨rfl, by omega, by omega⟩)).tr (frL.st (mc := mc) (Or.inl ⟨by omega, by omega, Nat.le_refl _⟩)) (Nat.le_refl _) (Nat.le_refl _)) (Nat.le_refl _) (Nat.le_refl _)) (Nat.le_refl _) (Nat.le_refl _)⟩
        · rw [stI_at, if_neg (by omega), stI_at, if_neg (by omega)]; exact u1.1
        · rw [stI_at, if_neg (by omega), stI_at, if_neg (by omega)]; exact u1.2.1
        · rw [stI_self, w3, lc]; congr 1; omega
        · rw [stI_at, if_neg (by omega), stI_at, if_neg (by omega)]; exact u1.2.2.2 k hk
        · exact u2.o (fun o k h => by rw [stI_at, if_neg (by omega), stI_at, if_neg (by omega)])
        · rw [stI_at, if_neg (by omega), stI_self]; exact w5
        · show cod 19 _ cc ((y :: ys).map phi ++ (-63 :: (l4.map phi ++ [-59])))
          refine (cod_app _ _ _).mpr ⟨?_, ?_⟩
          · refine cod_st _ (Or.inl (by omega)) (cod_st _ (Or.inr (by rw [List.length_map]; omega)) (cod_ex _ (fun k k1 k2 => ?_) s7))
            rw [List.length_map] at k2
            rw [cA k (by omega), stI_at, if_neg (by omega), stI_at, if_neg (by omega), stI_at, if_neg (by omega)]
          · rw [List.length_map]
            refine ⟨?_, (cod_app _ _ _).mpr ⟨cod_st _ (Or.inl (by omega)) (cod_st _ (Or.inr (by rw [List.length_map]; omega)) u7), ?_, trivial⟩⟩
            · rw [stI_at, if_neg (by omega), stI_at, if_neg (by omega), cA _ (by omega), stI_at, if_neg (by omega), stI_self]
            · rw [List.length_map, stI_at, if_neg (by omega), stI_self]
        · refine cod_st _ (Or.inl (by omega)) (cod_st _ (Or.inl (by omega)) (cod_ex _ (fun k k1 k2 => ?_) s8))
          rw [u10 k k2, stI_at, if_neg (by omega), stI_at, if_neg (by omega), stI_at, if_neg (by omega)]
        · exact cod_st _ (Or.inl (by omega)) (cod_st _ (Or.inl (by omega)) u8)
        · rw [stI_at, if_neg (by omega), stI_at, if_neg (by omega), u12.2 _ _ (by omega) (by omega), stI_at, if_neg (by omega), stI_at, if_neg (by omega), stI_at, if_neg (by omega), b117]; exact mc20
        · rw [stI_at, if_neg (by omega), stI_at, if_neg (by omega), u12.2 _ _ (by omega) (by omega), stI_self]; exact s2.2.2.1
        · rw [stI_self]; exact u2.2.2.1
        · rw [stI_at, if_neg (by omega), stI_at, if_neg (by omega), cA k (by omega), stI_at, if_neg (by omega), stI_at, if_neg (by omega), stI_at, if_neg (by omega)]; exact s9 k hk
      · rw [e3, e4, Option.bind_some]
        dsimp only
        rw [Option.bind_some]
        dsimp only
        rw [if_pos rfl, if_pos rfl]
        exact Or.inr ⟨A4, B4, rfl, rfl, ⟨pf, g1, g1'⟩, fA3.tr g2, f3.z.tr (g3.L (i := i) (mc := 0) (fun k hk => by omega)) (Nat.le_refl _) (Nat.le_refl _)⟩
    · simp only [if_neg c63, ↓reduceIte]
      obtain ⟨t, w1, w2⟩ := wr_s (v := -59) s1.2.2.1 (by omega)
      have r21 : ((stI B1 118 i (B.1 102 20)).1 102 21).toInt = i := by rw [stI_at, if_neg (by omega)]; exact k21
      obtain ⟨t3, w5, w6⟩ := J71_s (n := n) r21 h60 s2'.2.2.1
      rw [w2, Option.bind_some, w6]
      have lc : (cls ([], l)).length = l.length + 1 := by
        show (l.map phi ++ [-59]).length = _
        simp only [List.length_append, List.length_map, List.length_cons, List.length_nil]
      refine Or.inl ⟨_, _, p1, ([], l), rfl, rfl, ⟨?_, ?_, ?_, fun k hk => ?_⟩, ?_, ?_, s5, s3, by rw [lc]; omega, by show 0 + l.length + p ≤ p1; omega, Or.inl rfl, s6, ?_, trivial, ?_, ?_, ?_, ?_, fun k hk => ?_, s11.tr (frA.s9.tr (frA.st (Or.inr rfl))), f2.tr ((frL.st (i := i) (mc := mc) (Or.inr ⟨rfl, by omega, by omega⟩)).tr (frL.st (mc := mc) (Or.inl ⟨by omega, by omega, Nat.le_refl _⟩)) (Nat.le_refl _) (Nat.le_refl _)) (Nat.le_refl _) (Nat.le_refl _)⟩
      · rw [stI_at, if_neg (by omega), stI_at, if_neg (by omega)]; exact s1.1
      · rw [stI_at, if_neg (by omega), stI_at, if_neg (by omega)]; exact s1.2.1
      · rw [stI_self, w1, lc]; rfl
      · rw [stI_at, if_neg (by omega), stI_at, if_neg (by omega)]; exact s1.2.2.2 k hk
      · exact s2'.o (fun o k h => by rw [stI_at, if_neg (by omega), stI_at, if_neg (by omega)])
      · rw [stI_at, if_neg (by omega), stI_self]; exact w5
      · show cod 19 _ cc (l.map phi ++ [-59])
        refine (cod_app _ _ _).mpr ⟨cod_st _ (Or.inl (by omega)) (cod_st _ (Or.inr (by rw [List.length_map]; omega)) s7), ?_, trivial⟩
        rw [List.length_map, stI_at, if_neg (by omega), stI_self]
      · exact cod_st _ (Or.inl (by omega)) (cod_st _ (Or.inl (by omega)) (cod_st _ (Or.inl (by omega)) s8))
      · rw [stI_at, if_neg (by omega), stI_at, if_neg (by omega), stI_at, if_neg (by omega), b117]; exact mc20
      · rw [stI_at, if_neg (by omega), stI_at, if_neg (by omega), stI_self]; exact mc20
      · rw [stI_self]; exact s2'.2.2.1
      · rw [stI_at, if_neg (by omega), stI_at, if_neg (by omega)]; exact s9 k hk
  · rw [e1, e2, Option.bind_some]
    dsimp only
    rw [Option.bind_some]
    dsimp only
    rw [if_pos rfl, if_pos rfl]
    exact Or.inr ⟨A1, B1, rfl, rfl, ⟨pf, g1, g1'⟩, g2, (f1 0).tr (g3.L (i := i) (mc := 0) (fun k hk => by omega)) (Nat.le_refl _) (Nat.le_refl _)⟩
