/-! what each part of the rule reads -/
theorem wrC {a b o i : Nat} {R F : List (Nat × Nat)} : wr ((a, b) :: R) F o i ↔ (a ≤ o ∧ o ≤ b) ∨ wr R F o i := by
  unfold wr
  constructor
  · rintro (⟨p, hp, h⟩ | h)
    · rcases List.mem_cons.mp hp with e | e
      · subst e; exact Or.inl h
      · exact Or.inr (Or.inl ⟨p, e, h⟩)
    · exact Or.inr (Or.inr h)
  · rintro (h | ⟨p, hp, h⟩ | h)
    · exact Or.inl ⟨(a, b), List.mem_cons_self, h⟩
    · exact Or.inl ⟨p, List.mem_cons_of_mem _ hp, h⟩
    · exact Or.inr h
theorem wrF {a b o i : Nat} {F : List (Nat × Nat)} : wr [] ((a, b) :: F) o i ↔ (o = a ∧ i = b) ∨ wr [] F o i := by
  unfold wr
  constructor
  · rintro (⟨p, hp, h⟩ | h)
    · cases hp
    · rcases List.mem_cons.mp h with e | e
      · injection e with e1 e2; exact Or.inl ⟨e1, e2⟩
      · exact Or.inr (Or.inr e)
  · rintro (⟨h1, h2⟩ | ⟨p, hp, h⟩ | h)
    · exact Or.inr (by rw [h1, h2]; exact List.mem_cons_self)
    · cases hp
    · exact Or.inr (List.mem_cons_of_mem _ h)
theorem wrN {o i : Nat} : wr [] [] o i ↔ False := by
  unfold wr
  constructor
  · rintro (⟨p, hp, h⟩ | h)
    · cases hp
    · cases h
  · exact False.elim
abbrev rPool (o i : Nat) : Prop := (o = 1 ∧ i = 1) ∨ (3 ≤ o ∧ o ≤ 11) ∨ (o = 102 ∧ i = 0) ∨ (103 ≤ o ∧ o ≤ 111) ∨ o = 82 ∨ o = 83
abbrev rChg (o i : Nat) : Prop := (o = 12 ∧ (i = 5 ∨ i = 6)) ∨ (13 ≤ o ∧ o ≤ 16) ∨ o = 127 ∨ (o = 102 ∧ (i = 34 ∨ i = 35))
abbrev rLed (o _ : Nat) : Prop := o = 84 ∨ o = 123
abbrev rTape (o i : Nat) : Prop := (o = 102 ∧ i = 10) ∨ (o = 17 ∧ i = 2) ∨ o = 112 ∨ o = 18
abbrev rSh (o i : Nat) : Prop := (92 ≤ o ∧ o ≤ 94) ∨ o = 130 ∨ o = 131 ∨ (o = 88 ∧ i = 2)
abbrev rLong (o _ : Nat) : Prop := (96 ≤ o ∧ o ≤ 101) ∨ o = 132
abbrev rWy (o i : Nat) : Prop := (o = 102 ∧ (i = 37 ∨ i = 39)) ∨ (o = 88 ∧ (i = 2 ∨ i = 3)) ∨ o = 89 ∨ o = 90 ∨ o = 128 ∨ o = 129
abbrev rThen (o i : Nat) : Prop := (o = 102 ∧ (i = 29 ∨ i = 30)) ∨ (o = 81 ∧ i = 6) ∨ (85 ≤ o ∧ o ≤ 87) ∨ (124 ≤ o ∧ o ≤ 126)
abbrev rSlp (o i : Nat) : Prop := o = 102 ∧ i = 48
abbrev rLaw (o i : Nat) : Prop := (o = 20 ∧ i = 3) ∨ (o = 102 ∧ (i = 12 ∨ i = 13)) ∨ o = 21 ∨ (113 ≤ o ∧ o ≤ 116)
def agI (P : Nat → Nat → Prop) (X Y : St) : Prop := ∀ o i, P o i → Y.1 o i = X.1 o i
def agL (P : Nat → Nat → Prop) (X Y : St) : Prop := ∀ o i, P o i → Y.2 o i = X.2 o i
/-- the image is of no more than there are -/
def IOld (X : St) : Prop := (X.1 102 30).toInt ≤ (X.1 1 1).toInt
theorem kPool {X Y : St} (h : agI rPool X Y) (hX : PoolI X) : PoolI Y := by
  obtain ⟨⟨p1, p2, p3, p4, p5⟩, t, z, l⟩ := hX
  have e : ∀ o i, rPool o i → Y.1 o i = X.1 o i := h
  have m : Y.1 1 1 = X.1 1 1 := e _ _ (by omega)
  refine ⟨⟨by rw [e 102 0 (by omega), m]; exact p1, by rw [m]; exact p2, by rw [m]; exact p3, fun w k hw hk => by rw [e (103 + w) k (by omega), e (3 + w) k (by omega)]; exact p4 w k hw hk, fun j hj => by rw [e 109 j (by omega), e (9 + j) 0 (by omega)]; exact p5 j hj⟩, fun k hk => ?_, fun k hk hm => ?_, fun k hk hm => ?_⟩
  · rw [e 110 k (by omega), e 82 k (by omega), e 111 k (by omega), e 83 k (by omega)]; exact t k hk
  · rw [e 82 k (by omega), e 83 k (by omega)]; exact z k hk (by rw [← m]; exact hm)
  · rw [e 8 k (by omega)]; exact l k hk (by rw [← m]; exact hm)
theorem kBnd {X Y : St} (h : agI rPool X Y) (hX : IBnd X) : IBnd Y := by
  have e : ∀ o i, rPool o i → Y.1 o i = X.1 o i := h
  intro w k hv
  have w8 : w ≤ 8 := by rcases hv with h | h <;> omega
  rw [e 1 1 (by omega)] at hv
  rw [e (3 + w) k (by omega)]
  exact hX w k hv
theorem kChg {X Y : St} (h : agI rChg X Y) (hm : (X.1 1 1).toInt ≤ (Y.1 1 1).toInt) (hX : IChg X) : IChg Y := by
  have e : ∀ o i, rChg o i → Y.1 o i = X.1 o i := h
  obtain ⟨h1, h2, h3, h4, h5, h6⟩ := hX
  unfold IChg
  rw [e 102 35 (by omega), e 102 34 (by omega), e 12 5 (by omega), e 12 6 (by omega)]
  refine ⟨h1, h2, h3, h4, h5, fun k hk => ?_⟩
  obtain ⟨g1, g2, g3, g4⟩ := h6 k hk
  unfold IEnt
  rw [e 13 k (by omega), e 14 k (by omega), e 15 k (by omega), e 16 k (by omega)]
  refine ⟨?_, g2, g3, fun j hj => by rw [e 127 _ (by omega), e (13 + j) k (by omega)]; exact g4 j hj⟩
  rcases g1 with g | g
  · exact Or.inl (by omega)
  · exact Or.inr g
theorem kLed {X Y : St} (h : agI rLed X Y) (hX : ILed X) : ILed Y := by
  have e : ∀ o i, rLed o i → Y.1 o i = X.1 o i := h
  intro i hi
  rw [e 123 i (by omega), e 84 i (by omega)]
  exact hX i hi
theorem kTape {X Y : St} (h : agI rTape X Y) (hX : ITape X) : ITape Y := by
  have e : ∀ o i, rTape o i → Y.1 o i = X.1 o i := h
  obtain ⟨h1, h2, h3, h4⟩ := hX
  unfold ITape
  rw [e 102 10 (by omega), e 17 2 (by omega)]
  exact ⟨h1, h2, h3, fun i hi => by rw [e 112 i (by omega), e 18 i (by omega)]; exact h4 i hi⟩
theorem kSh {X Y : St} (h : agI rSh X Y) (hl : agL rLong X Y) (hX : ISh X) : ISh Y := by
  have e : ∀ o i, rSh o i → Y.1 o i = X.1 o i := h
  have l : ∀ o i, rLong o i → Y.2 o i = X.2 o i := hl
  intro s hs
  rw [e 92 s (by omega), e 93 s (by omega), e 94 s (by omega), e 130 s (by omega), e 131 s (by omega), e 88 2 (by omega)]
  obtain ⟨h1, h2, h3, h4, h5⟩ := hX s hs
  exact ⟨h1, h2, h3, h4, fun i hi => by rw [l 132 _ (by omega), l (96 + s) i (by omega)]; exact h5 i hi⟩
theorem kWy {X Y : St} (h : agI rWy X Y) (hX : IWy X) : IWy Y := by
  have e : ∀ o i, rWy o i → Y.1 o i = X.1 o i := h
  obtain ⟨h1, h2, h3, h4, h5, h6, h7⟩ := hX
  unfold IWy
  rw [e 102 37 (by omega), e 102 39 (by omega), e 88 2 (by omega), e 88 3 (by omega)]
  exact ⟨h1, h2, h3, fun i hi => by rw [e 128 i (by omega), e 89 i (by omega)]; exact h4 i hi, h5, h6, fun i hi hj => by rw [e 129 i (by omega), e 90 i (by omega)]; exact h7 i hi hj⟩
theorem kThen {X Y : St} (h : agI rThen X Y) (hX : IThen X) : IThen Y := by
  have e : ∀ o i, rThen o i → Y.1 o i = X.1 o i := h
  obtain ⟨h1, h2, h3, h4, h5, h6⟩ := hX
  unfold IThen
  rw [e 102 29 (by omega), e 102 30 (by omega), e 81 6 (by omega)]
  exact ⟨h1, h2, h3, h4, fun k hk => by rw [e 124 k (by omega), e 125 k (by omega), e 85 k (by omega), e 86 k (by omega)]; exact h5 k hk, fun i hi => by rw [e 126 i (by omega), e 87 i (by omega)]; exact h6 i hi⟩
theorem kOld {X Y : St} (h : agI rThen X Y) (hm : (X.1 1 1).toInt ≤ (Y.1 1 1).toInt) (hX : IOld X) : IOld Y := by
  unfold IOld at *
  rw [show Y.1 102 30 = X.1 102 30 from h _ _ (by omega)]
  omega
theorem kSlp {X Y : St} (h : agI rSlp X Y) (hX : ISlp X) : ISlp Y := by
  unfold ISlp at *
  rw [show Y.1 102 48 = X.1 102 48 from h _ _ ⟨rfl, rfl⟩]
  exact hX
theorem kLaw {X Y : St} (h : agI rLaw X Y) (hX : ILaw X) : ILaw Y := by
  have e : ∀ o i, rLaw o i → Y.1 o i = X.1 o i := h
  unfold ILaw at *
  rw [e 20 3 (by omega), e 102 12 (by omega), e 102 13 (by omega)]
  rcases hX with h | ⟨ls, h1, h2, h3, h4, h5, h6, h7, h8, h9⟩
  · exact Or.inl h
  · exact Or.inr ⟨ls, h1, h2, h3, h4, h5, h6, h7, cod_cg (fun i => e _ _ (by omega)) _ _ h8, lay_cg (fun o i h1 h2 => e o i (by omega)) _ _ _ h9⟩
/-- the rule that every call keeps -/
def Inv (X : St) : Prop := PoolI X ∧ IBnd X ∧ IChg X ∧ ILed X ∧ ITape X ∧ ISh X ∧ IWy X ∧ IThen X ∧ IOld X ∧ ISlp X ∧ ILaw X
theorem keepI {R F R' F' : List (Nat × Nat)} {P : Nat → Nat → Prop} {X X1 X2 : St} (h1 : fr R F X X1) (h2 : fr R' F' X1 X2) (d1 : ∀ o i, P o i → ¬ wr R F o i) (d2 : ∀ o i, P o i → ¬ wr R' F' o i) : agI P X X2 := fun o i h => ((h2 o i (d2 o i h)).1).trans (h1 o i (d1 o i h)).1
theorem keepL {R F R' F' : List (Nat × Nat)} {P : Nat → Nat → Prop} {X X1 X2 : St} (h1 : fr R F X X1) (h2 : fr R' F' X1 X2) (d1 : ∀ o i, P o i → ¬ wr R F o i) (d2 : ∀ o i, P o i → ¬ wr R' F' o i) : agL P X X2 := fun o i h => ((h2 o i (d2 o i h)).2).trans (h1 o i (d1 o i h)).2
/-- all that is read by the rule -/
def rAll (o i : Nat) : Prop := rPool o i ∨ rChg o i ∨ rLed o i ∨ rTape o i ∨ rSh o i ∨ rWy o i ∨ rThen o i ∨ rSlp o i ∨ rLaw o i
theorem kInv {X Y : St} (h : agI rAll X Y) (hl : agL rLong X Y) (hX : Inv X) : Inv Y := by
  obtain ⟨x1, x2, x3, x4, x5, x6, x7, x8, x9, x10, x11⟩ := hX
  have h1 : agI rPool X Y := fun o i z => h o i (Or.inl z)
  have m : (X.1 1 1).toInt ≤ (Y.1 1 1).toInt := by rw [h1 1 1 (by omega)]; exact Int.le_refl _
  have h8 : agI rThen X Y := fun o i z => h o i (Or.inr (Or.inr (Or.inr (Or.inr (Or.inr (Or.inr (Or.inl z)))))))
  exact ⟨kPool h1 x1, kBnd h1 x2, kChg (fun o i z => h o i (Or.inr (Or.inl z))) m x3, kLed (fun o i z => h o i (Or.inr (Or.inr (Or.inl z)))) x4, kTape (fun o i z => h o i (Or.inr (Or.inr (Or.inr (Or.inl z))))) x5, kSh (fun o i z => h o i (Or.inr (Or.inr (Or.inr (Or.inr (Or.inl z)))))) hl x6, kWy (fun o i z => h o i (Or.inr (Or.inr (Or.inr (Or.inr (Or.inr (Or.inl z))))))) x7, kThen h8 x8, kOld h8 m x9, kSlp (fun o i z => h o i (Or.inr (Or.inr (Or.inr (Or.inr (Or.inr (Or.inr (Or.inr (Or.inl z))))))))) x10, kLaw (fun o i z => h o i (Or.inr (Or.inr (Or.inr (Or.inr (Or.inr (Or.inr (Or.inr (Or.inr (z)))))))))) x11⟩
/-- an asking call: what it writes the rule does not read, or it lays back -/
theorem liftQ {f g : St → Option (Int32 × St)} {R F R' F' : List (Nat × Nat)} {E : St → St → Prop} (hq : ∀ X, Inv X → ∃ r X1, f X = some (r, X1) ∧ ∀ Y, Mo X Y → ∃ Y1, g Y = some (r, Y1) ∧ E Y Y1) (ff : ∀ X, PO (fun r => fr R F X r.2) (f X)) (fl : ∀ X, PO (fun r => fq R F X r.2) (f X)) (gg : ∀ X, PO (fun r => fr R' F' X r.2) (g X)) (d1 : ∀ o i, rAll o i ∨ 102 ≤ o → ¬ wr R F o i) (d2 : ∀ Y Y1, ISlp Y → E Y Y1 → ∀ o i, rAll o i → wr R' F' o i → Y1.1 o i = Y.1 o i) (d3 : ∀ o i, rLong o i → ¬ wr R' F' o i) : OWW Inv f g := by
  intro X hX
  obtain ⟨r, X1, e1, h1⟩ := hq X hX
  have fr1 : fr R F X X1 := ff X _ e1
  have l1 : X1.2 = X.2 := fl X _ e1
  obtain ⟨Y1, e2, h2⟩ := h1 X1 ⟨l1, fun o i ho => (fr1 o i (d1 o i (Or.inr ho))).1⟩
  have fr2 : fr R' F' X1 Y1 := gg X1 _ e2
  have a1 : agI rAll X X1 := fun o i h => (fr1 o i (d1 o i (Or.inl h))).1
  have s1 : ISlp X1 := kSlp (fun o i z => a1 o i (Or.inr (Or.inr (Or.inr (Or.inr (Or.inr (Or.inr (Or.inr (Or.inl z))))))))) hX.2.2.2.2.2.2.2.2.2.1
  refine ⟨r, X1, Y1, e1, e2, kInv (fun o i h => ?_) (fun o i h => ?_) hX⟩
  · refine Eq.trans ?_ (a1 o i h)
    by_cases c : wr R' F' o i
    · exact d2 _ _ s1 h2 o i h c
    · exact (fr2 o i c).1
  · rw [(fr2 o i (d3 o i h)).2, l1]
theorem liftR {α : Type} {f g : St → Option α} (h : ∀ X, Inv X → ∃ v, f X = some v ∧ g X = some v) : ORR Inv f g := h
