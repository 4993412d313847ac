/-! a text at work -/
def jnd (y a b : Int32) : Int32 := (mo_both y a b).getD 0
theorem both_s {y a b : Int32} : mo_both y a b = some (jnd y a b) := by
  have h : ∃ r, mo_both y a b = some r := by
    unfold mo_both
    repeat' split
    all_goals first | exact ⟨_, rfl⟩ | contradiction
  obtain ⟨r, h⟩ := h
  unfold jnd
  rw [h]
  rfl
/-- a code of the model's in the class's words -/
def phi (y : Int32) : Int32 := if 18 ≤ y.toInt then y - 18 else if y = 6 then -124 else if y = 7 then -38 else if y = 8 then -60 else if y = 9 then -61 else if y = 10 then -62 else if y = 11 then -43 else if y = 12 then -45 else if y = 13 then -42 else if y = 14 then -47 else if y = 15 then -37 else if y = 16 then -33 else if y = 17 then -126 else -1 - y
abbrev Stk : Type := Nat × (Nat → Int32)
def rs (nm : Nat → Int32) (y : Int32) (s : Stk) : Option Stk :=
  if 18 ≤ y.toInt then some (s.1 + 1, updl s.2 s.1 (y - 18)) else if y.toInt < 6 then some (s.1 + 1, updl s.2 s.1 (nm (nx y))) else if y = 16 then (if s.1 = 0 then none else some (s.1, updl s.2 (s.1 - 1) (if s.2 (s.1 - 1) = 0 then 1 else 0))) else if y = 17 then (if s.1 = 0 then none else some (s.1, updl s.2 (s.1 - 1) (-(s.2 (s.1 - 1))))) else (if s.1 < 2 then none else some (s.1 - 1, updl s.2 (s.1 - 2) (jnd y (s.2 (s.1 - 2)) (s.2 (s.1 - 1)))))
def run (nm : Nat → Int32) : List Int32 → Stk → Option Stk
  | [], s => some s
  | y :: l, s => (rs nm y s).bind (run nm l)
abbrev tok (y : Int32) : Prop := 0 ≤ y.toInt
theorem run_app {nm : Nat → Int32} : ∀ (l l' : List Int32) (s : Stk), run nm (l ++ l') s = (run nm l s).bind (run nm l') := by
  intro l
  induction l with
  | nil => intro l' s; rfl
  | cons y l ih =>
    intro l' s
    show (rs nm y s).bind (run nm (l ++ l')) = ((rs nm y s).bind (run nm l)).bind (run nm l')
    cases rs nm y s with
    | none => rfl
    | some t => exact ih l' t
/-- l lays v on top -/
def pus (nm : Nat → Int32) (l : List Int32) (v : Int32) : Prop := ∀ (h : Nat) (f : Nat → Int32), ∃ f', run nm l (h, f) = some (h + 1, f') ∧ f' h = v ∧ ∀ i, i < h → f' i = f i
def WF (l : List Int32) : Prop := (∀ y ∈ l, tok y) ∧ ∀ nm, ∃ v, pus nm l v
theorem updl_eq {f : Nat → Int32} {k : Nat} {v : Int32} : updl f k v k = v := if_pos rfl
theorem updl_ne {f : Nat → Int32} {k i : Nat} {v : Int32} (h : i ≠ k) : updl f k v i = f i := if_neg h
theorem wf_num {y : Int32} (h : 18 ≤ y.toInt) : WF [y] := by
  refine ⟨fun z hz => by rw [List.mem_singleton.mp hz]; show 0 ≤ y.toInt; omega, fun nm => ⟨y - 18, fun h' f => ⟨updl f h' (y - 18), ?_, updl_eq, fun i hi => updl_ne (by omega)⟩⟩⟩
  show (rs nm y (h', f)).bind (run nm []) = _
  unfold rs
  rw [if_pos h]
  rfl
theorem wf_nam {y : Int32} (h0 : 0 ≤ y.toInt) (h : y.toInt < 6) : WF [y] := by
  refine ⟨fun z hz => by rw [List.mem_singleton.mp hz]; exact h0, fun nm => ⟨nm (nx y), fun h' f => ⟨updl f h' (nm (nx y)), ?_, updl_eq, fun i hi => updl_ne (by omega)⟩⟩⟩
  show (rs nm y (h', f)).bind (run nm []) = _
  unfold rs
  rw [if_neg (by omega), if_pos h]
  rfl
theorem wf_not {l : List Int32} (h : WF l) : WF (l ++ [16]) := by
  refine ⟨fun z hz => ?_, fun nm => ?_⟩
  · rcases List.mem_append.mp hz with e | e
    · exact h.1 z e
    · rw [List.mem_singleton.mp e]; decide
  · obtain ⟨v, hv⟩ := h.2 nm
    refine ⟨if v = 0 then 1 else 0, fun h' f => ?_⟩
    obtain ⟨f', r1, r2, r3⟩ := hv h' f
    refine ⟨updl f' h' (if v = 0 then 1 else 0), ?_, updl_eq, fun i hi => by rw [updl_ne (by omega)]; exact r3 i hi⟩
    rw [run_app, r1]
    show (rs nm 16 (h' + 1, f')).bind (run nm []) = _
    unfold rs
    rw [if_neg (by decide), if_neg (by decide), if_pos rfl, if_neg (by omega)]
    show some (h' + 1, updl f' (h' + 1 - 1) (if f' (h' + 1 - 1) = 0 then 1 else 0)) = _
    rw [Nat.add_sub_cancel, r2]
theorem wf_neg {l : List Int32} (h : WF l) : WF (l ++ [17]) := by
  refine ⟨fun z hz => ?_, fun nm => ?_⟩
  · rcases List.mem_append.mp hz with e | e
    · exact h.1 z e
    · rw [List.mem_singleton.mp e]; decide
  · obtain ⟨v, hv⟩ := h.2 nm
    refine ⟨-v, fun h' f => ?_⟩
    obtain ⟨f', r1, r2, r3⟩ := hv h' f
    refine ⟨updl f' h' (-v), ?_, updl_eq, fun i hi => by rw [updl_ne (by omega)]; exact r3 i hi⟩
    rw [run_app, r1]
    show (rs nm 17 (h' + 1, f')).bind (run nm []) = _
    unfold rs
    rw [if_neg (by decide), if_neg (by decide), if_neg (by decide), if_pos rfl, if_neg (by omega)]
    show some (h' + 1, updl f' (h' + 1 - 1) (-(f' (h' + 1 - 1)))) = _
    rw [Nat.add_sub_cancel, r2]
theorem wf_two {l l' : List Int32} {y : Int32} (h : WF l) (h' : WF l') (hy : 6 ≤ y.toInt ∧ y.toInt ≤ 15) : WF (l ++ (l' ++ [y])) := by
  refine ⟨fun z hz => ?_, fun nm => ?_⟩
  · rcases List.mem_append.mp hz with e | e
    · exact h.1 z e
    · rcases List.mem_append.mp e with e | e
      · exact h'.1 z e
      · rw [List.mem_singleton.mp e]; show 0 ≤ y.toInt; omega
  · obtain ⟨a, ha⟩ := h.2 nm
    obtain ⟨b, hb⟩ := h'.2 nm
    refine ⟨jnd y a b, fun k f => ?_⟩
    obtain ⟨f1, r1, r2, r3⟩ := ha k f
    obtain ⟨f2, s1, s2, s3⟩ := hb (k + 1) f1
    refine ⟨updl f2 k (jnd y a b), ?_, updl_eq, fun i hi => by rw [updl_ne (by omega), s3 i (by omega)]; exact r3 i hi⟩
    rw [run_app, r1]
    show run nm (l' ++ [y]) (k + 1, f1) = _
    rw [run_app, s1]
    show (rs nm y (k + 1 + 1, f2)).bind (run nm []) = _
    have e16 : ¬ y = 16 := fun e => by rw [e, show (16 : Int32).toInt = 16 by decide] at hy; omega
    have e17 : ¬ y = 17 := fun e => by rw [e, show (17 : Int32).toInt = 17 by decide] at hy; omega
    unfold rs
    rw [if_neg (by omega), if_neg (by omega), if_neg e16, if_neg e17, if_neg (by show ¬ k + 1 + 1 < 2; omega)]
    show some (k + 1 + 1 - 1, updl f2 (k + 1 + 1 - 2) (jnd y (f2 (k + 1 + 1 - 2)) (f2 (k + 1 + 1 - 1)))) = _
    rw [show k + 1 + 1 - 1 = k + 1 by omega, show k + 1 + 1 - 2 = k by omega, s2, s3 k (by omega), r2]
theorem inb200 {x : Int32} {k : Nat} (h : x.toInt = k) (hk : k < 200) : inB x 200 = true := by
  rw [inB_iff]
  omega
/-- one code of the model's -/
theorem mw1 {n w : Nat} {nm : Nat → Int32} {e v3 v4 y : Int32} {h k : Nat} {X : St} {s' : Stk} (hv3 : v3.toInt = h) (hv4 : v4.toInt = k) (hk : k < 200) (hh : h < 128) (he : v4 < e) (hy : X.1 116 k = y) (ty : tok y) (hn : ∀ i, i < 6 → X.1 122 i = nm i) (hr : rs nm y (h, fun i => X.1 121 i) = some s') : ∃ X' v3', mo_worked_L5 n (w + 1) e v3 v4 X = mo_worked_L5 n w e v3' (v4 + 1) X' ∧ v3'.toInt = (s'.1 : Nat) ∧ X'.2 = X.2 ∧ (∀ i, X'.1 121 i = s'.2 i) ∧ (∀ o i, o ≠ 121 → X'.1 o i = X.1 o i) ∧ s'.1 ≤ h + 1 := by
  show ∃ X' v3', mo_worked_L5_B n (mo_worked_L5 n w) e v3 v4 X = _ ∧ _
  have e18 : (18 : Int32).toInt = 18 := by decide
  have e5 : (5 : Int32).toInt = 5 := by decide
  have i4 : inB v4 200 = true := inb200 hv4 hk
  have i3 : inB v3 200 = true := inb200 hv3 (Nat.lt_trans hh (by decide))
  have hyn := nx_ti (x := y) ty
  unfold mo_worked_L5_B
  rw [if_pos he, if_pos i4, nxk hv4, hy]
  unfold rs at hr
  by_cases c1 : 18 ≤ y.toInt
  · rw [if_pos c1] at hr
    injection hr with hr
    rw [if_neg (by rw [ltk, e18]; omega)]
    unfold mo_worked_J33
    rw [if_neg (by rw [ltk, e18]; omega), if_pos i3, nxk hv3]
    refine ⟨_, _, rfl, ?_, rfl, fun i => ?_, fun o i ho => by rw [stI_at, if_neg (by omega)], ?_⟩
    · rw [← hr]; exact inc hv3 (by omega)
    · rw [← hr, stI_at]
      show _ = if i = h then y - 18 else X.1 121 i
      by_cases c : i = h
      · rw [if_pos ⟨rfl, c⟩, if_pos c]
      · rw [if_neg (fun z => c z.2), if_neg c]
    · rw [← hr]; exact Nat.le_refl _
  · rw [if_neg c1] at hr
    rw [if_pos (by rw [ltk, e18]; omega)]
    by_cases c2 : y.toInt < 6
    · rw [if_pos c2] at hr
      injection hr with hr
      rw [if_neg (by rw [ltk, e5]; omega)]
      unfold mo_worked_J33
      rw [if_pos (by rw [ltk, e18]; omega), if_pos (by rw [inB_iff]; omega), if_pos i3, nxk hv3, hn _ (by omega)]
      refine ⟨_, _, rfl, ?_, rfl, fun i => ?_, fun o i ho => by rw [stI_at, if_neg (by omega)], ?_⟩
      · rw [← hr]; exact inc hv3 (by omega)
      · rw [← hr, stI_at]
        show _ = if i = h then nm (nx y) else X.1 121 i
        by_cases c : i = h
        · rw [if_pos ⟨rfl, c⟩, if_pos c]
        · rw [if_neg (fun z => c z.2), if_neg c]
      · rw [← hr]; exact Nat.le_refl _
    · rw [if_neg c2] at hr
      rw [if_pos (by rw [ltk, e5]; omega)]
      have em1 : ∀ g : Nat, h = g + 1 → (v3 - 1).toInt = g := fun g hg => by rw [ti_sub] <;> rw [ti1] <;> omega
      by_cases c3 : y = 16
      · rw [if_pos c3] at hr
        by_cases c0 : h = 0
        · rw [if_pos c0] at hr; cases hr
        · rw [if_neg c0] at hr
          injection hr with hr
          have g1 := em1 (h - 1) (by omega)
          have ig : inB (v3 - 1) 200 = true := inb200 g1 (by omega)
          rw [if_pos c3]
          unfold mo_worked_J81
          rw [if_neg (by rw [c3]; decide), if_pos ig, nxk g1, if_pos ig, if_pos ig]
          have key : ∀ x : Int32, x = (if X.1 121 (h - 1) = 0 then 1 else 0) → (∃ X' v3', mo_worked_L5 n w e v3 (v4 + 1) (stI X 121 (h - 1) x) = mo_worked_L5 n w e v3' (v4 + 1) X' ∧ v3'.toInt = (s'.1 : Nat) ∧ X'.2 = X.2 ∧ (∀ i, X'.1 121 i = s'.2 i) ∧ (∀ o i, o ≠ 121 → X'.1 o i = X.1 o i) ∧ s'.1 ≤ h + 1) := by
            intro x hx
            refine ⟨_, _, rfl, ?_, rfl, fun i => ?_, fun o i ho => by rw [stI_at, if_neg (by omega)], ?_⟩
            · rw [← hr]; exact hv3
            · rw [← hr, stI_at, hx]
              show _ = if i = h - 1 then (if X.1 121 (h - 1) = 0 then 1 else 0) else X.1 121 i
              by_cases c : i = h - 1
              · rw [if_pos ⟨rfl, c⟩, if_pos c]
              · rw [if_neg (fun z => c z.2), if_neg c]
            · rw [← hr]; exact Nat.le_succ _
          by_cases c5 : X.1 121 (h - 1) = 0
          · rw [if_pos c5]
            exact key 1 (by rw [if_pos c5])
          · rw [if_neg c5]
            exact key 0 (by rw [if_neg c5])
      · rw [if_neg c3] at hr
        rw [if_neg c3]
        by_cases c4 : y = 17
        · rw [if_pos c4] at hr
          by_cases c0 : h = 0
          · rw [if_pos c0] at hr; cases hr
          · rw [if_neg c0] at hr
            injection hr with hr
            have g1 := em1 (h - 1) (by omega)
            have ig : inB (v3 - 1) 200 = true := inb200 g1 (by omega)
            rw [if_pos c4]
            unfold mo_worked_J81
            rw [if_pos c4, if_pos ig, if_pos ig, nxk g1, Option.bind_some]
            refine ⟨_, _, rfl, ?_, rfl, fun i => ?_, fun o i ho => by rw [stI_at, if_neg (by omega)], ?_⟩
            · rw [← hr]; exact hv3
            · rw [← hr, stI_at]
              show _ = if i = h - 1 then -(X.1 121 (h - 1)) else X.1 121 i
              by_cases c : i = h - 1
              · rw [if_pos ⟨rfl, c⟩, if_pos c]
              · rw [if_neg (fun z => c z.2), if_neg c]
            · rw [← hr]; exact Nat.le_succ _
        · rw [if_neg c4] at hr
          rw [if_neg c4]
          by_cases c0 : h < 2
          · rw [if_pos c0] at hr; cases hr
          · rw [if_neg c0] at hr
            injection hr with hr
            have g1 : (v3 + -1).toInt = (h - 1 : Nat) := by rw [ti_add] <;> rw [ti_m1] <;> omega
            have g2 : (v3 + -1 - 1).toInt = (h - 2 : Nat) := by rw [ti_sub] <;> rw [ti1] <;> omega
            have ig : inB (v3 + -1) 200 = true := inb200 g1 (by omega)
            have ih : inB (v3 + -1 - 1) 200 = true := inb200 g2 (by omega)
            rw [if_pos ih, if_pos ig, nxk g1, nxk g2, both_s, Option.bind_some, if_pos ih]
            refine ⟨_, _, rfl, ?_, rfl, fun i => ?_, fun o i ho => by rw [stI_at, if_neg (by omega)], ?_⟩
            · rw [← hr]; exact g1
            · rw [← hr, stI_at]
              show _ = if i = h - 2 then jnd y (X.1 121 (h - 2)) (X.1 121 (h - 1)) else X.1 121 i
              by_cases c : i = h - 2
              · rw [if_pos ⟨rfl, c⟩, if_pos c]
              · rw [if_neg (fun z => c z.2), if_neg c]
            · rw [← hr]
              show h - 1 ≤ h + 1
              omega
theorem mwl {n : Nat} {nm : Nat → Int32} {e : Int32} : ∀ (l : List Int32) (w h k : Nat) (v3 v4 : Int32) (X : St) (s' : Stk), v3.toInt = h → v4.toInt = k → e.toInt = ((k + l.length : Nat) : Int) → k + l.length ≤ 200 → h + l.length ≤ 128 → (∀ i, i < l.length → X.1 116 (k + i) = l.getD i 0) → (∀ y ∈ l, tok y) → (∀ i, i < 6 → X.1 122 i = nm i) → run nm l (h, fun i => X.1 121 i) = some s' → ∃ X' v3', mo_worked_L5 n (w + l.length) e v3 v4 X = mo_worked_L5 n w e v3' e X' ∧ v3'.toInt = (s'.1 : Nat) ∧ X'.2 = X.2 ∧ (∀ i, X'.1 121 i = s'.2 i) ∧ (∀ o i, o ≠ 121 → X'.1 o i = X.1 o i) := by
  intro l
  induction l with
  | nil =>
    intro w h k v3 v4 X s' h1 h2 h3 h4 h5 h6 h7 h8 h9
    injection h9 with h9
    have : v4 = e := by rw [ti_eq, h3, h2]; rfl
    refine ⟨X, v3, by rw [this]; rfl, by rw [← h9]; exact h1, rfl, fun i => by rw [← h9], fun _ _ _ => rfl⟩
  | cons y l ih =>
    intro w h k v3 v4 X s' h1 h2 h3 h4 h5 h6 h7 h8 h9
    rw [List.length_cons] at h3 h4 h5 h6
    have h9' : (rs nm y (h, fun i => X.1 121 i)).bind (run nm l) = some s' := h9
    cases hr : rs nm y (h, fun i => X.1 121 i) with
    | none => rw [hr] at h9'; cases h9'
    | some t =>
      rw [hr] at h9'
      obtain ⟨X1, u3, r1, r2, r3, r4, r5, r6⟩ := mw1 (n := n) (w := w + l.length) (e := e) h1 h2 (by omega) (by omega) (by rw [ltk]; omega) (h6 0 (by omega)) (h7 y List.mem_cons_self) h8 hr
      obtain ⟨X2, u4, s1, s2, s3, s4, s5⟩ := ih w t.1 (k + 1) u3 (v4 + 1) X1 s' r2 (inc h2 (by omega)) (by rw [h3]; congr 1; omega) (by omega) (by omega) (fun i hi => by
        rw [r5 _ _ (by omega), show k + 1 + i = k + (i + 1) by omega, h6 (i + 1) (by omega)]
        rfl) (fun z hz => h7 z (List.mem_cons_of_mem _ hz)) (fun i hi => by rw [r5 _ _ (by omega)]; exact h8 i hi) (by
          rw [← h9']
          show run nm l (t.1, fun i => X1.1 121 i) = run nm l t
          have : (fun i => X1.1 121 i) = t.2 := funext r4
          rw [this])
      refine ⟨X2, u4, ?_, s2, s3.trans r3, s4, fun o i ho => (s5 o i ho).trans (r5 o i ho)⟩
      rw [← s1, ← r1]
      rfl
/-- the model works out a part of the text -/
theorem work_s {n : Nat} (hn : 4096 ≤ n) {nm : Nat → Int32} {l : List Int32} {v : Int32} {a e : Int32} {k : Nat} {X : St} (ha : a.toInt = k) (he : e.toInt = ((k + l.length : Nat) : Int)) (hk : k + l.length ≤ 128) (hc : ∀ i, i < l.length → X.1 116 (k + i) = l.getD i 0) (ht : ∀ y ∈ l, tok y) (hm : ∀ i, i < 6 → X.1 122 i = nm i) (hp : pus nm l v) : ∃ X', mo_worked n a e X = some (v, X') ∧ X'.2 = X.2 ∧ ∀ o i, o ≠ 121 → X'.1 o i = X.1 o i := by
  obtain ⟨f', r1, r2, r3⟩ := hp 0 (fun i => X.1 121 i)
  obtain ⟨W, hW⟩ : ∃ W, n = W + 1 + l.length := ⟨n - 1 - l.length, by omega⟩
  obtain ⟨X', u, s1, s2, s3, s4, s5⟩ := mwl (n := n) (e := e) l (W + 1) 0 k 0 a X (0 + 1, f') ti0 ha he (by omega) (by omega) hc ht hm r1
  refine ⟨X', ?_, s3, s5⟩
  unfold mo_worked
  have : mo_worked_L5 n n e 0 a X = mo_worked_L5 n (W + 1 + l.length) e 0 a X := by rw [← hW]
  rw [this, s1]
  show mo_worked_L5_B n (mo_worked_L5 n W) e u e X' = _
  unfold mo_worked_L5_B
  rw [if_neg (by rw [ltk]; omega), show nx (0 : Int32) = 0 by decide, s4 0]
  show some (f' 0, X') = _
  rw [r2]
