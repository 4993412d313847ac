/-! the objects: kind, length, first row; where the fields that refer lead -/
def otab : List (Nat × Nat × Nat) := [(16, 11, 0), (10, 2, 0), (3, 9, 3), (0, 8, 0), (0, 8, 0), (0, 8, 0), (0, 8, 0), (0, 8, 0), (0, 8, 0), (0, 8, 0), (0, 8, 0), (0, 8, 0), (5, 7, 0), (0, 40, 0), (0, 40, 0), (0, 40, 0), (0, 40, 0), (13, 5, 0), (0, 120, 0), (0, 128, 0), (9, 5, 0), (0, 128, 0), (0, 128, 0), (0, 6, 0), (11, 2, 0), (0, 60, 0), (14, 14, 0), (0, 8, 0), (0, 8, 0), (0, 8, 0), (3, 8, 31), (0, 8, 0), (0, 8, 0), (0, 8, 0), (0, 8, 0), (0, 8, 0), (0, 8, 0), (0, 8, 0), (0, 8, 0), (3, 8, 40), (0, 8, 0), (0, 8, 0), (0, 8, 0), (0, 8, 0), (0, 8, 0), (0, 8, 0), (0, 8, 0), (0, 8, 0), (3, 8, 49), (0, 8, 0), (0, 8, 0), (0, 8, 0), (0, 8, 0), (0, 8, 0), (0, 8, 0), (0, 8, 0), (0, 8, 0), (7, 8, 0), (3, 17, 59), (0, 170, 0), (0, 170, 0), (0, 170, 0), (0, 170, 0), (0, 170, 0), (0, 170, 0), (0, 170, 0), (0, 170, 0), (0, 170, 0), (0, 170, 0), (0, 170, 0), (0, 170, 0), (0, 170, 0), (0, 170, 0), (0, 170, 0), (0, 170, 0), (0, 170, 0), (0, 16, 0), (2, 17, 0), (8, 3, 0), (0, 6, 0), (0, 6, 0), (6, 7, 0), (0, 8, 0), (0, 8, 0), (0, 5, 0), (0, 8, 0), (0, 8, 0), (0, 5, 0), (15, 6, 0), (0, 50, 0), (0, 24, 0), (12, 4, 0), (0, 6, 0), (0, 6, 0), (0, 6, 0), (4, 6, 96), (1, 60, 0), (1, 60, 0), (1, 60, 0), (1, 60, 0), (1, 60, 0), (1, 60, 0), (17, 56, 0), (0, 8, 0), (0, 8, 0), (0, 8, 0), (0, 8, 0), (0, 8, 0), (0, 8, 0), (0, 3, 0), (0, 8, 0), (0, 8, 0), (0, 120, 0), (0, 60, 0), (0, 60, 0), (0, 60, 0), (0, 200, 0), (0, 61, 0), (0, 61, 0), (0, 61, 0), (0, 200, 0), (0, 200, 0), (0, 6, 0), (0, 5, 0), (0, 8, 0), (0, 8, 0), (0, 5, 0), (0, 160, 0), (0, 50, 0), (0, 24, 0), (0, 6, 0), (0, 6, 0), (1, 360, 0), (0, 60, 0), (0, 488, 0), (0, 80, 0), (0, 10, 0), (0, 6, 0), (0, 6, 0)]
def oref : List (List (Option Nat)) := [[some 1, some 12, some 17, some 20, some 24, some 26, some 57, some 78, some 81, some 88, some 91], [some 2, none], [], [], [], [], [], [], [], [], [], [], [some 1, some 13, some 14, some 15, some 16, none, none], [], [], [], [], [some 18, some 19, none, none, none], [], [], [some 21, some 22, some 23, none, none], [], [], [], [some 25, none], [], [some 1, some 20, some 24, some 27, some 28, some 29, some 30, some 39, some 48, none, none, none, none, none], [], [], [], [], [], [], [], [], [], [], [], [], [], [], [], [], [], [], [], [], [], [], [], [], [], [], [], [], [], [], [some 58, some 76, some 77, none, none, none, none, none], [], [], [], [], [], [], [], [], [], [], [], [], [], [], [], [], [], [], [], [], [some 1, some 79, some 80], [], [], [some 82, some 83, some 84, some 85, some 86, some 87, none], [], [], [], [], [], [], [some 89, some 90, none, none, none, none], [], [], [some 92, some 93, some 94, some 95], [], [], [], [], [], [], [], [], [], [], [none, some 103, some 104, some 105, some 106, some 107, some 108, some 109, some 110, some 111, none, some 112, none, none, some 113, some 114, some 115, some 116, none, none, none, none, some 117, some 118, some 119, some 120, some 121, some 122, some 123, none, none, some 124, some 125, some 126, none, none, some 127, none, some 128, none, some 129, some 130, some 131, some 132, none, some 133, some 134, some 135, none, none, none, none, none, some 136, some 137, some 138], [], [], [], [], [], [], [], [], [], [], [], [], [], [], [], [], [], [], [], [], [], [], [], [], [], [], [], [], [], [], [], [], [], [], [], []]
def NO : Nat := 139
def clT : List vw_C := [(RX0, TX0, 7), (RX1, TX1, 7), (RX2, TX2, 8), (RX3, TX3, 3), (RX4, TX4, 5), (RX5, TX5, 2), (RX6, TX6, 2), (RX7, TX7, 4), (RX8, TX8, 5), (RX9, TX9, 14), (RX10, TX10, 6), (RX11, TX11, 11), (RX12, TX12, 56)]
/-! the pure picture of the objects, and one-instruction rules over it -/
/-- what the objects hold: ints (fields and int or boolean arrays) and longs, by object number and place -/
abbrev St : Type := (Nat → Nat → Int32) × (Nat → Nat → Int64)
abbrev nx (j : Int32) : Nat := j.toNatClampNeg
def stI (X : St) (o i : Nat) (v : Int32) : St := (fun o' i' => if o' = o ∧ i' = i then v else X.1 o' i', X.2)
def stL (X : St) (o i : Nat) (v : Int64) : St := (X.1, fun o' i' => if o' = o ∧ i' = i then v else X.2 o' i')
def cpI (X : St) (o sp p dp n : Nat) : St := (fun o' i' => if o' = p then (if dp ≤ i' ∧ i' < dp + n then X.1 o (sp + (i' - dp)) else X.1 p i') else X.1 o' i', X.2)
def cpL (X : St) (o sp p dp n : Nat) : St := (X.1, fun o' i' => if o' = p then (if dp ≤ i' ∧ i' < dp + n then X.2 o (sp + (i' - dp)) else X.2 p i') else X.2 o' i')
def inB (j : Int32) (n : Nat) : Bool := !(decide (j < 0) || decide (n ≤ j.toNatClampNeg))
theorem inB_vp {j : Int32} {n : Nat} (h : inB j n = true) : vp_in j n := by
  simpa [inB, vp_in] using h
def knd (o : Nat) : Nat := (otab.getD o (99, 0, 0)).1
def oln (o : Nat) : Nat := (otab.getD o (99, 0, 0)).2.1
def obs (o : Nat) : Nat := (otab.getD o (99, 0, 0)).2.2
def ofr (o i : Nat) : Option Nat := (oref.getD o []).getD i none
def okI (o : Nat) (j : Int32) : Bool := decide (o < NO) && (knd o == 0) && inB j (oln o)
def okJ (o : Nat) (j : Int32) : Bool := decide (o < NO) && (knd o == 1) && inB j (oln o)
/-- the launch, the classes' numbers and slots, the cells' addresses, the array classes' numbers, the addresses of what is there from the start -/
abbrev Th : Type := Launch × va_G × (Nat → Nat) × (Nat → ClassId) × (Nat → Nat)
abbrev Th.l (q : Th) : Launch := q.1
abbrev Th.D (q : Th) : va_G := q.2.1
abbrev Th.ad (q : Th) : Nat → Nat := q.2.2.1
abbrev Th.ids (q : Th) : Nat → ClassId := q.2.2.2.1
abbrev Th.sa (q : Th) : Nat → Nat := q.2.2.2.2
def tysT (q : Th) : List (ClassId × FieldType) := [(q.ids 0, .int), (q.ids 1, .long), (q.ids 2, .boolean), (q.ids 3, .array .int), (q.ids 4, .array .long)]
def fval (q : Th) (X : St) (o i : Nat) : Value := match ofr o i with
  | none => .int (X.1 o i)
  | some r => .ref (q.ad r)
def flds (q : Th) (X : St) (o : Nat) : List Value := (List.range (oln o)).map (fval q X o)
def cellE (q : Th) (X : St) (o : Nat) : va_E := match knd o with
  | 0 => .inl (q.ids 0, oln o, .inl (X.1 o))
  | 1 => .inl (q.ids 1, oln o, .inr (.inl (X.2 o)))
  | 2 => .inl (q.ids 2, oln o, .inl (X.1 o))
  | 3 => .inl (q.ids 3, oln o, .inr (.inr (.inr (.inr (fun i => if i < oln o then some (q.ad (obs o + i)) else none)))))
  | 4 => .inl (q.ids 4, oln o, .inr (.inr (.inr (.inr (fun i => if i < oln o then some (q.ad (obs o + i)) else none)))))
  | k + 5 => .inr (k, flds q X o)
def gw (q : Th) (X : St) : va_W := (List.range NO).map (fun o => (q.ad o, cellE q X o))
theorem gw_get (q : Th) (X : St) {o : Nat} (h : o < NO) : (gw q X)[o]? = some (q.ad o, cellE q X o) := by
  unfold gw
  rw [List.getElem?_map, List.getElem?_range h]
  rfl
theorem rmap_set {α : Type} {n k : Nat} {f g : Nat → α} {v : α} (hk : g k = v) (ho : ∀ j, j ≠ k → g j = f j) : ((List.range n).map f).set k v = (List.range n).map g := by
  apply List.ext_getElem?
  intro j
  by_cases hj : j = k
  · subst hj
    by_cases hl : j < n
    · rw [List.getElem?_set_self (by simpa using hl), List.getElem?_map, List.getElem?_range hl, ← hk]
      rfl
    · rw [List.getElem?_eq_none (by simp; omega), List.getElem?_eq_none (by simp; omega)]
  · rw [List.getElem?_set_ne (fun e => hj e.symm), List.getElem?_map, List.getElem?_map]
    cases he : (List.range n)[j]? with
    | none => rfl
    | some x =>
      have hl := (List.getElem?_eq_some_iff.mp he).1
      rw [List.getElem?_range (by simpa using hl)] at he
      cases he
      exact congrArg some (ho j hj).symm
theorem gw_set (q : Th) {X X' : St} {o : Nat} {e : va_E} (he : cellE q X' o = e) (ho : ∀ o', o' ≠ o → cellE q X' o' = cellE q X o') : (gw q X).set o (q.ad o, e) = gw q X' := by
  unfold gw
  exact rmap_set (by rw [he]) (fun j hj => by rw [ho j hj])
theorem stI_ne {X : St} {o i : Nat} {v : Int32} {o' : Nat} (h : o' ≠ o) : (stI X o i v).1 o' = X.1 o' := by
  funext i'
  simp [stI, h]
theorem stI_2 {X : St} {o i : Nat} {v : Int32} : (stI X o i v).2 = X.2 := rfl
theorem stL_1 {X : St} {o i : Nat} {v : Int64} : (stL X o i v).1 = X.1 := rfl
theorem stL_ne {X : St} {o i : Nat} {v : Int64} {o' : Nat} (h : o' ≠ o) : (stL X o i v).2 o' = X.2 o' := by
  funext i'
  simp [stL, h]
theorem stI_upd {X : St} {o i : Nat} {v : Int32} : (stI X o i v).1 o = upd (X.1 o) i v := by
  funext i'
  simp [stI, upd]
theorem stL_upd {X : St} {o i : Nat} {v : Int64} : (stL X o i v).2 o = vp_updL (X.2 o) i v := by
  funext i'
  simp [stL, vp_updL]
theorem cellE_ne {q : Th} {X X' : St} {o : Nat} (h1 : X'.1 o = X.1 o) (h2 : X'.2 o = X.2 o) : cellE q X' o = cellE q X o := by
  have h3 : flds q X' o = flds q X o := by
    unfold flds
    exact List.map_congr_left (fun i _ => by unfold fval; rw [h1])
  unfold cellE
  rw [h1, h2, h3]
/-- the addresses are apart -/
def Ap (q : Th) : Prop := ∀ i j, i < NO → j < NO → q.ad i = q.ad j → i = j
/-- what may be written: the objects' cells -/
def Fr (q : Th) : Nat → Prop := fun a => ∃ o, o < NO ∧ a = q.ad o
theorem gw_D {q : Th} (h : Ap q) (X : St) : va_D (Fr q) (gw q X) := by
  have key : ∀ (k : Nat) (x : Nat × va_E), (gw q X)[k]? = some x → k < NO ∧ x.1 = q.ad k := by
    intro k x hx
    have hl : k < NO := by simpa [gw] using (List.getElem?_eq_some_iff.mp hx).1
    rw [gw_get q X hl] at hx
    cases hx
    exact ⟨hl, rfl⟩
  refine ⟨fun i j x y hx hy hxy => ?_, fun k x hx => ?_⟩
  · obtain ⟨h1, h2⟩ := key i x hx
    obtain ⟨h3, h4⟩ := key j y hy
    exact h i j h1 h3 (by rw [← h2, ← h4]; exact hxy)
  · obtain ⟨h1, h2⟩ := key k x hx
    exact ⟨k, h1, h2⟩
def LEASTf (j : Nat) : Int32 := ([0, 0, 1, 1, -9, 0, 0, 1, 1] : List Int32).getD j 0
def MOSTf (j : Nat) : Int32 := ([15, 15, 9, 60, 9, 99, 7, 999, 9] : List Int32).getD j 0
def UPf (j : Nat) : Int32 := ([1, 3, 5, 13, 19, 45, 65, 147] : List Int32).getD j 0
def NAMEf (j : Nat) : Int32 := ([111, 101, 100, 116, 107, 115] : List Int32).getD j 0
/-- what is there from the start and nobody writes -/
def Sf (q : Th) (U : State) : Prop :=
  (va_Z "EightLegs$Pool" "LEAST" "[I" (.ref (q.sa 0)) (Fr q) U U.heap ∧ va_T .int (q.sa 0) 9 (fun j => .int (LEASTf j)) (Fr q) U U.heap) ∧
  (va_Z "EightLegs$Pool" "MOST" "[I" (.ref (q.sa 1)) (Fr q) U U.heap ∧ va_T .int (q.sa 1) 9 (fun j => .int (MOSTf j)) (Fr q) U U.heap) ∧
  (va_Z "EightLegs$Ways" "UP" "[I" (.ref (q.sa 2)) (Fr q) U U.heap ∧ va_T .int (q.sa 2) 8 (fun j => .int (UPf j)) (Fr q) U U.heap) ∧
  (vk_R "EightLegs$Tape" 60 "oedtks" (q.sa 3) U ∧ va_O "java/lang/String" (q.sa 3) (Fr q) U U.heap ∧ va_OF "java/lang/String" "value" "[B" (.ref (q.sa 4)) (q.sa 3) (Fr q) U U.heap ∧ va_OF "java/lang/String" "code\x72" "B" (.int 0) (q.sa 3) (Fr q) U U.heap ∧ va_T .byte (q.sa 4) 6 (fun j => .int (NAMEf j)) (Fr q) U U.heap ∧ va_Z "java/lang/String" "COMPACT_STRINGS" "Z" (.int 1) (Fr q) U U.heap)
theorem Sf.same {q : Th} {u U : State} (hv : U.vm = u.vm) (hh : U.heap = u.heap) (h : Sf q u) : Sf q U := by
  have ha : u.vm.Alike U.vm := by rw [hv]; exact Vm.Alike.refl _
  obtain ⟨⟨a1, a2⟩, ⟨b1, b2⟩, ⟨c1, c2⟩, d1, d2, d3, d4, d5, d6⟩ := h
  unfold Sf
  rw [hh]
  exact ⟨⟨a1.moved ha, a2.moved ha⟩, ⟨b1.moved ha, b2.moved ha⟩, ⟨c1.moved ha, c2.moved ha⟩, vk_R.same hv d1, d2.moved ha, d3.moved ha, d4.moved ha, d5.moved ha, d6.moved ha⟩
theorem Sf.warm {q : Th} {s U : State} {H : Heap} {locs : List Loc} (hS : va_S (Fr q) s.heap H locs) (hU : U.heap = H) (hW : s.WarmedH U.vm) (h : Sf q s) : Sf q U := by
  have ha := hW.alike
  obtain ⟨⟨a1, a2⟩, ⟨b1, b2⟩, ⟨c1, c2⟩, d1, d2, d3, d4, d5, d6⟩ := h
  unfold Sf
  rw [hU]
  exact ⟨⟨(a1.moved ha).kept hS.2.1, (a2.moved ha).kept hS.2.1⟩, ⟨(b1.moved ha).kept hS.2.1, (b2.moved ha).kept hS.2.1⟩, ⟨(c1.moved ha).kept hS.2.1, (c2.moved ha).kept hS.2.1⟩, vk_R.warm hW d1, (d2.moved ha).kept hS.2.1, (d3.moved ha).kept hS.2.1, (d4.moved ha).kept hS.2.1, (d5.moved ha).kept hS.2.1, (d6.moved ha).kept hS.2.1⟩
/-- the tables' words that stay so -/
def tb : List Cond := lw_tbl.filter goodWord
theorem tb_mem {w : Cond} (h : w ∈ lw_tbl) (g : goodWord w = true) : w ∈ tb := List.mem_filter.mpr ⟨h, g⟩
theorem tb_good {w : Cond} (h : w ∈ tb) : (w.onTables && w.keeps) = true ∨ ∃ ty, w = .arrayClass ty := good_of_word (List.mem_filter.mp h).2
/-- a method: its name, bytes, locals, result -/
abbrev MN : Type := MethodName × ByteArray × Nat × Option FieldType
def wl (y : MN) : List Cond := Cond.code y.1 y.2.1 y.2.2.1 y.2.2.2 :: tb
theorem gi {y z : MN} (h : Cond.code z.1 z.2.1 z.2.2.1 z.2.2.2 ∈ tb) : GoodIn (wl y) (wl z) := by
  intro w hw
  rcases List.mem_cons.mp hw with rfl | hw
  · exact ⟨List.mem_cons_of_mem _ h, tb_good h⟩
  · exact ⟨List.mem_cons_of_mem _ hw, tb_good hw⟩
def rm (d : Nat) : Room := { frames := d, cells := 0, slots := 0, locals := 40 * d }
/-- a world's state: the objects as X has them, the classes, what nobody writes -/
def Wd (q : Th) (X : St) (U : State) : Prop := Ap q ∧ va_P q.D clT (gw q X) U.heap ∧ va_K q.D clT (tysT q) U ∧ Sf q U
def Qc (q : Th) (w : Option Value × St) : Array Value → State → Outcome → State → Prop := fun _ st oc t => oc = .returned w.1 ∧ va_P q.D clT (gw q w.2) t.heap ∧ va_F (Fr q) st t
/-- the contract of a method y at depth d: on these values, from X, it comes to what T says (if T says anything) -/
def Ct (q : Th) (y : MN) (d : Nat) {ρ : Type} (φ : ρ → Option Value × St) (av : List Value) (X : St) (T : Option ρ) : Prop :=
  ∀ r, T = some r → Met q.l y.1 (wl y) (rm d) (va_Pc av (Wd q X)) (Qc q (φ r)) 0 0 (Fr q)
/-- a frame that runs: the method, its class, its words, its room, what it is asked for at the end, what else it knows -/
abbrev FrI : Type := ByteArray × Nat × String × List Cond × (Room × Nat × Nat) × ((Option Value × St) → List Frame → Array Value → State → State → Prop) × (State → Method → Array Value → Prop)
def Cx (q : Th) (F : FrI) (p : Program) (s : State) (m : MethodId) (args : Array Value) (meth : Method) (c : Code) : Prop :=
  p.tables.exec = Jvm.exec ∧ c.code = F.1 ∧ c.maxLocals = F.2.1 ∧ s.vm.findClass F.2.2.1 = some m.cls ∧ (∀ w ∈ F.2.2.2.1, w.before args s = true) ∧ (∀ w ∈ tb, w ∈ F.2.2.2.1) ∧ va_K q.D clT (tysT q) s ∧ Sf q s ∧ Ap q ∧ F.2.2.2.2.2.2 s meth args
def G (q : Th) (F : FrI) {ρ : Type} (φ : ρ → Option Value × St) (pc : Nat) (lv : List (Nat × Value)) (st : List Value) (X : St) (T : Option ρ) : Prop :=
  ∀ r, T = some r → ∀ (p : Program) (e : Env) (s : State) (m : MethodId) (args : Array Value) (below : List Frame) (meth : Method) (c : Code), Cx q F p s m args meth c →
    ∀ (H : Heap) (locs : List Loc) (ls : Array Slot), lv_has ls F.2.1 lv → va_P q.D clT (gw q X) H → va_S (Fr q) s.heap H locs →
      W p q.l e F.2.2.2.2.1.1 s m args below meth c H locs F.2.2.2.2.1.2.1 F.2.2.2.2.1.2.2 (F.2.2.2.2.2.1 (φ r) below args s) (F0 m pc ls st)
def mPost (q : Th) : (Option Value × St) → List Frame → Array Value → State → State → Prop := fun w below args s => MQ below (Qc q w) args s 0 0 (Fr q)
def mEx (ret : Option FieldType) : State → Method → Array Value → Prop := fun _ meth _ => meth.sig.returnType = ret ∧ meth.locks = false
abbrev mF (q : Th) (y : MN) (own : String) (d : Nat) : FrI := (y.2.1, y.2.2.1, own, wl y, (rm d, 0, 0), mPost q, mEx y.2.2.2)
theorem g_none {q : Th} {F : FrI} {ρ : Type} {φ : ρ → Option Value × St} {pc : Nat} {lv : List (Nat × Value)} {st : List Value} {X : St} : G q F φ pc lv st X none := fun r h => by cases h
theorem g_eq {q : Th} {F : FrI} {ρ : Type} {φ : ρ → Option Value × St} {pc : Nat} {lv : List (Nat × Value)} {st : List Value} {X : St} {T T' : Option ρ} (h : T = T') (k : G q F φ pc lv st X T') : G q F φ pc lv st X T := h ▸ k
/-- a method's contract out of its body -/
theorem ct_of {q : Th} {y : MN} {d : Nat} {ρ : Type} {φ : ρ → Option Value × St} {av : List Value} {X : St} {T : Option ρ} (hy : plainName y.1.cls = true) (hlen : (lg_sl av).length ≤ y.2.2.1) (k : G q (mF q y y.1.cls d) φ 0 (lv_args 0 av) [] X T) : Ct q y d φ av X T := by
  intro r hr
  refine Met.ofW (cc := y.2.1) (maxL := y.2.2.1) (ret := y.2.2.2) (ws' := tb) hy rfl ?_
  intro p e s m args below meth c s₁ B hml hv
  obtain ⟨rfl, hap, hP, hK, hs⟩ := hv
  rw [lg_entry_eq]
  have hts := atoms_spec (ws := wl y) B.pre
  exact k r hr p e s m _ below meth c ⟨B.exec, B.bytes, hml, findClass_of_methodNamed B.named, hts, fun w hw => List.mem_cons_of_mem _ hw, hK, hs, hap, B.returns, B.notSynchronized⟩ s.heap [] _ (lv_entry av hlen) hP va_S.rf
/-! the rules, an instruction each -/
section RULES
variable {q : Th} {F : FrI} {ρ : Type} {φ : ρ → Option Value × St} {pc pc' : Nat} {lv lv' : List (Nat × Value)} {st : List Value} {X : St} {T T1 T2 : Option ρ}
def irm (x y : Int32) : Int32 := x - x / y * y
def jus (x y : Int32) : Int32 := (x.toUInt32 >>> (y.toUInt32 &&& Int32.toUInt32 31)).toInt32
def jls (x : Int64) (y : Int32) : Int64 := x <<< (y.toInt64 &&& 63)
def jch (x : Int32) : Int32 := (x.toUInt32 % 65536).toInt32
theorem gneg_ne {x y : Int32} (h : ¬ x = y) : ¬ x = y := h
theorem gpos_ne {x y : Int32} (h : x = y) : x = y := h
theorem gneg_ge {x y : Int32} (h : y ≤ x) : ¬ x < y := Int32.not_lt.mpr h
theorem gpos_ge {x y : Int32} (h : ¬ y ≤ x) : x < y := Int32.not_le.mp h
theorem gneg_le {x y : Int32} (h : x ≤ y) : ¬ y < x := Int32.not_lt.mpr h
theorem gpos_le {x y : Int32} (h : ¬ x ≤ y) : y < x := Int32.not_le.mp h
theorem g_iconst {n : Int} {v : Int32} (hd : decode F.1 pc = .ok (.iconst n, 1)) (hp : pc + 1 = pc') (hv : Int32.ofInt n = v) (k : G q F φ pc' lv (.int v :: st) X T) : G q F φ pc lv st X T := by
  subst hp
  exact fun r hr p e s m args below meth c C H locs ls hl hP hS => lv_iconst C.1 C.2.1 hd hv (k r hr p e s m args below meth c C H locs ls hl hP hS)
theorem g_bipush {n : Int} {v : Int32} (hd : decode F.1 pc = .ok (.bipush n, 2)) (hp : pc + 2 = pc') (hv : (Int8.ofInt n).toInt32 = v) (k : G q F φ pc' lv (.int v :: st) X T) : G q F φ pc lv st X T := by
  subst hp
  exact fun r hr p e s m args below meth c C H locs ls hl hP hS => lv_bipush C.1 C.2.1 hd hv (k r hr p e s m args below meth c C H locs ls hl hP hS)
theorem g_sipush {n : Int} {v : Int32} (hd : decode F.1 pc = .ok (.sipush n, 3)) (hp : pc + 3 = pc') (hv : (Int16.ofInt n).toInt32 = v) (k : G q F φ pc' lv (.int v :: st) X T) : G q F φ pc lv st X T := by
  subst hp
  exact fun r hr p e s m args below meth c C H locs ls hl hP hS => lv_sipush C.1 C.2.1 hd hv (k r hr p e s m args below meth c C H locs ls hl hP hS)
theorem g_lconst {n : Fin 2} {v : Int64} (hd : decode F.1 pc = .ok (.lconst n, 1)) (hp : pc + 1 = pc') (hv : Int64.ofNat (n : Nat) = v) (k : G q F φ pc' lv (.long v :: st) X T) : G q F φ pc lv st X T := by
  subst hp
  exact fun r hr p e s m args below meth c C H locs ls hl hP hS => lv_lconst C.1 C.2.1 hd hv (k r hr p e s m args below meth c C H locs ls hl hP hS)
theorem g_iload_n {n : Fin 4} {x : Int32} (i : Nat) (hd : decode F.1 pc = .ok (.iload_n n, 1)) (hp : pc + 1 = pc') (hx : lv[i]? = some ((n : Nat), .int x)) (k : G q F φ pc' lv (.int x :: st) X T) : G q F φ pc lv st X T := by
  subst hp
  exact fun r hr p e s m args below meth c C H locs ls hl hP hS => lv_iload_n C.1 C.2.1 hd rfl (lv_at hl i hx) (k r hr p e s m args below meth c C H locs ls hl hP hS)
theorem g_iload {n : Nat} {x : Int32} (i : Nat) (hd : decode F.1 pc = .ok (.iload n, 2)) (hp : pc + 2 = pc') (hx : lv[i]? = some (n, .int x)) (k : G q F φ pc' lv (.int x :: st) X T) : G q F φ pc lv st X T := by
  subst hp
  exact fun r hr p e s m args below meth c C H locs ls hl hP hS => lv_iload C.1 C.2.1 hd (lv_at hl i hx) (k r hr p e s m args below meth c C H locs ls hl hP hS)
theorem g_lload_n {n : Fin 4} {x : Int64} (i : Nat) (hd : decode F.1 pc = .ok (.lload_n n, 1)) (hp : pc + 1 = pc') (hx : lv[i]? = some ((n : Nat), .long x)) (k : G q F φ pc' lv (.long x :: st) X T) : G q F φ pc lv st X T := by
  subst hp
  exact fun r hr p e s m args below meth c C H locs ls hl hP hS => lv_lload_n C.1 C.2.1 hd rfl (lv_at hl i hx) (k r hr p e s m args below meth c C H locs ls hl hP hS)
theorem g_lload {n : Nat} {x : Int64} (i : Nat) (hd : decode F.1 pc = .ok (.lload n, 2)) (hp : pc + 2 = pc') (hx : lv[i]? = some (n, .long x)) (k : G q F φ pc' lv (.long x :: st) X T) : G q F φ pc lv st X T := by
  subst hp
  exact fun r hr p e s m args below meth c C H locs ls hl hP hS => lv_lload C.1 C.2.1 hd (lv_at hl i hx) (k r hr p e s m args below meth c C H locs ls hl hP hS)
theorem g_aload_n {n : Fin 4} {x : Nat} (i : Nat) (hd : decode F.1 pc = .ok (.aload_n n, 1)) (hp : pc + 1 = pc') (hx : lv[i]? = some ((n : Nat), .ref x)) (k : G q F φ pc' lv (.ref x :: st) X T) : G q F φ pc lv st X T := by
  subst hp
  exact fun r hr p e s m args below meth c C H locs ls hl hP hS => lv_aload_n C.1 C.2.1 hd rfl (lv_at hl i hx) (k r hr p e s m args below meth c C H locs ls hl hP hS)
theorem g_aload {n : Nat} {x : Nat} (i : Nat) (hd : decode F.1 pc = .ok (.aload n, 2)) (hp : pc + 2 = pc') (hx : lv[i]? = some (n, .ref x)) (k : G q F φ pc' lv (.ref x :: st) X T) : G q F φ pc lv st X T := by
  subst hp
  exact fun r hr p e s m args below meth c C H locs ls hl hP hS => lv_aload C.1 C.2.1 hd (lv_at hl i hx) (k r hr p e s m args below meth c C H locs ls hl hP hS)
theorem g_istore_n {n : Fin 4} {i : Nat} {x : Int32} (hd : decode F.1 pc = .ok (.istore_n n, 1)) (hp : pc + 1 = pc') (hi : (n : Nat) = i) (hn : i < F.2.1) (hv : (i, Value.int x) :: lv.filter (fun q => !(q.1 == i) && !(q.1 + 1 == i && q.2.category == 2)) = lv') (k : G q F φ pc' lv' st X T) : G q F φ pc lv (.int x :: st) X T := by
  subst hp
  exact fun r hr p e s m args below meth c C H locs ls hl hP hS => lv_istore_n C.1 C.2.1 hd hi hl hn hv (fun ls hl => k r hr p e s m args below meth c C H locs ls hl hP hS)
theorem g_istore {i : Nat} {x : Int32} (hd : decode F.1 pc = .ok (.istore i, 2)) (hp : pc + 2 = pc') (hn : i < F.2.1) (hv : (i, Value.int x) :: lv.filter (fun q => !(q.1 == i) && !(q.1 + 1 == i && q.2.category == 2)) = lv') (k : G q F φ pc' lv' st X T) : G q F φ pc lv (.int x :: st) X T := by
  subst hp
  exact fun r hr p e s m args below meth c C H locs ls hl hP hS => lv_istore C.1 C.2.1 hd hl hn hv (fun ls hl => k r hr p e s m args below meth c C H locs ls hl hP hS)
theorem g_lstore_n {n : Fin 4} {i : Nat} {x : Int64} (hd : decode F.1 pc = .ok (.lstore_n n, 1)) (hp : pc + 1 = pc') (hi : (n : Nat) = i) (hn : i + 1 < F.2.1) (hv : (i, Value.long x) :: lv.filter (fun q => !(q.1 == i) && (!(q.1 == i + 1) && !(q.1 + 1 == i && q.2.category == 2))) = lv') (k : G q F φ pc' lv' st X T) : G q F φ pc lv (.long x :: st) X T := by
  subst hp
  exact fun r hr p e s m args below meth c C H locs ls hl hP hS => lv_lstore_n C.1 C.2.1 hd hi hl hn hv (fun ls hl => k r hr p e s m args below meth c C H locs ls hl hP hS)
theorem g_lstore {i : Nat} {x : Int64} (hd : decode F.1 pc = .ok (.lstore i, 2)) (hp : pc + 2 = pc') (hn : i + 1 < F.2.1) (hv : (i, Value.long x) :: lv.filter (fun q => !(q.1 == i) && (!(q.1 == i + 1) && !(q.1 + 1 == i && q.2.category == 2))) = lv') (k : G q F φ pc' lv' st X T) : G q F φ pc lv (.long x :: st) X T := by
  subst hp
  exact fun r hr p e s m args below meth c C H locs ls hl hP hS => lv_lstore C.1 C.2.1 hd hl hn hv (fun ls hl => k r hr p e s m args below meth c C H locs ls hl hP hS)
theorem g_astore_n {n : Fin 4} {i : Nat} {x : Nat} (hd : decode F.1 pc = .ok (.astore_n n, 1)) (hp : pc + 1 = pc') (hi : (n : Nat) = i) (hn : i < F.2.1) (hv : (i, Value.ref x) :: lv.filter (fun q => !(q.1 == i) && !(q.1 + 1 == i && q.2.category == 2)) = lv') (k : G q F φ pc' lv' st X T) : G q F φ pc lv (.ref x :: st) X T := by
  subst hp
  exact fun r hr p e s m args below meth c C H locs ls hl hP hS => lv_astore_n C.1 C.2.1 hd hi hl hn hv (fun ls hl => k r hr p e s m args below meth c C H locs ls hl hP hS)
theorem g_astore {i : Nat} {x : Nat} (hd : decode F.1 pc = .ok (.astore i, 2)) (hp : pc + 2 = pc') (hn : i < F.2.1) (hv : (i, Value.ref x) :: lv.filter (fun q => !(q.1 == i) && !(q.1 + 1 == i && q.2.category == 2)) = lv') (k : G q F φ pc' lv' st X T) : G q F φ pc lv (.ref x :: st) X T := by
  subst hp
  exact fun r hr p e s m args below meth c C H locs ls hl hP hS => lv_astore C.1 C.2.1 hd hl hn hv (fun ls hl => k r hr p e s m args below meth c C H locs ls hl hP hS)
theorem g_iinc {i : Nat} {n : Int} {x v : Int32} (j : Nat) (hd : decode F.1 pc = .ok (.iinc i n, 3)) (hp : pc + 3 = pc') (hj : lv[j]? = some (i, .int x)) (hx : x + Int32.ofInt n = v) (hn : i < F.2.1) (hv : (i, Value.int v) :: lv.filter (fun q => !(q.1 == i) && !(q.1 + 1 == i && q.2.category == 2)) = lv') (k : G q F φ pc' lv' st X T) : G q F φ pc lv st X T := by
  subst hp
  exact fun r hr p e s m args below meth c C H locs ls hl hP hS => lv_iinc C.1 C.2.1 hd hl hj hx hn hv (fun ls hl => k r hr p e s m args below meth c C H locs ls hl hP hS)
theorem g_iadd {x y : Int32} (hd : decode F.1 pc = .ok (.iadd, 1)) (hp : pc + 1 = pc') (k : G q F φ pc' lv (.int (x + y) :: st) X T) : G q F φ pc lv (.int y :: .int x :: st) X T := by
  subst hp
  exact fun r hr p e s m args below meth c C H locs ls hl hP hS => lv_iadd C.1 C.2.1 hd (k r hr p e s m args below meth c C H locs ls hl hP hS)
theorem g_isub {x y : Int32} (hd : decode F.1 pc = .ok (.isub, 1)) (hp : pc + 1 = pc') (k : G q F φ pc' lv (.int (x - y) :: st) X T) : G q F φ pc lv (.int y :: .int x :: st) X T := by
  subst hp
  exact fun r hr p e s m args below meth c C H locs ls hl hP hS => lv_isub C.1 C.2.1 hd (k r hr p e s m args below meth c C H locs ls hl hP hS)
theorem g_imul {x y : Int32} (hd : decode F.1 pc = .ok (.imul, 1)) (hp : pc + 1 = pc') (k : G q F φ pc' lv (.int (x * y) :: st) X T) : G q F φ pc lv (.int y :: .int x :: st) X T := by
  subst hp
  exact fun r hr p e s m args below meth c C H locs ls hl hP hS => lv_imul C.1 C.2.1 hd (k r hr p e s m args below meth c C H locs ls hl hP hS)
theorem g_iand {x y : Int32} (hd : decode F.1 pc = .ok (.iand, 1)) (hp : pc + 1 = pc') (k : G q F φ pc' lv (.int (x &&& y) :: st) X T) : G q F φ pc lv (.int y :: .int x :: st) X T := by
  subst hp
  exact fun r hr p e s m args below meth c C H locs ls hl hP hS => lv_iand C.1 C.2.1 hd (k r hr p e s m args below meth c C H locs ls hl hP hS)
theorem g_ior {x y : Int32} (hd : decode F.1 pc = .ok (.ior, 1)) (hp : pc + 1 = pc') (k : G q F φ pc' lv (.int (x ||| y) :: st) X T) : G q F φ pc lv (.int y :: .int x :: st) X T := by
  subst hp
  exact fun r hr p e s m args below meth c C H locs ls hl hP hS => lv_ior C.1 C.2.1 hd (k r hr p e s m args below meth c C H locs ls hl hP hS)
theorem g_ixor {x y : Int32} (hd : decode F.1 pc = .ok (.ixor, 1)) (hp : pc + 1 = pc') (k : G q F φ pc' lv (.int (x ^^^ y) :: st) X T) : G q F φ pc lv (.int y :: .int x :: st) X T := by
  subst hp
  exact fun r hr p e s m args below meth c C H locs ls hl hP hS => lv_ixor C.1 C.2.1 hd (k r hr p e s m args below meth c C H locs ls hl hP hS)
theorem g_ishl {x y : Int32} (hd : decode F.1 pc = .ok (.ishl, 1)) (hp : pc + 1 = pc') (k : G q F φ pc' lv (.int (x <<< (y &&& 31)) :: st) X T) : G q F φ pc lv (.int y :: .int x :: st) X T := by
  subst hp
  exact fun r hr p e s m args below meth c C H locs ls hl hP hS => lv_ishl C.1 C.2.1 hd (k r hr p e s m args below meth c C H locs ls hl hP hS)
theorem g_ishr {x y : Int32} (hd : decode F.1 pc = .ok (.ishr, 1)) (hp : pc + 1 = pc') (k : G q F φ pc' lv (.int (x >>> (y &&& 31)) :: st) X T) : G q F φ pc lv (.int y :: .int x :: st) X T := by
  subst hp
  exact fun r hr p e s m args below meth c C H locs ls hl hP hS => lv_ishr C.1 C.2.1 hd (k r hr p e s m args below meth c C H locs ls hl hP hS)
theorem g_ladd {x y : Int64} (hd : decode F.1 pc = .ok (.ladd, 1)) (hp : pc + 1 = pc') (k : G q F φ pc' lv (.long (x + y) :: st) X T) : G q F φ pc lv (.long y :: .long x :: st) X T := by
  subst hp
  exact fun r hr p e s m args below meth c C H locs ls hl hP hS => lv_ladd C.1 C.2.1 hd (k r hr p e s m args below meth c C H locs ls hl hP hS)
theorem g_lsub {x y : Int64} (hd : decode F.1 pc = .ok (.lsub, 1)) (hp : pc + 1 = pc') (k : G q F φ pc' lv (.long (x - y) :: st) X T) : G q F φ pc lv (.long y :: .long x :: st) X T := by
  subst hp
  exact fun r hr p e s m args below meth c C H locs ls hl hP hS => lv_lsub C.1 C.2.1 hd (k r hr p e s m args below meth c C H locs ls hl hP hS)
theorem g_lmul {x y : Int64} (hd : decode F.1 pc = .ok (.lmul, 1)) (hp : pc + 1 = pc') (k : G q F φ pc' lv (.long (x * y) :: st) X T) : G q F φ pc lv (.long y :: .long x :: st) X T := by
  subst hp
  exact fun r hr p e s m args below meth c C H locs ls hl hP hS => lv_lmul C.1 C.2.1 hd (k r hr p e s m args below meth c C H locs ls hl hP hS)
theorem g_land {x y : Int64} (hd : decode F.1 pc = .ok (.land, 1)) (hp : pc + 1 = pc') (k : G q F φ pc' lv (.long (x &&& y) :: st) X T) : G q F φ pc lv (.long y :: .long x :: st) X T := by
  subst hp
  exact fun r hr p e s m args below meth c C H locs ls hl hP hS => lv_land C.1 C.2.1 hd (k r hr p e s m args below meth c C H locs ls hl hP hS)
theorem g_lor {x y : Int64} (hd : decode F.1 pc = .ok (.lor, 1)) (hp : pc + 1 = pc') (k : G q F φ pc' lv (.long (x ||| y) :: st) X T) : G q F φ pc lv (.long y :: .long x :: st) X T := by
  subst hp
  exact fun r hr p e s m args below meth c C H locs ls hl hP hS => lv_lor C.1 C.2.1 hd (k r hr p e s m args below meth c C H locs ls hl hP hS)
theorem g_lxor {x y : Int64} (hd : decode F.1 pc = .ok (.lxor, 1)) (hp : pc + 1 = pc') (k : G q F φ pc' lv (.long (x ^^^ y) :: st) X T) : G q F φ pc lv (.long y :: .long x :: st) X T := by
  subst hp
  exact fun r hr p e s m args below meth c C H locs ls hl hP hS => lv_lxor C.1 C.2.1 hd (k r hr p e s m args below meth c C H locs ls hl hP hS)
theorem g_ineg {x : Int32} (hd : decode F.1 pc = .ok (.ineg, 1)) (hp : pc + 1 = pc') (k : G q F φ pc' lv (.int (-x) :: st) X T) : G q F φ pc lv (.int x :: st) X T := by
  subst hp
  exact fun r hr p e s m args below meth c C H locs ls hl hP hS => lv_ineg C.1 C.2.1 hd (k r hr p e s m args below meth c C H locs ls hl hP hS)
theorem g_iushr {x y : Int32} (hd : decode F.1 pc = .ok (.iushr, 1)) (hp : pc + 1 = pc') (k : G q F φ pc' lv (.int (jus x y) :: st) X T) : G q F φ pc lv (.int y :: .int x :: st) X T := by
  subst hp
  exact fun r hr p e s m args below meth c C H locs ls hl hP hS => lv_iushr C.1 C.2.1 hd rfl (k r hr p e s m args below meth c C H locs ls hl hP hS)
theorem g_lshl {x : Int64} {y : Int32} (hd : decode F.1 pc = .ok (.lshl, 1)) (hp : pc + 1 = pc') (k : G q F φ pc' lv (.long (jls x y) :: st) X T) : G q F φ pc lv (.int y :: .long x :: st) X T := by
  subst hp
  exact fun r hr p e s m args below meth c C H locs ls hl hP hS => lv_lshl C.1 C.2.1 hd rfl (k r hr p e s m args below meth c C H locs ls hl hP hS)
theorem g_lcmp {x y : Int64} (hd : decode F.1 pc = .ok (.lcmp, 1)) (hp : pc + 1 = pc') (k : G q F φ pc' lv (.int (lg_cmp x y) :: st) X T) : G q F φ pc lv (.long y :: .long x :: st) X T := by
  subst hp
  exact fun r hr p e s m args below meth c C H locs ls hl hP hS => W.lcmp C.1 C.2.1 hd (k r hr p e s m args below meth c C H locs ls hl hP hS)
theorem g_i2l {x : Int32} (hd : decode F.1 pc = .ok (.i2l, 1)) (hp : pc + 1 = pc') (k : G q F φ pc' lv (.long (x.toInt64) :: st) X T) : G q F φ pc lv (.int x :: st) X T := by
  subst hp
  exact fun r hr p e s m args below meth c C H locs ls hl hP hS => lv_i2l C.1 C.2.1 hd rfl (k r hr p e s m args below meth c C H locs ls hl hP hS)
theorem g_l2i {x : Int64} (hd : decode F.1 pc = .ok (.l2i, 1)) (hp : pc + 1 = pc') (k : G q F φ pc' lv (.int (x.toInt32) :: st) X T) : G q F φ pc lv (.long x :: st) X T := by
  subst hp
  exact fun r hr p e s m args below meth c C H locs ls hl hP hS => lv_l2i C.1 C.2.1 hd rfl (k r hr p e s m args below meth c C H locs ls hl hP hS)
theorem g_i2b {x : Int32} (hd : decode F.1 pc = .ok (.i2b, 1)) (hp : pc + 1 = pc') (k : G q F φ pc' lv (.int (x.toInt8.toInt32) :: st) X T) : G q F φ pc lv (.int x :: st) X T := by
  subst hp
  exact fun r hr p e s m args below meth c C H locs ls hl hP hS => lv_i2b C.1 C.2.1 hd rfl (k r hr p e s m args below meth c C H locs ls hl hP hS)
theorem g_i2s {x : Int32} (hd : decode F.1 pc = .ok (.i2s, 1)) (hp : pc + 1 = pc') (k : G q F φ pc' lv (.int (x.toInt16.toInt32) :: st) X T) : G q F φ pc lv (.int x :: st) X T := by
  subst hp
  exact fun r hr p e s m args below meth c C H locs ls hl hP hS => lv_i2s C.1 C.2.1 hd rfl (k r hr p e s m args below meth c C H locs ls hl hP hS)
theorem g_i2c {x : Int32} (hd : decode F.1 pc = .ok (.i2c, 1)) (hp : pc + 1 = pc') (k : G q F φ pc' lv (.int (jch x) :: st) X T) : G q F φ pc lv (.int x :: st) X T := by
  subst hp
  exact fun r hr p e s m args below meth c C H locs ls hl hP hS => lv_i2c C.1 C.2.1 hd rfl (k r hr p e s m args below meth c C H locs ls hl hP hS)
theorem g_idivC {x y : Int32} (hd : decode F.1 pc = .ok (.idiv, 1)) (hp : pc + 1 = pc') (hne : ¬ y = 0) (k : G q F φ pc' lv (.int (x / y) :: st) X T) : G q F φ pc lv (.int y :: .int x :: st) X T := by
  subst hp
  exact fun r hr p e s m args below meth c C H locs ls hl hP hS => lv_idiv C.1 C.2.1 hd hne (k r hr p e s m args below meth c C H locs ls hl hP hS)
theorem g_idiv {x y : Int32} (hd : decode F.1 pc = .ok (.idiv, 1)) (hp : pc + 1 = pc') (k : G q F φ pc' lv (.int (x / y) :: st) X T) : G q F φ pc lv (.int y :: .int x :: st) X (if y = 0 then none else T) := by
  by_cases hne : y = 0
  · rw [if_pos hne]
    exact g_none
  · rw [if_neg hne]
    exact g_idivC hd hp hne k
theorem g_iremC {x y : Int32} (hd : decode F.1 pc = .ok (.irem, 1)) (hp : pc + 1 = pc') (hne : ¬ y = 0) (k : G q F φ pc' lv (.int (irm x y) :: st) X T) : G q F φ pc lv (.int y :: .int x :: st) X T := by
  subst hp
  exact fun r hr p e s m args below meth c C H locs ls hl hP hS => lv_irem C.1 C.2.1 hd hne (k r hr p e s m args below meth c C H locs ls hl hP hS)
theorem g_irem {x y : Int32} (hd : decode F.1 pc = .ok (.irem, 1)) (hp : pc + 1 = pc') (k : G q F φ pc' lv (.int (irm x y) :: st) X T) : G q F φ pc lv (.int y :: .int x :: st) X (if y = 0 then none else T) := by
  by_cases hne : y = 0
  · rw [if_pos hne]
    exact g_none
  · rw [if_neg hne]
    exact g_iremC hd hp hne k
theorem g_dup {v : Value} (hd : decode F.1 pc = .ok (.dup, 1)) (hp : pc + 1 = pc') (hv : v.category = 1) (k : G q F φ pc' lv (v :: v :: st) X T) : G q F φ pc lv (v :: st) X T := by
  subst hp
  exact fun r hr p e s m args below meth c C H locs ls hl hP hS => lv_dup C.1 C.2.1 hd hv (k r hr p e s m args below meth c C H locs ls hl hP hS)
theorem g_pop {v : Value} (hd : decode F.1 pc = .ok (.pop, 1)) (hp : pc + 1 = pc') (hv : v.category = 1) (k : G q F φ pc' lv st X T) : G q F φ pc lv (v :: st) X T := by
  subst hp
  exact fun r hr p e s m args below meth c C H locs ls hl hP hS => lv_pop C.1 C.2.1 hd hv (k r hr p e s m args below meth c C H locs ls hl hP hS)
theorem g_dup_x1 {v w : Value} (hd : decode F.1 pc = .ok (.dup_x1, 1)) (hp : pc + 1 = pc') (hv : v.category = 1) (hw : w.category = 1) (k : G q F φ pc' lv (v :: w :: v :: st) X T) : G q F φ pc lv (v :: w :: st) X T := by
  subst hp
  exact fun r hr p e s m args below meth c C H locs ls hl hP hS => lv_dup_x1 C.1 C.2.1 hd hv hw (k r hr p e s m args below meth c C H locs ls hl hP hS)
theorem g_dup2 {v w : Value} (hd : decode F.1 pc = .ok (.dup2, 1)) (hp : pc + 1 = pc') (hv : v.category = 1) (hw : w.category = 1) (k : G q F φ pc' lv (v :: w :: v :: w :: st) X T) : G q F φ pc lv (v :: w :: st) X T := by
  subst hp
  exact fun r hr p e s m args below meth c C H locs ls hl hP hS => lv_dup2_11 C.1 C.2.1 hd hv hw (k r hr p e s m args below meth c C H locs ls hl hP hS)
theorem g_if_eq {x : Int32} {off : Int} {tgt : Nat} (hd : decode F.1 pc = .ok (.ifCond .eq off, 3)) (hp : pc + 3 = pc') (ht : (pc : Int) + off = (tgt : Int)) (k1 : G q F φ tgt lv st X T1) (k2 : G q F φ pc' lv st X T2) : G q F φ pc lv (.int x :: st) X (if x = 0 then T1 else T2) := by
  subst hp
  by_cases hc : x = 0
  · rw [if_pos hc]
    exact fun r hr p e s m args below meth c C H locs ls hl hP hS => lv_if_eq C.1 C.2.1 hd ht (fun h => (k1 r hr p e s m args below meth c C H locs ls hl hP hS)) (fun h => absurd hc h)
  · rw [if_neg hc]
    exact fun r hr p e s m args below meth c C H locs ls hl hP hS => lv_if_eq C.1 C.2.1 hd ht (fun h => absurd h hc) (fun h => (k2 r hr p e s m args below meth c C H locs ls hl hP hS))
theorem g_icmp_eq {x y : Int32} {off : Int} {tgt : Nat} (hd : decode F.1 pc = .ok (.if_icmp .eq off, 3)) (hp : pc + 3 = pc') (ht : (pc : Int) + off = (tgt : Int)) (k1 : G q F φ tgt lv st X T1) (k2 : G q F φ pc' lv st X T2) : G q F φ pc lv (.int y :: .int x :: st) X (if x = y then T1 else T2) := by
  subst hp
  by_cases hc : x = y
  · rw [if_pos hc]
    exact fun r hr p e s m args below meth c C H locs ls hl hP hS => lv_icmp_eq C.1 C.2.1 hd ht (fun h => (k1 r hr p e s m args below meth c C H locs ls hl hP hS)) (fun h => absurd hc h)
  · rw [if_neg hc]
    exact fun r hr p e s m args below meth c C H locs ls hl hP hS => lv_icmp_eq C.1 C.2.1 hd ht (fun h => absurd h hc) (fun h => (k2 r hr p e s m args below meth c C H locs ls hl hP hS))
theorem g_if_ne {x : Int32} {off : Int} {tgt : Nat} (hd : decode F.1 pc = .ok (.ifCond .ne off, 3)) (hp : pc + 3 = pc') (ht : (pc : Int) + off = (tgt : Int)) (k1 : G q F φ pc' lv st X T1) (k2 : G q F φ tgt lv st X T2) : G q F φ pc lv (.int x :: st) X (if x = 0 then T1 else T2) := by
  subst hp
  by_cases hc : x = 0
  · rw [if_pos hc]
    exact fun r hr p e s m args below meth c C H locs ls hl hP hS => lv_if_ne C.1 C.2.1 hd ht (fun h => absurd hc (gneg_ne h)) (fun h => (k1 r hr p e s m args below meth c C H locs ls hl hP hS))
  · rw [if_neg hc]
    exact fun r hr p e s m args below meth c C H locs ls hl hP hS => lv_if_ne C.1 C.2.1 hd ht (fun h => (k2 r hr p e s m args below meth c C H locs ls hl hP hS)) (fun h => absurd (gpos_ne h) hc)
theorem g_icmp_ne {x y : Int32} {off : Int} {tgt : Nat} (hd : decode F.1 pc = .ok (.if_icmp .ne off, 3)) (hp : pc + 3 = pc') (ht : (pc : Int) + off = (tgt : Int)) (k1 : G q F φ pc' lv st X T1) (k2 : G q F φ tgt lv st X T2) : G q F φ pc lv (.int y :: .int x :: st) X (if x = y then T1 else T2) := by
  subst hp
  by_cases hc : x = y
  · rw [if_pos hc]
    exact fun r hr p e s m args below meth c C H locs ls hl hP hS => lv_icmp_ne C.1 C.2.1 hd ht (fun h => absurd hc (gneg_ne h)) (fun h => (k1 r hr p e s m args below meth c C H locs ls hl hP hS))
  · rw [if_neg hc]
    exact fun r hr p e s m args below meth c C H locs ls hl hP hS => lv_icmp_ne C.1 C.2.1 hd ht (fun h => (k2 r hr p e s m args below meth c C H locs ls hl hP hS)) (fun h => absurd (gpos_ne h) hc)
theorem g_if_lt {x : Int32} {off : Int} {tgt : Nat} (hd : decode F.1 pc = .ok (.ifCond .lt off, 3)) (hp : pc + 3 = pc') (ht : (pc : Int) + off = (tgt : Int)) (k1 : G q F φ tgt lv st X T1) (k2 : G q F φ pc' lv st X T2) : G q F φ pc lv (.int x :: st) X (if x < 0 then T1 else T2) := by
  subst hp
  by_cases hc : x < 0
  · rw [if_pos hc]
    exact fun r hr p e s m args below meth c C H locs ls hl hP hS => lv_if_lt C.1 C.2.1 hd ht (fun h => (k1 r hr p e s m args below meth c C H locs ls hl hP hS)) (fun h => absurd hc h)
  · rw [if_neg hc]
    exact fun r hr p e s m args below meth c C H locs ls hl hP hS => lv_if_lt C.1 C.2.1 hd ht (fun h => absurd h hc) (fun h => (k2 r hr p e s m args below meth c C H locs ls hl hP hS))
theorem g_icmp_lt {x y : Int32} {off : Int} {tgt : Nat} (hd : decode F.1 pc = .ok (.if_icmp .lt off, 3)) (hp : pc + 3 = pc') (ht : (pc : Int) + off = (tgt : Int)) (k1 : G q F φ tgt lv st X T1) (k2 : G q F φ pc' lv st X T2) : G q F φ pc lv (.int y :: .int x :: st) X (if x < y then T1 else T2) := by
  subst hp
  by_cases hc : x < y
  · rw [if_pos hc]
    exact fun r hr p e s m args below meth c C H locs ls hl hP hS => lv_icmp_lt C.1 C.2.1 hd ht (fun h => (k1 r hr p e s m args below meth c C H locs ls hl hP hS)) (fun h => absurd hc h)
  · rw [if_neg hc]
    exact fun r hr p e s m args below meth c C H locs ls hl hP hS => lv_icmp_lt C.1 C.2.1 hd ht (fun h => absurd h hc) (fun h => (k2 r hr p e s m args below meth c C H locs ls hl hP hS))
theorem g_if_ge {x : Int32} {off : Int} {tgt : Nat} (hd : decode F.1 pc = .ok (.ifCond .ge off, 3)) (hp : pc + 3 = pc') (ht : (pc : Int) + off = (tgt : Int)) (k1 : G q F φ pc' lv st X T1) (k2 : G q F φ tgt lv st X T2) : G q F φ pc lv (.int x :: st) X (if x < 0 then T1 else T2) := by
  subst hp
  by_cases hc : x < 0
  · rw [if_pos hc]
    exact fun r hr p e s m args below meth c C H locs ls hl hP hS => lv_if_ge C.1 C.2.1 hd ht (fun h => absurd hc (gneg_ge h)) (fun h => (k1 r hr p e s m args below meth c C H locs ls hl hP hS))
  · rw [if_neg hc]
    exact fun r hr p e s m args below meth c C H locs ls hl hP hS => lv_if_ge C.1 C.2.1 hd ht (fun h => (k2 r hr p e s m args below meth c C H locs ls hl hP hS)) (fun h => absurd (gpos_ge h) hc)
theorem g_icmp_ge {x y : Int32} {off : Int} {tgt : Nat} (hd : decode F.1 pc = .ok (.if_icmp .ge off, 3)) (hp : pc + 3 = pc') (ht : (pc : Int) + off = (tgt : Int)) (k1 : G q F φ pc' lv st X T1) (k2 : G q F φ tgt lv st X T2) : G q F φ pc lv (.int y :: .int x :: st) X (if x < y then T1 else T2) := by
  subst hp
  by_cases hc : x < y
  · rw [if_pos hc]
    exact fun r hr p e s m args below meth c C H locs ls hl hP hS => lv_icmp_ge C.1 C.2.1 hd ht (fun h => absurd hc (gneg_ge h)) (fun h => (k1 r hr p e s m args below meth c C H locs ls hl hP hS))
  · rw [if_neg hc]
    exact fun r hr p e s m args below meth c C H locs ls hl hP hS => lv_icmp_ge C.1 C.2.1 hd ht (fun h => (k2 r hr p e s m args below meth c C H locs ls hl hP hS)) (fun h => absurd (gpos_ge h) hc)
theorem g_if_gt {x : Int32} {off : Int} {tgt : Nat} (hd : decode F.1 pc = .ok (.ifCond .gt off, 3)) (hp : pc + 3 = pc') (ht : (pc : Int) + off = (tgt : Int)) (k1 : G q F φ tgt lv st X T1) (k2 : G q F φ pc' lv st X T2) : G q F φ pc lv (.int x :: st) X (if 0 < x then T1 else T2) := by
  subst hp
  by_cases hc : 0 < x
  · rw [if_pos hc]
    exact fun r hr p e s m args below meth c C H locs ls hl hP hS => lv_if_gt C.1 C.2.1 hd ht (fun h => (k1 r hr p e s m args below meth c C H locs ls hl hP hS)) (fun h => absurd hc h)
  · rw [if_neg hc]
    exact fun r hr p e s m args below meth c C H locs ls hl hP hS => lv_if_gt C.1 C.2.1 hd ht (fun h => absurd h hc) (fun h => (k2 r hr p e s m args below meth c C H locs ls hl hP hS))
theorem g_icmp_gt {x y : Int32} {off : Int} {tgt : Nat} (hd : decode F.1 pc = .ok (.if_icmp .gt off, 3)) (hp : pc + 3 = pc') (ht : (pc : Int) + off = (tgt : Int)) (k1 : G q F φ tgt lv st X T1) (k2 : G q F φ pc' lv st X T2) : G q F φ pc lv (.int y :: .int x :: st) X (if y < x then T1 else T2) := by
  subst hp
  by_cases hc : y < x
  · rw [if_pos hc]
    exact fun r hr p e s m args below meth c C H locs ls hl hP hS => lv_icmp_gt C.1 C.2.1 hd ht (fun h => (k1 r hr p e s m args below meth c C H locs ls hl hP hS)) (fun h => absurd hc h)
  · rw [if_neg hc]
    exact fun r hr p e s m args below meth c C H locs ls hl hP hS => lv_icmp_gt C.1 C.2.1 hd ht (fun h => absurd h hc) (fun h => (k2 r hr p e s m args below meth c C H locs ls hl hP hS))
theorem g_if_le {x : Int32} {off : Int} {tgt : Nat} (hd : decode F.1 pc = .ok (.ifCond .le off, 3)) (hp : pc + 3 = pc') (ht : (pc : Int) + off = (tgt : Int)) (k1 : G q F φ pc' lv st X T1) (k2 : G q F φ tgt lv st X T2) : G q F φ pc lv (.int x :: st) X (if 0 < x then T1 else T2) := by
  subst hp
  by_cases hc : 0 < x
  · rw [if_pos hc]
    exact fun r hr p e s m args below meth c C H locs ls hl hP hS => lv_if_le C.1 C.2.1 hd ht (fun h => absurd hc (gneg_le h)) (fun h => (k1 r hr p e s m args below meth c C H locs ls hl hP hS))
  · rw [if_neg hc]
    exact fun r hr p e s m args below meth c C H locs ls hl hP hS => lv_if_le C.1 C.2.1 hd ht (fun h => (k2 r hr p e s m args below meth c C H locs ls hl hP hS)) (fun h => absurd (gpos_le h) hc)
theorem g_icmp_le {x y : Int32} {off : Int} {tgt : Nat} (hd : decode F.1 pc = .ok (.if_icmp .le off, 3)) (hp : pc + 3 = pc') (ht : (pc : Int) + off = (tgt : Int)) (k1 : G q F φ pc' lv st X T1) (k2 : G q F φ tgt lv st X T2) : G q F φ pc lv (.int y :: .int x :: st) X (if y < x then T1 else T2) := by
  subst hp
  by_cases hc : y < x
  · rw [if_pos hc]
    exact fun r hr p e s m args below meth c C H locs ls hl hP hS => lv_icmp_le C.1 C.2.1 hd ht (fun h => absurd hc (gneg_le h)) (fun h => (k1 r hr p e s m args below meth c C H locs ls hl hP hS))
  · rw [if_neg hc]
    exact fun r hr p e s m args below meth c C H locs ls hl hP hS => lv_icmp_le C.1 C.2.1 hd ht (fun h => (k2 r hr p e s m args below meth c C H locs ls hl hP hS)) (fun h => absurd (gpos_le h) hc)
theorem g_goto {off : Int} {tgt : Nat} (hd : decode F.1 pc = .ok (.goto off, 3)) (ht : (pc : Int) + off = (tgt : Int)) (k : G q F φ tgt lv st X T) : G q F φ pc lv st X T := fun r hr p e s m args below meth c C H locs ls hl hP hS => lv_goto C.1 C.2.1 hd ht (k r hr p e s m args below meth c C H locs ls hl hP hS)
/-- a case of a switch -/
theorem g_case {x z : Int32} (k1 : x = z → G q F φ pc lv (.int x :: st) X T1) (k2 : ¬ x = z → G q F φ pc lv (.int x :: st) X T2) : G q F φ pc lv (.int x :: st) X (if x = z then T1 else T2) := by
  by_cases h : x = z
  · rw [if_pos h]; exact k1 h
  · rw [if_neg h]; exact k2 h
theorem g_tableIn {dflt lo hi : Int} {offs : Array Int} {len : Nat} {x z : Int32} {off : Int} {tgt : Nat} (hx : x = z) (hd : decode F.1 pc = .ok (.tableswitch dflt lo hi offs, len)) (h1 : ¬ z.toInt < lo) (h2 : ¬ hi < z.toInt) (ho : offs[(z.toInt - lo).toNat]? = some off) (ht : (pc : Int) + off = (tgt : Int)) (k : G q F φ tgt lv st X T) : G q F φ pc lv (.int x :: st) X T := by
  subst hx
  exact fun r hr p e s m args below meth c C H locs ls hl hP hS => lv_tableIn C.1 C.2.1 hd h1 h2 ho ht (k r hr p e s m args below meth c C H locs ls hl hP hS)
theorem g_tableOut {dflt lo hi : Int} {offs : Array Int} {len : Nat} {x : Int32} {tgt : Nat} (hd : decode F.1 pc = .ok (.tableswitch dflt lo hi offs, len)) (h : x.toInt < lo ∨ hi < x.toInt) (ht : (pc : Int) + dflt = (tgt : Int)) (k : G q F φ tgt lv st X T) : G q F φ pc lv (.int x :: st) X T := fun r hr p e s m args below meth c C H locs ls hl hP hS => lv_tableOut C.1 C.2.1 hd h ht (k r hr p e s m args below meth c C H locs ls hl hP hS)
theorem g_lookup {dflt : Int} {ps : Array (Int × Int)} {len : Nat} {x : Int32} {off : Int} {tgt : Nat} (hd : decode F.1 pc = .ok (.lookupswitch dflt ps, len)) (hp : (ps.toList.zip (ps.toList.drop 1)).all (fun (a, next) => a.1 < next.1) = true) (ho : Op.lookupswitch.offset ps.toList dflt x.toInt = off) (ht : (pc : Int) + off = (tgt : Int)) (k : G q F φ tgt lv st X T) : G q F φ pc lv (.int x :: st) X T := fun r hr p e s m args below meth c C H locs ls hl hP hS => lv_lookup C.1 C.2.1 hd hp ho ht (k r hr p e s m args below meth c C H locs ls hl hP hS)
theorem g_ldc {own : String} {n : Nat} {v : Int32} (hown : F.2.2.1 = own) (hd : decode F.1 pc = .ok (.ldc n, 2)) (hp : pc + 2 = pc') (hw : Cond.constant own n v ∈ tb) (k : G q F φ pc' lv (.int v :: st) X T) : G q F φ pc lv st X T := by
  subst hp; subst hown
  exact fun r hr p e s m args below meth c C H locs ls hl hP hS => lv_ldc C.1 C.2.1 C.2.2.2.1 (C.2.2.2.2.1 _ (C.2.2.2.2.2.1 _ hw)) hd (k r hr p e s m args below meth c C H locs ls hl hP hS)
theorem g_ldc2 {own : String} {n : Nat} {v : Int64} (hown : F.2.2.1 = own) (hd : decode F.1 pc = .ok (.ldc2_w n, 3)) (hp : pc + 3 = pc') (hw : Cond.constantLong own n v ∈ tb) (k : G q F φ pc' lv (.long v :: st) X T) : G q F φ pc lv st X T := by
  subst hp; subst hown
  exact fun r hr p e s m args below meth c C H locs ls hl hP hS => lv_ldc2 C.1 C.2.1 C.2.2.2.1 (C.2.2.2.2.1 _ (C.2.2.2.2.2.1 _ hw)) hd (k r hr p e s m args below meth c C H locs ls hl hP hS)
end RULES
/-! the rules of fields, rows, calls, ends -/
/-- what the tables say of the type ci: its name, fields, their number and types -/
def Kc (ci : Nat) (C : String) (T : u_T) (N : Nat) (ty : Nat → FieldType) : Prop := clT[ci]? = some (C, T, N) ∧ (∀ w ∈ u_ws C T N, w ∈ tb) ∧ (∀ k, k < N → parseFieldDescriptor (T k).2.2.1 = some (ty k)) ∧ (∀ a, a < N → ∀ b, b < N → a ≠ b → (T a).2.1 ≠ (T b).2.1)
/-- a field's link: in the text of own, at place n, field k of T -/
def Fl (own : String) (n : Nat) (T : u_T) (k : Nat) : Prop := Cond.fieldLink own n (T k).1 (T k).2.1 (T k).2.2.1 ∈ tb
theorem cellE_obj {q : Th} {X : St} {o ci : Nat} (hk : knd o = ci + 5) : cellE q X o = .inr (ci, flds q X o) := by
  unfold cellE
  rw [hk]
theorem cellE_i {q : Th} {X : St} {o : Nat} (hk : knd o = 0) : cellE q X o = .inl (q.ids 0, oln o, .inl (X.1 o)) := by
  unfold cellE
  rw [hk]
theorem cellE_j {q : Th} {X : St} {o : Nat} (hk : knd o = 1) : cellE q X o = .inl (q.ids 1, oln o, .inr (.inl (X.2 o))) := by
  unfold cellE
  rw [hk]
theorem cellE_z {q : Th} {X : St} {o : Nat} (hk : knd o = 2) : cellE q X o = .inl (q.ids 2, oln o, .inl (X.1 o)) := by
  unfold cellE
  rw [hk]
theorem flds_get {q : Th} {X : St} {o k : Nat} (h : k < oln o) : (flds q X o)[k]? = some (fval q X o k) := by
  unfold flds
  rw [List.getElem?_map, List.getElem?_range h]
  rfl
theorem flds_set {q : Th} {X : St} {o k : Nat} {v : Int32} (hr : ofr o k = none) : (flds q X o).set k (.int v) = flds q (stI X o k v) o := by
  unfold flds
  refine rmap_set ?_ (fun j hj => ?_)
  · unfold fval
    rw [hr]
    simp [stI]
  · unfold fval
    cases ofr o j with
    | none => simp [stI, hj]
    | some r => rfl
theorem gw_fput {q : Th} {X : St} {o ci k : Nat} {v : Int32} (hk : knd o = ci + 5) (hr : ofr o k = none) : (gw q X).set o (q.ad o, .inr (ci, (flds q X o).set k (.int v))) = gw q (stI X o k v) :=
  gw_set q (by rw [cellE_obj hk, flds_set hr]) (fun o' h => cellE_ne (stI_ne h) rfl)
theorem gw_iput {q : Th} {X : St} {o i : Nat} {v : Int32} (hk : knd o = 0) : (gw q X).set o (q.ad o, .inl (q.ids 0, oln o, .inl (upd (X.1 o) i v))) = gw q (stI X o i v) :=
  gw_set q (by rw [cellE_i hk, stI_upd]) (fun o' h => cellE_ne (stI_ne h) rfl)
theorem gw_zput {q : Th} {X : St} {o i : Nat} {v : Int32} (hk : knd o = 2) : (gw q X).set o (q.ad o, .inl (q.ids 2, oln o, .inl (upd (X.1 o) i v))) = gw q (stI X o i v) :=
  gw_set q (by rw [cellE_z hk, stI_upd]) (fun o' h => cellE_ne (stI_ne h) rfl)
theorem gw_lput {q : Th} {X : St} {o i : Nat} {v : Int64} (hk : knd o = 1) : (gw q X).set o (q.ad o, .inl (q.ids 1, oln o, .inr (.inl (vp_updL (X.2 o) i v)))) = gw q (stL X o i v) :=
  gw_set q (by rw [cellE_j hk, stL_upd]) (fun o' h => cellE_ne rfl (stL_ne h))
theorem cpI_ne {X : St} {o sp p dp n o' : Nat} (h : o' ≠ p) : (cpI X o sp p dp n).1 o' = X.1 o' := by
  funext i'
  simp [cpI, h]
theorem cpL_ne {X : St} {o sp p dp n o' : Nat} (h : o' ≠ p) : (cpL X o sp p dp n).2 o' = X.2 o' := by
  funext i'
  simp [cpL, h]
theorem cpI_at {X : St} {o sp p dp n : Nat} : (cpI X o sp p dp n).1 p = va_cpy (X.1 o) (X.1 p) sp dp n := by
  funext i'
  simp [cpI, va_cpy]
theorem cpL_at {X : St} {o sp p dp n : Nat} : (cpL X o sp p dp n).2 p = va_cpy (X.2 o) (X.2 p) sp dp n := by
  funext i'
  simp [cpL, va_cpy]
theorem gw_cpI {q : Th} {X : St} {o sp p dp n : Nat} (hk : knd p = 0) : (gw q X).set p (q.ad p, .inl (q.ids 0, oln p, .inl (va_cpy (X.1 o) (X.1 p) sp dp n))) = gw q (cpI X o sp p dp n) :=
  gw_set q (by rw [cellE_i hk, cpI_at]) (fun o' h => cellE_ne (cpI_ne h) rfl)
theorem gw_cpL {q : Th} {X : St} {o sp p dp n : Nat} (hk : knd p = 1) : (gw q X).set p (q.ad p, .inl (q.ids 1, oln p, .inr (.inl (va_cpy (X.2 o) (X.2 p) sp dp n)))) = gw q (cpL X o sp p dp n) :=
  gw_set q (by rw [cellE_j hk, cpL_at]) (fun o' h => cellE_ne rfl (cpL_ne h))
def isZ (v : Int32) : Bool := v == 0 || v == 1
theorem isZ_and {v : Int32} (h : isZ v = true) : v &&& 1 = v := by
  simp only [isZ, Bool.or_eq_true, beq_iff_eq] at h
  rcases h with rfl | rfl <;> decide
def cpOk (sp dp n : Int32) (n0 n1 : Nat) : Bool := !(decide (sp < 0)) && (!(decide (dp < 0)) && (!(decide (n < 0)) && (decide (nx sp + nx n ≤ n0) && decide (nx dp + nx n ≤ n1))))
theorem cpOk_s {sp dp n : Int32} {n0 n1 : Nat} (h : cpOk sp dp n n0 n1 = true) : ¬ sp < 0 ∧ ¬ dp < 0 ∧ ¬ n < 0 ∧ sp.toNatClampNeg + n.toNatClampNeg ≤ n0 ∧ dp.toNatClampNeg + n.toNatClampNeg ≤ n1 := by
  simpa [cpOk] using h
section RULES3
variable {q : Th} {F : FrI} {ρ : Type} {φ : ρ → Option Value × St} {pc pc' : Nat} {lv lv' : List (Nat × Value)} {st : List Value} {X : St} {T T1 T2 : Option ρ}
theorem g_get {own C : String} {Tt : u_T} {N ci n : Nat} {ty : Nat → FieldType} {o k : Nat} {v : Value} (hown : F.2.2.1 = own) (hd : decode F.1 pc = .ok (.getfield n, 3)) (hp : pc + 3 = pc') (hK : Kc ci C Tt N ty) (hw : Fl own n Tt k) (ho : o < NO) (hk : knd o = ci + 5) (hn : oln o = N) (hk2 : k < N) (hv : fval q X o k = v) (kk : G q F φ pc' lv (v :: st) X T) : G q F φ pc lv (.ref (q.ad o) :: st) X T := by
  subst hp; subst hown; subst hn; subst hv
  intro r hr p e s m args below meth c C H locs ls hl hP hS
  exact va_get (Ts := tb) C.1 C.2.1 (fun w hw => C.2.2.2.2.1 w (C.2.2.2.2.2.1 w hw)) hK.2.1 C.2.2.2.1 C.2.2.2.2.2.2.1 hP o (by rw [gw_get q X ho, cellE_obj hk]) hK.1 k hk2 (C.2.2.2.2.1 _ (C.2.2.2.2.2.1 _ hw)) (fun _ h => h) (flds_get hk2) hd (kk r hr p e s m args below meth c C H locs ls hl hP hS)
theorem g_getI {own C : String} {Tt : u_T} {N ci n : Nat} {ty : Nat → FieldType} (o k : Nat) (hown : F.2.2.1 = own) (hd : decode F.1 pc = .ok (.getfield n, 3)) (hp : pc + 3 = pc') (hK : Kc ci C Tt N ty) (hw : Fl own n Tt k) (ho : o < NO) (hk : knd o = ci + 5) (hn : oln o = N) (hk2 : k < N) (hr : ofr o k = none) (kk : G q F φ pc' lv (.int (X.1 o k) :: st) X T) : G q F φ pc lv (.ref (q.ad o) :: st) X T :=
  g_get hown hd hp hK hw ho hk hn hk2 (by unfold fval; rw [hr]) kk
theorem g_getR {own C : String} {Tt : u_T} {N ci n : Nat} {ty : Nat → FieldType} (o k w : Nat) (hown : F.2.2.1 = own) (hd : decode F.1 pc = .ok (.getfield n, 3)) (hp : pc + 3 = pc') (hK : Kc ci C Tt N ty) (hw : Fl own n Tt k) (ho : o < NO) (hk : knd o = ci + 5) (hn : oln o = N) (hk2 : k < N) (hr : ofr o k = some w) (kk : G q F φ pc' lv (.ref (q.ad w) :: st) X T) : G q F φ pc lv (.ref (q.ad o) :: st) X T :=
  g_get hown hd hp hK hw ho hk hn hk2 (by unfold fval; rw [hr]) kk
theorem g_putC {own C : String} {Tt : u_T} {N ci n : Nat} {ty : Nat → FieldType} {t : FieldType} {v : Int32} (o k : Nat) (hown : F.2.2.1 = own) (hd : decode F.1 pc = .ok (.putfield n, 3)) (hp : pc + 3 = pc') (hK : Kc ci C Tt N ty) (hw : Fl own n Tt k) (ho : o < NO) (hk : knd o = ci + 5) (hn : oln o = N) (hk2 : k < N) (hr : ofr o k = none) (hfin : (Tt k).2.2.2 = false) (ht : parseFieldDescriptor (Tt k).2.2.1 = some t) (hnr : narrow t (.int v) = .int v) (hfit : fits t (.int v) = true) (kk : G q F φ pc' lv st (stI X o k v) T) : G q F φ pc lv (.int v :: .ref (q.ad o) :: st) X T := by
  subst hp; subst hown; subst hn
  intro r hr2 p e s m args below meth c C H locs ls hl hP hS
  refine va_put (Ts := tb) C.1 C.2.1 (fun w hw => C.2.2.2.2.1 w (C.2.2.2.2.2.1 w hw)) hK.2.1 ty hK.2.2.1 hK.2.2.2 C.2.2.2.1 C.2.2.2.2.2.2.1 hP (gw_D C.2.2.2.2.2.2.2.2.1 X) hS o (by rw [gw_get q X ho, cellE_obj hk]) hK.1 k hk2 (C.2.2.2.2.1 _ (C.2.2.2.2.2.1 _ hw)) (fun _ h => h) hfin ht hnr hfit (by unfold flds; simpa using hk2) hd (fun H1 locs1 hP1 hD1 hS1 => ?_)
  rw [gw_fput hk hr] at hP1
  exact kk r hr2 p e s m args below meth c C H1 locs1 ls hl hP1 hS1
theorem g_putI {own C : String} {Tt : u_T} {N ci n : Nat} {ty : Nat → FieldType} {v : Int32} (o k : Nat) (hown : F.2.2.1 = own) (hd : decode F.1 pc = .ok (.putfield n, 3)) (hp : pc + 3 = pc') (hK : Kc ci C Tt N ty) (hw : Fl own n Tt k) (ho : o < NO) (hk : knd o = ci + 5) (hn : oln o = N) (hk2 : k < N) (hr : ofr o k = none) (hfin : (Tt k).2.2.2 = false) (ht : ty k = .int) (kk : G q F φ pc' lv st (stI X o k v) T) : G q F φ pc lv (.int v :: .ref (q.ad o) :: st) X T :=
  g_putC (t := .int) o k hown hd hp hK hw ho hk hn hk2 hr hfin (by rw [hK.2.2.1 k hk2, ht]) rfl rfl kk
theorem g_putZ {own C : String} {Tt : u_T} {N ci n : Nat} {ty : Nat → FieldType} {v : Int32} (o k : Nat) (hown : F.2.2.1 = own) (hd : decode F.1 pc = .ok (.putfield n, 3)) (hp : pc + 3 = pc') (hK : Kc ci C Tt N ty) (hw : Fl own n Tt k) (ho : o < NO) (hk : knd o = ci + 5) (hn : oln o = N) (hk2 : k < N) (hr : ofr o k = none) (hfin : (Tt k).2.2.2 = false) (ht : ty k = .boolean) (kk : G q F φ pc' lv st (stI X o k v) T) : G q F φ pc lv (.int v :: .ref (q.ad o) :: st) X (if isZ v then T else none) := by
  by_cases hz : isZ v = true
  · rw [if_pos hz]
    have hz2 : v &&& 1 = v := isZ_and hz
    exact g_putC (t := .boolean) o k hown hd hp hK hw ho hk hn hk2 hr hfin (by rw [hK.2.2.1 k hk2, ht]) (by show Value.int (v &&& 1) = _; rw [hz2]) hz kk
  · rw [if_neg hz]; exact g_none
theorem g_iald0 {j : Int32} {o n : Nat} (hd : decode F.1 pc = .ok (.iaload, 1)) (hp : pc + 1 = pc') (ho : o < NO) (hk : knd o = 0) (hn : oln o = n) (hj : inB j n = true) (k : G q F φ pc' lv (.int (X.1 o (nx j)) :: st) X T) : G q F φ pc lv (.int j :: .ref (q.ad o) :: st) X T := by
  subst hp; subst hn
  intro r hr p e s m args below meth c C H locs ls hl hP hS
  exact va_iald C.1 C.2.1 C.2.2.2.2.2.2.1 hP o 0 (by rw [gw_get q X ho, cellE_i hk]) rfl (inB_vp hj) hd (k r hr p e s m args below meth c C H locs ls hl hP hS)
theorem g_iald {j : Int32} {o n : Nat} (hd : decode F.1 pc = .ok (.iaload, 1)) (hp : pc + 1 = pc') (ho : o < NO) (hk : knd o = 0) (hn : oln o = n) (k : G q F φ pc' lv (.int (X.1 o (nx j)) :: st) X T) : G q F φ pc lv (.int j :: .ref (q.ad o) :: st) X (if inB j n then T else none) := by
  by_cases hj : inB j n = true
  · rw [if_pos hj]; exact g_iald0 hd hp ho hk hn hj k
  · rw [if_neg hj]; exact g_none
theorem g_lald0 {j : Int32} {o n : Nat} (hd : decode F.1 pc = .ok (.laload, 1)) (hp : pc + 1 = pc') (ho : o < NO) (hk : knd o = 1) (hn : oln o = n) (hj : inB j n = true) (k : G q F φ pc' lv (.long (X.2 o (nx j)) :: st) X T) : G q F φ pc lv (.int j :: .ref (q.ad o) :: st) X T := by
  subst hp; subst hn
  intro r hr p e s m args below meth c C H locs ls hl hP hS
  exact va_lald C.1 C.2.1 C.2.2.2.2.2.2.1 hP o 1 (by rw [gw_get q X ho, cellE_j hk]) rfl (inB_vp hj) hd (k r hr p e s m args below meth c C H locs ls hl hP hS)
theorem g_lald {j : Int32} {o n : Nat} (hd : decode F.1 pc = .ok (.laload, 1)) (hp : pc + 1 = pc') (ho : o < NO) (hk : knd o = 1) (hn : oln o = n) (k : G q F φ pc' lv (.long (X.2 o (nx j)) :: st) X T) : G q F φ pc lv (.int j :: .ref (q.ad o) :: st) X (if inB j n then T else none) := by
  by_cases hj : inB j n = true
  · rw [if_pos hj]; exact g_lald0 hd hp ho hk hn hj k
  · rw [if_neg hj]; exact g_none
theorem g_zald0 {j : Int32} {o n : Nat} (hd : decode F.1 pc = .ok (.baload, 1)) (hp : pc + 1 = pc') (ho : o < NO) (hk : knd o = 2) (hn : oln o = n) (hj : inB j n = true) (k : G q F φ pc' lv (.int (X.1 o (nx j)) :: st) X T) : G q F φ pc lv (.int j :: .ref (q.ad o) :: st) X T := by
  subst hp; subst hn
  intro r hr p e s m args below meth c C H locs ls hl hP hS
  exact va_zald C.1 C.2.1 C.2.2.2.2.2.2.1 hP o 2 (by rw [gw_get q X ho, cellE_z hk]) rfl (inB_vp hj) hd (k r hr p e s m args below meth c C H locs ls hl hP hS)
theorem g_zald {j : Int32} {o n : Nat} (hd : decode F.1 pc = .ok (.baload, 1)) (hp : pc + 1 = pc') (ho : o < NO) (hk : knd o = 2) (hn : oln o = n) (k : G q F φ pc' lv (.int (X.1 o (nx j)) :: st) X T) : G q F φ pc lv (.int j :: .ref (q.ad o) :: st) X (if inB j n then T else none) := by
  by_cases hj : inB j n = true
  · rw [if_pos hj]; exact g_zald0 hd hp ho hk hn hj k
  · rw [if_neg hj]; exact g_none
theorem g_ialdD {j : Int32} {o : Nat} (hd : decode F.1 pc = .ok (.iaload, 1)) (hp : pc + 1 = pc') (k : G q F φ pc' lv (.int (X.1 o (nx j)) :: st) X T) : G q F φ pc lv (.int j :: .ref (q.ad o) :: st) X (if okI o j then T else none) := by
  by_cases hj : okI o j = true
  · rw [if_pos hj]
    simp only [okI, Bool.and_eq_true, decide_eq_true_eq, beq_iff_eq] at hj
    exact g_iald0 hd hp hj.1.1 hj.1.2 rfl hj.2 k
  · rw [if_neg hj]; exact g_none
theorem g_laldD {j : Int32} {o : Nat} (hd : decode F.1 pc = .ok (.laload, 1)) (hp : pc + 1 = pc') (k : G q F φ pc' lv (.long (X.2 o (nx j)) :: st) X T) : G q F φ pc lv (.int j :: .ref (q.ad o) :: st) X (if okJ o j then T else none) := by
  by_cases hj : okJ o j = true
  · rw [if_pos hj]
    simp only [okJ, Bool.and_eq_true, decide_eq_true_eq, beq_iff_eq] at hj
    exact g_lald0 hd hp hj.1.1 hj.1.2 rfl hj.2 k
  · rw [if_neg hj]; exact g_none
theorem g_iast0 {j : Int32} {x : Int32} {o n : Nat} (hd : decode F.1 pc = .ok (.iastore, 1)) (hp : pc + 1 = pc') (ho : o < NO) (hk : knd o = 0) (hn : oln o = n) (hj : inB j n = true) (k : G q F φ pc' lv st (stI X o (nx j) x) T) : G q F φ pc lv (.int x :: .int j :: .ref (q.ad o) :: st) X T := by
  subst hp; subst hn
  intro r hr p e s m args below meth c C H locs ls hl hP hS
  refine va_iast C.1 C.2.1 C.2.2.2.2.2.2.1 hP (gw_D C.2.2.2.2.2.2.2.2.1 X) hS o 0 (by rw [gw_get q X ho, cellE_i hk]) rfl (inB_vp hj) hd (fun H1 locs1 hP1 hD1 hS1 => ?_)
  rw [gw_iput hk] at hP1
  exact k r hr p e s m args below meth c C H1 locs1 ls hl hP1 hS1
theorem g_iast {j : Int32} {x : Int32} {o n : Nat} (hd : decode F.1 pc = .ok (.iastore, 1)) (hp : pc + 1 = pc') (ho : o < NO) (hk : knd o = 0) (hn : oln o = n) (k : G q F φ pc' lv st (stI X o (nx j) x) T) : G q F φ pc lv (.int x :: .int j :: .ref (q.ad o) :: st) X (if inB j n then T else none) := by
  by_cases hj : inB j n = true
  · rw [if_pos hj]; exact g_iast0 hd hp ho hk hn hj k
  · rw [if_neg hj]; exact g_none
theorem g_last0 {j : Int32} {x : Int64} {o n : Nat} (hd : decode F.1 pc = .ok (.lastore, 1)) (hp : pc + 1 = pc') (ho : o < NO) (hk : knd o = 1) (hn : oln o = n) (hj : inB j n = true) (k : G q F φ pc' lv st (stL X o (nx j) x) T) : G q F φ pc lv (.long x :: .int j :: .ref (q.ad o) :: st) X T := by
  subst hp; subst hn
  intro r hr p e s m args below meth c C H locs ls hl hP hS
  refine va_last C.1 C.2.1 C.2.2.2.2.2.2.1 hP (gw_D C.2.2.2.2.2.2.2.2.1 X) hS o 1 (by rw [gw_get q X ho, cellE_j hk]) rfl (inB_vp hj) hd (fun H1 locs1 hP1 hD1 hS1 => ?_)
  rw [gw_lput hk] at hP1
  exact k r hr p e s m args below meth c C H1 locs1 ls hl hP1 hS1
theorem g_last {j : Int32} {x : Int64} {o n : Nat} (hd : decode F.1 pc = .ok (.lastore, 1)) (hp : pc + 1 = pc') (ho : o < NO) (hk : knd o = 1) (hn : oln o = n) (k : G q F φ pc' lv st (stL X o (nx j) x) T) : G q F φ pc lv (.long x :: .int j :: .ref (q.ad o) :: st) X (if inB j n then T else none) := by
  by_cases hj : inB j n = true
  · rw [if_pos hj]; exact g_last0 hd hp ho hk hn hj k
  · rw [if_neg hj]; exact g_none
theorem g_zast0 {j : Int32} {x : Int32} {o n : Nat} (hd : decode F.1 pc = .ok (.bastore, 1)) (hp : pc + 1 = pc') (ho : o < NO) (hk : knd o = 2) (hn : oln o = n) (hj : inB j n = true) (k : G q F φ pc' lv st (stI X o (nx j) (vp_nar .boolean x)) T) : G q F φ pc lv (.int x :: .int j :: .ref (q.ad o) :: st) X T := by
  subst hp; subst hn
  intro r hr p e s m args below meth c C H locs ls hl hP hS
  refine va_zast C.1 C.2.1 C.2.2.2.2.2.2.1 hP (gw_D C.2.2.2.2.2.2.2.2.1 X) hS o 2 (by rw [gw_get q X ho, cellE_z hk]) rfl (inB_vp hj) hd (fun H1 locs1 hP1 hD1 hS1 => ?_)
  rw [gw_zput hk] at hP1
  exact k r hr p e s m args below meth c C H1 locs1 ls hl hP1 hS1
theorem g_zast {j : Int32} {x : Int32} {o n : Nat} (hd : decode F.1 pc = .ok (.bastore, 1)) (hp : pc + 1 = pc') (ho : o < NO) (hk : knd o = 2) (hn : oln o = n) (k : G q F φ pc' lv st (stI X o (nx j) (vp_nar .boolean x)) T) : G q F φ pc lv (.int x :: .int j :: .ref (q.ad o) :: st) X (if inB j n then T else none) := by
  by_cases hj : inB j n = true
  · rw [if_pos hj]; exact g_zast0 hd hp ho hk hn hj k
  · rw [if_neg hj]; exact g_none
theorem g_iastD {j : Int32} {x : Int32} {o : Nat} (hd : decode F.1 pc = .ok (.iastore, 1)) (hp : pc + 1 = pc') (k : G q F φ pc' lv st (stI X o (nx j) x) T) : G q F φ pc lv (.int x :: .int j :: .ref (q.ad o) :: st) X (if okI o j then T else none) := by
  by_cases hj : okI o j = true
  · rw [if_pos hj]
    simp only [okI, Bool.and_eq_true, decide_eq_true_eq, beq_iff_eq] at hj
    exact g_iast0 hd hp hj.1.1 hj.1.2 rfl hj.2 k
  · rw [if_neg hj]; exact g_none
theorem g_lastD {j : Int32} {x : Int64} {o : Nat} (hd : decode F.1 pc = .ok (.lastore, 1)) (hp : pc + 1 = pc') (k : G q F φ pc' lv st (stL X o (nx j) x) T) : G q F φ pc lv (.long x :: .int j :: .ref (q.ad o) :: st) X (if okJ o j then T else none) := by
  by_cases hj : okJ o j = true
  · rw [if_pos hj]
    simp only [okJ, Bool.and_eq_true, decide_eq_true_eq, beq_iff_eq] at hj
    exact g_last0 hd hp hj.1.1 hj.1.2 rfl hj.2 k
  · rw [if_neg hj]; exact g_none
theorem g_aald {j : Int32} {o n t : Nat} (hd : decode F.1 pc = .ok (.aaload, 1)) (hp : pc + 1 = pc') (ho : o < NO) (hk : knd o = 3 ∨ knd o = 4) (hn : oln o = n) (ht : obs o = t) (k : G q F φ pc' lv (.ref (q.ad (t + nx j)) :: st) X T) : G q F φ pc lv (.int j :: .ref (q.ad o) :: st) X (if inB j n then T else none) := by
  by_cases hj : inB j n = true
  · rw [if_pos hj]
    subst hp; subst hn; subst ht
    intro r hr p e s m args below meth c C H locs ls hl hP hS
    have hin := inB_vp hj
    have hlt : j.toNatClampNeg < oln o := Nat.not_le.mp fun z => hin (Or.inr z)
    rcases hk with hk | hk
    · have he : cellE q X o = .inl (q.ids 3, oln o, .inr (.inr (.inr (.inr (fun i => if i < oln o then some (q.ad (obs o + i)) else none))))) := by
        unfold cellE
        rw [hk]
      have e0 : (gw q X)[o]? = some (q.ad o, .inl (q.ids 3, oln o, .inr (.inr (.inr (.inr (fun i => if i < oln o then some (q.ad (obs o + i)) else none)))))) := by rw [gw_get q X ho, he]
      have hat : H[q.ad o]? = some (vp_cell (q.ids 3) (oln o, .inr (.inr (.inr (.inr (fun i => if i < oln o then some (q.ad (obs o + i)) else none)))))) := hP o _ e0
      exact W.aald (v := .ref (q.ad (obs o + nx j))) (ty := .array .int) C.1 C.2.1 hat ((C.2.2.2.2.2.2.1.2 3 _ rfl).1 (oln o) (fun j => va_rf (if j < oln o then some (q.ad (obs o + j)) else none))) rfl (fun z => by cases z) (by show ¬ (j < 0 ∨ (arrV _ _ _).slots.size ≤ _); rw [arrV_size]; exact hin) (by show (arrV _ _ _).slots[_]? = _; rw [arrV_read _ _ hlt]; simp [hlt, va_rf]) rfl rfl hd (k r hr p e s m args below meth c C H locs ls hl hP hS)
    · have he : cellE q X o = .inl (q.ids 4, oln o, .inr (.inr (.inr (.inr (fun i => if i < oln o then some (q.ad (obs o + i)) else none))))) := by
        unfold cellE
        rw [hk]
      have e0 : (gw q X)[o]? = some (q.ad o, .inl (q.ids 4, oln o, .inr (.inr (.inr (.inr (fun i => if i < oln o then some (q.ad (obs o + i)) else none)))))) := by rw [gw_get q X ho, he]
      have hat : H[q.ad o]? = some (vp_cell (q.ids 4) (oln o, .inr (.inr (.inr (.inr (fun i => if i < oln o then some (q.ad (obs o + i)) else none)))))) := hP o _ e0
      exact W.aald (v := .ref (q.ad (obs o + nx j))) (ty := .array .long) C.1 C.2.1 hat ((C.2.2.2.2.2.2.1.2 4 _ rfl).1 (oln o) (fun j => va_rf (if j < oln o then some (q.ad (obs o + j)) else none))) rfl (fun z => by cases z) (by show ¬ (j < 0 ∨ (arrV _ _ _).slots.size ≤ _); rw [arrV_size]; exact hin) (by show (arrV _ _ _).slots[_]? = _; rw [arrV_read _ _ hlt]; simp [hlt, va_rf]) rfl rfl hd (k r hr p e s m args below meth c C H locs ls hl hP hS)
  · rw [if_neg hj]; exact g_none
theorem g_alen {v : Int32} {o : Nat} (hd : decode F.1 pc = .ok (.arraylength, 1)) (hp : pc + 1 = pc') (ho : o < NO) (hk : knd o = 0 ∨ knd o = 1) (hv : Int32.ofNat (oln o) = v) (k : G q F φ pc' lv (.int v :: st) X T) : G q F φ pc lv (.ref (q.ad o) :: st) X T := by
  subst hp
  intro r hr p e s m args below meth c C H locs ls hl hP hS
  rcases hk with hk | hk
  · exact va_alen C.1 C.2.1 C.2.2.2.2.2.2.1 hP o 0 (x := (oln o, .inl (X.1 o))) (by rw [gw_get q X ho, cellE_i hk]) rfl hv hd (k r hr p e s m args below meth c C H locs ls hl hP hS)
  · exact va_alen C.1 C.2.1 C.2.2.2.2.2.2.1 hP o 1 (x := (oln o, .inr (.inl (X.2 o)))) (by rw [gw_get q X ho, cellE_j hk]) rfl hv hd (k r hr p e s m args below meth c C H locs ls hl hP hS)
def isR (o : Nat) : Bool := decide (o < NO) && (knd o == 0 || knd o == 1)
theorem g_alenD {o : Nat} (hd : decode F.1 pc = .ok (.arraylength, 1)) (hp : pc + 1 = pc') (k : G q F φ pc' lv (.int (Int32.ofNat (oln o)) :: st) X T) : G q F φ pc lv (.ref (q.ad o) :: st) X (if isR o then T else none) := by
  by_cases hj : isR o = true
  · rw [if_pos hj]
    simp only [isR, Bool.and_eq_true, Bool.or_eq_true, decide_eq_true_eq, beq_iff_eq] at hj
    exact g_alen hd hp hj.1 hj.2 rfl k
  · rw [if_neg hj]; exact g_none
theorem g_gets0 {own : String} {n : Nat} (hown : F.2.2.1 = own) (hd : decode F.1 pc = .ok (.getstatic n, 3)) (hp : pc + 3 = pc') (hw : Cond.fieldLink own n "EightLegs$Pool" "LEAST" "[I" ∈ tb) (k : G q F φ pc' lv (.ref (q.sa 0) :: st) X T) : G q F φ pc lv st X T := by
  subst hp; subst hown
  intro r hr p e s m args below meth c C H locs ls hl hP hS
  exact va_gets C.1 C.2.1 C.2.2.2.2.2.2.2.1.1.1 hS C.2.2.2.1 (C.2.2.2.2.1 _ (C.2.2.2.2.2.1 _ hw)) (fun _ h => h) hd (k r hr p e s m args below meth c C H locs ls hl hP hS)
theorem g_sald0 {j : Int32} (hd : decode F.1 pc = .ok (.iaload, 1)) (hp : pc + 1 = pc') (k : G q F φ pc' lv (.int (LEASTf (nx j)) :: st) X T) : G q F φ pc lv (.int j :: .ref (q.sa 0) :: st) X (if inB j 9 then T else none) := by
  by_cases hj : inB j 9 = true
  · rw [if_pos hj]
    subst hp
    intro r hr p e s m args below meth c C H locs ls hl hP hS
    exact va_ti C.1 C.2.1 C.2.2.2.2.2.2.2.1.1.2 hS (inB_vp hj) rfl hd (k r hr p e s m args below meth c C H locs ls hl hP hS)
  · rw [if_neg hj]; exact g_none
theorem g_slen0 {v : Int32} (hd : decode F.1 pc = .ok (.arraylength, 1)) (hp : pc + 1 = pc') (hv : Int32.ofNat 9 = v) (k : G q F φ pc' lv (.int v :: st) X T) : G q F φ pc lv (.ref (q.sa 0) :: st) X T := by
  subst hp
  intro r hr p e s m args below meth c C H locs ls hl hP hS
  exact va_tlen C.1 C.2.1 C.2.2.2.2.2.2.2.1.1.2 hS hv hd (k r hr p e s m args below meth c C H locs ls hl hP hS)
theorem g_gets1 {own : String} {n : Nat} (hown : F.2.2.1 = own) (hd : decode F.1 pc = .ok (.getstatic n, 3)) (hp : pc + 3 = pc') (hw : Cond.fieldLink own n "EightLegs$Pool" "MOST" "[I" ∈ tb) (k : G q F φ pc' lv (.ref (q.sa 1) :: st) X T) : G q F φ pc lv st X T := by
  subst hp; subst hown
  intro r hr p e s m args below meth c C H locs ls hl hP hS
  exact va_gets C.1 C.2.1 C.2.2.2.2.2.2.2.1.2.1.1 hS C.2.2.2.1 (C.2.2.2.2.1 _ (C.2.2.2.2.2.1 _ hw)) (fun _ h => h) hd (k r hr p e s m args below meth c C H locs ls hl hP hS)
theorem g_sald1 {j : Int32} (hd : decode F.1 pc = .ok (.iaload, 1)) (hp : pc + 1 = pc') (k : G q F φ pc' lv (.int (MOSTf (nx j)) :: st) X T) : G q F φ pc lv (.int j :: .ref (q.sa 1) :: st) X (if inB j 9 then T else none) := by
  by_cases hj : inB j 9 = true
  · rw [if_pos hj]
    subst hp
    intro r hr p e s m args below meth c C H locs ls hl hP hS
    exact va_ti C.1 C.2.1 C.2.2.2.2.2.2.2.1.2.1.2 hS (inB_vp hj) rfl hd (k r hr p e s m args below meth c C H locs ls hl hP hS)
  · rw [if_neg hj]; exact g_none
theorem g_slen1 {v : Int32} (hd : decode F.1 pc = .ok (.arraylength, 1)) (hp : pc + 1 = pc') (hv : Int32.ofNat 9 = v) (k : G q F φ pc' lv (.int v :: st) X T) : G q F φ pc lv (.ref (q.sa 1) :: st) X T := by
  subst hp
  intro r hr p e s m args below meth c C H locs ls hl hP hS
  exact va_tlen C.1 C.2.1 C.2.2.2.2.2.2.2.1.2.1.2 hS hv hd (k r hr p e s m args below meth c C H locs ls hl hP hS)
theorem g_gets2 {own : String} {n : Nat} (hown : F.2.2.1 = own) (hd : decode F.1 pc = .ok (.getstatic n, 3)) (hp : pc + 3 = pc') (hw : Cond.fieldLink own n "EightLegs$Ways" "UP" "[I" ∈ tb) (k : G q F φ pc' lv (.ref (q.sa 2) :: st) X T) : G q F φ pc lv st X T := by
  subst hp; subst hown
  intro r hr p e s m args below meth c C H locs ls hl hP hS
  exact va_gets C.1 C.2.1 C.2.2.2.2.2.2.2.1.2.2.1.1 hS C.2.2.2.1 (C.2.2.2.2.1 _ (C.2.2.2.2.2.1 _ hw)) (fun _ h => h) hd (k r hr p e s m args below meth c C H locs ls hl hP hS)
theorem g_sald2 {j : Int32} (hd : decode F.1 pc = .ok (.iaload, 1)) (hp : pc + 1 = pc') (k : G q F φ pc' lv (.int (UPf (nx j)) :: st) X T) : G q F φ pc lv (.int j :: .ref (q.sa 2) :: st) X (if inB j 8 then T else none) := by
  by_cases hj : inB j 8 = true
  · rw [if_pos hj]
    subst hp
    intro r hr p e s m args below meth c C H locs ls hl hP hS
    exact va_ti C.1 C.2.1 C.2.2.2.2.2.2.2.1.2.2.1.2 hS (inB_vp hj) rfl hd (k r hr p e s m args below meth c C H locs ls hl hP hS)
  · rw [if_neg hj]; exact g_none
theorem g_slen2 {v : Int32} (hd : decode F.1 pc = .ok (.arraylength, 1)) (hp : pc + 1 = pc') (hv : Int32.ofNat 8 = v) (k : G q F φ pc' lv (.int v :: st) X T) : G q F φ pc lv (.ref (q.sa 2) :: st) X T := by
  subst hp
  intro r hr p e s m args below meth c C H locs ls hl hP hS
  exact va_tlen C.1 C.2.1 C.2.2.2.2.2.2.2.1.2.2.1.2 hS hv hd (k r hr p e s m args below meth c C H locs ls hl hP hS)
theorem g_copyI {own : String} {n0 : Nat} {sp dp n : Int32} {o w l0 l1 : Nat} (hown : F.2.2.1 = own) (hd : decode F.1 pc = .ok (.invokestatic n0, 3)) (hp : pc + 3 = pc') (h1 : Cond.methodLink own n0 arraycopyName ∈ tb) (h2 : Cond.native arraycopyName ∈ tb) (h3 : Cond.static arraycopyName ∈ tb) (h4 : Cond.initialized "java/lang/System" ∈ tb) (ho : o < NO) (hw : w < NO) (hk : knd o = 0) (hkw : knd w = 0) (hn : oln o = l0) (hnw : oln w = l1) (hR : 1 ≤ F.2.2.2.2.1.1.frames) (hR2 : (st.map fun v => v.category).sum + (nativeFrameWords "java/lang/System" "arraycopy" 5 + 11) ≤ F.2.2.2.2.1.1.locals) (k : G q F φ pc' lv st (cpI X o (nx sp) w (nx dp) (nx n)) T) : G q F φ pc lv (.int n :: .int dp :: .ref (q.ad w) :: .int sp :: .ref (q.ad o) :: st) X (if cpOk sp dp n l0 l1 then T else none) := by
  by_cases hj : cpOk sp dp n l0 l1 = true
  · rw [if_pos hj]
    subst hp; subst hown; subst hn; subst hnw
    intro r hr p e s m args below meth c C H locs ls hl hP hS
    obtain ⟨c1, c2, c3, c4, c5⟩ := cpOk_s hj
    have hts : ∀ x ∈ tb, x.before args s = true := fun x hx => C.2.2.2.2.1 x (C.2.2.2.2.2.1 x hx)
    refine va_copyi (ty := .int) C.1 C.2.1 (by rw [C.2.2.1, hl.1]) C.2.2.2.1 (hts _ h1) (hts _ h2) (hts _ h3) (hts _ h4) C.2.2.2.2.2.2.1 hP (gw_D C.2.2.2.2.2.2.2.2.1 X) hS o w 0 0 (by rw [gw_get q X ho, cellE_i hk]) (by rw [gw_get q X hw, cellE_i hkw]) rfl rfl rfl c1 c2 c3 c4 c5 (fun _ _ => rfl) hR hR2 hd (fun H1 locs1 hP1 hD1 hS1 => ?_)
    rw [gw_cpI hkw] at hP1
    exact k r hr p e s m args below meth c C H1 locs1 ls hl hP1 hS1
  · rw [if_neg hj]; exact g_none
theorem g_copyL {own : String} {n0 : Nat} {sp dp n : Int32} {o w l0 l1 : Nat} (hown : F.2.2.1 = own) (hd : decode F.1 pc = .ok (.invokestatic n0, 3)) (hp : pc + 3 = pc') (h1 : Cond.methodLink own n0 arraycopyName ∈ tb) (h2 : Cond.native arraycopyName ∈ tb) (h3 : Cond.static arraycopyName ∈ tb) (h4 : Cond.initialized "java/lang/System" ∈ tb) (ho : o < NO) (hw : w < NO) (hk : knd o = 1) (hkw : knd w = 1) (hn : oln o = l0) (hnw : oln w = l1) (hR : 1 ≤ F.2.2.2.2.1.1.frames) (hR2 : (st.map fun v => v.category).sum + (nativeFrameWords "java/lang/System" "arraycopy" 5 + 11) ≤ F.2.2.2.2.1.1.locals) (k : G q F φ pc' lv st (cpL X o (nx sp) w (nx dp) (nx n)) T) : G q F φ pc lv (.int n :: .int dp :: .ref (q.ad w) :: .int sp :: .ref (q.ad o) :: st) X (if cpOk sp dp n l0 l1 then T else none) := by
  by_cases hj : cpOk sp dp n l0 l1 = true
  · rw [if_pos hj]
    subst hp; subst hown; subst hn; subst hnw
    intro r hr p e s m args below meth c C H locs ls hl hP hS
    obtain ⟨c1, c2, c3, c4, c5⟩ := cpOk_s hj
    have hts : ∀ x ∈ tb, x.before args s = true := fun x hx => C.2.2.2.2.1 x (C.2.2.2.2.2.1 x hx)
    refine va_copyl (ty := .long) C.1 C.2.1 (by rw [C.2.2.1, hl.1]) C.2.2.2.1 (hts _ h1) (hts _ h2) (hts _ h3) (hts _ h4) C.2.2.2.2.2.2.1 hP (gw_D C.2.2.2.2.2.2.2.2.1 X) hS o w 1 1 (by rw [gw_get q X ho, cellE_j hk]) (by rw [gw_get q X hw, cellE_j hkw]) rfl rfl rfl c1 c2 c3 c4 c5 (fun _ _ => rfl) hR hR2 hd (fun H1 locs1 hP1 hD1 hS1 => ?_)
    rw [gw_cpL hkw] at hP1
    exact k r hr p e s m args below meth c C H1 locs1 ls hl hP1 hS1
  · rw [if_neg hj]; exact g_none
theorem g_run {w : Option Value × St} {rest st0 : List Value} {a : Array Value} {p : Program} {l : Launch} {e : Env} {R : Room} {s : State} {m : MethodId} {args : Array Value} {below : List Frame} {meth : Method} {c : Code} {H : Heap} {locs : List Loc} {cells slots : Nat} {Q : State → Prop} {ls : Array Slot} (hr : va_Run p l e R s m args below meth c H locs cells slots 0 0 (F0 m pc ls st0) rest (Qc q w a) (Fr q)) (hS : va_S (Fr q) s.heap H locs)
    (kk : ∀ (H1 : Heap) (locs1 : List Loc), va_P q.D clT (gw q w.2) H1 → va_S (Fr q) s.heap H1 locs1 → W p l e R s m args below meth c H1 locs1 cells slots Q (F0 m (pc + 3) ls (w.1.toList ++ rest))) : W p l e R s m args below meth c H locs cells slots Q (F0 m pc ls st0) := by
  intro T hT X
  obtain ⟨v, st₀, t, T', L, h0, X', hL, e1, e2, ⟨hv, hb, hz, hk⟩, st⟩ := hr T hT X
  cases hv
  rw [h0] at hz hk
  obtain ⟨t2, a1, b1⟩ := kk T'.heap (locs ++ L) (by rw [e1]; exact hb)
    ⟨Nat.le_trans hS.1 (by rw [e1]; exact hz), fun x h1 h2 => by rw [e1, hk x (Nat.lt_of_lt_of_le h1 hS.1) h2]; exact hS.2.1 x h1 h2, fun x hx => by
      rcases List.mem_append.mp hx with h | h
      · exact hS.2.2 x h
      · exact hL x h⟩ T' rfl X'
  exact ⟨t2, st t2 a1, b1⟩
/-- what the tables say of a method that is called on an object -/
def Yv (y : MN) (n : Nat) : Prop := Cond.instanceMethod y.1 ∈ tb ∧ Cond.selects y.1.cls y.1 y.1 ∈ tb ∧ Cond.initialized y.1.cls ∈ tb ∧ Cond.code y.1 y.2.1 y.2.2.1 y.2.2.2 ∈ tb ∧ (y.1.cls ≠ "java/lang/invoke/MethodHandle" ∧ y.1.cls ≠ "java/lang/invoke/VarHandle" ∧ (parseMethodDescriptor y.1.desc).map (fun d => d.parameters.length) = some n)
def Ys (y : MN) (n : Nat) : Prop := Cond.static y.1 ∈ tb ∧ Cond.initialized y.1.cls ∈ tb ∧ Cond.code y.1 y.2.1 y.2.2.1 y.2.2.2 ∈ tb ∧ (y.1.cls ≠ "java/lang/invoke/MethodHandle" ∧ y.1.cls ≠ "java/lang/invoke/VarHandle" ∧ (parseMethodDescriptor y.1.desc).map (fun d => d.parameters.length) = some n)
def wg (F : FrI) : Prop := ∀ z : MN, Cond.code z.1 z.2.1 z.2.2.1 z.2.2.2 ∈ tb → GoodIn F.2.2.2.1 (wl z)
theorem mF_wg {y : MN} {own : String} {d : Nat} : wg (mF q y own d) := fun _ h => gi h
theorem wd_pre {p : Program} {s : State} {m : MethodId} {args : Array Value} {meth : Method} {c : Code} {H : Heap} {locs : List Loc} (C : Cx q F p s m args meth c) (hP : va_P q.D clT (gw q X) H) (hS : va_S (Fr q) s.heap H locs) (av : List Value) : (∀ (a : Array Value) (U : State) (g : JFrame) (mk : MethodId), va_Pc av (Wd q X) a U → va_Pc av (Wd q X) a (U.calling g mk a)) ∧ ∀ U : State, U.heap = H → s.WarmedH U.vm → va_Pc av (Wd q X) av.toArray U := by
  refine ⟨fun a U g mk z => ?_, fun U hU hW => ?_⟩
  · obtain ⟨z0, z1, z2, z3, z4⟩ := z
    exact ⟨z0, z1, z2, va_K.moved (u := U) (U := U.calling g mk a) (Vm.Alike.refl U.vm) z3, Sf.same (u := U) rfl rfl z4⟩
  · exact ⟨rfl, C.2.2.2.2.2.2.2.2.1, by rw [hU]; exact hP, va_K.moved hW.alike C.2.2.2.2.2.2.1, Sf.warm hS hU hW C.2.2.2.2.2.2.2.1⟩
theorem g_callV {own : String} {ρ' : Type} {φ' : ρ' → Option Value × St} {y : MN} {n d o ci : Nat} {As st' : List Value} {Tc : Option ρ'} {Tt : u_T} {N : Nat} {ty : Nat → FieldType} {Kf : ρ' → Option ρ} (na : Nat) (hwg : wg F) (hown : F.2.2.1 = own) (hd : decode F.1 pc = .ok (.invokevirtual n, 3)) (hp : pc + 3 = pc') (hK : Kc ci y.1.cls Tt N ty) (ho : o < NO) (hk : knd o = ci + 5) (hy : Yv y na) (hl : Cond.methodLink own n y.1 ∈ tb) (hR : d + 1 ≤ F.2.2.2.2.1.1.frames ∧ 8 + (y.2.2.1 + 11) + 40 * d ≤ F.2.2.2.2.1.1.locals ∧ F.2.2.2.2.1.2.1 ≤ F.2.2.2.2.1.1.cells ∧ F.2.2.2.2.1.2.2 ≤ F.2.2.2.2.1.1.slots)
    (hc : Ct q y d φ' (.ref (q.ad o) :: As) X Tc) (hna : As.length = na) (hst : st' = As.reverse ++ .ref (q.ad o) :: st) (hrm : (st.map fun v => v.category).sum ≤ 8) (k : ∀ r', G q F φ pc' lv ((φ' r').1.toList ++ st) (φ' r').2 (Kf r')) : G q F φ pc lv st' X (Tc.bind Kf) := by
  subst hp; subst hown; subst hst
  intro r hr p e s m args below meth c C H locs ls hls hP hS
  cases hT : Tc with
  | none => rw [hT] at hr; cases hr
  | some r' =>
    rw [hT] at hr
    have hts : ∀ x ∈ tb, x.before args s = true := fun x hx => C.2.2.2.2.1 x (C.2.2.2.2.2.1 x hx)
    have hcw : CallW F.2.2.2.2.1.1 s args F.2.2.1 y.1.cls n y.1 y.2.1 y.2.2.1 y.2.2.2 (wl y) (rm d) 0 0 na := ⟨callB_of (Ts := F.2.2.2.1) na C.2.2.2.2.1 (hwg y hy.2.2.2.1) rfl rfl rfl (hts _ hy.2.2.1) (hts _ hl) hy.2.2.2.2 ⟨hR.1, hR.2.1⟩, hts _ hy.1, hts _ hy.2.1⟩
    obtain ⟨f1, f2⟩ := wd_pre C hP hS (.ref (q.ad o) :: As)
    exact g_run (va_runV ⟨C.1, C.2.1, C.2.2.1, C.2.2.2.1, C.2.2.2.2.1⟩ (hc r' hT) hcw ⟨f1, va_recv C.2.2.2.2.2.2.1 hP hK.1 (q0 := o) (by rw [gw_get q X ho, cellE_obj hk]), f2⟩ rfl hna hls.1 rfl (lv_room hrm) hd ⟨hR.2.2.1, hR.2.2.2⟩) hS (fun H1 locs1 hP1 hS1 => k r' r hr p e s m args below meth c C H1 locs1 ls hls hP1 hS1)
theorem g_callS {own : String} {ρ' : Type} {φ' : ρ' → Option Value × St} {y : MN} {n d : Nat} {As st' : List Value} {Tc : Option ρ'} {Kf : ρ' → Option ρ} (na : Nat) (hwg : wg F) (hown : F.2.2.1 = own) (hd : decode F.1 pc = .ok (.invokestatic n, 3)) (hp : pc + 3 = pc') (hy : Ys y na) (hl : Cond.methodLink own n y.1 ∈ tb) (hR : d + 1 ≤ F.2.2.2.2.1.1.frames ∧ 8 + (y.2.2.1 + 11) + 40 * d ≤ F.2.2.2.2.1.1.locals ∧ F.2.2.2.2.1.2.1 ≤ F.2.2.2.2.1.1.cells ∧ F.2.2.2.2.1.2.2 ≤ F.2.2.2.2.1.1.slots)
    (hc : Ct q y d φ' As X Tc) (hna : As.length = na) (hst : st' = As.reverse ++ st) (hrm : (st.map fun v => v.category).sum ≤ 8) (k : ∀ r', G q F φ pc' lv ((φ' r').1.toList ++ st) (φ' r').2 (Kf r')) : G q F φ pc lv st' X (Tc.bind Kf) := by
  subst hp; subst hown; subst hst
  intro r hr p e s m args below meth c C H locs ls hls hP hS
  cases hT : Tc with
  | none => rw [hT] at hr; cases hr
  | some r' =>
    rw [hT] at hr
    have hts : ∀ x ∈ tb, x.before args s = true := fun x hx => C.2.2.2.2.1 x (C.2.2.2.2.2.1 x hx)
    have hcw : CallB F.2.2.2.2.1.1 s args F.2.2.1 n y.1 y.2.1 y.2.2.1 y.2.2.2 (wl y) (rm d) 0 0 na ∧ (Cond.static y.1).before args s = true := ⟨callB_of (Ts := F.2.2.2.1) na C.2.2.2.2.1 (hwg y hy.2.2.1) rfl rfl rfl (hts _ hy.2.1) (hts _ hl) hy.2.2.2 ⟨hR.1, hR.2.1⟩, hts _ hy.1⟩
    obtain ⟨f1, f2⟩ := wd_pre C hP hS As
    exact g_run (va_runS ⟨C.1, C.2.1, C.2.2.1, C.2.2.2.1, C.2.2.2.2.1⟩ (hc r' hT) hcw ⟨f1, f2⟩ rfl hna hls.1 rfl (lv_room hrm) hd ⟨hR.2.2.1, hR.2.2.2⟩) hS (fun H1 locs1 hP1 hS1 => k r' r hr p e s m args below meth c C H1 locs1 ls hls hP1 hS1)
/-- a value that needs no asking -/
theorem bind_some {α β : Type} {a : α} {f : α → Option β} : (some a).bind f = f a := rfl
def fiw : Int32 × St → Option Value × St := fun r => (some (.int r.1), r.2)
def fvw : St → Option Value × St := fun X => (none, X)
def flw : Int64 × St → Option Value × St := fun r => (some (.long r.1), r.2)
def fir (X : St) : Int32 → Option Value × St := fun v => (some (.int v), X)
def flr (X : St) : Int64 → Option Value × St := fun v => (some (.long v), X)
def frr (q : Th) (X : St) : Nat → Option Value × St := fun o => (some (.ref (q.ad o)), X)
section ENDS
variable {y : MN} {own : String} {d : Nat} {r : ρ}
theorem g_iret {v : Int32} (hd : decode y.2.1 pc = .ok (.ireturn, 1)) (hr : y.2.2.2 = some .int) (hv : φ r = (some (.int v), X)) : G q (mF q y own d) φ pc lv [.int v] X (some r) := by
  intro r0 h0 p e s m args below meth c C H locs ls hl hP hS
  cases h0
  have e1 : meth.sig.returnType = some .int := C.2.2.2.2.2.2.2.2.2.1.trans hr
  have e2 : meth.locks = false := C.2.2.2.2.2.2.2.2.2.2
  show W _ _ _ _ _ _ _ _ _ _ _ _ _ _ (MQ below (Qc q (φ r)) args s 0 0 (Fr q)) _
  rw [hv]
  exact W.iret C.1 C.2.1 e1 (fun t ht hW => ⟨rfl, by rw [ht]; exact hP, hS.F ht⟩) hS.2.2 hd e2
theorem g_zret {v : Int32} (hd : decode y.2.1 pc = .ok (.ireturn, 1)) (hr : y.2.2.2 = some .boolean) (hz : isZ v = true) (hv : φ r = (some (.int v), X)) : G q (mF q y own d) φ pc lv [.int v] X (some r) := by
  intro r0 h0 p e s m args below meth c C H locs ls hl hP hS
  cases h0
  have e1 : meth.sig.returnType = some .boolean := C.2.2.2.2.2.2.2.2.2.1.trans hr
  have e2 : meth.locks = false := C.2.2.2.2.2.2.2.2.2.2
  have hz2 : v &&& 1 = v := isZ_and hz
  show W _ _ _ _ _ _ _ _ _ _ _ _ _ _ (MQ below (Qc q (φ r)) args s 0 0 (Fr q)) _
  rw [hv]
  exact W.zret (ty := .boolean) C.1 C.2.1 e1 (by show Value.int (v &&& 1) = _; rw [hz2]) (fun t ht hW => ⟨rfl, by rw [ht]; exact hP, hS.F ht⟩) hS.2.2 hd e2
theorem g_zretD {v : Int32} (hd : decode y.2.1 pc = .ok (.ireturn, 1)) (hr : y.2.2.2 = some .boolean) (hv : φ r = (some (.int v), X)) : G q (mF q y own d) φ pc lv [.int v] X (if isZ v then some r else none) := by
  by_cases hz : isZ v = true
  · rw [if_pos hz]; exact g_zret hd hr hz hv
  · rw [if_neg hz]; exact g_none
theorem g_lret {v : Int64} (hd : decode y.2.1 pc = .ok (.lreturn, 1)) (hr : y.2.2.2 = some .long) (hv : φ r = (some (.long v), X)) : G q (mF q y own d) φ pc lv [.long v] X (some r) := by
  intro r0 h0 p e s m args below meth c C H locs ls hl hP hS
  cases h0
  have e1 : meth.sig.returnType = some .long := C.2.2.2.2.2.2.2.2.2.1.trans hr
  have e2 : meth.locks = false := C.2.2.2.2.2.2.2.2.2.2
  show W _ _ _ _ _ _ _ _ _ _ _ _ _ _ (MQ below (Qc q (φ r)) args s 0 0 (Fr q)) _
  rw [hv]
  exact W.lret C.1 C.2.1 e1 (fun t ht hW => ⟨rfl, by rw [ht]; exact hP, hS.F ht⟩) hS.2.2 hd e2
theorem g_vret (hd : decode y.2.1 pc = .ok (.return_, 1)) (hr : y.2.2.2 = none) (hv : φ r = (none, X)) : G q (mF q y own d) φ pc lv [] X (some r) := by
  intro r0 h0 p e s m args below meth c C H locs ls hl hP hS
  cases h0
  have e1 : meth.sig.returnType = none := C.2.2.2.2.2.2.2.2.2.1.trans hr
  have e2 : meth.locks = false := C.2.2.2.2.2.2.2.2.2.2
  show W _ _ _ _ _ _ _ _ _ _ _ _ _ _ (MQ below (Qc q (φ r)) args s 0 0 (Fr q)) _
  rw [hv]
  exact W.vret C.1 C.2.1 e1 (fun t ht hW => ⟨rfl, by rw [ht]; exact hP, hS.F ht⟩) hS.2.2 hd e2
theorem g_aret {a : Nat} {t : FieldType} (hd : decode y.2.1 pc = .ok (.areturn, 1)) (hr : y.2.2.2 = some (.array t)) (hv : φ r = (some (.ref a), X)) : G q (mF q y own d) φ pc lv [.ref a] X (some r) := by
  intro r0 h0 p e s m args below meth c C H locs ls hl hP hS
  cases h0
  have e1 : meth.sig.returnType = some (.array t) := C.2.2.2.2.2.2.2.2.2.1.trans hr
  have e2 : meth.locks = false := C.2.2.2.2.2.2.2.2.2.2
  show W _ _ _ _ _ _ _ _ _ _ _ _ _ _ (MQ below (Qc q (φ r)) args s 0 0 (Fr q)) _
  rw [hv]
  exact W.aret C.1 C.2.1 e1 (Or.inr ⟨t, rfl⟩) (Or.inr ⟨a, rfl⟩) (fun t ht hW => ⟨rfl, by rw [ht]; exact hP, hS.F ht⟩) hS.2.2 hd e2
end ENDS
end RULES3
