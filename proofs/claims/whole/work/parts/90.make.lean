/-! making the objects: the same picture while they come, one behind another -/
abbrev Zt : Type := St × (Nat → Nat → Bool)
def zI (Z : Zt) (o i : Nat) (v : Int32) : Zt := (stI Z.1 o i v, Z.2)
def zR (Z : Zt) (o i : Nat) : Zt := (Z.1, fun o' i' => if o' = o ∧ i' = i then true else Z.2 o' i')
def fvalK (q : Th) (Z : Zt) (o i : Nat) : Value := match ofr o i with
  | none => .int (Z.1.1 o i)
  | some r => if Z.2 o i = true then .ref (q.ad r) else .null
def fldsK (q : Th) (Z : Zt) (o : Nat) : List Value := (List.range (oln o)).map (fvalK q Z o)
def cellK (q : Th) (Z : Zt) (o : Nat) : va_E := match knd o with
  | 0 => .inl (q.ids 0, oln o, .inl (Z.1.1 o))
  | 1 => .inl (q.ids 1, oln o, .inr (.inl (Z.1.2 o)))
  | 2 => .inl (q.ids 2, oln o, .inl (Z.1.1 o))
  | 3 => .inl (q.ids 3, oln o, .inr (.inr (.inr (.inr (fun i => if i < oln o then some (q.ad (obs o + i)) else none)))))
  | 4 => .inl (q.ids 4, oln o, .inr (.inr (.inr (.inr (fun i => if i < oln o then some (q.ad (obs o + i)) else none)))))
  | k + 5 => .inr (k, fldsK q Z o)
def gwK (q : Th) (K : Nat) (Z : Zt) : va_W := (List.range K).map (fun o => (q.ad o, cellK q Z o))
theorem gwK_get (q : Th) (Z : Zt) {K o : Nat} (h : o < K) : (gwK q K Z)[o]? = some (q.ad o, cellK q Z o) := by
  unfold gwK
  rw [List.getElem?_map, List.getElem?_range h]
  rfl
theorem gwK_set (q : Th) {K : Nat} {Z Z' : Zt} {o : Nat} {e : va_E} (he : cellK q Z' o = e) (ho : ∀ o', o' ≠ o → cellK q Z' o' = cellK q Z o') : (gwK q K Z).set o (q.ad o, e) = gwK q K Z' := by
  unfold gwK
  exact rmap_set (by rw [he]) (fun j hj => by rw [ho j hj])
theorem cellK_obj {q : Th} {Z : Zt} {o ci : Nat} (hk : knd o = ci + 5) : cellK q Z o = .inr (ci, fldsK q Z o) := by
  unfold cellK
  rw [hk]
theorem cellK_i {q : Th} {Z : Zt} {o : Nat} (hk : knd o = 0) : cellK q Z o = .inl (q.ids 0, oln o, .inl (Z.1.1 o)) := by
  unfold cellK
  rw [hk]
theorem fldsK_get {q : Th} {Z : Zt} {o k : Nat} (h : k < oln o) : (fldsK q Z o)[k]? = some (fvalK q Z o k) := by
  unfold fldsK
  rw [List.getElem?_map, List.getElem?_range h]
  rfl
theorem fldsK_setI {q : Th} {Z : Zt} {o k : Nat} {v : Int32} (hr : ofr o k = none) : (fldsK q Z o).set k (.int v) = fldsK q (zI Z o k v) o := by
  unfold fldsK
  refine rmap_set ?_ (fun j hj => ?_)
  · unfold fvalK
    rw [hr]
    simp [zI, stI]
  · unfold fvalK
    cases ofr o j with
    | none => simp [zI, stI, hj]
    | some r => rfl
theorem fldsK_setR {q : Th} {Z : Zt} {o k r : Nat} (hr : ofr o k = some r) : (fldsK q Z o).set k (.ref (q.ad r)) = fldsK q (zR Z o k) o := by
  unfold fldsK
  refine rmap_set ?_ (fun j hj => ?_)
  · unfold fvalK
    rw [hr]
    simp [zR]
  · unfold fvalK
    cases ofr o j with
    | none => rfl
    | some r => simp [zR, hj]
theorem cellK_ne {q : Th} {Z Z' : Zt} {o : Nat} (h1 : Z'.1.1 o = Z.1.1 o) (h2 : Z'.1.2 o = Z.1.2 o) (h3 : Z'.2 o = Z.2 o) : cellK q Z' o = cellK q Z o := by
  have h4 : fldsK q Z' o = fldsK q Z o := by
    unfold fldsK
    exact List.map_congr_left (fun i _ => by unfold fvalK; rw [h1, h3])
  unfold cellK
  rw [h1, h2, h4]
theorem gwK_fput {q : Th} {K : Nat} {Z : Zt} {o ci k : Nat} {v : Int32} (hk : knd o = ci + 5) (hr : ofr o k = none) : (gwK q K Z).set o (q.ad o, .inr (ci, (fldsK q Z o).set k (.int v))) = gwK q K (zI Z o k v) :=
  gwK_set q (by rw [cellK_obj hk, fldsK_setI hr]) (fun o' h => cellK_ne (stI_ne h) rfl rfl)
theorem gwK_rput {q : Th} {K : Nat} {Z : Zt} {o ci k r : Nat} (hk : knd o = ci + 5) (hr : ofr o k = some r) : (gwK q K Z).set o (q.ad o, .inr (ci, (fldsK q Z o).set k (.ref (q.ad r)))) = gwK q K (zR Z o k) :=
  gwK_set q (by rw [cellK_obj hk, fldsK_setR hr]) (fun o' h => cellK_ne rfl rfl (by funext i'; simp [zR, h]))
theorem gwK_iput {q : Th} {K : Nat} {Z : Zt} {o i : Nat} {v : Int32} (hk : knd o = 0) : (gwK q K Z).set o (q.ad o, .inl (q.ids 0, oln o, .inl (upd (Z.1.1 o) i v))) = gwK q K (zI Z o i v) :=
  gwK_set q (by rw [cellK_i hk]; exact congrArg _ (congrArg _ (congrArg _ (congrArg _ stI_upd)))) (fun o' h => cellK_ne (stI_ne h) rfl rfl)
/-- nothing is said yet of what isn't there -/
def zr (Z : Zt) (K : Nat) : Prop := ∀ o, K ≤ o → (∀ i, Z.1.1 o i = 0) ∧ (∀ i, Z.1.2 o i = 0) ∧ ∀ i, Z.2 o i = false
theorem zr.up {Z : Zt} {K K' : Nat} (h : zr Z K) (hk : K ≤ K') : zr Z K' := fun o ho => h o (Nat.le_trans hk ho)
theorem zr.I {Z : Zt} {K o i : Nat} {v : Int32} (h : zr Z K) (ho : o < K) : zr (zI Z o i v) K := fun o' h' => by
  have hne : o' ≠ o := by omega
  obtain ⟨h1, h2, h3⟩ := h o' h'
  exact ⟨fun j => by show (stI Z.1 o i v).1 o' j = 0; rw [stI_ne hne]; exact h1 j, h2, h3⟩
theorem zr.R {Z : Zt} {K o i : Nat} (h : zr Z K) (ho : o < K) : zr (zR Z o i) K := fun o' h' => by
  have hne : o' ≠ o := by omega
  obtain ⟨h1, h2, h3⟩ := h o' h'
  exact ⟨h1, h2, fun j => by simp [zR, hne, h3 j]⟩
theorem gwK_D {q : Th} {B : Nat} (hq : ∀ o, q.ad o = B + o) (K : Nat) (Z : Zt) : va_D (fun a => B ≤ a) (gwK q K Z) := by
  have key : ∀ (k : Nat) (x : Nat × va_E), (gwK q K Z)[k]? = some x → x.1 = B + k := by
    intro k x hx
    have hl : k < K := by simpa [gwK] using (List.getElem?_eq_some_iff.mp hx).1
    rw [gwK_get q Z hl] at hx
    cases hx
    exact hq k
  refine ⟨fun i j x y hx hy hxy => ?_, fun k x hx => ?_⟩
  · have h1 := key i x hx
    have h2 := key j y hy
    omega
  · have h1 := key k x hx
    show B ≤ x.1
    omega
/-- one more object behind those that are there -/
theorem gwK_push {q : Th} {B K : Nat} {Z : Zt} {H H1 : Heap} (hq : ∀ o, q.ad o = B + o) (hP : va_P q.D clT (gwK q K Z) H) (hH : H.size = B + K) (ho : ∀ a, a < B + K → H1[a]? = H[a]?) {N : Nat} (hn : ∀ j, j < N → va_at q.D clT (q.ad (K + j), cellK q Z (K + j)) H1) : va_P q.D clT (gwK q (K + N) Z) H1 := by
  intro k x hx
  have hl : k < K + N := by simpa [gwK] using (List.getElem?_eq_some_iff.mp hx).1
  rw [gwK_get q Z hl] at hx
  cases hx
  by_cases hk : k < K
  · have h1 := hP k _ (gwK_get q Z hk)
    exact h1.kept (ho _ (by rw [hq]; omega))
  · have e : k = K + (k - K) := by omega
    rw [e]
    exact hn (k - K) (by omega)
def nests : List Cond := [Cond.methodLinkNest RX11 27 yX8_init RX11, Cond.methodLinkNest RX11 34 yX4_init RX11, Cond.methodLinkNest RX11 41 yX6_init RX11, Cond.methodLinkNest RX11 57 yX2_init RX11, Cond.methodLinkNest RX11 71 yX1_init RX11, Cond.methodLinkNest RX11 78 yX10_init RX11]
def aoF (t : FieldType) (U : State) : Prop := (Cond.arrayOver (.array t)).before #[] U = true
theorem aoF.moved {t : FieldType} {u U : State} (hvm : u.vm.Alike U.vm) (h : aoF t u) : aoF t U := by
  obtain ⟨comp, c, k, h1, h2, h3, h4, h5⟩ := arrayOverA_spec h
  obtain ⟨k', hk', he⟩ := hvm.2.2 _ _ h3
  have hi : (U.vm.classes.findIdx? fun (x : Class) => match x.kind with | .array component _ => component == comp | _ => false) = some c := by
    have e1 := va_idx_bare U.vm comp
    have e2 := va_idx_bare u.vm comp
    first | rw [hvm.bare_eq] at e2 | rw [← hvm.bare_eq] at e2
    exact e1.symm.trans (e2.trans h2)
  have f1 : U.vm.findClass (FieldType.array t).toString = some comp := by rw [hvm.findClass]; exact h1
  have f2 : U.vm.findClass ("[" ++ (FieldType.array t).toString) = some c := by rw [hvm.findClass]; exact h5
  have hkind : k'.kind = .array comp (.array t) := by rw [he]; exact h4
  unfold aoF Cond.before Cond.holds
  simp only [Cond.value]
  rw [f1, Option.bind_some]
  refine (congrArg (fun o : Option Nat => (o.bind (fun c => (U.vm.classes[c]?).map fun (k : Class) => match k.kind with | .array _ ty => decide (ty = FieldType.array t) && decide (U.vm.findClass ("[" ++ (FieldType.array t).toString) = some c) | _ => false) == some true)) hi).trans ?_
  simp [hk', hkind, f2]
/-- what making wants of the tables beside their steady words -/
def NwF (U : State) : Prop := aoF .int U ∧ aoF .long U ∧ ∀ (i : Nat) (x : MethodName) (h : String), Cond.methodLinkNest RX11 i x h ∈ nests → va_Nw (.methodLinkNest RX11 i x h) U
theorem NwF.warm {s U : State} (hW : s.WarmedH U.vm) (h : NwF s) : NwF U := ⟨h.1.moved hW.alike, h.2.1.moved hW.alike, fun i x hh hm => va_Nw.warmM hW (h.2.2 i x hh hm)⟩
theorem NwF.same {u U : State} (hv : U.vm = u.vm) (h : NwF u) : NwF U := ⟨h.1.moved (by rw [hv]; exact Vm.Alike.refl _), h.2.1.moved (by rw [hv]; exact Vm.Alike.refl _), fun i x hh hm => va_Nw.same rfl hv.symm (h.2.2 i x hh hm)⟩
def rmK (d mc ms : Nat) : Room := { frames := d, cells := mc, slots := ms, locals := 40 * d }
def WdK (q : Th) (B K : Nat) (Z : Zt) (U : State) : Prop := (∀ o, q.ad o = B + o) ∧ va_P q.D clT (gwK q K Z) U.heap ∧ U.heap.size = B + K ∧ va_K q.D clT (tysT q) U ∧ NwF U
def QcK (q : Th) (B K : Nat) (Z : Zt) : Array Value → State → Outcome → State → Prop := fun _ st oc t => oc = .returned none ∧ va_P q.D clT (gwK q K Z) t.heap ∧ t.heap.size = B + K ∧ va_F (fun a => B ≤ a) st t
def CtK (q : Th) (B : Nat) (y : MN) (d mc ms : Nat) (av : List Value) (K : Nat) (Z : Zt) (K' : Nat) (Z' : Zt) : Prop :=
  Met q.l y.1 (wl y) (rmK d mc ms) (va_Pc av (WdK q B K Z)) (QcK q B K' Z') mc ms (fun a => B ≤ a)
/-- a frame in which things are made: base, bytes, locals, own name, words, room, what it is asked for, what else it knows -/
abbrev KI : Type := Nat × ByteArray × Nat × String × List Cond × Room × (List Frame → Array Value → State → State → Prop) × (State → Method → Array Value → Prop)
def CxK (q : Th) (F : KI) (p : Program) (s : State) (m : MethodId) (args : Array Value) (meth : Method) (c : Code) : Prop :=
  p.tables.exec = Jvm.exec ∧ c.code = F.2.1 ∧ c.maxLocals = F.2.2.1 ∧ s.vm.findClass F.2.2.2.1 = some m.cls ∧ (∀ w ∈ F.2.2.2.2.1, w.before args s = true) ∧ (∀ w ∈ tb, w ∈ F.2.2.2.2.1) ∧ va_K q.D clT (tysT q) s ∧ NwF s ∧ (∀ o, q.ad o = F.1 + o) ∧ F.2.2.2.2.2.2.2 s meth args
def GK (q : Th) (F : KI) (pc : Nat) (lv : List (Nat × Value)) (st : List Value) (K : Nat) (Z : Zt) (nc ns : Nat) : Prop :=
  zr Z K → ∀ (p : Program) (e : Env) (s : State) (m : MethodId) (args : Array Value) (below : List Frame) (meth : Method) (c : Code), CxK q F p s m args meth c →
    ∀ (H : Heap) (locs : List Loc) (ls : Array Slot), lv_has ls F.2.2.1 lv → va_P q.D clT (gwK q K Z) H → H.size = F.1 + K → va_S (fun a => F.1 ≤ a) s.heap H locs →
      W p q.l e F.2.2.2.2.2.1 s m args below meth c H locs nc ns (F.2.2.2.2.2.2.1 below args s) (F0 m pc ls st)
def kEx : State → Method → Array Value → Prop := fun _ meth _ => meth.sig.returnType = none ∧ meth.locks = false ∧ meth.name = "<init>"
abbrev kF (q : Th) (B : Nat) (y : MN) (own : String) (d mc ms : Nat) (Ke : Nat) (Ze : Zt) : KI := (B, y.2.1, y.2.2.1, own, wl y, rmK d mc ms, (fun below args s => MQ below (QcK q B Ke Ze) args s mc ms (fun a => B ≤ a)), kEx)
theorem ctK_of {q : Th} {B : Nat} {y : MN} {d mc ms K K' : Nat} {Z Z' : Zt} {av : List Value} (hy : plainName y.1.cls = true) (hi : y.1.name = "<init>") (hr : y.2.2.2 = none) (hlen : (lg_sl av).length ≤ y.2.2.1) (hz : zr Z K) (k : GK q (kF q B y y.1.cls d mc ms K' Z') 0 (lv_args 0 av) [] K Z 0 0) : CtK q B y d mc ms av K Z K' Z' := by
  refine Met.ofW (cc := y.2.1) (maxL := y.2.2.1) (ret := y.2.2.2) (ws' := tb) hy rfl ?_
  intro p e s m args below meth c s₁ Bd hml hv
  obtain ⟨rfl, hq, hP, hH, hK, hN⟩ := hv
  rw [lg_entry_eq]
  have hts := atoms_spec (ws := wl y) Bd.pre
  have hnm : meth.name = "<init>" := (name_of_methodNamed Bd.named Bd.method).1.trans hi
  exact k hz p e s m _ below meth c ⟨Bd.exec, Bd.bytes, hml, findClass_of_methodNamed Bd.named, hts, fun w hw => List.mem_cons_of_mem _ hw, hK, hN, hq, Bd.returns.trans hr, Bd.notSynchronized, hnm⟩ s.heap [] _ (lv_entry av hlen) hP hH va_S.rf
section RULESK
variable {q : Th} {F : KI} {pc pc' : Nat} {lv lv' : List (Nat × Value)} {st : List Value} {K : Nat} {Z : Zt} {nc ns : Nat}
theorem k_iconst {n : Int} {v : Int32} (hd : decode F.2.1 pc = .ok (.iconst n, 1)) (hp : pc + 1 = pc') (hv : Int32.ofInt n = v) (k : GK q F pc' lv (.int v :: st) K Z nc ns) : GK q F pc lv st K Z nc ns := by
  subst hp
  exact fun hz p e s m args below meth c C H locs ls hl hP hH hS => lv_iconst C.1 C.2.1 hd hv (k hz p e s m args below meth c C H locs ls hl hP hH hS)
theorem k_bipush {n : Int} {v : Int32} (hd : decode F.2.1 pc = .ok (.bipush n, 2)) (hp : pc + 2 = pc') (hv : (Int8.ofInt n).toInt32 = v) (k : GK q F pc' lv (.int v :: st) K Z nc ns) : GK q F pc lv st K Z nc ns := by
  subst hp
  exact fun hz p e s m args below meth c C H locs ls hl hP hH hS => lv_bipush C.1 C.2.1 hd hv (k hz p e s m args below meth c C H locs ls hl hP hH hS)
theorem k_sipush {n : Int} {v : Int32} (hd : decode F.2.1 pc = .ok (.sipush n, 3)) (hp : pc + 3 = pc') (hv : (Int16.ofInt n).toInt32 = v) (k : GK q F pc' lv (.int v :: st) K Z nc ns) : GK q F pc lv st K Z nc ns := by
  subst hp
  exact fun hz p e s m args below meth c C H locs ls hl hP hH hS => lv_sipush C.1 C.2.1 hd hv (k hz p e s m args below meth c C H locs ls hl hP hH hS)
theorem k_iload_n {n : Fin 4} {x : Int32} (i : Nat) (hd : decode F.2.1 pc = .ok (.iload_n n, 1)) (hp : pc + 1 = pc') (hx : lv[i]? = some ((n : Nat), .int x)) (k : GK q F pc' lv (.int x :: st) K Z nc ns) : GK q F pc lv st K Z nc ns := by
  subst hp
  exact fun hz p e s m args below meth c C H locs ls hl hP hH hS => lv_iload_n C.1 C.2.1 hd rfl (lv_at hl i hx) (k hz p e s m args below meth c C H locs ls hl hP hH hS)
theorem k_aload_n {n : Fin 4} {x : Nat} (i : Nat) (hd : decode F.2.1 pc = .ok (.aload_n n, 1)) (hp : pc + 1 = pc') (hx : lv[i]? = some ((n : Nat), .ref x)) (k : GK q F pc' lv (.ref x :: st) K Z nc ns) : GK q F pc lv st K Z nc ns := by
  subst hp
  exact fun hz p e s m args below meth c C H locs ls hl hP hH hS => lv_aload_n C.1 C.2.1 hd rfl (lv_at hl i hx) (k hz p e s m args below meth c C H locs ls hl hP hH hS)
theorem k_istore_n {n : Fin 4} {i : Nat} {x : Int32} (hd : decode F.2.1 pc = .ok (.istore_n n, 1)) (hp : pc + 1 = pc') (hi : (n : Nat) = i) (hn : i < F.2.2.1) (hv : (i, Value.int x) :: lv.filter (fun q => !(q.1 == i) && !(q.1 + 1 == i && q.2.category == 2)) = lv') (k : GK q F pc' lv' st K Z nc ns) : GK q F pc lv (.int x :: st) K Z nc ns := by
  subst hp
  exact fun hz p e s m args below meth c C H locs ls hl hP hH hS => lv_istore_n C.1 C.2.1 hd hi hl hn hv (fun ls hl => k hz p e s m args below meth c C H locs ls hl hP hH hS)
theorem k_astore_n {n : Fin 4} {i : Nat} {x : Nat} (hd : decode F.2.1 pc = .ok (.astore_n n, 1)) (hp : pc + 1 = pc') (hi : (n : Nat) = i) (hn : i < F.2.2.1) (hv : (i, Value.ref x) :: lv.filter (fun q => !(q.1 == i) && !(q.1 + 1 == i && q.2.category == 2)) = lv') (k : GK q F pc' lv' st K Z nc ns) : GK q F pc lv (.ref x :: st) K Z nc ns := by
  subst hp
  exact fun hz p e s m args below meth c C H locs ls hl hP hH hS => lv_astore_n C.1 C.2.1 hd hi hl hn hv (fun ls hl => k hz p e s m args below meth c C H locs ls hl hP hH hS)
theorem k_iinc {i : Nat} {n : Int} {x v : Int32} (j : Nat) (hd : decode F.2.1 pc = .ok (.iinc i n, 3)) (hp : pc + 3 = pc') (hj : lv[j]? = some (i, .int x)) (hx : x + Int32.ofInt n = v) (hn : i < F.2.2.1) (hv : (i, Value.int v) :: lv.filter (fun q => !(q.1 == i) && !(q.1 + 1 == i && q.2.category == 2)) = lv') (k : GK q F pc' lv' st K Z nc ns) : GK q F pc lv st K Z nc ns := by
  subst hp
  exact fun hz p e s m args below meth c C H locs ls hl hP hH hS => lv_iinc C.1 C.2.1 hd hl hj hx hn hv (fun ls hl => k hz p e s m args below meth c C H locs ls hl hP hH hS)
theorem k_dup {v : Value} (hd : decode F.2.1 pc = .ok (.dup, 1)) (hp : pc + 1 = pc') (hv : v.category = 1) (k : GK q F pc' lv (v :: v :: st) K Z nc ns) : GK q F pc lv (v :: st) K Z nc ns := by
  subst hp
  exact fun hz p e s m args below meth c C H locs ls hl hP hH hS => lv_dup C.1 C.2.1 hd hv (k hz p e s m args below meth c C H locs ls hl hP hH hS)
theorem k_goto {off : Int} {tgt : Nat} (hd : decode F.2.1 pc = .ok (.goto off, 3)) (ht : (pc : Int) + off = (tgt : Int)) (k : GK q F tgt lv st K Z nc ns) : GK q F pc lv st K Z nc ns := fun hz p e s m args below meth c C H locs ls hl hP hH hS => lv_goto C.1 C.2.1 hd ht (k hz p e s m args below meth c C H locs ls hl hP hH hS)
theorem k_ge_f {x y : Int32} {off : Int} {tgt : Nat} (hd : decode F.2.1 pc = .ok (.if_icmp .ge off, 3)) (hp : pc + 3 = pc') (ht : (pc : Int) + off = (tgt : Int)) (h : x < y) (k : GK q F pc' lv st K Z nc ns) : GK q F pc lv (.int y :: .int x :: st) K Z nc ns := by
  subst hp
  exact fun hz p e s m args below meth c C H locs ls hl hP hH hS => lv_icmp_ge C.1 C.2.1 hd ht (fun z => absurd h (Int32.not_lt.mpr z)) (fun _ => (k hz p e s m args below meth c C H locs ls hl hP hH hS))
theorem k_ge_t {x y : Int32} {off : Int} {tgt : Nat} (hd : decode F.2.1 pc = .ok (.if_icmp .ge off, 3)) (ht : (pc : Int) + off = (tgt : Int)) (h : y ≤ x) (k : GK q F tgt lv st K Z nc ns) : GK q F pc lv (.int y :: .int x :: st) K Z nc ns :=
  fun hz p e s m args below meth c C H locs ls hl hP hH hS => lv_icmp_ge C.1 C.2.1 hd ht (fun _ => (k hz p e s m args below meth c C H locs ls hl hP hH hS)) (fun z => absurd h z)
theorem k_getR {own C' : String} {Tt : u_T} {N ci n : Nat} {ty : Nat → FieldType} (o k w : Nat) (hown : F.2.2.2.1 = own) (hd : decode F.2.1 pc = .ok (.getfield n, 3)) (hp : pc + 3 = pc') (hK : Kc ci C' Tt N ty) (hw : Fl own n Tt k) (ho : o < K) (hk : knd o = ci + 5) (hn : oln o = N) (hk2 : k < N) (hr : ofr o k = some w) (hz2 : Z.2 o k = true) (kk : GK q F pc' lv (.ref (q.ad w) :: st) K Z nc ns) : GK q F pc lv (.ref (q.ad o) :: st) K Z nc ns := by
  subst hp; subst hown; subst hn
  intro hz p e s m args below meth c C H locs ls hl hP hH hS
  exact va_get (Ts := tb) C.1 C.2.1 (fun w hw => C.2.2.2.2.1 w (C.2.2.2.2.2.1 w hw)) hK.2.1 C.2.2.2.1 C.2.2.2.2.2.2.1 hP o (by rw [gwK_get q Z ho, cellK_obj hk]) hK.1 k hk2 (C.2.2.2.2.1 _ (C.2.2.2.2.2.1 _ hw)) (fun _ h => h) (by rw [fldsK_get hk2]; unfold fvalK; rw [hr]; simp [hz2]) hd (kk hz p e s m args below meth c C H locs ls hl hP hH hS)

theorem k_putI {own C' : String} {Tt : u_T} {N ci n : Nat} {ty : Nat → FieldType} {v : Int32} (o k : Nat) (hown : F.2.2.2.1 = own) (hd : decode F.2.1 pc = .ok (.putfield n, 3)) (hp : pc + 3 = pc') (hK : Kc ci C' Tt N ty) (hw : Fl own n Tt k) (ho : o < K) (hk : knd o = ci + 5) (hn : oln o = N) (hk2 : k < N) (hr : ofr o k = none) (hfin : (Tt k).2.2.2 = false) (ht : ty k = .int) (kk : GK q F pc' lv st K (zI Z o k v) nc ns) : GK q F pc lv (.int v :: .ref (q.ad o) :: st) K Z nc ns := by
  subst hp; subst hown; subst hn
  intro hz p e s m args below meth c C H locs ls hl hP hH hS
  have hts : ∀ w ∈ tb, w.before args s = true := (fun w hw => C.2.2.2.2.1 w (C.2.2.2.2.2.1 w hw))
  have he : (gwK q K Z)[o]? = some (q.ad o, .inr (ci, fldsK q Z o)) := by rw [gwK_get q Z ho, cellK_obj hk]
  have hD := gwK_D C.2.2.2.2.2.2.2.2.1 K Z
  have hap := va_apart (own := F.2.2.2.1) hts hK.2.1 ty hK.2.2.1 hK.2.2.2 C.2.2.2.2.2.2.1 hK.1
  obtain ⟨r, h1, cell, q1, q2, q3, q4⟩ := hP o _ he
  have hr2 : r = (C', Tt, oln o) := Option.some.inj (h1.symm.trans hK.1)
  subst hr2
  obtain ⟨hSl, hfc, kC, hkC, hkind⟩ := C.2.2.2.2.2.2.1.1 ci _ hK.1
  obtain ⟨cf, kf, fi, f, hi, hsl⟩ := hSl k hk2
  have hlay := hts _ (hK.2.1 _ (u_in_lay hk2))
  unfold u_lay at hlay
  rw [if_neg (by rw [hfin]; decide)] at hlay
  have hst := (u_facts hfc hkC (u_lays hts hK.2.1 hk2) hi).1
  have h6 := u_store (ty := .int) (v := .int v) hfc hkC hkind hlay hi (by rw [hK.2.2.1 k hk2, ht]) rfl rfl
  refine W.putK C.1 C.2.1 (f := f) ⟨C.2.2.2.1, hts _ hw, ⟨_, _, _, hi⟩, hst⟩ (by rw [q2]; exact h6) q1 q3 (by rw [hsl]; exact k2_hasslot (q4 k hk2)) rfl rfl hd fun H' e1 e2 e3 => ?_
  rw [hsl] at e1 ⊢
  have hP1 := hP.set hD he (e := .inr (ci, (fldsK q Z o).set k (.int v))) ⟨_, hK.1, t_OB.to (V := updV (vp_V (fldsK q Z o)) k (.int v)) ⟨_, e1, q2, q3, t_set q4 hap hk2 (.int v)⟩ (fun j _ => vp_updV_set (by unfold fldsK; simpa using hk2) (.int v) j)⟩ e3
  rw [gwK_fput hk hr] at hP1
  exact kk (hz.I ho) p e s m args below meth c C H' _ ls hl hP1 (e2.trans hH) (hS.put e2 e3 (hD.2 o _ he))
theorem k_putR {own C' : String} {Tt : u_T} {N ci n : Nat} {ty : Nat → FieldType} {t : FieldType} (o k r : Nat) (hex : ∀ s meth args, F.2.2.2.2.2.2.2 s meth args → meth.name = "<init>") (hown : F.2.2.2.1 = own) (hd : decode F.2.1 pc = .ok (.putfield n, 3)) (hp : pc + 3 = pc') (hK : Kc ci C' Tt N ty) (hw : Fl own n Tt k) (ho : o < K) (hk : knd o = ci + 5) (hn : oln o = N) (hk2 : k < N) (hr : ofr o k = some r) (hfin : (Tt k).2.2.2 = true) (hdc : (Tt k).1 = own) (ht : ty k = t) (hnr : ∀ a, narrow t (.ref a) = .ref a) (hft : ∀ a, fits t (.ref a) = true) (kk : GK q F pc' lv st K (zR Z o k) nc ns) : GK q F pc lv (.ref (q.ad r) :: .ref (q.ad o) :: st) K Z nc ns := by
  subst hp; subst hown; subst hn
  intro hz p e s m args below meth c C H locs ls hl hP hH hS
  have hts : ∀ w ∈ tb, w.before args s = true := (fun w hw => C.2.2.2.2.1 w (C.2.2.2.2.2.1 w hw))
  have he : (gwK q K Z)[o]? = some (q.ad o, .inr (ci, fldsK q Z o)) := by rw [gwK_get q Z ho, cellK_obj hk]
  have hD := gwK_D C.2.2.2.2.2.2.2.2.1 K Z
  have hap := va_apart (own := F.2.2.2.1) hts hK.2.1 ty hK.2.2.1 hK.2.2.2 C.2.2.2.2.2.2.1 hK.1
  obtain ⟨r0, h1, cell, q1, q2, q3, q4⟩ := hP o _ he
  have hr2 : r0 = (C', Tt, oln o) := Option.some.inj (h1.symm.trans hK.1)
  subst hr2
  obtain ⟨hSl, hfc, kC, hkC, hkind⟩ := C.2.2.2.2.2.2.1.1 ci _ hK.1
  obtain ⟨cf, kf, fi, f, hi, hsl⟩ := hSl k hk2
  have hlay := hts _ (hK.2.1 _ (u_in_lay hk2))
  unfold u_lay at hlay
  rw [if_pos hfin] at hlay
  have hst := (u_facts hfc hkC (u_lays hts hK.2.1 hk2) hi).1
  have hcf : m.cls = cf := by
    obtain ⟨_, _, c', _, _, _, -, -, hf', -, -, -, hown2, -⟩ := Cond.laysFinal_spec hlay
    have e1 : c' = cf := by have := hi.symm.trans hf'; simp at this; exact this.1.symm
    rw [hdc] at hown2
    rw [← e1]; exact Option.some.inj (C.2.2.2.1.symm.trans hown2)
  have h6 := u_fits (ty := t) (v := .ref (q.ad r)) hfc hkC hkind (Or.inr hlay) hi (by rw [hK.2.2.1 k hk2, ht]) (hnr _) (hft _)
  refine W.putFinK C.1 C.2.1 C.2.2.2.1 (hts _ hw) hi hst hcf (hex _ _ _ C.2.2.2.2.2.2.2.2.2) (by rw [q2]; exact h6) q1 q3 (by rw [hsl]; exact k2_hasslot (q4 k hk2)) rfl rfl hd fun H' e1 e2 e3 => ?_
  rw [hsl] at e1 ⊢
  have hP1 := hP.set hD he (e := .inr (ci, (fldsK q Z o).set k (.ref (q.ad r)))) ⟨_, hK.1, t_OB.to (V := updV (vp_V (fldsK q Z o)) k (.ref (q.ad r))) ⟨_, e1, q2, q3, t_set q4 hap hk2 (.ref (q.ad r))⟩ (fun j _ => vp_updV_set (by unfold fldsK; simpa using hk2) (.ref (q.ad r)) j)⟩ e3
  rw [gwK_rput hk hr] at hP1
  exact kk (hz.R ho) p e s m args below meth c C H' _ ls hl hP1 (e2.trans hH) (hS.put e2 e3 (hD.2 o _ he))
theorem k_iast {j x : Int32} (o n : Nat) (hd : decode F.2.1 pc = .ok (.iastore, 1)) (hp : pc + 1 = pc') (ho : o < K) (hk : knd o = 0) (hn : oln o = n) (hj : inB j n = true) (kk : GK q F pc' lv st K (zI Z o (nx j) x) nc ns) : GK q F pc lv (.int x :: .int j :: .ref (q.ad o) :: st) K Z nc ns := by
  subst hp; subst hn
  intro hz p e s m args below meth c C H locs ls hl hP hH hS
  have hD := gwK_D C.2.2.2.2.2.2.2.2.1 K Z
  have he : (gwK q K Z)[o]? = some (q.ad o, .inl (q.ids 0, oln o, .inl (Z.1.1 o))) := by rw [gwK_get q Z ho, cellK_i hk]
  refine W.iast C.1 C.2.1 (hP o _ he) ((C.2.2.2.2.2.2.1.2 0 _ rfl).1 (oln o) (fun j => .int (Z.1.1 o j))) (fun z => by cases z) (by show ¬ (j < 0 ∨ (arrV _ _ _).slots.size ≤ _); rw [arrV_size]; exact inB_vp hj) rfl rfl hd fun H1 e1 e2 e3 => ?_
  have hat : va_at q.D clT (q.ad o, .inl (q.ids 0, oln o, .inl (upd (Z.1.1 o) j.toNatClampNeg x))) H1 := by
    show H1[q.ad o]? = some (vp_cell _ _)
    rw [e1]
    rw [vp_cell_i, vp_cell_i, arrV_store]
    congr 2
    funext z
    by_cases hz : z = j.toNatClampNeg
    · subst hz
      simp [updV, upd]
    · simp [updV, upd, hz]
  have hP1 := hP.set hD he hat e3
  rw [gwK_iput hk] at hP1
  exact kk (hz.I ho) p e s m args below meth c C H1 _ ls hl hP1 (e2.trans hH) (hS.put e2 e3 (hD.2 o _ he))
theorem k_aald {j : Int32} (o n w : Nat) (hd : decode F.2.1 pc = .ok (.aaload, 1)) (hp : pc + 1 = pc') (ho : o < K) (hk : knd o = 3) (hn : oln o = n) (hj : inB j n = true) (hw : obs o + nx j = w) (kk : GK q F pc' lv (.ref (q.ad w) :: st) K Z nc ns) : GK q F pc lv (.int j :: .ref (q.ad o) :: st) K Z nc ns := by
  subst hp; subst hn; subst hw
  intro hz p e s m args below meth c C H locs ls hl hP hH hS
  have hin := inB_vp hj
  have hlt : j.toNatClampNeg < oln o := Nat.not_le.mp fun z => hin (Or.inr z)
  have hc : cellK q Z o = .inl (q.ids 3, oln o, .inr (.inr (.inr (.inr (fun i => if i < oln o then some (q.ad (obs o + i)) else none))))) := by
    unfold cellK
    rw [hk]
  have e0 : (gwK q K Z)[o]? = some (q.ad o, .inl (q.ids 3, oln o, .inr (.inr (.inr (.inr (fun i => if i < oln o then some (q.ad (obs o + i)) else none)))))) := by rw [gwK_get q Z ho, hc]
  have hat : H[q.ad o]? = some (vp_cell (q.ids 3) (oln o, .inr (.inr (.inr (.inr (fun i => if i < oln o then some (q.ad (obs o + i)) else none)))))) := hP o _ e0
  exact W.aald (v := .ref (q.ad (obs o + nx j))) (ty := .array .int) C.1 C.2.1 hat ((C.2.2.2.2.2.2.1.2 3 _ rfl).1 (oln o) (fun j => va_rf (if j < oln o then some (q.ad (obs o + j)) else none))) rfl (fun z => by cases z) (by show ¬ (j < 0 ∨ (arrV _ _ _).slots.size ≤ _); rw [arrV_size]; exact hin) (by show (arrV _ _ _).slots[_]? = _; rw [arrV_read _ _ hlt]; simp [hlt, va_rf]) rfl rfl hd (kk hz p e s m args below meth c C H locs ls hl hP hH hS)
theorem k_alen {v : Int32} (o : Nat) (hd : decode F.2.1 pc = .ok (.arraylength, 1)) (hp : pc + 1 = pc') (ho : o < K) (hk : knd o = 0) (hv : Int32.ofNat (oln o) = v) (kk : GK q F pc' lv (.int v :: st) K Z nc ns) : GK q F pc lv (.ref (q.ad o) :: st) K Z nc ns := by
  subst hp
  intro hz p e s m args below meth c C H locs ls hl hP hH hS
  exact va_alen C.1 C.2.1 C.2.2.2.2.2.2.1 hP o 0 (x := (oln o, .inl (Z.1.1 o))) (by rw [gwK_get q Z ho, cellK_i hk]) rfl hv hd (kk hz p e s m args below meth c C H locs ls hl hP hH hS)
/-- a new object of the type ci -/
theorem k_new {own C' : String} {Tt : u_T} {N ci n : Nat} {ty : Nat → FieldType} (hown : F.2.2.2.1 = own) (hd : decode F.2.1 pc = .ok (.new n, 3)) (hp : pc + 3 = pc') (hK : Kc ci C' Tt N ty) (h1 : Cond.classLink own n C' ∈ tb) (h2 : Cond.instantiable C' N ∈ tb) (h3 : Cond.initialized C' ∈ tb) (hk : knd K = ci + 5) (hn : oln K = N) (hty : ∀ i, i < N → (ofr K i = none → defaultValue (ty i) = .int 0) ∧ (ofr K i ≠ none → defaultValue (ty i) = .null)) (hc : nc + 1 ≤ F.2.2.2.2.2.1.cells) (hs : ns + N ≤ F.2.2.2.2.2.1.slots) (kk : GK q F pc' lv (.ref (q.ad K) :: st) (K + 1) Z (nc + 1) (ns + N)) : GK q F pc lv st K Z nc ns := by
  subst hp; subst hown; subst hn
  intro hz p e s m args below meth c C H locs ls hl hP hH hS
  have hts : ∀ w ∈ tb, w.before args s = true := (fun w hw => C.2.2.2.2.1 w (C.2.2.2.2.2.1 w hw))
  have hq := C.2.2.2.2.2.2.2.2.1
  have hKn := C.2.2.2.2.2.2.1.1 ci _ hK.1
  have hsz : H.size = q.ad K := by rw [hH, hq]
  refine W.newcK C.1 C.2.1 C.2.2.2.1 (hts _ h1) (hts _ h2) (hts _ h3) rfl hd hc hs hKn.2.1 hsz fun H1 kC hkC e1 z1 o1 => ?_
  have hb := u_born ty hts hK.2.1 hKn hkC e1 hK.2.2.1
  have hP1 : va_P q.D clT (gwK q (K + 1) Z) H1 := gwK_push hq hP hH (fun a ha => o1 a (by rw [hq]; exact ha)) (fun j hj => by
    have hj0 : j = 0 := by omega
    subst hj0
    show va_at q.D clT (q.ad K, cellK q Z K) H1
    rw [cellK_obj hk]
    refine ⟨_, hK.1, hb.to (fun i hi => ?_)⟩
    obtain ⟨t1, t2⟩ := hty i hi
    obtain ⟨z1, z2, z3⟩ := hz K (Nat.le_refl _)
    have hg : (fldsK q Z K)[i]? = some (fvalK q Z K i) := fldsK_get hi
    show defaultValue (ty i) = (fldsK q Z K).getD i .null
    rw [List.getD_eq_getElem?_getD, hg]
    show _ = fvalK q Z K i
    unfold fvalK
    cases hr : ofr K i with
    | none => rw [t1 hr]; show _ = Value.int (Z.1.1 K i); rw [z1]
    | some r => rw [t2 (by rw [hr]; exact fun h => by cases h)]; simp [z3])
  exact kk (hz.up (Nat.le_succ K)) p e s m args below meth c C H1 _ ls hl hP1 (by rw [z1, hq]; rfl) ⟨Nat.le_trans hS.1 (by omega), fun a ha hn => (o1 a (by have := hS.1; omega)).trans (hS.2.1 a ha hn), hS.2.2⟩
theorem k_newI {x : Int32} {N : Nat} (hd : decode F.2.1 pc = .ok (.newarray .int, 2)) (hp : pc + 2 = pc') (hw : Cond.arrayClass .int ∈ tb) (hk : knd K = 0) (hn : oln K = N) (hx : ¬ x < 0) (hxN : x.toNatClampNeg = N) (hb : N * 4 ≤ 536870912) (hc : nc + 1 ≤ F.2.2.2.2.2.1.cells) (hs : ns + N ≤ F.2.2.2.2.2.1.slots) (kk : GK q F pc' lv (.ref (q.ad K) :: st) (K + 1) Z (nc + 1) (ns + N)) : GK q F pc lv (.int x :: st) K Z nc ns := by
  subst hp; subst hn
  intro hz p e s m args below meth c C H locs ls hl hP hH hS
  have hts : ∀ w ∈ tb, w.before args s = true := (fun w hw => C.2.2.2.2.1 w (C.2.2.2.2.2.1 w hw))
  have hq := C.2.2.2.2.2.2.2.2.1
  have hsz : H.size = q.ad K := by rw [hH, hq]
  refine va_newaK (atype := .int) C.1 C.2.1 (hts _ hw) rfl hd rfl hx hxN hb hc hs hsz fun H1 cA e1 z1 o1 hAr hNm => ?_
  have hid : cA = q.ids 0 := by
    have h := (C.2.2.2.2.2.2.1.2 0 _ rfl).2
    exact Option.some.inj (hNm.symm.trans h)
  have hP1 : va_P q.D clT (gwK q (K + 1) Z) H1 := gwK_push hq hP hH (fun a ha => o1 a (by rw [hq]; exact ha)) (fun j hj => by
    have hj0 : j = 0 := by omega
    subst hj0
    show va_at q.D clT (q.ad K, cellK q Z K) H1
    rw [cellK_i hk]
    show H1[q.ad K]? = some (vp_cell _ _)
    rw [e1, vp_cell_i, hid]
    congr 2
    funext i
    show _ = Value.int (Z.1.1 K i)
    rw [(hz K (Nat.le_refl _)).1 i]
    rfl)
  exact kk (hz.up (Nat.le_succ K)) p e s m args below meth c C H1 _ ls hl hP1 (by rw [z1, hq]; rfl) ⟨Nat.le_trans hS.1 (by omega), fun a ha hn => (o1 a (by have := hS.1; omega)).trans (hS.2.1 a ha hn), hS.2.2⟩
theorem k_newL {x : Int32} {N : Nat} (hd : decode F.2.1 pc = .ok (.newarray .long, 2)) (hp : pc + 2 = pc') (hw : Cond.arrayClass .long ∈ tb) (hk : knd K = 1) (hn : oln K = N) (hx : ¬ x < 0) (hxN : x.toNatClampNeg = N) (hb : N * 8 ≤ 536870912) (hc : nc + 1 ≤ F.2.2.2.2.2.1.cells) (hs : ns + N ≤ F.2.2.2.2.2.1.slots) (kk : GK q F pc' lv (.ref (q.ad K) :: st) (K + 1) Z (nc + 1) (ns + N)) : GK q F pc lv (.int x :: st) K Z nc ns := by
  subst hp; subst hn
  intro hz p e s m args below meth c C H locs ls hl hP hH hS
  have hts : ∀ w ∈ tb, w.before args s = true := (fun w hw => C.2.2.2.2.1 w (C.2.2.2.2.2.1 w hw))
  have hq := C.2.2.2.2.2.2.2.2.1
  have hsz : H.size = q.ad K := by rw [hH, hq]
  refine va_newaK (atype := .long) C.1 C.2.1 (hts _ hw) rfl hd rfl hx hxN hb hc hs hsz fun H1 cA e1 z1 o1 hAr hNm => ?_
  have hid : cA = q.ids 1 := by
    have h := (C.2.2.2.2.2.2.1.2 1 _ rfl).2
    exact Option.some.inj (hNm.symm.trans h)
  have hP1 : va_P q.D clT (gwK q (K + 1) Z) H1 := gwK_push hq hP hH (fun a ha => o1 a (by rw [hq]; exact ha)) (fun j hj => by
    have hj0 : j = 0 := by omega
    subst hj0
    show va_at q.D clT (q.ad K, cellK q Z K) H1
    have hcell : cellK q Z K = .inl (q.ids 1, oln K, .inr (.inl (Z.1.2 K))) := by
      unfold cellK
      rw [hk]
    rw [hcell]
    show H1[q.ad K]? = some (vp_cell _ _)
    rw [e1, vp_cell_l, hid]
    congr 2
    funext i
    show _ = Value.long (Z.1.2 K i)
    rw [(hz K (Nat.le_refl _)).2.1 i]
    rfl)
  exact kk (hz.up (Nat.le_succ K)) p e s m args below meth c C H1 _ ls hl hP1 (by rw [z1, hq]; rfl) ⟨Nat.le_trans hS.1 (by omega), fun a ha hn => (o1 a (by have := hS.1; omega)).trans (hS.2.1 a ha hn), hS.2.2⟩
theorem k_newZ {x : Int32} {N : Nat} (hd : decode F.2.1 pc = .ok (.newarray .boolean, 2)) (hp : pc + 2 = pc') (hw : Cond.arrayClass .boolean ∈ tb) (hk : knd K = 2) (hn : oln K = N) (hx : ¬ x < 0) (hxN : x.toNatClampNeg = N) (hb : N * 1 ≤ 536870912) (hc : nc + 1 ≤ F.2.2.2.2.2.1.cells) (hs : ns + N ≤ F.2.2.2.2.2.1.slots) (kk : GK q F pc' lv (.ref (q.ad K) :: st) (K + 1) Z (nc + 1) (ns + N)) : GK q F pc lv (.int x :: st) K Z nc ns := by
  subst hp; subst hn
  intro hz p e s m args below meth c C H locs ls hl hP hH hS
  have hts : ∀ w ∈ tb, w.before args s = true := (fun w hw => C.2.2.2.2.1 w (C.2.2.2.2.2.1 w hw))
  have hq := C.2.2.2.2.2.2.2.2.1
  have hsz : H.size = q.ad K := by rw [hH, hq]
  refine va_newaK (atype := .boolean) C.1 C.2.1 (hts _ hw) rfl hd rfl hx hxN hb hc hs hsz fun H1 cA e1 z1 o1 hAr hNm => ?_
  have hid : cA = q.ids 2 := by
    have h := (C.2.2.2.2.2.2.1.2 2 _ rfl).2
    exact Option.some.inj (hNm.symm.trans h)
  have hP1 : va_P q.D clT (gwK q (K + 1) Z) H1 := gwK_push hq hP hH (fun a ha => o1 a (by rw [hq]; exact ha)) (fun j hj => by
    have hj0 : j = 0 := by omega
    subst hj0
    show va_at q.D clT (q.ad K, cellK q Z K) H1
    have hcell : cellK q Z K = .inl (q.ids 2, oln K, .inl (Z.1.1 K)) := by
      unfold cellK
      rw [hk]
    rw [hcell]
    show H1[q.ad K]? = some (vp_cell _ _)
    rw [e1, vp_cell_i, hid]
    congr 2
    funext i
    show _ = Value.int (Z.1.1 K i)
    rw [(hz K (Nat.le_refl _)).1 i]
    rfl)
  exact kk (hz.up (Nat.le_succ K)) p e s m args below meth c C H1 _ ls hl hP1 (by rw [z1, hq]; rfl) ⟨Nat.le_trans hS.1 (by omega), fun a ha hn => (o1 a (by have := hS.1; omega)).trans (hS.2.1 a ha hn), hS.2.2⟩

theorem k_mna {own : String} {ty : FieldType} {x y : Int32} {N M n kk3 kk0 : Nat} (hown : F.2.2.2.1 = own) (hd : decode F.2.1 pc = .ok (.multianewarray n 2, 4)) (hp : pc + 4 = pc') (hty : (ty = .int ∧ kk3 = 3 ∧ kk0 = 0) ∨ (ty = .long ∧ kk3 = 4 ∧ kk0 = 1)) (hcl : Cond.classLink own n ("[" ++ (FieldType.array ty).toString) ∈ tb) (hac : Cond.arrayClass ty ∈ tb) (hk : knd K = kk3) (hn : oln K = N) (hob : obs K = K + 1) (hrow : ∀ j, j < N → knd (K + 1 + j) = kk0 ∧ oln (K + 1 + j) = M) (hx : ¬ x < 0) (hxN : x.toNatClampNeg = N) (hy : ¬ y < 0) (hyM : y.toNatClampNeg = M) (hb1 : N * 4 ≤ 536870912) (hb2 : M * 8 ≤ 536870912) (hc : nc + (1 + N) ≤ F.2.2.2.2.2.1.cells) (hs : ns + (N + N * M) ≤ F.2.2.2.2.2.1.slots) (kk : GK q F pc' lv (.ref (q.ad K) :: st) (K + 1 + N) Z (nc + 1 + N) (ns + N + N * M)) : GK q F pc lv (.int y :: .int x :: st) K Z nc ns := by
  subst hp; subst hown; subst hxN; subst hyM
  intro hz p e s m args below meth c C H locs ls hl hP hH hS
  have hts : ∀ w ∈ tb, w.before args s = true := (fun w hw => C.2.2.2.2.1 w (C.2.2.2.2.2.1 w hw))
  have hq := C.2.2.2.2.2.2.2.2.1
  have hsz : H.size = q.ad K := by rw [hH, hq]
  have hao : aoF ty s := by
    rcases hty with ⟨rfl, -⟩ | ⟨rfl, -⟩
    · exact C.2.2.2.2.2.2.2.1.1
    · exact C.2.2.2.2.2.2.2.1.2.1
  have hdf : fits ty (defaultValue ty) = true ∧ (defaultValue ty).isDefault = true ∧ y.toNatClampNeg * componentBytes ty ≤ 536870912 := by
    rcases hty with ⟨rfl, -⟩ | ⟨rfl, -⟩
    · exact ⟨rfl, rfl, by show _ * 4 ≤ _; omega⟩
    · exact ⟨rfl, rfl, by show _ * 8 ≤ _; omega⟩
  intro T hT Xs
  obtain ⟨vm₁, cA, comp, -, fA, fC, hO, -, X', step⟩ := Jvm.Stand.multianewarray2F Xs C.1 C.2.2.2.1 (hts _ hcl) hao (hts _ hac) (g := F0 m pc ls (.int y :: .int x :: st)) rfl (by rw [C.2.1]; exact hd) rfl hx hy hb1 hdf.2.2 (by omega) hdf.1 hdf.2.1 hc hs
  generalize hF : Jvm.Free.Multi.fill (T.setVm vm₁) cA comp x.toNatClampNeg y.toNatClampNeg (defaultValue ty) x.toNatClampNeg = Fs at X' step
  have hTh : (T.setVm vm₁).heap = H := hT
  obtain ⟨f1, f2, -, -⟩ := Jvm.Free.Multi.fill_facts (T.setVm vm₁) cA comp x.toNatClampNeg y.toNatClampNeg (defaultValue ty) x.toNatClampNeg
  rw [hF, hTh] at f1 f2
  have hold : ∀ a : Nat, a < H.size → Fs.heap[a]? = H[a]? := fun a ha => by
    have := Jvm.Free.Multi.fill_old (T.setVm vm₁) cA comp x.toNatClampNeg y.toNatClampNeg (defaultValue ty) (a := a) (by rw [hTh]; exact ha) x.toNatClampNeg
    rw [hF, hTh] at this
    exact this
  have hinn : ∀ j : Nat, j < x.toNatClampNeg → Fs.heap[H.size + 1 + j]? = some (Jvm.Free.Multi.innerC comp y.toNatClampNeg (defaultValue ty)) := fun j hj => by
    have := Jvm.Free.Multi.fill_inner (T.setVm vm₁) cA comp x.toNatClampNeg y.toNatClampNeg (defaultValue ty) x.toNatClampNeg j hj
    rw [hF, hTh] at this
    exact this
  have houter : ∀ i : Nat, Jvm.Free.Multi.outerC cA x.toNatClampNeg H.size i = arrV cA x.toNatClampNeg (fun j => va_rf (if j < i then some (H.size + 1 + j) else none)) := by
    intro i
    induction i with
    | zero =>
      show ({ cls := cA, slots := Array.replicate x.toNatClampNeg .null, vm := .none } : Cell) = _
      rw [arrV_new]
      refine congrArg (arrV cA x.toNatClampNeg) (funext fun j => ?_)
      simp [va_rf]
    | succ i ih =>
      show (Jvm.Free.Multi.outerC cA x.toNatClampNeg H.size i).setSlot i (.ref (H.size + 1 + i)) = _
      rw [ih, arrV_store]
      refine congrArg (arrV cA x.toNatClampNeg) (funext fun j => ?_)
      by_cases e : j = i
      · subst e
        simp [updV, va_rf]
      · by_cases h : j < i
        · simp [updV, e, h, Nat.lt_succ_of_lt h]
        · simp [updV, e, h, show ¬ j < i + 1 by omega]
  rw [houter] at f2
  have hK := C.2.2.2.2.2.2.1
  have hP1 : va_P q.D clT (gwK q (K + (1 + x.toNatClampNeg)) Z) Fs.heap := by
    refine gwK_push hq hP hH (fun a ha => hold a (by rw [hH]; exact ha)) (fun j hj => ?_)
    rcases hty with ⟨rfl, rfl, rfl⟩ | ⟨rfl, rfl, rfl⟩
    · have hidA : cA = q.ids 3 := Option.some.inj (fA.symm.trans (hK.2 3 _ rfl).2)
      have hidC : comp = q.ids 0 := Option.some.inj (fC.symm.trans (hK.2 0 _ rfl).2)
      cases j with
      | zero =>
        have hcell : cellK q Z K = .inl (q.ids 3, oln K, .inr (.inr (.inr (.inr (fun i => if i < oln K then some (q.ad (obs K + i)) else none))))) := by
          unfold cellK
          rw [hk]
        show va_at q.D clT (q.ad K, cellK q Z K) Fs.heap
        rw [hcell]
        show Fs.heap[q.ad K]? = some (vp_cell _ _)
        rw [← hsz, f2, vp_cell_q, hidA, hn]
        refine congrArg some (congrArg (arrV (q.ids 3) x.toNatClampNeg) (funext fun i => ?_))
        by_cases hi : i < x.toNatClampNeg
        · simp only [hi, if_true, va_rf]
          have e9 : q.ad (K + 1 + i) = q.ad K + 1 + i := by rw [hq, hq]; omega
          rw [hob, e9, hsz]
        · simp [hi]
      | succ j =>
        have hj' : j < x.toNatClampNeg := by omega
        obtain ⟨r1, r2⟩ := hrow j hj'
        have ej : K + (j + 1) = K + 1 + j := by omega
        rw [ej]
        show va_at q.D clT (q.ad (K + 1 + j), cellK q Z (K + 1 + j)) Fs.heap
        rw [cellK_i r1, r2]
        show Fs.heap[q.ad (K + 1 + j)]? = some (vp_cell _ _)
        rw [show q.ad (K + 1 + j) = H.size + 1 + j by rw [hq, hH]; omega, hinn j hj', vp_cell_i, hidC]
        show some ({ cls := q.ids 0, slots := Array.replicate y.toNatClampNeg (Value.int 0), vm := .none } : Cell) = _
        rw [arrV_new]
        refine congrArg some (congrArg (arrV (q.ids 0) y.toNatClampNeg) (funext fun i => ?_))
        rw [(hz (K + 1 + j) (by omega)).1 i]
    · have hidA : cA = q.ids 4 := Option.some.inj (fA.symm.trans (hK.2 4 _ rfl).2)
      have hidC : comp = q.ids 1 := Option.some.inj (fC.symm.trans (hK.2 1 _ rfl).2)
      cases j with
      | zero =>
        have hcell : cellK q Z K = .inl (q.ids 4, oln K, .inr (.inr (.inr (.inr (fun i => if i < oln K then some (q.ad (obs K + i)) else none))))) := by
          unfold cellK
          rw [hk]
        show va_at q.D clT (q.ad K, cellK q Z K) Fs.heap
        rw [hcell]
        show Fs.heap[q.ad K]? = some (vp_cell _ _)
        rw [← hsz, f2, vp_cell_q, hidA, hn]
        refine congrArg some (congrArg (arrV (q.ids 4) x.toNatClampNeg) (funext fun i => ?_))
        by_cases hi : i < x.toNatClampNeg
        · simp only [hi, if_true, va_rf]
          have e9 : q.ad (K + 1 + i) = q.ad K + 1 + i := by rw [hq, hq]; omega
          rw [hob, e9, hsz]
        · simp [hi]
      | succ j =>
        have hj' : j < x.toNatClampNeg := by omega
        obtain ⟨r1, r2⟩ := hrow j hj'
        have ej : K + (j + 1) = K + 1 + j := by omega
        rw [ej]
        have hcell : cellK q Z (K + 1 + j) = .inl (q.ids 1, oln (K + 1 + j), .inr (.inl (Z.1.2 (K + 1 + j)))) := by
          unfold cellK
          rw [r1]
        show va_at q.D clT (q.ad (K + 1 + j), cellK q Z (K + 1 + j)) Fs.heap
        rw [hcell, r2]
        show Fs.heap[q.ad (K + 1 + j)]? = some (vp_cell _ _)
        rw [show q.ad (K + 1 + j) = H.size + 1 + j by rw [hq, hH]; omega, hinn j hj', vp_cell_l, hidC]
        show some ({ cls := q.ids 1, slots := Array.replicate y.toNatClampNeg (Value.long 0), vm := .none } : Cell) = _
        rw [arrV_new]
        refine congrArg some (congrArg (arrV (q.ids 1) y.toNatClampNeg) (funext fun i => ?_))
        rw [(hz (K + 1 + j) (by omega)).2.1 i]
  rw [show K + (1 + x.toNatClampNeg) = K + 1 + x.toNatClampNeg by omega] at hP1
  obtain ⟨t, a1, b1⟩ := kk (hz.up (by omega)) p e s m args below meth c C Fs.heap _ ls hl hP1 (by rw [f1, hH]; omega) ⟨Nat.le_trans hS.1 (by rw [f1]; omega), fun a ha hn => (hold a (Nat.lt_of_lt_of_le ha hS.1)).trans (hS.2.1 a ha hn), hS.2.2⟩ Fs rfl X'
  refine ⟨t, step t ?_, b1⟩
  have hTs : T.heap.size = q.ad K := by rw [hT]; exact hsz
  rw [hTs]
  exact a1
theorem k_obj {own : String} {n : Nat} {a : Nat} (hown : F.2.2.2.1 = own) (hd : decode F.2.1 pc = .ok (.invokespecial n, 3)) (hp : pc + 3 = pc') (h1 : Cond.methodLink own n Lib.objectInit ∈ tb) (h2 : Cond.instanceMethod Lib.objectInit ∈ tb) (h3 : Cond.code Lib.objectInit ⟨#[0xb1]⟩ 1 none ∈ tb) (hf : 1 ≤ F.2.2.2.2.2.1.frames) (hlo : (st.map fun v => v.category).sum + 12 ≤ F.2.2.2.2.2.1.locals) (kk : GK q F pc' lv st K Z nc ns) : GK q F pc lv (.ref a :: st) K Z nc ns := by
  subst hp; subst hown
  intro hz p e s m args below meth c C H locs ls hl hP hH hS
  have hts : ∀ w ∈ tb, w.before args s = true := (fun w hw => C.2.2.2.2.1 w (C.2.2.2.2.2.1 w hw))
  refine W.objInit C.1 C.2.1 C.2.2.2.1 (hts _ h1) (hts _ h2) (hts _ h3) rfl (by rw [C.2.2.1]; exact hl.1) rfl hd hf (by show 2 * 0 + _ + 12 ≤ _; omega) (kk hz p e s m args below meth c C H locs ls hl hP hH hS)
theorem k_ret {y : MN} {own : String} {B d : Nat} (hd : decode y.2.1 pc = .ok (.return_, 1)) : GK q (kF q B y own d nc ns K Z) pc lv [] K Z nc ns := by
  intro hz p e s m args below meth c C H locs ls hl hP hH hS
  obtain ⟨e1, e2, -⟩ := C.2.2.2.2.2.2.2.2.2
  exact W.vret C.1 C.2.1 e1 (fun t ht hW => ⟨rfl, by rw [ht]; exact hP, by rw [ht]; exact hH, hS.F ht⟩) hS.2.2 hd e2
theorem k_run {w : Nat × Zt} {B : Nat} {rest st0 : List Value} {a : Array Value} {p : Program} {l : Launch} {e : Env} {R : Room} {s : State} {m : MethodId} {args : Array Value} {below : List Frame} {meth : Method} {c : Code} {H : Heap} {locs : List Loc} {cells slots mc ms : Nat} {Q : State → Prop} {ls : Array Slot} (hr : va_Run p l e R s m args below meth c H locs cells slots mc ms (F0 m pc ls st0) rest (QcK q B w.1 w.2 a) (fun a => B ≤ a)) (hS : va_S (fun a => B ≤ a) s.heap H locs)
    (kk : ∀ (H1 : Heap) (locs1 : List Loc), va_P q.D clT (gwK q w.1 w.2) H1 → H1.size = B + w.1 → va_S (fun a => B ≤ a) s.heap H1 locs1 → W p l e R s m args below meth c H1 locs1 (cells + mc) (slots + ms) Q (F0 m (pc + 3) ls rest)) : W p l e R s m args below meth c H locs cells slots Q (F0 m pc ls st0) := by
  intro T hT X
  obtain ⟨v, st₀, t, T', L, h0, X', hL, e1, e2, ⟨hv, hb, hbs, hz, hk⟩, st⟩ := hr T hT X
  cases hv
  rw [h0] at hz hk
  obtain ⟨t2, a1, b1⟩ := kk T'.heap (locs ++ L) (by rw [e1]; exact hb) (by rw [e1]; exact hbs)
    ⟨Nat.le_trans hS.1 (by rw [e1]; exact hz), fun x h1 h2 => by rw [e1, hk x (Nat.lt_of_lt_of_le h1 hS.1) h2]; exact hS.2.1 x h1 h2, fun x hx => by
      rcases List.mem_append.mp hx with h | h
      · exact hS.2.2 x h
      · exact hL x h⟩ T' rfl X'
  exact ⟨t2, st t2 a1, b1⟩
def Yi (y : MN) (n : Nat) : Prop := Cond.instanceMethod y.1 ∈ tb ∧ Cond.initialized y.1.cls ∈ tb ∧ Cond.code y.1 y.2.1 y.2.2.1 none ∈ tb ∧ y.2.2.2 = none ∧ y.1.name = "<init>" ∧ (y.1.cls ≠ "java/lang/invoke/MethodHandle" ∧ y.1.cls ≠ "java/lang/invoke/VarHandle" ∧ (parseMethodDescriptor y.1.desc).map (fun d => d.parameters.length) = some n)
theorem k_init {own : String} {y : MN} {n d mc ms K' a : Nat} {Z' : Zt} {As st' : List Value} (na : Nat) (hwg : ∀ z : MN, Cond.code z.1 z.2.1 z.2.2.1 z.2.2.2 ∈ tb → GoodIn F.2.2.2.2.1 (wl z)) (hown : F.2.2.2.1 = own) (hd : decode F.2.1 pc = .ok (.invokespecial n, 3)) (hp : pc + 3 = pc') (hy : Yi y na) (hl : Cond.methodLink own n y.1 ∈ tb ∨ (own = RX11 ∧ Cond.methodLinkNest RX11 n y.1 RX11 ∈ nests)) (hR : d + 1 ≤ F.2.2.2.2.2.1.frames ∧ 8 + (y.2.2.1 + 11) + 40 * d ≤ F.2.2.2.2.2.1.locals ∧ nc + mc ≤ F.2.2.2.2.2.1.cells ∧ ns + ms ≤ F.2.2.2.2.2.1.slots)
    (hc : zr Z K → CtK q F.1 y d mc ms (.ref a :: As) K Z K' Z') (hz' : zr Z K → zr Z' K') (hna : As.length = na) (hst : st' = As.reverse ++ .ref a :: st) (hrm : (st.map fun v => v.category).sum ≤ 8) (kk : GK q F pc' lv st K' Z' (nc + mc) (ns + ms)) : GK q F pc lv st' K Z nc ns := by
  subst hp; subst hst
  intro hz p e s m args below meth c C H locs ls hls hP hH hS
  have hts : ∀ w ∈ tb, w.before args s = true := (fun w hw => C.2.2.2.2.1 w (C.2.2.2.2.2.1 w hw))
  obtain ⟨y1, y2, y3, y4, y5, y6⟩ := hy
  have hblind : FrameBlind (va_Pc (.ref a :: As) (WdK q F.1 K Z)) := by
    intro a0 U g mk z
    obtain ⟨z0, z1, z2, z3, z4, z5⟩ := z
    exact ⟨z0, z1, z2, z3, va_K.moved (u := U) (U := U.calling g mk a0) (Vm.Alike.refl U.vm) z4, NwF.same (u := U) rfl z5⟩
  have hpre : PreS s H (va_Pc (.ref a :: As) (WdK q F.1 K Z)) (.ref a :: As) := ⟨hblind, fun U hU hW => ⟨rfl, C.2.2.2.2.2.2.2.2.1, by rw [hU]; exact hP, by rw [hU]; exact hH, va_K.moved hW.alike C.2.2.2.2.2.2.1, NwF.warm hW C.2.2.2.2.2.2.2.1⟩⟩
  have hG : GoodIn F.2.2.2.2.1 (wl y) := hwg y (by rw [y4]; exact y3)
  have hwl : wl y = Cond.code y.1 y.2.1 y.2.2.1 none :: tb := by unfold wl; rw [y4]
  rcases hl with hl | ⟨ho, hl⟩
  · subst hown
    exact k_run (w := (K', Z')) (va_runI (y := y.1) (bytes := y.2.1) (maxL := y.2.2.1) (ws := wl y) (rm := rmK d mc ms) (As := As) ⟨C.1, C.2.1, C.2.2.1, C.2.2.2.1, C.2.2.2.2.1⟩ (hc hz) (cwI na C.2.2.2.2.1 hG hwl rfl rfl (hts _ y2) (hts _ hl) (hts _ y1) y5 y6 ⟨hR.1, hR.2.1⟩) hpre rfl hna hls.1 rfl (lv_room hrm) hd ⟨hR.2.2.1, hR.2.2.2⟩) hS (fun H1 locs1 hP1 hH1 hS1 => kk (hz' hz) p e s m args below meth c C H1 locs1 ls hls hP1 hH1 hS1)
  · have hcn := C.2.2.2.2.2.2.2.1.2.2 n y.1 RX11 hl
    have howns : s.vm.findClass RX11 = some m.cls := by rw [← ho, ← hown]; exact C.2.2.2.1
    exact k_run (w := (K', Z')) (va_runIN (y := y.1) (bytes := y.2.1) (maxL := y.2.2.1) (ws := wl y) (rm := rmK d mc ms) (As := As) (own := RX11) ⟨C.1, C.2.1, C.2.2.1, howns, C.2.2.2.2.1⟩ (hc hz) ⟨va_cnB na C.2.2.2.2.1 hG hwl rfl rfl hcn (hts _ y2) y6 ⟨hR.1, hR.2.1⟩, y5, hts _ y1⟩ hpre rfl hna hls.1 rfl (lv_room hrm) hd ⟨hR.2.2.1, hR.2.2.2⟩) hS (fun H1 locs1 hP1 hH1 hS1 => kk (hz' hz) p e s m args below meth c C H1 locs1 ls hls hP1 hH1 hS1)

end RULESK
