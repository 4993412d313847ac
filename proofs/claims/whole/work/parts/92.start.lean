/-! from the law's entry: the objects are made, then its loop runs -/
def Zz : Zt := ((fun _ _ => 0, fun _ _ => 0), fun _ _ => false)
def Zf : Zt := X12_init_Z (X11_init_Z Zz)
/-- what the objects hold when the law's loop begins -/
def X0 : St := Zf.1
set_option maxRecDepth 20000 in
theorem zf_set : ∀ o, o < NO → ∀ i, i < oln o → (ofr o i).isSome = true → Zf.2 o i = true := by decide +kernel
theorem cellK_E {q : Th} {Z : Zt} {o : Nat} (h : ∀ i, i < oln o → (ofr o i).isSome = true → Z.2 o i = true) : cellK q Z o = cellE q Z.1 o := by
  have h1 : fldsK q Z o = flds q Z.1 o := by
    unfold fldsK flds
    refine List.map_congr_left (fun i hi => ?_)
    have hi' := List.mem_range.mp hi
    unfold fvalK fval
    cases hr : ofr o i with
    | none => rfl
    | some r => simp [h i hi' (by rw [hr]; rfl)]
  unfold cellK cellE
  rw [h1]
  first | rfl | (split <;> rfl) | (generalize knd o = k; match k with | 0 => rfl | 1 => rfl | 2 => rfl | 3 => rfl | 4 => rfl | k + 5 => rfl)
theorem gwK_gw {q : Th} {Z : Zt} (h : ∀ o, o < NO → ∀ i, i < oln o → (ofr o i).isSome = true → Z.2 o i = true) : gwK q NO Z = gw q Z.1 := by
  unfold gwK gw
  exact List.map_congr_left (fun o ho => by rw [cellK_E (h o (List.mem_range.mp ho))])
def lkEx (q : Th) (B b L : Nat) (xs : Nat → Int32) : State → Method → Array Value → Prop := fun s meth args => args = #[Value.ref b] ∧ meth.sig.returnType = ret ∧ meth.locks = false ∧ va_X b L xs s s.heap ∧ b < s.heap.size ∧ s.heap.size = B ∧ Sf q s
abbrev lKF (q : Th) (B b L : Nat) (xs : Nat → Int32) : KI := (B, code, 4, RL, lw_tbl, room_1, (fun below args s => lw_Z below args s), lkEx q B b L xs)
theorem k_law {q : Th} {B b L n : Nat} {xs : Nat → Int32} {Z : Zt} {nc ns : Nat} (hT : lawf n xs L Z.1 = some ()) (hset : ∀ o, o < NO → ∀ i, i < oln o → (ofr o i).isSome = true → Z.2 o i = true) (h1 : nc ≤ 600000) (h2 : ns ≤ 7302250) : GK q (lKF q B b L xs) 16 [(2, .ref (q.ad 102)), (1, .ref (q.ad 0)), (0, .ref b)] [] NO Z nc ns := by
  intro hz p e s m args below meth c C H locs ls hl hP hH hS
  have hq := C.2.2.2.2.2.2.2.2.1
  obtain ⟨e1, e2, e3, e4, e5, e6, e7⟩ := C.2.2.2.2.2.2.2.2.2
  refine va_forget (fun x hx => by rw [e6]; exact hS.2.2 x hx) ?_
  refine W.widen (k := 600000) (n := 7302250) h1 h2 ?_
  rw [gwK_gw hset] at hP
  have hap : Ap q := fun i j _ _ h => by
    have a1 := hq i
    have a2 := hq j
    have a3 : B + i = B + j := a1.symm.trans (h.trans a2)
    omega
  have hge : ∀ o, o < NO → s.heap.size ≤ q.ad o := fun o _ => by
    have a1 : q.ad o = B + o := hq o
    omega
  have hS2 : va_S (Fr q) s.heap H [] := ⟨hS.1, fun a ha _ => hS.2.1 a ha (by show ¬ B ≤ a; omega), fun _ h => by cases h⟩
  have hbF : ¬ Fr q b := by
    rintro ⟨o, ho, he⟩
    have := hge o ho
    omega
  exact lawf_g q b n xs L Z.1 () hT p e s m args below meth c ⟨C.1, C.2.1, C.2.2.1, C.2.2.2.1, C.2.2.2.2.1, C.2.2.2.2.2.1, C.2.2.2.2.2.2.1, e7, hap, e1, e2, e3, e4, e5, hbF, hge⟩ H [] ls (lv_sub hl [2, 1, 0] rfl) hP hS2
/-- the words of a start: the types' numbers and slots -/
theorem st_cls {s : State} {b : Nat} (hts : ∀ w ∈ lw_tbl, w.before #[Value.ref b] s = true) : ∀ k : Nat, ∃ p : ClassId × (Nat → Nat), ∀ r : vw_C, clT[k]? = some r → u_Kn s r.1 r.2.1 r.2.2 p.1 p.2 := by
  have key : ∀ {C : String} {T : u_T} {N : Nat}, (∀ w ∈ u_ws C T N, w ∈ lw_tbl) → Cond.instantiable C N ∈ tb → ∃ p : ClassId × (Nat → Nat), u_Kn s C T N p.1 p.2 := by
    intro C T N h1 h2
    obtain ⟨cC, iS, h⟩ := u_known hts h1 (hts _ (List.mem_filter.mp h2).1)
    exact ⟨(cC, iS), h⟩
  intro k
  by_cases hk : k < 13
  · have hx : ∃ r : vw_C, clT[k]? = some r ∧ ∃ p : ClassId × (Nat → Nat), u_Kn s r.1 r.2.1 r.2.2 p.1 p.2 := by
      rcases (show k = 0 ∨ k = 1 ∨ k = 2 ∨ k = 3 ∨ k = 4 ∨ k = 5 ∨ k = 6 ∨ k = 7 ∨ k = 8 ∨ k = 9 ∨ k = 10 ∨ k = 11 ∨ k = 12 by omega) with rfl | rfl | rfl | rfl | rfl | rfl | rfl | rfl | rfl | rfl | rfl | rfl | rfl
      · exact ⟨_, rfl, key inX0 in_X0⟩
      · exact ⟨_, rfl, key inX1 in_X1⟩
      · exact ⟨_, rfl, key inX2 in_X2⟩
      · exact ⟨_, rfl, key inX3 in_X3⟩
      · exact ⟨_, rfl, key inX4 in_X4⟩
      · exact ⟨_, rfl, key inX5 in_X5⟩
      · exact ⟨_, rfl, key inX6 in_X6⟩
      · exact ⟨_, rfl, key inX7 in_X7⟩
      · exact ⟨_, rfl, key inX8 in_X8⟩
      · exact ⟨_, rfl, key inX9 in_X9⟩
      · exact ⟨_, rfl, key inX10 in_X10⟩
      · exact ⟨_, rfl, key inX11 in_X11⟩
      · exact ⟨_, rfl, key inX12 in_X12⟩
    obtain ⟨r, hr, p, hp⟩ := hx
    exact ⟨p, fun r' hr' => by cases hr.symm.trans hr'; exact hp⟩
  · refine ⟨(0, fun _ => 0), fun r hr => ?_⟩
    have := (List.getElem?_eq_some_iff.mp hr).1
    have h13 : clT.length = 13 := rfl
    omega
theorem st_arr {s : State} {b : Nat} {t : FieldType} (ho : ∀ C, t ≠ .object C) (h : (Cond.arrayClass t).before #[Value.ref b] s = true) : ∃ c : ClassId, ArrOfT s c t ∧ va_RA s c t := by
  obtain ⟨c, k, comp, h1, h2, h3⟩ := Cond.arrayClass_spec h
  refine ⟨c, fun N z => ⟨(fun q hq => by cases hq), k, h2, comp, h3⟩, ?_⟩
  cases t <;> first | exact h1 | exact absurd rfl (ho _)
theorem st_arr2 {s : State} {b : Nat} {t : FieldType} (h : (Cond.arrayOver (.array t)).before #[Value.ref b] s = true) : ∃ c : ClassId, ArrOfT s c (.array t) ∧ va_RA s c (.array t) := by
  obtain ⟨comp, c, k, h1, h2, h3, h4, h5⟩ := arrayOverA_spec h
  exact ⟨c, fun N z => ⟨(fun q hq => by cases hq), k, h3, comp, h4⟩, h5⟩

abbrev nar1 : List Cond := flatC (Jvm.Cond.and given_1 narrow_1)
theorem nr_least : ∀ j, j < 9 → Cond.eq (.elem (.static "EightLegs$Pool" "LEAST" "[I") (.int (Int32.ofNat j))) (.int (LEASTf j)) ∈ nar1 := by decide +kernel
theorem nr_most : ∀ j, j < 9 → Cond.eq (.elem (.static "EightLegs$Pool" "MOST" "[I") (.int (Int32.ofNat j))) (.int (MOSTf j)) ∈ nar1 := by decide +kernel
theorem nr_up : ∀ j, j < 8 → Cond.eq (.elem (.static "EightLegs$Ways" "UP" "[I") (.int (Int32.ofNat j))) (.int (UPf j)) ∈ nar1 := by decide +kernel
theorem nr_name : ∀ j, j < 6 → Cond.eq (.elem (.field (.string "EightLegs$Tape" 60) "java/lang/String" "value" "[B") (.int (Int32.ofNat j))) (.int (NAMEf j)) ∈ nar1 := by decide +kernel
theorem st_s0 {s : State} {b : Nat} {A : Nat → Prop} (hts : ∀ w ∈ lw_tbl, w.before #[Value.ref b] s = true) (hgv : ∀ w ∈ nar1, w.before #[Value.ref b] s = true) (hA : ∀ a : Nat, a < s.heap.size → ¬ A a) : ∃ t : Nat, va_Z "EightLegs$Pool" "LEAST" "[I" (.ref t) A s s.heap ∧ va_T .int t 9 (fun j => .int (LEASTf j)) A s s.heap := by
  obtain ⟨t, ht, hT⟩ := va_Tof (N := 9) (f := fun j => .int (LEASTf j)) (A := A) (by decide) (hgv (.arrayOf (.static "EightLegs$Pool" "LEAST" "[I") .int) (by decide +kernel)) (va_eqt (hgv (.eq (.length (.static "EightLegs$Pool" "LEAST" "[I")) (.int 9)) (by decide +kernel))) (fun j hj => va_eqt (hgv _ (nr_least j hj))) hA
  exact ⟨t, va_Zof (hts (.laysStatic "EightLegs$Pool" "LEAST" "[I") (List.mem_of_getElem? (i := 444) (by decide +kernel))) (hts (.initialized "EightLegs$Pool") (List.mem_of_getElem? (i := 96) (by decide +kernel))) ht hA, hT⟩
theorem st_s1 {s : State} {b : Nat} {A : Nat → Prop} (hts : ∀ w ∈ lw_tbl, w.before #[Value.ref b] s = true) (hgv : ∀ w ∈ nar1, w.before #[Value.ref b] s = true) (hA : ∀ a : Nat, a < s.heap.size → ¬ A a) : ∃ t : Nat, va_Z "EightLegs$Pool" "MOST" "[I" (.ref t) A s s.heap ∧ va_T .int t 9 (fun j => .int (MOSTf j)) A s s.heap := by
  obtain ⟨t, ht, hT⟩ := va_Tof (N := 9) (f := fun j => .int (MOSTf j)) (A := A) (by decide) (hgv (.arrayOf (.static "EightLegs$Pool" "MOST" "[I") .int) (by decide +kernel)) (va_eqt (hgv (.eq (.length (.static "EightLegs$Pool" "MOST" "[I")) (.int 9)) (by decide +kernel))) (fun j hj => va_eqt (hgv _ (nr_most j hj))) hA
  exact ⟨t, va_Zof (hts (.laysStatic "EightLegs$Pool" "MOST" "[I") (List.mem_of_getElem? (i := 446) (by decide +kernel))) (hts (.initialized "EightLegs$Pool") (List.mem_of_getElem? (i := 96) (by decide +kernel))) ht hA, hT⟩
theorem st_s2 {s : State} {b : Nat} {A : Nat → Prop} (hts : ∀ w ∈ lw_tbl, w.before #[Value.ref b] s = true) (hgv : ∀ w ∈ nar1, w.before #[Value.ref b] s = true) (hA : ∀ a : Nat, a < s.heap.size → ¬ A a) : ∃ t : Nat, va_Z "EightLegs$Ways" "UP" "[I" (.ref t) A s s.heap ∧ va_T .int t 8 (fun j => .int (UPf j)) A s s.heap := by
  obtain ⟨t, ht, hT⟩ := va_Tof (N := 8) (f := fun j => .int (UPf j)) (A := A) (by decide) (hgv (.arrayOf (.static "EightLegs$Ways" "UP" "[I") .int) (by decide +kernel)) (va_eqt (hgv (.eq (.length (.static "EightLegs$Ways" "UP" "[I")) (.int 8)) (by decide +kernel))) (fun j hj => va_eqt (hgv _ (nr_up j hj))) hA
  exact ⟨t, va_Zof (hts (.laysStatic "EightLegs$Ways" "UP" "[I") (List.mem_of_getElem? (i := 1194) (by decide +kernel))) (hts (.initialized "EightLegs$Ways") (List.mem_of_getElem? (i := 105) (by decide +kernel))) ht hA, hT⟩
theorem st_str {s : State} {b : Nat} {A : Nat → Prop} (hts : ∀ w ∈ lw_tbl, w.before #[Value.ref b] s = true) (hgv : ∀ w ∈ nar1, w.before #[Value.ref b] s = true) (hA : ∀ a : Nat, a < s.heap.size → ¬ A a) : ∃ a v : Nat, vk_R "EightLegs$Tape" 60 "oedtks" a s ∧ va_O "java/lang/String" a A s s.heap ∧ va_OF "java/lang/String" "value" "[B" (.ref v) a A s s.heap ∧ va_OF "java/lang/String" "code\x72" "B" (.int 0) a A s s.heap ∧ va_T .byte v 6 (fun j => .int (NAMEf j)) A s s.heap ∧ va_Z "java/lang/String" "COMPACT_STRINGS" "Z" (.int 1) A s s.heap := by
  obtain ⟨a, c, cA, kA, q1, q2, q3, q4, q5, q6, -⟩ := Cond.exactly_spec (args := #[Value.ref b]) (first := s) (o := none) (s := s) (idx := []) (t := .string "EightLegs$Tape" 60) (cls := "java/lang/String") (hgv (.exactly (.string "EightLegs$Tape" 60) "java/lang/String") (by decide +kernel))
  obtain ⟨v, hv, hT⟩ := va_Tof (N := 6) (f := fun j => .int (NAMEf j)) (A := A) (by decide) (hgv (.arrayOf (.field (.string "EightLegs$Tape" 60) "java/lang/String" "value" "[B") .byte) (by decide +kernel)) (va_eqt (hgv (.eq (.length (.field (.string "EightLegs$Tape" 60) "java/lang/String" "value" "[B")) (.int 6)) (by decide +kernel))) (fun j hj => va_eqt (hgv _ (nr_name j hj))) hA
  exact ⟨a, v, vk_R.of (hts (.stringRef "EightLegs$Tape" 60 "oedtks") (List.mem_of_getElem? (i := 576) (by decide +kernel))) q1, ⟨cA, q3, q5, by rw [q6]; exact q2, hA a (Array.getElem?_eq_some_iff.mp q3).1⟩, vk_OFof q1 hv hA, vk_OFof q1 (va_eqt (hgv (.eq (.field (.string "EightLegs$Tape" 60) "java/lang/String" "code\x72" "B") (.int 0)) (by decide +kernel))) hA, hT, va_Zof (hts (.laysStatic "java/lang/String" "COMPACT_STRINGS" "Z") (List.mem_of_getElem? (i := 590) (by decide +kernel))) (hts (.initialized "java/lang/String") (List.mem_of_getElem? (i := 108) (by decide +kernel))) (va_eqi (hgv (.eq (.static "java/lang/String" "COMPACT_STRINGS" "Z") (.int 1)) (by decide +kernel))) hA⟩
theorem st_nest : ∀ w ∈ nests, w ∈ lw_tbl := by decide +kernel
set_option maxHeartbeats 4000000 in
theorem law_start {p : Program} {e : Env} {s : State} {m : MethodId} {below : List Frame} {meth : Method} {c : Code} (l : Launch) {b L n : Nat} {xs : Nat → Int32} (C0 : lw_At p s m meth c b L xs) (hT : lawf n xs L X0 = some ()) : W p l e room_1 s m #[Value.ref b] below meth c s.heap [] 0 0 (lw_Z below #[Value.ref b] s) (entryFrame m ([Value.ref b] : List Value).toArray 4) := by
  obtain ⟨hx, hb, hr, hml, hown, hts, hX, hbl, hlk, hgv0⟩ := C0
  have hgv := flat_of_before _ hgv0
  obtain ⟨f, hf⟩ := Classical.axiomOfChoice (st_cls hts)
  obtain ⟨c0, i0, j0⟩ := st_arr (t := .int) (fun _ h => by cases h) (hts _ (List.mem_filter.mp ac_int).1)
  obtain ⟨c1, i1, j1⟩ := st_arr (t := .long) (fun _ h => by cases h) (hts _ (List.mem_filter.mp ac_long).1)
  obtain ⟨c2, i2, j2⟩ := st_arr (t := .boolean) (fun _ h => by cases h) (hts _ (List.mem_filter.mp ac_boolean).1)
  obtain ⟨c3, i3, j3⟩ := st_arr2 (t := .int) (hts (.arrayOver (.array .int)) (List.mem_of_getElem? (i := 131) (by decide +kernel)))
  obtain ⟨c4, i4, j4⟩ := st_arr2 (t := .long) (hts (.arrayOver (.array .long)) (List.mem_of_getElem? (i := 384) (by decide +kernel)))
  have hA : ∀ a : Nat, a < s.heap.size → ¬ (fun a => ∃ o, o < NO ∧ a = s.heap.size + o) a := by
    rintro a h ⟨o, -, he⟩
    omega
  obtain ⟨t0, y0, z0⟩ := st_s0 hts hgv hA
  obtain ⟨t1, y1, z1⟩ := st_s1 hts hgv hA
  obtain ⟨t2, y2, z2⟩ := st_s2 hts hgv hA
  obtain ⟨t3, t4, r1, r2, r3, r4, r5, r6⟩ := st_str hts hgv hA
  have main : ∀ q : Th, q = (l, (fun k => (f k).1, fun k => (f k).2), fun o => s.heap.size + o, (fun k => if k = 0 then c0 else if k = 1 then c1 else if k = 2 then c2 else if k = 3 then c3 else c4), (fun k => if k = 0 then t0 else if k = 1 then t1 else if k = 2 then t2 else if k = 3 then t3 else t4)) → W p q.l e room_1 s m #[Value.ref b] below meth c s.heap [] 0 0 (lw_Z below #[Value.ref b] s) (entryFrame m ([Value.ref b] : List Value).toArray 4) := by
    intro q hqe
    have hq : ∀ o, q.ad o = s.heap.size + o := fun o => by rw [hqe]
    have hK : va_K q.D clT (tysT q) s := by
      refine ⟨fun k r hk => ?_, fun k r hk => ?_⟩
      · rw [hqe]
        exact hf k r hk
      · have hl := (List.getElem?_eq_some_iff.mp hk).1
        have h5 : (tysT q).length = 5 := rfl
        rw [hqe] at hk
        rcases (show k = 0 ∨ k = 1 ∨ k = 2 ∨ k = 3 ∨ k = 4 by omega) with rfl | rfl | rfl | rfl | rfl
        · cases hk; exact ⟨i0, j0⟩
        · cases hk; exact ⟨i1, j1⟩
        · cases hk; exact ⟨i2, j2⟩
        · cases hk; exact ⟨i3, j3⟩
        · cases hk; exact ⟨i4, j4⟩
    have hFr : Fr q = fun a => ∃ o, o < NO ∧ a = s.heap.size + o := by
      funext a
      unfold Fr
      simp only [hq]
    have hs : Sf q s := by
      unfold Sf
      rw [hFr, hqe]
      exact ⟨⟨y0, z0⟩, ⟨y1, z1⟩, ⟨y2, z2⟩, r1, r2, r3, r4, r5, r6⟩
    have hN : NwF s := ⟨hts (.arrayOver (.array .int)) (List.mem_of_getElem? (i := 131) (by decide +kernel)), hts (.arrayOver (.array .long)) (List.mem_of_getElem? (i := 384) (by decide +kernel)), fun i x h hm => va_Nw.of rfl (hts _ (st_nest _ hm))⟩
    have hz0 : zr Zz 0 := fun o _ => ⟨fun _ => rfl, fun _ => rfl, fun _ => rfl⟩
    have h := lv_entry ([.ref b]) (n := 4) (Nat.le_of_ble_eq_true rfl)
    rw [lg_entry_eq]
    have G0 : GK q (lKF q s.heap.size b L xs) 0 [(0, .ref b)] [] 0 Zz 0 0 := by
      refine k_new (N := 11) rfl dL_law_0 rfl kkX11 clL_7 in_X11 iz_X11 rfl rfl (by decide +kernel) (Nat.le_of_ble_eq_true rfl) (Nat.le_of_ble_eq_true rfl) ?_
      refine k_dup dL_law_3 rfl rfl ?_
      refine k_init (As := []) (st := [.ref (q.ad 0)]) 0 (fun z h => lF_wg (q := q) (b := 0) (L := 0) (xs := fun _ => 0) z h) rfl dL_law_4 rfl iX11_init (Or.inl lkL_9) ⟨Nat.le_of_ble_eq_true rfl, Nat.le_of_ble_eq_true rfl, Nat.le_of_ble_eq_true rfl, Nat.le_of_ble_eq_true rfl⟩ (fun hz => X11_init_k q _ _ hz) (fun hz => X11_init_z hz) rfl rfl (Nat.le_of_ble_eq_true rfl) ?_
      refine k_astore_n (lv' := [(1, .ref (q.ad 0)), (0, .ref b)]) dL_law_7 rfl rfl (Nat.le_of_ble_eq_true rfl) rfl ?_
      refine k_new (N := 56) rfl dL_law_8 rfl kkX12 clL_10 in_X12 iz_X12 rfl rfl (by decide +kernel) (Nat.le_of_ble_eq_true rfl) (Nat.le_of_ble_eq_true rfl) ?_
      refine k_dup dL_law_11 rfl rfl ?_
      refine k_init (As := []) (st := [.ref (q.ad 102)]) 0 (fun z h => lF_wg (q := q) (b := 0) (L := 0) (xs := fun _ => 0) z h) rfl dL_law_12 rfl iX12_init (Or.inl lkL_12) ⟨Nat.le_of_ble_eq_true rfl, Nat.le_of_ble_eq_true rfl, Nat.le_of_ble_eq_true rfl, Nat.le_of_ble_eq_true rfl⟩ (fun hz => X12_init_k q _ _ hz) (fun hz => X12_init_z hz) rfl rfl (Nat.le_of_ble_eq_true rfl) ?_
      refine k_astore_n (lv' := [(2, .ref (q.ad 102)), (1, .ref (q.ad 0)), (0, .ref b)]) dL_law_15 rfl rfl (Nat.le_of_ble_eq_true rfl) rfl ?_
      exact k_law hT zf_set (Nat.le_of_ble_eq_true rfl) (Nat.le_of_ble_eq_true rfl)
    exact G0 hz0 p e s m _ below meth c ⟨hx, hb, hml, hown, hts, fun w hw => (List.mem_filter.mp hw).1, hK, hN, hq, rfl, hr, hlk, hX, hbl, rfl, hs⟩ s.heap [] _ h (fun k x hk => by cases hk) rfl va_S.rf
  exact main _ rfl
