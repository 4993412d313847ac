/-! the whole -/
theorem law_all (n : Nat) (hn : 4096 ≤ n) (xs : Nat → Int32) (L : Nat) (hL : L ≤ 3072) (Inv : St → Prop) (h0 : Inv X0) (op0 : ∀ (a0 : Int32) (a1 : Int32), OWW Inv (el_swimmer a0 a1) (mo_swimmer a0 a1)) (op1 : ∀ (a0 : Int32) (a1 : Int32) (a2 : Int32), OWW Inv (el_swimmers n a0 a1 a2) (mo_swimmers n a0 a1 a2)) (op2 : ∀ (a0 : Int32) (a1 : Int32) (a2 : Int32), OWW Inv (el_mend n a0 a1 a2) (mo_mend n a0 a1 a2)) (op3 : ∀ (a0 : Int32) (a1 : Int32), ORR Inv (el_of a0 a1) (mo_of a0 a1)) (op4 : ∀ (a0 : Int32), OWW Inv (el_feed a0) (mo_feed a0)) (op5 : OWW Inv (el_law n) (mo_law n)) (op6 : ∀ (a0 : Int32) (a1 : Int32) (a2 : Int32), OWW Inv (el_loses n a0 a1 a2) (mo_loses n a0 a1 a2)) (op7 : ∀ (a0 : Int32) (a1 : Int32), OWW Inv (el_routine n a0 a1) (mo_routine n a0 a1)) (op8 : ∀ (a0 : Int32) (a1 : Int32) (a2 : Int32), OWW Inv (el_off n a0 a1 a2) (mo_off n a0 a1 a2)) (op9 : ∀ (a0 : Int32) (a1 : Int32) (a2 : Int32), OWW Inv (el_apart n a0 a1 a2) (mo_apart n a0 a1 a2)) (op10 : ∀ (a0 : Int32) (a1 : Int32), OWW Inv (el_gone n a0 a1) (mo_gone n a0 a1)) (op11 : ∀ (a0 : Int32) (a1 : Int32), OWW Inv (el_least n a0 a1) (mo_least n a0 a1)) (op12 : ∀ (a0 : Int32) (a1 : Int32), OWW Inv (el_gasps n a0 a1) (mo_gasps n a0 a1)) (op13 : ∀ (a0 : Int32) (a1 : Int32), OWW Inv (el_looks n a0 a1) (mo_looks n a0 a1)) (op14 : ∀ (a0 : Int32) (a1 : Int32), OWW Inv (el_whose n a0 a1) (mo_whose n a0 a1)) (op15 : ∀ (a0 : Int32) (a1 : Int32), OWW Inv (el_first n a0 a1) (mo_first n a0 a1)) (op16 : ∀ (a0 : Int32) (a1 : Int32) (a2 : Int32), OWW Inv (el_slip n a0 a1 a2) (mo_slip n a0 a1 a2)) (op17 : ∀ (a0 : Int32) (a1 : Int32), OWW Inv (el_line n a0 a1) (mo_line n a0 a1)) (op18 : ∀ (a0 : Int32), ORR Inv (el_lift n a0) (mo_lift n a0)) (op19 : ∀ (a0 : Int32), ORR Inv (el_star n a0) (mo_star n a0)) (op20 : ∀ (a0 : Int32), OWW Inv (el_judge n a0) (mo_judge n a0)) (op21 : ∀ (a0 : Int32), OWW Inv (el_whoLed n a0) (mo_whoLed n a0)) (op22 : ∀ (a0 : Int32) (a1 : Int32), OWW Inv (el_later n a0 a1) (mo_later n a0 a1)) (op23 : ∀ (a0 : Int32) (a1 : Int32), OWW Inv (el_quicker n a0 a1) (mo_quicker n a0 a1)) (op24 : ∀ (a0 : Int32) (a1 : Int32) (a2 : Int32) (a3 : Int32), OWW Inv (el_drawn n a0 a1 a2 a3) (mo_drawn n a0 a1 a2 a3)) (op25 : ∀ (a0 : Int32), OWW Inv (el_swim n a0) (mo_swim n a0)) (op26 : ∀ (a0 : Int32), ORR Inv (el_led a0) (mo_led a0)) (op27 : OWW Inv (el_image) (mo_image n)) (op28 : OWW Inv (el_back) (mo_back n)) (op29 : OWW Inv (el_undo) (mo_undo)) (op30 : OWW Inv (el_redo) (mo_redo)) (op31 : ∀ (a0 : Int32), OWW Inv (el_body a0) (mo_body a0)) (op32 : ∀ (a0 : Int32) (a1 : Int32) (a2 : Int32), OWW Inv (el_act a0 a1 a2) (mo_act a0 a1 a2)) (op33 : ∀ (a0 : Int32), ORR Inv (el_trace a0) (mo_trace a0)) (op34 : ∀ (a0 : Int32) (a1 : Int32), OWW Inv (el_keep a0 a1) (mo_keep a0 a1)) (op35 : ∀ (a0 : Int32) (a1 : Int32) (a2 : Int32), OWW Inv (el_row n a0 a1 a2) (mo_row n a0 a1 a2)) (op36 : ∀ (a0 : Int32) (a1 : Int32) (a2 : Int64), OWW Inv (el_put a0 a1 a2) (mo_put a0 a1 a2)) (op37 : ∀ (a0 : Int32) (a1 : Int32), ORR Inv (el_element a0 a1) (mo_element a0 a1)) (op38 : ∀ (a0 : Int32) (a1 : Int32) (a2 : Int32) (a3 : Int32) (a4 : Int32), OWW Inv (el_shift a0 a1 a2 a3 a4) (mo_shift n a0 a1 a2 a3 a4)) (op39 : ∀ (a0 : Int32) (a1 : Int32), ORR Inv (el_taken a0 a1) (mo_taken n a0 a1)) (op40 : ∀ (a0 : Int32), OTT Inv (el_count a0) (mo_count a0)) : lawf n xs L X0 = some () :=
  law_run n xs L hL Inv op0 op1 op2 op3 op4 op5 op6 op7 op8 op9 op10 op11 op12 op13 op14 op15 op16 op17 op18 op19 op20 op21 op22 op23 op24 op25 op26 op27 op28 op29 op30 op31 op32 op33 op34 op35 op36 op37 op38 op39 op40 n 0 X0 h0 (by omega) (by omega)

theorem law_fin (xs : Nat → Int32) (L : Nat) (hL : L ≤ 3072) : lawf 4096 xs L X0 = some () :=
  law_all 4096 (Nat.le_refl _) xs L hL Inv inv_0 (lift0 4096 (Nat.le_refl _)) (lift1 4096 (Nat.le_refl _)) (lift2 4096 (Nat.le_refl _)) (lift3 4096 (Nat.le_refl _)) (lift4 4096 (Nat.le_refl _)) (lift5 4096 (Nat.le_refl _)) (lift6 4096 (Nat.le_refl _)) (lift7 4096 (Nat.le_refl _)) (lift8 4096 (Nat.le_refl _)) (lift9 4096 (Nat.le_refl _)) (lift10 4096 (Nat.le_refl _)) (lift11 4096 (Nat.le_refl _)) (lift12 4096 (Nat.le_refl _)) (lift13 4096 (Nat.le_refl _)) (lift14 4096 (Nat.le_refl _)) (lift15 4096 (Nat.le_refl _)) (lift16 4096 (Nat.le_refl _)) (lift17 4096 (Nat.le_refl _)) (lift18 4096 (Nat.le_refl _)) (lift19 4096 (Nat.le_refl _)) (lift20 4096 (Nat.le_refl _)) (lift21 4096 (Nat.le_refl _)) (lift22 4096 (Nat.le_refl _)) (lift23 4096 (Nat.le_refl _)) (lift24 4096 (Nat.le_refl _)) (lift25 4096 (Nat.le_refl _)) (lift26 4096 (Nat.le_refl _)) (lift27 4096 (Nat.le_refl _)) (lift28 4096 (Nat.le_refl _)) (lift29 4096 (Nat.le_refl _)) (lift30 4096 (Nat.le_refl _)) (lift31 4096 (Nat.le_refl _)) (lift32 4096 (Nat.le_refl _)) (lift33 4096 (Nat.le_refl _)) (lift34 4096 (Nat.le_refl _)) (lift35 4096 (Nat.le_refl _)) (lift36 4096 (Nat.le_refl _)) (lift37 4096 (Nat.le_refl _)) (lift38 4096 (Nat.le_refl _)) (lift39 4096 (Nat.le_refl _)) (lift40 4096 (Nat.le_refl _))
/-- from the entry, for every script of at most 3072 ints, the law comes to its end with true -/
theorem whole_start {p : Program} {e : Env} {s : State} {m : MethodId} {below : List Frame} {meth : Method} {c : Code} (l : Launch) (hflags : l.flags = flags0) {b L : Nat} {xs : Nat → Int32} (hL : L ≤ 3072) (C0 : lw_At p s m meth c b L xs) : W p l e room_1 s m #[Value.ref b] below meth c s.heap [] 0 0 (lw_Z below #[Value.ref b] s) (entryFrame m ([Value.ref b] : List Value).toArray 4) :=
  law_start l C0 (law_fin xs L hL)
set_option maxHeartbeats 4000000 in
theorem lw_walk (l : Launch) (hflags : l.flags = flags0) (b : Addr) (xs : List Int32) : MetFree l x (headSpec (Jvm.Cond.code x code maxLocals ret :: tables_1) room_1) (lw_P b xs) (fun _ _ _ _ _ => True) lw_Q := by
  refine MetFree.of_bodyS (code := code) (maxLocals := maxLocals) (ret := ret) (by decide) ?_ ?_
  · intro args s m h hn
    obtain ⟨meth, c, h1, h2, h3, h4, h5, h6, -, -⟩ := Cond.code_spec hn (atoms_spec (ws := Jvm.Cond.code x code maxLocals ret :: tables_1) h _ List.mem_cons_self)
    exact ⟨meth, c, h1, h2, h3, h4, h5, h6⟩
  · intro p e s m args below meth c s₁ B hml0 hP _
    obtain ⟨rfl, hx, hbd, hgv⟩ := hP
    obtain ⟨scr, harrAt, hlist, hof, hsmall⟩ := hx
    obtain ⟨hcb, hkn, -, -⟩ := State.arrayAt?_spec harrAt
    have hown : s.vm.findClass R_law = some m.cls := findClass_of_methodNamed B.named
    have hts0 : ∀ c ∈ (Jvm.Cond.code x code maxLocals ret :: tables_1), c.before #[Value.ref b] s = true := atoms_spec (ws := Jvm.Cond.code x code maxLocals ret :: tables_1) B.pre
    have hts : ∀ w ∈ lw_tbl, w.before #[Value.ref b] s = true := k2_hts_sels lw_privs (fun w hw => hts0 w (List.mem_cons_of_mem _ hw)) lw_privs_ok
    have hml : c.maxLocals = 4 := B.maxLocals_eq (hts0 _ List.mem_cons_self)
    have X₀ : Stand p l e room_1 s m #[Value.ref b] below meth c s₁ [] 0 0 := Stand.of_body B
    have hh0 : s₁.heap = s.heap := by rw [B.state]; rfl
    have hsz : scr.slots.size = xs.length := by rw [← Array.length_toList, hlist, List.length_map]
    have hval : ∀ j : Nat, j < xs.length → scr.slots[j]? = some (.int (xs.getD j 0)) := fun j hj => by
      rw [← Array.getElem?_toList, hlist]
      simp [hj]
    have hbl : b < s.heap.size := (Array.getElem?_eq_some_iff.mp hcb).1
    have hX : va_X b xs.length (fun j => xs.getD j 0) s s.heap := ⟨scr, hcb, hof, hkn, hsz, hval⟩
    have K : W p l e room_1 s m #[Value.ref b] below meth c s₁.heap [] 0 0 (lw_Z below #[Value.ref b] s) (entryFrame m ([Value.ref b] : List Value).toArray 4) := by
      rw [hh0]
      exact whole_start l hflags hbd ⟨B.exec, B.bytes, B.returns, hml, hown, hts, hX, hbl, B.notSynchronized, hgv⟩
    obtain ⟨t, a1, o, b1, b2, b3⟩ := K s₁ rfl X₀
    exact ⟨t, o, a1, b1, b2, b3⟩
theorem lw_pre_spec {args : Array Value} {s : State} (h : (Jvm.Cond.and given_1 narrow_1).before args s = true) (hr : rest_1_c.before args s = true) : ∃ (b : Addr) (xs : List Int32), lw_P b xs args s := by
  have hs := flat_of_before _ h
  have hq := flat_of_before _ hr
  have hc : (Cond.count 1).before args s = true := hs _ (by decide +kernel)
  have harr : (Cond.arrayOf (.arg 0) .int).before args s = true := hs _ (by decide +kernel)
  have hle : (Cond.le (.length (.arg 0)) (.int 3072)).before args s = true := hs _ (by decide +kernel)
  have hlen : (Cond.isInt (.length (.arg 0))).before args s = true := hq _ (by decide +kernel)
  have hall : (Cond.all (.arg 0) (.isInt (.elem (.arg 0) (.index 0)))).before args s = true := hq _ (by decide +kernel)
  obtain ⟨b, xs, hb, hx⟩ := State.ints_of_pre rfl harr hlen hall
  have hsm : xs.length < 2 ^ 31 := hx.choose_spec.2.2.2
  have hev : (Term.length (.arg 0)).eval args s none [] s = some (.int xs.length.toInt32) := hx.length_eval hb
  have hv := Cond.le_ints hev (show (Term.int 3072).eval args s none [] s = some (.int 3072) from rfl)
  have hd : xs.length.toInt32 ≤ 3072 := by
    simpa [Cond.before, Cond.holds, hv] using hle
  have hN : xs.length ≤ 3072 := (Int32.ofNat_le_ofNat hsm (by decide)).mp (show Int32.ofNat xs.length ≤ Int32.ofNat 3072 from hd)
  exact ⟨b, xs, Cond.one_arg hc (show args[0]? = some (.ref b) from hb), hx, hN, h⟩
theorem lw_comes (l : Launch) (hflags : l.flags = flags0) : Comes l x (Jvm.Cond.code x code maxLocals ret :: tables_1) room_1 (fun tb e args s => Calls_1 tb e args s ∧ rest_1 tb e args s ∧ Pre_1 tb e args s)
    (fun _ _ args s o t => lw_Q args s o t) := by
  intro p e ha hc hk s m args below hf hfit hheap happ hpre
  obtain ⟨b, xs, hP⟩ := lw_pre_spec hpre.2.2 hpre.2.1
  obtain ⟨k, o, h1, h2, h3, hQ⟩ := lw_walk l hflags b xs p e ha hc hk s m args below hf ((Spec.applies_iff_loose hf).mp happ).1 hP trivial
  exact ⟨k, o, h1, h2, h3, hQ⟩
theorem lw_frame {s t : State} {o : Outcome} {args : Array Value} (h : Framed s o t [] 600000 7302250) :
    Framed s o t (fieldLocs frame_1_writes args s ++ arrayLocs frame_1_arrays args s ++ staticLocs frame_1_statics s) 600000 7302250 := h
theorem lw_limb (L : Cond) (hL : ∀ (args : Array Value) (s t : State), L.after args s (.returned (some (.int 1))) t = true) :
    ArmFor flags0 classFile x code maxLocals ret World_1 tables_1 room_1 Calls_1 rest_1 Pre_1
      (fun tb e a s o t => postC L tb e a s o t ∧ Framed s o t (fieldLocs frame_1_writes a s ++ arrayLocs frame_1_arrays a s ++ staticLocs frame_1_statics s) 600000 7302250) := by
  intro l hflags _ _ p e ha hc hk s m args below hf hfit hheap happ hpre
  obtain ⟨k, o, h1, h2, h3, rfl, hF⟩ := lw_comes l hflags p e ha hc hk s m args below hf hfit hheap happ hpre
  exact ⟨k, _, h1, h2, h3, hL args s _, lw_frame hF⟩
theorem i_vc : Claimed_1_1 ∧ Claimed_1_2 := ⟨lw_limb limb_1_1 (fun args s t => by simp [limb_1_1, Cond.after, Cond.holds, Cond.value]), lw_limb limb_1_2 (fun args s t => Cond.after_iff.mpr (by
  first | (rw [show limb_1_2 = Cond.eq .result (.int 1) from rfl, Cond.eq_ints (x := 1) (y := 1) rfl rfl]; simp; done) | (simp [limb_1_2, Cond.value, Term.eval]; done)))⟩
