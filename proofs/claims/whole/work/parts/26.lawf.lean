/-! the law's own text from its first loop on -/
def lphi : Unit → Option Value × St := fun _ => (none, (fun _ _ => 0, fun _ _ => 0))
def lEx (q : Th) (b L : Nat) (xs : Nat → Int32) : State → Method → Array Value → Prop := fun s meth args => args = #[Value.ref b] ∧ meth.sig.returnType = ret ∧ meth.locks = false ∧ va_X b L xs s s.heap ∧ b < s.heap.size ∧ ¬ Fr q b ∧ ∀ o, o < NO → s.heap.size ≤ q.ad o
abbrev lF (q : Th) (b L : Nat) (xs : Nat → Int32) : FrI := (code, 4, RL, lw_tbl, (room_1, 600000, 7302250), (fun _ below args s => lw_Z below args s), lEx q b L xs)
theorem lF_wg {q : Th} {b L : Nat} {xs : Nat → Int32} : wg (lF q b L xs) := by
  intro z h w hw
  rcases List.mem_cons.mp hw with rfl | hw
  · exact ⟨(List.mem_filter.mp h).1, tb_good h⟩
  · exact ⟨(List.mem_filter.mp hw).1, tb_good hw⟩
theorem lwR {d L : Nat} (h1 : Nat.ble (d + 1) 2048 = true) (h2 : Nat.ble (8 + (L + 11) + 40 * d) 84000 = true) : d + 1 ≤ room_1.frames ∧ 8 + (L + 11) + 40 * d ≤ room_1.locals ∧ 600000 ≤ room_1.cells ∧ 7302250 ≤ room_1.slots := ⟨Nat.le_of_ble_eq_true h1, Nat.le_of_ble_eq_true h2, Nat.le_refl _, Nat.le_refl _⟩
section LAWR
variable {q : Th} {b L : Nat} {xs : Nat → Int32} {pc pc' : Nat} {lv lv' : List (Nat × Value)} {st : List Value} {X : St} {T : Option Unit}
theorem g_scr {j : Int32} (hd : decode code pc = .ok (.iaload, 1)) (hp : pc + 1 = pc') (k : G q (lF q b L xs) lphi pc' lv (.int (xs (nx j)) :: st) X T) : G q (lF q b L xs) lphi pc lv (.int j :: .ref b :: st) X (if inB j L then T else none) := by
  by_cases hj : inB j L = true
  · rw [if_pos hj]
    subst hp
    intro r hr p e s m args below meth c C H locs ls hl hP hS
    obtain ⟨-, -, -, h4, h5, h6, -⟩ := C.2.2.2.2.2.2.2.2.2
    exact va_sld C.1 C.2.1 h4 h5 h6 hS (inB_vp hj) hd (k r hr p e s m args below meth c C H locs ls hl hP hS)
  · rw [if_neg hj]; exact g_none
theorem g_scrlen (hd : decode code pc = .ok (.arraylength, 1)) (hp : pc + 1 = pc') (k : G q (lF q b L xs) lphi pc' lv (.int (Int32.ofNat L) :: st) X T) : G q (lF q b L xs) lphi pc lv (.ref b :: st) X T := by
  subst hp
  intro r hr p e s m args below meth c C H locs ls hl hP hS
  obtain ⟨-, -, -, h4, h5, h6, -⟩ := C.2.2.2.2.2.2.2.2.2
  exact va_slen C.1 C.2.1 h4 h5 h6 hS hd (k r hr p e s m args below meth c C H locs ls hl hP hS)
theorem g_lawret (hd : decode code pc = .ok (.ireturn, 1)) : G q (lF q b L xs) lphi pc lv [.int 1] X (some ()) := by
  intro r hr p e s m args below meth c C H locs ls hl hP hS
  obtain ⟨h1, h2, h3, h4, h5, h6, h7⟩ := C.2.2.2.2.2.2.2.2.2
  subst h1
  refine va_forget (fun x hx => ?_) (lw_ret C.1 C.2.1 h2 h3 hd)
  obtain ⟨o, ho, he⟩ := hS.2.2 x hx
  rw [he]
  exact h7 o ho
end LAWR
def lawf_L18_B (n : Nat) (xs : Nat → Int32) (L : Nat) (rec : Int32 → St → Option (Unit)) (v3 : Int32) (X : St) : Option (Unit) :=
(if ((Int32.ofNat L) - (6 : Int32)) < v3 then
(some ())
else
(if inB v3 L then
(if ((xs (nx v3)) &&& (63 : Int32)) = (0 : Int32) then
(if inB (v3 + (1 : Int32)) L then
(if inB (v3 + (2 : Int32)) L then
((el_swimmer (xs (nx (v3 + (1 : Int32)))) (xs (nx (v3 + (2 : Int32)))) X).bind fun (c2, X1) =>
(if inB (v3 + (1 : Int32)) L then
(if inB (v3 + (2 : Int32)) L then
((mo_swimmer (xs (nx (v3 + (1 : Int32)))) (xs (nx (v3 + (2 : Int32)))) X1).bind fun (c4, X3) =>
(if c2 = c4 then
(rec (v3 + (6 : Int32)) X3)
else
none)) else none) else none)) else none) else none)
else
(if ((xs (nx v3)) &&& (63 : Int32)) = (1 : Int32) then
(if inB (v3 + (1 : Int32)) L then
(if inB (v3 + (2 : Int32)) L then
(if inB (v3 + (3 : Int32)) L then
((el_swimmers n (xs (nx (v3 + (1 : Int32)))) (xs (nx (v3 + (2 : Int32)))) (xs (nx (v3 + (3 : Int32)))) X).bind fun (c6, X5) =>
(if inB (v3 + (1 : Int32)) L then
(if inB (v3 + (2 : Int32)) L then
(if inB (v3 + (3 : Int32)) L then
((mo_swimmers n (xs (nx (v3 + (1 : Int32)))) (xs (nx (v3 + (2 : Int32)))) (xs (nx (v3 + (3 : Int32)))) X5).bind fun (c8, X7) =>
(if c6 = c8 then
(rec (v3 + (6 : Int32)) X7)
else
none)) else none) else none) else none)) else none) else none) else none)
else
(if ((xs (nx v3)) &&& (63 : Int32)) = (2 : Int32) then
(if inB (v3 + (1 : Int32)) L then
(if inB (v3 + (2 : Int32)) L then
(if inB (v3 + (3 : Int32)) L then
((el_mend n (xs (nx (v3 + (1 : Int32)))) (xs (nx (v3 + (2 : Int32)))) (xs (nx (v3 + (3 : Int32)))) X).bind fun (c10, X9) =>
(if inB (v3 + (1 : Int32)) L then
(if inB (v3 + (2 : Int32)) L then
(if inB (v3 + (3 : Int32)) L then
((mo_mend n (xs (nx (v3 + (1 : Int32)))) (xs (nx (v3 + (2 : Int32)))) (xs (nx (v3 + (3 : Int32)))) X9).bind fun (c12, X11) =>
(if c10 = c12 then
(rec (v3 + (6 : Int32)) X11)
else
none)) else none) else none) else none)) else none) else none) else none)
else
(if ((xs (nx v3)) &&& (63 : Int32)) = (3 : Int32) then
(if inB (v3 + (1 : Int32)) L then
(if inB (v3 + (2 : Int32)) L then
((el_of (xs (nx (v3 + (1 : Int32)))) (xs (nx (v3 + (2 : Int32)))) X).bind fun c13 =>
(if inB (v3 + (1 : Int32)) L then
(if inB (v3 + (2 : Int32)) L then
((mo_of (xs (nx (v3 + (1 : Int32)))) (xs (nx (v3 + (2 : Int32)))) X).bind fun c14 =>
(if c13 = c14 then
(rec (v3 + (6 : Int32)) X)
else
none)) else none) else none)) else none) else none)
else
(if ((xs (nx v3)) &&& (63 : Int32)) = (4 : Int32) then
(if inB (v3 + (1 : Int32)) L then
((el_feed (xs (nx (v3 + (1 : Int32)))) X).bind fun (c16, X15) =>
(if inB (v3 + (1 : Int32)) L then
((mo_feed (xs (nx (v3 + (1 : Int32)))) X15).bind fun (c18, X17) =>
(if c16 = c18 then
(rec (v3 + (6 : Int32)) X17)
else
none)) else none)) else none)
else
(if ((xs (nx v3)) &&& (63 : Int32)) = (5 : Int32) then
((el_law n X).bind fun (c20, X19) =>
((mo_law n X19).bind fun (c22, X21) =>
(if c20 = c22 then
(rec (v3 + (6 : Int32)) X21)
else
none)))
else
(if ((xs (nx v3)) &&& (63 : Int32)) = (6 : Int32) then
(if inB (v3 + (1 : Int32)) L then
(if inB (v3 + (2 : Int32)) L then
(if inB (v3 + (3 : Int32)) L then
((el_loses n (xs (nx (v3 + (1 : Int32)))) (xs (nx (v3 + (2 : Int32)))) (xs (nx (v3 + (3 : Int32)))) X).bind fun (c24, X23) =>
(if inB (v3 + (1 : Int32)) L then
(if inB (v3 + (2 : Int32)) L then
(if inB (v3 + (3 : Int32)) L then
((mo_loses n (xs (nx (v3 + (1 : Int32)))) (xs (nx (v3 + (2 : Int32)))) (xs (nx (v3 + (3 : Int32)))) X23).bind fun (c26, X25) =>
(if c24 = c26 then
(rec (v3 + (6 : Int32)) X25)
else
none)) else none) else none) else none)) else none) else none) else none)
else
(if ((xs (nx v3)) &&& (63 : Int32)) = (7 : Int32) then
(if inB (v3 + (1 : Int32)) L then
(if inB (v3 + (2 : Int32)) L then
((el_routine n (xs (nx (v3 + (1 : Int32)))) (xs (nx (v3 + (2 : Int32)))) X).bind fun (c28, X27) =>
(if inB (v3 + (1 : Int32)) L then
(if inB (v3 + (2 : Int32)) L then
((mo_routine n (xs (nx (v3 + (1 : Int32)))) (xs (nx (v3 + (2 : Int32)))) X27).bind fun (c30, X29) =>
(if c28 = c30 then
(rec (v3 + (6 : Int32)) X29)
else
none)) else none) else none)) else none) else none)
else
(if ((xs (nx v3)) &&& (63 : Int32)) = (8 : Int32) then
(if inB (v3 + (1 : Int32)) L then
(if inB (v3 + (2 : Int32)) L then
(if inB (v3 + (3 : Int32)) L then
((el_off n (xs (nx (v3 + (1 : Int32)))) (xs (nx (v3 + (2 : Int32)))) (xs (nx (v3 + (3 : Int32)))) X).bind fun (c32, X31) =>
(if inB (v3 + (1 : Int32)) L then
(if inB (v3 + (2 : Int32)) L then
(if inB (v3 + (3 : Int32)) L then
((mo_off n (xs (nx (v3 + (1 : Int32)))) (xs (nx (v3 + (2 : Int32)))) (xs (nx (v3 + (3 : Int32)))) X31).bind fun (c34, X33) =>
(if c32 = c34 then
(rec (v3 + (6 : Int32)) X33)
else
none)) else none) else none) else none)) else none) else none) else none)
else
(if ((xs (nx v3)) &&& (63 : Int32)) = (9 : Int32) then
(if inB (v3 + (1 : Int32)) L then
(if inB (v3 + (2 : Int32)) L then
(if inB (v3 + (3 : Int32)) L then
((el_apart n (xs (nx (v3 + (1 : Int32)))) (xs (nx (v3 + (2 : Int32)))) (xs (nx (v3 + (3 : Int32)))) X).bind fun (c36, X35) =>
(if inB (v3 + (1 : Int32)) L then
(if inB (v3 + (2 : Int32)) L then
(if inB (v3 + (3 : Int32)) L then
((mo_apart n (xs (nx (v3 + (1 : Int32)))) (xs (nx (v3 + (2 : Int32)))) (xs (nx (v3 + (3 : Int32)))) X35).bind fun (c38, X37) =>
(if c36 = c38 then
(rec (v3 + (6 : Int32)) X37)
else
none)) else none) else none) else none)) else none) else none) else none)
else
(if ((xs (nx v3)) &&& (63 : Int32)) = (10 : Int32) then
(if inB (v3 + (1 : Int32)) L then
(if inB (v3 + (2 : Int32)) L then
((el_gone n (xs (nx (v3 + (1 : Int32)))) (xs (nx (v3 + (2 : Int32)))) X).bind fun (c40, X39) =>
(if inB (v3 + (1 : Int32)) L then
(if inB (v3 + (2 : Int32)) L then
((mo_gone n (xs (nx (v3 + (1 : Int32)))) (xs (nx (v3 + (2 : Int32)))) X39).bind fun (c42, X41) =>
(if c40 = c42 then
(rec (v3 + (6 : Int32)) X41)
else
none)) else none) else none)) else none) else none)
else
(if ((xs (nx v3)) &&& (63 : Int32)) = (11 : Int32) then
(if inB (v3 + (1 : Int32)) L then
(if inB (v3 + (2 : Int32)) L then
((el_least n (xs (nx (v3 + (1 : Int32)))) (xs (nx (v3 + (2 : Int32)))) X).bind fun (c44, X43) =>
(if inB (v3 + (1 : Int32)) L then
(if inB (v3 + (2 : Int32)) L then
((mo_least n (xs (nx (v3 + (1 : Int32)))) (xs (nx (v3 + (2 : Int32)))) X43).bind fun (c46, X45) =>
(if c44 = c46 then
(rec (v3 + (6 : Int32)) X45)
else
none)) else none) else none)) else none) else none)
else
(if ((xs (nx v3)) &&& (63 : Int32)) = (12 : Int32) then
(if inB (v3 + (1 : Int32)) L then
(if inB (v3 + (2 : Int32)) L then
((el_gasps n (xs (nx (v3 + (1 : Int32)))) (xs (nx (v3 + (2 : Int32)))) X).bind fun (c48, X47) =>
(if inB (v3 + (1 : Int32)) L then
(if inB (v3 + (2 : Int32)) L then
((mo_gasps n (xs (nx (v3 + (1 : Int32)))) (xs (nx (v3 + (2 : Int32)))) X47).bind fun (c50, X49) =>
(if c48 = c50 then
(rec (v3 + (6 : Int32)) X49)
else
none)) else none) else none)) else none) else none)
else
(if ((xs (nx v3)) &&& (63 : Int32)) = (13 : Int32) then
(if inB (v3 + (1 : Int32)) L then
(if inB (v3 + (2 : Int32)) L then
((el_looks n (xs (nx (v3 + (1 : Int32)))) (xs (nx (v3 + (2 : Int32)))) X).bind fun (c52, X51) =>
(if inB (v3 + (1 : Int32)) L then
(if inB (v3 + (2 : Int32)) L then
((mo_looks n (xs (nx (v3 + (1 : Int32)))) (xs (nx (v3 + (2 : Int32)))) X51).bind fun (c54, X53) =>
(if c52 = c54 then
(rec (v3 + (6 : Int32)) X53)
else
none)) else none) else none)) else none) else none)
else
(if ((xs (nx v3)) &&& (63 : Int32)) = (14 : Int32) then
(if inB (v3 + (1 : Int32)) L then
(if inB (v3 + (2 : Int32)) L then
((el_whose n (xs (nx (v3 + (1 : Int32)))) (xs (nx (v3 + (2 : Int32)))) X).bind fun (c56, X55) =>
(if inB (v3 + (1 : Int32)) L then
(if inB (v3 + (2 : Int32)) L then
((mo_whose n (xs (nx (v3 + (1 : Int32)))) (xs (nx (v3 + (2 : Int32)))) X55).bind fun (c58, X57) =>
(if c56 = c58 then
(rec (v3 + (6 : Int32)) X57)
else
none)) else none) else none)) else none) else none)
else
(if ((xs (nx v3)) &&& (63 : Int32)) = (15 : Int32) then
(if inB (v3 + (1 : Int32)) L then
(if inB (v3 + (2 : Int32)) L then
((el_first n (xs (nx (v3 + (1 : Int32)))) (xs (nx (v3 + (2 : Int32)))) X).bind fun (c60, X59) =>
(if inB (v3 + (1 : Int32)) L then
(if inB (v3 + (2 : Int32)) L then
((mo_first n (xs (nx (v3 + (1 : Int32)))) (xs (nx (v3 + (2 : Int32)))) X59).bind fun (c62, X61) =>
(if c60 = c62 then
(rec (v3 + (6 : Int32)) X61)
else
none)) else none) else none)) else none) else none)
else
(if ((xs (nx v3)) &&& (63 : Int32)) = (16 : Int32) then
(if inB (v3 + (1 : Int32)) L then
(if inB (v3 + (2 : Int32)) L then
(if inB (v3 + (3 : Int32)) L then
((el_slip n (xs (nx (v3 + (1 : Int32)))) (xs (nx (v3 + (2 : Int32)))) (xs (nx (v3 + (3 : Int32)))) X).bind fun (c64, X63) =>
(if inB (v3 + (1 : Int32)) L then
(if inB (v3 + (2 : Int32)) L then
(if inB (v3 + (3 : Int32)) L then
((mo_slip n (xs (nx (v3 + (1 : Int32)))) (xs (nx (v3 + (2 : Int32)))) (xs (nx (v3 + (3 : Int32)))) X63).bind fun (c66, X65) =>
(if c64 = c66 then
(rec (v3 + (6 : Int32)) X65)
else
none)) else none) else none) else none)) else none) else none) else none)
else
(if ((xs (nx v3)) &&& (63 : Int32)) = (17 : Int32) then
(if inB (v3 + (1 : Int32)) L then
(if inB (v3 + (2 : Int32)) L then
((el_line n (xs (nx (v3 + (1 : Int32)))) (xs (nx (v3 + (2 : Int32)))) X).bind fun (c68, X67) =>
(if inB (v3 + (1 : Int32)) L then
(if inB (v3 + (2 : Int32)) L then
((mo_line n (xs (nx (v3 + (1 : Int32)))) (xs (nx (v3 + (2 : Int32)))) X67).bind fun (c70, X69) =>
(if c68 = c70 then
(rec (v3 + (6 : Int32)) X69)
else
none)) else none) else none)) else none) else none)
else
(if ((xs (nx v3)) &&& (63 : Int32)) = (18 : Int32) then
(if inB (v3 + (1 : Int32)) L then
((el_lift n (xs (nx (v3 + (1 : Int32)))) X).bind fun c71 =>
(if inB (v3 + (1 : Int32)) L then
((mo_lift n (xs (nx (v3 + (1 : Int32)))) X).bind fun c72 =>
(if c71 = c72 then
(rec (v3 + (6 : Int32)) X)
else
none)) else none)) else none)
else
(if ((xs (nx v3)) &&& (63 : Int32)) = (19 : Int32) then
(if inB (v3 + (1 : Int32)) L then
((el_star n (xs (nx (v3 + (1 : Int32)))) X).bind fun c73 =>
(if inB (v3 + (1 : Int32)) L then
((mo_star n (xs (nx (v3 + (1 : Int32)))) X).bind fun c74 =>
(if c73 = c74 then
(rec (v3 + (6 : Int32)) X)
else
none)) else none)) else none)
else
(if ((xs (nx v3)) &&& (63 : Int32)) = (20 : Int32) then
(if inB (v3 + (1 : Int32)) L then
((el_judge n (xs (nx (v3 + (1 : Int32)))) X).bind fun (c76, X75) =>
(if inB (v3 + (1 : Int32)) L then
((mo_judge n (xs (nx (v3 + (1 : Int32)))) X75).bind fun (c78, X77) =>
(if c76 = c78 then
(rec (v3 + (6 : Int32)) X77)
else
none)) else none)) else none)
else
(if ((xs (nx v3)) &&& (63 : Int32)) = (21 : Int32) then
(if inB (v3 + (1 : Int32)) L then
((el_whoLed n (xs (nx (v3 + (1 : Int32)))) X).bind fun (c80, X79) =>
(if inB (v3 + (1 : Int32)) L then
((mo_whoLed n (xs (nx (v3 + (1 : Int32)))) X79).bind fun (c82, X81) =>
(if c80 = c82 then
(rec (v3 + (6 : Int32)) X81)
else
none)) else none)) else none)
else
(if ((xs (nx v3)) &&& (63 : Int32)) = (22 : Int32) then
(if inB (v3 + (1 : Int32)) L then
(if inB (v3 + (2 : Int32)) L then
((el_later n (xs (nx (v3 + (1 : Int32)))) (xs (nx (v3 + (2 : Int32)))) X).bind fun (c84, X83) =>
(if inB (v3 + (1 : Int32)) L then
(if inB (v3 + (2 : Int32)) L then
((mo_later n (xs (nx (v3 + (1 : Int32)))) (xs (nx (v3 + (2 : Int32)))) X83).bind fun (c86, X85) =>
(if c84 = c86 then
(rec (v3 + (6 : Int32)) X85)
else
none)) else none) else none)) else none) else none)
else
(if ((xs (nx v3)) &&& (63 : Int32)) = (23 : Int32) then
(if inB (v3 + (1 : Int32)) L then
(if inB (v3 + (2 : Int32)) L then
((el_quicker n (xs (nx (v3 + (1 : Int32)))) (xs (nx (v3 + (2 : Int32)))) X).bind fun (c88, X87) =>
(if inB (v3 + (1 : Int32)) L then
(if inB (v3 + (2 : Int32)) L then
((mo_quicker n (xs (nx (v3 + (1 : Int32)))) (xs (nx (v3 + (2 : Int32)))) X87).bind fun (c90, X89) =>
(if c88 = c90 then
(rec (v3 + (6 : Int32)) X89)
else
none)) else none) else none)) else none) else none)
else
(if ((xs (nx v3)) &&& (63 : Int32)) = (24 : Int32) then
(if inB (v3 + (1 : Int32)) L then
(if inB (v3 + (2 : Int32)) L then
(if inB (v3 + (3 : Int32)) L then
(if inB (v3 + (4 : Int32)) L then
((el_drawn n (xs (nx (v3 + (1 : Int32)))) (xs (nx (v3 + (2 : Int32)))) (xs (nx (v3 + (3 : Int32)))) (xs (nx (v3 + (4 : Int32)))) X).bind fun (c92, X91) =>
(if inB (v3 + (1 : Int32)) L then
(if inB (v3 + (2 : Int32)) L then
(if inB (v3 + (3 : Int32)) L then
(if inB (v3 + (4 : Int32)) L then
((mo_drawn n (xs (nx (v3 + (1 : Int32)))) (xs (nx (v3 + (2 : Int32)))) (xs (nx (v3 + (3 : Int32)))) (xs (nx (v3 + (4 : Int32)))) X91).bind fun (c94, X93) =>
(if c92 = c94 then
(rec (v3 + (6 : Int32)) X93)
else
none)) else none) else none) else none) else none)) else none) else none) else none) else none)
else
(if ((xs (nx v3)) &&& (63 : Int32)) = (25 : Int32) then
(if inB (v3 + (1 : Int32)) L then
((el_swim n (xs (nx (v3 + (1 : Int32)))) X).bind fun (c96, X95) =>
(if inB (v3 + (1 : Int32)) L then
((mo_swim n (xs (nx (v3 + (1 : Int32)))) X95).bind fun (c98, X97) =>
(if c96 = c98 then
(rec (v3 + (6 : Int32)) X97)
else
none)) else none)) else none)
else
(if ((xs (nx v3)) &&& (63 : Int32)) = (26 : Int32) then
(if inB (v3 + (1 : Int32)) L then
((el_led (xs (nx (v3 + (1 : Int32)))) X).bind fun c99 =>
(if inB (v3 + (1 : Int32)) L then
((mo_led (xs (nx (v3 + (1 : Int32)))) X).bind fun c100 =>
(if c99 = c100 then
(rec (v3 + (6 : Int32)) X)
else
none)) else none)) else none)
else
(if ((xs (nx v3)) &&& (63 : Int32)) = (27 : Int32) then
((el_image X).bind fun (c102, X101) =>
((mo_image n X101).bind fun (c104, X103) =>
(if c102 = c104 then
(rec (v3 + (6 : Int32)) X103)
else
none)))
else
(if ((xs (nx v3)) &&& (63 : Int32)) = (28 : Int32) then
((el_back X).bind fun (c106, X105) =>
((mo_back n X105).bind fun (c108, X107) =>
(if c106 = c108 then
(rec (v3 + (6 : Int32)) X107)
else
none)))
else
(if ((xs (nx v3)) &&& (63 : Int32)) = (29 : Int32) then
((el_undo X).bind fun (c110, X109) =>
((mo_undo X109).bind fun (c112, X111) =>
(if c110 = c112 then
(rec (v3 + (6 : Int32)) X111)
else
none)))
else
(if ((xs (nx v3)) &&& (63 : Int32)) = (30 : Int32) then
((el_redo X).bind fun (c114, X113) =>
((mo_redo X113).bind fun (c116, X115) =>
(if c114 = c116 then
(rec (v3 + (6 : Int32)) X115)
else
none)))
else
(if ((xs (nx v3)) &&& (63 : Int32)) = (31 : Int32) then
(if inB (v3 + (1 : Int32)) L then
((el_body (xs (nx (v3 + (1 : Int32)))) X).bind fun (c118, X117) =>
(if inB (v3 + (1 : Int32)) L then
((mo_body (xs (nx (v3 + (1 : Int32)))) X117).bind fun (c120, X119) =>
(if c118 = c120 then
(rec (v3 + (6 : Int32)) X119)
else
none)) else none)) else none)
else
(if ((xs (nx v3)) &&& (63 : Int32)) = (32 : Int32) then
(if inB (v3 + (1 : Int32)) L then
(if inB (v3 + (2 : Int32)) L then
(if inB (v3 + (3 : Int32)) L then
((el_act (xs (nx (v3 + (1 : Int32)))) (xs (nx (v3 + (2 : Int32)))) (xs (nx (v3 + (3 : Int32)))) X).bind fun (c122, X121) =>
(if inB (v3 + (1 : Int32)) L then
(if inB (v3 + (2 : Int32)) L then
(if inB (v3 + (3 : Int32)) L then
((mo_act (xs (nx (v3 + (1 : Int32)))) (xs (nx (v3 + (2 : Int32)))) (xs (nx (v3 + (3 : Int32)))) X121).bind fun (c124, X123) =>
(if c122 = c124 then
(rec (v3 + (6 : Int32)) X123)
else
none)) else none) else none) else none)) else none) else none) else none)
else
(if ((xs (nx v3)) &&& (63 : Int32)) = (33 : Int32) then
(if inB (v3 + (1 : Int32)) L then
((el_trace (xs (nx (v3 + (1 : Int32)))) X).bind fun c125 =>
(if inB (v3 + (1 : Int32)) L then
((mo_trace (xs (nx (v3 + (1 : Int32)))) X).bind fun c126 =>
(if c125 = c126 then
(rec (v3 + (6 : Int32)) X)
else
none)) else none)) else none)
else
(if ((xs (nx v3)) &&& (63 : Int32)) = (34 : Int32) then
(if inB (v3 + (1 : Int32)) L then
(if inB (v3 + (2 : Int32)) L then
((el_keep (xs (nx (v3 + (1 : Int32)))) (xs (nx (v3 + (2 : Int32)))) X).bind fun (c128, X127) =>
(if inB (v3 + (1 : Int32)) L then
(if inB (v3 + (2 : Int32)) L then
((mo_keep (xs (nx (v3 + (1 : Int32)))) (xs (nx (v3 + (2 : Int32)))) X127).bind fun (c130, X129) =>
(if c128 = c130 then
(rec (v3 + (6 : Int32)) X129)
else
none)) else none) else none)) else none) else none)
else
(if ((xs (nx v3)) &&& (63 : Int32)) = (35 : Int32) then
(if inB (v3 + (1 : Int32)) L then
(if inB (v3 + (2 : Int32)) L then
(if inB (v3 + (3 : Int32)) L then
((el_row n (xs (nx (v3 + (1 : Int32)))) (xs (nx (v3 + (2 : Int32)))) (xs (nx (v3 + (3 : Int32)))) X).bind fun (c132, X131) =>
(if inB (v3 + (1 : Int32)) L then
(if inB (v3 + (2 : Int32)) L then
(if inB (v3 + (3 : Int32)) L then
((mo_row n (xs (nx (v3 + (1 : Int32)))) (xs (nx (v3 + (2 : Int32)))) (xs (nx (v3 + (3 : Int32)))) X131).bind fun (c134, X133) =>
(if c132 = c134 then
(rec (v3 + (6 : Int32)) X133)
else
none)) else none) else none) else none)) else none) else none) else none)
else
(if ((xs (nx v3)) &&& (63 : Int32)) = (36 : Int32) then
(if inB (v3 + (1 : Int32)) L then
(if inB (v3 + (2 : Int32)) L then
(if inB (v3 + (3 : Int32)) L then
(if inB (v3 + (4 : Int32)) L then
((el_put (xs (nx (v3 + (1 : Int32)))) (xs (nx (v3 + (2 : Int32)))) ((jls ((xs (nx (v3 + (3 : Int32)))).toInt64) (32 : Int32)) ||| (((xs (nx (v3 + (4 : Int32)))).toInt64) &&& (4294967295 : Int64))) X).bind fun (c136, X135) =>
(if inB (v3 + (1 : Int32)) L then
(if inB (v3 + (2 : Int32)) L then
(if inB (v3 + (3 : Int32)) L then
(if inB (v3 + (4 : Int32)) L then
((mo_put (xs (nx (v3 + (1 : Int32)))) (xs (nx (v3 + (2 : Int32)))) ((jls ((xs (nx (v3 + (3 : Int32)))).toInt64) (32 : Int32)) ||| (((xs (nx (v3 + (4 : Int32)))).toInt64) &&& (4294967295 : Int64))) X135).bind fun (c138, X137) =>
(if c136 = c138 then
(rec (v3 + (6 : Int32)) X137)
else
none)) else none) else none) else none) else none)) else none) else none) else none) else none)
else
(if ((xs (nx v3)) &&& (63 : Int32)) = (37 : Int32) then
(if inB (v3 + (1 : Int32)) L then
(if inB (v3 + (2 : Int32)) L then
((el_element (xs (nx (v3 + (1 : Int32)))) (xs (nx (v3 + (2 : Int32)))) X).bind fun c139 =>
(if inB (v3 + (1 : Int32)) L then
(if inB (v3 + (2 : Int32)) L then
((mo_element (xs (nx (v3 + (1 : Int32)))) (xs (nx (v3 + (2 : Int32)))) X).bind fun c140 =>
(if (lg_cmp c139 c140) = 0 then
(rec (v3 + (6 : Int32)) X)
else
none)) else none) else none)) else none) else none)
else
(if ((xs (nx v3)) &&& (63 : Int32)) = (38 : Int32) then
(if inB (v3 + (1 : Int32)) L then
(if inB (v3 + (2 : Int32)) L then
(if inB (v3 + (3 : Int32)) L then
(if inB (v3 + (4 : Int32)) L then
(if inB (v3 + (5 : Int32)) L then
((el_shift (xs (nx (v3 + (1 : Int32)))) (xs (nx (v3 + (2 : Int32)))) (xs (nx (v3 + (3 : Int32)))) (xs (nx (v3 + (4 : Int32)))) (xs (nx (v3 + (5 : Int32)))) X).bind fun (c142, X141) =>
(if inB (v3 + (1 : Int32)) L then
(if inB (v3 + (2 : Int32)) L then
(if inB (v3 + (3 : Int32)) L then
(if inB (v3 + (4 : Int32)) L then
(if inB (v3 + (5 : Int32)) L then
((mo_shift n (xs (nx (v3 + (1 : Int32)))) (xs (nx (v3 + (2 : Int32)))) (xs (nx (v3 + (3 : Int32)))) (xs (nx (v3 + (4 : Int32)))) (xs (nx (v3 + (5 : Int32)))) X141).bind fun (c144, X143) =>
(if c142 = c144 then
(rec (v3 + (6 : Int32)) X143)
else
none)) else none) else none) else none) else none) else none)) else none) else none) else none) else none) else none)
else
(if ((xs (nx v3)) &&& (63 : Int32)) = (39 : Int32) then
(if inB (v3 + (1 : Int32)) L then
(if inB (v3 + (2 : Int32)) L then
((el_taken (xs (nx (v3 + (1 : Int32)))) (xs (nx (v3 + (2 : Int32)))) X).bind fun c145 =>
(if inB (v3 + (1 : Int32)) L then
(if inB (v3 + (2 : Int32)) L then
((mo_taken n (xs (nx (v3 + (1 : Int32)))) (xs (nx (v3 + (2 : Int32)))) X).bind fun c146 =>
(if c145 = c146 then
(rec (v3 + (6 : Int32)) X)
else
none)) else none) else none)) else none) else none)
else
(if ((xs (nx v3)) &&& (63 : Int32)) = (40 : Int32) then
(if inB (v3 + (1 : Int32)) L then
(if inB (v3 + (1 : Int32)) L then
(if (el_count (xs (nx (v3 + (1 : Int32)))) X) = (mo_count (xs (nx (v3 + (1 : Int32)))) X) then
(rec (v3 + (6 : Int32)) X)
else
none) else none) else none)
else
(rec (v3 + (6 : Int32)) X)))))))))))))))))))))))))))))))))))))))))) else none))
def lawf_L18 (n : Nat) (xs : Nat → Int32) (L : Nat) : Nat → Int32 → St → Option (Unit)
  | 0 => fun _ _ => none
  | w + 1 => lawf_L18_B n xs L (lawf_L18 n xs L w)
def lawf (n : Nat) (xs : Nat → Int32) (L : Nat) (X : St) : Option Unit :=
  (lawf_L18 n xs L n (0 : Int32) X)
set_option maxHeartbeats 4000000 in
theorem lawf_L18_Bg (q : Th) (b : Nat) (n : Nat) (xs : Nat → Int32) (L : Nat) (rec : Int32 → St → Option (Unit)) (hrec : ∀ v3 X, G q (lF q b L xs) lphi 18 [(0, .ref b), (1, .ref (q.ad 0)), (2, .ref (q.ad 102)), (3, .int v3)] [] X (rec v3 X)) (v3 : Int32) (X : St) : G q (lF q b L xs) lphi 18 [(0, .ref b), (1, .ref (q.ad 0)), (2, .ref (q.ad 102)), (3, .int v3)] [] X (lawf_L18_B n xs L rec v3 X) := by
  unfold lawf_L18_B
  refine g_iload_n 3 dL_law_18 rfl rfl ?_
  refine g_aload_n 0 dL_law_19 rfl rfl ?_
  refine g_scrlen dL_law_20 rfl ?_
  refine g_bipush dL_law_21 rfl kbi_6 ?_
  refine g_isub dL_law_23 rfl ?_
  refine g_icmp_gt dL_law_24 rfl rfl ?_ ?_
  · refine g_iconst dL_law_1542 rfl kic_1 ?_
    exact g_lawret dL_law_1543
  refine g_aload_n 0 dL_law_27 rfl rfl ?_
  refine g_iload_n 3 dL_law_28 rfl rfl ?_
  refine g_scr dL_law_29 rfl ?_
  refine g_bipush dL_law_30 rfl kbi_63 ?_
  refine g_iand dL_law_32 rfl ?_
  refine g_case (z := (0 : Int32)) (fun hc => ?_) (fun hc0 => ?_)
  · refine g_tableIn hc dL_law_33 (by decide) (by decide) rfl rfl ?_
    refine g_aload_n 1 dL_law_212 rfl rfl ?_
    refine g_aload_n 0 dL_law_213 rfl rfl ?_
    refine g_iload_n 3 dL_law_214 rfl rfl ?_
    refine g_iconst dL_law_215 rfl kic_1 ?_
    refine g_iadd dL_law_216 rfl ?_
    refine g_scr dL_law_217 rfl ?_
    refine g_aload_n 0 dL_law_218 rfl rfl ?_
    refine g_iload_n 3 dL_law_219 rfl rfl ?_
    refine g_iconst dL_law_220 rfl kic_2 ?_
    refine g_iadd dL_law_221 rfl ?_
    refine g_scr dL_law_222 rfl ?_
    refine g_cVIw (As := [.int (xs (nx (v3 + (1 : Int32)))), .int (xs (nx (v3 + (2 : Int32))))]) (st := []) 2 lF_wg rfl dL_law_223 rfl kkX11 (by decide) rfl vX11_swimmer lkL_13 (lwR rfl rfl) (el_swimmer_c q (xs (nx (v3 + (1 : Int32)))) (xs (nx (v3 + (2 : Int32)))) X) rfl rfl (Nat.le_of_ble_eq_true rfl) (fun c2 X1 => ?_)
    refine g_aload_n 2 dL_law_226 rfl rfl ?_
    refine g_aload_n 0 dL_law_227 rfl rfl ?_
    refine g_iload_n 3 dL_law_228 rfl rfl ?_
    refine g_iconst dL_law_229 rfl kic_1 ?_
    refine g_iadd dL_law_230 rfl ?_
    refine g_scr dL_law_231 rfl ?_
    refine g_aload_n 0 dL_law_232 rfl rfl ?_
    refine g_iload_n 3 dL_law_233 rfl rfl ?_
    refine g_iconst dL_law_234 rfl kic_2 ?_
    refine g_iadd dL_law_235 rfl ?_
    refine g_scr dL_law_236 rfl ?_
    refine g_cVIw (As := [.int (xs (nx (v3 + (1 : Int32)))), .int (xs (nx (v3 + (2 : Int32))))]) (st := [.int c2]) 2 lF_wg rfl dL_law_237 rfl kkX12 (by decide) rfl vX12_swimmer lkL_17 (lwR rfl rfl) (mo_swimmer_c q (xs (nx (v3 + (1 : Int32)))) (xs (nx (v3 + (2 : Int32)))) X1) rfl rfl (Nat.le_of_ble_eq_true rfl) (fun c4 X3 => ?_)
    refine g_icmp_eq dL_law_240 rfl rfl ?_ ?_
    · refine g_inc (lv' := [(3, .int (v3 + (6 : Int32))), (0, .ref b), (1, .ref (q.ad 0)), (2, .ref (q.ad 102))]) 3 dL_law_1536 rfl rfl kic_6 (Nat.le_of_ble_eq_true rfl) rfl ?_
      refine g_goto dL_law_1539 rfl ?_
      refine g_sub [1, 2, 3, 0] rfl ?_
      exact hrec (v3 + (6 : Int32)) X3
    refine g_iconst dL_law_243 rfl kic_0 ?_
    exact g_none
  refine g_case (z := (1 : Int32)) (fun hc => ?_) (fun hc1 => ?_)
  · refine g_tableIn hc dL_law_33 (by decide) (by decide) rfl rfl ?_
    refine g_aload_n 1 dL_law_245 rfl rfl ?_
    refine g_aload_n 0 dL_law_246 rfl rfl ?_
    refine g_iload_n 3 dL_law_247 rfl rfl ?_
    refine g_iconst dL_law_248 rfl kic_1 ?_
    refine g_iadd dL_law_249 rfl ?_
    refine g_scr dL_law_250 rfl ?_
    refine g_aload_n 0 dL_law_251 rfl rfl ?_
    refine g_iload_n 3 dL_law_252 rfl rfl ?_
    refine g_iconst dL_law_253 rfl kic_2 ?_
    refine g_iadd dL_law_254 rfl ?_
    refine g_scr dL_law_255 rfl ?_
    refine g_aload_n 0 dL_law_256 rfl rfl ?_
    refine g_iload_n 3 dL_law_257 rfl rfl ?_
    refine g_iconst dL_law_258 rfl kic_3 ?_
    refine g_iadd dL_law_259 rfl ?_
    refine g_scr dL_law_260 rfl ?_
    refine g_cVIw (As := [.int (xs (nx (v3 + (1 : Int32)))), .int (xs (nx (v3 + (2 : Int32)))), .int (xs (nx (v3 + (3 : Int32))))]) (st := []) 3 lF_wg rfl dL_law_261 rfl kkX11 (by decide) rfl vX11_swimmers lkL_18 (lwR rfl rfl) (el_swimmers_c q n (xs (nx (v3 + (1 : Int32)))) (xs (nx (v3 + (2 : Int32)))) (xs (nx (v3 + (3 : Int32)))) X) rfl rfl (Nat.le_of_ble_eq_true rfl) (fun c6 X5 => ?_)
    refine g_aload_n 2 dL_law_264 rfl rfl ?_
    refine g_aload_n 0 dL_law_265 rfl rfl ?_
    refine g_iload_n 3 dL_law_266 rfl rfl ?_
    refine g_iconst dL_law_267 rfl kic_1 ?_
    refine g_iadd dL_law_268 rfl ?_
    refine g_scr dL_law_269 rfl ?_
    refine g_aload_n 0 dL_law_270 rfl rfl ?_
    refine g_iload_n 3 dL_law_271 rfl rfl ?_
    refine g_iconst dL_law_272 rfl kic_2 ?_
    refine g_iadd dL_law_273 rfl ?_
    refine g_scr dL_law_274 rfl ?_
    refine g_aload_n 0 dL_law_275 rfl rfl ?_
    refine g_iload_n 3 dL_law_276 rfl rfl ?_
    refine g_iconst dL_law_277 rfl kic_3 ?_
    refine g_iadd dL_law_278 rfl ?_
    refine g_scr dL_law_279 rfl ?_
    refine g_cVIw (As := [.int (xs (nx (v3 + (1 : Int32)))), .int (xs (nx (v3 + (2 : Int32)))), .int (xs (nx (v3 + (3 : Int32))))]) (st := [.int c6]) 3 lF_wg rfl dL_law_280 rfl kkX12 (by decide) rfl vX12_swimmers lkL_22 (lwR rfl rfl) (mo_swimmers_c q n (xs (nx (v3 + (1 : Int32)))) (xs (nx (v3 + (2 : Int32)))) (xs (nx (v3 + (3 : Int32)))) X5) rfl rfl (Nat.le_of_ble_eq_true rfl) (fun c8 X7 => ?_)
    refine g_icmp_eq dL_law_283 rfl rfl ?_ ?_
    · refine g_inc (lv' := [(3, .int (v3 + (6 : Int32))), (0, .ref b), (1, .ref (q.ad 0)), (2, .ref (q.ad 102))]) 3 dL_law_1536 rfl rfl kic_6 (Nat.le_of_ble_eq_true rfl) rfl ?_
      refine g_goto dL_law_1539 rfl ?_
      refine g_sub [1, 2, 3, 0] rfl ?_
      exact hrec (v3 + (6 : Int32)) X7
    refine g_iconst dL_law_286 rfl kic_0 ?_
    exact g_none
  refine g_case (z := (2 : Int32)) (fun hc => ?_) (fun hc2 => ?_)
  · refine g_tableIn hc dL_law_33 (by decide) (by decide) rfl rfl ?_
    refine g_aload_n 1 dL_law_288 rfl rfl ?_
    refine g_aload_n 0 dL_law_289 rfl rfl ?_
    refine g_iload_n 3 dL_law_290 rfl rfl ?_
    refine g_iconst dL_law_291 rfl kic_1 ?_
    refine g_iadd dL_law_292 rfl ?_
    refine g_scr dL_law_293 rfl ?_
    refine g_aload_n 0 dL_law_294 rfl rfl ?_
    refine g_iload_n 3 dL_law_295 rfl rfl ?_
    refine g_iconst dL_law_296 rfl kic_2 ?_
    refine g_iadd dL_law_297 rfl ?_
    refine g_scr dL_law_298 rfl ?_
    refine g_aload_n 0 dL_law_299 rfl rfl ?_
    refine g_iload_n 3 dL_law_300 rfl rfl ?_
    refine g_iconst dL_law_301 rfl kic_3 ?_
    refine g_iadd dL_law_302 rfl ?_
    refine g_scr dL_law_303 rfl ?_
    refine g_cVIw (As := [.int (xs (nx (v3 + (1 : Int32)))), .int (xs (nx (v3 + (2 : Int32)))), .int (xs (nx (v3 + (3 : Int32))))]) (st := []) 3 lF_wg rfl dL_law_304 rfl kkX11 (by decide) rfl vX11_mend lkL_23 (lwR rfl rfl) (el_mend_c q n (xs (nx (v3 + (1 : Int32)))) (xs (nx (v3 + (2 : Int32)))) (xs (nx (v3 + (3 : Int32)))) X) rfl rfl (Nat.le_of_ble_eq_true rfl) (fun c10 X9 => ?_)
    refine g_aload_n 2 dL_law_307 rfl rfl ?_
    refine g_aload_n 0 dL_law_308 rfl rfl ?_
    refine g_iload_n 3 dL_law_309 rfl rfl ?_
    refine g_iconst dL_law_310 rfl kic_1 ?_
    refine g_iadd dL_law_311 rfl ?_
    refine g_scr dL_law_312 rfl ?_
    refine g_aload_n 0 dL_law_313 rfl rfl ?_
    refine g_iload_n 3 dL_law_314 rfl rfl ?_
    refine g_iconst dL_law_315 rfl kic_2 ?_
    refine g_iadd dL_law_316 rfl ?_
    refine g_scr dL_law_317 rfl ?_
    refine g_aload_n 0 dL_law_318 rfl rfl ?_
    refine g_iload_n 3 dL_law_319 rfl rfl ?_
    refine g_iconst dL_law_320 rfl kic_3 ?_
    refine g_iadd dL_law_321 rfl ?_
    refine g_scr dL_law_322 rfl ?_
    refine g_cVIw (As := [.int (xs (nx (v3 + (1 : Int32)))), .int (xs (nx (v3 + (2 : Int32)))), .int (xs (nx (v3 + (3 : Int32))))]) (st := [.int c10]) 3 lF_wg rfl dL_law_323 rfl kkX12 (by decide) rfl vX12_mend lkL_26 (lwR rfl rfl) (mo_mend_c q n (xs (nx (v3 + (1 : Int32)))) (xs (nx (v3 + (2 : Int32)))) (xs (nx (v3 + (3 : Int32)))) X9) rfl rfl (Nat.le_of_ble_eq_true rfl) (fun c12 X11 => ?_)
    refine g_icmp_eq dL_law_326 rfl rfl ?_ ?_
    · refine g_inc (lv' := [(3, .int (v3 + (6 : Int32))), (0, .ref b), (1, .ref (q.ad 0)), (2, .ref (q.ad 102))]) 3 dL_law_1536 rfl rfl kic_6 (Nat.le_of_ble_eq_true rfl) rfl ?_
      refine g_goto dL_law_1539 rfl ?_
      refine g_sub [1, 2, 3, 0] rfl ?_
      exact hrec (v3 + (6 : Int32)) X11
    refine g_iconst dL_law_329 rfl kic_0 ?_
    exact g_none
  refine g_case (z := (3 : Int32)) (fun hc => ?_) (fun hc3 => ?_)
  · refine g_tableIn hc dL_law_33 (by decide) (by decide) rfl rfl ?_
    refine g_aload_n 1 dL_law_331 rfl rfl ?_
    refine g_aload_n 0 dL_law_332 rfl rfl ?_
    refine g_iload_n 3 dL_law_333 rfl rfl ?_
    refine g_iconst dL_law_334 rfl kic_1 ?_
    refine g_iadd dL_law_335 rfl ?_
    refine g_scr dL_law_336 rfl ?_
    refine g_aload_n 0 dL_law_337 rfl rfl ?_
    refine g_iload_n 3 dL_law_338 rfl rfl ?_
    refine g_iconst dL_law_339 rfl kic_2 ?_
    refine g_iadd dL_law_340 rfl ?_
    refine g_scr dL_law_341 rfl ?_
    refine g_cVIr (As := [.int (xs (nx (v3 + (1 : Int32)))), .int (xs (nx (v3 + (2 : Int32))))]) (st := []) 2 lF_wg rfl dL_law_342 rfl kkX11 (by decide) rfl vX11_of lkL_27 (lwR rfl rfl) (el_of_c q (xs (nx (v3 + (1 : Int32)))) (xs (nx (v3 + (2 : Int32)))) X) rfl rfl (Nat.le_of_ble_eq_true rfl) (fun c13 => ?_)
    refine g_aload_n 2 dL_law_345 rfl rfl ?_
    refine g_aload_n 0 dL_law_346 rfl rfl ?_
    refine g_iload_n 3 dL_law_347 rfl rfl ?_
    refine g_iconst dL_law_348 rfl kic_1 ?_
    refine g_iadd dL_law_349 rfl ?_
    refine g_scr dL_law_350 rfl ?_
    refine g_aload_n 0 dL_law_351 rfl rfl ?_
    refine g_iload_n 3 dL_law_352 rfl rfl ?_
    refine g_iconst dL_law_353 rfl kic_2 ?_
    refine g_iadd dL_law_354 rfl ?_
    refine g_scr dL_law_355 rfl ?_
    refine g_cVIr (As := [.int (xs (nx (v3 + (1 : Int32)))), .int (xs (nx (v3 + (2 : Int32))))]) (st := [.int c13]) 2 lF_wg rfl dL_law_356 rfl kkX12 (by decide) rfl vX12_of lkL_30 (lwR rfl rfl) (mo_of_c q (xs (nx (v3 + (1 : Int32)))) (xs (nx (v3 + (2 : Int32)))) X) rfl rfl (Nat.le_of_ble_eq_true rfl) (fun c14 => ?_)
    refine g_icmp_eq dL_law_359 rfl rfl ?_ ?_
    · refine g_inc (lv' := [(3, .int (v3 + (6 : Int32))), (0, .ref b), (1, .ref (q.ad 0)), (2, .ref (q.ad 102))]) 3 dL_law_1536 rfl rfl kic_6 (Nat.le_of_ble_eq_true rfl) rfl ?_
      refine g_goto dL_law_1539 rfl ?_
      refine g_sub [1, 2, 3, 0] rfl ?_
      exact hrec (v3 + (6 : Int32)) X
    refine g_iconst dL_law_362 rfl kic_0 ?_
    exact g_none
  refine g_case (z := (4 : Int32)) (fun hc => ?_) (fun hc4 => ?_)
  · refine g_tableIn hc dL_law_33 (by decide) (by decide) rfl rfl ?_
    refine g_aload_n 1 dL_law_364 rfl rfl ?_
    refine g_aload_n 0 dL_law_365 rfl rfl ?_
    refine g_iload_n 3 dL_law_366 rfl rfl ?_
    refine g_iconst dL_law_367 rfl kic_1 ?_
    refine g_iadd dL_law_368 rfl ?_
    refine g_scr dL_law_369 rfl ?_
    refine g_cVIw (As := [.int (xs (nx (v3 + (1 : Int32))))]) (st := []) 1 lF_wg rfl dL_law_370 rfl kkX11 (by decide) rfl vX11_feed lkL_31 (lwR rfl rfl) (el_feed_c q (xs (nx (v3 + (1 : Int32)))) X) rfl rfl (Nat.le_of_ble_eq_true rfl) (fun c16 X15 => ?_)
    refine g_aload_n 2 dL_law_373 rfl rfl ?_
    refine g_aload_n 0 dL_law_374 rfl rfl ?_
    refine g_iload_n 3 dL_law_375 rfl rfl ?_
    refine g_iconst dL_law_376 rfl kic_1 ?_
    refine g_iadd dL_law_377 rfl ?_
    refine g_scr dL_law_378 rfl ?_
    refine g_cVIw (As := [.int (xs (nx (v3 + (1 : Int32))))]) (st := [.int c16]) 1 lF_wg rfl dL_law_379 rfl kkX12 (by decide) rfl vX12_feed lkL_35 (lwR rfl rfl) (mo_feed_c q (xs (nx (v3 + (1 : Int32)))) X15) rfl rfl (Nat.le_of_ble_eq_true rfl) (fun c18 X17 => ?_)
    refine g_icmp_eq dL_law_382 rfl rfl ?_ ?_
    · refine g_inc (lv' := [(3, .int (v3 + (6 : Int32))), (0, .ref b), (1, .ref (q.ad 0)), (2, .ref (q.ad 102))]) 3 dL_law_1536 rfl rfl kic_6 (Nat.le_of_ble_eq_true rfl) rfl ?_
      refine g_goto dL_law_1539 rfl ?_
      refine g_sub [1, 2, 3, 0] rfl ?_
      exact hrec (v3 + (6 : Int32)) X17
    refine g_iconst dL_law_385 rfl kic_0 ?_
    exact g_none
  refine g_case (z := (5 : Int32)) (fun hc => ?_) (fun hc5 => ?_)
  · refine g_tableIn hc dL_law_33 (by decide) (by decide) rfl rfl ?_
    refine g_aload_n 1 dL_law_387 rfl rfl ?_
    refine g_cVIw (As := []) (st := []) 0 lF_wg rfl dL_law_388 rfl kkX11 (by decide) rfl vX11_law lkL_36 (lwR rfl rfl) (el_law_c q n X) rfl rfl (Nat.le_of_ble_eq_true rfl) (fun c20 X19 => ?_)
    refine g_aload_n 2 dL_law_391 rfl rfl ?_
    refine g_cVIw (As := []) (st := [.int c20]) 0 lF_wg rfl dL_law_392 rfl kkX12 (by decide) rfl vX12_law lkL_40 (lwR rfl rfl) (mo_law_c q n X19) rfl rfl (Nat.le_of_ble_eq_true rfl) (fun c22 X21 => ?_)
    refine g_icmp_eq dL_law_395 rfl rfl ?_ ?_
    · refine g_inc (lv' := [(3, .int (v3 + (6 : Int32))), (0, .ref b), (1, .ref (q.ad 0)), (2, .ref (q.ad 102))]) 3 dL_law_1536 rfl rfl kic_6 (Nat.le_of_ble_eq_true rfl) rfl ?_
      refine g_goto dL_law_1539 rfl ?_
      refine g_sub [1, 2, 3, 0] rfl ?_
      exact hrec (v3 + (6 : Int32)) X21
    refine g_iconst dL_law_398 rfl kic_0 ?_
    exact g_none
  refine g_case (z := (6 : Int32)) (fun hc => ?_) (fun hc6 => ?_)
  · refine g_tableIn hc dL_law_33 (by decide) (by decide) rfl rfl ?_
    refine g_aload_n 1 dL_law_400 rfl rfl ?_
    refine g_aload_n 0 dL_law_401 rfl rfl ?_
    refine g_iload_n 3 dL_law_402 rfl rfl ?_
    refine g_iconst dL_law_403 rfl kic_1 ?_
    refine g_iadd dL_law_404 rfl ?_
    refine g_scr dL_law_405 rfl ?_
    refine g_aload_n 0 dL_law_406 rfl rfl ?_
    refine g_iload_n 3 dL_law_407 rfl rfl ?_
    refine g_iconst dL_law_408 rfl kic_2 ?_
    refine g_iadd dL_law_409 rfl ?_
    refine g_scr dL_law_410 rfl ?_
    refine g_aload_n 0 dL_law_411 rfl rfl ?_
    refine g_iload_n 3 dL_law_412 rfl rfl ?_
    refine g_iconst dL_law_413 rfl kic_3 ?_
    refine g_iadd dL_law_414 rfl ?_
    refine g_scr dL_law_415 rfl ?_
    refine g_cVIw (As := [.int (xs (nx (v3 + (1 : Int32)))), .int (xs (nx (v3 + (2 : Int32)))), .int (xs (nx (v3 + (3 : Int32))))]) (st := []) 3 lF_wg rfl dL_law_416 rfl kkX11 (by decide) rfl vX11_loses lkL_41 (lwR rfl rfl) (el_loses_c q n (xs (nx (v3 + (1 : Int32)))) (xs (nx (v3 + (2 : Int32)))) (xs (nx (v3 + (3 : Int32)))) X) rfl rfl (Nat.le_of_ble_eq_true rfl) (fun c24 X23 => ?_)
    refine g_aload_n 2 dL_law_419 rfl rfl ?_
    refine g_aload_n 0 dL_law_420 rfl rfl ?_
    refine g_iload_n 3 dL_law_421 rfl rfl ?_
    refine g_iconst dL_law_422 rfl kic_1 ?_
    refine g_iadd dL_law_423 rfl ?_
    refine g_scr dL_law_424 rfl ?_
    refine g_aload_n 0 dL_law_425 rfl rfl ?_
    refine g_iload_n 3 dL_law_426 rfl rfl ?_
    refine g_iconst dL_law_427 rfl kic_2 ?_
    refine g_iadd dL_law_428 rfl ?_
    refine g_scr dL_law_429 rfl ?_
    refine g_aload_n 0 dL_law_430 rfl rfl ?_
    refine g_iload_n 3 dL_law_431 rfl rfl ?_
    refine g_iconst dL_law_432 rfl kic_3 ?_
    refine g_iadd dL_law_433 rfl ?_
    refine g_scr dL_law_434 rfl ?_
    refine g_cVIw (As := [.int (xs (nx (v3 + (1 : Int32)))), .int (xs (nx (v3 + (2 : Int32)))), .int (xs (nx (v3 + (3 : Int32))))]) (st := [.int c24]) 3 lF_wg rfl dL_law_435 rfl kkX12 (by decide) rfl vX12_loses lkL_44 (lwR rfl rfl) (mo_loses_c q n (xs (nx (v3 + (1 : Int32)))) (xs (nx (v3 + (2 : Int32)))) (xs (nx (v3 + (3 : Int32)))) X23) rfl rfl (Nat.le_of_ble_eq_true rfl) (fun c26 X25 => ?_)
    refine g_icmp_eq dL_law_438 rfl rfl ?_ ?_
    · refine g_inc (lv' := [(3, .int (v3 + (6 : Int32))), (0, .ref b), (1, .ref (q.ad 0)), (2, .ref (q.ad 102))]) 3 dL_law_1536 rfl rfl kic_6 (Nat.le_of_ble_eq_true rfl) rfl ?_
      refine g_goto dL_law_1539 rfl ?_
      refine g_sub [1, 2, 3, 0] rfl ?_
      exact hrec (v3 + (6 : Int32)) X25
    refine g_iconst dL_law_441 rfl kic_0 ?_
    exact g_none
  refine g_case (z := (7 : Int32)) (fun hc => ?_) (fun hc7 => ?_)
  · refine g_tableIn hc dL_law_33 (by decide) (by decide) rfl rfl ?_
    refine g_aload_n 1 dL_law_443 rfl rfl ?_
    refine g_aload_n 0 dL_law_444 rfl rfl ?_
    refine g_iload_n 3 dL_law_445 rfl rfl ?_
    refine g_iconst dL_law_446 rfl kic_1 ?_
    refine g_iadd dL_law_447 rfl ?_
    refine g_scr dL_law_448 rfl ?_
    refine g_aload_n 0 dL_law_449 rfl rfl ?_
    refine g_iload_n 3 dL_law_450 rfl rfl ?_
    refine g_iconst dL_law_451 rfl kic_2 ?_
    refine g_iadd dL_law_452 rfl ?_
    refine g_scr dL_law_453 rfl ?_
    refine g_cVIw (As := [.int (xs (nx (v3 + (1 : Int32)))), .int (xs (nx (v3 + (2 : Int32))))]) (st := []) 2 lF_wg rfl dL_law_454 rfl kkX11 (by decide) rfl vX11_routine lkL_45 (lwR rfl rfl) (el_routine_c q n (xs (nx (v3 + (1 : Int32)))) (xs (nx (v3 + (2 : Int32)))) X) rfl rfl (Nat.le_of_ble_eq_true rfl) (fun c28 X27 => ?_)
    refine g_aload_n 2 dL_law_457 rfl rfl ?_
    refine g_aload_n 0 dL_law_458 rfl rfl ?_
    refine g_iload_n 3 dL_law_459 rfl rfl ?_
    refine g_iconst dL_law_460 rfl kic_1 ?_
    refine g_iadd dL_law_461 rfl ?_
    refine g_scr dL_law_462 rfl ?_
    refine g_aload_n 0 dL_law_463 rfl rfl ?_
    refine g_iload_n 3 dL_law_464 rfl rfl ?_
    refine g_iconst dL_law_465 rfl kic_2 ?_
    refine g_iadd dL_law_466 rfl ?_
    refine g_scr dL_law_467 rfl ?_
    refine g_cVIw (As := [.int (xs (nx (v3 + (1 : Int32)))), .int (xs (nx (v3 + (2 : Int32))))]) (st := [.int c28]) 2 lF_wg rfl dL_law_468 rfl kkX12 (by decide) rfl vX12_routine lkL_48 (lwR rfl rfl) (mo_routine_c q n (xs (nx (v3 + (1 : Int32)))) (xs (nx (v3 + (2 : Int32)))) X27) rfl rfl (Nat.le_of_ble_eq_true rfl) (fun c30 X29 => ?_)
    refine g_icmp_eq dL_law_471 rfl rfl ?_ ?_
    · refine g_inc (lv' := [(3, .int (v3 + (6 : Int32))), (0, .ref b), (1, .ref (q.ad 0)), (2, .ref (q.ad 102))]) 3 dL_law_1536 rfl rfl kic_6 (Nat.le_of_ble_eq_true rfl) rfl ?_
      refine g_goto dL_law_1539 rfl ?_
      refine g_sub [1, 2, 3, 0] rfl ?_
      exact hrec (v3 + (6 : Int32)) X29
    refine g_iconst dL_law_474 rfl kic_0 ?_
    exact g_none
  refine g_case (z := (8 : Int32)) (fun hc => ?_) (fun hc8 => ?_)
  · refine g_tableIn hc dL_law_33 (by decide) (by decide) rfl rfl ?_
    refine g_aload_n 1 dL_law_476 rfl rfl ?_
    refine g_aload_n 0 dL_law_477 rfl rfl ?_
    refine g_iload_n 3 dL_law_478 rfl rfl ?_
    refine g_iconst dL_law_479 rfl kic_1 ?_
    refine g_iadd dL_law_480 rfl ?_
    refine g_scr dL_law_481 rfl ?_
    refine g_aload_n 0 dL_law_482 rfl rfl ?_
    refine g_iload_n 3 dL_law_483 rfl rfl ?_
    refine g_iconst dL_law_484 rfl kic_2 ?_
    refine g_iadd dL_law_485 rfl ?_
    refine g_scr dL_law_486 rfl ?_
    refine g_aload_n 0 dL_law_487 rfl rfl ?_
    refine g_iload_n 3 dL_law_488 rfl rfl ?_
    refine g_iconst dL_law_489 rfl kic_3 ?_
    refine g_iadd dL_law_490 rfl ?_
    refine g_scr dL_law_491 rfl ?_
    refine g_cVIw (As := [.int (xs (nx (v3 + (1 : Int32)))), .int (xs (nx (v3 + (2 : Int32)))), .int (xs (nx (v3 + (3 : Int32))))]) (st := []) 3 lF_wg rfl dL_law_492 rfl kkX11 (by decide) rfl vX11_off lkL_49 (lwR rfl rfl) (el_off_c q n (xs (nx (v3 + (1 : Int32)))) (xs (nx (v3 + (2 : Int32)))) (xs (nx (v3 + (3 : Int32)))) X) rfl rfl (Nat.le_of_ble_eq_true rfl) (fun c32 X31 => ?_)
    refine g_aload_n 2 dL_law_495 rfl rfl ?_
    refine g_aload_n 0 dL_law_496 rfl rfl ?_
    refine g_iload_n 3 dL_law_497 rfl rfl ?_
    refine g_iconst dL_law_498 rfl kic_1 ?_
    refine g_iadd dL_law_499 rfl ?_
    refine g_scr dL_law_500 rfl ?_
    refine g_aload_n 0 dL_law_501 rfl rfl ?_
    refine g_iload_n 3 dL_law_502 rfl rfl ?_
    refine g_iconst dL_law_503 rfl kic_2 ?_
    refine g_iadd dL_law_504 rfl ?_
    refine g_scr dL_law_505 rfl ?_
    refine g_aload_n 0 dL_law_506 rfl rfl ?_
    refine g_iload_n 3 dL_law_507 rfl rfl ?_
    refine g_iconst dL_law_508 rfl kic_3 ?_
    refine g_iadd dL_law_509 rfl ?_
    refine g_scr dL_law_510 rfl ?_
    refine g_cVIw (As := [.int (xs (nx (v3 + (1 : Int32)))), .int (xs (nx (v3 + (2 : Int32)))), .int (xs (nx (v3 + (3 : Int32))))]) (st := [.int c32]) 3 lF_wg rfl dL_law_511 rfl kkX12 (by decide) rfl vX12_off lkL_52 (lwR rfl rfl) (mo_off_c q n (xs (nx (v3 + (1 : Int32)))) (xs (nx (v3 + (2 : Int32)))) (xs (nx (v3 + (3 : Int32)))) X31) rfl rfl (Nat.le_of_ble_eq_true rfl) (fun c34 X33 => ?_)
    refine g_icmp_eq dL_law_514 rfl rfl ?_ ?_
    · refine g_inc (lv' := [(3, .int (v3 + (6 : Int32))), (0, .ref b), (1, .ref (q.ad 0)), (2, .ref (q.ad 102))]) 3 dL_law_1536 rfl rfl kic_6 (Nat.le_of_ble_eq_true rfl) rfl ?_
      refine g_goto dL_law_1539 rfl ?_
      refine g_sub [1, 2, 3, 0] rfl ?_
      exact hrec (v3 + (6 : Int32)) X33
    refine g_iconst dL_law_517 rfl kic_0 ?_
    exact g_none
  refine g_case (z := (9 : Int32)) (fun hc => ?_) (fun hc9 => ?_)
  · refine g_tableIn hc dL_law_33 (by decide) (by decide) rfl rfl ?_
    refine g_aload_n 1 dL_law_519 rfl rfl ?_
    refine g_aload_n 0 dL_law_520 rfl rfl ?_
    refine g_iload_n 3 dL_law_521 rfl rfl ?_
    refine g_iconst dL_law_522 rfl kic_1 ?_
    refine g_iadd dL_law_523 rfl ?_
    refine g_scr dL_law_524 rfl ?_
    refine g_aload_n 0 dL_law_525 rfl rfl ?_
    refine g_iload_n 3 dL_law_526 rfl rfl ?_
    refine g_iconst dL_law_527 rfl kic_2 ?_
    refine g_iadd dL_law_528 rfl ?_
    refine g_scr dL_law_529 rfl ?_
    refine g_aload_n 0 dL_law_530 rfl rfl ?_
    refine g_iload_n 3 dL_law_531 rfl rfl ?_
    refine g_iconst dL_law_532 rfl kic_3 ?_
    refine g_iadd dL_law_533 rfl ?_
    refine g_scr dL_law_534 rfl ?_
    refine g_cVIw (As := [.int (xs (nx (v3 + (1 : Int32)))), .int (xs (nx (v3 + (2 : Int32)))), .int (xs (nx (v3 + (3 : Int32))))]) (st := []) 3 lF_wg rfl dL_law_535 rfl kkX11 (by decide) rfl vX11_apart lkL_53 (lwR rfl rfl) (el_apart_c q n (xs (nx (v3 + (1 : Int32)))) (xs (nx (v3 + (2 : Int32)))) (xs (nx (v3 + (3 : Int32)))) X) rfl rfl (Nat.le_of_ble_eq_true rfl) (fun c36 X35 => ?_)
    refine g_aload_n 2 dL_law_538 rfl rfl ?_
    refine g_aload_n 0 dL_law_539 rfl rfl ?_
    refine g_iload_n 3 dL_law_540 rfl rfl ?_
    refine g_iconst dL_law_541 rfl kic_1 ?_
    refine g_iadd dL_law_542 rfl ?_
    refine g_scr dL_law_543 rfl ?_
    refine g_aload_n 0 dL_law_544 rfl rfl ?_
    refine g_iload_n 3 dL_law_545 rfl rfl ?_
    refine g_iconst dL_law_546 rfl kic_2 ?_
    refine g_iadd dL_law_547 rfl ?_
    refine g_scr dL_law_548 rfl ?_
    refine g_aload_n 0 dL_law_549 rfl rfl ?_
    refine g_iload_n 3 dL_law_550 rfl rfl ?_
    refine g_iconst dL_law_551 rfl kic_3 ?_
    refine g_iadd dL_law_552 rfl ?_
    refine g_scr dL_law_553 rfl ?_
    refine g_cVIw (As := [.int (xs (nx (v3 + (1 : Int32)))), .int (xs (nx (v3 + (2 : Int32)))), .int (xs (nx (v3 + (3 : Int32))))]) (st := [.int c36]) 3 lF_wg rfl dL_law_554 rfl kkX12 (by decide) rfl vX12_apart lkL_56 (lwR rfl rfl) (mo_apart_c q n (xs (nx (v3 + (1 : Int32)))) (xs (nx (v3 + (2 : Int32)))) (xs (nx (v3 + (3 : Int32)))) X35) rfl rfl (Nat.le_of_ble_eq_true rfl) (fun c38 X37 => ?_)
    refine g_icmp_eq dL_law_557 rfl rfl ?_ ?_
    · refine g_inc (lv' := [(3, .int (v3 + (6 : Int32))), (0, .ref b), (1, .ref (q.ad 0)), (2, .ref (q.ad 102))]) 3 dL_law_1536 rfl rfl kic_6 (Nat.le_of_ble_eq_true rfl) rfl ?_
      refine g_goto dL_law_1539 rfl ?_
      refine g_sub [1, 2, 3, 0] rfl ?_
      exact hrec (v3 + (6 : Int32)) X37
    refine g_iconst dL_law_560 rfl kic_0 ?_
    exact g_none
  refine g_case (z := (10 : Int32)) (fun hc => ?_) (fun hc10 => ?_)
  · refine g_tableIn hc dL_law_33 (by decide) (by decide) rfl rfl ?_
    refine g_aload_n 1 dL_law_562 rfl rfl ?_
    refine g_aload_n 0 dL_law_563 rfl rfl ?_
    refine g_iload_n 3 dL_law_564 rfl rfl ?_
    refine g_iconst dL_law_565 rfl kic_1 ?_
    refine g_iadd dL_law_566 rfl ?_
    refine g_scr dL_law_567 rfl ?_
    refine g_aload_n 0 dL_law_568 rfl rfl ?_
    refine g_iload_n 3 dL_law_569 rfl rfl ?_
    refine g_iconst dL_law_570 rfl kic_2 ?_
    refine g_iadd dL_law_571 rfl ?_
    refine g_scr dL_law_572 rfl ?_
    refine g_cVIw (As := [.int (xs (nx (v3 + (1 : Int32)))), .int (xs (nx (v3 + (2 : Int32))))]) (st := []) 2 lF_wg rfl dL_law_573 rfl kkX11 (by decide) rfl vX11_gone lkL_57 (lwR rfl rfl) (el_gone_c q n (xs (nx (v3 + (1 : Int32)))) (xs (nx (v3 + (2 : Int32)))) X) rfl rfl (Nat.le_of_ble_eq_true rfl) (fun c40 X39 => ?_)
    refine g_aload_n 2 dL_law_576 rfl rfl ?_
    refine g_aload_n 0 dL_law_577 rfl rfl ?_
    refine g_iload_n 3 dL_law_578 rfl rfl ?_
    refine g_iconst dL_law_579 rfl kic_1 ?_
    refine g_iadd dL_law_580 rfl ?_
    refine g_scr dL_law_581 rfl ?_
    refine g_aload_n 0 dL_law_582 rfl rfl ?_
    refine g_iload_n 3 dL_law_583 rfl rfl ?_
    refine g_iconst dL_law_584 rfl kic_2 ?_
    refine g_iadd dL_law_585 rfl ?_
    refine g_scr dL_law_586 rfl ?_
    refine g_cVIw (As := [.int (xs (nx (v3 + (1 : Int32)))), .int (xs (nx (v3 + (2 : Int32))))]) (st := [.int c40]) 2 lF_wg rfl dL_law_587 rfl kkX12 (by decide) rfl vX12_gone lkL_60 (lwR rfl rfl) (mo_gone_c q n (xs (nx (v3 + (1 : Int32)))) (xs (nx (v3 + (2 : Int32)))) X39) rfl rfl (Nat.le_of_ble_eq_true rfl) (fun c42 X41 => ?_)
    refine g_icmp_eq dL_law_590 rfl rfl ?_ ?_
    · refine g_inc (lv' := [(3, .int (v3 + (6 : Int32))), (0, .ref b), (1, .ref (q.ad 0)), (2, .ref (q.ad 102))]) 3 dL_law_1536 rfl rfl kic_6 (Nat.le_of_ble_eq_true rfl) rfl ?_
      refine g_goto dL_law_1539 rfl ?_
      refine g_sub [1, 2, 3, 0] rfl ?_
      exact hrec (v3 + (6 : Int32)) X41
    refine g_iconst dL_law_593 rfl kic_0 ?_
    exact g_none
  refine g_case (z := (11 : Int32)) (fun hc => ?_) (fun hc11 => ?_)
  · refine g_tableIn hc dL_law_33 (by decide) (by decide) rfl rfl ?_
    refine g_aload_n 1 dL_law_595 rfl rfl ?_
    refine g_aload_n 0 dL_law_596 rfl rfl ?_
    refine g_iload_n 3 dL_law_597 rfl rfl ?_
    refine g_iconst dL_law_598 rfl kic_1 ?_
    refine g_iadd dL_law_599 rfl ?_
    refine g_scr dL_law_600 rfl ?_
    refine g_aload_n 0 dL_law_601 rfl rfl ?_
    refine g_iload_n 3 dL_law_602 rfl rfl ?_
    refine g_iconst dL_law_603 rfl kic_2 ?_
    refine g_iadd dL_law_604 rfl ?_
    refine g_scr dL_law_605 rfl ?_
    refine g_cVIw (As := [.int (xs (nx (v3 + (1 : Int32)))), .int (xs (nx (v3 + (2 : Int32))))]) (st := []) 2 lF_wg rfl dL_law_606 rfl kkX11 (by decide) rfl vX11_least lkL_61 (lwR rfl rfl) (el_least_c q n (xs (nx (v3 + (1 : Int32)))) (xs (nx (v3 + (2 : Int32)))) X) rfl rfl (Nat.le_of_ble_eq_true rfl) (fun c44 X43 => ?_)
    refine g_aload_n 2 dL_law_609 rfl rfl ?_
    refine g_aload_n 0 dL_law_610 rfl rfl ?_
    refine g_iload_n 3 dL_law_611 rfl rfl ?_
    refine g_iconst dL_law_612 rfl kic_1 ?_
    refine g_iadd dL_law_613 rfl ?_
    refine g_scr dL_law_614 rfl ?_
    refine g_aload_n 0 dL_law_615 rfl rfl ?_
    refine g_iload_n 3 dL_law_616 rfl rfl ?_
    refine g_iconst dL_law_617 rfl kic_2 ?_
    refine g_iadd dL_law_618 rfl ?_
    refine g_scr dL_law_619 rfl ?_
    refine g_cVIw (As := [.int (xs (nx (v3 + (1 : Int32)))), .int (xs (nx (v3 + (2 : Int32))))]) (st := [.int c44]) 2 lF_wg rfl dL_law_620 rfl kkX12 (by decide) rfl vX12_least lkL_64 (lwR rfl rfl) (mo_least_c q n (xs (nx (v3 + (1 : Int32)))) (xs (nx (v3 + (2 : Int32)))) X43) rfl rfl (Nat.le_of_ble_eq_true rfl) (fun c46 X45 => ?_)
    refine g_icmp_eq dL_law_623 rfl rfl ?_ ?_
    · refine g_inc (lv' := [(3, .int (v3 + (6 : Int32))), (0, .ref b), (1, .ref (q.ad 0)), (2, .ref (q.ad 102))]) 3 dL_law_1536 rfl rfl kic_6 (Nat.le_of_ble_eq_true rfl) rfl ?_
      refine g_goto dL_law_1539 rfl ?_
      refine g_sub [1, 2, 3, 0] rfl ?_
      exact hrec (v3 + (6 : Int32)) X45
    refine g_iconst dL_law_626 rfl kic_0 ?_
    exact g_none
  refine g_case (z := (12 : Int32)) (fun hc => ?_) (fun hc12 => ?_)
  · refine g_tableIn hc dL_law_33 (by decide) (by decide) rfl rfl ?_
    refine g_aload_n 1 dL_law_628 rfl rfl ?_
    refine g_aload_n 0 dL_law_629 rfl rfl ?_
    refine g_iload_n 3 dL_law_630 rfl rfl ?_
    refine g_iconst dL_law_631 rfl kic_1 ?_
    refine g_iadd dL_law_632 rfl ?_
    refine g_scr dL_law_633 rfl ?_
    refine g_aload_n 0 dL_law_634 rfl rfl ?_
    refine g_iload_n 3 dL_law_635 rfl rfl ?_
    refine g_iconst dL_law_636 rfl kic_2 ?_
    refine g_iadd dL_law_637 rfl ?_
    refine g_scr dL_law_638 rfl ?_
    refine g_cVIw (As := [.int (xs (nx (v3 + (1 : Int32)))), .int (xs (nx (v3 + (2 : Int32))))]) (st := []) 2 lF_wg rfl dL_law_639 rfl kkX11 (by decide) rfl vX11_gasps lkL_65 (lwR rfl rfl) (el_gasps_c q n (xs (nx (v3 + (1 : Int32)))) (xs (nx (v3 + (2 : Int32)))) X) rfl rfl (Nat.le_of_ble_eq_true rfl) (fun c48 X47 => ?_)
    refine g_aload_n 2 dL_law_642 rfl rfl ?_
    refine g_aload_n 0 dL_law_643 rfl rfl ?_
    refine g_iload_n 3 dL_law_644 rfl rfl ?_
    refine g_iconst dL_law_645 rfl kic_1 ?_
    refine g_iadd dL_law_646 rfl ?_
    refine g_scr dL_law_647 rfl ?_
    refine g_aload_n 0 dL_law_648 rfl rfl ?_
    refine g_iload_n 3 dL_law_649 rfl rfl ?_
    refine g_iconst dL_law_650 rfl kic_2 ?_
    refine g_iadd dL_law_651 rfl ?_
    refine g_scr dL_law_652 rfl ?_
    refine g_cVIw (As := [.int (xs (nx (v3 + (1 : Int32)))), .int (xs (nx (v3 + (2 : Int32))))]) (st := [.int c48]) 2 lF_wg rfl dL_law_653 rfl kkX12 (by decide) rfl vX12_gasps lkL_68 (lwR rfl rfl) (mo_gasps_c q n (xs (nx (v3 + (1 : Int32)))) (xs (nx (v3 + (2 : Int32)))) X47) rfl rfl (Nat.le_of_ble_eq_true rfl) (fun c50 X49 => ?_)
    refine g_icmp_eq dL_law_656 rfl rfl ?_ ?_
    · refine g_inc (lv' := [(3, .int (v3 + (6 : Int32))), (0, .ref b), (1, .ref (q.ad 0)), (2, .ref (q.ad 102))]) 3 dL_law_1536 rfl rfl kic_6 (Nat.le_of_ble_eq_true rfl) rfl ?_
      refine g_goto dL_law_1539 rfl ?_
      refine g_sub [1, 2, 3, 0] rfl ?_
      exact hrec (v3 + (6 : Int32)) X49
    refine g_iconst dL_law_659 rfl kic_0 ?_
    exact g_none
  refine g_case (z := (13 : Int32)) (fun hc => ?_) (fun hc13 => ?_)
  · refine g_tableIn hc dL_law_33 (by decide) (by decide) rfl rfl ?_
    refine g_aload_n 1 dL_law_661 rfl rfl ?_
    refine g_aload_n 0 dL_law_662 rfl rfl ?_
    refine g_iload_n 3 dL_law_663 rfl rfl ?_
    refine g_iconst dL_law_664 rfl kic_1 ?_
    refine g_iadd dL_law_665 rfl ?_
    refine g_scr dL_law_666 rfl ?_
    refine g_aload_n 0 dL_law_667 rfl rfl ?_
    refine g_iload_n 3 dL_law_668 rfl rfl ?_
    refine g_iconst dL_law_669 rfl kic_2 ?_
    refine g_iadd dL_law_670 rfl ?_
    refine g_scr dL_law_671 rfl ?_
    refine g_cVIw (As := [.int (xs (nx (v3 + (1 : Int32)))), .int (xs (nx (v3 + (2 : Int32))))]) (st := []) 2 lF_wg rfl dL_law_672 rfl kkX11 (by decide) rfl vX11_looks lkL_69 (lwR rfl rfl) (el_looks_c q n (xs (nx (v3 + (1 : Int32)))) (xs (nx (v3 + (2 : Int32)))) X) rfl rfl (Nat.le_of_ble_eq_true rfl) (fun c52 X51 => ?_)
    refine g_aload_n 2 dL_law_675 rfl rfl ?_
    refine g_aload_n 0 dL_law_676 rfl rfl ?_
    refine g_iload_n 3 dL_law_677 rfl rfl ?_
    refine g_iconst dL_law_678 rfl kic_1 ?_
    refine g_iadd dL_law_679 rfl ?_
    refine g_scr dL_law_680 rfl ?_
    refine g_aload_n 0 dL_law_681 rfl rfl ?_
    refine g_iload_n 3 dL_law_682 rfl rfl ?_
    refine g_iconst dL_law_683 rfl kic_2 ?_
    refine g_iadd dL_law_684 rfl ?_
    refine g_scr dL_law_685 rfl ?_
    refine g_cVIw (As := [.int (xs (nx (v3 + (1 : Int32)))), .int (xs (nx (v3 + (2 : Int32))))]) (st := [.int c52]) 2 lF_wg rfl dL_law_686 rfl kkX12 (by decide) rfl vX12_looks lkL_72 (lwR rfl rfl) (mo_looks_c q n (xs (nx (v3 + (1 : Int32)))) (xs (nx (v3 + (2 : Int32)))) X51) rfl rfl (Nat.le_of_ble_eq_true rfl) (fun c54 X53 => ?_)
    refine g_icmp_eq dL_law_689 rfl rfl ?_ ?_
    · refine g_inc (lv' := [(3, .int (v3 + (6 : Int32))), (0, .ref b), (1, .ref (q.ad 0)), (2, .ref (q.ad 102))]) 3 dL_law_1536 rfl rfl kic_6 (Nat.le_of_ble_eq_true rfl) rfl ?_
      refine g_goto dL_law_1539 rfl ?_
      refine g_sub [1, 2, 3, 0] rfl ?_
      exact hrec (v3 + (6 : Int32)) X53
    refine g_iconst dL_law_692 rfl kic_0 ?_
    exact g_none
  refine g_case (z := (14 : Int32)) (fun hc => ?_) (fun hc14 => ?_)
  · refine g_tableIn hc dL_law_33 (by decide) (by decide) rfl rfl ?_
    refine g_aload_n 1 dL_law_694 rfl rfl ?_
    refine g_aload_n 0 dL_law_695 rfl rfl ?_
    refine g_iload_n 3 dL_law_696 rfl rfl ?_
    refine g_iconst dL_law_697 rfl kic_1 ?_
    refine g_iadd dL_law_698 rfl ?_
    refine g_scr dL_law_699 rfl ?_
    refine g_aload_n 0 dL_law_700 rfl rfl ?_
    refine g_iload_n 3 dL_law_701 rfl rfl ?_
    refine g_iconst dL_law_702 rfl kic_2 ?_
    refine g_iadd dL_law_703 rfl ?_
    refine g_scr dL_law_704 rfl ?_
    refine g_cVIw (As := [.int (xs (nx (v3 + (1 : Int32)))), .int (xs (nx (v3 + (2 : Int32))))]) (st := []) 2 lF_wg rfl dL_law_705 rfl kkX11 (by decide) rfl vX11_whose lkL_73 (lwR rfl rfl) (el_whose_c q n (xs (nx (v3 + (1 : Int32)))) (xs (nx (v3 + (2 : Int32)))) X) rfl rfl (Nat.le_of_ble_eq_true rfl) (fun c56 X55 => ?_)
    refine g_aload_n 2 dL_law_708 rfl rfl ?_
    refine g_aload_n 0 dL_law_709 rfl rfl ?_
    refine g_iload_n 3 dL_law_710 rfl rfl ?_
    refine g_iconst dL_law_711 rfl kic_1 ?_
    refine g_iadd dL_law_712 rfl ?_
    refine g_scr dL_law_713 rfl ?_
    refine g_aload_n 0 dL_law_714 rfl rfl ?_
    refine g_iload_n 3 dL_law_715 rfl rfl ?_
    refine g_iconst dL_law_716 rfl kic_2 ?_
    refine g_iadd dL_law_717 rfl ?_
    refine g_scr dL_law_718 rfl ?_
    refine g_cVIw (As := [.int (xs (nx (v3 + (1 : Int32)))), .int (xs (nx (v3 + (2 : Int32))))]) (st := [.int c56]) 2 lF_wg rfl dL_law_719 rfl kkX12 (by decide) rfl vX12_whose lkL_76 (lwR rfl rfl) (mo_whose_c q n (xs (nx (v3 + (1 : Int32)))) (xs (nx (v3 + (2 : Int32)))) X55) rfl rfl (Nat.le_of_ble_eq_true rfl) (fun c58 X57 => ?_)
    refine g_icmp_eq dL_law_722 rfl rfl ?_ ?_
    · refine g_inc (lv' := [(3, .int (v3 + (6 : Int32))), (0, .ref b), (1, .ref (q.ad 0)), (2, .ref (q.ad 102))]) 3 dL_law_1536 rfl rfl kic_6 (Nat.le_of_ble_eq_true rfl) rfl ?_
      refine g_goto dL_law_1539 rfl ?_
      refine g_sub [1, 2, 3, 0] rfl ?_
      exact hrec (v3 + (6 : Int32)) X57
    refine g_iconst dL_law_725 rfl kic_0 ?_
    exact g_none
  refine g_case (z := (15 : Int32)) (fun hc => ?_) (fun hc15 => ?_)
  · refine g_tableIn hc dL_law_33 (by decide) (by decide) rfl rfl ?_
    refine g_aload_n 1 dL_law_727 rfl rfl ?_
    refine g_aload_n 0 dL_law_728 rfl rfl ?_
    refine g_iload_n 3 dL_law_729 rfl rfl ?_
    refine g_iconst dL_law_730 rfl kic_1 ?_
    refine g_iadd dL_law_731 rfl ?_
    refine g_scr dL_law_732 rfl ?_
    refine g_aload_n 0 dL_law_733 rfl rfl ?_
    refine g_iload_n 3 dL_law_734 rfl rfl ?_
    refine g_iconst dL_law_735 rfl kic_2 ?_
    refine g_iadd dL_law_736 rfl ?_
    refine g_scr dL_law_737 rfl ?_
    refine g_cVIw (As := [.int (xs (nx (v3 + (1 : Int32)))), .int (xs (nx (v3 + (2 : Int32))))]) (st := []) 2 lF_wg rfl dL_law_738 rfl kkX11 (by decide) rfl vX11_first lkL_77 (lwR rfl rfl) (el_first_c q n (xs (nx (v3 + (1 : Int32)))) (xs (nx (v3 + (2 : Int32)))) X) rfl rfl (Nat.le_of_ble_eq_true rfl) (fun c60 X59 => ?_)
    refine g_aload_n 2 dL_law_741 rfl rfl ?_
    refine g_aload_n 0 dL_law_742 rfl rfl ?_
    refine g_iload_n 3 dL_law_743 rfl rfl ?_
    refine g_iconst dL_law_744 rfl kic_1 ?_
    refine g_iadd dL_law_745 rfl ?_
    refine g_scr dL_law_746 rfl ?_
    refine g_aload_n 0 dL_law_747 rfl rfl ?_
    refine g_iload_n 3 dL_law_748 rfl rfl ?_
    refine g_iconst dL_law_749 rfl kic_2 ?_
    refine g_iadd dL_law_750 rfl ?_
    refine g_scr dL_law_751 rfl ?_
    refine g_cVIw (As := [.int (xs (nx (v3 + (1 : Int32)))), .int (xs (nx (v3 + (2 : Int32))))]) (st := [.int c60]) 2 lF_wg rfl dL_law_752 rfl kkX12 (by decide) rfl vX12_first lkL_80 (lwR rfl rfl) (mo_first_c q n (xs (nx (v3 + (1 : Int32)))) (xs (nx (v3 + (2 : Int32)))) X59) rfl rfl (Nat.le_of_ble_eq_true rfl) (fun c62 X61 => ?_)
    refine g_icmp_eq dL_law_755 rfl rfl ?_ ?_
    · refine g_inc (lv' := [(3, .int (v3 + (6 : Int32))), (0, .ref b), (1, .ref (q.ad 0)), (2, .ref (q.ad 102))]) 3 dL_law_1536 rfl rfl kic_6 (Nat.le_of_ble_eq_true rfl) rfl ?_
      refine g_goto dL_law_1539 rfl ?_
      refine g_sub [1, 2, 3, 0] rfl ?_
      exact hrec (v3 + (6 : Int32)) X61
    refine g_iconst dL_law_758 rfl kic_0 ?_
    exact g_none
  refine g_case (z := (16 : Int32)) (fun hc => ?_) (fun hc16 => ?_)
  · refine g_tableIn hc dL_law_33 (by decide) (by decide) rfl rfl ?_
    refine g_aload_n 1 dL_law_760 rfl rfl ?_
    refine g_aload_n 0 dL_law_761 rfl rfl ?_
    refine g_iload_n 3 dL_law_762 rfl rfl ?_
    refine g_iconst dL_law_763 rfl kic_1 ?_
    refine g_iadd dL_law_764 rfl ?_
    refine g_scr dL_law_765 rfl ?_
    refine g_aload_n 0 dL_law_766 rfl rfl ?_
    refine g_iload_n 3 dL_law_767 rfl rfl ?_
    refine g_iconst dL_law_768 rfl kic_2 ?_
    refine g_iadd dL_law_769 rfl ?_
    refine g_scr dL_law_770 rfl ?_
    refine g_aload_n 0 dL_law_771 rfl rfl ?_
    refine g_iload_n 3 dL_law_772 rfl rfl ?_
    refine g_iconst dL_law_773 rfl kic_3 ?_
    refine g_iadd dL_law_774 rfl ?_
    refine g_scr dL_law_775 rfl ?_
    refine g_cVIw (As := [.int (xs (nx (v3 + (1 : Int32)))), .int (xs (nx (v3 + (2 : Int32)))), .int (xs (nx (v3 + (3 : Int32))))]) (st := []) 3 lF_wg rfl dL_law_776 rfl kkX11 (by decide) rfl vX11_slip lkL_81 (lwR rfl rfl) (el_slip_c q n (xs (nx (v3 + (1 : Int32)))) (xs (nx (v3 + (2 : Int32)))) (xs (nx (v3 + (3 : Int32)))) X) rfl rfl (Nat.le_of_ble_eq_true rfl) (fun c64 X63 => ?_)
    refine g_aload_n 2 dL_law_779 rfl rfl ?_
    refine g_aload_n 0 dL_law_780 rfl rfl ?_
    refine g_iload_n 3 dL_law_781 rfl rfl ?_
    refine g_iconst dL_law_782 rfl kic_1 ?_
    refine g_iadd dL_law_783 rfl ?_
    refine g_scr dL_law_784 rfl ?_
    refine g_aload_n 0 dL_law_785 rfl rfl ?_
    refine g_iload_n 3 dL_law_786 rfl rfl ?_
    refine g_iconst dL_law_787 rfl kic_2 ?_
    refine g_iadd dL_law_788 rfl ?_
    refine g_scr dL_law_789 rfl ?_
    refine g_aload_n 0 dL_law_790 rfl rfl ?_
    refine g_iload_n 3 dL_law_791 rfl rfl ?_
    refine g_iconst dL_law_792 rfl kic_3 ?_
    refine g_iadd dL_law_793 rfl ?_
    refine g_scr dL_law_794 rfl ?_
    refine g_cVIw (As := [.int (xs (nx (v3 + (1 : Int32)))), .int (xs (nx (v3 + (2 : Int32)))), .int (xs (nx (v3 + (3 : Int32))))]) (st := [.int c64]) 3 lF_wg rfl dL_law_795 rfl kkX12 (by decide) rfl vX12_slip lkL_84 (lwR rfl rfl) (mo_slip_c q n (xs (nx (v3 + (1 : Int32)))) (xs (nx (v3 + (2 : Int32)))) (xs (nx (v3 + (3 : Int32)))) X63) rfl rfl (Nat.le_of_ble_eq_true rfl) (fun c66 X65 => ?_)
    refine g_icmp_eq dL_law_798 rfl rfl ?_ ?_
    · refine g_inc (lv' := [(3, .int (v3 + (6 : Int32))), (0, .ref b), (1, .ref (q.ad 0)), (2, .ref (q.ad 102))]) 3 dL_law_1536 rfl rfl kic_6 (Nat.le_of_ble_eq_true rfl) rfl ?_
      refine g_goto dL_law_1539 rfl ?_
      refine g_sub [1, 2, 3, 0] rfl ?_
      exact hrec (v3 + (6 : Int32)) X65
    refine g_iconst dL_law_801 rfl kic_0 ?_
    exact g_none
  refine g_case (z := (17 : Int32)) (fun hc => ?_) (fun hc17 => ?_)
  · refine g_tableIn hc dL_law_33 (by decide) (by decide) rfl rfl ?_
    refine g_aload_n 1 dL_law_803 rfl rfl ?_
    refine g_aload_n 0 dL_law_804 rfl rfl ?_
    refine g_iload_n 3 dL_law_805 rfl rfl ?_
    refine g_iconst dL_law_806 rfl kic_1 ?_
    refine g_iadd dL_law_807 rfl ?_
    refine g_scr dL_law_808 rfl ?_
    refine g_aload_n 0 dL_law_809 rfl rfl ?_
    refine g_iload_n 3 dL_law_810 rfl rfl ?_
    refine g_iconst dL_law_811 rfl kic_2 ?_
    refine g_iadd dL_law_812 rfl ?_
    refine g_scr dL_law_813 rfl ?_
    refine g_cVIw (As := [.int (xs (nx (v3 + (1 : Int32)))), .int (xs (nx (v3 + (2 : Int32))))]) (st := []) 2 lF_wg rfl dL_law_814 rfl kkX11 (by decide) rfl vX11_line lkL_85 (lwR rfl rfl) (el_line_c q n (xs (nx (v3 + (1 : Int32)))) (xs (nx (v3 + (2 : Int32)))) X) rfl rfl (Nat.le_of_ble_eq_true rfl) (fun c68 X67 => ?_)
    refine g_aload_n 2 dL_law_817 rfl rfl ?_
    refine g_aload_n 0 dL_law_818 rfl rfl ?_
    refine g_iload_n 3 dL_law_819 rfl rfl ?_
    refine g_iconst dL_law_820 rfl kic_1 ?_
    refine g_iadd dL_law_821 rfl ?_
    refine g_scr dL_law_822 rfl ?_
    refine g_aload_n 0 dL_law_823 rfl rfl ?_
    refine g_iload_n 3 dL_law_824 rfl rfl ?_
    refine g_iconst dL_law_825 rfl kic_2 ?_
    refine g_iadd dL_law_826 rfl ?_
    refine g_scr dL_law_827 rfl ?_
    refine g_cVIw (As := [.int (xs (nx (v3 + (1 : Int32)))), .int (xs (nx (v3 + (2 : Int32))))]) (st := [.int c68]) 2 lF_wg rfl dL_law_828 rfl kkX12 (by decide) rfl vX12_line lkL_88 (lwR rfl rfl) (mo_line_c q n (xs (nx (v3 + (1 : Int32)))) (xs (nx (v3 + (2 : Int32)))) X67) rfl rfl (Nat.le_of_ble_eq_true rfl) (fun c70 X69 => ?_)
    refine g_icmp_eq dL_law_831 rfl rfl ?_ ?_
    · refine g_inc (lv' := [(3, .int (v3 + (6 : Int32))), (0, .ref b), (1, .ref (q.ad 0)), (2, .ref (q.ad 102))]) 3 dL_law_1536 rfl rfl kic_6 (Nat.le_of_ble_eq_true rfl) rfl ?_
      refine g_goto dL_law_1539 rfl ?_
      refine g_sub [1, 2, 3, 0] rfl ?_
      exact hrec (v3 + (6 : Int32)) X69
    refine g_iconst dL_law_834 rfl kic_0 ?_
    exact g_none
  refine g_case (z := (18 : Int32)) (fun hc => ?_) (fun hc18 => ?_)
  · refine g_tableIn hc dL_law_33 (by decide) (by decide) rfl rfl ?_
    refine g_aload_n 1 dL_law_836 rfl rfl ?_
    refine g_aload_n 0 dL_law_837 rfl rfl ?_
    refine g_iload_n 3 dL_law_838 rfl rfl ?_
    refine g_iconst dL_law_839 rfl kic_1 ?_
    refine g_iadd dL_law_840 rfl ?_
    refine g_scr dL_law_841 rfl ?_
    refine g_cVIr (As := [.int (xs (nx (v3 + (1 : Int32))))]) (st := []) 1 lF_wg rfl dL_law_842 rfl kkX11 (by decide) rfl vX11_lift lkL_89 (lwR rfl rfl) (el_lift_c q n (xs (nx (v3 + (1 : Int32)))) X) rfl rfl (Nat.le_of_ble_eq_true rfl) (fun c71 => ?_)
    refine g_aload_n 2 dL_law_845 rfl rfl ?_
    refine g_aload_n 0 dL_law_846 rfl rfl ?_
    refine g_iload_n 3 dL_law_847 rfl rfl ?_
    refine g_iconst dL_law_848 rfl kic_1 ?_
    refine g_iadd dL_law_849 rfl ?_
    refine g_scr dL_law_850 rfl ?_
    refine g_cVIr (As := [.int (xs (nx (v3 + (1 : Int32))))]) (st := [.int c71]) 1 lF_wg rfl dL_law_851 rfl kkX12 (by decide) rfl vX12_lift lkL_92 (lwR rfl rfl) (mo_lift_c q n (xs (nx (v3 + (1 : Int32)))) X) rfl rfl (Nat.le_of_ble_eq_true rfl) (fun c72 => ?_)
    refine g_icmp_eq dL_law_854 rfl rfl ?_ ?_
    · refine g_inc (lv' := [(3, .int (v3 + (6 : Int32))), (0, .ref b), (1, .ref (q.ad 0)), (2, .ref (q.ad 102))]) 3 dL_law_1536 rfl rfl kic_6 (Nat.le_of_ble_eq_true rfl) rfl ?_
      refine g_goto dL_law_1539 rfl ?_
      refine g_sub [1, 2, 3, 0] rfl ?_
      exact hrec (v3 + (6 : Int32)) X
    refine g_iconst dL_law_857 rfl kic_0 ?_
    exact g_none
  refine g_case (z := (19 : Int32)) (fun hc => ?_) (fun hc19 => ?_)
  · refine g_tableIn hc dL_law_33 (by decide) (by decide) rfl rfl ?_
    refine g_aload_n 1 dL_law_859 rfl rfl ?_
    refine g_aload_n 0 dL_law_860 rfl rfl ?_
    refine g_iload_n 3 dL_law_861 rfl rfl ?_
    refine g_iconst dL_law_862 rfl kic_1 ?_
    refine g_iadd dL_law_863 rfl ?_
    refine g_scr dL_law_864 rfl ?_
    refine g_cVIr (As := [.int (xs (nx (v3 + (1 : Int32))))]) (st := []) 1 lF_wg rfl dL_law_865 rfl kkX11 (by decide) rfl vX11_star lkL_93 (lwR rfl rfl) (el_star_c q n (xs (nx (v3 + (1 : Int32)))) X) rfl rfl (Nat.le_of_ble_eq_true rfl) (fun c73 => ?_)
    refine g_aload_n 2 dL_law_868 rfl rfl ?_
    refine g_aload_n 0 dL_law_869 rfl rfl ?_
    refine g_iload_n 3 dL_law_870 rfl rfl ?_
    refine g_iconst dL_law_871 rfl kic_1 ?_
    refine g_iadd dL_law_872 rfl ?_
    refine g_scr dL_law_873 rfl ?_
    refine g_cVIr (As := [.int (xs (nx (v3 + (1 : Int32))))]) (st := [.int c73]) 1 lF_wg rfl dL_law_874 rfl kkX12 (by decide) rfl vX12_star lkL_96 (lwR rfl rfl) (mo_star_c q n (xs (nx (v3 + (1 : Int32)))) X) rfl rfl (Nat.le_of_ble_eq_true rfl) (fun c74 => ?_)
    refine g_icmp_eq dL_law_877 rfl rfl ?_ ?_
    · refine g_inc (lv' := [(3, .int (v3 + (6 : Int32))), (0, .ref b), (1, .ref (q.ad 0)), (2, .ref (q.ad 102))]) 3 dL_law_1536 rfl rfl kic_6 (Nat.le_of_ble_eq_true rfl) rfl ?_
      refine g_goto dL_law_1539 rfl ?_
      refine g_sub [1, 2, 3, 0] rfl ?_
      exact hrec (v3 + (6 : Int32)) X
    refine g_iconst dL_law_880 rfl kic_0 ?_
    exact g_none
  refine g_case (z := (20 : Int32)) (fun hc => ?_) (fun hc20 => ?_)
  · refine g_tableIn hc dL_law_33 (by decide) (by decide) rfl rfl ?_
    refine g_aload_n 1 dL_law_882 rfl rfl ?_
    refine g_aload_n 0 dL_law_883 rfl rfl ?_
    refine g_iload_n 3 dL_law_884 rfl rfl ?_
    refine g_iconst dL_law_885 rfl kic_1 ?_
    refine g_iadd dL_law_886 rfl ?_
    refine g_scr dL_law_887 rfl ?_
    refine g_cVIw (As := [.int (xs (nx (v3 + (1 : Int32))))]) (st := []) 1 lF_wg rfl dL_law_888 rfl kkX11 (by decide) rfl vX11_judge lkL_97 (lwR rfl rfl) (el_judge_c q n (xs (nx (v3 + (1 : Int32)))) X) rfl rfl (Nat.le_of_ble_eq_true rfl) (fun c76 X75 => ?_)
    refine g_aload_n 2 dL_law_891 rfl rfl ?_
    refine g_aload_n 0 dL_law_892 rfl rfl ?_
    refine g_iload_n 3 dL_law_893 rfl rfl ?_
    refine g_iconst dL_law_894 rfl kic_1 ?_
    refine g_iadd dL_law_895 rfl ?_
    refine g_scr dL_law_896 rfl ?_
    refine g_cVIw (As := [.int (xs (nx (v3 + (1 : Int32))))]) (st := [.int c76]) 1 lF_wg rfl dL_law_897 rfl kkX12 (by decide) rfl vX12_judge lkL_100 (lwR rfl rfl) (mo_judge_c q n (xs (nx (v3 + (1 : Int32)))) X75) rfl rfl (Nat.le_of_ble_eq_true rfl) (fun c78 X77 => ?_)
    refine g_icmp_eq dL_law_900 rfl rfl ?_ ?_
    · refine g_inc (lv' := [(3, .int (v3 + (6 : Int32))), (0, .ref b), (1, .ref (q.ad 0)), (2, .ref (q.ad 102))]) 3 dL_law_1536 rfl rfl kic_6 (Nat.le_of_ble_eq_true rfl) rfl ?_
      refine g_goto dL_law_1539 rfl ?_
      refine g_sub [1, 2, 3, 0] rfl ?_
      exact hrec (v3 + (6 : Int32)) X77
    refine g_iconst dL_law_903 rfl kic_0 ?_
    exact g_none
  refine g_case (z := (21 : Int32)) (fun hc => ?_) (fun hc21 => ?_)
  · refine g_tableIn hc dL_law_33 (by decide) (by decide) rfl rfl ?_
    refine g_aload_n 1 dL_law_905 rfl rfl ?_
    refine g_aload_n 0 dL_law_906 rfl rfl ?_
    refine g_iload_n 3 dL_law_907 rfl rfl ?_
    refine g_iconst dL_law_908 rfl kic_1 ?_
    refine g_iadd dL_law_909 rfl ?_
    refine g_scr dL_law_910 rfl ?_
    refine g_cVIw (As := [.int (xs (nx (v3 + (1 : Int32))))]) (st := []) 1 lF_wg rfl dL_law_911 rfl kkX11 (by decide) rfl vX11_whoLed lkL_101 (lwR rfl rfl) (el_whoLed_c q n (xs (nx (v3 + (1 : Int32)))) X) rfl rfl (Nat.le_of_ble_eq_true rfl) (fun c80 X79 => ?_)
    refine g_aload_n 2 dL_law_914 rfl rfl ?_
    refine g_aload_n 0 dL_law_915 rfl rfl ?_
    refine g_iload_n 3 dL_law_916 rfl rfl ?_
    refine g_iconst dL_law_917 rfl kic_1 ?_
    refine g_iadd dL_law_918 rfl ?_
    refine g_scr dL_law_919 rfl ?_
    refine g_cVIw (As := [.int (xs (nx (v3 + (1 : Int32))))]) (st := [.int c80]) 1 lF_wg rfl dL_law_920 rfl kkX12 (by decide) rfl vX12_whoLed lkL_104 (lwR rfl rfl) (mo_whoLed_c q n (xs (nx (v3 + (1 : Int32)))) X79) rfl rfl (Nat.le_of_ble_eq_true rfl) (fun c82 X81 => ?_)
    refine g_icmp_eq dL_law_923 rfl rfl ?_ ?_
    · refine g_inc (lv' := [(3, .int (v3 + (6 : Int32))), (0, .ref b), (1, .ref (q.ad 0)), (2, .ref (q.ad 102))]) 3 dL_law_1536 rfl rfl kic_6 (Nat.le_of_ble_eq_true rfl) rfl ?_
      refine g_goto dL_law_1539 rfl ?_
      refine g_sub [1, 2, 3, 0] rfl ?_
      exact hrec (v3 + (6 : Int32)) X81
    refine g_iconst dL_law_926 rfl kic_0 ?_
    exact g_none
  refine g_case (z := (22 : Int32)) (fun hc => ?_) (fun hc22 => ?_)
  · refine g_tableIn hc dL_law_33 (by decide) (by decide) rfl rfl ?_
    refine g_aload_n 1 dL_law_928 rfl rfl ?_
    refine g_aload_n 0 dL_law_929 rfl rfl ?_
    refine g_iload_n 3 dL_law_930 rfl rfl ?_
    refine g_iconst dL_law_931 rfl kic_1 ?_
    refine g_iadd dL_law_932 rfl ?_
    refine g_scr dL_law_933 rfl ?_
    refine g_aload_n 0 dL_law_934 rfl rfl ?_
    refine g_iload_n 3 dL_law_935 rfl rfl ?_
    refine g_iconst dL_law_936 rfl kic_2 ?_
    refine g_iadd dL_law_937 rfl ?_
    refine g_scr dL_law_938 rfl ?_
    refine g_cVIw (As := [.int (xs (nx (v3 + (1 : Int32)))), .int (xs (nx (v3 + (2 : Int32))))]) (st := []) 2 lF_wg rfl dL_law_939 rfl kkX11 (by decide) rfl vX11_later lkL_105 (lwR rfl rfl) (el_later_c q n (xs (nx (v3 + (1 : Int32)))) (xs (nx (v3 + (2 : Int32)))) X) rfl rfl (Nat.le_of_ble_eq_true rfl) (fun c84 X83 => ?_)
    refine g_aload_n 2 dL_law_942 rfl rfl ?_
    refine g_aload_n 0 dL_law_943 rfl rfl ?_
    refine g_iload_n 3 dL_law_944 rfl rfl ?_
    refine g_iconst dL_law_945 rfl kic_1 ?_
    refine g_iadd dL_law_946 rfl ?_
    refine g_scr dL_law_947 rfl ?_
    refine g_aload_n 0 dL_law_948 rfl rfl ?_
    refine g_iload_n 3 dL_law_949 rfl rfl ?_
    refine g_iconst dL_law_950 rfl kic_2 ?_
    refine g_iadd dL_law_951 rfl ?_
    refine g_scr dL_law_952 rfl ?_
    refine g_cVIw (As := [.int (xs (nx (v3 + (1 : Int32)))), .int (xs (nx (v3 + (2 : Int32))))]) (st := [.int c84]) 2 lF_wg rfl dL_law_953 rfl kkX12 (by decide) rfl vX12_later lkL_108 (lwR rfl rfl) (mo_later_c q n (xs (nx (v3 + (1 : Int32)))) (xs (nx (v3 + (2 : Int32)))) X83) rfl rfl (Nat.le_of_ble_eq_true rfl) (fun c86 X85 => ?_)
    refine g_icmp_eq dL_law_956 rfl rfl ?_ ?_
    · refine g_inc (lv' := [(3, .int (v3 + (6 : Int32))), (0, .ref b), (1, .ref (q.ad 0)), (2, .ref (q.ad 102))]) 3 dL_law_1536 rfl rfl kic_6 (Nat.le_of_ble_eq_true rfl) rfl ?_
      refine g_goto dL_law_1539 rfl ?_
      refine g_sub [1, 2, 3, 0] rfl ?_
      exact hrec (v3 + (6 : Int32)) X85
    refine g_iconst dL_law_959 rfl kic_0 ?_
    exact g_none
  refine g_case (z := (23 : Int32)) (fun hc => ?_) (fun hc23 => ?_)
  · refine g_tableIn hc dL_law_33 (by decide) (by decide) rfl rfl ?_
    refine g_aload_n 1 dL_law_961 rfl rfl ?_
    refine g_aload_n 0 dL_law_962 rfl rfl ?_
    refine g_iload_n 3 dL_law_963 rfl rfl ?_
    refine g_iconst dL_law_964 rfl kic_1 ?_
    refine g_iadd dL_law_965 rfl ?_
    refine g_scr dL_law_966 rfl ?_
    refine g_aload_n 0 dL_law_967 rfl rfl ?_
    refine g_iload_n 3 dL_law_968 rfl rfl ?_
    refine g_iconst dL_law_969 rfl kic_2 ?_
    refine g_iadd dL_law_970 rfl ?_
    refine g_scr dL_law_971 rfl ?_
    refine g_cVIw (As := [.int (xs (nx (v3 + (1 : Int32)))), .int (xs (nx (v3 + (2 : Int32))))]) (st := []) 2 lF_wg rfl dL_law_972 rfl kkX11 (by decide) rfl vX11_quicker lkL_109 (lwR rfl rfl) (el_quicker_c q n (xs (nx (v3 + (1 : Int32)))) (xs (nx (v3 + (2 : Int32)))) X) rfl rfl (Nat.le_of_ble_eq_true rfl) (fun c88 X87 => ?_)
    refine g_aload_n 2 dL_law_975 rfl rfl ?_
    refine g_aload_n 0 dL_law_976 rfl rfl ?_
    refine g_iload_n 3 dL_law_977 rfl rfl ?_
    refine g_iconst dL_law_978 rfl kic_1 ?_
    refine g_iadd dL_law_979 rfl ?_
    refine g_scr dL_law_980 rfl ?_
    refine g_aload_n 0 dL_law_981 rfl rfl ?_
    refine g_iload_n 3 dL_law_982 rfl rfl ?_
    refine g_iconst dL_law_983 rfl kic_2 ?_
    refine g_iadd dL_law_984 rfl ?_
    refine g_scr dL_law_985 rfl ?_
    refine g_cVIw (As := [.int (xs (nx (v3 + (1 : Int32)))), .int (xs (nx (v3 + (2 : Int32))))]) (st := [.int c88]) 2 lF_wg rfl dL_law_986 rfl kkX12 (by decide) rfl vX12_quicker lkL_112 (lwR rfl rfl) (mo_quicker_c q n (xs (nx (v3 + (1 : Int32)))) (xs (nx (v3 + (2 : Int32)))) X87) rfl rfl (Nat.le_of_ble_eq_true rfl) (fun c90 X89 => ?_)
    refine g_icmp_eq dL_law_989 rfl rfl ?_ ?_
    · refine g_inc (lv' := [(3, .int (v3 + (6 : Int32))), (0, .ref b), (1, .ref (q.ad 0)), (2, .ref (q.ad 102))]) 3 dL_law_1536 rfl rfl kic_6 (Nat.le_of_ble_eq_true rfl) rfl ?_
      refine g_goto dL_law_1539 rfl ?_
      refine g_sub [1, 2, 3, 0] rfl ?_
      exact hrec (v3 + (6 : Int32)) X89
    refine g_iconst dL_law_992 rfl kic_0 ?_
    exact g_none
  refine g_case (z := (24 : Int32)) (fun hc => ?_) (fun hc24 => ?_)
  · refine g_tableIn hc dL_law_33 (by decide) (by decide) rfl rfl ?_
    refine g_aload_n 1 dL_law_994 rfl rfl ?_
    refine g_aload_n 0 dL_law_995 rfl rfl ?_
    refine g_iload_n 3 dL_law_996 rfl rfl ?_
    refine g_iconst dL_law_997 rfl kic_1 ?_
    refine g_iadd dL_law_998 rfl ?_
    refine g_scr dL_law_999 rfl ?_
    refine g_aload_n 0 dL_law_1000 rfl rfl ?_
    refine g_iload_n 3 dL_law_1001 rfl rfl ?_
    refine g_iconst dL_law_1002 rfl kic_2 ?_
    refine g_iadd dL_law_1003 rfl ?_
    refine g_scr dL_law_1004 rfl ?_
    refine g_aload_n 0 dL_law_1005 rfl rfl ?_
    refine g_iload_n 3 dL_law_1006 rfl rfl ?_
    refine g_iconst dL_law_1007 rfl kic_3 ?_
    refine g_iadd dL_law_1008 rfl ?_
    refine g_scr dL_law_1009 rfl ?_
    refine g_aload_n 0 dL_law_1010 rfl rfl ?_
    refine g_iload_n 3 dL_law_1011 rfl rfl ?_
    refine g_iconst dL_law_1012 rfl kic_4 ?_
    refine g_iadd dL_law_1013 rfl ?_
    refine g_scr dL_law_1014 rfl ?_
    refine g_cVIw (As := [.int (xs (nx (v3 + (1 : Int32)))), .int (xs (nx (v3 + (2 : Int32)))), .int (xs (nx (v3 + (3 : Int32)))), .int (xs (nx (v3 + (4 : Int32))))]) (st := []) 4 lF_wg rfl dL_law_1015 rfl kkX11 (by decide) rfl vX11_drawn lkL_113 (lwR rfl rfl) (el_drawn_c q n (xs (nx (v3 + (1 : Int32)))) (xs (nx (v3 + (2 : Int32)))) (xs (nx (v3 + (3 : Int32)))) (xs (nx (v3 + (4 : Int32)))) X) rfl rfl (Nat.le_of_ble_eq_true rfl) (fun c92 X91 => ?_)
    refine g_aload_n 2 dL_law_1018 rfl rfl ?_
    refine g_aload_n 0 dL_law_1019 rfl rfl ?_
    refine g_iload_n 3 dL_law_1020 rfl rfl ?_
    refine g_iconst dL_law_1021 rfl kic_1 ?_
    refine g_iadd dL_law_1022 rfl ?_
    refine g_scr dL_law_1023 rfl ?_
    refine g_aload_n 0 dL_law_1024 rfl rfl ?_
    refine g_iload_n 3 dL_law_1025 rfl rfl ?_
    refine g_iconst dL_law_1026 rfl kic_2 ?_
    refine g_iadd dL_law_1027 rfl ?_
    refine g_scr dL_law_1028 rfl ?_
    refine g_aload_n 0 dL_law_1029 rfl rfl ?_
    refine g_iload_n 3 dL_law_1030 rfl rfl ?_
    refine g_iconst dL_law_1031 rfl kic_3 ?_
    refine g_iadd dL_law_1032 rfl ?_
    refine g_scr dL_law_1033 rfl ?_
    refine g_aload_n 0 dL_law_1034 rfl rfl ?_
    refine g_iload_n 3 dL_law_1035 rfl rfl ?_
    refine g_iconst dL_law_1036 rfl kic_4 ?_
    refine g_iadd dL_law_1037 rfl ?_
    refine g_scr dL_law_1038 rfl ?_
    refine g_cVIw (As := [.int (xs (nx (v3 + (1 : Int32)))), .int (xs (nx (v3 + (2 : Int32)))), .int (xs (nx (v3 + (3 : Int32)))), .int (xs (nx (v3 + (4 : Int32))))]) (st := [.int c92]) 4 lF_wg rfl dL_law_1039 rfl kkX12 (by decide) rfl vX12_drawn lkL_117 (lwR rfl rfl) (mo_drawn_c q n (xs (nx (v3 + (1 : Int32)))) (xs (nx (v3 + (2 : Int32)))) (xs (nx (v3 + (3 : Int32)))) (xs (nx (v3 + (4 : Int32)))) X91) rfl rfl (Nat.le_of_ble_eq_true rfl) (fun c94 X93 => ?_)
    refine g_icmp_eq dL_law_1042 rfl rfl ?_ ?_
    · refine g_inc (lv' := [(3, .int (v3 + (6 : Int32))), (0, .ref b), (1, .ref (q.ad 0)), (2, .ref (q.ad 102))]) 3 dL_law_1536 rfl rfl kic_6 (Nat.le_of_ble_eq_true rfl) rfl ?_
      refine g_goto dL_law_1539 rfl ?_
      refine g_sub [1, 2, 3, 0] rfl ?_
      exact hrec (v3 + (6 : Int32)) X93
    refine g_iconst dL_law_1045 rfl kic_0 ?_
    exact g_none
  refine g_case (z := (25 : Int32)) (fun hc => ?_) (fun hc25 => ?_)
  · refine g_tableIn hc dL_law_33 (by decide) (by decide) rfl rfl ?_
    refine g_aload_n 1 dL_law_1047 rfl rfl ?_
    refine g_aload_n 0 dL_law_1048 rfl rfl ?_
    refine g_iload_n 3 dL_law_1049 rfl rfl ?_
    refine g_iconst dL_law_1050 rfl kic_1 ?_
    refine g_iadd dL_law_1051 rfl ?_
    refine g_scr dL_law_1052 rfl ?_
    refine g_cVIw (As := [.int (xs (nx (v3 + (1 : Int32))))]) (st := []) 1 lF_wg rfl dL_law_1053 rfl kkX11 (by decide) rfl vX11_swim lkL_118 (lwR rfl rfl) (el_swim_c q n (xs (nx (v3 + (1 : Int32)))) X) rfl rfl (Nat.le_of_ble_eq_true rfl) (fun c96 X95 => ?_)
    refine g_aload_n 2 dL_law_1056 rfl rfl ?_
    refine g_aload_n 0 dL_law_1057 rfl rfl ?_
    refine g_iload_n 3 dL_law_1058 rfl rfl ?_
    refine g_iconst dL_law_1059 rfl kic_1 ?_
    refine g_iadd dL_law_1060 rfl ?_
    refine g_scr dL_law_1061 rfl ?_
    refine g_cVIw (As := [.int (xs (nx (v3 + (1 : Int32))))]) (st := [.int c96]) 1 lF_wg rfl dL_law_1062 rfl kkX12 (by decide) rfl vX12_swim lkL_121 (lwR rfl rfl) (mo_swim_c q n (xs (nx (v3 + (1 : Int32)))) X95) rfl rfl (Nat.le_of_ble_eq_true rfl) (fun c98 X97 => ?_)
    refine g_icmp_eq dL_law_1065 rfl rfl ?_ ?_
    · refine g_inc (lv' := [(3, .int (v3 + (6 : Int32))), (0, .ref b), (1, .ref (q.ad 0)), (2, .ref (q.ad 102))]) 3 dL_law_1536 rfl rfl kic_6 (Nat.le_of_ble_eq_true rfl) rfl ?_
      refine g_goto dL_law_1539 rfl ?_
      refine g_sub [1, 2, 3, 0] rfl ?_
      exact hrec (v3 + (6 : Int32)) X97
    refine g_iconst dL_law_1068 rfl kic_0 ?_
    exact g_none
  refine g_case (z := (26 : Int32)) (fun hc => ?_) (fun hc26 => ?_)
  · refine g_tableIn hc dL_law_33 (by decide) (by decide) rfl rfl ?_
    refine g_aload_n 1 dL_law_1070 rfl rfl ?_
    refine g_aload_n 0 dL_law_1071 rfl rfl ?_
    refine g_iload_n 3 dL_law_1072 rfl rfl ?_
    refine g_iconst dL_law_1073 rfl kic_1 ?_
    refine g_iadd dL_law_1074 rfl ?_
    refine g_scr dL_law_1075 rfl ?_
    refine g_cVIr (As := [.int (xs (nx (v3 + (1 : Int32))))]) (st := []) 1 lF_wg rfl dL_law_1076 rfl kkX11 (by decide) rfl vX11_led lkL_122 (lwR rfl rfl) (el_led_c q (xs (nx (v3 + (1 : Int32)))) X) rfl rfl (Nat.le_of_ble_eq_true rfl) (fun c99 => ?_)
    refine g_aload_n 2 dL_law_1079 rfl rfl ?_
    refine g_aload_n 0 dL_law_1080 rfl rfl ?_
    refine g_iload_n 3 dL_law_1081 rfl rfl ?_
    refine g_iconst dL_law_1082 rfl kic_1 ?_
    refine g_iadd dL_law_1083 rfl ?_
    refine g_scr dL_law_1084 rfl ?_
    refine g_cVIr (As := [.int (xs (nx (v3 + (1 : Int32))))]) (st := [.int c99]) 1 lF_wg rfl dL_law_1085 rfl kkX12 (by decide) rfl vX12_led lkL_125 (lwR rfl rfl) (mo_led_c q (xs (nx (v3 + (1 : Int32)))) X) rfl rfl (Nat.le_of_ble_eq_true rfl) (fun c100 => ?_)
    refine g_icmp_eq dL_law_1088 rfl rfl ?_ ?_
    · refine g_inc (lv' := [(3, .int (v3 + (6 : Int32))), (0, .ref b), (1, .ref (q.ad 0)), (2, .ref (q.ad 102))]) 3 dL_law_1536 rfl rfl kic_6 (Nat.le_of_ble_eq_true rfl) rfl ?_
      refine g_goto dL_law_1539 rfl ?_
      refine g_sub [1, 2, 3, 0] rfl ?_
      exact hrec (v3 + (6 : Int32)) X
    refine g_iconst dL_law_1091 rfl kic_0 ?_
    exact g_none
  refine g_case (z := (27 : Int32)) (fun hc => ?_) (fun hc27 => ?_)
  · refine g_tableIn hc dL_law_33 (by decide) (by decide) rfl rfl ?_
    refine g_aload_n 1 dL_law_1093 rfl rfl ?_
    refine g_cVIw (As := []) (st := []) 0 lF_wg rfl dL_law_1094 rfl kkX11 (by decide) rfl vX11_image lkL_126 (lwR rfl rfl) (el_image_c q X) rfl rfl (Nat.le_of_ble_eq_true rfl) (fun c102 X101 => ?_)
    refine g_aload_n 2 dL_law_1097 rfl rfl ?_
    refine g_cVIw (As := []) (st := [.int c102]) 0 lF_wg rfl dL_law_1098 rfl kkX12 (by decide) rfl vX12_image lkL_129 (lwR rfl rfl) (mo_image_c q n X101) rfl rfl (Nat.le_of_ble_eq_true rfl) (fun c104 X103 => ?_)
    refine g_icmp_eq dL_law_1101 rfl rfl ?_ ?_
    · refine g_inc (lv' := [(3, .int (v3 + (6 : Int32))), (0, .ref b), (1, .ref (q.ad 0)), (2, .ref (q.ad 102))]) 3 dL_law_1536 rfl rfl kic_6 (Nat.le_of_ble_eq_true rfl) rfl ?_
      refine g_goto dL_law_1539 rfl ?_
      refine g_sub [1, 2, 3, 0] rfl ?_
      exact hrec (v3 + (6 : Int32)) X103
    refine g_iconst dL_law_1104 rfl kic_0 ?_
    exact g_none
  refine g_case (z := (28 : Int32)) (fun hc => ?_) (fun hc28 => ?_)
  · refine g_tableIn hc dL_law_33 (by decide) (by decide) rfl rfl ?_
    refine g_aload_n 1 dL_law_1106 rfl rfl ?_
    refine g_cVIw (As := []) (st := []) 0 lF_wg rfl dL_law_1107 rfl kkX11 (by decide) rfl vX11_back lkL_130 (lwR rfl rfl) (el_back_c q X) rfl rfl (Nat.le_of_ble_eq_true rfl) (fun c106 X105 => ?_)
    refine g_aload_n 2 dL_law_1110 rfl rfl ?_
    refine g_cVIw (As := []) (st := [.int c106]) 0 lF_wg rfl dL_law_1111 rfl kkX12 (by decide) rfl vX12_back lkL_133 (lwR rfl rfl) (mo_back_c q n X105) rfl rfl (Nat.le_of_ble_eq_true rfl) (fun c108 X107 => ?_)
    refine g_icmp_eq dL_law_1114 rfl rfl ?_ ?_
    · refine g_inc (lv' := [(3, .int (v3 + (6 : Int32))), (0, .ref b), (1, .ref (q.ad 0)), (2, .ref (q.ad 102))]) 3 dL_law_1536 rfl rfl kic_6 (Nat.le_of_ble_eq_true rfl) rfl ?_
      refine g_goto dL_law_1539 rfl ?_
      refine g_sub [1, 2, 3, 0] rfl ?_
      exact hrec (v3 + (6 : Int32)) X107
    refine g_iconst dL_law_1117 rfl kic_0 ?_
    exact g_none
  refine g_case (z := (29 : Int32)) (fun hc => ?_) (fun hc29 => ?_)
  · refine g_tableIn hc dL_law_33 (by decide) (by decide) rfl rfl ?_
    refine g_aload_n 1 dL_law_1119 rfl rfl ?_
    refine g_cVIw (As := []) (st := []) 0 lF_wg rfl dL_law_1120 rfl kkX11 (by decide) rfl vX11_undo lkL_134 (lwR rfl rfl) (el_undo_c q X) rfl rfl (Nat.le_of_ble_eq_true rfl) (fun c110 X109 => ?_)
    refine g_aload_n 2 dL_law_1123 rfl rfl ?_
    refine g_cVIw (As := []) (st := [.int c110]) 0 lF_wg rfl dL_law_1124 rfl kkX12 (by decide) rfl vX12_undo lkL_137 (lwR rfl rfl) (mo_undo_c q X109) rfl rfl (Nat.le_of_ble_eq_true rfl) (fun c112 X111 => ?_)
    refine g_icmp_eq dL_law_1127 rfl rfl ?_ ?_
    · refine g_inc (lv' := [(3, .int (v3 + (6 : Int32))), (0, .ref b), (1, .ref (q.ad 0)), (2, .ref (q.ad 102))]) 3 dL_law_1536 rfl rfl kic_6 (Nat.le_of_ble_eq_true rfl) rfl ?_
      refine g_goto dL_law_1539 rfl ?_
      refine g_sub [1, 2, 3, 0] rfl ?_
      exact hrec (v3 + (6 : Int32)) X111
    refine g_iconst dL_law_1130 rfl kic_0 ?_
    exact g_none
  refine g_case (z := (30 : Int32)) (fun hc => ?_) (fun hc30 => ?_)
  · refine g_tableIn hc dL_law_33 (by decide) (by decide) rfl rfl ?_
    refine g_aload_n 1 dL_law_1132 rfl rfl ?_
    refine g_cVIw (As := []) (st := []) 0 lF_wg rfl dL_law_1133 rfl kkX11 (by decide) rfl vX11_redo lkL_138 (lwR rfl rfl) (el_redo_c q X) rfl rfl (Nat.le_of_ble_eq_true rfl) (fun c114 X113 => ?_)
    refine g_aload_n 2 dL_law_1136 rfl rfl ?_
    refine g_cVIw (As := []) (st := [.int c114]) 0 lF_wg rfl dL_law_1137 rfl kkX12 (by decide) rfl vX12_redo lkL_141 (lwR rfl rfl) (mo_redo_c q X113) rfl rfl (Nat.le_of_ble_eq_true rfl) (fun c116 X115 => ?_)
    refine g_icmp_eq dL_law_1140 rfl rfl ?_ ?_
    · refine g_inc (lv' := [(3, .int (v3 + (6 : Int32))), (0, .ref b), (1, .ref (q.ad 0)), (2, .ref (q.ad 102))]) 3 dL_law_1536 rfl rfl kic_6 (Nat.le_of_ble_eq_true rfl) rfl ?_
      refine g_goto dL_law_1539 rfl ?_
      refine g_sub [1, 2, 3, 0] rfl ?_
      exact hrec (v3 + (6 : Int32)) X115
    refine g_iconst dL_law_1143 rfl kic_0 ?_
    exact g_none
  refine g_case (z := (31 : Int32)) (fun hc => ?_) (fun hc31 => ?_)
  · refine g_tableIn hc dL_law_33 (by decide) (by decide) rfl rfl ?_
    refine g_aload_n 1 dL_law_1145 rfl rfl ?_
    refine g_aload_n 0 dL_law_1146 rfl rfl ?_
    refine g_iload_n 3 dL_law_1147 rfl rfl ?_
    refine g_iconst dL_law_1148 rfl kic_1 ?_
    refine g_iadd dL_law_1149 rfl ?_
    refine g_scr dL_law_1150 rfl ?_
    refine g_cVIw (As := [.int (xs (nx (v3 + (1 : Int32))))]) (st := []) 1 lF_wg rfl dL_law_1151 rfl kkX11 (by decide) rfl vX11_body lkL_142 (lwR rfl rfl) (el_body_c q (xs (nx (v3 + (1 : Int32)))) X) rfl rfl (Nat.le_of_ble_eq_true rfl) (fun c118 X117 => ?_)
    refine g_aload_n 2 dL_law_1154 rfl rfl ?_
    refine g_aload_n 0 dL_law_1155 rfl rfl ?_
    refine g_iload_n 3 dL_law_1156 rfl rfl ?_
    refine g_iconst dL_law_1157 rfl kic_1 ?_
    refine g_iadd dL_law_1158 rfl ?_
    refine g_scr dL_law_1159 rfl ?_
    refine g_cVIw (As := [.int (xs (nx (v3 + (1 : Int32))))]) (st := [.int c118]) 1 lF_wg rfl dL_law_1160 rfl kkX12 (by decide) rfl vX12_body lkL_145 (lwR rfl rfl) (mo_body_c q (xs (nx (v3 + (1 : Int32)))) X117) rfl rfl (Nat.le_of_ble_eq_true rfl) (fun c120 X119 => ?_)
    refine g_icmp_eq dL_law_1163 rfl rfl ?_ ?_
    · refine g_inc (lv' := [(3, .int (v3 + (6 : Int32))), (0, .ref b), (1, .ref (q.ad 0)), (2, .ref (q.ad 102))]) 3 dL_law_1536 rfl rfl kic_6 (Nat.le_of_ble_eq_true rfl) rfl ?_
      refine g_goto dL_law_1539 rfl ?_
      refine g_sub [1, 2, 3, 0] rfl ?_
      exact hrec (v3 + (6 : Int32)) X119
    refine g_iconst dL_law_1166 rfl kic_0 ?_
    exact g_none
  refine g_case (z := (32 : Int32)) (fun hc => ?_) (fun hc32 => ?_)
  · refine g_tableIn hc dL_law_33 (by decide) (by decide) rfl rfl ?_
    refine g_aload_n 1 dL_law_1168 rfl rfl ?_
    refine g_aload_n 0 dL_law_1169 rfl rfl ?_
    refine g_iload_n 3 dL_law_1170 rfl rfl ?_
    refine g_iconst dL_law_1171 rfl kic_1 ?_
    refine g_iadd dL_law_1172 rfl ?_
    refine g_scr dL_law_1173 rfl ?_
    refine g_aload_n 0 dL_law_1174 rfl rfl ?_
    refine g_iload_n 3 dL_law_1175 rfl rfl ?_
    refine g_iconst dL_law_1176 rfl kic_2 ?_
    refine g_iadd dL_law_1177 rfl ?_
    refine g_scr dL_law_1178 rfl ?_
    refine g_aload_n 0 dL_law_1179 rfl rfl ?_
    refine g_iload_n 3 dL_law_1180 rfl rfl ?_
    refine g_iconst dL_law_1181 rfl kic_3 ?_
    refine g_iadd dL_law_1182 rfl ?_
    refine g_scr dL_law_1183 rfl ?_
    refine g_cVIw (As := [.int (xs (nx (v3 + (1 : Int32)))), .int (xs (nx (v3 + (2 : Int32)))), .int (xs (nx (v3 + (3 : Int32))))]) (st := []) 3 lF_wg rfl dL_law_1184 rfl kkX11 (by decide) rfl vX11_act lkL_146 (lwR rfl rfl) (el_act_c q (xs (nx (v3 + (1 : Int32)))) (xs (nx (v3 + (2 : Int32)))) (xs (nx (v3 + (3 : Int32)))) X) rfl rfl (Nat.le_of_ble_eq_true rfl) (fun c122 X121 => ?_)
    refine g_aload_n 2 dL_law_1187 rfl rfl ?_
    refine g_aload_n 0 dL_law_1188 rfl rfl ?_
    refine g_iload_n 3 dL_law_1189 rfl rfl ?_
    refine g_iconst dL_law_1190 rfl kic_1 ?_
    refine g_iadd dL_law_1191 rfl ?_
    refine g_scr dL_law_1192 rfl ?_
    refine g_aload_n 0 dL_law_1193 rfl rfl ?_
    refine g_iload_n 3 dL_law_1194 rfl rfl ?_
    refine g_iconst dL_law_1195 rfl kic_2 ?_
    refine g_iadd dL_law_1196 rfl ?_
    refine g_scr dL_law_1197 rfl ?_
    refine g_aload_n 0 dL_law_1198 rfl rfl ?_
    refine g_iload_n 3 dL_law_1199 rfl rfl ?_
    refine g_iconst dL_law_1200 rfl kic_3 ?_
    refine g_iadd dL_law_1201 rfl ?_
    refine g_scr dL_law_1202 rfl ?_
    refine g_cVIw (As := [.int (xs (nx (v3 + (1 : Int32)))), .int (xs (nx (v3 + (2 : Int32)))), .int (xs (nx (v3 + (3 : Int32))))]) (st := [.int c122]) 3 lF_wg rfl dL_law_1203 rfl kkX12 (by decide) rfl vX12_act lkL_149 (lwR rfl rfl) (mo_act_c q (xs (nx (v3 + (1 : Int32)))) (xs (nx (v3 + (2 : Int32)))) (xs (nx (v3 + (3 : Int32)))) X121) rfl rfl (Nat.le_of_ble_eq_true rfl) (fun c124 X123 => ?_)
    refine g_icmp_eq dL_law_1206 rfl rfl ?_ ?_
    · refine g_inc (lv' := [(3, .int (v3 + (6 : Int32))), (0, .ref b), (1, .ref (q.ad 0)), (2, .ref (q.ad 102))]) 3 dL_law_1536 rfl rfl kic_6 (Nat.le_of_ble_eq_true rfl) rfl ?_
      refine g_goto dL_law_1539 rfl ?_
      refine g_sub [1, 2, 3, 0] rfl ?_
      exact hrec (v3 + (6 : Int32)) X123
    refine g_iconst dL_law_1209 rfl kic_0 ?_
    exact g_none
  refine g_case (z := (33 : Int32)) (fun hc => ?_) (fun hc33 => ?_)
  · refine g_tableIn hc dL_law_33 (by decide) (by decide) rfl rfl ?_
    refine g_aload_n 1 dL_law_1211 rfl rfl ?_
    refine g_aload_n 0 dL_law_1212 rfl rfl ?_
    refine g_iload_n 3 dL_law_1213 rfl rfl ?_
    refine g_iconst dL_law_1214 rfl kic_1 ?_
    refine g_iadd dL_law_1215 rfl ?_
    refine g_scr dL_law_1216 rfl ?_
    refine g_cVIr (As := [.int (xs (nx (v3 + (1 : Int32))))]) (st := []) 1 lF_wg rfl dL_law_1217 rfl kkX11 (by decide) rfl vX11_trace lkL_150 (lwR rfl rfl) (el_trace_c q (xs (nx (v3 + (1 : Int32)))) X) rfl rfl (Nat.le_of_ble_eq_true rfl) (fun c125 => ?_)
    refine g_aload_n 2 dL_law_1220 rfl rfl ?_
    refine g_aload_n 0 dL_law_1221 rfl rfl ?_
    refine g_iload_n 3 dL_law_1222 rfl rfl ?_
    refine g_iconst dL_law_1223 rfl kic_1 ?_
    refine g_iadd dL_law_1224 rfl ?_
    refine g_scr dL_law_1225 rfl ?_
    refine g_cVIr (As := [.int (xs (nx (v3 + (1 : Int32))))]) (st := [.int c125]) 1 lF_wg rfl dL_law_1226 rfl kkX12 (by decide) rfl vX12_trace lkL_153 (lwR rfl rfl) (mo_trace_c q (xs (nx (v3 + (1 : Int32)))) X) rfl rfl (Nat.le_of_ble_eq_true rfl) (fun c126 => ?_)
    refine g_icmp_eq dL_law_1229 rfl rfl ?_ ?_
    · refine g_inc (lv' := [(3, .int (v3 + (6 : Int32))), (0, .ref b), (1, .ref (q.ad 0)), (2, .ref (q.ad 102))]) 3 dL_law_1536 rfl rfl kic_6 (Nat.le_of_ble_eq_true rfl) rfl ?_
      refine g_goto dL_law_1539 rfl ?_
      refine g_sub [1, 2, 3, 0] rfl ?_
      exact hrec (v3 + (6 : Int32)) X
    refine g_iconst dL_law_1232 rfl kic_0 ?_
    exact g_none
  refine g_case (z := (34 : Int32)) (fun hc => ?_) (fun hc34 => ?_)
  · refine g_tableIn hc dL_law_33 (by decide) (by decide) rfl rfl ?_
    refine g_aload_n 1 dL_law_1234 rfl rfl ?_
    refine g_aload_n 0 dL_law_1235 rfl rfl ?_
    refine g_iload_n 3 dL_law_1236 rfl rfl ?_
    refine g_iconst dL_law_1237 rfl kic_1 ?_
    refine g_iadd dL_law_1238 rfl ?_
    refine g_scr dL_law_1239 rfl ?_
    refine g_aload_n 0 dL_law_1240 rfl rfl ?_
    refine g_iload_n 3 dL_law_1241 rfl rfl ?_
    refine g_iconst dL_law_1242 rfl kic_2 ?_
    refine g_iadd dL_law_1243 rfl ?_
    refine g_scr dL_law_1244 rfl ?_
    refine g_cVIw (As := [.int (xs (nx (v3 + (1 : Int32)))), .int (xs (nx (v3 + (2 : Int32))))]) (st := []) 2 lF_wg rfl dL_law_1245 rfl kkX11 (by decide) rfl vX11_keep lkL_154 (lwR rfl rfl) (el_keep_c q (xs (nx (v3 + (1 : Int32)))) (xs (nx (v3 + (2 : Int32)))) X) rfl rfl (Nat.le_of_ble_eq_true rfl) (fun c128 X127 => ?_)
    refine g_aload_n 2 dL_law_1248 rfl rfl ?_
    refine g_aload_n 0 dL_law_1249 rfl rfl ?_
    refine g_iload_n 3 dL_law_1250 rfl rfl ?_
    refine g_iconst dL_law_1251 rfl kic_1 ?_
    refine g_iadd dL_law_1252 rfl ?_
    refine g_scr dL_law_1253 rfl ?_
    refine g_aload_n 0 dL_law_1254 rfl rfl ?_
    refine g_iload_n 3 dL_law_1255 rfl rfl ?_
    refine g_iconst dL_law_1256 rfl kic_2 ?_
    refine g_iadd dL_law_1257 rfl ?_
    refine g_scr dL_law_1258 rfl ?_
    refine g_cVIw (As := [.int (xs (nx (v3 + (1 : Int32)))), .int (xs (nx (v3 + (2 : Int32))))]) (st := [.int c128]) 2 lF_wg rfl dL_law_1259 rfl kkX12 (by decide) rfl vX12_keep lkL_157 (lwR rfl rfl) (mo_keep_c q (xs (nx (v3 + (1 : Int32)))) (xs (nx (v3 + (2 : Int32)))) X127) rfl rfl (Nat.le_of_ble_eq_true rfl) (fun c130 X129 => ?_)
    refine g_icmp_eq dL_law_1262 rfl rfl ?_ ?_
    · refine g_inc (lv' := [(3, .int (v3 + (6 : Int32))), (0, .ref b), (1, .ref (q.ad 0)), (2, .ref (q.ad 102))]) 3 dL_law_1536 rfl rfl kic_6 (Nat.le_of_ble_eq_true rfl) rfl ?_
      refine g_goto dL_law_1539 rfl ?_
      refine g_sub [1, 2, 3, 0] rfl ?_
      exact hrec (v3 + (6 : Int32)) X129
    refine g_iconst dL_law_1265 rfl kic_0 ?_
    exact g_none
  refine g_case (z := (35 : Int32)) (fun hc => ?_) (fun hc35 => ?_)
  · refine g_tableIn hc dL_law_33 (by decide) (by decide) rfl rfl ?_
    refine g_aload_n 1 dL_law_1267 rfl rfl ?_
    refine g_aload_n 0 dL_law_1268 rfl rfl ?_
    refine g_iload_n 3 dL_law_1269 rfl rfl ?_
    refine g_iconst dL_law_1270 rfl kic_1 ?_
    refine g_iadd dL_law_1271 rfl ?_
    refine g_scr dL_law_1272 rfl ?_
    refine g_aload_n 0 dL_law_1273 rfl rfl ?_
    refine g_iload_n 3 dL_law_1274 rfl rfl ?_
    refine g_iconst dL_law_1275 rfl kic_2 ?_
    refine g_iadd dL_law_1276 rfl ?_
    refine g_scr dL_law_1277 rfl ?_
    refine g_aload_n 0 dL_law_1278 rfl rfl ?_
    refine g_iload_n 3 dL_law_1279 rfl rfl ?_
    refine g_iconst dL_law_1280 rfl kic_3 ?_
    refine g_iadd dL_law_1281 rfl ?_
    refine g_scr dL_law_1282 rfl ?_
    refine g_cVIw (As := [.int (xs (nx (v3 + (1 : Int32)))), .int (xs (nx (v3 + (2 : Int32)))), .int (xs (nx (v3 + (3 : Int32))))]) (st := []) 3 lF_wg rfl dL_law_1283 rfl kkX11 (by decide) rfl vX11_row lkL_158 (lwR rfl rfl) (el_row_c q n (xs (nx (v3 + (1 : Int32)))) (xs (nx (v3 + (2 : Int32)))) (xs (nx (v3 + (3 : Int32)))) X) rfl rfl (Nat.le_of_ble_eq_true rfl) (fun c132 X131 => ?_)
    refine g_aload_n 2 dL_law_1286 rfl rfl ?_
    refine g_aload_n 0 dL_law_1287 rfl rfl ?_
    refine g_iload_n 3 dL_law_1288 rfl rfl ?_
    refine g_iconst dL_law_1289 rfl kic_1 ?_
    refine g_iadd dL_law_1290 rfl ?_
    refine g_scr dL_law_1291 rfl ?_
    refine g_aload_n 0 dL_law_1292 rfl rfl ?_
    refine g_iload_n 3 dL_law_1293 rfl rfl ?_
    refine g_iconst dL_law_1294 rfl kic_2 ?_
    refine g_iadd dL_law_1295 rfl ?_
    refine g_scr dL_law_1296 rfl ?_
    refine g_aload_n 0 dL_law_1297 rfl rfl ?_
    refine g_iload_n 3 dL_law_1298 rfl rfl ?_
    refine g_iconst dL_law_1299 rfl kic_3 ?_
    refine g_iadd dL_law_1300 rfl ?_
    refine g_scr dL_law_1301 rfl ?_
    refine g_cVIw (As := [.int (xs (nx (v3 + (1 : Int32)))), .int (xs (nx (v3 + (2 : Int32)))), .int (xs (nx (v3 + (3 : Int32))))]) (st := [.int c132]) 3 lF_wg rfl dL_law_1302 rfl kkX12 (by decide) rfl vX12_row lkL_161 (lwR rfl rfl) (mo_row_c q n (xs (nx (v3 + (1 : Int32)))) (xs (nx (v3 + (2 : Int32)))) (xs (nx (v3 + (3 : Int32)))) X131) rfl rfl (Nat.le_of_ble_eq_true rfl) (fun c134 X133 => ?_)
    refine g_icmp_eq dL_law_1305 rfl rfl ?_ ?_
    · refine g_inc (lv' := [(3, .int (v3 + (6 : Int32))), (0, .ref b), (1, .ref (q.ad 0)), (2, .ref (q.ad 102))]) 3 dL_law_1536 rfl rfl kic_6 (Nat.le_of_ble_eq_true rfl) rfl ?_
      refine g_goto dL_law_1539 rfl ?_
      refine g_sub [1, 2, 3, 0] rfl ?_
      exact hrec (v3 + (6 : Int32)) X133
    refine g_iconst dL_law_1308 rfl kic_0 ?_
    exact g_none
  refine g_case (z := (36 : Int32)) (fun hc => ?_) (fun hc36 => ?_)
  · refine g_tableIn hc dL_law_33 (by decide) (by decide) rfl rfl ?_
    refine g_aload_n 1 dL_law_1310 rfl rfl ?_
    refine g_aload_n 0 dL_law_1311 rfl rfl ?_
    refine g_iload_n 3 dL_law_1312 rfl rfl ?_
    refine g_iconst dL_law_1313 rfl kic_1 ?_
    refine g_iadd dL_law_1314 rfl ?_
    refine g_scr dL_law_1315 rfl ?_
    refine g_aload_n 0 dL_law_1316 rfl rfl ?_
    refine g_iload_n 3 dL_law_1317 rfl rfl ?_
    refine g_iconst dL_law_1318 rfl kic_2 ?_
    refine g_iadd dL_law_1319 rfl ?_
    refine g_scr dL_law_1320 rfl ?_
    refine g_aload_n 0 dL_law_1321 rfl rfl ?_
    refine g_iload_n 3 dL_law_1322 rfl rfl ?_
    refine g_iconst dL_law_1323 rfl kic_3 ?_
    refine g_iadd dL_law_1324 rfl ?_
    refine g_scr dL_law_1325 rfl ?_
    refine g_i2l dL_law_1326 rfl ?_
    refine g_bipush dL_law_1327 rfl kbi_32 ?_
    refine g_lshl dL_law_1329 rfl ?_
    refine g_aload_n 0 dL_law_1330 rfl rfl ?_
    refine g_iload_n 3 dL_law_1331 rfl rfl ?_
    refine g_iconst dL_law_1332 rfl kic_4 ?_
    refine g_iadd dL_law_1333 rfl ?_
    refine g_scr dL_law_1334 rfl ?_
    refine g_i2l dL_law_1335 rfl ?_
    refine g_ldc2 rfl dL_law_1336 rfl klL_162 ?_
    refine g_land dL_law_1339 rfl ?_
    refine g_lor dL_law_1340 rfl ?_
    refine g_cVIw (As := [.int (xs (nx (v3 + (1 : Int32)))), .int (xs (nx (v3 + (2 : Int32)))), .long ((jls ((xs (nx (v3 + (3 : Int32)))).toInt64) (32 : Int32)) ||| (((xs (nx (v3 + (4 : Int32)))).toInt64) &&& (4294967295 : Int64)))]) (st := []) 3 lF_wg rfl dL_law_1341 rfl kkX11 (by decide) rfl vX11_put lkL_164 (lwR rfl rfl) (el_put_c q (xs (nx (v3 + (1 : Int32)))) (xs (nx (v3 + (2 : Int32)))) ((jls ((xs (nx (v3 + (3 : Int32)))).toInt64) (32 : Int32)) ||| (((xs (nx (v3 + (4 : Int32)))).toInt64) &&& (4294967295 : Int64))) X) rfl rfl (Nat.le_of_ble_eq_true rfl) (fun c136 X135 => ?_)
    refine g_aload_n 2 dL_law_1344 rfl rfl ?_
    refine g_aload_n 0 dL_law_1345 rfl rfl ?_
    refine g_iload_n 3 dL_law_1346 rfl rfl ?_
    refine g_iconst dL_law_1347 rfl kic_1 ?_
    refine g_iadd dL_law_1348 rfl ?_
    refine g_scr dL_law_1349 rfl ?_
    refine g_aload_n 0 dL_law_1350 rfl rfl ?_
    refine g_iload_n 3 dL_law_1351 rfl rfl ?_
    refine g_iconst dL_law_1352 rfl kic_2 ?_
    refine g_iadd dL_law_1353 rfl ?_
    refine g_scr dL_law_1354 rfl ?_
    refine g_aload_n 0 dL_law_1355 rfl rfl ?_
    refine g_iload_n 3 dL_law_1356 rfl rfl ?_
    refine g_iconst dL_law_1357 rfl kic_3 ?_
    refine g_iadd dL_law_1358 rfl ?_
    refine g_scr dL_law_1359 rfl ?_
    refine g_i2l dL_law_1360 rfl ?_
    refine g_bipush dL_law_1361 rfl kbi_32 ?_
    refine g_lshl dL_law_1363 rfl ?_
    refine g_aload_n 0 dL_law_1364 rfl rfl ?_
    refine g_iload_n 3 dL_law_1365 rfl rfl ?_
    refine g_iconst dL_law_1366 rfl kic_4 ?_
    refine g_iadd dL_law_1367 rfl ?_
    refine g_scr dL_law_1368 rfl ?_
    refine g_i2l dL_law_1369 rfl ?_
    refine g_ldc2 rfl dL_law_1370 rfl klL_162 ?_
    refine g_land dL_law_1373 rfl ?_
    refine g_lor dL_law_1374 rfl ?_
    refine g_cVIw (As := [.int (xs (nx (v3 + (1 : Int32)))), .int (xs (nx (v3 + (2 : Int32)))), .long ((jls ((xs (nx (v3 + (3 : Int32)))).toInt64) (32 : Int32)) ||| (((xs (nx (v3 + (4 : Int32)))).toInt64) &&& (4294967295 : Int64)))]) (st := [.int c136]) 3 lF_wg rfl dL_law_1375 rfl kkX12 (by decide) rfl vX12_put lkL_168 (lwR rfl rfl) (mo_put_c q (xs (nx (v3 + (1 : Int32)))) (xs (nx (v3 + (2 : Int32)))) ((jls ((xs (nx (v3 + (3 : Int32)))).toInt64) (32 : Int32)) ||| (((xs (nx (v3 + (4 : Int32)))).toInt64) &&& (4294967295 : Int64))) X135) rfl rfl (Nat.le_of_ble_eq_true rfl) (fun c138 X137 => ?_)
    refine g_icmp_eq dL_law_1378 rfl rfl ?_ ?_
    · refine g_inc (lv' := [(3, .int (v3 + (6 : Int32))), (0, .ref b), (1, .ref (q.ad 0)), (2, .ref (q.ad 102))]) 3 dL_law_1536 rfl rfl kic_6 (Nat.le_of_ble_eq_true rfl) rfl ?_
      refine g_goto dL_law_1539 rfl ?_
      refine g_sub [1, 2, 3, 0] rfl ?_
      exact hrec (v3 + (6 : Int32)) X137
    refine g_iconst dL_law_1381 rfl kic_0 ?_
    exact g_none
  refine g_case (z := (37 : Int32)) (fun hc => ?_) (fun hc37 => ?_)
  · refine g_tableIn hc dL_law_33 (by decide) (by decide) rfl rfl ?_
    refine g_aload_n 1 dL_law_1383 rfl rfl ?_
    refine g_aload_n 0 dL_law_1384 rfl rfl ?_
    refine g_iload_n 3 dL_law_1385 rfl rfl ?_
    refine g_iconst dL_law_1386 rfl kic_1 ?_
    refine g_iadd dL_law_1387 rfl ?_
    refine g_scr dL_law_1388 rfl ?_
    refine g_aload_n 0 dL_law_1389 rfl rfl ?_
    refine g_iload_n 3 dL_law_1390 rfl rfl ?_
    refine g_iconst dL_law_1391 rfl kic_2 ?_
    refine g_iadd dL_law_1392 rfl ?_
    refine g_scr dL_law_1393 rfl ?_
    refine g_cVLr (As := [.int (xs (nx (v3 + (1 : Int32)))), .int (xs (nx (v3 + (2 : Int32))))]) (st := []) 2 lF_wg rfl dL_law_1394 rfl kkX11 (by decide) rfl vX11_element lkL_169 (lwR rfl rfl) (el_element_c q (xs (nx (v3 + (1 : Int32)))) (xs (nx (v3 + (2 : Int32)))) X) rfl rfl (Nat.le_of_ble_eq_true rfl) (fun c139 => ?_)
    refine g_aload_n 2 dL_law_1397 rfl rfl ?_
    refine g_aload_n 0 dL_law_1398 rfl rfl ?_
    refine g_iload_n 3 dL_law_1399 rfl rfl ?_
    refine g_iconst dL_law_1400 rfl kic_1 ?_
    refine g_iadd dL_law_1401 rfl ?_
    refine g_scr dL_law_1402 rfl ?_
    refine g_aload_n 0 dL_law_1403 rfl rfl ?_
    refine g_iload_n 3 dL_law_1404 rfl rfl ?_
    refine g_iconst dL_law_1405 rfl kic_2 ?_
    refine g_iadd dL_law_1406 rfl ?_
    refine g_scr dL_law_1407 rfl ?_
    refine g_cVLr (As := [.int (xs (nx (v3 + (1 : Int32)))), .int (xs (nx (v3 + (2 : Int32))))]) (st := [.long c139]) 2 lF_wg rfl dL_law_1408 rfl kkX12 (by decide) rfl vX12_element lkL_173 (lwR rfl rfl) (mo_element_c q (xs (nx (v3 + (1 : Int32)))) (xs (nx (v3 + (2 : Int32)))) X) rfl rfl (Nat.le_of_ble_eq_true rfl) (fun c140 => ?_)
    refine g_lcmp dL_law_1411 rfl ?_
    refine g_if_eq dL_law_1412 rfl rfl ?_ ?_
    · refine g_inc (lv' := [(3, .int (v3 + (6 : Int32))), (0, .ref b), (1, .ref (q.ad 0)), (2, .ref (q.ad 102))]) 3 dL_law_1536 rfl rfl kic_6 (Nat.le_of_ble_eq_true rfl) rfl ?_
      refine g_goto dL_law_1539 rfl ?_
      refine g_sub [1, 2, 3, 0] rfl ?_
      exact hrec (v3 + (6 : Int32)) X
    refine g_iconst dL_law_1415 rfl kic_0 ?_
    exact g_none
  refine g_case (z := (38 : Int32)) (fun hc => ?_) (fun hc38 => ?_)
  · refine g_tableIn hc dL_law_33 (by decide) (by decide) rfl rfl ?_
    refine g_aload_n 1 dL_law_1417 rfl rfl ?_
    refine g_aload_n 0 dL_law_1418 rfl rfl ?_
    refine g_iload_n 3 dL_law_1419 rfl rfl ?_
    refine g_iconst dL_law_1420 rfl kic_1 ?_
    refine g_iadd dL_law_1421 rfl ?_
    refine g_scr dL_law_1422 rfl ?_
    refine g_aload_n 0 dL_law_1423 rfl rfl ?_
    refine g_iload_n 3 dL_law_1424 rfl rfl ?_
    refine g_iconst dL_law_1425 rfl kic_2 ?_
    refine g_iadd dL_law_1426 rfl ?_
    refine g_scr dL_law_1427 rfl ?_
    refine g_aload_n 0 dL_law_1428 rfl rfl ?_
    refine g_iload_n 3 dL_law_1429 rfl rfl ?_
    refine g_iconst dL_law_1430 rfl kic_3 ?_
    refine g_iadd dL_law_1431 rfl ?_
    refine g_scr dL_law_1432 rfl ?_
    refine g_aload_n 0 dL_law_1433 rfl rfl ?_
    refine g_iload_n 3 dL_law_1434 rfl rfl ?_
    refine g_iconst dL_law_1435 rfl kic_4 ?_
    refine g_iadd dL_law_1436 rfl ?_
    refine g_scr dL_law_1437 rfl ?_
    refine g_aload_n 0 dL_law_1438 rfl rfl ?_
    refine g_iload_n 3 dL_law_1439 rfl rfl ?_
    refine g_iconst dL_law_1440 rfl kic_5 ?_
    refine g_iadd dL_law_1441 rfl ?_
    refine g_scr dL_law_1442 rfl ?_
    refine g_cVIw (As := [.int (xs (nx (v3 + (1 : Int32)))), .int (xs (nx (v3 + (2 : Int32)))), .int (xs (nx (v3 + (3 : Int32)))), .int (xs (nx (v3 + (4 : Int32)))), .int (xs (nx (v3 + (5 : Int32))))]) (st := []) 5 lF_wg rfl dL_law_1443 rfl kkX11 (by decide) rfl vX11_shift lkL_174 (lwR rfl rfl) (el_shift_c q (xs (nx (v3 + (1 : Int32)))) (xs (nx (v3 + (2 : Int32)))) (xs (nx (v3 + (3 : Int32)))) (xs (nx (v3 + (4 : Int32)))) (xs (nx (v3 + (5 : Int32)))) X) rfl rfl (Nat.le_of_ble_eq_true rfl) (fun c142 X141 => ?_)
    refine g_aload_n 2 dL_law_1446 rfl rfl ?_
    refine g_aload_n 0 dL_law_1447 rfl rfl ?_
    refine g_iload_n 3 dL_law_1448 rfl rfl ?_
    refine g_iconst dL_law_1449 rfl kic_1 ?_
    refine g_iadd dL_law_1450 rfl ?_
    refine g_scr dL_law_1451 rfl ?_
    refine g_aload_n 0 dL_law_1452 rfl rfl ?_
    refine g_iload_n 3 dL_law_1453 rfl rfl ?_
    refine g_iconst dL_law_1454 rfl kic_2 ?_
    refine g_iadd dL_law_1455 rfl ?_
    refine g_scr dL_law_1456 rfl ?_
    refine g_aload_n 0 dL_law_1457 rfl rfl ?_
    refine g_iload_n 3 dL_law_1458 rfl rfl ?_
    refine g_iconst dL_law_1459 rfl kic_3 ?_
    refine g_iadd dL_law_1460 rfl ?_
    refine g_scr dL_law_1461 rfl ?_
    refine g_aload_n 0 dL_law_1462 rfl rfl ?_
    refine g_iload_n 3 dL_law_1463 rfl rfl ?_
    refine g_iconst dL_law_1464 rfl kic_4 ?_
    refine g_iadd dL_law_1465 rfl ?_
    refine g_scr dL_law_1466 rfl ?_
    refine g_aload_n 0 dL_law_1467 rfl rfl ?_
    refine g_iload_n 3 dL_law_1468 rfl rfl ?_
    refine g_iconst dL_law_1469 rfl kic_5 ?_
    refine g_iadd dL_law_1470 rfl ?_
    refine g_scr dL_law_1471 rfl ?_
    refine g_cVIw (As := [.int (xs (nx (v3 + (1 : Int32)))), .int (xs (nx (v3 + (2 : Int32)))), .int (xs (nx (v3 + (3 : Int32)))), .int (xs (nx (v3 + (4 : Int32)))), .int (xs (nx (v3 + (5 : Int32))))]) (st := [.int c142]) 5 lF_wg rfl dL_law_1472 rfl kkX12 (by decide) rfl vX12_shift lkL_178 (lwR rfl rfl) (mo_shift_c q n (xs (nx (v3 + (1 : Int32)))) (xs (nx (v3 + (2 : Int32)))) (xs (nx (v3 + (3 : Int32)))) (xs (nx (v3 + (4 : Int32)))) (xs (nx (v3 + (5 : Int32)))) X141) rfl rfl (Nat.le_of_ble_eq_true rfl) (fun c144 X143 => ?_)
    refine g_icmp_eq dL_law_1475 rfl rfl ?_ ?_
    · refine g_inc (lv' := [(3, .int (v3 + (6 : Int32))), (0, .ref b), (1, .ref (q.ad 0)), (2, .ref (q.ad 102))]) 3 dL_law_1536 rfl rfl kic_6 (Nat.le_of_ble_eq_true rfl) rfl ?_
      refine g_goto dL_law_1539 rfl ?_
      refine g_sub [1, 2, 3, 0] rfl ?_
      exact hrec (v3 + (6 : Int32)) X143
    refine g_iconst dL_law_1478 rfl kic_0 ?_
    exact g_none
  refine g_case (z := (39 : Int32)) (fun hc => ?_) (fun hc39 => ?_)
  · refine g_tableIn hc dL_law_33 (by decide) (by decide) rfl rfl ?_
    refine g_aload_n 1 dL_law_1480 rfl rfl ?_
    refine g_aload_n 0 dL_law_1481 rfl rfl ?_
    refine g_iload_n 3 dL_law_1482 rfl rfl ?_
    refine g_iconst dL_law_1483 rfl kic_1 ?_
    refine g_iadd dL_law_1484 rfl ?_
    refine g_scr dL_law_1485 rfl ?_
    refine g_aload_n 0 dL_law_1486 rfl rfl ?_
    refine g_iload_n 3 dL_law_1487 rfl rfl ?_
    refine g_iconst dL_law_1488 rfl kic_2 ?_
    refine g_iadd dL_law_1489 rfl ?_
    refine g_scr dL_law_1490 rfl ?_
    refine g_cVIr (As := [.int (xs (nx (v3 + (1 : Int32)))), .int (xs (nx (v3 + (2 : Int32))))]) (st := []) 2 lF_wg rfl dL_law_1491 rfl kkX11 (by decide) rfl vX11_taken lkL_179 (lwR rfl rfl) (el_taken_c q (xs (nx (v3 + (1 : Int32)))) (xs (nx (v3 + (2 : Int32)))) X) rfl rfl (Nat.le_of_ble_eq_true rfl) (fun c145 => ?_)
    refine g_aload_n 2 dL_law_1494 rfl rfl ?_
    refine g_aload_n 0 dL_law_1495 rfl rfl ?_
    refine g_iload_n 3 dL_law_1496 rfl rfl ?_
    refine g_iconst dL_law_1497 rfl kic_1 ?_
    refine g_iadd dL_law_1498 rfl ?_
    refine g_scr dL_law_1499 rfl ?_
    refine g_aload_n 0 dL_law_1500 rfl rfl ?_
    refine g_iload_n 3 dL_law_1501 rfl rfl ?_
    refine g_iconst dL_law_1502 rfl kic_2 ?_
    refine g_iadd dL_law_1503 rfl ?_
    refine g_scr dL_law_1504 rfl ?_
    refine g_cVIr (As := [.int (xs (nx (v3 + (1 : Int32)))), .int (xs (nx (v3 + (2 : Int32))))]) (st := [.int c145]) 2 lF_wg rfl dL_law_1505 rfl kkX12 (by decide) rfl vX12_taken lkL_182 (lwR rfl rfl) (mo_taken_c q n (xs (nx (v3 + (1 : Int32)))) (xs (nx (v3 + (2 : Int32)))) X) rfl rfl (Nat.le_of_ble_eq_true rfl) (fun c146 => ?_)
    refine g_icmp_eq dL_law_1508 rfl rfl ?_ ?_
    · refine g_inc (lv' := [(3, .int (v3 + (6 : Int32))), (0, .ref b), (1, .ref (q.ad 0)), (2, .ref (q.ad 102))]) 3 dL_law_1536 rfl rfl kic_6 (Nat.le_of_ble_eq_true rfl) rfl ?_
      refine g_goto dL_law_1539 rfl ?_
      refine g_sub [1, 2, 3, 0] rfl ?_
      exact hrec (v3 + (6 : Int32)) X
    refine g_iconst dL_law_1511 rfl kic_0 ?_
    exact g_none
  refine g_case (z := (40 : Int32)) (fun hc => ?_) (fun hc40 => ?_)
  · refine g_tableIn hc dL_law_33 (by decide) (by decide) rfl rfl ?_
    refine g_aload_n 1 dL_law_1513 rfl rfl ?_
    refine g_aload_n 0 dL_law_1514 rfl rfl ?_
    refine g_iload_n 3 dL_law_1515 rfl rfl ?_
    refine g_iconst dL_law_1516 rfl kic_1 ?_
    refine g_iadd dL_law_1517 rfl ?_
    refine g_scr dL_law_1518 rfl ?_
    refine g_cVIt (As := [.int (xs (nx (v3 + (1 : Int32))))]) (st := []) 1 lF_wg rfl dL_law_1519 rfl kkX11 (by decide) rfl vX11_count lkL_183 (lwR rfl rfl) (el_count_c q (xs (nx (v3 + (1 : Int32)))) X) rfl rfl (Nat.le_of_ble_eq_true rfl) ?_
    refine g_aload_n 2 dL_law_1522 rfl rfl ?_
    refine g_aload_n 0 dL_law_1523 rfl rfl ?_
    refine g_iload_n 3 dL_law_1524 rfl rfl ?_
    refine g_iconst dL_law_1525 rfl kic_1 ?_
    refine g_iadd dL_law_1526 rfl ?_
    refine g_scr dL_law_1527 rfl ?_
    refine g_cVIt (As := [.int (xs (nx (v3 + (1 : Int32))))]) (st := [.int (el_count (xs (nx (v3 + (1 : Int32)))) X)]) 1 lF_wg rfl dL_law_1528 rfl kkX12 (by decide) rfl vX12_count lkL_186 (lwR rfl rfl) (mo_count_c q (xs (nx (v3 + (1 : Int32)))) X) rfl rfl (Nat.le_of_ble_eq_true rfl) ?_
    refine g_icmp_eq dL_law_1531 rfl rfl ?_ ?_
    · refine g_inc (lv' := [(3, .int (v3 + (6 : Int32))), (0, .ref b), (1, .ref (q.ad 0)), (2, .ref (q.ad 102))]) 3 dL_law_1536 rfl rfl kic_6 (Nat.le_of_ble_eq_true rfl) rfl ?_
      refine g_goto dL_law_1539 rfl ?_
      refine g_sub [1, 2, 3, 0] rfl ?_
      exact hrec (v3 + (6 : Int32)) X
    refine g_iconst dL_law_1534 rfl kic_0 ?_
    exact g_none
  refine g_tableOut dL_law_33 (by have e0 := lv_neT (a := 0) hc0 (by decide); have e1 := lv_neT (a := 1) hc1 (by decide); have e2 := lv_neT (a := 2) hc2 (by decide); have e3 := lv_neT (a := 3) hc3 (by decide); have e4 := lv_neT (a := 4) hc4 (by decide); have e5 := lv_neT (a := 5) hc5 (by decide); have e6 := lv_neT (a := 6) hc6 (by decide); have e7 := lv_neT (a := 7) hc7 (by decide); have e8 := lv_neT (a := 8) hc8 (by decide); have e9 := lv_neT (a := 9) hc9 (by decide); have e10 := lv_neT (a := 10) hc10 (by decide); have e11 := lv_neT (a := 11) hc11 (by decide); have e12 := lv_neT (a := 12) hc12 (by decide); have e13 := lv_neT (a := 13) hc13 (by decide); have e14 := lv_neT (a := 14) hc14 (by decide); have e15 := lv_neT (a := 15) hc15 (by decide); have e16 := lv_neT (a := 16) hc16 (by decide); have e17 := lv_neT (a := 17) hc17 (by decide); have e18 := lv_neT (a := 18) hc18 (by decide); have e19 := lv_neT (a := 19) hc19 (by decide); have e20 := lv_neT (a := 20) hc20 (by decide); have e21 := lv_neT (a := 21) hc21 (by decide); have e22 := lv_neT (a := 22) hc22 (by decide); have e23 := lv_neT (a := 23) hc23 (by decide); have e24 := lv_neT (a := 24) hc24 (by decide); have e25 := lv_neT (a := 25) hc25 (by decide); have e26 := lv_neT (a := 26) hc26 (by decide); have e27 := lv_neT (a := 27) hc27 (by decide); have e28 := lv_neT (a := 28) hc28 (by decide); have e29 := lv_neT (a := 29) hc29 (by decide); have e30 := lv_neT (a := 30) hc30 (by decide); have e31 := lv_neT (a := 31) hc31 (by decide); have e32 := lv_neT (a := 32) hc32 (by decide); have e33 := lv_neT (a := 33) hc33 (by decide); have e34 := lv_neT (a := 34) hc34 (by decide); have e35 := lv_neT (a := 35) hc35 (by decide); have e36 := lv_neT (a := 36) hc36 (by decide); have e37 := lv_neT (a := 37) hc37 (by decide); have e38 := lv_neT (a := 38) hc38 (by decide); have e39 := lv_neT (a := 39) hc39 (by decide); have e40 := lv_neT (a := 40) hc40 (by decide); omega) rfl ?_
  refine g_inc (lv' := [(3, .int (v3 + (6 : Int32))), (0, .ref b), (1, .ref (q.ad 0)), (2, .ref (q.ad 102))]) 3 dL_law_1536 rfl rfl kic_6 (Nat.le_of_ble_eq_true rfl) rfl ?_
  refine g_goto dL_law_1539 rfl ?_
  refine g_sub [1, 2, 3, 0] rfl ?_
  exact hrec (v3 + (6 : Int32)) X
set_option maxHeartbeats 4000000 in
theorem lawf_L18_g (q : Th) (b : Nat) (n : Nat) (xs : Nat → Int32) (L : Nat) : ∀ (w : Nat) (v3 : Int32) (X : St), G q (lF q b L xs) lphi 18 [(0, .ref b), (1, .ref (q.ad 0)), (2, .ref (q.ad 102)), (3, .int v3)] [] X (lawf_L18 n xs L w v3 X) := by
  intro w
  induction w with
  | zero => intro v3 X; exact g_none
  | succ w ih => intro v3 X; exact lawf_L18_Bg q b n xs L _ ih v3 X
theorem lawf_g (q : Th) (b : Nat) (n : Nat) (xs : Nat → Int32) (L : Nat) (X : St) : G q (lF q b L xs) lphi 16 [(0, .ref b), (1, .ref (q.ad 0)), (2, .ref (q.ad 102))] [] X (lawf n xs L X) := by
  unfold lawf
  refine g_iconst dL_law_16 rfl kic_0 ?_
  refine g_istore_n (lv' := [(3, .int (0 : Int32)), (0, .ref b), (1, .ref (q.ad 0)), (2, .ref (q.ad 102))]) dL_law_17 rfl rfl (Nat.le_of_ble_eq_true rfl) rfl ?_
  refine g_sub [1, 2, 3, 0] rfl ?_
  refine lawf_L18_g q b n xs L n (0 : Int32) X
