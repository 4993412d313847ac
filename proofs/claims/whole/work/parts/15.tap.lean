/-! 15.tap: what the methods come to, and that they do -/
def tap_length (X : St) : Int32 :=
  ((X.1 17 2))
def tap_length_o (X : St) : Option Int32 :=
  (some (X.1 17 2))
theorem tap_length_e (X : St) : tap_length_o X = some (tap_length X) := rfl
theorem tap_length_c (q : Th) (X : St) : Ct q nX8_length 0 (fir X) [.ref (q.ad 17)] X (some (tap_length X)) := by
  refine ct_of (by decide +kernel) (Nat.le_of_ble_eq_true rfl) ?_
  rw [← tap_length_e]
  unfold tap_length_o
  show G q _ _ 0 [(0, .ref (q.ad 17))] [] X _
  refine g_aload_n 0 dX8_length_0 rfl rfl ?_
  refine g_getI 17 2 rfl dX8_length_1 rfl kkX8 flX8_18 (by decide) rfl rfl (by decide) rfl ?_
  exact g_iret dX8_length_4 rfl rfl
def tap_isFull (X : St) : Int32 :=
  (if (X.1 17 2) < (120 : Int32) then
  ((0 : Int32))
  else
  ((1 : Int32)))
def tap_isFull_o (X : St) : Option Int32 :=
  (if (X.1 17 2) < (120 : Int32) then
  (some (0 : Int32))
  else
  (some (1 : Int32)))
theorem tap_isFull_e (X : St) : tap_isFull_o X = some (tap_isFull X) := by
  unfold tap_isFull_o tap_isFull
  simp only [apply_ite some]
theorem z_tap_isFull (X : St) : isZ (tap_isFull X) = true := by
  unfold tap_isFull
  (repeat' split) <;> first | rfl
theorem tap_isFull_c (q : Th) (X : St) : Ct q nX8_isFull 0 (fir X) [.ref (q.ad 17)] X (some (tap_isFull X)) := by
  refine ct_of (by decide +kernel) (Nat.le_of_ble_eq_true rfl) ?_
  rw [← tap_isFull_e]
  unfold tap_isFull_o
  show G q _ _ 0 [(0, .ref (q.ad 17))] [] X _
  refine g_aload_n 0 dX8_isFull_0 rfl rfl ?_
  refine g_getI 17 2 rfl dX8_isFull_1 rfl kkX8 flX8_18 (by decide) rfl rfl (by decide) rfl ?_
  refine g_bipush dX8_isFull_4 rfl kbi_120 ?_
  refine g_icmp_lt dX8_isFull_6 rfl rfl ?_ ?_
  · refine g_iconst dX8_isFull_13 rfl kic_0 ?_
    exact g_zret dX8_isFull_14 rfl rfl rfl
  refine g_iconst dX8_isFull_9 rfl kic_1 ?_
  refine g_goto dX8_isFull_10 rfl ?_
  exact g_zret dX8_isFull_14 rfl rfl rfl
def tap_take (v1 : Int32) (X : St) : Option (Int32 × St) :=
  (if (tap_isFull X) = 0 then
  (if inB (X.1 17 2) 120 then
  ((some (stI (stI X 18 (nx (X.1 17 2)) v1) 17 2 (((stI X 18 (nx (X.1 17 2)) v1).1 17 2) + (1 : Int32)))).bind fun X1 =>
  (some ((X1.1 17 2), X1))) else none)
  else
  (some ((X.1 17 2), X)))
theorem tap_take_c (q : Th) (v1 : Int32) (X : St) : Ct q nX8_take 1 fiw [.ref (q.ad 17), .int v1] X (tap_take v1 X) := by
  refine ct_of (by decide +kernel) (Nat.le_of_ble_eq_true rfl) ?_
  unfold tap_take
  show G q _ _ 0 [(0, .ref (q.ad 17)), (1, .int v1)] [] X _
  refine g_aload_n 0 dX8_take_0 rfl rfl ?_
  refine g_cVIt (As := []) (st := []) 0 mF_wg rfl dX8_take_1 rfl kkX8 (by decide) rfl vX8_isFull lkX8_22 (rmL rfl rfl) (tap_isFull_c q X) rfl rfl (Nat.le_of_ble_eq_true rfl) ?_
  refine g_if_ne dX8_take_4 rfl rfl ?_ ?_
  · refine g_aload_n 0 dX8_take_7 rfl rfl ?_
    refine g_getR 17 0 18 rfl dX8_take_8 rfl kkX8 flX8_9 (by decide) rfl rfl (by decide) rfl ?_
    refine g_aload_n 0 dX8_take_11 rfl rfl ?_
    refine g_getI 17 2 rfl dX8_take_12 rfl kkX8 flX8_18 (by decide) rfl rfl (by decide) rfl ?_
    refine g_iload_n 1 dX8_take_15 rfl rfl ?_
    refine g_iast dX8_take_16 rfl (by decide) rfl rfl ?_
    refine g_aload_n 0 dX8_take_17 rfl rfl ?_
    refine g_dup dX8_take_18 rfl rfl ?_
    refine g_getI 17 2 rfl dX8_take_19 rfl kkX8 flX8_18 (by decide) rfl rfl (by decide) rfl ?_
    refine g_iconst dX8_take_22 rfl kic_1 ?_
    refine g_iadd dX8_take_23 rfl ?_
    refine g_putI 17 2 rfl dX8_take_24 rfl kkX8 flX8_18 (by decide) rfl rfl (by decide) rfl rfl rfl ?_
    refine g_nmX (fun X1 => ?_)
    refine g_aload_n 0 dX8_take_27 rfl rfl ?_
    refine g_getI 17 2 rfl dX8_take_28 rfl kkX8 flX8_18 (by decide) rfl rfl (by decide) rfl ?_
    exact g_iret dX8_take_31 rfl rfl
  refine g_aload_n 0 dX8_take_27 rfl rfl ?_
  refine g_getI 17 2 rfl dX8_take_28 rfl kkX8 flX8_18 (by decide) rfl rfl (by decide) rfl ?_
  exact g_iret dX8_take_31 rfl rfl
def tap_empty (X : St) : Option (St) :=
  (some (stI X 17 2 (0 : Int32)))
theorem tap_empty_c (q : Th) (X : St) : Ct q nX8_empty 0 fvw [.ref (q.ad 17)] X (tap_empty X) := by
  refine ct_of (by decide +kernel) (Nat.le_of_ble_eq_true rfl) ?_
  unfold tap_empty
  show G q _ _ 0 [(0, .ref (q.ad 17))] [] X _
  refine g_aload_n 0 dX8_empty_0 rfl rfl ?_
  refine g_iconst dX8_empty_1 rfl kic_0 ?_
  refine g_putI 17 2 rfl dX8_empty_2 rfl kkX8 flX8_18 (by decide) rfl rfl (by decide) rfl rfl rfl ?_
  exact g_vret dX8_empty_5 rfl rfl
def tap_place (X : St) : Int32 :=
  ((X.1 17 3))
def tap_place_o (X : St) : Option Int32 :=
  (some (X.1 17 3))
theorem tap_place_e (X : St) : tap_place_o X = some (tap_place X) := rfl
theorem tap_place_c (q : Th) (X : St) : Ct q nX8_place 0 (fir X) [.ref (q.ad 17)] X (some (tap_place X)) := by
  refine ct_of (by decide +kernel) (Nat.le_of_ble_eq_true rfl) ?_
  rw [← tap_place_e]
  unfold tap_place_o
  show G q _ _ 0 [(0, .ref (q.ad 17))] [] X _
  refine g_aload_n 0 dX8_place_0 rfl rfl ?_
  refine g_getI 17 3 rfl dX8_place_1 rfl kkX8 flX8_26 (by decide) rfl rfl (by decide) rfl ?_
  exact g_iret dX8_place_4 rfl rfl
def tap_code (X : St) : Nat :=
  (19)
def tap_code_o (X : St) : Option Nat :=
  (some 19)
theorem tap_code_e (X : St) : tap_code_o X = some (tap_code X) := rfl
theorem tap_code_c (q : Th) (X : St) : Ct q nX8_code 0 (frr q X) [.ref (q.ad 17)] X (some (tap_code X)) := by
  refine ct_of (by decide +kernel) (Nat.le_of_ble_eq_true rfl) ?_
  rw [← tap_code_e]
  unfold tap_code_o
  show G q _ _ 0 [(0, .ref (q.ad 17))] [] X _
  refine g_aload_n 0 dX8_code_0 rfl rfl ?_
  refine g_getR 17 1 19 rfl dX8_code_1 rfl kkX8 flX8_15 (by decide) rfl rfl (by decide) rfl ?_
  exact g_aret dX8_code_4 rfl rfl
def tap_codes (X : St) : Int32 :=
  ((X.1 17 4))
def tap_codes_o (X : St) : Option Int32 :=
  (some (X.1 17 4))
theorem tap_codes_e (X : St) : tap_codes_o X = some (tap_codes X) := rfl
theorem tap_codes_c (q : Th) (X : St) : Ct q nX8_codes 0 (fir X) [.ref (q.ad 17)] X (some (tap_codes X)) := by
  refine ct_of (by decide +kernel) (Nat.le_of_ble_eq_true rfl) ?_
  rw [← tap_codes_e]
  unfold tap_codes_o
  show G q _ _ 0 [(0, .ref (q.ad 17))] [] X _
  refine g_aload_n 0 dX8_codes_0 rfl rfl ?_
  refine g_getI 17 4 rfl dX8_codes_1 rfl kkX8 flX8_29 (by decide) rfl rfl (by decide) rfl ?_
  exact g_iret dX8_codes_4 rfl rfl
def tap_isDigit (v0 : Int32) : Int32 :=
  (if v0 < (48 : Int32) then
  ((0 : Int32))
  else
  (if (57 : Int32) < v0 then
  ((0 : Int32))
  else
  ((1 : Int32))))
def tap_isDigit_o (v0 : Int32) : Option Int32 :=
  (if v0 < (48 : Int32) then
  (some (0 : Int32))
  else
  (if (57 : Int32) < v0 then
  (some (0 : Int32))
  else
  (some (1 : Int32))))
theorem tap_isDigit_e (v0 : Int32) : tap_isDigit_o v0 = some (tap_isDigit v0) := by
  unfold tap_isDigit_o tap_isDigit
  simp only [apply_ite some]
theorem z_tap_isDigit (v0 : Int32) : isZ (tap_isDigit v0) = true := by
  unfold tap_isDigit
  (repeat' split) <;> first | rfl
theorem tap_isDigit_c (q : Th) (v0 : Int32) (X : St) : Ct q nX8_isDigit 0 (fir X) [.int v0] X (some (tap_isDigit v0)) := by
  refine ct_of (by decide +kernel) (Nat.le_of_ble_eq_true rfl) ?_
  rw [← tap_isDigit_e]
  unfold tap_isDigit_o
  show G q _ _ 0 [(0, .int v0)] [] X _
  refine g_iload_n 0 dX8_isDigit_0 rfl rfl ?_
  refine g_bipush dX8_isDigit_1 rfl kbi_48 ?_
  refine g_icmp_lt dX8_isDigit_3 rfl rfl ?_ ?_
  · refine g_iconst dX8_isDigit_16 rfl kic_0 ?_
    exact g_zret dX8_isDigit_17 rfl rfl rfl
  refine g_iload_n 0 dX8_isDigit_6 rfl rfl ?_
  refine g_bipush dX8_isDigit_7 rfl kbi_57 ?_
  refine g_icmp_gt dX8_isDigit_9 rfl rfl ?_ ?_
  · refine g_iconst dX8_isDigit_16 rfl kic_0 ?_
    exact g_zret dX8_isDigit_17 rfl rfl rfl
  refine g_iconst dX8_isDigit_12 rfl kic_1 ?_
  refine g_goto dX8_isDigit_13 rfl ?_
  exact g_zret dX8_isDigit_17 rfl rfl rfl
def tap_takes (v1 : Int32) (X : St) : Option (Int32 × St) :=
  (if (X.1 17 3) < (X.1 17 2) then
  (if inB (X.1 17 3) 120 then
  (if (X.1 18 (nx (X.1 17 3))) = v1 then
  (some ((1 : Int32), (stI X 17 3 ((X.1 17 3) + (1 : Int32)))))
  else
  (some ((0 : Int32), X))) else none)
  else
  (some ((0 : Int32), X)))
theorem tap_takes_c (q : Th) (v1 : Int32) (X : St) : Ct q nX8_takes 0 fiw [.ref (q.ad 17), .int v1] X (tap_takes v1 X) := by
  refine ct_of (by decide +kernel) (Nat.le_of_ble_eq_true rfl) ?_
  unfold tap_takes
  show G q _ _ 0 [(0, .ref (q.ad 17)), (1, .int v1)] [] X _
  refine g_aload_n 0 dX8_takes_0 rfl rfl ?_
  refine g_getI 17 3 rfl dX8_takes_1 rfl kkX8 flX8_26 (by decide) rfl rfl (by decide) rfl ?_
  refine g_aload_n 0 dX8_takes_4 rfl rfl ?_
  refine g_getI 17 2 rfl dX8_takes_5 rfl kkX8 flX8_18 (by decide) rfl rfl (by decide) rfl ?_
  refine g_icmp_ge dX8_takes_8 rfl rfl ?_ ?_
  · refine g_aload_n 0 dX8_takes_11 rfl rfl ?_
    refine g_getR 17 0 18 rfl dX8_takes_12 rfl kkX8 flX8_9 (by decide) rfl rfl (by decide) rfl ?_
    refine g_aload_n 0 dX8_takes_15 rfl rfl ?_
    refine g_getI 17 3 rfl dX8_takes_16 rfl kkX8 flX8_26 (by decide) rfl rfl (by decide) rfl ?_
    refine g_iald dX8_takes_19 rfl (by decide) rfl rfl ?_
    refine g_iload_n 1 dX8_takes_20 rfl rfl ?_
    refine g_icmp_eq dX8_takes_21 rfl rfl ?_ ?_
    · refine g_aload_n 0 dX8_takes_26 rfl rfl ?_
      refine g_dup dX8_takes_27 rfl rfl ?_
      refine g_getI 17 3 rfl dX8_takes_28 rfl kkX8 flX8_26 (by decide) rfl rfl (by decide) rfl ?_
      refine g_iconst dX8_takes_31 rfl kic_1 ?_
      refine g_iadd dX8_takes_32 rfl ?_
      refine g_putI 17 3 rfl dX8_takes_33 rfl kkX8 flX8_26 (by decide) rfl rfl (by decide) rfl rfl rfl ?_
      refine g_iconst dX8_takes_36 rfl kic_1 ?_
      exact g_zret dX8_takes_37 rfl rfl rfl
    refine g_iconst dX8_takes_24 rfl kic_0 ?_
    exact g_zret dX8_takes_25 rfl rfl rfl
  refine g_iconst dX8_takes_24 rfl kic_0 ?_
  exact g_zret dX8_takes_25 rfl rfl rfl
def tap_write (v1 : Int32) (X : St) : Option (St) :=
  (if (X.1 17 4) < (128 : Int32) then
  (if inB (X.1 17 4) 128 then
  ((some (stI (stI X 19 (nx (X.1 17 4)) v1) 17 4 (((stI X 19 (nx (X.1 17 4)) v1).1 17 4) + (1 : Int32)))).bind fun X1 =>
  (some X1)) else none)
  else
  (some X))
theorem tap_write_c (q : Th) (v1 : Int32) (X : St) : Ct q nX8_write 0 fvw [.ref (q.ad 17), .int v1] X (tap_write v1 X) := by
  refine ct_of (by decide +kernel) (Nat.le_of_ble_eq_true rfl) ?_
  unfold tap_write
  show G q _ _ 0 [(0, .ref (q.ad 17)), (1, .int v1)] [] X _
  refine g_aload_n 0 dX8_write_0 rfl rfl ?_
  refine g_getI 17 4 rfl dX8_write_1 rfl kkX8 flX8_29 (by decide) rfl rfl (by decide) rfl ?_
  refine g_sipush dX8_write_4 rfl ksi_128 ?_
  refine g_icmp_ge dX8_write_7 rfl rfl ?_ ?_
  · refine g_aload_n 0 dX8_write_10 rfl rfl ?_
    refine g_getR 17 1 19 rfl dX8_write_11 rfl kkX8 flX8_15 (by decide) rfl rfl (by decide) rfl ?_
    refine g_aload_n 0 dX8_write_14 rfl rfl ?_
    refine g_getI 17 4 rfl dX8_write_15 rfl kkX8 flX8_29 (by decide) rfl rfl (by decide) rfl ?_
    refine g_iload_n 1 dX8_write_18 rfl rfl ?_
    refine g_iast dX8_write_19 rfl (by decide) rfl rfl ?_
    refine g_aload_n 0 dX8_write_20 rfl rfl ?_
    refine g_dup dX8_write_21 rfl rfl ?_
    refine g_getI 17 4 rfl dX8_write_22 rfl kkX8 flX8_29 (by decide) rfl rfl (by decide) rfl ?_
    refine g_iconst dX8_write_25 rfl kic_1 ?_
    refine g_iadd dX8_write_26 rfl ?_
    refine g_putI 17 4 rfl dX8_write_27 rfl kkX8 flX8_29 (by decide) rfl rfl (by decide) rfl rfl rfl ?_
    refine g_nmX (fun X1 => ?_)
    exact g_vret dX8_write_30 rfl rfl
  exact g_vret dX8_write_30 rfl rfl
def tap_writeNumber_L4_B (n : Nat) (rec : Int32 → Int32 → St → Option (St)) (v1 : Int32) (v2 : Int32) (X : St) : Option (St) :=
(if v2 < (4 : Int32) then
(if (X.1 17 3) < (X.1 17 2) then
(if inB (X.1 17 3) 120 then
(if (tap_isDigit (X.1 18 (nx (X.1 17 3)))) = 0 then
((tap_write v1 X).bind fun X1 =>
(some X1))
else
(if inB (X.1 17 3) 120 then
((some (((v1 * (10 : Int32)) + (X.1 18 (nx (X.1 17 3)))) - (48 : Int32))).bind fun t2 =>
(rec t2 (v2 + (1 : Int32)) (stI X 17 3 ((X.1 17 3) + (1 : Int32))))) else none)) else none)
else
((tap_write v1 X).bind fun X3 =>
(some X3)))
else
((tap_write v1 X).bind fun X4 =>
(some X4)))
def tap_writeNumber_L4 (n : Nat) : Nat → Int32 → Int32 → St → Option (St)
  | 0 => fun _ _ _ => none
  | w + 1 => tap_writeNumber_L4_B n (tap_writeNumber_L4 n w)
def tap_writeNumber (n : Nat) (X : St) : Option (St) :=
  (tap_writeNumber_L4 n n (0 : Int32) (0 : Int32) X)
theorem tap_writeNumber_L4_Bg (q : Th) (n : Nat) (rec : Int32 → Int32 → St → Option (St)) (hrec : ∀ v1 v2 X, G q (mF q nX8_writeNumber RX8 1) fvw 4 [(0, .ref (q.ad 17)), (1, .int v1), (2, .int v2)] [] X (rec v1 v2 X)) (v1 : Int32) (v2 : Int32) (X : St) : G q (mF q nX8_writeNumber RX8 1) fvw 4 [(0, .ref (q.ad 17)), (1, .int v1), (2, .int v2)] [] X (tap_writeNumber_L4_B n rec v1 v2 X) := by
  unfold tap_writeNumber_L4_B
  refine g_iload_n 2 dX8_writeNumber_4 rfl rfl ?_
  refine g_iconst dX8_writeNumber_5 rfl kic_4 ?_
  refine g_icmp_ge dX8_writeNumber_6 rfl rfl ?_ ?_
  · refine g_aload_n 0 dX8_writeNumber_9 rfl rfl ?_
    refine g_getI 17 3 rfl dX8_writeNumber_10 rfl kkX8 flX8_26 (by decide) rfl rfl (by decide) rfl ?_
    refine g_aload_n 0 dX8_writeNumber_13 rfl rfl ?_
    refine g_getI 17 2 rfl dX8_writeNumber_14 rfl kkX8 flX8_18 (by decide) rfl rfl (by decide) rfl ?_
    refine g_icmp_ge dX8_writeNumber_17 rfl rfl ?_ ?_
    · refine g_aload_n 0 dX8_writeNumber_20 rfl rfl ?_
      refine g_getR 17 0 18 rfl dX8_writeNumber_21 rfl kkX8 flX8_9 (by decide) rfl rfl (by decide) rfl ?_
      refine g_aload_n 0 dX8_writeNumber_24 rfl rfl ?_
      refine g_getI 17 3 rfl dX8_writeNumber_25 rfl kkX8 flX8_26 (by decide) rfl rfl (by decide) rfl ?_
      refine g_iald dX8_writeNumber_28 rfl (by decide) rfl rfl ?_
      refine g_cSIt (As := [.int (X.1 18 (nx (X.1 17 3)))]) (st := []) 1 mF_wg rfl dX8_writeNumber_29 rfl vX8_isDigit lkX8_54 (rmL rfl rfl) (tap_isDigit_c q (X.1 18 (nx (X.1 17 3))) X) rfl rfl (Nat.le_of_ble_eq_true rfl) ?_
      refine g_if_eq dX8_writeNumber_32 rfl rfl ?_ ?_
      · refine g_aload_n 0 dX8_writeNumber_69 rfl rfl ?_
        refine g_iload_n 1 dX8_writeNumber_70 rfl rfl ?_
        refine g_cVVw (As := [.int v1]) (st := []) 1 mF_wg rfl dX8_writeNumber_71 rfl kkX8 (by decide) rfl vX8_write lkX8_43 (rmL rfl rfl) (tap_write_c q v1 X) rfl rfl (Nat.le_of_ble_eq_true rfl) (fun X1 => ?_)
        exact g_vret dX8_writeNumber_74 rfl rfl
      refine g_iload_n 1 dX8_writeNumber_35 rfl rfl ?_
      refine g_bipush dX8_writeNumber_36 rfl kbi_10 ?_
      refine g_imul dX8_writeNumber_38 rfl ?_
      refine g_aload_n 0 dX8_writeNumber_39 rfl rfl ?_
      refine g_getR 17 0 18 rfl dX8_writeNumber_40 rfl kkX8 flX8_9 (by decide) rfl rfl (by decide) rfl ?_
      refine g_aload_n 0 dX8_writeNumber_43 rfl rfl ?_
      refine g_getI 17 3 rfl dX8_writeNumber_44 rfl kkX8 flX8_26 (by decide) rfl rfl (by decide) rfl ?_
      refine g_iald dX8_writeNumber_47 rfl (by decide) rfl rfl ?_
      refine g_iadd dX8_writeNumber_48 rfl ?_
      refine g_bipush dX8_writeNumber_49 rfl kbi_48 ?_
      refine g_isub dX8_writeNumber_51 rfl ?_
      refine g_nmI (fun t2 => ?_)
      refine g_istore_n (lv' := [(1, .int t2), (0, .ref (q.ad 17)), (2, .int v2)]) dX8_writeNumber_52 rfl rfl (Nat.le_of_ble_eq_true rfl) rfl ?_
      refine g_aload_n 1 dX8_writeNumber_53 rfl rfl ?_
      refine g_dup dX8_writeNumber_54 rfl rfl ?_
      refine g_getI 17 3 rfl dX8_writeNumber_55 rfl kkX8 flX8_26 (by decide) rfl rfl (by decide) rfl ?_
      refine g_iconst dX8_writeNumber_58 rfl kic_1 ?_
      refine g_iadd dX8_writeNumber_59 rfl ?_
      refine g_putI 17 3 rfl dX8_writeNumber_60 rfl kkX8 flX8_26 (by decide) rfl rfl (by decide) rfl rfl rfl ?_
      refine g_inc (lv' := [(2, .int (v2 + (1 : Int32))), (1, .int t2), (0, .ref (q.ad 17))]) 2 dX8_writeNumber_63 rfl rfl kic_1 (Nat.le_of_ble_eq_true rfl) rfl ?_
      refine g_goto dX8_writeNumber_66 rfl ?_
      refine g_sub [2, 1, 0] rfl ?_
      exact hrec t2 (v2 + (1 : Int32)) (stI X 17 3 ((X.1 17 3) + (1 : Int32)))
    refine g_aload_n 0 dX8_writeNumber_69 rfl rfl ?_
    refine g_iload_n 1 dX8_writeNumber_70 rfl rfl ?_
    refine g_cVVw (As := [.int v1]) (st := []) 1 mF_wg rfl dX8_writeNumber_71 rfl kkX8 (by decide) rfl vX8_write lkX8_43 (rmL rfl rfl) (tap_write_c q v1 X) rfl rfl (Nat.le_of_ble_eq_true rfl) (fun X3 => ?_)
    exact g_vret dX8_writeNumber_74 rfl rfl
  refine g_aload_n 0 dX8_writeNumber_69 rfl rfl ?_
  refine g_iload_n 1 dX8_writeNumber_70 rfl rfl ?_
  refine g_cVVw (As := [.int v1]) (st := []) 1 mF_wg rfl dX8_writeNumber_71 rfl kkX8 (by decide) rfl vX8_write lkX8_43 (rmL rfl rfl) (tap_write_c q v1 X) rfl rfl (Nat.le_of_ble_eq_true rfl) (fun X4 => ?_)
  exact g_vret dX8_writeNumber_74 rfl rfl
theorem tap_writeNumber_L4_g (q : Th) (n : Nat) : ∀ (w : Nat) (v1 : Int32) (v2 : Int32) (X : St), G q (mF q nX8_writeNumber RX8 1) fvw 4 [(0, .ref (q.ad 17)), (1, .int v1), (2, .int v2)] [] X (tap_writeNumber_L4 n w v1 v2 X) := by
  intro w
  induction w with
  | zero => intro v1 v2 X; exact g_none
  | succ w ih => intro v1 v2 X; exact tap_writeNumber_L4_Bg q n _ ih v1 v2 X
theorem tap_writeNumber_c (q : Th) (n : Nat) (X : St) : Ct q nX8_writeNumber 1 fvw [.ref (q.ad 17)] X (tap_writeNumber n X) := by
  refine ct_of (by decide +kernel) (Nat.le_of_ble_eq_true rfl) ?_
  unfold tap_writeNumber
  show G q _ _ 0 [(0, .ref (q.ad 17))] [] X _
  refine g_iconst dX8_writeNumber_0 rfl kic_0 ?_
  refine g_istore_n (lv' := [(1, .int (0 : Int32)), (0, .ref (q.ad 17))]) dX8_writeNumber_1 rfl rfl (Nat.le_of_ble_eq_true rfl) rfl ?_
  refine g_iconst dX8_writeNumber_2 rfl kic_0 ?_
  refine g_istore_n (lv' := [(2, .int (0 : Int32)), (1, .int (0 : Int32)), (0, .ref (q.ad 17))]) dX8_writeNumber_3 rfl rfl (Nat.le_of_ble_eq_true rfl) rfl ?_
  refine g_sub [2, 1, 0] rfl ?_
  refine tap_writeNumber_L4_g q n n (0 : Int32) (0 : Int32) X
def tap_levelOf (v0 : Int32) : Int32 :=
  (if v0 = (37 : Int32) then
  ((4 : Int32))
  else
  (if v0 = (38 : Int32) then
  ((1 : Int32))
  else
  (if v0 = (42 : Int32) then
  ((4 : Int32))
  else
  (if v0 = (43 : Int32) then
  ((3 : Int32))
  else
  (if v0 = (45 : Int32) then
  ((3 : Int32))
  else
  (if v0 = (47 : Int32) then
  ((4 : Int32))
  else
  (if v0 = (60 : Int32) then
  ((2 : Int32))
  else
  (if v0 = (61 : Int32) then
  ((2 : Int32))
  else
  (if v0 = (62 : Int32) then
  ((2 : Int32))
  else
  (if v0 = (124 : Int32) then
  ((0 : Int32))
  else
  ((-1 : Int32))))))))))))
def tap_levelOf_o (v0 : Int32) : Option Int32 :=
  (if v0 = (37 : Int32) then
  (some (4 : Int32))
  else
  (if v0 = (38 : Int32) then
  (some (1 : Int32))
  else
  (if v0 = (42 : Int32) then
  (some (4 : Int32))
  else
  (if v0 = (43 : Int32) then
  (some (3 : Int32))
  else
  (if v0 = (45 : Int32) then
  (some (3 : Int32))
  else
  (if v0 = (47 : Int32) then
  (some (4 : Int32))
  else
  (if v0 = (60 : Int32) then
  (some (2 : Int32))
  else
  (if v0 = (61 : Int32) then
  (some (2 : Int32))
  else
  (if v0 = (62 : Int32) then
  (some (2 : Int32))
  else
  (if v0 = (124 : Int32) then
  (some (0 : Int32))
  else
  (some (-1 : Int32))))))))))))
theorem tap_levelOf_e (v0 : Int32) : tap_levelOf_o v0 = some (tap_levelOf v0) := by
  unfold tap_levelOf_o tap_levelOf
  simp only [apply_ite some]
theorem tap_levelOf_c (q : Th) (v0 : Int32) (X : St) : Ct q nX8_levelOf 0 (fir X) [.int v0] X (some (tap_levelOf v0)) := by
  refine ct_of (by decide +kernel) (Nat.le_of_ble_eq_true rfl) ?_
  rw [← tap_levelOf_e]
  unfold tap_levelOf_o
  show G q _ _ 0 [(0, .int v0)] [] X _
  refine g_iload_n 0 dX8_levelOf_0 rfl rfl ?_
  refine g_case (z := (37 : Int32)) (fun hc => ?_) (fun hc0 => ?_)
  · refine g_lookup dX8_levelOf_1 (by decide) (by rw [hc] <;> rfl) rfl ?_
    refine g_iconst dX8_levelOf_100 rfl kic_4 ?_
    exact g_iret dX8_levelOf_101 rfl rfl
  refine g_case (z := (38 : Int32)) (fun hc => ?_) (fun hc1 => ?_)
  · refine g_lookup dX8_levelOf_1 (by decide) (by rw [hc] <;> rfl) rfl ?_
    refine g_iconst dX8_levelOf_94 rfl kic_1 ?_
    exact g_iret dX8_levelOf_95 rfl rfl
  refine g_case (z := (42 : Int32)) (fun hc => ?_) (fun hc2 => ?_)
  · refine g_lookup dX8_levelOf_1 (by decide) (by rw [hc] <;> rfl) rfl ?_
    refine g_iconst dX8_levelOf_100 rfl kic_4 ?_
    exact g_iret dX8_levelOf_101 rfl rfl
  refine g_case (z := (43 : Int32)) (fun hc => ?_) (fun hc3 => ?_)
  · refine g_lookup dX8_levelOf_1 (by decide) (by rw [hc] <;> rfl) rfl ?_
    refine g_iconst dX8_levelOf_98 rfl kic_3 ?_
    exact g_iret dX8_levelOf_99 rfl rfl
  refine g_case (z := (45 : Int32)) (fun hc => ?_) (fun hc4 => ?_)
  · refine g_lookup dX8_levelOf_1 (by decide) (by rw [hc] <;> rfl) rfl ?_
    refine g_iconst dX8_levelOf_98 rfl kic_3 ?_
    exact g_iret dX8_levelOf_99 rfl rfl
  refine g_case (z := (47 : Int32)) (fun hc => ?_) (fun hc5 => ?_)
  · refine g_lookup dX8_levelOf_1 (by decide) (by rw [hc] <;> rfl) rfl ?_
    refine g_iconst dX8_levelOf_100 rfl kic_4 ?_
    exact g_iret dX8_levelOf_101 rfl rfl
  refine g_case (z := (60 : Int32)) (fun hc => ?_) (fun hc6 => ?_)
  · refine g_lookup dX8_levelOf_1 (by decide) (by rw [hc] <;> rfl) rfl ?_
    refine g_iconst dX8_levelOf_96 rfl kic_2 ?_
    exact g_iret dX8_levelOf_97 rfl rfl
  refine g_case (z := (61 : Int32)) (fun hc => ?_) (fun hc7 => ?_)
  · refine g_lookup dX8_levelOf_1 (by decide) (by rw [hc] <;> rfl) rfl ?_
    refine g_iconst dX8_levelOf_96 rfl kic_2 ?_
    exact g_iret dX8_levelOf_97 rfl rfl
  refine g_case (z := (62 : Int32)) (fun hc => ?_) (fun hc8 => ?_)
  · refine g_lookup dX8_levelOf_1 (by decide) (by rw [hc] <;> rfl) rfl ?_
    refine g_iconst dX8_levelOf_96 rfl kic_2 ?_
    exact g_iret dX8_levelOf_97 rfl rfl
  refine g_case (z := (124 : Int32)) (fun hc => ?_) (fun hc9 => ?_)
  · refine g_lookup dX8_levelOf_1 (by decide) (by rw [hc] <;> rfl) rfl ?_
    refine g_iconst dX8_levelOf_92 rfl kic_0 ?_
    exact g_iret dX8_levelOf_93 rfl rfl
  refine g_lookup dX8_levelOf_1 (by decide) (by show Op.lookupswitch.offset [(37, 99), (38, 93), (42, 99), (43, 97), (45, 97), (47, 99), (60, 95), (61, 95), (62, 95), (124, 91)] (101) _ = 101; rw [lv_osw hc0 (by decide), lv_osw hc1 (by decide), lv_osw hc2 (by decide), lv_osw hc3 (by decide), lv_osw hc4 (by decide), lv_osw hc5 (by decide), lv_osw hc6 (by decide), lv_osw hc7 (by decide), lv_osw hc8 (by decide), lv_osw hc9 (by decide)]; rfl) rfl ?_
  refine g_iconst dX8_levelOf_102 rfl kic_m1 ?_
  exact g_iret dX8_levelOf_103 rfl rfl
def tap_isLevel_L26_B (C : Nat → Int32 → Int32 → St → Option (Int32 × St)) (n : Nat) (rec : Int32 → Int32 → Int32 → St → Option (Int32 × St)) (v1 : Int32) (v2 : Int32) (v3 : Int32) (X : St) : Option (Int32 × St) :=
(if v3 < (120 : Int32) then
(if (X.1 17 3) < (X.1 17 2) then
(if inB (X.1 17 3) 120 then
(if (tap_levelOf (X.1 18 (nx (X.1 17 3)))) = v1 then
(if inB (X.1 17 3) 120 then
((C 0 (v1 + (1 : Int32)) v2 (stI X 17 3 ((X.1 17 3) + (1 : Int32)))).bind fun (c4, X3) =>
(if c4 = 0 then
(some ((0 : Int32), X3))
else
((tap_write (-(X.1 18 (nx (X.1 17 3)))) X3).bind fun X5 =>
(if v1 = (2 : Int32) then
(some ((1 : Int32), X5))
else
(rec v1 v2 (v3 + (1 : Int32)) X5))))) else none)
else
(some ((1 : Int32), X))) else none)
else
(some ((1 : Int32), X)))
else
(some ((1 : Int32), X)))
def tap_isLevel_L26 (C : Nat → Int32 → Int32 → St → Option (Int32 × St)) (n : Nat) : Nat → Int32 → Int32 → Int32 → St → Option (Int32 × St)
  | 0 => fun _ _ _ _ => none
  | w + 1 => tap_isLevel_L26_B C n (tap_isLevel_L26 C n w)
def tap_isLevel_G (C : Nat → Int32 → Int32 → St → Option (Int32 × St)) (n : Nat) (v1 : Int32) (v2 : Int32) (X : St) : Option (Int32 × St) :=
  (if v1 < (5 : Int32) then
  ((C 0 (v1 + (1 : Int32)) v2 X).bind fun (c2, X1) =>
  (if c2 = 0 then
  (some ((0 : Int32), X1))
  else
  (tap_isLevel_L26 C n n v1 v2 (0 : Int32) X1)))
  else
  ((C 1 v2 0 X).bind fun (c7, X6) =>
  (if isZ c7 then (some (c7, X6)) else none)))
theorem tap_isLevel_L26_Bg (q : Th) (C : Nat → Int32 → Int32 → St → Option (Int32 × St)) (Dg : Nat) (hDg : 9 ≤ Dg) (hC0 : ∀ a0 a1 X, Ct q nX8_isLevel Dg fiw [.ref (q.ad 17), .int a0, .int a1] X (C 0 a0 a1 X)) (hC1 : ∀ a0 X, Ct q nX8_isFactor Dg fiw [.ref (q.ad 17), .int a0] X (C 1 a0 0 X)) (hC2 : ∀ a0 a1 X, Ct q nX8_isOpened Dg fiw [.ref (q.ad 17), .int a0, .int a1] X (C 2 a0 a1 X)) (n : Nat) (rec : Int32 → Int32 → Int32 → St → Option (Int32 × St)) (hrec : ∀ v1 v2 v3 X, G q (mF q nX8_isLevel RX8 (Dg + 1)) fiw 26 [(0, .ref (q.ad 17)), (1, .int v1), (2, .int v2), (3, .int v3)] [] X (rec v1 v2 v3 X)) (v1 : Int32) (v2 : Int32) (v3 : Int32) (X : St) : G q (mF q nX8_isLevel RX8 (Dg + 1)) fiw 26 [(0, .ref (q.ad 17)), (1, .int v1), (2, .int v2), (3, .int v3)] [] X (tap_isLevel_L26_B C n rec v1 v2 v3 X) := by
  unfold tap_isLevel_L26_B
  refine g_iload_n 3 dX8_isLevel_26 rfl rfl ?_
  refine g_bipush dX8_isLevel_27 rfl kbi_120 ?_
  refine g_icmp_ge dX8_isLevel_29 rfl rfl ?_ ?_
  · refine g_aload_n 0 dX8_isLevel_32 rfl rfl ?_
    refine g_getI 17 3 rfl dX8_isLevel_33 rfl kkX8 flX8_26 (by decide) rfl rfl (by decide) rfl ?_
    refine g_aload_n 0 dX8_isLevel_36 rfl rfl ?_
    refine g_getI 17 2 rfl dX8_isLevel_37 rfl kkX8 flX8_18 (by decide) rfl rfl (by decide) rfl ?_
    refine g_icmp_ge dX8_isLevel_40 rfl rfl ?_ ?_
    · refine g_aload_n 0 dX8_isLevel_43 rfl rfl ?_
      refine g_getR 17 0 18 rfl dX8_isLevel_44 rfl kkX8 flX8_9 (by decide) rfl rfl (by decide) rfl ?_
      refine g_aload_n 0 dX8_isLevel_47 rfl rfl ?_
      refine g_getI 17 3 rfl dX8_isLevel_48 rfl kkX8 flX8_26 (by decide) rfl rfl (by decide) rfl ?_
      refine g_iald dX8_isLevel_51 rfl (by decide) rfl rfl ?_
      refine g_cSIt (As := [.int (X.1 18 (nx (X.1 17 3)))]) (st := []) 1 mF_wg rfl dX8_isLevel_52 rfl vX8_levelOf lkX8_50 (rmB (b := 9) (by decide) (by decide) (by omega)) (tap_levelOf_c q (X.1 18 (nx (X.1 17 3))) X) rfl rfl (Nat.le_of_ble_eq_true rfl) ?_
      refine g_iload_n 1 dX8_isLevel_55 rfl rfl ?_
      refine g_icmp_ne dX8_isLevel_56 rfl rfl ?_ ?_
      · refine g_aload_n 0 dX8_isLevel_59 rfl rfl ?_
        refine g_getR 17 0 18 rfl dX8_isLevel_60 rfl kkX8 flX8_9 (by decide) rfl rfl (by decide) rfl ?_
        refine g_aload_n 0 dX8_isLevel_63 rfl rfl ?_
        refine g_getI 17 3 rfl dX8_isLevel_64 rfl kkX8 flX8_26 (by decide) rfl rfl (by decide) rfl ?_
        refine g_iald dX8_isLevel_67 rfl (by decide) rfl rfl ?_
        refine g_istore (lv' := [(4, .int (X.1 18 (nx (X.1 17 3)))), (0, .ref (q.ad 17)), (1, .int v1), (2, .int v2), (3, .int v3)]) dX8_isLevel_68 rfl (Nat.le_of_ble_eq_true rfl) rfl ?_
        refine g_aload_n 1 dX8_isLevel_70 rfl rfl ?_
        refine g_dup dX8_isLevel_71 rfl rfl ?_
        refine g_getI 17 3 rfl dX8_isLevel_72 rfl kkX8 flX8_26 (by decide) rfl rfl (by decide) rfl ?_
        refine g_iconst dX8_isLevel_75 rfl kic_1 ?_
        refine g_iadd dX8_isLevel_76 rfl ?_
        refine g_putI 17 3 rfl dX8_isLevel_77 rfl kkX8 flX8_26 (by decide) rfl rfl (by decide) rfl rfl rfl ?_
        refine g_aload_n 1 dX8_isLevel_80 rfl rfl ?_
        refine g_iload_n 2 dX8_isLevel_81 rfl rfl ?_
        refine g_iconst dX8_isLevel_82 rfl kic_1 ?_
        refine g_iadd dX8_isLevel_83 rfl ?_
        refine g_iload_n 3 dX8_isLevel_84 rfl rfl ?_
        refine g_cVIw (As := [.int (v1 + (1 : Int32)), .int v2]) (st := []) 2 mF_wg rfl dX8_isLevel_85 rfl kkX8 (by decide) rfl vX8_isLevel lkX8_39 (rmS rfl) (hC0 (v1 + (1 : Int32)) v2 (stI X 17 3 ((X.1 17 3) + (1 : Int32)))) rfl rfl (Nat.le_of_ble_eq_true rfl) (fun c4 X3 => ?_)
        refine g_if_ne dX8_isLevel_88 rfl rfl ?_ ?_
        · refine g_iconst dX8_isLevel_91 rfl kic_0 ?_
          exact g_zret dX8_isLevel_92 rfl rfl rfl
        refine g_aload_n 1 dX8_isLevel_93 rfl rfl ?_
        refine g_iload 0 dX8_isLevel_94 rfl rfl ?_
        refine g_ineg dX8_isLevel_96 rfl ?_
        refine g_cVVw (As := [.int (-(X.1 18 (nx (X.1 17 3))))]) (st := []) 1 mF_wg rfl dX8_isLevel_97 rfl kkX8 (by decide) rfl vX8_write lkX8_43 (rmB (b := 9) (by decide) (by decide) (by omega)) (tap_write_c q (-(X.1 18 (nx (X.1 17 3)))) X3) rfl rfl (Nat.le_of_ble_eq_true rfl) (fun X5 => ?_)
        refine g_iload_n 2 dX8_isLevel_100 rfl rfl ?_
        refine g_iconst dX8_isLevel_101 rfl kic_2 ?_
        refine g_icmp_ne dX8_isLevel_102 rfl rfl ?_ ?_
        · refine g_iconst dX8_isLevel_105 rfl kic_1 ?_
          exact g_zret dX8_isLevel_106 rfl rfl rfl
        refine g_inc (lv' := [(3, .int (v3 + (1 : Int32))), (4, .int (X.1 18 (nx (X.1 17 3)))), (0, .ref (q.ad 17)), (1, .int v1), (2, .int v2)]) 4 dX8_isLevel_107 rfl rfl kic_1 (Nat.le_of_ble_eq_true rfl) rfl ?_
        refine g_goto dX8_isLevel_110 rfl ?_
        refine g_sub [2, 3, 4, 0] rfl ?_
        exact hrec v1 v2 (v3 + (1 : Int32)) X5
      refine g_iconst dX8_isLevel_113 rfl kic_1 ?_
      exact g_zret dX8_isLevel_114 rfl rfl rfl
    refine g_iconst dX8_isLevel_113 rfl kic_1 ?_
    exact g_zret dX8_isLevel_114 rfl rfl rfl
  refine g_iconst dX8_isLevel_113 rfl kic_1 ?_
  exact g_zret dX8_isLevel_114 rfl rfl rfl
theorem tap_isLevel_L26_g (q : Th) (C : Nat → Int32 → Int32 → St → Option (Int32 × St)) (Dg : Nat) (hDg : 9 ≤ Dg) (hC0 : ∀ a0 a1 X, Ct q nX8_isLevel Dg fiw [.ref (q.ad 17), .int a0, .int a1] X (C 0 a0 a1 X)) (hC1 : ∀ a0 X, Ct q nX8_isFactor Dg fiw [.ref (q.ad 17), .int a0] X (C 1 a0 0 X)) (hC2 : ∀ a0 a1 X, Ct q nX8_isOpened Dg fiw [.ref (q.ad 17), .int a0, .int a1] X (C 2 a0 a1 X)) (n : Nat) : ∀ (w : Nat) (v1 : Int32) (v2 : Int32) (v3 : Int32) (X : St), G q (mF q nX8_isLevel RX8 (Dg + 1)) fiw 26 [(0, .ref (q.ad 17)), (1, .int v1), (2, .int v2), (3, .int v3)] [] X (tap_isLevel_L26 C n w v1 v2 v3 X) := by
  intro w
  induction w with
  | zero => intro v1 v2 v3 X; exact g_none
  | succ w ih => intro v1 v2 v3 X; exact tap_isLevel_L26_Bg q C Dg hDg hC0 hC1 hC2 n _ ih v1 v2 v3 X
theorem tap_isLevel_gc (q : Th) (C : Nat → Int32 → Int32 → St → Option (Int32 × St)) (Dg : Nat) (hDg : 9 ≤ Dg) (hC0 : ∀ a0 a1 X, Ct q nX8_isLevel Dg fiw [.ref (q.ad 17), .int a0, .int a1] X (C 0 a0 a1 X)) (hC1 : ∀ a0 X, Ct q nX8_isFactor Dg fiw [.ref (q.ad 17), .int a0] X (C 1 a0 0 X)) (hC2 : ∀ a0 a1 X, Ct q nX8_isOpened Dg fiw [.ref (q.ad 17), .int a0, .int a1] X (C 2 a0 a1 X)) (n : Nat) (v1 : Int32) (v2 : Int32) (X : St) : Ct q nX8_isLevel (Dg + 1) fiw [.ref (q.ad 17), .int v1, .int v2] X (tap_isLevel_G C n v1 v2 X) := by
  refine ct_of (by decide +kernel) (Nat.le_of_ble_eq_true rfl) ?_
  unfold tap_isLevel_G
  show G q _ _ 0 [(0, .ref (q.ad 17)), (1, .int v1), (2, .int v2)] [] X _
  refine g_iload_n 1 dX8_isLevel_0 rfl rfl ?_
  refine g_iconst dX8_isLevel_1 rfl kic_5 ?_
  refine g_icmp_lt dX8_isLevel_2 rfl rfl ?_ ?_
  · refine g_aload_n 0 dX8_isLevel_11 rfl rfl ?_
    refine g_iload_n 1 dX8_isLevel_12 rfl rfl ?_
    refine g_iconst dX8_isLevel_13 rfl kic_1 ?_
    refine g_iadd dX8_isLevel_14 rfl ?_
    refine g_iload_n 2 dX8_isLevel_15 rfl rfl ?_
    refine g_cVIw (As := [.int (v1 + (1 : Int32)), .int v2]) (st := []) 2 mF_wg rfl dX8_isLevel_16 rfl kkX8 (by decide) rfl vX8_isLevel lkX8_39 (rmS rfl) (hC0 (v1 + (1 : Int32)) v2 X) rfl rfl (Nat.le_of_ble_eq_true rfl) (fun c2 X1 => ?_)
    refine g_if_ne dX8_isLevel_19 rfl rfl ?_ ?_
    · refine g_iconst dX8_isLevel_22 rfl kic_0 ?_
      exact g_zret dX8_isLevel_23 rfl rfl rfl
    refine g_iconst dX8_isLevel_24 rfl kic_0 ?_
    refine g_istore_n (lv' := [(3, .int (0 : Int32)), (0, .ref (q.ad 17)), (1, .int v1), (2, .int v2)]) dX8_isLevel_25 rfl rfl (Nat.le_of_ble_eq_true rfl) rfl ?_
    refine g_sub [1, 2, 3, 0] rfl ?_
    refine tap_isLevel_L26_g q C Dg hDg hC0 hC1 hC2 n n v1 v2 (0 : Int32) X1
  refine g_aload_n 0 dX8_isLevel_5 rfl rfl ?_
  refine g_iload_n 2 dX8_isLevel_6 rfl rfl ?_
  refine g_cVIw (As := [.int v2]) (st := []) 1 mF_wg rfl dX8_isLevel_7 rfl kkX8 (by decide) rfl vX8_isFactor lkX8_47 (rmS rfl) (hC1 v2 X) rfl rfl (Nat.le_of_ble_eq_true rfl) (fun c7 X6 => ?_)
  exact g_zretD dX8_isLevel_10 rfl rfl
def tap_isFactor_G (C : Nat → Int32 → Int32 → St → Option (Int32 × St)) (n : Nat) (v1 : Int32) (X : St) : Option (Int32 × St) :=
  (if (X.1 17 3) < (X.1 17 2) then
  (if inB (X.1 17 3) 120 then
  (if (tap_isDigit (X.1 18 (nx (X.1 17 3)))) = 0 then
  ((some (nameIx (jch (X.1 18 (nx (X.1 17 3)))))).bind fun t1 =>
  (if t1 < 0 then
  (if v1 < (6 : Int32) then
  ((C 2 (X.1 18 (nx (X.1 17 3))) (v1 + (1 : Int32)) X).bind fun (c3, X2) =>
  (if c3 = 0 then
  (some ((0 : Int32), X2))
  else
  (some ((1 : Int32), X2))))
  else
  (some ((0 : Int32), X)))
  else
  ((tap_write ((-1 : Int32) - t1) (stI X 17 3 ((X.1 17 3) + (1 : Int32)))).bind fun X4 =>
  (some ((1 : Int32), X4)))))
  else
  ((tap_writeNumber n X).bind fun X5 =>
  (some ((1 : Int32), X5)))) else none)
  else
  (some ((0 : Int32), X)))
theorem tap_isFactor_gc (q : Th) (C : Nat → Int32 → Int32 → St → Option (Int32 × St)) (Dg : Nat) (hDg : 9 ≤ Dg) (hC0 : ∀ a0 a1 X, Ct q nX8_isLevel Dg fiw [.ref (q.ad 17), .int a0, .int a1] X (C 0 a0 a1 X)) (hC1 : ∀ a0 X, Ct q nX8_isFactor Dg fiw [.ref (q.ad 17), .int a0] X (C 1 a0 0 X)) (hC2 : ∀ a0 a1 X, Ct q nX8_isOpened Dg fiw [.ref (q.ad 17), .int a0, .int a1] X (C 2 a0 a1 X)) (n : Nat) (v1 : Int32) (X : St) : Ct q nX8_isFactor (Dg + 1) fiw [.ref (q.ad 17), .int v1] X (tap_isFactor_G C n v1 X) := by
  refine ct_of (by decide +kernel) (Nat.le_of_ble_eq_true rfl) ?_
  unfold tap_isFactor_G
  show G q _ _ 0 [(0, .ref (q.ad 17)), (1, .int v1)] [] X _
  refine g_aload_n 0 dX8_isFactor_0 rfl rfl ?_
  refine g_getI 17 3 rfl dX8_isFactor_1 rfl kkX8 flX8_26 (by decide) rfl rfl (by decide) rfl ?_
  refine g_aload_n 0 dX8_isFactor_4 rfl rfl ?_
  refine g_getI 17 2 rfl dX8_isFactor_5 rfl kkX8 flX8_18 (by decide) rfl rfl (by decide) rfl ?_
  refine g_icmp_lt dX8_isFactor_8 rfl rfl ?_ ?_
  · refine g_aload_n 0 dX8_isFactor_13 rfl rfl ?_
    refine g_getR 17 0 18 rfl dX8_isFactor_14 rfl kkX8 flX8_9 (by decide) rfl rfl (by decide) rfl ?_
    refine g_aload_n 0 dX8_isFactor_17 rfl rfl ?_
    refine g_getI 17 3 rfl dX8_isFactor_18 rfl kkX8 flX8_26 (by decide) rfl rfl (by decide) rfl ?_
    refine g_iald dX8_isFactor_21 rfl (by decide) rfl rfl ?_
    refine g_istore_n (lv' := [(2, .int (X.1 18 (nx (X.1 17 3)))), (0, .ref (q.ad 17)), (1, .int v1)]) dX8_isFactor_22 rfl rfl (Nat.le_of_ble_eq_true rfl) rfl ?_
    refine g_iload_n 0 dX8_isFactor_23 rfl rfl ?_
    refine g_cSIt (As := [.int (X.1 18 (nx (X.1 17 3)))]) (st := []) 1 mF_wg rfl dX8_isFactor_24 rfl vX8_isDigit lkX8_54 (rmB (b := 9) (by decide) (by decide) (by omega)) (tap_isDigit_c q (X.1 18 (nx (X.1 17 3))) X) rfl rfl (Nat.le_of_ble_eq_true rfl) ?_
    refine g_if_eq dX8_isFactor_27 rfl rfl ?_ ?_
    · refine g_ldcs rfl dX8_isFactor_36 rfl rfl ?_
      refine g_iload_n 0 dX8_isFactor_38 rfl rfl ?_
      refine g_i2c dX8_isFactor_39 rfl ?_
      refine g_ixs (st := []) rfl dX8_isFactor_40 rfl lkX8_62 mF_wg (ixB (by omega)) (Nat.le_of_ble_eq_true rfl) ?_
      refine g_nmI (fun t1 => ?_)
      refine g_istore_n (lv' := [(3, .int t1), (2, .int (X.1 18 (nx (X.1 17 3)))), (0, .ref (q.ad 17)), (1, .int v1)]) dX8_isFactor_43 rfl rfl (Nat.le_of_ble_eq_true rfl) rfl ?_
      refine g_iload_n 0 dX8_isFactor_44 rfl rfl ?_
      refine g_if_lt dX8_isFactor_45 rfl rfl ?_ ?_
      · refine g_iload_n 3 dX8_isFactor_67 rfl rfl ?_
        refine g_bipush dX8_isFactor_68 rfl kbi_6 ?_
        refine g_icmp_ge dX8_isFactor_70 rfl rfl ?_ ?_
        · refine g_aload_n 2 dX8_isFactor_73 rfl rfl ?_
          refine g_iload_n 1 dX8_isFactor_74 rfl rfl ?_
          refine g_iload_n 3 dX8_isFactor_75 rfl rfl ?_
          refine g_iconst dX8_isFactor_76 rfl kic_1 ?_
          refine g_iadd dX8_isFactor_77 rfl ?_
          refine g_cVIw (As := [.int (X.1 18 (nx (X.1 17 3))), .int (v1 + (1 : Int32))]) (st := []) 2 mF_wg rfl dX8_isFactor_78 rfl kkX8 (by decide) rfl vX8_isOpened lkX8_67 (rmS rfl) (hC2 (X.1 18 (nx (X.1 17 3))) (v1 + (1 : Int32)) X) rfl rfl (Nat.le_of_ble_eq_true rfl) (fun c3 X2 => ?_)
          refine g_if_eq dX8_isFactor_81 rfl rfl ?_ ?_
          · refine g_iconst dX8_isFactor_88 rfl kic_0 ?_
            exact g_zret dX8_isFactor_89 rfl rfl rfl
          refine g_iconst dX8_isFactor_84 rfl kic_1 ?_
          refine g_goto dX8_isFactor_85 rfl ?_
          exact g_zret dX8_isFactor_89 rfl rfl rfl
        refine g_iconst dX8_isFactor_88 rfl kic_0 ?_
        exact g_zret dX8_isFactor_89 rfl rfl rfl
      refine g_aload_n 2 dX8_isFactor_48 rfl rfl ?_
      refine g_dup dX8_isFactor_49 rfl rfl ?_
      refine g_getI 17 3 rfl dX8_isFactor_50 rfl kkX8 flX8_26 (by decide) rfl rfl (by decide) rfl ?_
      refine g_iconst dX8_isFactor_53 rfl kic_1 ?_
      refine g_iadd dX8_isFactor_54 rfl ?_
      refine g_putI 17 3 rfl dX8_isFactor_55 rfl kkX8 flX8_26 (by decide) rfl rfl (by decide) rfl rfl rfl ?_
      refine g_aload_n 2 dX8_isFactor_58 rfl rfl ?_
      refine g_iconst dX8_isFactor_59 rfl kic_m1 ?_
      refine g_iload_n 0 dX8_isFactor_60 rfl rfl ?_
      refine g_isub dX8_isFactor_61 rfl ?_
      refine g_cVVw (As := [.int ((-1 : Int32) - t1)]) (st := []) 1 mF_wg rfl dX8_isFactor_62 rfl kkX8 (by decide) rfl vX8_write lkX8_43 (rmB (b := 9) (by decide) (by decide) (by omega)) (tap_write_c q ((-1 : Int32) - t1) (stI X 17 3 ((X.1 17 3) + (1 : Int32)))) rfl rfl (Nat.le_of_ble_eq_true rfl) (fun X4 => ?_)
      refine g_iconst dX8_isFactor_65 rfl kic_1 ?_
      exact g_zret dX8_isFactor_66 rfl rfl rfl
    refine g_aload_n 1 dX8_isFactor_30 rfl rfl ?_
    refine g_cVVw (As := []) (st := []) 0 mF_wg rfl dX8_isFactor_31 rfl kkX8 (by decide) rfl vX8_writeNumber lkX8_57 (rmB (b := 9) (by decide) (by decide) (by omega)) (tap_writeNumber_c q n X) rfl rfl (Nat.le_of_ble_eq_true rfl) (fun X5 => ?_)
    refine g_iconst dX8_isFactor_34 rfl kic_1 ?_
    exact g_zret dX8_isFactor_35 rfl rfl rfl
  refine g_iconst dX8_isFactor_11 rfl kic_0 ?_
  exact g_zret dX8_isFactor_12 rfl rfl rfl
def tap_isOpened_J20 (C : Nat → Int32 → Int32 → St → Option (Int32 × St)) (n : Nat) (v1 : Int32) (v2 : Int32) (X : St) : Option (Int32 × St) :=
(if v1 = (40 : Int32) then
((C 0 (0 : Int32) v2 (stI X 17 3 ((X.1 17 3) + (1 : Int32)))).bind fun (c2, X1) =>
(if c2 = 0 then
(some ((0 : Int32), X1))
else
((tap_takes (41 : Int32) X1).bind fun (c4, X3) =>
(if c4 = 0 then
(some ((0 : Int32), X3))
else
(some ((1 : Int32), X3))))))
else
((C 1 v2 0 (stI X 17 3 ((X.1 17 3) + (1 : Int32)))).bind fun (c6, X5) =>
(if c6 = 0 then
(some ((0 : Int32), X5))
else
(if v1 = (33 : Int32) then
((tap_write (-33 : Int32) X5).bind fun X7 =>
(some ((1 : Int32), X7)))
else
((tap_write (-126 : Int32) X5).bind fun X8 =>
(some ((1 : Int32), X8)))))))
def tap_isOpened_G (C : Nat → Int32 → Int32 → St → Option (Int32 × St)) (n : Nat) (v1 : Int32) (v2 : Int32) (X : St) : Option (Int32 × St) :=
  (if v1 = (40 : Int32) then
  (tap_isOpened_J20 C n v1 v2 X)
  else
  (if v1 = (33 : Int32) then
  (tap_isOpened_J20 C n v1 v2 X)
  else
  (if v1 = (45 : Int32) then
  (tap_isOpened_J20 C n v1 v2 X)
  else
  (some ((0 : Int32), X)))))
def tap_isLevel_grp (n : Nat) : Nat → Nat → Int32 → Int32 → St → Option (Int32 × St)
  | 0 => fun _ _ _ _ => none
  | d + 1 => fun j a0 a1 X => if j = 0 then tap_isLevel_G (tap_isLevel_grp n d) n a0 a1 X else if j = 1 then tap_isFactor_G (tap_isLevel_grp n d) n a0 X else tap_isOpened_G (tap_isLevel_grp n d) n a0 a1 X
def tap_isLevel (n : Nat) (v1 : Int32) (v2 : Int32) (X : St) : Option (Int32 × St) := tap_isLevel_grp n DEP 0 v1 v2 X
def tap_isFactor (n : Nat) (v1 : Int32) (X : St) : Option (Int32 × St) := tap_isLevel_grp n DEP 1 v1 0 X
def tap_isOpened (n : Nat) (v1 : Int32) (v2 : Int32) (X : St) : Option (Int32 × St) := tap_isLevel_grp n DEP 2 v1 v2 X
theorem tap_isOpened_J20_g (q : Th) (C : Nat → Int32 → Int32 → St → Option (Int32 × St)) (Dg : Nat) (hDg : 9 ≤ Dg) (hC0 : ∀ a0 a1 X, Ct q nX8_isLevel Dg fiw [.ref (q.ad 17), .int a0, .int a1] X (C 0 a0 a1 X)) (hC1 : ∀ a0 X, Ct q nX8_isFactor Dg fiw [.ref (q.ad 17), .int a0] X (C 1 a0 0 X)) (hC2 : ∀ a0 a1 X, Ct q nX8_isOpened Dg fiw [.ref (q.ad 17), .int a0, .int a1] X (C 2 a0 a1 X)) (n : Nat) (v1 : Int32) (v2 : Int32) (X : St) : G q (mF q nX8_isOpened RX8 (Dg + 1)) fiw 20 [(0, .ref (q.ad 17)), (1, .int v1), (2, .int v2)] [] X (tap_isOpened_J20 C n v1 v2 X) := by
  unfold tap_isOpened_J20
  refine g_aload_n 0 dX8_isOpened_20 rfl rfl ?_
  refine g_dup dX8_isOpened_21 rfl rfl ?_
  refine g_getI 17 3 rfl dX8_isOpened_22 rfl kkX8 flX8_26 (by decide) rfl rfl (by decide) rfl ?_
  refine g_iconst dX8_isOpened_25 rfl kic_1 ?_
  refine g_iadd dX8_isOpened_26 rfl ?_
  refine g_putI 17 3 rfl dX8_isOpened_27 rfl kkX8 flX8_26 (by decide) rfl rfl (by decide) rfl rfl rfl ?_
  refine g_iload_n 1 dX8_isOpened_30 rfl rfl ?_
  refine g_bipush dX8_isOpened_31 rfl kbi_40 ?_
  refine g_icmp_ne dX8_isOpened_33 rfl rfl ?_ ?_
  · refine g_aload_n 0 dX8_isOpened_36 rfl rfl ?_
    refine g_iconst dX8_isOpened_37 rfl kic_0 ?_
    refine g_iload_n 2 dX8_isOpened_38 rfl rfl ?_
    refine g_cVIw (As := [.int (0 : Int32), .int v2]) (st := []) 2 mF_wg rfl dX8_isOpened_39 rfl kkX8 (by decide) rfl vX8_isLevel lkX8_39 (rmS rfl) (hC0 (0 : Int32) v2 (stI X 17 3 ((X.1 17 3) + (1 : Int32)))) rfl rfl (Nat.le_of_ble_eq_true rfl) (fun c2 X1 => ?_)
    refine g_if_eq dX8_isOpened_42 rfl rfl ?_ ?_
    · refine g_iconst dX8_isOpened_58 rfl kic_0 ?_
      exact g_zret dX8_isOpened_59 rfl rfl rfl
    refine g_aload_n 0 dX8_isOpened_45 rfl rfl ?_
    refine g_bipush dX8_isOpened_46 rfl kbi_41 ?_
    refine g_cVIw (As := [.int (41 : Int32)]) (st := []) 1 mF_wg rfl dX8_isOpened_48 rfl kkX8 (by decide) rfl vX8_takes lkX8_35 (rmB (b := 9) (by decide) (by decide) (by omega)) (tap_takes_c q (41 : Int32) X1) rfl rfl (Nat.le_of_ble_eq_true rfl) (fun c4 X3 => ?_)
    refine g_if_eq dX8_isOpened_51 rfl rfl ?_ ?_
    · refine g_iconst dX8_isOpened_58 rfl kic_0 ?_
      exact g_zret dX8_isOpened_59 rfl rfl rfl
    refine g_iconst dX8_isOpened_54 rfl kic_1 ?_
    refine g_goto dX8_isOpened_55 rfl ?_
    exact g_zret dX8_isOpened_59 rfl rfl rfl
  refine g_aload_n 0 dX8_isOpened_60 rfl rfl ?_
  refine g_iload_n 2 dX8_isOpened_61 rfl rfl ?_
  refine g_cVIw (As := [.int v2]) (st := []) 1 mF_wg rfl dX8_isOpened_62 rfl kkX8 (by decide) rfl vX8_isFactor lkX8_47 (rmS rfl) (hC1 v2 (stI X 17 3 ((X.1 17 3) + (1 : Int32)))) rfl rfl (Nat.le_of_ble_eq_true rfl) (fun c6 X5 => ?_)
  refine g_if_ne dX8_isOpened_65 rfl rfl ?_ ?_
  · refine g_iconst dX8_isOpened_68 rfl kic_0 ?_
    exact g_zret dX8_isOpened_69 rfl rfl rfl
  refine g_aload_n 0 dX8_isOpened_70 rfl rfl ?_
  refine g_iload_n 1 dX8_isOpened_71 rfl rfl ?_
  refine g_bipush dX8_isOpened_72 rfl kbi_33 ?_
  refine g_icmp_ne dX8_isOpened_74 rfl rfl ?_ ?_
  · refine g_bipush dX8_isOpened_77 rfl kbi_m33 ?_
    refine g_goto dX8_isOpened_79 rfl ?_
    refine g_cVVw (As := [.int (-33 : Int32)]) (st := []) 1 mF_wg rfl dX8_isOpened_84 rfl kkX8 (by decide) rfl vX8_write lkX8_43 (rmB (b := 9) (by decide) (by decide) (by omega)) (tap_write_c q (-33 : Int32) X5) rfl rfl (Nat.le_of_ble_eq_true rfl) (fun X7 => ?_)
    refine g_iconst dX8_isOpened_87 rfl kic_1 ?_
    exact g_zret dX8_isOpened_88 rfl rfl rfl
  refine g_bipush dX8_isOpened_82 rfl kbi_m126 ?_
  refine g_cVVw (As := [.int (-126 : Int32)]) (st := []) 1 mF_wg rfl dX8_isOpened_84 rfl kkX8 (by decide) rfl vX8_write lkX8_43 (rmB (b := 9) (by decide) (by decide) (by omega)) (tap_write_c q (-126 : Int32) X5) rfl rfl (Nat.le_of_ble_eq_true rfl) (fun X8 => ?_)
  refine g_iconst dX8_isOpened_87 rfl kic_1 ?_
  exact g_zret dX8_isOpened_88 rfl rfl rfl
theorem tap_isOpened_gc (q : Th) (C : Nat → Int32 → Int32 → St → Option (Int32 × St)) (Dg : Nat) (hDg : 9 ≤ Dg) (hC0 : ∀ a0 a1 X, Ct q nX8_isLevel Dg fiw [.ref (q.ad 17), .int a0, .int a1] X (C 0 a0 a1 X)) (hC1 : ∀ a0 X, Ct q nX8_isFactor Dg fiw [.ref (q.ad 17), .int a0] X (C 1 a0 0 X)) (hC2 : ∀ a0 a1 X, Ct q nX8_isOpened Dg fiw [.ref (q.ad 17), .int a0, .int a1] X (C 2 a0 a1 X)) (n : Nat) (v1 : Int32) (v2 : Int32) (X : St) : Ct q nX8_isOpened (Dg + 1) fiw [.ref (q.ad 17), .int v1, .int v2] X (tap_isOpened_G C n v1 v2 X) := by
  refine ct_of (by decide +kernel) (Nat.le_of_ble_eq_true rfl) ?_
  unfold tap_isOpened_G
  show G q _ _ 0 [(0, .ref (q.ad 17)), (1, .int v1), (2, .int v2)] [] X _
  refine g_iload_n 1 dX8_isOpened_0 rfl rfl ?_
  refine g_bipush dX8_isOpened_1 rfl kbi_40 ?_
  refine g_icmp_eq dX8_isOpened_3 rfl rfl ?_ ?_
  · refine g_sub [0, 1, 2] rfl ?_
    exact tap_isOpened_J20_g q C Dg hDg hC0 hC1 hC2 n v1 v2 X
  refine g_iload_n 1 dX8_isOpened_6 rfl rfl ?_
  refine g_bipush dX8_isOpened_7 rfl kbi_33 ?_
  refine g_icmp_eq dX8_isOpened_9 rfl rfl ?_ ?_
  · refine g_sub [0, 1, 2] rfl ?_
    exact tap_isOpened_J20_g q C Dg hDg hC0 hC1 hC2 n v1 v2 X
  refine g_iload_n 1 dX8_isOpened_12 rfl rfl ?_
  refine g_bipush dX8_isOpened_13 rfl kbi_45 ?_
  refine g_icmp_eq dX8_isOpened_15 rfl rfl ?_ ?_
  · refine g_sub [0, 1, 2] rfl ?_
    exact tap_isOpened_J20_g q C Dg hDg hC0 hC1 hC2 n v1 v2 X
  refine g_iconst dX8_isOpened_18 rfl kic_0 ?_
  exact g_zret dX8_isOpened_19 rfl rfl rfl
theorem tap_isLevel_grp_c (q : Th) (n : Nat) : ∀ d, (∀ (v1 : Int32) (v2 : Int32) X, Ct q nX8_isLevel (9 + d) fiw [.ref (q.ad 17), .int v1, .int v2] X (tap_isLevel_grp n d 0 v1 v2 X)) ∧ (∀ (v1 : Int32) X, Ct q nX8_isFactor (9 + d) fiw [.ref (q.ad 17), .int v1] X (tap_isLevel_grp n d 1 v1 0 X)) ∧ (∀ (v1 : Int32) (v2 : Int32) X, Ct q nX8_isOpened (9 + d) fiw [.ref (q.ad 17), .int v1, .int v2] X (tap_isLevel_grp n d 2 v1 v2 X)) := by
  intro d
  induction d with
  | zero => exact ⟨(fun _ _ _ r h => by cases h), (fun _ _ r h => by cases h), (fun _ _ _ r h => by cases h)⟩
  | succ d ih =>
    obtain ⟨h0, h1, h2⟩ := ih
    exact ⟨fun v1 v2 X => tap_isLevel_gc q (tap_isLevel_grp n d) (9 + d) (by omega) h0 h1 h2 n v1 v2 X, fun v1 X => tap_isFactor_gc q (tap_isLevel_grp n d) (9 + d) (by omega) h0 h1 h2 n v1 X, fun v1 v2 X => tap_isOpened_gc q (tap_isLevel_grp n d) (9 + d) (by omega) h0 h1 h2 n v1 v2 X⟩
theorem tap_isLevel_c (q : Th) (n : Nat) (v1 : Int32) (v2 : Int32) (X : St) : Ct q nX8_isLevel (9 + DEP) fiw [.ref (q.ad 17), .int v1, .int v2] X (tap_isLevel n v1 v2 X) := (tap_isLevel_grp_c q n DEP).1 v1 v2 X
theorem tap_isFactor_c (q : Th) (n : Nat) (v1 : Int32) (X : St) : Ct q nX8_isFactor (9 + DEP) fiw [.ref (q.ad 17), .int v1] X (tap_isFactor n v1 X) := (tap_isLevel_grp_c q n DEP).2.1 v1 X
theorem tap_isOpened_c (q : Th) (n : Nat) (v1 : Int32) (v2 : Int32) (X : St) : Ct q nX8_isOpened (9 + DEP) fiw [.ref (q.ad 17), .int v1, .int v2] X (tap_isOpened n v1 v2 X) := (tap_isLevel_grp_c q n DEP).2.2 v1 v2 X
def tap_isLine (n : Nat) (X : St) : Option (Int32 × St) :=
  ((tap_isLevel n (0 : Int32) (0 : Int32) X).bind fun (c2, X1) =>
  (if c2 = 0 then
  (some ((0 : Int32), X1))
  else
  ((tap_takes (63 : Int32) X1).bind fun (c4, X3) =>
  (if c4 = 0 then
  ((tap_write (-59 : Int32) X3).bind fun X5 =>
  (some ((1 : Int32), X5)))
  else
  ((tap_write (-63 : Int32) X3).bind fun X6 =>
  ((tap_isLevel n (0 : Int32) (0 : Int32) X6).bind fun (c8, X7) =>
  (if c8 = 0 then
  (some ((0 : Int32), X7))
  else
  ((tap_write (-59 : Int32) X7).bind fun X9 =>
  (some ((1 : Int32), X9))))))))))
theorem tap_isLine_c (q : Th) (n : Nat) (X : St) : Ct q nX8_isLine 410 fiw [.ref (q.ad 17)] X (tap_isLine n X) := by
  refine ct_of (by decide +kernel) (Nat.le_of_ble_eq_true rfl) ?_
  unfold tap_isLine
  show G q _ _ 0 [(0, .ref (q.ad 17))] [] X _
  refine g_aload_n 0 dX8_isLine_0 rfl rfl ?_
  refine g_iconst dX8_isLine_1 rfl kic_0 ?_
  refine g_iconst dX8_isLine_2 rfl kic_0 ?_
  refine g_cVIw (As := [.int (0 : Int32), .int (0 : Int32)]) (st := []) 2 mF_wg rfl dX8_isLine_3 rfl kkX8 (by decide) rfl vX8_isLevel lkX8_39 (rmL rfl rfl) (tap_isLevel_c q n (0 : Int32) (0 : Int32) X) rfl rfl (Nat.le_of_ble_eq_true rfl) (fun c2 X1 => ?_)
  refine g_if_ne dX8_isLine_6 rfl rfl ?_ ?_
  · refine g_iconst dX8_isLine_9 rfl kic_0 ?_
    exact g_zret dX8_isLine_10 rfl rfl rfl
  refine g_aload_n 0 dX8_isLine_11 rfl rfl ?_
  refine g_bipush dX8_isLine_12 rfl kbi_63 ?_
  refine g_cVIw (As := [.int (63 : Int32)]) (st := []) 1 mF_wg rfl dX8_isLine_14 rfl kkX8 (by decide) rfl vX8_takes lkX8_35 (rmL rfl rfl) (tap_takes_c q (63 : Int32) X1) rfl rfl (Nat.le_of_ble_eq_true rfl) (fun c4 X3 => ?_)
  refine g_if_eq dX8_isLine_17 rfl rfl ?_ ?_
  · refine g_aload_n 0 dX8_isLine_37 rfl rfl ?_
    refine g_bipush dX8_isLine_38 rfl kbi_m59 ?_
    refine g_cVVw (As := [.int (-59 : Int32)]) (st := []) 1 mF_wg rfl dX8_isLine_40 rfl kkX8 (by decide) rfl vX8_write lkX8_43 (rmL rfl rfl) (tap_write_c q (-59 : Int32) X3) rfl rfl (Nat.le_of_ble_eq_true rfl) (fun X5 => ?_)
    refine g_iconst dX8_isLine_43 rfl kic_1 ?_
    exact g_zret dX8_isLine_44 rfl rfl rfl
  refine g_aload_n 0 dX8_isLine_20 rfl rfl ?_
  refine g_bipush dX8_isLine_21 rfl kbi_m63 ?_
  refine g_cVVw (As := [.int (-63 : Int32)]) (st := []) 1 mF_wg rfl dX8_isLine_23 rfl kkX8 (by decide) rfl vX8_write lkX8_43 (rmL rfl rfl) (tap_write_c q (-63 : Int32) X3) rfl rfl (Nat.le_of_ble_eq_true rfl) (fun X6 => ?_)
  refine g_aload_n 0 dX8_isLine_26 rfl rfl ?_
  refine g_iconst dX8_isLine_27 rfl kic_0 ?_
  refine g_iconst dX8_isLine_28 rfl kic_0 ?_
  refine g_cVIw (As := [.int (0 : Int32), .int (0 : Int32)]) (st := []) 2 mF_wg rfl dX8_isLine_29 rfl kkX8 (by decide) rfl vX8_isLevel lkX8_39 (rmL rfl rfl) (tap_isLevel_c q n (0 : Int32) (0 : Int32) X6) rfl rfl (Nat.le_of_ble_eq_true rfl) (fun c8 X7 => ?_)
  refine g_if_ne dX8_isLine_32 rfl rfl ?_ ?_
  · refine g_iconst dX8_isLine_35 rfl kic_0 ?_
    exact g_zret dX8_isLine_36 rfl rfl rfl
  refine g_aload_n 0 dX8_isLine_37 rfl rfl ?_
  refine g_bipush dX8_isLine_38 rfl kbi_m59 ?_
  refine g_cVVw (As := [.int (-59 : Int32)]) (st := []) 1 mF_wg rfl dX8_isLine_40 rfl kkX8 (by decide) rfl vX8_write lkX8_43 (rmL rfl rfl) (tap_write_c q (-59 : Int32) X7) rfl rfl (Nat.le_of_ble_eq_true rfl) (fun X9 => ?_)
  refine g_iconst dX8_isLine_43 rfl kic_1 ?_
  exact g_zret dX8_isLine_44 rfl rfl rfl
def tap_isText_L12_B (n : Nat) (rec : Int32 → St → Option (Int32 × St)) (v1 : Int32) (X : St) : Option (Int32 × St) :=
(if (120 : Int32) < v1 then
(some ((0 : Int32), X))
else
((tap_isLine n X).bind fun (c2, X1) =>
(if c2 = 0 then
(some ((0 : Int32), X1))
else
(if (X1.1 17 3) < (X1.1 17 2) then
((tap_takes (59 : Int32) X1).bind fun (c4, X3) =>
(if c4 = 0 then
(some ((0 : Int32), X3))
else
(rec (v1 + (1 : Int32)) X3)))
else
(some ((1 : Int32), X1))))))
def tap_isText_L12 (n : Nat) : Nat → Int32 → St → Option (Int32 × St)
  | 0 => fun _ _ => none
  | w + 1 => tap_isText_L12_B n (tap_isText_L12 n w)
def tap_isText (n : Nat) (X : St) : Option (Int32 × St) :=
  (tap_isText_L12 n n (0 : Int32) (stI (stI X 17 3 (0 : Int32)) 17 4 (0 : Int32)))
theorem tap_isText_L12_Bg (q : Th) (n : Nat) (rec : Int32 → St → Option (Int32 × St)) (hrec : ∀ v1 X, G q (mF q nX8_isText RX8 411) fiw 12 [(0, .ref (q.ad 17)), (1, .int v1)] [] X (rec v1 X)) (v1 : Int32) (X : St) : G q (mF q nX8_isText RX8 411) fiw 12 [(0, .ref (q.ad 17)), (1, .int v1)] [] X (tap_isText_L12_B n rec v1 X) := by
  unfold tap_isText_L12_B
  refine g_iload_n 1 dX8_isText_12 rfl rfl ?_
  refine g_bipush dX8_isText_13 rfl kbi_120 ?_
  refine g_icmp_gt dX8_isText_15 rfl rfl ?_ ?_
  · refine g_iconst dX8_isText_57 rfl kic_0 ?_
    exact g_zret dX8_isText_58 rfl rfl rfl
  refine g_aload_n 0 dX8_isText_18 rfl rfl ?_
  refine g_cVIw (As := []) (st := []) 0 mF_wg rfl dX8_isText_19 rfl kkX8 (by decide) rfl vX8_isLine lkX8_32 (rmL rfl rfl) (tap_isLine_c q n X) rfl rfl (Nat.le_of_ble_eq_true rfl) (fun c2 X1 => ?_)
  refine g_if_ne dX8_isText_22 rfl rfl ?_ ?_
  · refine g_iconst dX8_isText_25 rfl kic_0 ?_
    exact g_zret dX8_isText_26 rfl rfl rfl
  refine g_aload_n 0 dX8_isText_27 rfl rfl ?_
  refine g_getI 17 3 rfl dX8_isText_28 rfl kkX8 flX8_26 (by decide) rfl rfl (by decide) rfl ?_
  refine g_aload_n 0 dX8_isText_31 rfl rfl ?_
  refine g_getI 17 2 rfl dX8_isText_32 rfl kkX8 flX8_18 (by decide) rfl rfl (by decide) rfl ?_
  refine g_icmp_lt dX8_isText_35 rfl rfl ?_ ?_
  · refine g_aload_n 0 dX8_isText_40 rfl rfl ?_
    refine g_bipush dX8_isText_41 rfl kbi_59 ?_
    refine g_cVIw (As := [.int (59 : Int32)]) (st := []) 1 mF_wg rfl dX8_isText_43 rfl kkX8 (by decide) rfl vX8_takes lkX8_35 (rmL rfl rfl) (tap_takes_c q (59 : Int32) X1) rfl rfl (Nat.le_of_ble_eq_true rfl) (fun c4 X3 => ?_)
    refine g_if_ne dX8_isText_46 rfl rfl ?_ ?_
    · refine g_iconst dX8_isText_49 rfl kic_0 ?_
      exact g_zret dX8_isText_50 rfl rfl rfl
    refine g_inc (lv' := [(1, .int (v1 + (1 : Int32))), (0, .ref (q.ad 17))]) 1 dX8_isText_51 rfl rfl kic_1 (Nat.le_of_ble_eq_true rfl) rfl ?_
    refine g_goto dX8_isText_54 rfl ?_
    refine g_sub [1, 0] rfl ?_
    exact hrec (v1 + (1 : Int32)) X3
  refine g_iconst dX8_isText_38 rfl kic_1 ?_
  exact g_zret dX8_isText_39 rfl rfl rfl
theorem tap_isText_L12_g (q : Th) (n : Nat) : ∀ (w : Nat) (v1 : Int32) (X : St), G q (mF q nX8_isText RX8 411) fiw 12 [(0, .ref (q.ad 17)), (1, .int v1)] [] X (tap_isText_L12 n w v1 X) := by
  intro w
  induction w with
  | zero => intro v1 X; exact g_none
  | succ w ih => intro v1 X; exact tap_isText_L12_Bg q n _ ih v1 X
theorem tap_isText_c (q : Th) (n : Nat) (X : St) : Ct q nX8_isText 411 fiw [.ref (q.ad 17)] X (tap_isText n X) := by
  refine ct_of (by decide +kernel) (Nat.le_of_ble_eq_true rfl) ?_
  unfold tap_isText
  show G q _ _ 0 [(0, .ref (q.ad 17))] [] X _
  refine g_aload_n 0 dX8_isText_0 rfl rfl ?_
  refine g_iconst dX8_isText_1 rfl kic_0 ?_
  refine g_putI 17 3 rfl dX8_isText_2 rfl kkX8 flX8_26 (by decide) rfl rfl (by decide) rfl rfl rfl ?_
  refine g_aload_n 0 dX8_isText_5 rfl rfl ?_
  refine g_iconst dX8_isText_6 rfl kic_0 ?_
  refine g_putI 17 4 rfl dX8_isText_7 rfl kkX8 flX8_29 (by decide) rfl rfl (by decide) rfl rfl rfl ?_
  refine g_iconst dX8_isText_10 rfl kic_0 ?_
  refine g_istore_n (lv' := [(1, .int (0 : Int32)), (0, .ref (q.ad 17))]) dX8_isText_11 rfl rfl (Nat.le_of_ble_eq_true rfl) rfl ?_
  refine g_sub [1, 0] rfl ?_
  refine tap_isText_L12_g q n n (0 : Int32) (stI (stI X 17 3 (0 : Int32)) 17 4 (0 : Int32))
