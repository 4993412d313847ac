/-! 20.tho: what the methods come to, and that they do -/
def tho_isLed (X : St) : Int32 :=
  ((poo_has (X.1 26 9) X))
def tho_isLed_o (X : St) : Option Int32 :=
  (some (poo_has (X.1 26 9) X))
theorem tho_isLed_e (X : St) : tho_isLed_o X = some (tho_isLed X) := rfl
theorem z_tho_isLed (X : St) : isZ (tho_isLed X) = true := by
  unfold tho_isLed
  (repeat' split) <;> first | rfl | apply z_poo_has
theorem tho_isLed_c (q : Th) (X : St) : Ct q nX9_isLed 1 (fir X) [.ref (q.ad 26)] X (some (tho_isLed X)) := by
  refine ct_of (by decide +kernel) (Nat.le_of_ble_eq_true rfl) ?_
  rw [← tho_isLed_e]
  unfold tho_isLed_o
  show G q _ _ 0 [(0, .ref (q.ad 26))] [] X _
  refine g_aload_n 0 dX9_isLed_0 rfl rfl ?_
  refine g_getR 26 0 1 rfl dX9_isLed_1 rfl kkX9 flX9_32 (by decide) rfl rfl (by decide) rfl ?_
  refine g_aload_n 0 dX9_isLed_4 rfl rfl ?_
  refine g_getI 26 9 rfl dX9_isLed_5 rfl kkX9 flX9_54 (by decide) rfl rfl (by decide) rfl ?_
  refine g_cVIt (As := [.int (X.1 26 9)]) (st := []) 1 mF_wg rfl dX9_isLed_8 rfl kkX5 (by decide) rfl vX5_has lkX9_83 (rmL rfl rfl) (poo_has_c q (X.1 26 9) X) rfl rfl (Nat.le_of_ble_eq_true rfl) ?_
  exact g_zret dX9_isLed_11 rfl (z_poo_has (X.1 26 9) X) rfl
def tho_offOf (v1 : Int32) (X : St) : Option (Int32) :=
  (if (poo_has v1 X) = 0 then
  (some (0 : Int32))
  else
  (if inB v1 8 then
  (if inB v1 8 then
  (some ((X.1 27 (nx v1)) - (X.1 29 (nx v1)))) else none) else none))
theorem tho_offOf_c (q : Th) (v1 : Int32) (X : St) : Ct q nX9_offOf 1 (fir X) [.ref (q.ad 26), .int v1] X (tho_offOf v1 X) := by
  refine ct_of (by decide +kernel) (Nat.le_of_ble_eq_true rfl) ?_
  unfold tho_offOf
  show G q _ _ 0 [(0, .ref (q.ad 26)), (1, .int v1)] [] X _
  refine g_aload_n 0 dX9_offOf_0 rfl rfl ?_
  refine g_getR 26 0 1 rfl dX9_offOf_1 rfl kkX9 flX9_32 (by decide) rfl rfl (by decide) rfl ?_
  refine g_iload_n 1 dX9_offOf_4 rfl rfl ?_
  refine g_cVIt (As := [.int v1]) (st := []) 1 mF_wg rfl dX9_offOf_5 rfl kkX5 (by decide) rfl vX5_has lkX9_83 (rmL rfl rfl) (poo_has_c q v1 X) rfl rfl (Nat.le_of_ble_eq_true rfl) ?_
  refine g_if_eq dX9_offOf_8 rfl rfl ?_ ?_
  · refine g_iconst dX9_offOf_27 rfl kic_0 ?_
    exact g_iret dX9_offOf_28 rfl rfl
  refine g_aload_n 0 dX9_offOf_11 rfl rfl ?_
  refine g_getR 26 3 27 rfl dX9_offOf_12 rfl kkX9 flX9_9 (by decide) rfl rfl (by decide) rfl ?_
  refine g_iload_n 1 dX9_offOf_15 rfl rfl ?_
  refine g_iald dX9_offOf_16 rfl (by decide) rfl rfl ?_
  refine g_aload_n 0 dX9_offOf_17 rfl rfl ?_
  refine g_getR 26 5 29 rfl dX9_offOf_18 rfl kkX9 flX9_18 (by decide) rfl rfl (by decide) rfl ?_
  refine g_iload_n 1 dX9_offOf_21 rfl rfl ?_
  refine g_iald dX9_offOf_22 rfl (by decide) rfl rfl ?_
  refine g_isub dX9_offOf_23 rfl ?_
  refine g_goto dX9_offOf_24 rfl ?_
  exact g_iret dX9_offOf_28 rfl rfl
def tho_between (v1 : Int32) (v2 : Int32) (X : St) : Option (Int32) :=
  ((tho_offOf v1 X).bind fun c1 =>
  ((tho_offOf v2 X).bind fun c2 =>
  (some (jmath_abs (c1 - c2)))))
theorem tho_between_c (q : Th) (v1 : Int32) (v2 : Int32) (X : St) : Ct q nX9_between 2 (fir X) [.ref (q.ad 26), .int v1, .int v2] X (tho_between v1 v2 X) := by
  refine ct_of (by decide +kernel) (Nat.le_of_ble_eq_true rfl) ?_
  unfold tho_between
  show G q _ _ 0 [(0, .ref (q.ad 26)), (1, .int v1), (2, .int v2)] [] X _
  refine g_aload_n 0 dX9_between_0 rfl rfl ?_
  refine g_iload_n 1 dX9_between_1 rfl rfl ?_
  refine g_cVIr (As := [.int v1]) (st := []) 1 mF_wg rfl dX9_between_2 rfl kkX9 (by decide) rfl vX9_offOf lkX9_105 (rmL rfl rfl) (tho_offOf_c q v1 X) rfl rfl (Nat.le_of_ble_eq_true rfl) (fun c1 => ?_)
  refine g_aload_n 0 dX9_between_5 rfl rfl ?_
  refine g_iload_n 2 dX9_between_6 rfl rfl ?_
  refine g_cVIr (As := [.int v2]) (st := [.int c1]) 1 mF_wg rfl dX9_between_7 rfl kkX9 (by decide) rfl vX9_offOf lkX9_105 (rmL rfl rfl) (tho_offOf_c q v2 X) rfl rfl (Nat.le_of_ble_eq_true rfl) (fun c2 => ?_)
  refine g_isub dX9_between_10 rfl ?_
  refine g_mabs (st := []) rfl dX9_between_11 rfl lkX9_71 (rmL rfl rfl) (Nat.le_of_ble_eq_true rfl) ?_
  exact g_iret dX9_between_14 rfl rfl
def tho_widest_L19_B (n : Nat) (X : St) (k47 : Int32 → Int32 → Option (Int32)) (rec : Int32 → Int32 → Int32 → Option (Int32)) (v1 : Int32) (v2 : Int32) (v3 : Int32) : Option (Int32) :=
(if v3 < (poo_many X) then
((tho_between v2 v3 X).bind fun c1 =>
(rec (jmath_max v1 c1) v2 (v3 + (1 : Int32))))
else
(k47 v1 v2))
def tho_widest_L19 (n : Nat) (X : St) (k47 : Int32 → Int32 → Option (Int32)) : Nat → Int32 → Int32 → Int32 → Option (Int32)
  | 0 => fun _ _ _ => none
  | w + 1 => tho_widest_L19_B n X k47 (tho_widest_L19 n X k47 w)
def tho_widest_L4_B (n : Nat) (X : St) (rec : Int32 → Int32 → Option (Int32)) (v1 : Int32) (v2 : Int32) : Option (Int32) :=
(if v2 < (poo_many X) then
(tho_widest_L19 n X (fun v2 v3 =>
(rec v2 (v3 + (1 : Int32)))) n v1 v2 (v2 + (1 : Int32)))
else
(some v1))
def tho_widest_L4 (n : Nat) (X : St) : Nat → Int32 → Int32 → Option (Int32)
  | 0 => fun _ _ => none
  | w + 1 => tho_widest_L4_B n X (tho_widest_L4 n X w)
def tho_widest (n : Nat) (X : St) : Option (Int32) :=
  (tho_widest_L4 n X n (0 : Int32) (0 : Int32))
theorem tho_widest_L19_Bg (q : Th) (n : Nat) (X : St) (k47 : Int32 → Int32 → Option (Int32)) (hk47 : ∀ v1 v2, G q (mF q nX9_widest RX9 3) (fir X) 47 [(0, .ref (q.ad 26)), (1, .int v1), (2, .int v2)] [] X (k47 v1 v2)) (rec : Int32 → Int32 → Int32 → Option (Int32)) (hrec : ∀ v1 v2 v3, G q (mF q nX9_widest RX9 3) (fir X) 19 [(0, .ref (q.ad 26)), (1, .int v1), (2, .int v2), (3, .int v3)] [] X (rec v1 v2 v3)) (v1 : Int32) (v2 : Int32) (v3 : Int32) : G q (mF q nX9_widest RX9 3) (fir X) 19 [(0, .ref (q.ad 26)), (1, .int v1), (2, .int v2), (3, .int v3)] [] X (tho_widest_L19_B n X k47 rec v1 v2 v3) := by
  unfold tho_widest_L19_B
  refine g_iload_n 3 dX9_widest_19 rfl rfl ?_
  refine g_aload_n 0 dX9_widest_20 rfl rfl ?_
  refine g_getR 26 0 1 rfl dX9_widest_21 rfl kkX9 flX9_32 (by decide) rfl rfl (by decide) rfl ?_
  refine g_cVIt (As := []) (st := [.int v3]) 0 mF_wg rfl dX9_widest_24 rfl kkX5 (by decide) rfl vX5_many lkX9_44 (rmL rfl rfl) (poo_many_c q X) rfl rfl (Nat.le_of_ble_eq_true rfl) ?_
  refine g_icmp_ge dX9_widest_27 rfl rfl ?_ ?_
  · refine g_iload_n 1 dX9_widest_30 rfl rfl ?_
    refine g_aload_n 0 dX9_widest_31 rfl rfl ?_
    refine g_iload_n 2 dX9_widest_32 rfl rfl ?_
    refine g_iload_n 3 dX9_widest_33 rfl rfl ?_
    refine g_cVIr (As := [.int v2, .int v3]) (st := [.int v1]) 2 mF_wg rfl dX9_widest_34 rfl kkX9 (by decide) rfl vX9_between lkX9_108 (rmL rfl rfl) (tho_between_c q v2 v3 X) rfl rfl (Nat.le_of_ble_eq_true rfl) (fun c1 => ?_)
    refine g_mmax (st := []) rfl dX9_widest_37 rfl lkX9_111 (rmL rfl rfl) (Nat.le_of_ble_eq_true rfl) ?_
    refine g_istore_n (lv' := [(1, .int (jmath_max v1 c1)), (0, .ref (q.ad 26)), (2, .int v2), (3, .int v3)]) dX9_widest_40 rfl rfl (Nat.le_of_ble_eq_true rfl) rfl ?_
    refine g_inc (lv' := [(3, .int (v3 + (1 : Int32))), (1, .int (jmath_max v1 c1)), (0, .ref (q.ad 26)), (2, .int v2)]) 3 dX9_widest_41 rfl rfl kic_1 (Nat.le_of_ble_eq_true rfl) rfl ?_
    refine g_goto dX9_widest_44 rfl ?_
    refine g_sub [2, 1, 3, 0] rfl ?_
    exact hrec (jmath_max v1 c1) v2 (v3 + (1 : Int32))
  refine g_sub [0, 1, 2] rfl ?_
  exact hk47 v1 v2
theorem tho_widest_L19_g (q : Th) (n : Nat) (X : St) (k47 : Int32 → Int32 → Option (Int32)) (hk47 : ∀ v1 v2, G q (mF q nX9_widest RX9 3) (fir X) 47 [(0, .ref (q.ad 26)), (1, .int v1), (2, .int v2)] [] X (k47 v1 v2)) : ∀ (w : Nat) (v1 : Int32) (v2 : Int32) (v3 : Int32), G q (mF q nX9_widest RX9 3) (fir X) 19 [(0, .ref (q.ad 26)), (1, .int v1), (2, .int v2), (3, .int v3)] [] X (tho_widest_L19 n X k47 w v1 v2 v3) := by
  intro w
  induction w with
  | zero => intro v1 v2 v3; exact g_none
  | succ w ih => intro v1 v2 v3; exact tho_widest_L19_Bg q n X k47 hk47 _ ih v1 v2 v3
theorem tho_widest_L4_Bg (q : Th) (n : Nat) (X : St) (rec : Int32 → Int32 → Option (Int32)) (hrec : ∀ v1 v2, G q (mF q nX9_widest RX9 3) (fir X) 4 [(0, .ref (q.ad 26)), (1, .int v1), (2, .int v2)] [] X (rec v1 v2)) (v1 : Int32) (v2 : Int32) : G q (mF q nX9_widest RX9 3) (fir X) 4 [(0, .ref (q.ad 26)), (1, .int v1), (2, .int v2)] [] X (tho_widest_L4_B n X rec v1 v2) := by
  unfold tho_widest_L4_B
  refine g_iload_n 2 dX9_widest_4 rfl rfl ?_
  refine g_aload_n 0 dX9_widest_5 rfl rfl ?_
  refine g_getR 26 0 1 rfl dX9_widest_6 rfl kkX9 flX9_32 (by decide) rfl rfl (by decide) rfl ?_
  refine g_cVIt (As := []) (st := [.int v2]) 0 mF_wg rfl dX9_widest_9 rfl kkX5 (by decide) rfl vX5_many lkX9_44 (rmL rfl rfl) (poo_many_c q X) rfl rfl (Nat.le_of_ble_eq_true rfl) ?_
  refine g_icmp_ge dX9_widest_12 rfl rfl ?_ ?_
  · refine g_iload_n 2 dX9_widest_15 rfl rfl ?_
    refine g_iconst dX9_widest_16 rfl kic_1 ?_
    refine g_iadd dX9_widest_17 rfl ?_
    refine g_istore_n (lv' := [(3, .int (v2 + (1 : Int32))), (0, .ref (q.ad 26)), (1, .int v1), (2, .int v2)]) dX9_widest_18 rfl rfl (Nat.le_of_ble_eq_true rfl) rfl ?_
    refine g_sub [1, 2, 3, 0] rfl ?_
    refine tho_widest_L19_g q n X _ (fun v2 v3 => ?_) n v1 v2 (v2 + (1 : Int32))
    refine g_inc (lv' := [(2, .int (v3 + (1 : Int32))), (0, .ref (q.ad 26)), (1, .int v2)]) 2 dX9_widest_47 rfl rfl kic_1 (Nat.le_of_ble_eq_true rfl) rfl ?_
    refine g_goto dX9_widest_50 rfl ?_
    refine g_sub [1, 2, 0] rfl ?_
    exact hrec v2 (v3 + (1 : Int32))
  refine g_iload_n 1 dX9_widest_53 rfl rfl ?_
  exact g_iret dX9_widest_54 rfl rfl
theorem tho_widest_L4_g (q : Th) (n : Nat) (X : St) : ∀ (w : Nat) (v1 : Int32) (v2 : Int32), G q (mF q nX9_widest RX9 3) (fir X) 4 [(0, .ref (q.ad 26)), (1, .int v1), (2, .int v2)] [] X (tho_widest_L4 n X w v1 v2) := by
  intro w
  induction w with
  | zero => intro v1 v2; exact g_none
  | succ w ih => intro v1 v2; exact tho_widest_L4_Bg q n X _ ih v1 v2
theorem tho_widest_c (q : Th) (n : Nat) (X : St) : Ct q nX9_widest 3 (fir X) [.ref (q.ad 26)] X (tho_widest n X) := by
  refine ct_of (by decide +kernel) (Nat.le_of_ble_eq_true rfl) ?_
  unfold tho_widest
  show G q _ _ 0 [(0, .ref (q.ad 26))] [] X _
  refine g_iconst dX9_widest_0 rfl kic_0 ?_
  refine g_istore_n (lv' := [(1, .int (0 : Int32)), (0, .ref (q.ad 26))]) dX9_widest_1 rfl rfl (Nat.le_of_ble_eq_true rfl) rfl ?_
  refine g_iconst dX9_widest_2 rfl kic_0 ?_
  refine g_istore_n (lv' := [(2, .int (0 : Int32)), (1, .int (0 : Int32)), (0, .ref (q.ad 26))]) dX9_widest_3 rfl rfl (Nat.le_of_ble_eq_true rfl) rfl ?_
  refine g_sub [2, 1, 0] rfl ?_
  refine tho_widest_L4_g q n X n (0 : Int32) (0 : Int32)
def tho_isSeenSince_L2_B (n : Nat) (k33 : St → Option (Int32 × St)) (rec : Int32 → Int32 → St → Option (Int32 × St)) (v1 : Int32) (v2 : Int32) (X : St) : Option (Int32 × St) :=
(if v2 < (poo_many X) then
(if inB v2 8 then
(if inB v2 8 then
(rec v1 (v2 + (1 : Int32)) (stI X 27 (nx v2) (v1 * (X.1 28 (nx v2))))) else none) else none)
else
(k33 X))
def tho_isSeenSince_L2 (n : Nat) (k33 : St → Option (Int32 × St)) : Nat → Int32 → Int32 → St → Option (Int32 × St)
  | 0 => fun _ _ _ => none
  | w + 1 => tho_isSeenSince_L2_B n k33 (tho_isSeenSince_L2 n k33 w)
def tho_isSeenSince (n : Nat) (v1 : Int32) (X : St) : Option (Int32 × St) :=
  (tho_isSeenSince_L2 n (fun X1 =>
  ((tho_widest n X1).bind fun c2 =>
  (if c2 < (X1.1 26 10) then
  (some ((0 : Int32), X1))
  else
  (some ((1 : Int32), X1))))) n v1 (0 : Int32) X)
theorem tho_isSeenSince_L2_Bg (q : Th) (n : Nat) (k33 : St → Option (Int32 × St)) (hk33 : ∀ X, G q (mF q nX9_isSeenSince RX9 4) fiw 33 [(0, .ref (q.ad 26))] [] X (k33 X)) (rec : Int32 → Int32 → St → Option (Int32 × St)) (hrec : ∀ v1 v2 X, G q (mF q nX9_isSeenSince RX9 4) fiw 2 [(0, .ref (q.ad 26)), (1, .int v1), (2, .int v2)] [] X (rec v1 v2 X)) (v1 : Int32) (v2 : Int32) (X : St) : G q (mF q nX9_isSeenSince RX9 4) fiw 2 [(0, .ref (q.ad 26)), (1, .int v1), (2, .int v2)] [] X (tho_isSeenSince_L2_B n k33 rec v1 v2 X) := by
  unfold tho_isSeenSince_L2_B
  refine g_iload_n 2 dX9_isSeenSince_2 rfl rfl ?_
  refine g_aload_n 0 dX9_isSeenSince_3 rfl rfl ?_
  refine g_getR 26 0 1 rfl dX9_isSeenSince_4 rfl kkX9 flX9_32 (by decide) rfl rfl (by decide) rfl ?_
  refine g_cVIt (As := []) (st := [.int v2]) 0 mF_wg rfl dX9_isSeenSince_7 rfl kkX5 (by decide) rfl vX5_many lkX9_44 (rmL rfl rfl) (poo_many_c q X) rfl rfl (Nat.le_of_ble_eq_true rfl) ?_
  refine g_icmp_ge dX9_isSeenSince_10 rfl rfl ?_ ?_
  · refine g_aload_n 0 dX9_isSeenSince_13 rfl rfl ?_
    refine g_getR 26 3 27 rfl dX9_isSeenSince_14 rfl kkX9 flX9_9 (by decide) rfl rfl (by decide) rfl ?_
    refine g_iload_n 2 dX9_isSeenSince_17 rfl rfl ?_
    refine g_iload_n 1 dX9_isSeenSince_18 rfl rfl ?_
    refine g_aload_n 0 dX9_isSeenSince_19 rfl rfl ?_
    refine g_getR 26 4 28 rfl dX9_isSeenSince_20 rfl kkX9 flX9_15 (by decide) rfl rfl (by decide) rfl ?_
    refine g_iload_n 2 dX9_isSeenSince_23 rfl rfl ?_
    refine g_iald dX9_isSeenSince_24 rfl (by decide) rfl rfl ?_
    refine g_imul dX9_isSeenSince_25 rfl ?_
    refine g_iast dX9_isSeenSince_26 rfl (by decide) rfl rfl ?_
    refine g_inc (lv' := [(2, .int (v2 + (1 : Int32))), (0, .ref (q.ad 26)), (1, .int v1)]) 2 dX9_isSeenSince_27 rfl rfl kic_1 (Nat.le_of_ble_eq_true rfl) rfl ?_
    refine g_goto dX9_isSeenSince_30 rfl ?_
    refine g_sub [1, 2, 0] rfl ?_
    exact hrec v1 (v2 + (1 : Int32)) (stI X 27 (nx v2) (v1 * (X.1 28 (nx v2))))
  refine g_sub [0] rfl ?_
  exact hk33 X
theorem tho_isSeenSince_L2_g (q : Th) (n : Nat) (k33 : St → Option (Int32 × St)) (hk33 : ∀ X, G q (mF q nX9_isSeenSince RX9 4) fiw 33 [(0, .ref (q.ad 26))] [] X (k33 X)) : ∀ (w : Nat) (v1 : Int32) (v2 : Int32) (X : St), G q (mF q nX9_isSeenSince RX9 4) fiw 2 [(0, .ref (q.ad 26)), (1, .int v1), (2, .int v2)] [] X (tho_isSeenSince_L2 n k33 w v1 v2 X) := by
  intro w
  induction w with
  | zero => intro v1 v2 X; exact g_none
  | succ w ih => intro v1 v2 X; exact tho_isSeenSince_L2_Bg q n k33 hk33 _ ih v1 v2 X
theorem tho_isSeenSince_c (q : Th) (n : Nat) (v1 : Int32) (X : St) : Ct q nX9_isSeenSince 4 fiw [.ref (q.ad 26), .int v1] X (tho_isSeenSince n v1 X) := by
  refine ct_of (by decide +kernel) (Nat.le_of_ble_eq_true rfl) ?_
  unfold tho_isSeenSince
  show G q _ _ 0 [(0, .ref (q.ad 26)), (1, .int v1)] [] X _
  refine g_iconst dX9_isSeenSince_0 rfl kic_0 ?_
  refine g_istore_n (lv' := [(2, .int (0 : Int32)), (0, .ref (q.ad 26)), (1, .int v1)]) dX9_isSeenSince_1 rfl rfl (Nat.le_of_ble_eq_true rfl) rfl ?_
  refine g_sub [1, 2, 0] rfl ?_
  refine tho_isSeenSince_L2_g q n _ (fun X1 => ?_) n v1 (0 : Int32) X
  refine g_aload_n 0 dX9_isSeenSince_33 rfl rfl ?_
  refine g_cVIr (As := []) (st := []) 0 mF_wg rfl dX9_isSeenSince_34 rfl kkX9 (by decide) rfl vX9_widest lkX9_114 (rmL rfl rfl) (tho_widest_c q n X1) rfl rfl (Nat.le_of_ble_eq_true rfl) (fun c2 => ?_)
  refine g_aload_n 0 dX9_isSeenSince_37 rfl rfl ?_
  refine g_getI 26 10 rfl dX9_isSeenSince_38 rfl kkX9 flX9_58 (by decide) rfl rfl (by decide) rfl ?_
  refine g_icmp_lt dX9_isSeenSince_41 rfl rfl ?_ ?_
  · refine g_iconst dX9_isSeenSince_48 rfl kic_0 ?_
    exact g_zret dX9_isSeenSince_49 rfl rfl rfl
  refine g_iconst dX9_isSeenSince_44 rfl kic_1 ?_
  refine g_goto dX9_isSeenSince_45 rfl ?_
  exact g_zret dX9_isSeenSince_49 rfl rfl rfl
def tho_differing (v1 : Int32) (v2 : Int32) (v3 : Int32) (X : St) : Option (Int32) :=
  ((poo_told v1 v3 X).bind fun c1 =>
  ((poo_told v2 v3 X).bind fun c2 =>
  (some (jmath_abs (c1 - c2)))))
theorem tho_differing_c (q : Th) (v1 : Int32) (v2 : Int32) (v3 : Int32) (X : St) : Ct q nX9_differing 2 (fir X) [.ref (q.ad 26), .int v1, .int v2, .int v3] X (tho_differing v1 v2 v3 X) := by
  refine ct_of (by decide +kernel) (Nat.le_of_ble_eq_true rfl) ?_
  unfold tho_differing
  show G q _ _ 0 [(0, .ref (q.ad 26)), (1, .int v1), (2, .int v2), (3, .int v3)] [] X _
  refine g_aload_n 0 dX9_differing_0 rfl rfl ?_
  refine g_getR 26 0 1 rfl dX9_differing_1 rfl kkX9 flX9_32 (by decide) rfl rfl (by decide) rfl ?_
  refine g_iload_n 1 dX9_differing_4 rfl rfl ?_
  refine g_iload_n 3 dX9_differing_5 rfl rfl ?_
  refine g_cVIr (As := [.int v1, .int v3]) (st := []) 2 mF_wg rfl dX9_differing_6 rfl kkX5 (by decide) rfl vX5_told lkX9_50 (rmL rfl rfl) (poo_told_c q v1 v3 X) rfl rfl (Nat.le_of_ble_eq_true rfl) (fun c1 => ?_)
  refine g_aload_n 0 dX9_differing_9 rfl rfl ?_
  refine g_getR 26 0 1 rfl dX9_differing_10 rfl kkX9 flX9_32 (by decide) rfl rfl (by decide) rfl ?_
  refine g_iload_n 2 dX9_differing_13 rfl rfl ?_
  refine g_iload_n 3 dX9_differing_14 rfl rfl ?_
  refine g_cVIr (As := [.int v2, .int v3]) (st := [.int c1]) 2 mF_wg rfl dX9_differing_15 rfl kkX5 (by decide) rfl vX5_told lkX9_50 (rmL rfl rfl) (poo_told_c q v2 v3 X) rfl rfl (Nat.le_of_ble_eq_true rfl) (fun c2 => ?_)
  refine g_isub dX9_differing_18 rfl ?_
  refine g_mabs (st := []) rfl dX9_differing_19 rfl lkX9_71 (rmL rfl rfl) (Nat.le_of_ble_eq_true rfl) ?_
  exact g_iret dX9_differing_22 rfl rfl
def tho_compare_L15_B (n : Nat) (k70 : Int32 → St → Option (St)) (rec : Int32 → Int32 → St → Option (St)) (v1 : Int32) (v2 : Int32) (X : St) : Option (St) :=
(if v2 < (poo_many X) then
(if inB v1 8 then
((tho_differing v1 v2 (0 : Int32) X).bind fun c1 =>
((tho_differing v1 v2 (1 : Int32) X).bind fun c2 =>
(if okI (31 + nx v1) v2 then
(if inB v1 8 then
((tho_differing v1 v2 (2 : Int32) (stI X (31 + nx v1) (nx v2) (c1 + c2))).bind fun c3 =>
(if okI (40 + nx v1) v2 then
((some (stI (stI X (31 + nx v1) (nx v2) (c1 + c2)) (40 + nx v1) (nx v2) c3)).bind fun X4 =>
(rec v1 (v2 + (1 : Int32)) X4)) else none)) else none) else none))) else none)
else
(k70 v1 X))
def tho_compare_L15 (n : Nat) (k70 : Int32 → St → Option (St)) : Nat → Int32 → Int32 → St → Option (St)
  | 0 => fun _ _ _ => none
  | w + 1 => tho_compare_L15_B n k70 (tho_compare_L15 n k70 w)
def tho_compare_L2_B (n : Nat) (rec : Int32 → St → Option (St)) (v1 : Int32) (X : St) : Option (St) :=
(if v1 < (poo_many X) then
(tho_compare_L15 n (fun v6 X5 =>
(rec (v6 + (1 : Int32)) X5)) n v1 (0 : Int32) X)
else
(some X))
def tho_compare_L2 (n : Nat) : Nat → Int32 → St → Option (St)
  | 0 => fun _ _ => none
  | w + 1 => tho_compare_L2_B n (tho_compare_L2 n w)
def tho_compare (n : Nat) (X : St) : Option (St) :=
  (tho_compare_L2 n n (0 : Int32) X)
theorem tho_compare_L15_Bg (q : Th) (n : Nat) (k70 : Int32 → St → Option (St)) (hk70 : ∀ v1 X, G q (mF q nX9_compare RX9 3) fvw 70 [(0, .ref (q.ad 26)), (1, .int v1)] [] X (k70 v1 X)) (rec : Int32 → Int32 → St → Option (St)) (hrec : ∀ v1 v2 X, G q (mF q nX9_compare RX9 3) fvw 15 [(0, .ref (q.ad 26)), (1, .int v1), (2, .int v2)] [] X (rec v1 v2 X)) (v1 : Int32) (v2 : Int32) (X : St) : G q (mF q nX9_compare RX9 3) fvw 15 [(0, .ref (q.ad 26)), (1, .int v1), (2, .int v2)] [] X (tho_compare_L15_B n k70 rec v1 v2 X) := by
  unfold tho_compare_L15_B
  refine g_iload_n 2 dX9_compare_15 rfl rfl ?_
  refine g_aload_n 0 dX9_compare_16 rfl rfl ?_
  refine g_getR 26 0 1 rfl dX9_compare_17 rfl kkX9 flX9_32 (by decide) rfl rfl (by decide) rfl ?_
  refine g_cVIt (As := []) (st := [.int v2]) 0 mF_wg rfl dX9_compare_20 rfl kkX5 (by decide) rfl vX5_many lkX9_44 (rmL rfl rfl) (poo_many_c q X) rfl rfl (Nat.le_of_ble_eq_true rfl) ?_
  refine g_icmp_ge dX9_compare_23 rfl rfl ?_ ?_
  · refine g_aload_n 0 dX9_compare_26 rfl rfl ?_
    refine g_getR 26 6 30 rfl dX9_compare_27 rfl kkX9 flX9_23 (by decide) rfl rfl (by decide) rfl ?_
    refine g_iload_n 1 dX9_compare_30 rfl rfl ?_
    refine g_aald dX9_compare_31 rfl (by decide) (by decide) rfl rfl ?_
    refine g_iload_n 2 dX9_compare_32 rfl rfl ?_
    refine g_aload_n 0 dX9_compare_33 rfl rfl ?_
    refine g_iload_n 1 dX9_compare_34 rfl rfl ?_
    refine g_iload_n 2 dX9_compare_35 rfl rfl ?_
    refine g_iconst dX9_compare_36 rfl kic_0 ?_
    refine g_cVIr (As := [.int v1, .int v2, .int (0 : Int32)]) (st := [.int v2, .ref (q.ad (31 + nx v1))]) 3 mF_wg rfl dX9_compare_37 rfl kkX9 (by decide) rfl vX9_differing lkX9_67 (rmL rfl rfl) (tho_differing_c q v1 v2 (0 : Int32) X) rfl rfl (Nat.le_of_ble_eq_true rfl) (fun c1 => ?_)
    refine g_aload_n 0 dX9_compare_40 rfl rfl ?_
    refine g_iload_n 1 dX9_compare_41 rfl rfl ?_
    refine g_iload_n 2 dX9_compare_42 rfl rfl ?_
    refine g_iconst dX9_compare_43 rfl kic_1 ?_
    refine g_cVIr (As := [.int v1, .int v2, .int (1 : Int32)]) (st := [.int c1, .int v2, .ref (q.ad (31 + nx v1))]) 3 mF_wg rfl dX9_compare_44 rfl kkX9 (by decide) rfl vX9_differing lkX9_67 (rmL rfl rfl) (tho_differing_c q v1 v2 (1 : Int32) X) rfl rfl (Nat.le_of_ble_eq_true rfl) (fun c2 => ?_)
    refine g_iadd dX9_compare_47 rfl ?_
    refine g_iastD dX9_compare_48 rfl ?_
    refine g_aload_n 0 dX9_compare_49 rfl rfl ?_
    refine g_getR 26 7 39 rfl dX9_compare_50 rfl kkX9 flX9_26 (by decide) rfl rfl (by decide) rfl ?_
    refine g_iload_n 1 dX9_compare_53 rfl rfl ?_
    refine g_aald dX9_compare_54 rfl (by decide) (by decide) rfl rfl ?_
    refine g_iload_n 2 dX9_compare_55 rfl rfl ?_
    refine g_aload_n 0 dX9_compare_56 rfl rfl ?_
    refine g_iload_n 1 dX9_compare_57 rfl rfl ?_
    refine g_iload_n 2 dX9_compare_58 rfl rfl ?_
    refine g_iconst dX9_compare_59 rfl kic_2 ?_
    refine g_cVIr (As := [.int v1, .int v2, .int (2 : Int32)]) (st := [.int v2, .ref (q.ad (40 + nx v1))]) 3 mF_wg rfl dX9_compare_60 rfl kkX9 (by decide) rfl vX9_differing lkX9_67 (rmL rfl rfl) (tho_differing_c q v1 v2 (2 : Int32) (stI X (31 + nx v1) (nx v2) (c1 + c2))) rfl rfl (Nat.le_of_ble_eq_true rfl) (fun c3 => ?_)
    refine g_iastD dX9_compare_63 rfl ?_
    refine g_nmX (fun X4 => ?_)
    refine g_inc (lv' := [(2, .int (v2 + (1 : Int32))), (0, .ref (q.ad 26)), (1, .int v1)]) 2 dX9_compare_64 rfl rfl kic_1 (Nat.le_of_ble_eq_true rfl) rfl ?_
    refine g_goto dX9_compare_67 rfl ?_
    refine g_sub [1, 2, 0] rfl ?_
    exact hrec v1 (v2 + (1 : Int32)) X4
  refine g_sub [0, 1] rfl ?_
  exact hk70 v1 X
theorem tho_compare_L15_g (q : Th) (n : Nat) (k70 : Int32 → St → Option (St)) (hk70 : ∀ v1 X, G q (mF q nX9_compare RX9 3) fvw 70 [(0, .ref (q.ad 26)), (1, .int v1)] [] X (k70 v1 X)) : ∀ (w : Nat) (v1 : Int32) (v2 : Int32) (X : St), G q (mF q nX9_compare RX9 3) fvw 15 [(0, .ref (q.ad 26)), (1, .int v1), (2, .int v2)] [] X (tho_compare_L15 n k70 w v1 v2 X) := by
  intro w
  induction w with
  | zero => intro v1 v2 X; exact g_none
  | succ w ih => intro v1 v2 X; exact tho_compare_L15_Bg q n k70 hk70 _ ih v1 v2 X
theorem tho_compare_L2_Bg (q : Th) (n : Nat) (rec : Int32 → St → Option (St)) (hrec : ∀ v1 X, G q (mF q nX9_compare RX9 3) fvw 2 [(0, .ref (q.ad 26)), (1, .int v1)] [] X (rec v1 X)) (v1 : Int32) (X : St) : G q (mF q nX9_compare RX9 3) fvw 2 [(0, .ref (q.ad 26)), (1, .int v1)] [] X (tho_compare_L2_B n rec v1 X) := by
  unfold tho_compare_L2_B
  refine g_iload_n 1 dX9_compare_2 rfl rfl ?_
  refine g_aload_n 0 dX9_compare_3 rfl rfl ?_
  refine g_getR 26 0 1 rfl dX9_compare_4 rfl kkX9 flX9_32 (by decide) rfl rfl (by decide) rfl ?_
  refine g_cVIt (As := []) (st := [.int v1]) 0 mF_wg rfl dX9_compare_7 rfl kkX5 (by decide) rfl vX5_many lkX9_44 (rmL rfl rfl) (poo_many_c q X) rfl rfl (Nat.le_of_ble_eq_true rfl) ?_
  refine g_icmp_ge dX9_compare_10 rfl rfl ?_ ?_
  · refine g_iconst dX9_compare_13 rfl kic_0 ?_
    refine g_istore_n (lv' := [(2, .int (0 : Int32)), (0, .ref (q.ad 26)), (1, .int v1)]) dX9_compare_14 rfl rfl (Nat.le_of_ble_eq_true rfl) rfl ?_
    refine g_sub [1, 2, 0] rfl ?_
    refine tho_compare_L15_g q n _ (fun v6 X5 => ?_) n v1 (0 : Int32) X
    refine g_inc (lv' := [(1, .int (v6 + (1 : Int32))), (0, .ref (q.ad 26))]) 1 dX9_compare_70 rfl rfl kic_1 (Nat.le_of_ble_eq_true rfl) rfl ?_
    refine g_goto dX9_compare_73 rfl ?_
    refine g_sub [1, 0] rfl ?_
    exact hrec (v6 + (1 : Int32)) X5
  exact g_vret dX9_compare_76 rfl rfl
theorem tho_compare_L2_g (q : Th) (n : Nat) : ∀ (w : Nat) (v1 : Int32) (X : St), G q (mF q nX9_compare RX9 3) fvw 2 [(0, .ref (q.ad 26)), (1, .int v1)] [] X (tho_compare_L2 n w v1 X) := by
  intro w
  induction w with
  | zero => intro v1 X; exact g_none
  | succ w ih => intro v1 X; exact tho_compare_L2_Bg q n _ ih v1 X
theorem tho_compare_c (q : Th) (n : Nat) (X : St) : Ct q nX9_compare 3 fvw [.ref (q.ad 26)] X (tho_compare n X) := by
  refine ct_of (by decide +kernel) (Nat.le_of_ble_eq_true rfl) ?_
  unfold tho_compare
  show G q _ _ 0 [(0, .ref (q.ad 26))] [] X _
  refine g_iconst dX9_compare_0 rfl kic_0 ?_
  refine g_istore_n (lv' := [(1, .int (0 : Int32)), (0, .ref (q.ad 26))]) dX9_compare_1 rfl rfl (Nat.le_of_ble_eq_true rfl) rfl ?_
  refine g_sub [1, 0] rfl ?_
  refine tho_compare_L2_g q n n (0 : Int32) X
def tho_ready_L2_B (n : Nat) (k49 : St → Option (St)) (rec : Int32 → St → Option (St)) (v1 : Int32) (X : St) : Option (St) :=
(if v1 < (poo_many X) then
((poo_told v1 (4 : Int32) X).bind fun c1 =>
(if inB v1 8 then
((poo_told v1 (5 : Int32) (stI X 28 (nx v1) c1)).bind fun c2 =>
(if inB v1 8 then
(rec (v1 + (1 : Int32)) (stI (stI X 28 (nx v1) c1) 29 (nx v1) c2)) else none)) else none))
else
(k49 X))
def tho_ready_L2 (n : Nat) (k49 : St → Option (St)) : Nat → Int32 → St → Option (St)
  | 0 => fun _ _ => none
  | w + 1 => tho_ready_L2_B n k49 (tho_ready_L2 n k49 w)
def tho_ready (n : Nat) (X : St) : Option (St) :=
  (tho_ready_L2 n (fun X3 =>
  ((poo_told (0 : Int32) (6 : Int32) X3).bind fun c4 =>
  ((poo_told (0 : Int32) (7 : Int32) (stI X3 26 9 c4)).bind fun c5 =>
  ((tho_compare n (stI (stI (stI X3 26 9 c4) 26 10 c5) 26 12 (-1 : Int32))).bind fun X6 =>
  (some X6))))) n (0 : Int32) X)
theorem tho_ready_L2_Bg (q : Th) (n : Nat) (k49 : St → Option (St)) (hk49 : ∀ X, G q (mF q nX9_ready RX9 4) fvw 49 [(0, .ref (q.ad 26))] [] X (k49 X)) (rec : Int32 → St → Option (St)) (hrec : ∀ v1 X, G q (mF q nX9_ready RX9 4) fvw 2 [(0, .ref (q.ad 26)), (1, .int v1)] [] X (rec v1 X)) (v1 : Int32) (X : St) : G q (mF q nX9_ready RX9 4) fvw 2 [(0, .ref (q.ad 26)), (1, .int v1)] [] X (tho_ready_L2_B n k49 rec v1 X) := by
  unfold tho_ready_L2_B
  refine g_iload_n 1 dX9_ready_2 rfl rfl ?_
  refine g_aload_n 0 dX9_ready_3 rfl rfl ?_
  refine g_getR 26 0 1 rfl dX9_ready_4 rfl kkX9 flX9_32 (by decide) rfl rfl (by decide) rfl ?_
  refine g_cVIt (As := []) (st := [.int v1]) 0 mF_wg rfl dX9_ready_7 rfl kkX5 (by decide) rfl vX5_many lkX9_44 (rmL rfl rfl) (poo_many_c q X) rfl rfl (Nat.le_of_ble_eq_true rfl) ?_
  refine g_icmp_ge dX9_ready_10 rfl rfl ?_ ?_
  · refine g_aload_n 0 dX9_ready_13 rfl rfl ?_
    refine g_getR 26 4 28 rfl dX9_ready_14 rfl kkX9 flX9_15 (by decide) rfl rfl (by decide) rfl ?_
    refine g_iload_n 1 dX9_ready_17 rfl rfl ?_
    refine g_aload_n 0 dX9_ready_18 rfl rfl ?_
    refine g_getR 26 0 1 rfl dX9_ready_19 rfl kkX9 flX9_32 (by decide) rfl rfl (by decide) rfl ?_
    refine g_iload_n 1 dX9_ready_22 rfl rfl ?_
    refine g_iconst dX9_ready_23 rfl kic_4 ?_
    refine g_cVIr (As := [.int v1, .int (4 : Int32)]) (st := [.int v1, .ref (q.ad 28)]) 2 mF_wg rfl dX9_ready_24 rfl kkX5 (by decide) rfl vX5_told lkX9_50 (rmL rfl rfl) (poo_told_c q v1 (4 : Int32) X) rfl rfl (Nat.le_of_ble_eq_true rfl) (fun c1 => ?_)
    refine g_iast dX9_ready_27 rfl (by decide) rfl rfl ?_
    refine g_aload_n 0 dX9_ready_28 rfl rfl ?_
    refine g_getR 26 5 29 rfl dX9_ready_29 rfl kkX9 flX9_18 (by decide) rfl rfl (by decide) rfl ?_
    refine g_iload_n 1 dX9_ready_32 rfl rfl ?_
    refine g_aload_n 0 dX9_ready_33 rfl rfl ?_
    refine g_getR 26 0 1 rfl dX9_ready_34 rfl kkX9 flX9_32 (by decide) rfl rfl (by decide) rfl ?_
    refine g_iload_n 1 dX9_ready_37 rfl rfl ?_
    refine g_iconst dX9_ready_38 rfl kic_5 ?_
    refine g_cVIr (As := [.int v1, .int (5 : Int32)]) (st := [.int v1, .ref (q.ad 29)]) 2 mF_wg rfl dX9_ready_39 rfl kkX5 (by decide) rfl vX5_told lkX9_50 (rmL rfl rfl) (poo_told_c q v1 (5 : Int32) (stI X 28 (nx v1) c1)) rfl rfl (Nat.le_of_ble_eq_true rfl) (fun c2 => ?_)
    refine g_iast dX9_ready_42 rfl (by decide) rfl rfl ?_
    refine g_inc (lv' := [(1, .int (v1 + (1 : Int32))), (0, .ref (q.ad 26))]) 1 dX9_ready_43 rfl rfl kic_1 (Nat.le_of_ble_eq_true rfl) rfl ?_
    refine g_goto dX9_ready_46 rfl ?_
    refine g_sub [1, 0] rfl ?_
    exact hrec (v1 + (1 : Int32)) (stI (stI X 28 (nx v1) c1) 29 (nx v1) c2)
  refine g_sub [0] rfl ?_
  exact hk49 X
theorem tho_ready_L2_g (q : Th) (n : Nat) (k49 : St → Option (St)) (hk49 : ∀ X, G q (mF q nX9_ready RX9 4) fvw 49 [(0, .ref (q.ad 26))] [] X (k49 X)) : ∀ (w : Nat) (v1 : Int32) (X : St), G q (mF q nX9_ready RX9 4) fvw 2 [(0, .ref (q.ad 26)), (1, .int v1)] [] X (tho_ready_L2 n k49 w v1 X) := by
  intro w
  induction w with
  | zero => intro v1 X; exact g_none
  | succ w ih => intro v1 X; exact tho_ready_L2_Bg q n k49 hk49 _ ih v1 X
theorem tho_ready_c (q : Th) (n : Nat) (X : St) : Ct q nX9_ready 4 fvw [.ref (q.ad 26)] X (tho_ready n X) := by
  refine ct_of (by decide +kernel) (Nat.le_of_ble_eq_true rfl) ?_
  unfold tho_ready
  show G q _ _ 0 [(0, .ref (q.ad 26))] [] X _
  refine g_iconst dX9_ready_0 rfl kic_0 ?_
  refine g_istore_n (lv' := [(1, .int (0 : Int32)), (0, .ref (q.ad 26))]) dX9_ready_1 rfl rfl (Nat.le_of_ble_eq_true rfl) rfl ?_
  refine g_sub [1, 0] rfl ?_
  refine tho_ready_L2_g q n _ (fun X3 => ?_) n (0 : Int32) X
  refine g_aload_n 0 dX9_ready_49 rfl rfl ?_
  refine g_aload_n 0 dX9_ready_50 rfl rfl ?_
  refine g_getR 26 0 1 rfl dX9_ready_51 rfl kkX9 flX9_32 (by decide) rfl rfl (by decide) rfl ?_
  refine g_iconst dX9_ready_54 rfl kic_0 ?_
  refine g_bipush dX9_ready_55 rfl kbi_6 ?_
  refine g_cVIr (As := [.int (0 : Int32), .int (6 : Int32)]) (st := [.ref (q.ad 26)]) 2 mF_wg rfl dX9_ready_57 rfl kkX5 (by decide) rfl vX5_told lkX9_50 (rmL rfl rfl) (poo_told_c q (0 : Int32) (6 : Int32) X3) rfl rfl (Nat.le_of_ble_eq_true rfl) (fun c4 => ?_)
  refine g_putI 26 9 rfl dX9_ready_60 rfl kkX9 flX9_54 (by decide) rfl rfl (by decide) rfl rfl rfl ?_
  refine g_aload_n 0 dX9_ready_63 rfl rfl ?_
  refine g_aload_n 0 dX9_ready_64 rfl rfl ?_
  refine g_getR 26 0 1 rfl dX9_ready_65 rfl kkX9 flX9_32 (by decide) rfl rfl (by decide) rfl ?_
  refine g_iconst dX9_ready_68 rfl kic_0 ?_
  refine g_bipush dX9_ready_69 rfl kbi_7 ?_
  refine g_cVIr (As := [.int (0 : Int32), .int (7 : Int32)]) (st := [.ref (q.ad 26)]) 2 mF_wg rfl dX9_ready_71 rfl kkX5 (by decide) rfl vX5_told lkX9_50 (rmL rfl rfl) (poo_told_c q (0 : Int32) (7 : Int32) (stI X3 26 9 c4)) rfl rfl (Nat.le_of_ble_eq_true rfl) (fun c5 => ?_)
  refine g_putI 26 10 rfl dX9_ready_74 rfl kkX9 flX9_58 (by decide) rfl rfl (by decide) rfl rfl rfl ?_
  refine g_aload_n 0 dX9_ready_77 rfl rfl ?_
  refine g_iconst dX9_ready_78 rfl kic_m1 ?_
  refine g_putI 26 12 rfl dX9_ready_79 rfl kkX9 flX9_61 (by decide) rfl rfl (by decide) rfl rfl rfl ?_
  refine g_aload_n 0 dX9_ready_82 rfl rfl ?_
  refine g_cVVw (As := []) (st := []) 0 mF_wg rfl dX9_ready_83 rfl kkX9 (by decide) rfl vX9_compare lkX9_64 (rmL rfl rfl) (tho_compare_c q n (stI (stI (stI X3 26 9 c4) 26 10 c5) 26 12 (-1 : Int32))) rfl rfl (Nat.le_of_ble_eq_true rfl) (fun X6 => ?_)
  exact g_vret dX9_ready_86 rfl rfl
def tho_slipAt (v1 : Int32) (v2 : Int32) (v3 : Int32) (X : St) : Option (St) :=
  (some (stI (stI (stI X 26 11 v1) 26 12 v2) 26 13 v3))
theorem tho_slipAt_c (q : Th) (v1 : Int32) (v2 : Int32) (v3 : Int32) (X : St) : Ct q nX9_slipAt 0 fvw [.ref (q.ad 26), .int v1, .int v2, .int v3] X (tho_slipAt v1 v2 v3 X) := by
  refine ct_of (by decide +kernel) (Nat.le_of_ble_eq_true rfl) ?_
  unfold tho_slipAt
  show G q _ _ 0 [(0, .ref (q.ad 26)), (1, .int v1), (2, .int v2), (3, .int v3)] [] X _
  refine g_aload_n 0 dX9_slipAt_0 rfl rfl ?_
  refine g_iload_n 1 dX9_slipAt_1 rfl rfl ?_
  refine g_putI 26 11 rfl dX9_slipAt_2 rfl kkX9 flX9_77 (by decide) rfl rfl (by decide) rfl rfl rfl ?_
  refine g_aload_n 0 dX9_slipAt_5 rfl rfl ?_
  refine g_iload_n 2 dX9_slipAt_6 rfl rfl ?_
  refine g_putI 26 12 rfl dX9_slipAt_7 rfl kkX9 flX9_61 (by decide) rfl rfl (by decide) rfl rfl rfl ?_
  refine g_aload_n 0 dX9_slipAt_10 rfl rfl ?_
  refine g_iload_n 3 dX9_slipAt_11 rfl rfl ?_
  refine g_putI 26 13 rfl dX9_slipAt_12 rfl kkX9 flX9_80 (by decide) rfl rfl (by decide) rfl rfl rfl ?_
  exact g_vret dX9_slipAt_15 rfl rfl
def tho_leadBy (v1 : Int32) (X : St) : Option (St) :=
  (some (stI X 26 9 v1))
theorem tho_leadBy_c (q : Th) (v1 : Int32) (X : St) : Ct q nX9_leadBy 0 fvw [.ref (q.ad 26), .int v1] X (tho_leadBy v1 X) := by
  refine ct_of (by decide +kernel) (Nat.le_of_ble_eq_true rfl) ?_
  unfold tho_leadBy
  show G q _ _ 0 [(0, .ref (q.ad 26)), (1, .int v1)] [] X _
  refine g_aload_n 0 dX9_leadBy_0 rfl rfl ?_
  refine g_iload_n 1 dX9_leadBy_1 rfl rfl ?_
  refine g_putI 26 9 rfl dX9_leadBy_2 rfl kkX9 flX9_54 (by decide) rfl rfl (by decide) rfl rfl rfl ?_
  exact g_vret dX9_leadBy_5 rfl rfl
def tho_quicken (v1 : Int32) (v2 : Int32) (X : St) : Option (St) :=
  (if (poo_has v1 X) = 0 then
  (some X)
  else
  (if inB v1 8 then
  (some (stI X 28 (nx v1) v2)) else none))
theorem tho_quicken_c (q : Th) (v1 : Int32) (v2 : Int32) (X : St) : Ct q nX9_quicken 1 fvw [.ref (q.ad 26), .int v1, .int v2] X (tho_quicken v1 v2 X) := by
  refine ct_of (by decide +kernel) (Nat.le_of_ble_eq_true rfl) ?_
  unfold tho_quicken
  show G q _ _ 0 [(0, .ref (q.ad 26)), (1, .int v1), (2, .int v2)] [] X _
  refine g_aload_n 0 dX9_quicken_0 rfl rfl ?_
  refine g_getR 26 0 1 rfl dX9_quicken_1 rfl kkX9 flX9_32 (by decide) rfl rfl (by decide) rfl ?_
  refine g_iload_n 1 dX9_quicken_4 rfl rfl ?_
  refine g_cVIt (As := [.int v1]) (st := []) 1 mF_wg rfl dX9_quicken_5 rfl kkX5 (by decide) rfl vX5_has lkX9_83 (rmL rfl rfl) (poo_has_c q v1 X) rfl rfl (Nat.le_of_ble_eq_true rfl) ?_
  refine g_if_eq dX9_quicken_8 rfl rfl ?_ ?_
  · exact g_vret dX9_quicken_18 rfl rfl
  refine g_aload_n 0 dX9_quicken_11 rfl rfl ?_
  refine g_getR 26 4 28 rfl dX9_quicken_12 rfl kkX9 flX9_15 (by decide) rfl rfl (by decide) rfl ?_
  refine g_iload_n 1 dX9_quicken_15 rfl rfl ?_
  refine g_iload_n 2 dX9_quicken_16 rfl rfl ?_
  refine g_iast dX9_quicken_17 rfl (by decide) rfl rfl ?_
  exact g_vret dX9_quicken_18 rfl rfl
def tho_delay (v1 : Int32) (v2 : Int32) (X : St) : Option (St) :=
  (if (poo_has v1 X) = 0 then
  (some X)
  else
  (if inB v1 8 then
  (some (stI X 29 (nx v1) v2)) else none))
theorem tho_delay_c (q : Th) (v1 : Int32) (v2 : Int32) (X : St) : Ct q nX9_delay 1 fvw [.ref (q.ad 26), .int v1, .int v2] X (tho_delay v1 v2 X) := by
  refine ct_of (by decide +kernel) (Nat.le_of_ble_eq_true rfl) ?_
  unfold tho_delay
  show G q _ _ 0 [(0, .ref (q.ad 26)), (1, .int v1), (2, .int v2)] [] X _
  refine g_aload_n 0 dX9_delay_0 rfl rfl ?_
  refine g_getR 26 0 1 rfl dX9_delay_1 rfl kkX9 flX9_32 (by decide) rfl rfl (by decide) rfl ?_
  refine g_iload_n 1 dX9_delay_4 rfl rfl ?_
  refine g_cVIt (As := [.int v1]) (st := []) 1 mF_wg rfl dX9_delay_5 rfl kkX5 (by decide) rfl vX5_has lkX9_83 (rmL rfl rfl) (poo_has_c q v1 X) rfl rfl (Nat.le_of_ble_eq_true rfl) ?_
  refine g_if_eq dX9_delay_8 rfl rfl ?_ ?_
  · exact g_vret dX9_delay_18 rfl rfl
  refine g_aload_n 0 dX9_delay_11 rfl rfl ?_
  refine g_getR 26 5 29 rfl dX9_delay_12 rfl kkX9 flX9_18 (by decide) rfl rfl (by decide) rfl ?_
  refine g_iload_n 1 dX9_delay_15 rfl rfl ?_
  refine g_iload_n 2 dX9_delay_16 rfl rfl ?_
  refine g_iast dX9_delay_17 rfl (by decide) rfl rfl ?_
  exact g_vret dX9_delay_18 rfl rfl
def tho_step_L2_B (n : Nat) (k34 : Int32 → St → Option (St)) (rec : Int32 → Int32 → St → Option (St)) (v1 : Int32) (v2 : Int32) (X : St) : Option (St) :=
(if v2 < (poo_many X) then
(if inB v2 8 then
(if inB v2 8 then
(if inB v2 8 then
(rec v1 (v2 + (1 : Int32)) (stI X 27 (nx v2) ((X.1 27 (nx v2)) + (X.1 28 (nx v2))))) else none) else none) else none)
else
(k34 v1 X))
def tho_step_L2 (n : Nat) (k34 : Int32 → St → Option (St)) : Nat → Int32 → Int32 → St → Option (St)
  | 0 => fun _ _ _ => none
  | w + 1 => tho_step_L2_B n k34 (tho_step_L2 n k34 w)
def tho_step_L65_B (n : Nat) (rec : Int32 → Int32 → St → Option (St)) (v2 : Int32) (v3 : Int32) (X : St) : Option (St) :=
(if v3 < (poo_many X) then
(if inB v3 8 then
(rec v2 (v3 + (1 : Int32)) (stI X 27 (nx v3) v2)) else none)
else
(some X))
def tho_step_L65 (n : Nat) : Nat → Int32 → Int32 → St → Option (St)
  | 0 => fun _ _ _ => none
  | w + 1 => tho_step_L65_B n (tho_step_L65 n w)
def tho_step (n : Nat) (v1 : Int32) (X : St) : Option (St) :=
  (tho_step_L2 n (fun v2 X1 =>
  (if v2 = (4 : Int32) then
  (if (poo_has (X1.1 26 9) X1) = 0 then
  (some X1)
  else
  (if inB (X1.1 26 9) 8 then
  (tho_step_L65 n n (X1.1 27 (nx (X1.1 26 9))) (0 : Int32) X1) else none))
  else
  (some X1))) n v1 (0 : Int32) X)
theorem tho_step_L2_Bg (q : Th) (n : Nat) (k34 : Int32 → St → Option (St)) (hk34 : ∀ v1 X, G q (mF q nX9_step RX9 1) fvw 34 [(0, .ref (q.ad 26)), (1, .int v1)] [] X (k34 v1 X)) (rec : Int32 → Int32 → St → Option (St)) (hrec : ∀ v1 v2 X, G q (mF q nX9_step RX9 1) fvw 2 [(0, .ref (q.ad 26)), (1, .int v1), (2, .int v2)] [] X (rec v1 v2 X)) (v1 : Int32) (v2 : Int32) (X : St) : G q (mF q nX9_step RX9 1) fvw 2 [(0, .ref (q.ad 26)), (1, .int v1), (2, .int v2)] [] X (tho_step_L2_B n k34 rec v1 v2 X) := by
  unfold tho_step_L2_B
  refine g_iload_n 2 dX9_step_2 rfl rfl ?_
  refine g_aload_n 0 dX9_step_3 rfl rfl ?_
  refine g_getR 26 0 1 rfl dX9_step_4 rfl kkX9 flX9_32 (by decide) rfl rfl (by decide) rfl ?_
  refine g_cVIt (As := []) (st := [.int v2]) 0 mF_wg rfl dX9_step_7 rfl kkX5 (by decide) rfl vX5_many lkX9_44 (rmL rfl rfl) (poo_many_c q X) rfl rfl (Nat.le_of_ble_eq_true rfl) ?_
  refine g_icmp_ge dX9_step_10 rfl rfl ?_ ?_
  · refine g_aload_n 0 dX9_step_13 rfl rfl ?_
    refine g_getR 26 3 27 rfl dX9_step_14 rfl kkX9 flX9_9 (by decide) rfl rfl (by decide) rfl ?_
    refine g_iload_n 2 dX9_step_17 rfl rfl ?_
    refine g_dup2 dX9_step_18 rfl rfl rfl ?_
    refine g_iald dX9_step_19 rfl (by decide) rfl rfl ?_
    refine g_aload_n 0 dX9_step_20 rfl rfl ?_
    refine g_getR 26 4 28 rfl dX9_step_21 rfl kkX9 flX9_15 (by decide) rfl rfl (by decide) rfl ?_
    refine g_iload_n 2 dX9_step_24 rfl rfl ?_
    refine g_iald dX9_step_25 rfl (by decide) rfl rfl ?_
    refine g_iadd dX9_step_26 rfl ?_
    refine g_iast dX9_step_27 rfl (by decide) rfl rfl ?_
    refine g_inc (lv' := [(2, .int (v2 + (1 : Int32))), (0, .ref (q.ad 26)), (1, .int v1)]) 2 dX9_step_28 rfl rfl kic_1 (Nat.le_of_ble_eq_true rfl) rfl ?_
    refine g_goto dX9_step_31 rfl ?_
    refine g_sub [1, 2, 0] rfl ?_
    exact hrec v1 (v2 + (1 : Int32)) (stI X 27 (nx v2) ((X.1 27 (nx v2)) + (X.1 28 (nx v2))))
  refine g_sub [0, 1] rfl ?_
  exact hk34 v1 X
theorem tho_step_L2_g (q : Th) (n : Nat) (k34 : Int32 → St → Option (St)) (hk34 : ∀ v1 X, G q (mF q nX9_step RX9 1) fvw 34 [(0, .ref (q.ad 26)), (1, .int v1)] [] X (k34 v1 X)) : ∀ (w : Nat) (v1 : Int32) (v2 : Int32) (X : St), G q (mF q nX9_step RX9 1) fvw 2 [(0, .ref (q.ad 26)), (1, .int v1), (2, .int v2)] [] X (tho_step_L2 n k34 w v1 v2 X) := by
  intro w
  induction w with
  | zero => intro v1 v2 X; exact g_none
  | succ w ih => intro v1 v2 X; exact tho_step_L2_Bg q n k34 hk34 _ ih v1 v2 X
theorem tho_step_L65_Bg (q : Th) (n : Nat) (rec : Int32 → Int32 → St → Option (St)) (hrec : ∀ v2 v3 X, G q (mF q nX9_step RX9 1) fvw 65 [(0, .ref (q.ad 26)), (2, .int v2), (3, .int v3)] [] X (rec v2 v3 X)) (v2 : Int32) (v3 : Int32) (X : St) : G q (mF q nX9_step RX9 1) fvw 65 [(0, .ref (q.ad 26)), (2, .int v2), (3, .int v3)] [] X (tho_step_L65_B n rec v2 v3 X) := by
  unfold tho_step_L65_B
  refine g_iload_n 2 dX9_step_65 rfl rfl ?_
  refine g_aload_n 0 dX9_step_66 rfl rfl ?_
  refine g_getR 26 0 1 rfl dX9_step_67 rfl kkX9 flX9_32 (by decide) rfl rfl (by decide) rfl ?_
  refine g_cVIt (As := []) (st := [.int v3]) 0 mF_wg rfl dX9_step_70 rfl kkX5 (by decide) rfl vX5_many lkX9_44 (rmL rfl rfl) (poo_many_c q X) rfl rfl (Nat.le_of_ble_eq_true rfl) ?_
  refine g_icmp_ge dX9_step_73 rfl rfl ?_ ?_
  · refine g_aload_n 0 dX9_step_76 rfl rfl ?_
    refine g_getR 26 3 27 rfl dX9_step_77 rfl kkX9 flX9_9 (by decide) rfl rfl (by decide) rfl ?_
    refine g_iload_n 2 dX9_step_80 rfl rfl ?_
    refine g_iload_n 1 dX9_step_81 rfl rfl ?_
    refine g_iast dX9_step_82 rfl (by decide) rfl rfl ?_
    refine g_inc (lv' := [(3, .int (v3 + (1 : Int32))), (0, .ref (q.ad 26)), (2, .int v2)]) 2 dX9_step_83 rfl rfl kic_1 (Nat.le_of_ble_eq_true rfl) rfl ?_
    refine g_goto dX9_step_86 rfl ?_
    refine g_sub [1, 2, 0] rfl ?_
    exact hrec v2 (v3 + (1 : Int32)) (stI X 27 (nx v3) v2)
  exact g_vret dX9_step_89 rfl rfl
theorem tho_step_L65_g (q : Th) (n : Nat) : ∀ (w : Nat) (v2 : Int32) (v3 : Int32) (X : St), G q (mF q nX9_step RX9 1) fvw 65 [(0, .ref (q.ad 26)), (2, .int v2), (3, .int v3)] [] X (tho_step_L65 n w v2 v3 X) := by
  intro w
  induction w with
  | zero => intro v2 v3 X; exact g_none
  | succ w ih => intro v2 v3 X; exact tho_step_L65_Bg q n _ ih v2 v3 X
theorem tho_step_c (q : Th) (n : Nat) (v1 : Int32) (X : St) : Ct q nX9_step 1 fvw [.ref (q.ad 26), .int v1] X (tho_step n v1 X) := by
  refine ct_of (by decide +kernel) (Nat.le_of_ble_eq_true rfl) ?_
  unfold tho_step
  show G q _ _ 0 [(0, .ref (q.ad 26)), (1, .int v1)] [] X _
  refine g_iconst dX9_step_0 rfl kic_0 ?_
  refine g_istore_n (lv' := [(2, .int (0 : Int32)), (0, .ref (q.ad 26)), (1, .int v1)]) dX9_step_1 rfl rfl (Nat.le_of_ble_eq_true rfl) rfl ?_
  refine g_sub [1, 2, 0] rfl ?_
  refine tho_step_L2_g q n _ (fun v2 X1 => ?_) n v1 (0 : Int32) X
  refine g_iload_n 1 dX9_step_34 rfl rfl ?_
  refine g_iconst dX9_step_35 rfl kic_4 ?_
  refine g_icmp_ne dX9_step_36 rfl rfl ?_ ?_
  · refine g_aload_n 0 dX9_step_39 rfl rfl ?_
    refine g_getR 26 0 1 rfl dX9_step_40 rfl kkX9 flX9_32 (by decide) rfl rfl (by decide) rfl ?_
    refine g_aload_n 0 dX9_step_43 rfl rfl ?_
    refine g_getI 26 9 rfl dX9_step_44 rfl kkX9 flX9_54 (by decide) rfl rfl (by decide) rfl ?_
    refine g_cVIt (As := [.int (X1.1 26 9)]) (st := []) 1 mF_wg rfl dX9_step_47 rfl kkX5 (by decide) rfl vX5_has lkX9_83 (rmL rfl rfl) (poo_has_c q (X1.1 26 9) X1) rfl rfl (Nat.le_of_ble_eq_true rfl) ?_
    refine g_if_eq dX9_step_50 rfl rfl ?_ ?_
    · exact g_vret dX9_step_89 rfl rfl
    refine g_aload_n 0 dX9_step_53 rfl rfl ?_
    refine g_getR 26 3 27 rfl dX9_step_54 rfl kkX9 flX9_9 (by decide) rfl rfl (by decide) rfl ?_
    refine g_aload_n 0 dX9_step_57 rfl rfl ?_
    refine g_getI 26 9 rfl dX9_step_58 rfl kkX9 flX9_54 (by decide) rfl rfl (by decide) rfl ?_
    refine g_iald dX9_step_61 rfl (by decide) rfl rfl ?_
    refine g_istore_n (lv' := [(2, .int (X1.1 27 (nx (X1.1 26 9)))), (0, .ref (q.ad 26)), (1, .int v2)]) dX9_step_62 rfl rfl (Nat.le_of_ble_eq_true rfl) rfl ?_
    refine g_iconst dX9_step_63 rfl kic_0 ?_
    refine g_istore_n (lv' := [(3, .int (0 : Int32)), (2, .int (X1.1 27 (nx (X1.1 26 9)))), (0, .ref (q.ad 26)), (1, .int v2)]) dX9_step_64 rfl rfl (Nat.le_of_ble_eq_true rfl) rfl ?_
    refine g_sub [2, 1, 0] rfl ?_
    refine tho_step_L65_g q n n (X1.1 27 (nx (X1.1 26 9))) (0 : Int32) X1
  exact g_vret dX9_step_89 rfl rfl
def tho_still_L2_B (n : Nat) (rec : Int32 → St → Option (St)) (v1 : Int32) (X : St) : Option (St) :=
(if v1 < (8 : Int32) then
(if inB v1 8 then
(rec (v1 + (1 : Int32)) (stI X 27 (nx v1) (0 : Int32))) else none)
else
(some X))
def tho_still_L2 (n : Nat) : Nat → Int32 → St → Option (St)
  | 0 => fun _ _ => none
  | w + 1 => tho_still_L2_B n (tho_still_L2 n w)
def tho_still (n : Nat) (X : St) : Option (St) :=
  (tho_still_L2 n n (0 : Int32) X)
theorem tho_still_L2_Bg (q : Th) (n : Nat) (rec : Int32 → St → Option (St)) (hrec : ∀ v1 X, G q (mF q nX9_still RX9 0) fvw 2 [(0, .ref (q.ad 26)), (1, .int v1)] [] X (rec v1 X)) (v1 : Int32) (X : St) : G q (mF q nX9_still RX9 0) fvw 2 [(0, .ref (q.ad 26)), (1, .int v1)] [] X (tho_still_L2_B n rec v1 X) := by
  unfold tho_still_L2_B
  refine g_iload_n 1 dX9_still_2 rfl rfl ?_
  refine g_bipush dX9_still_3 rfl kbi_8 ?_
  refine g_icmp_ge dX9_still_5 rfl rfl ?_ ?_
  · refine g_aload_n 0 dX9_still_8 rfl rfl ?_
    refine g_getR 26 3 27 rfl dX9_still_9 rfl kkX9 flX9_9 (by decide) rfl rfl (by decide) rfl ?_
    refine g_iload_n 1 dX9_still_12 rfl rfl ?_
    refine g_iconst dX9_still_13 rfl kic_0 ?_
    refine g_iast dX9_still_14 rfl (by decide) rfl rfl ?_
    refine g_inc (lv' := [(1, .int (v1 + (1 : Int32))), (0, .ref (q.ad 26))]) 1 dX9_still_15 rfl rfl kic_1 (Nat.le_of_ble_eq_true rfl) rfl ?_
    refine g_goto dX9_still_18 rfl ?_
    refine g_sub [1, 0] rfl ?_
    exact hrec (v1 + (1 : Int32)) (stI X 27 (nx v1) (0 : Int32))
  exact g_vret dX9_still_21 rfl rfl
theorem tho_still_L2_g (q : Th) (n : Nat) : ∀ (w : Nat) (v1 : Int32) (X : St), G q (mF q nX9_still RX9 0) fvw 2 [(0, .ref (q.ad 26)), (1, .int v1)] [] X (tho_still_L2 n w v1 X) := by
  intro w
  induction w with
  | zero => intro v1 X; exact g_none
  | succ w ih => intro v1 X; exact tho_still_L2_Bg q n _ ih v1 X
theorem tho_still_c (q : Th) (n : Nat) (X : St) : Ct q nX9_still 0 fvw [.ref (q.ad 26)] X (tho_still n X) := by
  refine ct_of (by decide +kernel) (Nat.le_of_ble_eq_true rfl) ?_
  unfold tho_still
  show G q _ _ 0 [(0, .ref (q.ad 26))] [] X _
  refine g_iconst dX9_still_0 rfl kic_0 ?_
  refine g_istore_n (lv' := [(1, .int (0 : Int32)), (0, .ref (q.ad 26))]) dX9_still_1 rfl rfl (Nat.le_of_ble_eq_true rfl) rfl ?_
  refine g_sub [1, 0] rfl ?_
  refine tho_still_L2_g q n n (0 : Int32) X
def tho_think_L6_B (n : Nat) (rec : Int32 → Int32 → St → Option (St)) (v1 : Int32) (v2 : Int32) (X : St) : Option (St) :=
(if v2 < (jmath_min v1 (rou_counts X)) then
((rou_actAt v2 X).bind fun c2 =>
((tho_step n c2 X).bind fun X3 =>
(rec v1 (v2 + (1 : Int32)) X3)))
else
(some X))
def tho_think_L6 (n : Nat) : Nat → Int32 → Int32 → St → Option (St)
  | 0 => fun _ _ _ => none
  | w + 1 => tho_think_L6_B n (tho_think_L6 n w)
def tho_think (n : Nat) (v1 : Int32) (X : St) : Option (St) :=
  ((tho_still n X).bind fun X1 =>
  (tho_think_L6 n n v1 (0 : Int32) X1))
theorem tho_think_L6_Bg (q : Th) (n : Nat) (rec : Int32 → Int32 → St → Option (St)) (hrec : ∀ v1 v2 X, G q (mF q nX9_think RX9 2) fvw 6 [(0, .ref (q.ad 26)), (1, .int v1), (2, .int v2)] [] X (rec v1 v2 X)) (v1 : Int32) (v2 : Int32) (X : St) : G q (mF q nX9_think RX9 2) fvw 6 [(0, .ref (q.ad 26)), (1, .int v1), (2, .int v2)] [] X (tho_think_L6_B n rec v1 v2 X) := by
  unfold tho_think_L6_B
  refine g_iload_n 2 dX9_think_6 rfl rfl ?_
  refine g_iload_n 1 dX9_think_7 rfl rfl ?_
  refine g_aload_n 0 dX9_think_8 rfl rfl ?_
  refine g_getR 26 2 24 rfl dX9_think_9 rfl kkX9 flX9_40 (by decide) rfl rfl (by decide) rfl ?_
  refine g_cVIt (As := []) (st := [.int v1, .int v2]) 0 mF_wg rfl dX9_think_12 rfl kkX6 (by decide) rfl vX6_counts lkX9_90 (rmL rfl rfl) (rou_counts_c q X) rfl rfl (Nat.le_of_ble_eq_true rfl) ?_
  refine g_mmin (st := [.int v2]) rfl dX9_think_15 rfl lkX9_95 (rmL rfl rfl) (Nat.le_of_ble_eq_true rfl) ?_
  refine g_icmp_ge dX9_think_18 rfl rfl ?_ ?_
  · refine g_aload_n 0 dX9_think_21 rfl rfl ?_
    refine g_aload_n 0 dX9_think_22 rfl rfl ?_
    refine g_getR 26 2 24 rfl dX9_think_23 rfl kkX9 flX9_40 (by decide) rfl rfl (by decide) rfl ?_
    refine g_iload_n 2 dX9_think_26 rfl rfl ?_
    refine g_cVIr (As := [.int v2]) (st := [.ref (q.ad 26)]) 1 mF_wg rfl dX9_think_27 rfl kkX6 (by decide) rfl vX6_actAt lkX9_98 (rmL rfl rfl) (rou_actAt_c q v2 X) rfl rfl (Nat.le_of_ble_eq_true rfl) (fun c2 => ?_)
    refine g_cVVw (As := [.int c2]) (st := []) 1 mF_wg rfl dX9_think_30 rfl kkX9 (by decide) rfl vX9_step lkX9_101 (rmL rfl rfl) (tho_step_c q n c2 X) rfl rfl (Nat.le_of_ble_eq_true rfl) (fun X3 => ?_)
    refine g_inc (lv' := [(2, .int (v2 + (1 : Int32))), (0, .ref (q.ad 26)), (1, .int v1)]) 2 dX9_think_33 rfl rfl kic_1 (Nat.le_of_ble_eq_true rfl) rfl ?_
    refine g_goto dX9_think_36 rfl ?_
    refine g_sub [1, 2, 0] rfl ?_
    exact hrec v1 (v2 + (1 : Int32)) X3
  exact g_vret dX9_think_39 rfl rfl
theorem tho_think_L6_g (q : Th) (n : Nat) : ∀ (w : Nat) (v1 : Int32) (v2 : Int32) (X : St), G q (mF q nX9_think RX9 2) fvw 6 [(0, .ref (q.ad 26)), (1, .int v1), (2, .int v2)] [] X (tho_think_L6 n w v1 v2 X) := by
  intro w
  induction w with
  | zero => intro v1 v2 X; exact g_none
  | succ w ih => intro v1 v2 X; exact tho_think_L6_Bg q n _ ih v1 v2 X
theorem tho_think_c (q : Th) (n : Nat) (v1 : Int32) (X : St) : Ct q nX9_think 2 fvw [.ref (q.ad 26), .int v1] X (tho_think n v1 X) := by
  refine ct_of (by decide +kernel) (Nat.le_of_ble_eq_true rfl) ?_
  unfold tho_think
  show G q _ _ 0 [(0, .ref (q.ad 26)), (1, .int v1)] [] X _
  refine g_aload_n 0 dX9_think_0 rfl rfl ?_
  refine g_cVVw (As := []) (st := []) 0 mF_wg rfl dX9_think_1 rfl kkX9 (by decide) rfl vX9_still lkX9_87 (rmL rfl rfl) (tho_still_c q n X) rfl rfl (Nat.le_of_ble_eq_true rfl) (fun X1 => ?_)
  refine g_iconst dX9_think_4 rfl kic_0 ?_
  refine g_istore_n (lv' := [(2, .int (0 : Int32)), (0, .ref (q.ad 26)), (1, .int v1)]) dX9_think_5 rfl rfl (Nat.le_of_ble_eq_true rfl) rfl ?_
  refine g_sub [1, 2, 0] rfl ?_
  refine tho_think_L6_g q n n v1 (0 : Int32) X1
def tho_widestTwo_L23_B (n : Nat) (X : St) (k68 : Int32 → Int32 → Int32 → Option (Int32)) (rec : Int32 → Int32 → Int32 → Int32 → Option (Int32)) (v1 : Int32) (v2 : Int32) (v3 : Int32) (v4 : Int32) : Option (Int32) :=
(if v4 < (poo_many X) then
((tho_between v3 v4 X).bind fun c1 =>
(if v1 < c1 then
((tho_between v3 v4 X).bind fun c2 =>
(rec c2 (((10 : Int32) * v3) + v4) v3 (v4 + (1 : Int32))))
else
(rec v1 v2 v3 (v4 + (1 : Int32)))))
else
(k68 v1 v2 v3))
def tho_widestTwo_L23 (n : Nat) (X : St) (k68 : Int32 → Int32 → Int32 → Option (Int32)) : Nat → Int32 → Int32 → Int32 → Int32 → Option (Int32)
  | 0 => fun _ _ _ _ => none
  | w + 1 => tho_widestTwo_L23_B n X k68 (tho_widestTwo_L23 n X k68 w)
def tho_widestTwo_L7_B (n : Nat) (X : St) (rec : Int32 → Int32 → Int32 → Option (Int32)) (v1 : Int32) (v2 : Int32) (v3 : Int32) : Option (Int32) :=
(if v3 < (poo_many X) then
(tho_widestTwo_L23 n X (fun v3 v4 v5 =>
(rec v3 v4 (v5 + (1 : Int32)))) n v1 v2 v3 (v3 + (1 : Int32)))
else
(some v2))
def tho_widestTwo_L7 (n : Nat) (X : St) : Nat → Int32 → Int32 → Int32 → Option (Int32)
  | 0 => fun _ _ _ => none
  | w + 1 => tho_widestTwo_L7_B n X (tho_widestTwo_L7 n X w)
def tho_widestTwo (n : Nat) (X : St) : Option (Int32) :=
  (tho_widestTwo_L7 n X n (-1 : Int32) (-2 : Int32) (0 : Int32))
theorem tho_widestTwo_L23_Bg (q : Th) (n : Nat) (X : St) (k68 : Int32 → Int32 → Int32 → Option (Int32)) (hk68 : ∀ v1 v2 v3, G q (mF q nX9_widestTwo RX9 3) (fir X) 68 [(0, .ref (q.ad 26)), (1, .int v1), (2, .int v2), (3, .int v3)] [] X (k68 v1 v2 v3)) (rec : Int32 → Int32 → Int32 → Int32 → Option (Int32)) (hrec : ∀ v1 v2 v3 v4, G q (mF q nX9_widestTwo RX9 3) (fir X) 23 [(0, .ref (q.ad 26)), (1, .int v1), (2, .int v2), (3, .int v3), (4, .int v4)] [] X (rec v1 v2 v3 v4)) (v1 : Int32) (v2 : Int32) (v3 : Int32) (v4 : Int32) : G q (mF q nX9_widestTwo RX9 3) (fir X) 23 [(0, .ref (q.ad 26)), (1, .int v1), (2, .int v2), (3, .int v3), (4, .int v4)] [] X (tho_widestTwo_L23_B n X k68 rec v1 v2 v3 v4) := by
  unfold tho_widestTwo_L23_B
  refine g_iload 4 dX9_widestTwo_23 rfl rfl ?_
  refine g_aload_n 0 dX9_widestTwo_25 rfl rfl ?_
  refine g_getR 26 0 1 rfl dX9_widestTwo_26 rfl kkX9 flX9_32 (by decide) rfl rfl (by decide) rfl ?_
  refine g_cVIt (As := []) (st := [.int v4]) 0 mF_wg rfl dX9_widestTwo_29 rfl kkX5 (by decide) rfl vX5_many lkX9_44 (rmL rfl rfl) (poo_many_c q X) rfl rfl (Nat.le_of_ble_eq_true rfl) ?_
  refine g_icmp_ge dX9_widestTwo_32 rfl rfl ?_ ?_
  · refine g_aload_n 0 dX9_widestTwo_35 rfl rfl ?_
    refine g_iload_n 3 dX9_widestTwo_36 rfl rfl ?_
    refine g_iload 4 dX9_widestTwo_37 rfl rfl ?_
    refine g_cVIr (As := [.int v3, .int v4]) (st := []) 2 mF_wg rfl dX9_widestTwo_39 rfl kkX9 (by decide) rfl vX9_between lkX9_108 (rmL rfl rfl) (tho_between_c q v3 v4 X) rfl rfl (Nat.le_of_ble_eq_true rfl) (fun c1 => ?_)
    refine g_iload_n 1 dX9_widestTwo_42 rfl rfl ?_
    refine g_icmp_le dX9_widestTwo_43 rfl rfl ?_ ?_
    · refine g_aload_n 0 dX9_widestTwo_46 rfl rfl ?_
      refine g_iload_n 3 dX9_widestTwo_47 rfl rfl ?_
      refine g_iload 4 dX9_widestTwo_48 rfl rfl ?_
      refine g_cVIr (As := [.int v3, .int v4]) (st := []) 2 mF_wg rfl dX9_widestTwo_50 rfl kkX9 (by decide) rfl vX9_between lkX9_108 (rmL rfl rfl) (tho_between_c q v3 v4 X) rfl rfl (Nat.le_of_ble_eq_true rfl) (fun c2 => ?_)
      refine g_istore_n (lv' := [(1, .int c2), (0, .ref (q.ad 26)), (2, .int v2), (3, .int v3), (4, .int v4)]) dX9_widestTwo_53 rfl rfl (Nat.le_of_ble_eq_true rfl) rfl ?_
      refine g_bipush dX9_widestTwo_54 rfl kbi_10 ?_
      refine g_iload_n 3 dX9_widestTwo_56 rfl rfl ?_
      refine g_imul dX9_widestTwo_57 rfl ?_
      refine g_iload 4 dX9_widestTwo_58 rfl rfl ?_
      refine g_iadd dX9_widestTwo_60 rfl ?_
      refine g_istore_n (lv' := [(2, .int (((10 : Int32) * v3) + v4)), (1, .int c2), (0, .ref (q.ad 26)), (3, .int v3), (4, .int v4)]) dX9_widestTwo_61 rfl rfl (Nat.le_of_ble_eq_true rfl) rfl ?_
      refine g_inc (lv' := [(4, .int (v4 + (1 : Int32))), (2, .int (((10 : Int32) * v3) + v4)), (1, .int c2), (0, .ref (q.ad 26)), (3, .int v3)]) 4 dX9_widestTwo_62 rfl rfl kic_1 (Nat.le_of_ble_eq_true rfl) rfl ?_
      refine g_goto dX9_widestTwo_65 rfl ?_
      refine g_sub [3, 2, 1, 4, 0] rfl ?_
      exact hrec c2 (((10 : Int32) * v3) + v4) v3 (v4 + (1 : Int32))
    refine g_inc (lv' := [(4, .int (v4 + (1 : Int32))), (0, .ref (q.ad 26)), (1, .int v1), (2, .int v2), (3, .int v3)]) 4 dX9_widestTwo_62 rfl rfl kic_1 (Nat.le_of_ble_eq_true rfl) rfl ?_
    refine g_goto dX9_widestTwo_65 rfl ?_
    refine g_sub [1, 2, 3, 4, 0] rfl ?_
    exact hrec v1 v2 v3 (v4 + (1 : Int32))
  refine g_sub [0, 1, 2, 3] rfl ?_
  exact hk68 v1 v2 v3
theorem tho_widestTwo_L23_g (q : Th) (n : Nat) (X : St) (k68 : Int32 → Int32 → Int32 → Option (Int32)) (hk68 : ∀ v1 v2 v3, G q (mF q nX9_widestTwo RX9 3) (fir X) 68 [(0, .ref (q.ad 26)), (1, .int v1), (2, .int v2), (3, .int v3)] [] X (k68 v1 v2 v3)) : ∀ (w : Nat) (v1 : Int32) (v2 : Int32) (v3 : Int32) (v4 : Int32), G q (mF q nX9_widestTwo RX9 3) (fir X) 23 [(0, .ref (q.ad 26)), (1, .int v1), (2, .int v2), (3, .int v3), (4, .int v4)] [] X (tho_widestTwo_L23 n X k68 w v1 v2 v3 v4) := by
  intro w
  induction w with
  | zero => intro v1 v2 v3 v4; exact g_none
  | succ w ih => intro v1 v2 v3 v4; exact tho_widestTwo_L23_Bg q n X k68 hk68 _ ih v1 v2 v3 v4
theorem tho_widestTwo_L7_Bg (q : Th) (n : Nat) (X : St) (rec : Int32 → Int32 → Int32 → Option (Int32)) (hrec : ∀ v1 v2 v3, G q (mF q nX9_widestTwo RX9 3) (fir X) 7 [(0, .ref (q.ad 26)), (1, .int v1), (2, .int v2), (3, .int v3)] [] X (rec v1 v2 v3)) (v1 : Int32) (v2 : Int32) (v3 : Int32) : G q (mF q nX9_widestTwo RX9 3) (fir X) 7 [(0, .ref (q.ad 26)), (1, .int v1), (2, .int v2), (3, .int v3)] [] X (tho_widestTwo_L7_B n X rec v1 v2 v3) := by
  unfold tho_widestTwo_L7_B
  refine g_iload_n 3 dX9_widestTwo_7 rfl rfl ?_
  refine g_aload_n 0 dX9_widestTwo_8 rfl rfl ?_
  refine g_getR 26 0 1 rfl dX9_widestTwo_9 rfl kkX9 flX9_32 (by decide) rfl rfl (by decide) rfl ?_
  refine g_cVIt (As := []) (st := [.int v3]) 0 mF_wg rfl dX9_widestTwo_12 rfl kkX5 (by decide) rfl vX5_many lkX9_44 (rmL rfl rfl) (poo_many_c q X) rfl rfl (Nat.le_of_ble_eq_true rfl) ?_
  refine g_icmp_ge dX9_widestTwo_15 rfl rfl ?_ ?_
  · refine g_iload_n 3 dX9_widestTwo_18 rfl rfl ?_
    refine g_iconst dX9_widestTwo_19 rfl kic_1 ?_
    refine g_iadd dX9_widestTwo_20 rfl ?_
    refine g_istore (lv' := [(4, .int (v3 + (1 : Int32))), (0, .ref (q.ad 26)), (1, .int v1), (2, .int v2), (3, .int v3)]) dX9_widestTwo_21 rfl (Nat.le_of_ble_eq_true rfl) rfl ?_
    refine g_sub [1, 2, 3, 4, 0] rfl ?_
    refine tho_widestTwo_L23_g q n X _ (fun v3 v4 v5 => ?_) n v1 v2 v3 (v3 + (1 : Int32))
    refine g_inc (lv' := [(3, .int (v5 + (1 : Int32))), (0, .ref (q.ad 26)), (1, .int v3), (2, .int v4)]) 3 dX9_widestTwo_68 rfl rfl kic_1 (Nat.le_of_ble_eq_true rfl) rfl ?_
    refine g_goto dX9_widestTwo_71 rfl ?_
    refine g_sub [1, 2, 3, 0] rfl ?_
    exact hrec v3 v4 (v5 + (1 : Int32))
  refine g_iload_n 2 dX9_widestTwo_74 rfl rfl ?_
  exact g_iret dX9_widestTwo_75 rfl rfl
theorem tho_widestTwo_L7_g (q : Th) (n : Nat) (X : St) : ∀ (w : Nat) (v1 : Int32) (v2 : Int32) (v3 : Int32), G q (mF q nX9_widestTwo RX9 3) (fir X) 7 [(0, .ref (q.ad 26)), (1, .int v1), (2, .int v2), (3, .int v3)] [] X (tho_widestTwo_L7 n X w v1 v2 v3) := by
  intro w
  induction w with
  | zero => intro v1 v2 v3; exact g_none
  | succ w ih => intro v1 v2 v3; exact tho_widestTwo_L7_Bg q n X _ ih v1 v2 v3
theorem tho_widestTwo_c (q : Th) (n : Nat) (X : St) : Ct q nX9_widestTwo 3 (fir X) [.ref (q.ad 26)] X (tho_widestTwo n X) := by
  refine ct_of (by decide +kernel) (Nat.le_of_ble_eq_true rfl) ?_
  unfold tho_widestTwo
  show G q _ _ 0 [(0, .ref (q.ad 26))] [] X _
  refine g_iconst dX9_widestTwo_0 rfl kic_m1 ?_
  refine g_istore_n (lv' := [(1, .int (-1 : Int32)), (0, .ref (q.ad 26))]) dX9_widestTwo_1 rfl rfl (Nat.le_of_ble_eq_true rfl) rfl ?_
  refine g_bipush dX9_widestTwo_2 rfl kbi_m2 ?_
  refine g_istore_n (lv' := [(2, .int (-2 : Int32)), (1, .int (-1 : Int32)), (0, .ref (q.ad 26))]) dX9_widestTwo_4 rfl rfl (Nat.le_of_ble_eq_true rfl) rfl ?_
  refine g_iconst dX9_widestTwo_5 rfl kic_0 ?_
  refine g_istore_n (lv' := [(3, .int (0 : Int32)), (2, .int (-2 : Int32)), (1, .int (-1 : Int32)), (0, .ref (q.ad 26))]) dX9_widestTwo_6 rfl rfl (Nat.le_of_ble_eq_true rfl) rfl ?_
  refine g_sub [3, 2, 1, 0] rfl ?_
  refine tho_widestTwo_L7_g q n X n (-1 : Int32) (-2 : Int32) (0 : Int32)
def tho_firstSeen_L6_B (n : Nat) (rec : Int32 → St → Option (Int32 × St)) (v1 : Int32) (X : St) : Option (Int32 × St) :=
(if v1 < (rou_counts X) then
((rou_actAt v1 X).bind fun c2 =>
((tho_step n c2 X).bind fun X3 =>
((tho_widest n X3).bind fun c4 =>
(if c4 < (X3.1 26 10) then
(rec (v1 + (1 : Int32)) X3)
else
(some (v1, X3))))))
else
(some ((-2 : Int32), X)))
def tho_firstSeen_L6 (n : Nat) : Nat → Int32 → St → Option (Int32 × St)
  | 0 => fun _ _ => none
  | w + 1 => tho_firstSeen_L6_B n (tho_firstSeen_L6 n w)
def tho_firstSeen (n : Nat) (X : St) : Option (Int32 × St) :=
  ((tho_still n X).bind fun X1 =>
  (tho_firstSeen_L6 n n (0 : Int32) X1))
theorem tho_firstSeen_L6_Bg (q : Th) (n : Nat) (rec : Int32 → St → Option (Int32 × St)) (hrec : ∀ v1 X, G q (mF q nX9_firstSeen RX9 4) fiw 6 [(0, .ref (q.ad 26)), (1, .int v1)] [] X (rec v1 X)) (v1 : Int32) (X : St) : G q (mF q nX9_firstSeen RX9 4) fiw 6 [(0, .ref (q.ad 26)), (1, .int v1)] [] X (tho_firstSeen_L6_B n rec v1 X) := by
  unfold tho_firstSeen_L6_B
  refine g_iload_n 1 dX9_firstSeen_6 rfl rfl ?_
  refine g_aload_n 0 dX9_firstSeen_7 rfl rfl ?_
  refine g_getR 26 2 24 rfl dX9_firstSeen_8 rfl kkX9 flX9_40 (by decide) rfl rfl (by decide) rfl ?_
  refine g_cVIt (As := []) (st := [.int v1]) 0 mF_wg rfl dX9_firstSeen_11 rfl kkX6 (by decide) rfl vX6_counts lkX9_90 (rmL rfl rfl) (rou_counts_c q X) rfl rfl (Nat.le_of_ble_eq_true rfl) ?_
  refine g_icmp_ge dX9_firstSeen_14 rfl rfl ?_ ?_
  · refine g_aload_n 0 dX9_firstSeen_17 rfl rfl ?_
    refine g_aload_n 0 dX9_firstSeen_18 rfl rfl ?_
    refine g_getR 26 2 24 rfl dX9_firstSeen_19 rfl kkX9 flX9_40 (by decide) rfl rfl (by decide) rfl ?_
    refine g_iload_n 1 dX9_firstSeen_22 rfl rfl ?_
    refine g_cVIr (As := [.int v1]) (st := [.ref (q.ad 26)]) 1 mF_wg rfl dX9_firstSeen_23 rfl kkX6 (by decide) rfl vX6_actAt lkX9_98 (rmL rfl rfl) (rou_actAt_c q v1 X) rfl rfl (Nat.le_of_ble_eq_true rfl) (fun c2 => ?_)
    refine g_cVVw (As := [.int c2]) (st := []) 1 mF_wg rfl dX9_firstSeen_26 rfl kkX9 (by decide) rfl vX9_step lkX9_101 (rmL rfl rfl) (tho_step_c q n c2 X) rfl rfl (Nat.le_of_ble_eq_true rfl) (fun X3 => ?_)
    refine g_aload_n 0 dX9_firstSeen_29 rfl rfl ?_
    refine g_cVIr (As := []) (st := []) 0 mF_wg rfl dX9_firstSeen_30 rfl kkX9 (by decide) rfl vX9_widest lkX9_114 (rmL rfl rfl) (tho_widest_c q n X3) rfl rfl (Nat.le_of_ble_eq_true rfl) (fun c4 => ?_)
    refine g_aload_n 0 dX9_firstSeen_33 rfl rfl ?_
    refine g_getI 26 10 rfl dX9_firstSeen_34 rfl kkX9 flX9_58 (by decide) rfl rfl (by decide) rfl ?_
    refine g_icmp_lt dX9_firstSeen_37 rfl rfl ?_ ?_
    · refine g_inc (lv' := [(1, .int (v1 + (1 : Int32))), (0, .ref (q.ad 26))]) 1 dX9_firstSeen_42 rfl rfl kic_1 (Nat.le_of_ble_eq_true rfl) rfl ?_
      refine g_goto dX9_firstSeen_45 rfl ?_
      refine g_sub [1, 0] rfl ?_
      exact hrec (v1 + (1 : Int32)) X3
    refine g_iload_n 1 dX9_firstSeen_40 rfl rfl ?_
    exact g_iret dX9_firstSeen_41 rfl rfl
  refine g_bipush dX9_firstSeen_48 rfl kbi_m2 ?_
  exact g_iret dX9_firstSeen_50 rfl rfl
theorem tho_firstSeen_L6_g (q : Th) (n : Nat) : ∀ (w : Nat) (v1 : Int32) (X : St), G q (mF q nX9_firstSeen RX9 4) fiw 6 [(0, .ref (q.ad 26)), (1, .int v1)] [] X (tho_firstSeen_L6 n w v1 X) := by
  intro w
  induction w with
  | zero => intro v1 X; exact g_none
  | succ w ih => intro v1 X; exact tho_firstSeen_L6_Bg q n _ ih v1 X
theorem tho_firstSeen_c (q : Th) (n : Nat) (X : St) : Ct q nX9_firstSeen 4 fiw [.ref (q.ad 26)] X (tho_firstSeen n X) := by
  refine ct_of (by decide +kernel) (Nat.le_of_ble_eq_true rfl) ?_
  unfold tho_firstSeen
  show G q _ _ 0 [(0, .ref (q.ad 26))] [] X _
  refine g_aload_n 0 dX9_firstSeen_0 rfl rfl ?_
  refine g_cVVw (As := []) (st := []) 0 mF_wg rfl dX9_firstSeen_1 rfl kkX9 (by decide) rfl vX9_still lkX9_87 (rmL rfl rfl) (tho_still_c q n X) rfl rfl (Nat.le_of_ble_eq_true rfl) (fun X1 => ?_)
  refine g_iconst dX9_firstSeen_4 rfl kic_0 ?_
  refine g_istore_n (lv' := [(1, .int (0 : Int32)), (0, .ref (q.ad 26))]) dX9_firstSeen_5 rfl rfl (Nat.le_of_ble_eq_true rfl) rfl ?_
  refine g_sub [1, 0] rfl ?_
  refine tho_firstSeen_L6_g q n n (0 : Int32) X1
def tho_marksOfTwo (n : Nat) (v1 : Int32) (v2 : Int32) (v3 : Int32) (v4 : Int32) (v5 : Int32) (X : St) : Option (Int32 × St) :=
  (if (poo_has v1 X) = 0 then
  (some ((0 : Int32), X))
  else
  (if (poo_has v2 X) = 0 then
  (some ((0 : Int32), X))
  else
  (if inB v1 8 then
  (if okI (31 + nx v1) v2 then
  (if inB v1 8 then
  (if okI (40 + nx v1) v2 then
  ((rul_marks n v3 v4 (X.1 (31 + nx v1) (nx v2)) (X.1 (40 + nx v1) (nx v2)) v5 (X.1 26 10) X).bind fun (c2, X1) =>
  (some (c2, X1))) else none) else none) else none) else none)))
theorem tho_marksOfTwo_c (q : Th) (n : Nat) (v1 : Int32) (v2 : Int32) (v3 : Int32) (v4 : Int32) (v5 : Int32) (X : St) : Ct q nX9_marksOfTwo 4 fiw [.ref (q.ad 26), .int v1, .int v2, .int v3, .int v4, .int v5] X (tho_marksOfTwo n v1 v2 v3 v4 v5 X) := by
  refine ct_of (by decide +kernel) (Nat.le_of_ble_eq_true rfl) ?_
  unfold tho_marksOfTwo
  show G q _ _ 0 [(0, .ref (q.ad 26)), (1, .int v1), (2, .int v2), (3, .int v3), (4, .int v4), (5, .int v5)] [] X _
  refine g_aload_n 0 dX9_marksOfTwo_0 rfl rfl ?_
  refine g_getR 26 0 1 rfl dX9_marksOfTwo_1 rfl kkX9 flX9_32 (by decide) rfl rfl (by decide) rfl ?_
  refine g_iload_n 1 dX9_marksOfTwo_4 rfl rfl ?_
  refine g_cVIt (As := [.int v1]) (st := []) 1 mF_wg rfl dX9_marksOfTwo_5 rfl kkX5 (by decide) rfl vX5_has lkX9_83 (rmL rfl rfl) (poo_has_c q v1 X) rfl rfl (Nat.le_of_ble_eq_true rfl) ?_
  refine g_if_eq dX9_marksOfTwo_8 rfl rfl ?_ ?_
  · refine g_iconst dX9_marksOfTwo_22 rfl kic_0 ?_
    exact g_iret dX9_marksOfTwo_23 rfl rfl
  refine g_aload_n 0 dX9_marksOfTwo_11 rfl rfl ?_
  refine g_getR 26 0 1 rfl dX9_marksOfTwo_12 rfl kkX9 flX9_32 (by decide) rfl rfl (by decide) rfl ?_
  refine g_iload_n 2 dX9_marksOfTwo_15 rfl rfl ?_
  refine g_cVIt (As := [.int v2]) (st := []) 1 mF_wg rfl dX9_marksOfTwo_16 rfl kkX5 (by decide) rfl vX5_has lkX9_83 (rmL rfl rfl) (poo_has_c q v2 X) rfl rfl (Nat.le_of_ble_eq_true rfl) ?_
  refine g_if_ne dX9_marksOfTwo_19 rfl rfl ?_ ?_
  · refine g_iconst dX9_marksOfTwo_22 rfl kic_0 ?_
    exact g_iret dX9_marksOfTwo_23 rfl rfl
  refine g_aload_n 0 dX9_marksOfTwo_24 rfl rfl ?_
  refine g_getR 26 1 20 rfl dX9_marksOfTwo_25 rfl kkX9 flX9_36 (by decide) rfl rfl (by decide) rfl ?_
  refine g_iload_n 3 dX9_marksOfTwo_28 rfl rfl ?_
  refine g_iload 4 dX9_marksOfTwo_29 rfl rfl ?_
  refine g_aload_n 0 dX9_marksOfTwo_31 rfl rfl ?_
  refine g_getR 26 6 30 rfl dX9_marksOfTwo_32 rfl kkX9 flX9_23 (by decide) rfl rfl (by decide) rfl ?_
  refine g_iload_n 1 dX9_marksOfTwo_35 rfl rfl ?_
  refine g_aald dX9_marksOfTwo_36 rfl (by decide) (by decide) rfl rfl ?_
  refine g_iload_n 2 dX9_marksOfTwo_37 rfl rfl ?_
  refine g_ialdD dX9_marksOfTwo_38 rfl ?_
  refine g_aload_n 0 dX9_marksOfTwo_39 rfl rfl ?_
  refine g_getR 26 7 39 rfl dX9_marksOfTwo_40 rfl kkX9 flX9_26 (by decide) rfl rfl (by decide) rfl ?_
  refine g_iload_n 1 dX9_marksOfTwo_43 rfl rfl ?_
  refine g_aald dX9_marksOfTwo_44 rfl (by decide) (by decide) rfl rfl ?_
  refine g_iload_n 2 dX9_marksOfTwo_45 rfl rfl ?_
  refine g_ialdD dX9_marksOfTwo_46 rfl ?_
  refine g_iload 5 dX9_marksOfTwo_47 rfl rfl ?_
  refine g_aload_n 0 dX9_marksOfTwo_49 rfl rfl ?_
  refine g_getI 26 10 rfl dX9_marksOfTwo_50 rfl kkX9 flX9_58 (by decide) rfl rfl (by decide) rfl ?_
  refine g_cVIw (As := [.int v3, .int v4, .int (X.1 (31 + nx v1) (nx v2)), .int (X.1 (40 + nx v1) (nx v2)), .int v5, .int (X.1 26 10)]) (st := []) 6 mF_wg rfl dX9_marksOfTwo_53 rfl kkX4 (by decide) rfl vX4_marks lkX9_117 (rmL rfl rfl) (rul_marks_c q n v3 v4 (X.1 (31 + nx v1) (nx v2)) (X.1 (40 + nx v1) (nx v2)) v5 (X.1 26 10) X) rfl rfl (Nat.le_of_ble_eq_true rfl) (fun c2 X1 => ?_)
  exact g_iret dX9_marksOfTwo_56 rfl rfl
def tho_marksBehind_L32_B (n : Nat) (k113 : Int32 → Int32 → Int32 → Int32 → St → Option (Int32 × St)) (rec : Int32 → Int32 → Int32 → Int32 → Int32 → St → Option (Int32 × St)) (v1 : Int32) (v2 : Int32) (v3 : Int32) (v4 : Int32) (v5 : Int32) (X : St) : Option (Int32 × St) :=
(if v5 < (poo_many X) then
((tho_between v4 v5 X).bind fun c2 =>
(if inB v4 8 then
(if okI (31 + nx v4) v5 then
(if inB v4 8 then
(if okI (40 + nx v4) v5 then
((rul_marks n c2 v2 (X.1 (31 + nx v4) (nx v5)) (X.1 (40 + nx v4) (nx v5)) v1 (X.1 26 10) X).bind fun (c4, X3) =>
(if inB v4 8 then
(if okI (49 + nx v4) v5 then
(if okI (49 + nx v4) v5 then
((some (stI X3 (49 + nx v4) (nx v5) ((X3.1 (49 + nx v4) (nx v5)) + c4))).bind fun X5 =>
(rec v1 v2 (v3 + c4) v4 (v5 + (1 : Int32)) X5)) else none) else none) else none)) else none) else none) else none) else none))
else
(k113 v1 v2 v3 v4 X))
def tho_marksBehind_L32 (n : Nat) (k113 : Int32 → Int32 → Int32 → Int32 → St → Option (Int32 × St)) : Nat → Int32 → Int32 → Int32 → Int32 → Int32 → St → Option (Int32 × St)
  | 0 => fun _ _ _ _ _ _ => none
  | w + 1 => tho_marksBehind_L32_B n k113 (tho_marksBehind_L32 n k113 w)
def tho_marksBehind_L14_B (n : Nat) (rec : Int32 → Int32 → Int32 → Int32 → St → Option (Int32 × St)) (v1 : Int32) (v2 : Int32) (v3 : Int32) (v4 : Int32) (X : St) : Option (Int32 × St) :=
(if v4 < (poo_many X) then
(tho_marksBehind_L32 n (fun v7 v8 v9 v10 X6 =>
(rec v7 v8 v9 (v10 + (1 : Int32)) X6)) n v1 v2 v3 v4 (v4 + (1 : Int32)) X)
else
(some (v3, X)))
def tho_marksBehind_L14 (n : Nat) : Nat → Int32 → Int32 → Int32 → Int32 → St → Option (Int32 × St)
  | 0 => fun _ _ _ _ _ => none
  | w + 1 => tho_marksBehind_L14_B n (tho_marksBehind_L14 n w)
def tho_marksBehind (n : Nat) (v1 : Int32) (X : St) : Option (Int32 × St) :=
  ((rou_actAt v1 X).bind fun c1 =>
  (tho_marksBehind_L14 n n v1 c1 (0 : Int32) (0 : Int32) X))
theorem tho_marksBehind_L32_Bg (q : Th) (n : Nat) (k113 : Int32 → Int32 → Int32 → Int32 → St → Option (Int32 × St)) (hk113 : ∀ v1 v2 v3 v4 X, G q (mF q nX9_marksBehind RX9 4) fiw 113 [(0, .ref (q.ad 26)), (1, .int v1), (2, .int v2), (3, .int v3), (4, .int v4)] [] X (k113 v1 v2 v3 v4 X)) (rec : Int32 → Int32 → Int32 → Int32 → Int32 → St → Option (Int32 × St)) (hrec : ∀ v1 v2 v3 v4 v5 X, G q (mF q nX9_marksBehind RX9 4) fiw 32 [(0, .ref (q.ad 26)), (1, .int v1), (2, .int v2), (3, .int v3), (4, .int v4), (5, .int v5)] [] X (rec v1 v2 v3 v4 v5 X)) (v1 : Int32) (v2 : Int32) (v3 : Int32) (v4 : Int32) (v5 : Int32) (X : St) : G q (mF q nX9_marksBehind RX9 4) fiw 32 [(0, .ref (q.ad 26)), (1, .int v1), (2, .int v2), (3, .int v3), (4, .int v4), (5, .int v5)] [] X (tho_marksBehind_L32_B n k113 rec v1 v2 v3 v4 v5 X) := by
  unfold tho_marksBehind_L32_B
  refine g_iload 5 dX9_marksBehind_32 rfl rfl ?_
  refine g_aload_n 0 dX9_marksBehind_34 rfl rfl ?_
  refine g_getR 26 0 1 rfl dX9_marksBehind_35 rfl kkX9 flX9_32 (by decide) rfl rfl (by decide) rfl ?_
  refine g_cVIt (As := []) (st := [.int v5]) 0 mF_wg rfl dX9_marksBehind_38 rfl kkX5 (by decide) rfl vX5_many lkX9_44 (rmL rfl rfl) (poo_many_c q X) rfl rfl (Nat.le_of_ble_eq_true rfl) ?_
  refine g_icmp_ge dX9_marksBehind_41 rfl rfl ?_ ?_
  · refine g_aload_n 0 dX9_marksBehind_44 rfl rfl ?_
    refine g_getR 26 1 20 rfl dX9_marksBehind_45 rfl kkX9 flX9_36 (by decide) rfl rfl (by decide) rfl ?_
    refine g_aload_n 0 dX9_marksBehind_48 rfl rfl ?_
    refine g_iload 4 dX9_marksBehind_49 rfl rfl ?_
    refine g_iload 5 dX9_marksBehind_51 rfl rfl ?_
    refine g_cVIr (As := [.int v4, .int v5]) (st := [.ref (q.ad 20)]) 2 mF_wg rfl dX9_marksBehind_53 rfl kkX9 (by decide) rfl vX9_between lkX9_108 (rmL rfl rfl) (tho_between_c q v4 v5 X) rfl rfl (Nat.le_of_ble_eq_true rfl) (fun c2 => ?_)
    refine g_iload_n 2 dX9_marksBehind_56 rfl rfl ?_
    refine g_aload_n 0 dX9_marksBehind_57 rfl rfl ?_
    refine g_getR 26 6 30 rfl dX9_marksBehind_58 rfl kkX9 flX9_23 (by decide) rfl rfl (by decide) rfl ?_
    refine g_iload 4 dX9_marksBehind_61 rfl rfl ?_
    refine g_aald dX9_marksBehind_63 rfl (by decide) (by decide) rfl rfl ?_
    refine g_iload 5 dX9_marksBehind_64 rfl rfl ?_
    refine g_ialdD dX9_marksBehind_66 rfl ?_
    refine g_aload_n 0 dX9_marksBehind_67 rfl rfl ?_
    refine g_getR 26 7 39 rfl dX9_marksBehind_68 rfl kkX9 flX9_26 (by decide) rfl rfl (by decide) rfl ?_
    refine g_iload 4 dX9_marksBehind_71 rfl rfl ?_
    refine g_aald dX9_marksBehind_73 rfl (by decide) (by decide) rfl rfl ?_
    refine g_iload 5 dX9_marksBehind_74 rfl rfl ?_
    refine g_ialdD dX9_marksBehind_76 rfl ?_
    refine g_iload_n 1 dX9_marksBehind_77 rfl rfl ?_
    refine g_aload_n 0 dX9_marksBehind_78 rfl rfl ?_
    refine g_getI 26 10 rfl dX9_marksBehind_79 rfl kkX9 flX9_58 (by decide) rfl rfl (by decide) rfl ?_
    refine g_cVIw (As := [.int c2, .int v2, .int (X.1 (31 + nx v4) (nx v5)), .int (X.1 (40 + nx v4) (nx v5)), .int v1, .int (X.1 26 10)]) (st := []) 6 mF_wg rfl dX9_marksBehind_82 rfl kkX4 (by decide) rfl vX4_marks lkX9_117 (rmL rfl rfl) (rul_marks_c q n c2 v2 (X.1 (31 + nx v4) (nx v5)) (X.1 (40 + nx v4) (nx v5)) v1 (X.1 26 10) X) rfl rfl (Nat.le_of_ble_eq_true rfl) (fun c4 X3 => ?_)
    refine g_istore (lv' := [(6, .int c4), (0, .ref (q.ad 26)), (1, .int v1), (2, .int v2), (3, .int v3), (4, .int v4), (5, .int v5)]) dX9_marksBehind_85 rfl (Nat.le_of_ble_eq_true rfl) rfl ?_
    refine g_aload_n 1 dX9_marksBehind_87 rfl rfl ?_
    refine g_getR 26 8 48 rfl dX9_marksBehind_88 rfl kkX9 flX9_29 (by decide) rfl rfl (by decide) rfl ?_
    refine g_iload 5 dX9_marksBehind_91 rfl rfl ?_
    refine g_aald dX9_marksBehind_93 rfl (by decide) (by decide) rfl rfl ?_
    refine g_iload 6 dX9_marksBehind_94 rfl rfl ?_
    refine g_dup2 dX9_marksBehind_96 rfl rfl rfl ?_
    refine g_ialdD dX9_marksBehind_97 rfl ?_
    refine g_iload 0 dX9_marksBehind_98 rfl rfl ?_
    refine g_iadd dX9_marksBehind_100 rfl ?_
    refine g_iastD dX9_marksBehind_101 rfl ?_
    refine g_nmX (fun X5 => ?_)
    refine g_iload_n 4 dX9_marksBehind_102 rfl rfl ?_
    refine g_iload 0 dX9_marksBehind_103 rfl rfl ?_
    refine g_iadd dX9_marksBehind_105 rfl ?_
    refine g_istore_n (lv' := [(3, .int (v3 + c4)), (6, .int c4), (0, .ref (q.ad 26)), (1, .int v1), (2, .int v2), (4, .int v4), (5, .int v5)]) dX9_marksBehind_106 rfl rfl (Nat.le_of_ble_eq_true rfl) rfl ?_
    refine g_inc (lv' := [(5, .int (v5 + (1 : Int32))), (3, .int (v3 + c4)), (6, .int c4), (0, .ref (q.ad 26)), (1, .int v1), (2, .int v2), (4, .int v4)]) 6 dX9_marksBehind_107 rfl rfl kic_1 (Nat.le_of_ble_eq_true rfl) rfl ?_
    refine g_goto dX9_marksBehind_110 rfl ?_
    refine g_sub [3, 4, 5, 1, 6, 0] rfl ?_
    exact hrec v1 v2 (v3 + c4) v4 (v5 + (1 : Int32)) X5
  refine g_sub [0, 1, 2, 3, 4] rfl ?_
  exact hk113 v1 v2 v3 v4 X
theorem tho_marksBehind_L32_g (q : Th) (n : Nat) (k113 : Int32 → Int32 → Int32 → Int32 → St → Option (Int32 × St)) (hk113 : ∀ v1 v2 v3 v4 X, G q (mF q nX9_marksBehind RX9 4) fiw 113 [(0, .ref (q.ad 26)), (1, .int v1), (2, .int v2), (3, .int v3), (4, .int v4)] [] X (k113 v1 v2 v3 v4 X)) : ∀ (w : Nat) (v1 : Int32) (v2 : Int32) (v3 : Int32) (v4 : Int32) (v5 : Int32) (X : St), G q (mF q nX9_marksBehind RX9 4) fiw 32 [(0, .ref (q.ad 26)), (1, .int v1), (2, .int v2), (3, .int v3), (4, .int v4), (5, .int v5)] [] X (tho_marksBehind_L32 n k113 w v1 v2 v3 v4 v5 X) := by
  intro w
  induction w with
  | zero => intro v1 v2 v3 v4 v5 X; exact g_none
  | succ w ih => intro v1 v2 v3 v4 v5 X; exact tho_marksBehind_L32_Bg q n k113 hk113 _ ih v1 v2 v3 v4 v5 X
theorem tho_marksBehind_L14_Bg (q : Th) (n : Nat) (rec : Int32 → Int32 → Int32 → Int32 → St → Option (Int32 × St)) (hrec : ∀ v1 v2 v3 v4 X, G q (mF q nX9_marksBehind RX9 4) fiw 14 [(0, .ref (q.ad 26)), (1, .int v1), (2, .int v2), (3, .int v3), (4, .int v4)] [] X (rec v1 v2 v3 v4 X)) (v1 : Int32) (v2 : Int32) (v3 : Int32) (v4 : Int32) (X : St) : G q (mF q nX9_marksBehind RX9 4) fiw 14 [(0, .ref (q.ad 26)), (1, .int v1), (2, .int v2), (3, .int v3), (4, .int v4)] [] X (tho_marksBehind_L14_B n rec v1 v2 v3 v4 X) := by
  unfold tho_marksBehind_L14_B
  refine g_iload 4 dX9_marksBehind_14 rfl rfl ?_
  refine g_aload_n 0 dX9_marksBehind_16 rfl rfl ?_
  refine g_getR 26 0 1 rfl dX9_marksBehind_17 rfl kkX9 flX9_32 (by decide) rfl rfl (by decide) rfl ?_
  refine g_cVIt (As := []) (st := [.int v4]) 0 mF_wg rfl dX9_marksBehind_20 rfl kkX5 (by decide) rfl vX5_many lkX9_44 (rmL rfl rfl) (poo_many_c q X) rfl rfl (Nat.le_of_ble_eq_true rfl) ?_
  refine g_icmp_ge dX9_marksBehind_23 rfl rfl ?_ ?_
  · refine g_iload 4 dX9_marksBehind_26 rfl rfl ?_
    refine g_iconst dX9_marksBehind_28 rfl kic_1 ?_
    refine g_iadd dX9_marksBehind_29 rfl ?_
    refine g_istore (lv' := [(5, .int (v4 + (1 : Int32))), (0, .ref (q.ad 26)), (1, .int v1), (2, .int v2), (3, .int v3), (4, .int v4)]) dX9_marksBehind_30 rfl (Nat.le_of_ble_eq_true rfl) rfl ?_
    refine g_sub [1, 2, 3, 4, 5, 0] rfl ?_
    refine tho_marksBehind_L32_g q n _ (fun v7 v8 v9 v10 X6 => ?_) n v1 v2 v3 v4 (v4 + (1 : Int32)) X
    refine g_inc (lv' := [(4, .int (v10 + (1 : Int32))), (0, .ref (q.ad 26)), (1, .int v7), (2, .int v8), (3, .int v9)]) 4 dX9_marksBehind_113 rfl rfl kic_1 (Nat.le_of_ble_eq_true rfl) rfl ?_
    refine g_goto dX9_marksBehind_116 rfl ?_
    refine g_sub [1, 2, 3, 4, 0] rfl ?_
    exact hrec v7 v8 v9 (v10 + (1 : Int32)) X6
  refine g_iload_n 3 dX9_marksBehind_119 rfl rfl ?_
  exact g_iret dX9_marksBehind_120 rfl rfl
theorem tho_marksBehind_L14_g (q : Th) (n : Nat) : ∀ (w : Nat) (v1 : Int32) (v2 : Int32) (v3 : Int32) (v4 : Int32) (X : St), G q (mF q nX9_marksBehind RX9 4) fiw 14 [(0, .ref (q.ad 26)), (1, .int v1), (2, .int v2), (3, .int v3), (4, .int v4)] [] X (tho_marksBehind_L14 n w v1 v2 v3 v4 X) := by
  intro w
  induction w with
  | zero => intro v1 v2 v3 v4 X; exact g_none
  | succ w ih => intro v1 v2 v3 v4 X; exact tho_marksBehind_L14_Bg q n _ ih v1 v2 v3 v4 X
theorem tho_marksBehind_c (q : Th) (n : Nat) (v1 : Int32) (X : St) : Ct q nX9_marksBehind 4 fiw [.ref (q.ad 26), .int v1] X (tho_marksBehind n v1 X) := by
  refine ct_of (by decide +kernel) (Nat.le_of_ble_eq_true rfl) ?_
  unfold tho_marksBehind
  show G q _ _ 0 [(0, .ref (q.ad 26)), (1, .int v1)] [] X _
  refine g_aload_n 0 dX9_marksBehind_0 rfl rfl ?_
  refine g_getR 26 2 24 rfl dX9_marksBehind_1 rfl kkX9 flX9_40 (by decide) rfl rfl (by decide) rfl ?_
  refine g_iload_n 1 dX9_marksBehind_4 rfl rfl ?_
  refine g_cVIr (As := [.int v1]) (st := []) 1 mF_wg rfl dX9_marksBehind_5 rfl kkX6 (by decide) rfl vX6_actAt lkX9_98 (rmL rfl rfl) (rou_actAt_c q v1 X) rfl rfl (Nat.le_of_ble_eq_true rfl) (fun c1 => ?_)
  refine g_istore_n (lv' := [(2, .int c1), (0, .ref (q.ad 26)), (1, .int v1)]) dX9_marksBehind_8 rfl rfl (Nat.le_of_ble_eq_true rfl) rfl ?_
  refine g_iconst dX9_marksBehind_9 rfl kic_0 ?_
  refine g_istore_n (lv' := [(3, .int (0 : Int32)), (2, .int c1), (0, .ref (q.ad 26)), (1, .int v1)]) dX9_marksBehind_10 rfl rfl (Nat.le_of_ble_eq_true rfl) rfl ?_
  refine g_iconst dX9_marksBehind_11 rfl kic_0 ?_
  refine g_istore (lv' := [(4, .int (0 : Int32)), (3, .int (0 : Int32)), (2, .int c1), (0, .ref (q.ad 26)), (1, .int v1)]) dX9_marksBehind_12 rfl (Nat.le_of_ble_eq_true rfl) rfl ?_
  refine g_sub [3, 4, 2, 1, 0] rfl ?_
  refine tho_marksBehind_L14_g q n n v1 c1 (0 : Int32) (0 : Int32) X
def tho_lost_L16_B (n : Nat) (k37 : Int32 → Int32 → St → Option (Int32 × St)) (rec : Int32 → Int32 → Int32 → St → Option (Int32 × St)) (v1 : Int32) (v2 : Int32) (v3 : Int32) (X : St) : Option (Int32 × St) :=
(if v3 < (8 : Int32) then
(if inB v2 8 then
(if okI (49 + nx v2) v3 then
(rec v1 v2 (v3 + (1 : Int32)) (stI X (49 + nx v2) (nx v3) (0 : Int32))) else none) else none)
else
(k37 v1 v2 X))
def tho_lost_L16 (n : Nat) (k37 : Int32 → Int32 → St → Option (Int32 × St)) : Nat → Int32 → Int32 → Int32 → St → Option (Int32 × St)
  | 0 => fun _ _ _ _ => none
  | w + 1 => tho_lost_L16_B n k37 (tho_lost_L16 n k37 w)
def tho_lost_L8_B (n : Nat) (k43 : Int32 → St → Option (Int32 × St)) (rec : Int32 → Int32 → St → Option (Int32 × St)) (v1 : Int32) (v2 : Int32) (X : St) : Option (Int32 × St) :=
(if v2 < (8 : Int32) then
(tho_lost_L16 n (fun v3 v4 X2 =>
(rec v3 (v4 + (1 : Int32)) X2)) n v1 v2 (0 : Int32) X)
else
(k43 v1 X))
def tho_lost_L8 (n : Nat) (k43 : Int32 → St → Option (Int32 × St)) : Nat → Int32 → Int32 → St → Option (Int32 × St)
  | 0 => fun _ _ _ => none
  | w + 1 => tho_lost_L8_B n k43 (tho_lost_L8 n k43 w)
def tho_lost_L45_B (n : Nat) (rec : Int32 → Int32 → St → Option (Int32 × St)) (v1 : Int32) (v2 : Int32) (X : St) : Option (Int32 × St) :=
(if v2 < (rou_counts X) then
((rou_actAt v2 X).bind fun c7 =>
((tho_step n c7 X).bind fun X8 =>
(if v2 = (X8.1 26 12) then
(if (poo_has (X8.1 26 11) X8) = 0 then
((tho_marksBehind n v2 X8).bind fun (c10, X9) =>
(rec (v1 + c10) (v2 + (1 : Int32)) X9))
else
(if inB (X8.1 26 11) 8 then
(if inB (X8.1 26 11) 8 then
((some (stI X8 27 (nx (X8.1 26 11)) ((X8.1 27 (nx (X8.1 26 11))) + (X8.1 26 13)))).bind fun X11 =>
((tho_marksBehind n v2 X11).bind fun (c13, X12) =>
(rec (v1 + c13) (v2 + (1 : Int32)) X12))) else none) else none))
else
((tho_marksBehind n v2 X8).bind fun (c15, X14) =>
(rec (v1 + c15) (v2 + (1 : Int32)) X14)))))
else
(some (v1, X)))
def tho_lost_L45 (n : Nat) : Nat → Int32 → Int32 → St → Option (Int32 × St)
  | 0 => fun _ _ _ => none
  | w + 1 => tho_lost_L45_B n (tho_lost_L45 n w)
def tho_lost (n : Nat) (X : St) : Option (Int32 × St) :=
  ((tho_still n X).bind fun X1 =>
  (tho_lost_L8 n (fun v6 X5 =>
  (tho_lost_L45 n n v6 (0 : Int32) X5)) n (0 : Int32) (0 : Int32) X1))
theorem tho_lost_L16_Bg (q : Th) (n : Nat) (k37 : Int32 → Int32 → St → Option (Int32 × St)) (hk37 : ∀ v1 v2 X, G q (mF q nX9_lost RX9 5) fiw 37 [(0, .ref (q.ad 26)), (1, .int v1), (2, .int v2)] [] X (k37 v1 v2 X)) (rec : Int32 → Int32 → Int32 → St → Option (Int32 × St)) (hrec : ∀ v1 v2 v3 X, G q (mF q nX9_lost RX9 5) fiw 16 [(0, .ref (q.ad 26)), (1, .int v1), (2, .int v2), (3, .int v3)] [] X (rec v1 v2 v3 X)) (v1 : Int32) (v2 : Int32) (v3 : Int32) (X : St) : G q (mF q nX9_lost RX9 5) fiw 16 [(0, .ref (q.ad 26)), (1, .int v1), (2, .int v2), (3, .int v3)] [] X (tho_lost_L16_B n k37 rec v1 v2 v3 X) := by
  unfold tho_lost_L16_B
  refine g_iload_n 3 dX9_lost_16 rfl rfl ?_
  refine g_bipush dX9_lost_17 rfl kbi_8 ?_
  refine g_icmp_ge dX9_lost_19 rfl rfl ?_ ?_
  · refine g_aload_n 0 dX9_lost_22 rfl rfl ?_
    refine g_getR 26 8 48 rfl dX9_lost_23 rfl kkX9 flX9_29 (by decide) rfl rfl (by decide) rfl ?_
    refine g_iload_n 2 dX9_lost_26 rfl rfl ?_
    refine g_aald dX9_lost_27 rfl (by decide) (by decide) rfl rfl ?_
    refine g_iload_n 3 dX9_lost_28 rfl rfl ?_
    refine g_iconst dX9_lost_29 rfl kic_0 ?_
    refine g_iastD dX9_lost_30 rfl ?_
    refine g_inc (lv' := [(3, .int (v3 + (1 : Int32))), (0, .ref (q.ad 26)), (1, .int v1), (2, .int v2)]) 3 dX9_lost_31 rfl rfl kic_1 (Nat.le_of_ble_eq_true rfl) rfl ?_
    refine g_goto dX9_lost_34 rfl ?_
    refine g_sub [1, 2, 3, 0] rfl ?_
    exact hrec v1 v2 (v3 + (1 : Int32)) (stI X (49 + nx v2) (nx v3) (0 : Int32))
  refine g_sub [0, 1, 2] rfl ?_
  exact hk37 v1 v2 X
theorem tho_lost_L16_g (q : Th) (n : Nat) (k37 : Int32 → Int32 → St → Option (Int32 × St)) (hk37 : ∀ v1 v2 X, G q (mF q nX9_lost RX9 5) fiw 37 [(0, .ref (q.ad 26)), (1, .int v1), (2, .int v2)] [] X (k37 v1 v2 X)) : ∀ (w : Nat) (v1 : Int32) (v2 : Int32) (v3 : Int32) (X : St), G q (mF q nX9_lost RX9 5) fiw 16 [(0, .ref (q.ad 26)), (1, .int v1), (2, .int v2), (3, .int v3)] [] X (tho_lost_L16 n k37 w v1 v2 v3 X) := by
  intro w
  induction w with
  | zero => intro v1 v2 v3 X; exact g_none
  | succ w ih => intro v1 v2 v3 X; exact tho_lost_L16_Bg q n k37 hk37 _ ih v1 v2 v3 X
theorem tho_lost_L8_Bg (q : Th) (n : Nat) (k43 : Int32 → St → Option (Int32 × St)) (hk43 : ∀ v1 X, G q (mF q nX9_lost RX9 5) fiw 43 [(0, .ref (q.ad 26)), (1, .int v1)] [] X (k43 v1 X)) (rec : Int32 → Int32 → St → Option (Int32 × St)) (hrec : ∀ v1 v2 X, G q (mF q nX9_lost RX9 5) fiw 8 [(0, .ref (q.ad 26)), (1, .int v1), (2, .int v2)] [] X (rec v1 v2 X)) (v1 : Int32) (v2 : Int32) (X : St) : G q (mF q nX9_lost RX9 5) fiw 8 [(0, .ref (q.ad 26)), (1, .int v1), (2, .int v2)] [] X (tho_lost_L8_B n k43 rec v1 v2 X) := by
  unfold tho_lost_L8_B
  refine g_iload_n 2 dX9_lost_8 rfl rfl ?_
  refine g_bipush dX9_lost_9 rfl kbi_8 ?_
  refine g_icmp_ge dX9_lost_11 rfl rfl ?_ ?_
  · refine g_iconst dX9_lost_14 rfl kic_0 ?_
    refine g_istore_n (lv' := [(3, .int (0 : Int32)), (0, .ref (q.ad 26)), (1, .int v1), (2, .int v2)]) dX9_lost_15 rfl rfl (Nat.le_of_ble_eq_true rfl) rfl ?_
    refine g_sub [1, 2, 3, 0] rfl ?_
    refine tho_lost_L16_g q n _ (fun v3 v4 X2 => ?_) n v1 v2 (0 : Int32) X
    refine g_inc (lv' := [(2, .int (v4 + (1 : Int32))), (0, .ref (q.ad 26)), (1, .int v3)]) 2 dX9_lost_37 rfl rfl kic_1 (Nat.le_of_ble_eq_true rfl) rfl ?_
    refine g_goto dX9_lost_40 rfl ?_
    refine g_sub [1, 2, 0] rfl ?_
    exact hrec v3 (v4 + (1 : Int32)) X2
  refine g_sub [0, 1] rfl ?_
  exact hk43 v1 X
theorem tho_lost_L8_g (q : Th) (n : Nat) (k43 : Int32 → St → Option (Int32 × St)) (hk43 : ∀ v1 X, G q (mF q nX9_lost RX9 5) fiw 43 [(0, .ref (q.ad 26)), (1, .int v1)] [] X (k43 v1 X)) : ∀ (w : Nat) (v1 : Int32) (v2 : Int32) (X : St), G q (mF q nX9_lost RX9 5) fiw 8 [(0, .ref (q.ad 26)), (1, .int v1), (2, .int v2)] [] X (tho_lost_L8 n k43 w v1 v2 X) := by
  intro w
  induction w with
  | zero => intro v1 v2 X; exact g_none
  | succ w ih => intro v1 v2 X; exact tho_lost_L8_Bg q n k43 hk43 _ ih v1 v2 X
theorem tho_lost_L45_Bg (q : Th) (n : Nat) (rec : Int32 → Int32 → St → Option (Int32 × St)) (hrec : ∀ v1 v2 X, G q (mF q nX9_lost RX9 5) fiw 45 [(0, .ref (q.ad 26)), (1, .int v1), (2, .int v2)] [] X (rec v1 v2 X)) (v1 : Int32) (v2 : Int32) (X : St) : G q (mF q nX9_lost RX9 5) fiw 45 [(0, .ref (q.ad 26)), (1, .int v1), (2, .int v2)] [] X (tho_lost_L45_B n rec v1 v2 X) := by
  unfold tho_lost_L45_B
  refine g_iload_n 2 dX9_lost_45 rfl rfl ?_
  refine g_aload_n 0 dX9_lost_46 rfl rfl ?_
  refine g_getR 26 2 24 rfl dX9_lost_47 rfl kkX9 flX9_40 (by decide) rfl rfl (by decide) rfl ?_
  refine g_cVIt (As := []) (st := [.int v2]) 0 mF_wg rfl dX9_lost_50 rfl kkX6 (by decide) rfl vX6_counts lkX9_90 (rmL rfl rfl) (rou_counts_c q X) rfl rfl (Nat.le_of_ble_eq_true rfl) ?_
  refine g_icmp_ge dX9_lost_53 rfl rfl ?_ ?_
  · refine g_aload_n 0 dX9_lost_56 rfl rfl ?_
    refine g_aload_n 0 dX9_lost_57 rfl rfl ?_
    refine g_getR 26 2 24 rfl dX9_lost_58 rfl kkX9 flX9_40 (by decide) rfl rfl (by decide) rfl ?_
    refine g_iload_n 2 dX9_lost_61 rfl rfl ?_
    refine g_cVIr (As := [.int v2]) (st := [.ref (q.ad 26)]) 1 mF_wg rfl dX9_lost_62 rfl kkX6 (by decide) rfl vX6_actAt lkX9_98 (rmL rfl rfl) (rou_actAt_c q v2 X) rfl rfl (Nat.le_of_ble_eq_true rfl) (fun c7 => ?_)
    refine g_cVVw (As := [.int c7]) (st := []) 1 mF_wg rfl dX9_lost_65 rfl kkX9 (by decide) rfl vX9_step lkX9_101 (rmL rfl rfl) (tho_step_c q n c7 X) rfl rfl (Nat.le_of_ble_eq_true rfl) (fun X8 => ?_)
    refine g_iload_n 2 dX9_lost_68 rfl rfl ?_
    refine g_aload_n 0 dX9_lost_69 rfl rfl ?_
    refine g_getI 26 12 rfl dX9_lost_70 rfl kkX9 flX9_61 (by decide) rfl rfl (by decide) rfl ?_
    refine g_icmp_ne dX9_lost_73 rfl rfl ?_ ?_
    · refine g_aload_n 0 dX9_lost_76 rfl rfl ?_
      refine g_getR 26 0 1 rfl dX9_lost_77 rfl kkX9 flX9_32 (by decide) rfl rfl (by decide) rfl ?_
      refine g_aload_n 0 dX9_lost_80 rfl rfl ?_
      refine g_getI 26 11 rfl dX9_lost_81 rfl kkX9 flX9_77 (by decide) rfl rfl (by decide) rfl ?_
      refine g_cVIt (As := [.int (X8.1 26 11)]) (st := []) 1 mF_wg rfl dX9_lost_84 rfl kkX5 (by decide) rfl vX5_has lkX9_83 (rmL rfl rfl) (poo_has_c q (X8.1 26 11) X8) rfl rfl (Nat.le_of_ble_eq_true rfl) ?_
      refine g_if_eq dX9_lost_87 rfl rfl ?_ ?_
      · refine g_iload_n 1 dX9_lost_106 rfl rfl ?_
        refine g_aload_n 0 dX9_lost_107 rfl rfl ?_
        refine g_iload_n 2 dX9_lost_108 rfl rfl ?_
        refine g_cVIw (As := [.int v2]) (st := [.int v1]) 1 mF_wg rfl dX9_lost_109 rfl kkX9 (by decide) rfl vX9_marksBehind lkX9_123 (rmL rfl rfl) (tho_marksBehind_c q n v2 X8) rfl rfl (Nat.le_of_ble_eq_true rfl) (fun c10 X9 => ?_)
        refine g_iadd dX9_lost_112 rfl ?_
        refine g_istore_n (lv' := [(1, .int (v1 + c10)), (0, .ref (q.ad 26)), (2, .int v2)]) dX9_lost_113 rfl rfl (Nat.le_of_ble_eq_true rfl) rfl ?_
        refine g_inc (lv' := [(2, .int (v2 + (1 : Int32))), (1, .int (v1 + c10)), (0, .ref (q.ad 26))]) 2 dX9_lost_114 rfl rfl kic_1 (Nat.le_of_ble_eq_true rfl) rfl ?_
        refine g_goto dX9_lost_117 rfl ?_
        refine g_sub [2, 1, 0] rfl ?_
        exact hrec (v1 + c10) (v2 + (1 : Int32)) X9
      refine g_aload_n 0 dX9_lost_90 rfl rfl ?_
      refine g_getR 26 3 27 rfl dX9_lost_91 rfl kkX9 flX9_9 (by decide) rfl rfl (by decide) rfl ?_
      refine g_aload_n 0 dX9_lost_94 rfl rfl ?_
      refine g_getI 26 11 rfl dX9_lost_95 rfl kkX9 flX9_77 (by decide) rfl rfl (by decide) rfl ?_
      refine g_dup2 dX9_lost_98 rfl rfl rfl ?_
      refine g_iald dX9_lost_99 rfl (by decide) rfl rfl ?_
      refine g_aload_n 0 dX9_lost_100 rfl rfl ?_
      refine g_getI 26 13 rfl dX9_lost_101 rfl kkX9 flX9_80 (by decide) rfl rfl (by decide) rfl ?_
      refine g_iadd dX9_lost_104 rfl ?_
      refine g_iast dX9_lost_105 rfl (by decide) rfl rfl ?_
      refine g_nmX (fun X11 => ?_)
      refine g_iload_n 1 dX9_lost_106 rfl rfl ?_
      refine g_aload_n 0 dX9_lost_107 rfl rfl ?_
      refine g_iload_n 2 dX9_lost_108 rfl rfl ?_
      refine g_cVIw (As := [.int v2]) (st := [.int v1]) 1 mF_wg rfl dX9_lost_109 rfl kkX9 (by decide) rfl vX9_marksBehind lkX9_123 (rmL rfl rfl) (tho_marksBehind_c q n v2 X11) rfl rfl (Nat.le_of_ble_eq_true rfl) (fun c13 X12 => ?_)
      refine g_iadd dX9_lost_112 rfl ?_
      refine g_istore_n (lv' := [(1, .int (v1 + c13)), (0, .ref (q.ad 26)), (2, .int v2)]) dX9_lost_113 rfl rfl (Nat.le_of_ble_eq_true rfl) rfl ?_
      refine g_inc (lv' := [(2, .int (v2 + (1 : Int32))), (1, .int (v1 + c13)), (0, .ref (q.ad 26))]) 2 dX9_lost_114 rfl rfl kic_1 (Nat.le_of_ble_eq_true rfl) rfl ?_
      refine g_goto dX9_lost_117 rfl ?_
      refine g_sub [2, 1, 0] rfl ?_
      exact hrec (v1 + c13) (v2 + (1 : Int32)) X12
    refine g_iload_n 1 dX9_lost_106 rfl rfl ?_
    refine g_aload_n 0 dX9_lost_107 rfl rfl ?_
    refine g_iload_n 2 dX9_lost_108 rfl rfl ?_
    refine g_cVIw (As := [.int v2]) (st := [.int v1]) 1 mF_wg rfl dX9_lost_109 rfl kkX9 (by decide) rfl vX9_marksBehind lkX9_123 (rmL rfl rfl) (tho_marksBehind_c q n v2 X8) rfl rfl (Nat.le_of_ble_eq_true rfl) (fun c15 X14 => ?_)
    refine g_iadd dX9_lost_112 rfl ?_
    refine g_istore_n (lv' := [(1, .int (v1 + c15)), (0, .ref (q.ad 26)), (2, .int v2)]) dX9_lost_113 rfl rfl (Nat.le_of_ble_eq_true rfl) rfl ?_
    refine g_inc (lv' := [(2, .int (v2 + (1 : Int32))), (1, .int (v1 + c15)), (0, .ref (q.ad 26))]) 2 dX9_lost_114 rfl rfl kic_1 (Nat.le_of_ble_eq_true rfl) rfl ?_
    refine g_goto dX9_lost_117 rfl ?_
    refine g_sub [2, 1, 0] rfl ?_
    exact hrec (v1 + c15) (v2 + (1 : Int32)) X14
  refine g_iload_n 1 dX9_lost_120 rfl rfl ?_
  exact g_iret dX9_lost_121 rfl rfl
theorem tho_lost_L45_g (q : Th) (n : Nat) : ∀ (w : Nat) (v1 : Int32) (v2 : Int32) (X : St), G q (mF q nX9_lost RX9 5) fiw 45 [(0, .ref (q.ad 26)), (1, .int v1), (2, .int v2)] [] X (tho_lost_L45 n w v1 v2 X) := by
  intro w
  induction w with
  | zero => intro v1 v2 X; exact g_none
  | succ w ih => intro v1 v2 X; exact tho_lost_L45_Bg q n _ ih v1 v2 X
theorem tho_lost_c (q : Th) (n : Nat) (X : St) : Ct q nX9_lost 5 fiw [.ref (q.ad 26)] X (tho_lost n X) := by
  refine ct_of (by decide +kernel) (Nat.le_of_ble_eq_true rfl) ?_
  unfold tho_lost
  show G q _ _ 0 [(0, .ref (q.ad 26))] [] X _
  refine g_iconst dX9_lost_0 rfl kic_0 ?_
  refine g_istore_n (lv' := [(1, .int (0 : Int32)), (0, .ref (q.ad 26))]) dX9_lost_1 rfl rfl (Nat.le_of_ble_eq_true rfl) rfl ?_
  refine g_aload_n 1 dX9_lost_2 rfl rfl ?_
  refine g_cVVw (As := []) (st := []) 0 mF_wg rfl dX9_lost_3 rfl kkX9 (by decide) rfl vX9_still lkX9_87 (rmL rfl rfl) (tho_still_c q n X) rfl rfl (Nat.le_of_ble_eq_true rfl) (fun X1 => ?_)
  refine g_iconst dX9_lost_6 rfl kic_0 ?_
  refine g_istore_n (lv' := [(2, .int (0 : Int32)), (1, .int (0 : Int32)), (0, .ref (q.ad 26))]) dX9_lost_7 rfl rfl (Nat.le_of_ble_eq_true rfl) rfl ?_
  refine g_sub [2, 1, 0] rfl ?_
  refine tho_lost_L8_g q n _ (fun v6 X5 => ?_) n (0 : Int32) (0 : Int32) X1
  refine g_iconst dX9_lost_43 rfl kic_0 ?_
  refine g_istore_n (lv' := [(2, .int (0 : Int32)), (0, .ref (q.ad 26)), (1, .int v6)]) dX9_lost_44 rfl rfl (Nat.le_of_ble_eq_true rfl) rfl ?_
  refine g_sub [1, 2, 0] rfl ?_
  refine tho_lost_L45_g q n n v6 (0 : Int32) X5
def tho_worstTwo_L28_B (n : Nat) (k77 : Int32 → Int32 → Int32 → St → Option (Int32 × St)) (rec : Int32 → Int32 → Int32 → Int32 → St → Option (Int32 × St)) (v1 : Int32) (v2 : Int32) (v3 : Int32) (v4 : Int32) (X : St) : Option (Int32 × St) :=
(if v4 < (poo_many X) then
(if inB v3 8 then
(if okI (49 + nx v3) v4 then
(if v1 < (X.1 (49 + nx v3) (nx v4)) then
(if inB v3 8 then
(if okI (49 + nx v3) v4 then
(rec (X.1 (49 + nx v3) (nx v4)) (((10 : Int32) * v3) + v4) v3 (v4 + (1 : Int32)) X) else none) else none)
else
(rec v1 v2 v3 (v4 + (1 : Int32)) X)) else none) else none)
else
(k77 v1 v2 v3 X))
def tho_worstTwo_L28 (n : Nat) (k77 : Int32 → Int32 → Int32 → St → Option (Int32 × St)) : Nat → Int32 → Int32 → Int32 → Int32 → St → Option (Int32 × St)
  | 0 => fun _ _ _ _ _ => none
  | w + 1 => tho_worstTwo_L28_B n k77 (tho_worstTwo_L28 n k77 w)
def tho_worstTwo_L12_B (n : Nat) (rec : Int32 → Int32 → Int32 → St → Option (Int32 × St)) (v1 : Int32) (v2 : Int32) (v3 : Int32) (X : St) : Option (Int32 × St) :=
(if v3 < (poo_many X) then
(tho_worstTwo_L28 n (fun v4 v5 v6 X3 =>
(rec v4 v5 (v6 + (1 : Int32)) X3)) n v1 v2 v3 (v3 + (1 : Int32)) X)
else
(some (v2, X)))
def tho_worstTwo_L12 (n : Nat) : Nat → Int32 → Int32 → Int32 → St → Option (Int32 × St)
  | 0 => fun _ _ _ _ => none
  | w + 1 => tho_worstTwo_L12_B n (tho_worstTwo_L12 n w)
def tho_worstTwo (n : Nat) (X : St) : Option (Int32 × St) :=
  ((tho_lost n X).bind fun (c2, X1) =>
  (tho_worstTwo_L12 n n (0 : Int32) (-2 : Int32) (0 : Int32) X1))
theorem tho_worstTwo_L28_Bg (q : Th) (n : Nat) (k77 : Int32 → Int32 → Int32 → St → Option (Int32 × St)) (hk77 : ∀ v1 v2 v3 X, G q (mF q nX9_worstTwo RX9 6) fiw 77 [(0, .ref (q.ad 26)), (1, .int v1), (2, .int v2), (3, .int v3)] [] X (k77 v1 v2 v3 X)) (rec : Int32 → Int32 → Int32 → Int32 → St → Option (Int32 × St)) (hrec : ∀ v1 v2 v3 v4 X, G q (mF q nX9_worstTwo RX9 6) fiw 28 [(0, .ref (q.ad 26)), (1, .int v1), (2, .int v2), (3, .int v3), (4, .int v4)] [] X (rec v1 v2 v3 v4 X)) (v1 : Int32) (v2 : Int32) (v3 : Int32) (v4 : Int32) (X : St) : G q (mF q nX9_worstTwo RX9 6) fiw 28 [(0, .ref (q.ad 26)), (1, .int v1), (2, .int v2), (3, .int v3), (4, .int v4)] [] X (tho_worstTwo_L28_B n k77 rec v1 v2 v3 v4 X) := by
  unfold tho_worstTwo_L28_B
  refine g_iload 4 dX9_worstTwo_28 rfl rfl ?_
  refine g_aload_n 0 dX9_worstTwo_30 rfl rfl ?_
  refine g_getR 26 0 1 rfl dX9_worstTwo_31 rfl kkX9 flX9_32 (by decide) rfl rfl (by decide) rfl ?_
  refine g_cVIt (As := []) (st := [.int v4]) 0 mF_wg rfl dX9_worstTwo_34 rfl kkX5 (by decide) rfl vX5_many lkX9_44 (rmL rfl rfl) (poo_many_c q X) rfl rfl (Nat.le_of_ble_eq_true rfl) ?_
  refine g_icmp_ge dX9_worstTwo_37 rfl rfl ?_ ?_
  · refine g_aload_n 0 dX9_worstTwo_40 rfl rfl ?_
    refine g_getR 26 8 48 rfl dX9_worstTwo_41 rfl kkX9 flX9_29 (by decide) rfl rfl (by decide) rfl ?_
    refine g_iload_n 3 dX9_worstTwo_44 rfl rfl ?_
    refine g_aald dX9_worstTwo_45 rfl (by decide) (by decide) rfl rfl ?_
    refine g_iload 4 dX9_worstTwo_46 rfl rfl ?_
    refine g_ialdD dX9_worstTwo_48 rfl ?_
    refine g_iload_n 1 dX9_worstTwo_49 rfl rfl ?_
    refine g_icmp_le dX9_worstTwo_50 rfl rfl ?_ ?_
    · refine g_aload_n 0 dX9_worstTwo_53 rfl rfl ?_
      refine g_getR 26 8 48 rfl dX9_worstTwo_54 rfl kkX9 flX9_29 (by decide) rfl rfl (by decide) rfl ?_
      refine g_iload_n 3 dX9_worstTwo_57 rfl rfl ?_
      refine g_aald dX9_worstTwo_58 rfl (by decide) (by decide) rfl rfl ?_
      refine g_iload 4 dX9_worstTwo_59 rfl rfl ?_
      refine g_ialdD dX9_worstTwo_61 rfl ?_
      refine g_istore_n (lv' := [(1, .int (X.1 (49 + nx v3) (nx v4))), (0, .ref (q.ad 26)), (2, .int v2), (3, .int v3), (4, .int v4)]) dX9_worstTwo_62 rfl rfl (Nat.le_of_ble_eq_true rfl) rfl ?_
      refine g_bipush dX9_worstTwo_63 rfl kbi_10 ?_
      refine g_iload_n 3 dX9_worstTwo_65 rfl rfl ?_
      refine g_imul dX9_worstTwo_66 rfl ?_
      refine g_iload 4 dX9_worstTwo_67 rfl rfl ?_
      refine g_iadd dX9_worstTwo_69 rfl ?_
      refine g_istore_n (lv' := [(2, .int (((10 : Int32) * v3) + v4)), (1, .int (X.1 (49 + nx v3) (nx v4))), (0, .ref (q.ad 26)), (3, .int v3), (4, .int v4)]) dX9_worstTwo_70 rfl rfl (Nat.le_of_ble_eq_true rfl) rfl ?_
      refine g_inc (lv' := [(4, .int (v4 + (1 : Int32))), (2, .int (((10 : Int32) * v3) + v4)), (1, .int (X.1 (49 + nx v3) (nx v4))), (0, .ref (q.ad 26)), (3, .int v3)]) 4 dX9_worstTwo_71 rfl rfl kic_1 (Nat.le_of_ble_eq_true rfl) rfl ?_
      refine g_goto dX9_worstTwo_74 rfl ?_
      refine g_sub [3, 2, 1, 4, 0] rfl ?_
      exact hrec (X.1 (49 + nx v3) (nx v4)) (((10 : Int32) * v3) + v4) v3 (v4 + (1 : Int32)) X
    refine g_inc (lv' := [(4, .int (v4 + (1 : Int32))), (0, .ref (q.ad 26)), (1, .int v1), (2, .int v2), (3, .int v3)]) 4 dX9_worstTwo_71 rfl rfl kic_1 (Nat.le_of_ble_eq_true rfl) rfl ?_
    refine g_goto dX9_worstTwo_74 rfl ?_
    refine g_sub [1, 2, 3, 4, 0] rfl ?_
    exact hrec v1 v2 v3 (v4 + (1 : Int32)) X
  refine g_sub [0, 1, 2, 3] rfl ?_
  exact hk77 v1 v2 v3 X
theorem tho_worstTwo_L28_g (q : Th) (n : Nat) (k77 : Int32 → Int32 → Int32 → St → Option (Int32 × St)) (hk77 : ∀ v1 v2 v3 X, G q (mF q nX9_worstTwo RX9 6) fiw 77 [(0, .ref (q.ad 26)), (1, .int v1), (2, .int v2), (3, .int v3)] [] X (k77 v1 v2 v3 X)) : ∀ (w : Nat) (v1 : Int32) (v2 : Int32) (v3 : Int32) (v4 : Int32) (X : St), G q (mF q nX9_worstTwo RX9 6) fiw 28 [(0, .ref (q.ad 26)), (1, .int v1), (2, .int v2), (3, .int v3), (4, .int v4)] [] X (tho_worstTwo_L28 n k77 w v1 v2 v3 v4 X) := by
  intro w
  induction w with
  | zero => intro v1 v2 v3 v4 X; exact g_none
  | succ w ih => intro v1 v2 v3 v4 X; exact tho_worstTwo_L28_Bg q n k77 hk77 _ ih v1 v2 v3 v4 X
theorem tho_worstTwo_L12_Bg (q : Th) (n : Nat) (rec : Int32 → Int32 → Int32 → St → Option (Int32 × St)) (hrec : ∀ v1 v2 v3 X, G q (mF q nX9_worstTwo RX9 6) fiw 12 [(0, .ref (q.ad 26)), (1, .int v1), (2, .int v2), (3, .int v3)] [] X (rec v1 v2 v3 X)) (v1 : Int32) (v2 : Int32) (v3 : Int32) (X : St) : G q (mF q nX9_worstTwo RX9 6) fiw 12 [(0, .ref (q.ad 26)), (1, .int v1), (2, .int v2), (3, .int v3)] [] X (tho_worstTwo_L12_B n rec v1 v2 v3 X) := by
  unfold tho_worstTwo_L12_B
  refine g_iload_n 3 dX9_worstTwo_12 rfl rfl ?_
  refine g_aload_n 0 dX9_worstTwo_13 rfl rfl ?_
  refine g_getR 26 0 1 rfl dX9_worstTwo_14 rfl kkX9 flX9_32 (by decide) rfl rfl (by decide) rfl ?_
  refine g_cVIt (As := []) (st := [.int v3]) 0 mF_wg rfl dX9_worstTwo_17 rfl kkX5 (by decide) rfl vX5_many lkX9_44 (rmL rfl rfl) (poo_many_c q X) rfl rfl (Nat.le_of_ble_eq_true rfl) ?_
  refine g_icmp_ge dX9_worstTwo_20 rfl rfl ?_ ?_
  · refine g_iload_n 3 dX9_worstTwo_23 rfl rfl ?_
    refine g_iconst dX9_worstTwo_24 rfl kic_1 ?_
    refine g_iadd dX9_worstTwo_25 rfl ?_
    refine g_istore (lv' := [(4, .int (v3 + (1 : Int32))), (0, .ref (q.ad 26)), (1, .int v1), (2, .int v2), (3, .int v3)]) dX9_worstTwo_26 rfl (Nat.le_of_ble_eq_true rfl) rfl ?_
    refine g_sub [1, 2, 3, 4, 0] rfl ?_
    refine tho_worstTwo_L28_g q n _ (fun v4 v5 v6 X3 => ?_) n v1 v2 v3 (v3 + (1 : Int32)) X
    refine g_inc (lv' := [(3, .int (v6 + (1 : Int32))), (0, .ref (q.ad 26)), (1, .int v4), (2, .int v5)]) 3 dX9_worstTwo_77 rfl rfl kic_1 (Nat.le_of_ble_eq_true rfl) rfl ?_
    refine g_goto dX9_worstTwo_80 rfl ?_
    refine g_sub [1, 2, 3, 0] rfl ?_
    exact hrec v4 v5 (v6 + (1 : Int32)) X3
  refine g_iload_n 2 dX9_worstTwo_83 rfl rfl ?_
  exact g_iret dX9_worstTwo_84 rfl rfl
theorem tho_worstTwo_L12_g (q : Th) (n : Nat) : ∀ (w : Nat) (v1 : Int32) (v2 : Int32) (v3 : Int32) (X : St), G q (mF q nX9_worstTwo RX9 6) fiw 12 [(0, .ref (q.ad 26)), (1, .int v1), (2, .int v2), (3, .int v3)] [] X (tho_worstTwo_L12 n w v1 v2 v3 X) := by
  intro w
  induction w with
  | zero => intro v1 v2 v3 X; exact g_none
  | succ w ih => intro v1 v2 v3 X; exact tho_worstTwo_L12_Bg q n _ ih v1 v2 v3 X
theorem tho_worstTwo_c (q : Th) (n : Nat) (X : St) : Ct q nX9_worstTwo 6 fiw [.ref (q.ad 26)] X (tho_worstTwo n X) := by
  refine ct_of (by decide +kernel) (Nat.le_of_ble_eq_true rfl) ?_
  unfold tho_worstTwo
  show G q _ _ 0 [(0, .ref (q.ad 26))] [] X _
  refine g_aload_n 0 dX9_worstTwo_0 rfl rfl ?_
  refine g_cVIw (As := []) (st := []) 0 mF_wg rfl dX9_worstTwo_1 rfl kkX9 (by decide) rfl vX9_lost lkX9_126 (rmL rfl rfl) (tho_lost_c q n X) rfl rfl (Nat.le_of_ble_eq_true rfl) (fun c2 X1 => ?_)
  refine g_pop dX9_worstTwo_4 rfl rfl ?_
  refine g_iconst dX9_worstTwo_5 rfl kic_0 ?_
  refine g_istore_n (lv' := [(1, .int (0 : Int32)), (0, .ref (q.ad 26))]) dX9_worstTwo_6 rfl rfl (Nat.le_of_ble_eq_true rfl) rfl ?_
  refine g_bipush dX9_worstTwo_7 rfl kbi_m2 ?_
  refine g_istore_n (lv' := [(2, .int (-2 : Int32)), (1, .int (0 : Int32)), (0, .ref (q.ad 26))]) dX9_worstTwo_9 rfl rfl (Nat.le_of_ble_eq_true rfl) rfl ?_
  refine g_iconst dX9_worstTwo_10 rfl kic_0 ?_
  refine g_istore_n (lv' := [(3, .int (0 : Int32)), (2, .int (-2 : Int32)), (1, .int (0 : Int32)), (0, .ref (q.ad 26))]) dX9_worstTwo_11 rfl rfl (Nat.le_of_ble_eq_true rfl) rfl ?_
  refine g_sub [3, 2, 1, 0] rfl ?_
  refine tho_worstTwo_L12_g q n n (0 : Int32) (-2 : Int32) (0 : Int32) X1
def tho_goneOf (n : Nat) (v1 : Int32) (X : St) : Option (Int32) :=
  ((poo_told v1 (3 : Int32) X).bind fun c1 =>
  ((poo_told (0 : Int32) (8 : Int32) X).bind fun c2 =>
  ((rou_firstGone n c1 c2 X).bind fun c3 =>
  (some c3))))
theorem tho_goneOf_c (q : Th) (n : Nat) (v1 : Int32) (X : St) : Ct q nX9_goneOf 3 (fir X) [.ref (q.ad 26), .int v1] X (tho_goneOf n v1 X) := by
  refine ct_of (by decide +kernel) (Nat.le_of_ble_eq_true rfl) ?_
  unfold tho_goneOf
  show G q _ _ 0 [(0, .ref (q.ad 26)), (1, .int v1)] [] X _
  refine g_aload_n 0 dX9_goneOf_0 rfl rfl ?_
  refine g_getR 26 2 24 rfl dX9_goneOf_1 rfl kkX9 flX9_40 (by decide) rfl rfl (by decide) rfl ?_
  refine g_aload_n 0 dX9_goneOf_4 rfl rfl ?_
  refine g_getR 26 0 1 rfl dX9_goneOf_5 rfl kkX9 flX9_32 (by decide) rfl rfl (by decide) rfl ?_
  refine g_iload_n 1 dX9_goneOf_8 rfl rfl ?_
  refine g_iconst dX9_goneOf_9 rfl kic_3 ?_
  refine g_cVIr (As := [.int v1, .int (3 : Int32)]) (st := [.ref (q.ad 24)]) 2 mF_wg rfl dX9_goneOf_10 rfl kkX5 (by decide) rfl vX5_told lkX9_50 (rmL rfl rfl) (poo_told_c q v1 (3 : Int32) X) rfl rfl (Nat.le_of_ble_eq_true rfl) (fun c1 => ?_)
  refine g_aload_n 0 dX9_goneOf_13 rfl rfl ?_
  refine g_getR 26 0 1 rfl dX9_goneOf_14 rfl kkX9 flX9_32 (by decide) rfl rfl (by decide) rfl ?_
  refine g_iconst dX9_goneOf_17 rfl kic_0 ?_
  refine g_bipush dX9_goneOf_18 rfl kbi_8 ?_
  refine g_cVIr (As := [.int (0 : Int32), .int (8 : Int32)]) (st := [.int c1, .ref (q.ad 24)]) 2 mF_wg rfl dX9_goneOf_20 rfl kkX5 (by decide) rfl vX5_told lkX9_50 (rmL rfl rfl) (poo_told_c q (0 : Int32) (8 : Int32) X) rfl rfl (Nat.le_of_ble_eq_true rfl) (fun c2 => ?_)
  refine g_cVIr (As := [.int c1, .int c2]) (st := []) 2 mF_wg rfl dX9_goneOf_23 rfl kkX6 (by decide) rfl vX6_firstGone lkX9_129 (rmL rfl rfl) (rou_firstGone_c q n c1 c2 X) rfl rfl (Nat.le_of_ble_eq_true rfl) (fun c3 => ?_)
  exact g_iret dX9_goneOf_26 rfl rfl
def tho_allGone_L4_B (n : Nat) (X : St) (rec : Int32 → Int32 → Option (Int32)) (v1 : Int32) (v2 : Int32) : Option (Int32) :=
(if v2 < (poo_many X) then
((tho_goneOf n v2 X).bind fun c1 =>
(if c1 = (-2 : Int32) then
(rec v1 (v2 + (1 : Int32)))
else
((some (v1 ||| ((1 : Int32) <<< (v2 &&& 31)))).bind fun t2 =>
(rec t2 (v2 + (1 : Int32))))))
else
(some v1))
def tho_allGone_L4 (n : Nat) (X : St) : Nat → Int32 → Int32 → Option (Int32)
  | 0 => fun _ _ => none
  | w + 1 => tho_allGone_L4_B n X (tho_allGone_L4 n X w)
def tho_allGone (n : Nat) (X : St) : Option (Int32) :=
  (tho_allGone_L4 n X n (0 : Int32) (0 : Int32))
theorem tho_allGone_L4_Bg (q : Th) (n : Nat) (X : St) (rec : Int32 → Int32 → Option (Int32)) (hrec : ∀ v1 v2, G q (mF q nX9_allGone RX9 4) (fir X) 4 [(0, .ref (q.ad 26)), (1, .int v1), (2, .int v2)] [] X (rec v1 v2)) (v1 : Int32) (v2 : Int32) : G q (mF q nX9_allGone RX9 4) (fir X) 4 [(0, .ref (q.ad 26)), (1, .int v1), (2, .int v2)] [] X (tho_allGone_L4_B n X rec v1 v2) := by
  unfold tho_allGone_L4_B
  refine g_iload_n 2 dX9_allGone_4 rfl rfl ?_
  refine g_aload_n 0 dX9_allGone_5 rfl rfl ?_
  refine g_getR 26 0 1 rfl dX9_allGone_6 rfl kkX9 flX9_32 (by decide) rfl rfl (by decide) rfl ?_
  refine g_cVIt (As := []) (st := [.int v2]) 0 mF_wg rfl dX9_allGone_9 rfl kkX5 (by decide) rfl vX5_many lkX9_44 (rmL rfl rfl) (poo_many_c q X) rfl rfl (Nat.le_of_ble_eq_true rfl) ?_
  refine g_icmp_ge dX9_allGone_12 rfl rfl ?_ ?_
  · refine g_aload_n 0 dX9_allGone_15 rfl rfl ?_
    refine g_iload_n 2 dX9_allGone_16 rfl rfl ?_
    refine g_cVIr (As := [.int v2]) (st := []) 1 mF_wg rfl dX9_allGone_17 rfl kkX9 (by decide) rfl vX9_goneOf lkX9_132 (rmL rfl rfl) (tho_goneOf_c q n v2 X) rfl rfl (Nat.le_of_ble_eq_true rfl) (fun c1 => ?_)
    refine g_bipush dX9_allGone_20 rfl kbi_m2 ?_
    refine g_icmp_eq dX9_allGone_22 rfl rfl ?_ ?_
    · refine g_inc (lv' := [(2, .int (v2 + (1 : Int32))), (0, .ref (q.ad 26)), (1, .int v1)]) 2 dX9_allGone_31 rfl rfl kic_1 (Nat.le_of_ble_eq_true rfl) rfl ?_
      refine g_goto dX9_allGone_34 rfl ?_
      refine g_sub [1, 2, 0] rfl ?_
      exact hrec v1 (v2 + (1 : Int32))
    refine g_iload_n 1 dX9_allGone_25 rfl rfl ?_
    refine g_iconst dX9_allGone_26 rfl kic_1 ?_
    refine g_iload_n 2 dX9_allGone_27 rfl rfl ?_
    refine g_ishl dX9_allGone_28 rfl ?_
    refine g_ior dX9_allGone_29 rfl ?_
    refine g_nmI (fun t2 => ?_)
    refine g_istore_n (lv' := [(1, .int t2), (0, .ref (q.ad 26)), (2, .int v2)]) dX9_allGone_30 rfl rfl (Nat.le_of_ble_eq_true rfl) rfl ?_
    refine g_inc (lv' := [(2, .int (v2 + (1 : Int32))), (1, .int t2), (0, .ref (q.ad 26))]) 2 dX9_allGone_31 rfl rfl kic_1 (Nat.le_of_ble_eq_true rfl) rfl ?_
    refine g_goto dX9_allGone_34 rfl ?_
    refine g_sub [2, 1, 0] rfl ?_
    exact hrec t2 (v2 + (1 : Int32))
  refine g_iload_n 1 dX9_allGone_37 rfl rfl ?_
  exact g_iret dX9_allGone_38 rfl rfl
theorem tho_allGone_L4_g (q : Th) (n : Nat) (X : St) : ∀ (w : Nat) (v1 : Int32) (v2 : Int32), G q (mF q nX9_allGone RX9 4) (fir X) 4 [(0, .ref (q.ad 26)), (1, .int v1), (2, .int v2)] [] X (tho_allGone_L4 n X w v1 v2) := by
  intro w
  induction w with
  | zero => intro v1 v2; exact g_none
  | succ w ih => intro v1 v2; exact tho_allGone_L4_Bg q n X _ ih v1 v2
theorem tho_allGone_c (q : Th) (n : Nat) (X : St) : Ct q nX9_allGone 4 (fir X) [.ref (q.ad 26)] X (tho_allGone n X) := by
  refine ct_of (by decide +kernel) (Nat.le_of_ble_eq_true rfl) ?_
  unfold tho_allGone
  show G q _ _ 0 [(0, .ref (q.ad 26))] [] X _
  refine g_iconst dX9_allGone_0 rfl kic_0 ?_
  refine g_istore_n (lv' := [(1, .int (0 : Int32)), (0, .ref (q.ad 26))]) dX9_allGone_1 rfl rfl (Nat.le_of_ble_eq_true rfl) rfl ?_
  refine g_iconst dX9_allGone_2 rfl kic_0 ?_
  refine g_istore_n (lv' := [(2, .int (0 : Int32)), (1, .int (0 : Int32)), (0, .ref (q.ad 26))]) dX9_allGone_3 rfl rfl (Nat.le_of_ble_eq_true rfl) rfl ?_
  refine g_sub [2, 1, 0] rfl ?_
  refine tho_allGone_L4_g q n X n (0 : Int32) (0 : Int32)
def tho_judged_L24_B (n : Nat) (rec : Nat → Int32 → Int32 → St → Option (Int32 × St)) (r1 : Nat) (v3 : Int32) (v4 : Int32) (X : St) : Option (Int32 × St) :=
(if v4 < v3 then
((rou_actAt v4 X).bind fun c3 =>
((tho_step n c3 X).bind fun X4 =>
((tho_widest n X4).bind fun c5 =>
(if okJ r1 v4 then
(if (lg_cmp (c5.toInt64) (X4.2 r1 (nx v4))) = 0 then
(rec r1 v3 (v4 + (1 : Int32)) X4)
else
(some (v4, X4))) else none))))
else
(some ((-2 : Int32), X)))
def tho_judged_L24 (n : Nat) : Nat → Nat → Int32 → Int32 → St → Option (Int32 × St)
  | 0 => fun _ _ _ _ => none
  | w + 1 => tho_judged_L24_B n (tho_judged_L24 n w)
def tho_judged (n : Nat) (r1 : Nat) (v2 : Int32) (X : St) : Option (Int32 × St) :=
  (if isR r1 then
  ((some (jmath_min (jmath_min v2 (Int32.ofNat (oln r1))) (rou_counts X))).bind fun t1 =>
  ((tho_still n X).bind fun X2 =>
  (tho_judged_L24 n n r1 t1 (0 : Int32) X2))) else none)
theorem tho_judged_L24_Bg (q : Th) (n : Nat) (rec : Nat → Int32 → Int32 → St → Option (Int32 × St)) (hrec : ∀ r1 v3 v4 X, G q (mF q nX9_judged RX9 4) fiw 24 [(0, .ref (q.ad 26)), (1, .ref (q.ad r1)), (3, .int v3), (4, .int v4)] [] X (rec r1 v3 v4 X)) (r1 : Nat) (v3 : Int32) (v4 : Int32) (X : St) : G q (mF q nX9_judged RX9 4) fiw 24 [(0, .ref (q.ad 26)), (1, .ref (q.ad r1)), (3, .int v3), (4, .int v4)] [] X (tho_judged_L24_B n rec r1 v3 v4 X) := by
  unfold tho_judged_L24_B
  refine g_iload 3 dX9_judged_24 rfl rfl ?_
  refine g_iload_n 2 dX9_judged_26 rfl rfl ?_
  refine g_icmp_ge dX9_judged_27 rfl rfl ?_ ?_
  · refine g_aload_n 0 dX9_judged_30 rfl rfl ?_
    refine g_aload_n 0 dX9_judged_31 rfl rfl ?_
    refine g_getR 26 2 24 rfl dX9_judged_32 rfl kkX9 flX9_40 (by decide) rfl rfl (by decide) rfl ?_
    refine g_iload 3 dX9_judged_35 rfl rfl ?_
    refine g_cVIr (As := [.int v4]) (st := [.ref (q.ad 26)]) 1 mF_wg rfl dX9_judged_37 rfl kkX6 (by decide) rfl vX6_actAt lkX9_98 (rmL rfl rfl) (rou_actAt_c q v4 X) rfl rfl (Nat.le_of_ble_eq_true rfl) (fun c3 => ?_)
    refine g_cVVw (As := [.int c3]) (st := []) 1 mF_wg rfl dX9_judged_40 rfl kkX9 (by decide) rfl vX9_step lkX9_101 (rmL rfl rfl) (tho_step_c q n c3 X) rfl rfl (Nat.le_of_ble_eq_true rfl) (fun X4 => ?_)
    refine g_aload_n 0 dX9_judged_43 rfl rfl ?_
    refine g_cVIr (As := []) (st := []) 0 mF_wg rfl dX9_judged_44 rfl kkX9 (by decide) rfl vX9_widest lkX9_114 (rmL rfl rfl) (tho_widest_c q n X4) rfl rfl (Nat.le_of_ble_eq_true rfl) (fun c5 => ?_)
    refine g_i2l dX9_judged_47 rfl ?_
    refine g_aload_n 1 dX9_judged_48 rfl rfl ?_
    refine g_iload 3 dX9_judged_49 rfl rfl ?_
    refine g_laldD dX9_judged_51 rfl ?_
    refine g_lcmp dX9_judged_52 rfl ?_
    refine g_if_eq dX9_judged_53 rfl rfl ?_ ?_
    · refine g_inc (lv' := [(4, .int (v4 + (1 : Int32))), (0, .ref (q.ad 26)), (1, .ref (q.ad r1)), (3, .int v3)]) 3 dX9_judged_59 rfl rfl kic_1 (Nat.le_of_ble_eq_true rfl) rfl ?_
      refine g_goto dX9_judged_62 rfl ?_
      refine g_sub [1, 2, 3, 0] rfl ?_
      exact hrec r1 v3 (v4 + (1 : Int32)) X4
    refine g_iload 3 dX9_judged_56 rfl rfl ?_
    exact g_iret dX9_judged_58 rfl rfl
  refine g_bipush dX9_judged_65 rfl kbi_m2 ?_
  exact g_iret dX9_judged_67 rfl rfl
theorem tho_judged_L24_g (q : Th) (n : Nat) : ∀ (w : Nat) (r1 : Nat) (v3 : Int32) (v4 : Int32) (X : St), G q (mF q nX9_judged RX9 4) fiw 24 [(0, .ref (q.ad 26)), (1, .ref (q.ad r1)), (3, .int v3), (4, .int v4)] [] X (tho_judged_L24 n w r1 v3 v4 X) := by
  intro w
  induction w with
  | zero => intro r1 v3 v4 X; exact g_none
  | succ w ih => intro r1 v3 v4 X; exact tho_judged_L24_Bg q n _ ih r1 v3 v4 X
theorem tho_judged_c (q : Th) (n : Nat) (r1 : Nat) (v2 : Int32) (X : St) : Ct q nX9_judged 4 fiw [.ref (q.ad 26), .ref (q.ad r1), .int v2] X (tho_judged n r1 v2 X) := by
  refine ct_of (by decide +kernel) (Nat.le_of_ble_eq_true rfl) ?_
  unfold tho_judged
  show G q _ _ 0 [(0, .ref (q.ad 26)), (1, .ref (q.ad r1)), (2, .int v2)] [] X _
  refine g_iload_n 2 dX9_judged_0 rfl rfl ?_
  refine g_aload_n 1 dX9_judged_1 rfl rfl ?_
  refine g_alenD dX9_judged_2 rfl ?_
  refine g_mmin (st := []) rfl dX9_judged_3 rfl lkX9_95 (rmL rfl rfl) (Nat.le_of_ble_eq_true rfl) ?_
  refine g_aload_n 0 dX9_judged_6 rfl rfl ?_
  refine g_getR 26 2 24 rfl dX9_judged_7 rfl kkX9 flX9_40 (by decide) rfl rfl (by decide) rfl ?_
  refine g_cVIt (As := []) (st := [.int (jmath_min v2 (Int32.ofNat (oln r1)))]) 0 mF_wg rfl dX9_judged_10 rfl kkX6 (by decide) rfl vX6_counts lkX9_90 (rmL rfl rfl) (rou_counts_c q X) rfl rfl (Nat.le_of_ble_eq_true rfl) ?_
  refine g_mmin (st := []) rfl dX9_judged_13 rfl lkX9_95 (rmL rfl rfl) (Nat.le_of_ble_eq_true rfl) ?_
  refine g_nmI (fun t1 => ?_)
  refine g_istore_n (lv' := [(3, .int t1), (0, .ref (q.ad 26)), (1, .ref (q.ad r1)), (2, .int v2)]) dX9_judged_16 rfl rfl (Nat.le_of_ble_eq_true rfl) rfl ?_
  refine g_aload_n 1 dX9_judged_17 rfl rfl ?_
  refine g_cVVw (As := []) (st := []) 0 mF_wg rfl dX9_judged_18 rfl kkX9 (by decide) rfl vX9_still lkX9_87 (rmL rfl rfl) (tho_still_c q n X) rfl rfl (Nat.le_of_ble_eq_true rfl) (fun X2 => ?_)
  refine g_iconst dX9_judged_21 rfl kic_0 ?_
  refine g_istore (lv' := [(4, .int (0 : Int32)), (3, .int t1), (0, .ref (q.ad 26)), (1, .ref (q.ad r1)), (2, .int v2)]) dX9_judged_22 rfl (Nat.le_of_ble_eq_true rfl) rfl ?_
  refine g_sub [2, 3, 1, 0] rfl ?_
  refine tho_judged_L24_g q n n r1 t1 (0 : Int32) X2
def tho_slipByDraws_L5_B (n : Nat) (rec : Int32 → Int32 → Int32 → St → Option (Int32 × St)) (v2 : Int32) (v3 : Int32) (v4 : Int32) (X : St) : Option (Int32 × St) :=
(if v4 < (poo_many X) then
((some ((v3 * (1103515245 : Int32)) + (12345 : Int32))).bind fun t1 =>
(if (irm (jus t1 (8 : Int32)) (12 : Int32)) < v2 then
(if inB v4 8 then
(if inB v4 8 then
(rec v2 t1 (v4 + (1 : Int32)) (stI X 27 (nx v4) ((X.1 27 (nx v4)) + (1 : Int32)))) else none) else none)
else
(rec v2 t1 (v4 + (1 : Int32)) X)))
else
(some (v3, X)))
def tho_slipByDraws_L5 (n : Nat) : Nat → Int32 → Int32 → Int32 → St → Option (Int32 × St)
  | 0 => fun _ _ _ _ => none
  | w + 1 => tho_slipByDraws_L5_B n (tho_slipByDraws_L5 n w)
def tho_slipByDraws (n : Nat) (v1 : Int32) (v2 : Int32) (X : St) : Option (Int32 × St) :=
  (tho_slipByDraws_L5 n n v2 v1 (0 : Int32) X)
theorem tho_slipByDraws_L5_Bg (q : Th) (n : Nat) (rec : Int32 → Int32 → Int32 → St → Option (Int32 × St)) (hrec : ∀ v2 v3 v4 X, G q (mF q nX9_slipByDraws RX9 1) fiw 5 [(0, .ref (q.ad 26)), (2, .int v2), (3, .int v3), (4, .int v4)] [] X (rec v2 v3 v4 X)) (v2 : Int32) (v3 : Int32) (v4 : Int32) (X : St) : G q (mF q nX9_slipByDraws RX9 1) fiw 5 [(0, .ref (q.ad 26)), (2, .int v2), (3, .int v3), (4, .int v4)] [] X (tho_slipByDraws_L5_B n rec v2 v3 v4 X) := by
  unfold tho_slipByDraws_L5_B
  refine g_iload 3 dX9_slipByDraws_5 rfl rfl ?_
  refine g_aload_n 0 dX9_slipByDraws_7 rfl rfl ?_
  refine g_getR 26 0 1 rfl dX9_slipByDraws_8 rfl kkX9 flX9_32 (by decide) rfl rfl (by decide) rfl ?_
  refine g_cVIt (As := []) (st := [.int v4]) 0 mF_wg rfl dX9_slipByDraws_11 rfl kkX5 (by decide) rfl vX5_many lkX9_44 (rmL rfl rfl) (poo_many_c q X) rfl rfl (Nat.le_of_ble_eq_true rfl) ?_
  refine g_icmp_ge dX9_slipByDraws_14 rfl rfl ?_ ?_
  · refine g_iload_n 2 dX9_slipByDraws_17 rfl rfl ?_
    refine g_ldc rfl dX9_slipByDraws_18 rfl kcX9_138 ?_
    refine g_imul dX9_slipByDraws_20 rfl ?_
    refine g_sipush dX9_slipByDraws_21 rfl ksi_12345 ?_
    refine g_iadd dX9_slipByDraws_24 rfl ?_
    refine g_nmI (fun t1 => ?_)
    refine g_istore_n (lv' := [(3, .int t1), (0, .ref (q.ad 26)), (2, .int v2), (4, .int v4)]) dX9_slipByDraws_25 rfl rfl (Nat.le_of_ble_eq_true rfl) rfl ?_
    refine g_iload_n 0 dX9_slipByDraws_26 rfl rfl ?_
    refine g_bipush dX9_slipByDraws_27 rfl kbi_8 ?_
    refine g_iushr dX9_slipByDraws_29 rfl ?_
    refine g_bipush dX9_slipByDraws_30 rfl kbi_12 ?_
    refine g_iremC dX9_slipByDraws_32 rfl (by decide) ?_
    refine g_iload_n 2 dX9_slipByDraws_33 rfl rfl ?_
    refine g_icmp_ge dX9_slipByDraws_34 rfl rfl ?_ ?_
    · refine g_aload_n 1 dX9_slipByDraws_37 rfl rfl ?_
      refine g_getR 26 3 27 rfl dX9_slipByDraws_38 rfl kkX9 flX9_9 (by decide) rfl rfl (by decide) rfl ?_
      refine g_iload 3 dX9_slipByDraws_41 rfl rfl ?_
      refine g_dup2 dX9_slipByDraws_43 rfl rfl rfl ?_
      refine g_iald dX9_slipByDraws_44 rfl (by decide) rfl rfl ?_
      refine g_iconst dX9_slipByDraws_45 rfl kic_1 ?_
      refine g_iadd dX9_slipByDraws_46 rfl ?_
      refine g_iast dX9_slipByDraws_47 rfl (by decide) rfl rfl ?_
      refine g_inc (lv' := [(4, .int (v4 + (1 : Int32))), (3, .int t1), (0, .ref (q.ad 26)), (2, .int v2)]) 3 dX9_slipByDraws_48 rfl rfl kic_1 (Nat.le_of_ble_eq_true rfl) rfl ?_
      refine g_goto dX9_slipByDraws_51 rfl ?_
      refine g_sub [2, 3, 1, 0] rfl ?_
      exact hrec v2 t1 (v4 + (1 : Int32)) (stI X 27 (nx v4) ((X.1 27 (nx v4)) + (1 : Int32)))
    refine g_inc (lv' := [(4, .int (v4 + (1 : Int32))), (3, .int t1), (0, .ref (q.ad 26)), (2, .int v2)]) 3 dX9_slipByDraws_48 rfl rfl kic_1 (Nat.le_of_ble_eq_true rfl) rfl ?_
    refine g_goto dX9_slipByDraws_51 rfl ?_
    refine g_sub [2, 3, 1, 0] rfl ?_
    exact hrec v2 t1 (v4 + (1 : Int32)) X
  refine g_iload_n 2 dX9_slipByDraws_54 rfl rfl ?_
  exact g_iret dX9_slipByDraws_55 rfl rfl
theorem tho_slipByDraws_L5_g (q : Th) (n : Nat) : ∀ (w : Nat) (v2 : Int32) (v3 : Int32) (v4 : Int32) (X : St), G q (mF q nX9_slipByDraws RX9 1) fiw 5 [(0, .ref (q.ad 26)), (2, .int v2), (3, .int v3), (4, .int v4)] [] X (tho_slipByDraws_L5 n w v2 v3 v4 X) := by
  intro w
  induction w with
  | zero => intro v2 v3 v4 X; exact g_none
  | succ w ih => intro v2 v3 v4 X; exact tho_slipByDraws_L5_Bg q n _ ih v2 v3 v4 X
theorem tho_slipByDraws_c (q : Th) (n : Nat) (v1 : Int32) (v2 : Int32) (X : St) : Ct q nX9_slipByDraws 1 fiw [.ref (q.ad 26), .int v1, .int v2] X (tho_slipByDraws n v1 v2 X) := by
  refine ct_of (by decide +kernel) (Nat.le_of_ble_eq_true rfl) ?_
  unfold tho_slipByDraws
  show G q _ _ 0 [(0, .ref (q.ad 26)), (1, .int v1), (2, .int v2)] [] X _
  refine g_iload_n 1 dX9_slipByDraws_0 rfl rfl ?_
  refine g_istore_n (lv' := [(3, .int v1), (0, .ref (q.ad 26)), (1, .int v1), (2, .int v2)]) dX9_slipByDraws_1 rfl rfl (Nat.le_of_ble_eq_true rfl) rfl ?_
  refine g_iconst dX9_slipByDraws_2 rfl kic_0 ?_
  refine g_istore (lv' := [(4, .int (0 : Int32)), (3, .int v1), (0, .ref (q.ad 26)), (1, .int v1), (2, .int v2)]) dX9_slipByDraws_3 rfl (Nat.le_of_ble_eq_true rfl) rfl ?_
  refine g_sub [2, 4, 1, 0] rfl ?_
  refine tho_slipByDraws_L5_g q n n v2 v1 (0 : Int32) X
def tho_train_L28_B (n : Nat) (k79 : Int32 → Int32 → Int32 → Int32 → Int32 → Int32 → Int32 → Int32 → St → Option (Int32 × St)) (rec : Int32 → Int32 → Int32 → Int32 → Int32 → Int32 → Int32 → Int32 → Int32 → St → Option (Int32 × St)) (v2 : Int32) (v3 : Int32) (v4 : Int32) (v5 : Int32) (v6 : Int32) (v7 : Int32) (v8 : Int32) (v9 : Int32) (v10 : Int32) (X : St) : Option (Int32 × St) :=
(if v10 < (rou_counts X) then
((tho_slipByDraws n v5 v3 X).bind fun (c3, X2) =>
((rou_actAt v10 X2).bind fun c4 =>
((tho_step n c4 X2).bind fun X5 =>
((tho_marksBehind n v10 X5).bind fun (c7, X6) =>
(rec v2 v3 v4 c3 v6 v7 v8 (v9 + c7) (v10 + (1 : Int32)) X6)))))
else
(k79 v2 v3 v4 v5 v6 v7 v8 v9 X))
def tho_train_L28 (n : Nat) (k79 : Int32 → Int32 → Int32 → Int32 → Int32 → Int32 → Int32 → Int32 → St → Option (Int32 × St)) : Nat → Int32 → Int32 → Int32 → Int32 → Int32 → Int32 → Int32 → Int32 → Int32 → St → Option (Int32 × St)
  | 0 => fun _ _ _ _ _ _ _ _ _ _ => none
  | w + 1 => tho_train_L28_B n k79 (tho_train_L28 n k79 w)
def tho_train_L12_B (n : Nat) (rec : Int32 → Int32 → Int32 → Int32 → Int32 → Int32 → Int32 → St → Option (Int32 × St)) (v2 : Int32) (v3 : Int32) (v4 : Int32) (v5 : Int32) (v6 : Int32) (v7 : Int32) (v8 : Int32) (X : St) : Option (Int32 × St) :=
(if v8 < v2 then
((tho_still n X).bind fun X1 =>
(tho_train_L28 n (fun v9 v10 v11 v12 v13 v14 v15 v16 X8 =>
(if v16 = 0 then
(rec v9 v10 v11 v12 (v13 + v16) (v14 + (1 : Int32)) (v15 + (1 : Int32)) X8)
else
(rec v9 v10 v11 v12 (v13 + v16) (v14 + (0 : Int32)) (v15 + (1 : Int32)) X8))) n v2 v3 v4 v5 v6 v7 v8 (0 : Int32) (0 : Int32) X1))
else
(if v4 = 0 then
(some (v7, X))
else
(some (v6, X))))
def tho_train_L12 (n : Nat) : Nat → Int32 → Int32 → Int32 → Int32 → Int32 → Int32 → Int32 → St → Option (Int32 × St)
  | 0 => fun _ _ _ _ _ _ _ _ => none
  | w + 1 => tho_train_L12_B n (tho_train_L12 n w)
def tho_train (n : Nat) (v1 : Int32) (v2 : Int32) (v3 : Int32) (v4 : Int32) (X : St) : Option (Int32 × St) :=
  (tho_train_L12 n n v2 v3 v4 v1 (0 : Int32) (0 : Int32) (0 : Int32) X)
theorem tho_train_L28_Bg (q : Th) (n : Nat) (k79 : Int32 → Int32 → Int32 → Int32 → Int32 → Int32 → Int32 → Int32 → St → Option (Int32 × St)) (hk79 : ∀ v2 v3 v4 v5 v6 v7 v8 v9 X, G q (mF q nX9_train RX9 5) fiw 79 [(0, .ref (q.ad 26)), (2, .int v2), (3, .int v3), (4, .int v4), (5, .int v5), (6, .int v6), (7, .int v7), (8, .int v8), (9, .int v9)] [] X (k79 v2 v3 v4 v5 v6 v7 v8 v9 X)) (rec : Int32 → Int32 → Int32 → Int32 → Int32 → Int32 → Int32 → Int32 → Int32 → St → Option (Int32 × St)) (hrec : ∀ v2 v3 v4 v5 v6 v7 v8 v9 v10 X, G q (mF q nX9_train RX9 5) fiw 28 [(0, .ref (q.ad 26)), (2, .int v2), (3, .int v3), (4, .int v4), (5, .int v5), (6, .int v6), (7, .int v7), (8, .int v8), (9, .int v9), (10, .int v10)] [] X (rec v2 v3 v4 v5 v6 v7 v8 v9 v10 X)) (v2 : Int32) (v3 : Int32) (v4 : Int32) (v5 : Int32) (v6 : Int32) (v7 : Int32) (v8 : Int32) (v9 : Int32) (v10 : Int32) (X : St) : G q (mF q nX9_train RX9 5) fiw 28 [(0, .ref (q.ad 26)), (2, .int v2), (3, .int v3), (4, .int v4), (5, .int v5), (6, .int v6), (7, .int v7), (8, .int v8), (9, .int v9), (10, .int v10)] [] X (tho_train_L28_B n k79 rec v2 v3 v4 v5 v6 v7 v8 v9 v10 X) := by
  unfold tho_train_L28_B
  refine g_iload 9 dX9_train_28 rfl rfl ?_
  refine g_aload_n 0 dX9_train_30 rfl rfl ?_
  refine g_getR 26 2 24 rfl dX9_train_31 rfl kkX9 flX9_40 (by decide) rfl rfl (by decide) rfl ?_
  refine g_cVIt (As := []) (st := [.int v10]) 0 mF_wg rfl dX9_train_34 rfl kkX6 (by decide) rfl vX6_counts lkX9_90 (rmL rfl rfl) (rou_counts_c q X) rfl rfl (Nat.le_of_ble_eq_true rfl) ?_
  refine g_icmp_ge dX9_train_37 rfl rfl ?_ ?_
  · refine g_aload_n 0 dX9_train_40 rfl rfl ?_
    refine g_iload 4 dX9_train_41 rfl rfl ?_
    refine g_iload_n 2 dX9_train_43 rfl rfl ?_
    refine g_cVIw (As := [.int v5, .int v3]) (st := []) 2 mF_wg rfl dX9_train_44 rfl kkX9 (by decide) rfl vX9_slipByDraws lkX9_135 (rmL rfl rfl) (tho_slipByDraws_c q n v5 v3 X) rfl rfl (Nat.le_of_ble_eq_true rfl) (fun c3 X2 => ?_)
    refine g_istore (lv' := [(5, .int c3), (0, .ref (q.ad 26)), (2, .int v2), (3, .int v3), (4, .int v4), (6, .int v6), (7, .int v7), (8, .int v8), (9, .int v9), (10, .int v10)]) dX9_train_47 rfl (Nat.le_of_ble_eq_true rfl) rfl ?_
    refine g_aload_n 1 dX9_train_49 rfl rfl ?_
    refine g_aload_n 1 dX9_train_50 rfl rfl ?_
    refine g_getR 26 2 24 rfl dX9_train_51 rfl kkX9 flX9_40 (by decide) rfl rfl (by decide) rfl ?_
    refine g_iload 9 dX9_train_54 rfl rfl ?_
    refine g_cVIr (As := [.int v10]) (st := [.ref (q.ad 26)]) 1 mF_wg rfl dX9_train_56 rfl kkX6 (by decide) rfl vX6_actAt lkX9_98 (rmL rfl rfl) (rou_actAt_c q v10 X2) rfl rfl (Nat.le_of_ble_eq_true rfl) (fun c4 => ?_)
    refine g_cVVw (As := [.int c4]) (st := []) 1 mF_wg rfl dX9_train_59 rfl kkX9 (by decide) rfl vX9_step lkX9_101 (rmL rfl rfl) (tho_step_c q n c4 X2) rfl rfl (Nat.le_of_ble_eq_true rfl) (fun X5 => ?_)
    refine g_iload 8 dX9_train_62 rfl rfl ?_
    refine g_aload_n 1 dX9_train_64 rfl rfl ?_
    refine g_iload 9 dX9_train_65 rfl rfl ?_
    refine g_cVIw (As := [.int v10]) (st := [.int v9]) 1 mF_wg rfl dX9_train_67 rfl kkX9 (by decide) rfl vX9_marksBehind lkX9_123 (rmL rfl rfl) (tho_marksBehind_c q n v10 X5) rfl rfl (Nat.le_of_ble_eq_true rfl) (fun c7 X6 => ?_)
    refine g_iadd dX9_train_70 rfl ?_
    refine g_istore (lv' := [(9, .int (v9 + c7)), (5, .int c3), (0, .ref (q.ad 26)), (2, .int v2), (3, .int v3), (4, .int v4), (6, .int v6), (7, .int v7), (8, .int v8), (10, .int v10)]) dX9_train_71 rfl (Nat.le_of_ble_eq_true rfl) rfl ?_
    refine g_inc (lv' := [(10, .int (v10 + (1 : Int32))), (9, .int (v9 + c7)), (5, .int c3), (0, .ref (q.ad 26)), (2, .int v2), (3, .int v3), (4, .int v4), (6, .int v6), (7, .int v7), (8, .int v8)]) 9 dX9_train_73 rfl rfl kic_1 (Nat.le_of_ble_eq_true rfl) rfl ?_
    refine g_goto dX9_train_76 rfl ?_
    refine g_sub [3, 4, 5, 6, 2, 7, 8, 9, 1, 0] rfl ?_
    exact hrec v2 v3 v4 c3 v6 v7 v8 (v9 + c7) (v10 + (1 : Int32)) X6
  refine g_sub [0, 1, 2, 3, 4, 5, 6, 7, 8] rfl ?_
  exact hk79 v2 v3 v4 v5 v6 v7 v8 v9 X
theorem tho_train_L28_g (q : Th) (n : Nat) (k79 : Int32 → Int32 → Int32 → Int32 → Int32 → Int32 → Int32 → Int32 → St → Option (Int32 × St)) (hk79 : ∀ v2 v3 v4 v5 v6 v7 v8 v9 X, G q (mF q nX9_train RX9 5) fiw 79 [(0, .ref (q.ad 26)), (2, .int v2), (3, .int v3), (4, .int v4), (5, .int v5), (6, .int v6), (7, .int v7), (8, .int v8), (9, .int v9)] [] X (k79 v2 v3 v4 v5 v6 v7 v8 v9 X)) : ∀ (w : Nat) (v2 : Int32) (v3 : Int32) (v4 : Int32) (v5 : Int32) (v6 : Int32) (v7 : Int32) (v8 : Int32) (v9 : Int32) (v10 : Int32) (X : St), G q (mF q nX9_train RX9 5) fiw 28 [(0, .ref (q.ad 26)), (2, .int v2), (3, .int v3), (4, .int v4), (5, .int v5), (6, .int v6), (7, .int v7), (8, .int v8), (9, .int v9), (10, .int v10)] [] X (tho_train_L28 n k79 w v2 v3 v4 v5 v6 v7 v8 v9 v10 X) := by
  intro w
  induction w with
  | zero => intro v2 v3 v4 v5 v6 v7 v8 v9 v10 X; exact g_none
  | succ w ih => intro v2 v3 v4 v5 v6 v7 v8 v9 v10 X; exact tho_train_L28_Bg q n k79 hk79 _ ih v2 v3 v4 v5 v6 v7 v8 v9 v10 X
theorem tho_train_L12_Bg (q : Th) (n : Nat) (rec : Int32 → Int32 → Int32 → Int32 → Int32 → Int32 → Int32 → St → Option (Int32 × St)) (hrec : ∀ v2 v3 v4 v5 v6 v7 v8 X, G q (mF q nX9_train RX9 5) fiw 12 [(0, .ref (q.ad 26)), (2, .int v2), (3, .int v3), (4, .int v4), (5, .int v5), (6, .int v6), (7, .int v7), (8, .int v8)] [] X (rec v2 v3 v4 v5 v6 v7 v8 X)) (v2 : Int32) (v3 : Int32) (v4 : Int32) (v5 : Int32) (v6 : Int32) (v7 : Int32) (v8 : Int32) (X : St) : G q (mF q nX9_train RX9 5) fiw 12 [(0, .ref (q.ad 26)), (2, .int v2), (3, .int v3), (4, .int v4), (5, .int v5), (6, .int v6), (7, .int v7), (8, .int v8)] [] X (tho_train_L12_B n rec v2 v3 v4 v5 v6 v7 v8 X) := by
  unfold tho_train_L12_B
  refine g_iload 7 dX9_train_12 rfl rfl ?_
  refine g_iload_n 1 dX9_train_14 rfl rfl ?_
  refine g_icmp_ge dX9_train_15 rfl rfl ?_ ?_
  · refine g_iconst dX9_train_18 rfl kic_0 ?_
    refine g_istore (lv' := [(9, .int (0 : Int32)), (0, .ref (q.ad 26)), (2, .int v2), (3, .int v3), (4, .int v4), (5, .int v5), (6, .int v6), (7, .int v7), (8, .int v8)]) dX9_train_19 rfl (Nat.le_of_ble_eq_true rfl) rfl ?_
    refine g_aload_n 1 dX9_train_21 rfl rfl ?_
    refine g_cVVw (As := []) (st := []) 0 mF_wg rfl dX9_train_22 rfl kkX9 (by decide) rfl vX9_still lkX9_87 (rmL rfl rfl) (tho_still_c q n X) rfl rfl (Nat.le_of_ble_eq_true rfl) (fun X1 => ?_)
    refine g_iconst dX9_train_25 rfl kic_0 ?_
    refine g_istore (lv' := [(10, .int (0 : Int32)), (9, .int (0 : Int32)), (0, .ref (q.ad 26)), (2, .int v2), (3, .int v3), (4, .int v4), (5, .int v5), (6, .int v6), (7, .int v7), (8, .int v8)]) dX9_train_26 rfl (Nat.le_of_ble_eq_true rfl) rfl ?_
    refine g_sub [2, 3, 4, 5, 6, 7, 8, 9, 1, 0] rfl ?_
    refine tho_train_L28_g q n _ (fun v9 v10 v11 v12 v13 v14 v15 v16 X8 => ?_) n v2 v3 v4 v5 v6 v7 v8 (0 : Int32) (0 : Int32) X1
    refine g_iload 5 dX9_train_79 rfl rfl ?_
    refine g_iload 8 dX9_train_81 rfl rfl ?_
    refine g_iadd dX9_train_83 rfl ?_
    refine g_istore (lv' := [(6, .int (v13 + v16)), (0, .ref (q.ad 26)), (2, .int v9), (3, .int v10), (4, .int v11), (5, .int v12), (7, .int v14), (8, .int v15), (9, .int v16)]) dX9_train_84 rfl (Nat.le_of_ble_eq_true rfl) rfl ?_
    refine g_iload 6 dX9_train_86 rfl rfl ?_
    refine g_iload 8 dX9_train_88 rfl rfl ?_
    refine g_if_ne dX9_train_90 rfl rfl ?_ ?_
    · refine g_iconst dX9_train_93 rfl kic_1 ?_
      refine g_goto dX9_train_94 rfl ?_
      refine g_iadd dX9_train_98 rfl ?_
      refine g_istore (lv' := [(7, .int (v14 + (1 : Int32))), (6, .int (v13 + v16)), (0, .ref (q.ad 26)), (2, .int v9), (3, .int v10), (4, .int v11), (5, .int v12), (8, .int v15), (9, .int v16)]) dX9_train_99 rfl (Nat.le_of_ble_eq_true rfl) rfl ?_
      refine g_inc (lv' := [(8, .int (v15 + (1 : Int32))), (7, .int (v14 + (1 : Int32))), (6, .int (v13 + v16)), (0, .ref (q.ad 26)), (2, .int v9), (3, .int v10), (4, .int v11), (5, .int v12), (9, .int v16)]) 7 dX9_train_101 rfl rfl kic_1 (Nat.le_of_ble_eq_true rfl) rfl ?_
      refine g_goto dX9_train_104 rfl ?_
      refine g_sub [3, 4, 5, 6, 7, 2, 1, 0] rfl ?_
      exact hrec v9 v10 v11 v12 (v13 + v16) (v14 + (1 : Int32)) (v15 + (1 : Int32)) X8
    refine g_iconst dX9_train_97 rfl kic_0 ?_
    refine g_iadd dX9_train_98 rfl ?_
    refine g_istore (lv' := [(7, .int (v14 + (0 : Int32))), (6, .int (v13 + v16)), (0, .ref (q.ad 26)), (2, .int v9), (3, .int v10), (4, .int v11), (5, .int v12), (8, .int v15), (9, .int v16)]) dX9_train_99 rfl (Nat.le_of_ble_eq_true rfl) rfl ?_
    refine g_inc (lv' := [(8, .int (v15 + (1 : Int32))), (7, .int (v14 + (0 : Int32))), (6, .int (v13 + v16)), (0, .ref (q.ad 26)), (2, .int v9), (3, .int v10), (4, .int v11), (5, .int v12), (9, .int v16)]) 7 dX9_train_101 rfl rfl kic_1 (Nat.le_of_ble_eq_true rfl) rfl ?_
    refine g_goto dX9_train_104 rfl ?_
    refine g_sub [3, 4, 5, 6, 7, 2, 1, 0] rfl ?_
    exact hrec v9 v10 v11 v12 (v13 + v16) (v14 + (0 : Int32)) (v15 + (1 : Int32)) X8
  refine g_iload 3 dX9_train_107 rfl rfl ?_
  refine g_if_eq dX9_train_109 rfl rfl ?_ ?_
  · refine g_iload 6 dX9_train_117 rfl rfl ?_
    exact g_iret dX9_train_119 rfl rfl
  refine g_iload 5 dX9_train_112 rfl rfl ?_
  refine g_goto dX9_train_114 rfl ?_
  exact g_iret dX9_train_119 rfl rfl
theorem tho_train_L12_g (q : Th) (n : Nat) : ∀ (w : Nat) (v2 : Int32) (v3 : Int32) (v4 : Int32) (v5 : Int32) (v6 : Int32) (v7 : Int32) (v8 : Int32) (X : St), G q (mF q nX9_train RX9 5) fiw 12 [(0, .ref (q.ad 26)), (2, .int v2), (3, .int v3), (4, .int v4), (5, .int v5), (6, .int v6), (7, .int v7), (8, .int v8)] [] X (tho_train_L12 n w v2 v3 v4 v5 v6 v7 v8 X) := by
  intro w
  induction w with
  | zero => intro v2 v3 v4 v5 v6 v7 v8 X; exact g_none
  | succ w ih => intro v2 v3 v4 v5 v6 v7 v8 X; exact tho_train_L12_Bg q n _ ih v2 v3 v4 v5 v6 v7 v8 X
theorem tho_train_c (q : Th) (n : Nat) (v1 : Int32) (v2 : Int32) (v3 : Int32) (v4 : Int32) (X : St) : Ct q nX9_train 5 fiw [.ref (q.ad 26), .int v1, .int v2, .int v3, .int v4] X (tho_train n v1 v2 v3 v4 X) := by
  refine ct_of (by decide +kernel) (Nat.le_of_ble_eq_true rfl) ?_
  unfold tho_train
  show G q _ _ 0 [(0, .ref (q.ad 26)), (1, .int v1), (2, .int v2), (3, .int v3), (4, .int v4)] [] X _
  refine g_iload_n 1 dX9_train_0 rfl rfl ?_
  refine g_istore (lv' := [(5, .int v1), (0, .ref (q.ad 26)), (1, .int v1), (2, .int v2), (3, .int v3), (4, .int v4)]) dX9_train_1 rfl (Nat.le_of_ble_eq_true rfl) rfl ?_
  refine g_iconst dX9_train_3 rfl kic_0 ?_
  refine g_istore (lv' := [(6, .int (0 : Int32)), (5, .int v1), (0, .ref (q.ad 26)), (1, .int v1), (2, .int v2), (3, .int v3), (4, .int v4)]) dX9_train_4 rfl (Nat.le_of_ble_eq_true rfl) rfl ?_
  refine g_iconst dX9_train_6 rfl kic_0 ?_
  refine g_istore (lv' := [(7, .int (0 : Int32)), (6, .int (0 : Int32)), (5, .int v1), (0, .ref (q.ad 26)), (1, .int v1), (2, .int v2), (3, .int v3), (4, .int v4)]) dX9_train_7 rfl (Nat.le_of_ble_eq_true rfl) rfl ?_
  refine g_iconst dX9_train_9 rfl kic_0 ?_
  refine g_istore (lv' := [(8, .int (0 : Int32)), (7, .int (0 : Int32)), (6, .int (0 : Int32)), (5, .int v1), (0, .ref (q.ad 26)), (1, .int v1), (2, .int v2), (3, .int v3), (4, .int v4)]) dX9_train_10 rfl (Nat.le_of_ble_eq_true rfl) rfl ?_
  refine g_sub [4, 6, 7, 8, 3, 2, 1, 0] rfl ?_
  refine tho_train_L12_g q n n v2 v3 v4 v1 (0 : Int32) (0 : Int32) (0 : Int32) X
