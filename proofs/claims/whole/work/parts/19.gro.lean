/-! 19.gro: what the methods come to, and that they do -/
def gro_swap (v1 : Int32) (v2 : Int32) (X : St) : Option (St) :=
  (if inB v1 6 then
  (if inB v2 6 then
  (if inB v1 6 then
  (if inB v2 6 then
  ((some (stI (stI X 79 (nx v1) (X.1 79 (nx v2))) 79 (nx v2) (X.1 79 (nx v1)))).bind fun X1 =>
  (some X1)) else none) else none) else none) else none)
theorem gro_swap_c (q : Th) (v1 : Int32) (v2 : Int32) (X : St) : Ct q nX3_swap 0 fvw [.ref (q.ad 78), .int v1, .int v2] X (gro_swap v1 v2 X) := by
  refine ct_of (by decide +kernel) (Nat.le_of_ble_eq_true rfl) ?_
  unfold gro_swap
  show G q _ _ 0 [(0, .ref (q.ad 78)), (1, .int v1), (2, .int v2)] [] X _
  refine g_aload_n 0 dX3_swap_0 rfl rfl ?_
  refine g_getR 78 1 79 rfl dX3_swap_1 rfl kkX3 flX3_9 (by decide) rfl rfl (by decide) rfl ?_
  refine g_iload_n 1 dX3_swap_4 rfl rfl ?_
  refine g_iald dX3_swap_5 rfl (by decide) rfl rfl ?_
  refine g_istore_n (lv' := [(3, .int (X.1 79 (nx v1))), (0, .ref (q.ad 78)), (1, .int v1), (2, .int v2)]) dX3_swap_6 rfl rfl (Nat.le_of_ble_eq_true rfl) rfl ?_
  refine g_aload_n 1 dX3_swap_7 rfl rfl ?_
  refine g_getR 78 1 79 rfl dX3_swap_8 rfl kkX3 flX3_9 (by decide) rfl rfl (by decide) rfl ?_
  refine g_iload_n 2 dX3_swap_11 rfl rfl ?_
  refine g_aload_n 1 dX3_swap_12 rfl rfl ?_
  refine g_getR 78 1 79 rfl dX3_swap_13 rfl kkX3 flX3_9 (by decide) rfl rfl (by decide) rfl ?_
  refine g_iload_n 3 dX3_swap_16 rfl rfl ?_
  refine g_iald dX3_swap_17 rfl (by decide) rfl rfl ?_
  refine g_iast dX3_swap_18 rfl (by decide) rfl rfl ?_
  refine g_aload_n 1 dX3_swap_19 rfl rfl ?_
  refine g_getR 78 1 79 rfl dX3_swap_20 rfl kkX3 flX3_9 (by decide) rfl rfl (by decide) rfl ?_
  refine g_iload_n 3 dX3_swap_23 rfl rfl ?_
  refine g_iload_n 0 dX3_swap_24 rfl rfl ?_
  refine g_iast dX3_swap_25 rfl (by decide) rfl rfl ?_
  refine g_nmX (fun X1 => ?_)
  exact g_vret dX3_swap_26 rfl rfl
def gro_nextOrder_L4_B (n : Nat) (k36 : Int32 → Int32 → St → Option (Int32 × St)) (rec : Int32 → Int32 → Int32 → St → Option (Int32 × St)) (v1 : Int32) (v2 : Int32) (v3 : Int32) (X : St) : Option (Int32 × St) :=
(if (v3 + (1 : Int32)) < v1 then
(if inB v3 6 then
(if inB (v3 + (1 : Int32)) 6 then
(if (X.1 79 (nx v3)) < (X.1 79 (nx (v3 + (1 : Int32)))) then
(rec v1 v3 (v3 + (1 : Int32)) X)
else
(rec v1 v2 (v3 + (1 : Int32)) X)) else none) else none)
else
(k36 v1 v2 X))
def gro_nextOrder_L4 (n : Nat) (k36 : Int32 → Int32 → St → Option (Int32 × St)) : Nat → Int32 → Int32 → Int32 → St → Option (Int32 × St)
  | 0 => fun _ _ _ _ => none
  | w + 1 => gro_nextOrder_L4_B n k36 (gro_nextOrder_L4 n k36 w)
def gro_nextOrder_L51_B (n : Nat) (k82 : Int32 → Int32 → Int32 → St → Option (Int32 × St)) (rec : Int32 → Int32 → Int32 → Int32 → St → Option (Int32 × St)) (v1 : Int32) (v2 : Int32) (v3 : Int32) (v4 : Int32) (X : St) : Option (Int32 × St) :=
(if v4 < v1 then
(if inB v4 6 then
(if inB v2 6 then
(if (X.1 79 (nx v2)) < (X.1 79 (nx v4)) then
(rec v1 v2 v4 (v4 + (1 : Int32)) X)
else
(rec v1 v2 v3 (v4 + (1 : Int32)) X)) else none) else none)
else
(k82 v1 v2 v3 X))
def gro_nextOrder_L51 (n : Nat) (k82 : Int32 → Int32 → Int32 → St → Option (Int32 × St)) : Nat → Int32 → Int32 → Int32 → Int32 → St → Option (Int32 × St)
  | 0 => fun _ _ _ _ _ => none
  | w + 1 => gro_nextOrder_L51_B n k82 (gro_nextOrder_L51 n k82 w)
def gro_nextOrder_L98_B (n : Nat) (rec : Int32 → Int32 → St → Option (Int32 × St)) (v4 : Int32) (v5 : Int32) (X : St) : Option (Int32 × St) :=
(if v5 < v4 then
((gro_swap v5 v4 X).bind fun X9 =>
(rec (v4 + (-1 : Int32)) (v5 + (1 : Int32)) X9))
else
(some ((1 : Int32), X)))
def gro_nextOrder_L98 (n : Nat) : Nat → Int32 → Int32 → St → Option (Int32 × St)
  | 0 => fun _ _ _ => none
  | w + 1 => gro_nextOrder_L98_B n (gro_nextOrder_L98 n w)
def gro_nextOrder (n : Nat) (v1 : Int32) (X : St) : Option (Int32 × St) :=
  (gro_nextOrder_L4 n (fun v2 v3 X1 =>
  (if v3 < 0 then
  (some ((0 : Int32), X1))
  else
  (gro_nextOrder_L51 n (fun v5 v6 v7 X4 =>
  ((gro_swap v6 v7 X4).bind fun X8 =>
  (gro_nextOrder_L98 n n (v5 - (1 : Int32)) (v6 + (1 : Int32)) X8))) n v2 v3 (v3 + (1 : Int32)) (v3 + (1 : Int32)) X1))) n v1 (-1 : Int32) (0 : Int32) X)
theorem gro_nextOrder_L4_Bg (q : Th) (n : Nat) (k36 : Int32 → Int32 → St → Option (Int32 × St)) (hk36 : ∀ v1 v2 X, G q (mF q nX3_nextOrder RX3 1) fiw 36 [(0, .ref (q.ad 78)), (1, .int v1), (2, .int v2)] [] X (k36 v1 v2 X)) (rec : Int32 → Int32 → Int32 → St → Option (Int32 × St)) (hrec : ∀ v1 v2 v3 X, G q (mF q nX3_nextOrder RX3 1) fiw 4 [(0, .ref (q.ad 78)), (1, .int v1), (2, .int v2), (3, .int v3)] [] X (rec v1 v2 v3 X)) (v1 : Int32) (v2 : Int32) (v3 : Int32) (X : St) : G q (mF q nX3_nextOrder RX3 1) fiw 4 [(0, .ref (q.ad 78)), (1, .int v1), (2, .int v2), (3, .int v3)] [] X (gro_nextOrder_L4_B n k36 rec v1 v2 v3 X) := by
  unfold gro_nextOrder_L4_B
  refine g_iload_n 3 dX3_nextOrder_4 rfl rfl ?_
  refine g_iconst dX3_nextOrder_5 rfl kic_1 ?_
  refine g_iadd dX3_nextOrder_6 rfl ?_
  refine g_iload_n 1 dX3_nextOrder_7 rfl rfl ?_
  refine g_icmp_ge dX3_nextOrder_8 rfl rfl ?_ ?_
  · refine g_aload_n 0 dX3_nextOrder_11 rfl rfl ?_
    refine g_getR 78 1 79 rfl dX3_nextOrder_12 rfl kkX3 flX3_9 (by decide) rfl rfl (by decide) rfl ?_
    refine g_iload_n 3 dX3_nextOrder_15 rfl rfl ?_
    refine g_iald dX3_nextOrder_16 rfl (by decide) rfl rfl ?_
    refine g_aload_n 0 dX3_nextOrder_17 rfl rfl ?_
    refine g_getR 78 1 79 rfl dX3_nextOrder_18 rfl kkX3 flX3_9 (by decide) rfl rfl (by decide) rfl ?_
    refine g_iload_n 3 dX3_nextOrder_21 rfl rfl ?_
    refine g_iconst dX3_nextOrder_22 rfl kic_1 ?_
    refine g_iadd dX3_nextOrder_23 rfl ?_
    refine g_iald dX3_nextOrder_24 rfl (by decide) rfl rfl ?_
    refine g_icmp_ge dX3_nextOrder_25 rfl rfl ?_ ?_
    · refine g_iload_n 3 dX3_nextOrder_28 rfl rfl ?_
      refine g_istore_n (lv' := [(2, .int v3), (0, .ref (q.ad 78)), (1, .int v1), (3, .int v3)]) dX3_nextOrder_29 rfl rfl (Nat.le_of_ble_eq_true rfl) rfl ?_
      refine g_inc (lv' := [(3, .int (v3 + (1 : Int32))), (2, .int v3), (0, .ref (q.ad 78)), (1, .int v1)]) 3 dX3_nextOrder_30 rfl rfl kic_1 (Nat.le_of_ble_eq_true rfl) rfl ?_
      refine g_goto dX3_nextOrder_33 rfl ?_
      refine g_sub [2, 3, 1, 0] rfl ?_
      exact hrec v1 v3 (v3 + (1 : Int32)) X
    refine g_inc (lv' := [(3, .int (v3 + (1 : Int32))), (0, .ref (q.ad 78)), (1, .int v1), (2, .int v2)]) 3 dX3_nextOrder_30 rfl rfl kic_1 (Nat.le_of_ble_eq_true rfl) rfl ?_
    refine g_goto dX3_nextOrder_33 rfl ?_
    refine g_sub [1, 2, 3, 0] rfl ?_
    exact hrec v1 v2 (v3 + (1 : Int32)) X
  refine g_sub [0, 1, 2] rfl ?_
  exact hk36 v1 v2 X
theorem gro_nextOrder_L4_g (q : Th) (n : Nat) (k36 : Int32 → Int32 → St → Option (Int32 × St)) (hk36 : ∀ v1 v2 X, G q (mF q nX3_nextOrder RX3 1) fiw 36 [(0, .ref (q.ad 78)), (1, .int v1), (2, .int v2)] [] X (k36 v1 v2 X)) : ∀ (w : Nat) (v1 : Int32) (v2 : Int32) (v3 : Int32) (X : St), G q (mF q nX3_nextOrder RX3 1) fiw 4 [(0, .ref (q.ad 78)), (1, .int v1), (2, .int v2), (3, .int v3)] [] X (gro_nextOrder_L4 n k36 w v1 v2 v3 X) := by
  intro w
  induction w with
  | zero => intro v1 v2 v3 X; exact g_none
  | succ w ih => intro v1 v2 v3 X; exact gro_nextOrder_L4_Bg q n k36 hk36 _ ih v1 v2 v3 X
theorem gro_nextOrder_L51_Bg (q : Th) (n : Nat) (k82 : Int32 → Int32 → Int32 → St → Option (Int32 × St)) (hk82 : ∀ v1 v2 v3 X, G q (mF q nX3_nextOrder RX3 1) fiw 82 [(0, .ref (q.ad 78)), (1, .int v1), (2, .int v2), (3, .int v3)] [] X (k82 v1 v2 v3 X)) (rec : Int32 → Int32 → Int32 → Int32 → St → Option (Int32 × St)) (hrec : ∀ v1 v2 v3 v4 X, G q (mF q nX3_nextOrder RX3 1) fiw 51 [(0, .ref (q.ad 78)), (1, .int v1), (2, .int v2), (3, .int v3), (4, .int v4)] [] X (rec v1 v2 v3 v4 X)) (v1 : Int32) (v2 : Int32) (v3 : Int32) (v4 : Int32) (X : St) : G q (mF q nX3_nextOrder RX3 1) fiw 51 [(0, .ref (q.ad 78)), (1, .int v1), (2, .int v2), (3, .int v3), (4, .int v4)] [] X (gro_nextOrder_L51_B n k82 rec v1 v2 v3 v4 X) := by
  unfold gro_nextOrder_L51_B
  refine g_iload 4 dX3_nextOrder_51 rfl rfl ?_
  refine g_iload_n 1 dX3_nextOrder_53 rfl rfl ?_
  refine g_icmp_ge dX3_nextOrder_54 rfl rfl ?_ ?_
  · refine g_aload_n 0 dX3_nextOrder_57 rfl rfl ?_
    refine g_getR 78 1 79 rfl dX3_nextOrder_58 rfl kkX3 flX3_9 (by decide) rfl rfl (by decide) rfl ?_
    refine g_iload 4 dX3_nextOrder_61 rfl rfl ?_
    refine g_iald dX3_nextOrder_63 rfl (by decide) rfl rfl ?_
    refine g_aload_n 0 dX3_nextOrder_64 rfl rfl ?_
    refine g_getR 78 1 79 rfl dX3_nextOrder_65 rfl kkX3 flX3_9 (by decide) rfl rfl (by decide) rfl ?_
    refine g_iload_n 2 dX3_nextOrder_68 rfl rfl ?_
    refine g_iald dX3_nextOrder_69 rfl (by decide) rfl rfl ?_
    refine g_icmp_le dX3_nextOrder_70 rfl rfl ?_ ?_
    · refine g_iload 4 dX3_nextOrder_73 rfl rfl ?_
      refine g_istore_n (lv' := [(3, .int v4), (0, .ref (q.ad 78)), (1, .int v1), (2, .int v2), (4, .int v4)]) dX3_nextOrder_75 rfl rfl (Nat.le_of_ble_eq_true rfl) rfl ?_
      refine g_inc (lv' := [(4, .int (v4 + (1 : Int32))), (3, .int v4), (0, .ref (q.ad 78)), (1, .int v1), (2, .int v2)]) 4 dX3_nextOrder_76 rfl rfl kic_1 (Nat.le_of_ble_eq_true rfl) rfl ?_
      refine g_goto dX3_nextOrder_79 rfl ?_
      refine g_sub [2, 3, 4, 1, 0] rfl ?_
      exact hrec v1 v2 v4 (v4 + (1 : Int32)) X
    refine g_inc (lv' := [(4, .int (v4 + (1 : Int32))), (0, .ref (q.ad 78)), (1, .int v1), (2, .int v2), (3, .int v3)]) 4 dX3_nextOrder_76 rfl rfl kic_1 (Nat.le_of_ble_eq_true rfl) rfl ?_
    refine g_goto dX3_nextOrder_79 rfl ?_
    refine g_sub [1, 2, 3, 4, 0] rfl ?_
    exact hrec v1 v2 v3 (v4 + (1 : Int32)) X
  refine g_sub [0, 1, 2, 3] rfl ?_
  exact hk82 v1 v2 v3 X
theorem gro_nextOrder_L51_g (q : Th) (n : Nat) (k82 : Int32 → Int32 → Int32 → St → Option (Int32 × St)) (hk82 : ∀ v1 v2 v3 X, G q (mF q nX3_nextOrder RX3 1) fiw 82 [(0, .ref (q.ad 78)), (1, .int v1), (2, .int v2), (3, .int v3)] [] X (k82 v1 v2 v3 X)) : ∀ (w : Nat) (v1 : Int32) (v2 : Int32) (v3 : Int32) (v4 : Int32) (X : St), G q (mF q nX3_nextOrder RX3 1) fiw 51 [(0, .ref (q.ad 78)), (1, .int v1), (2, .int v2), (3, .int v3), (4, .int v4)] [] X (gro_nextOrder_L51 n k82 w v1 v2 v3 v4 X) := by
  intro w
  induction w with
  | zero => intro v1 v2 v3 v4 X; exact g_none
  | succ w ih => intro v1 v2 v3 v4 X; exact gro_nextOrder_L51_Bg q n k82 hk82 _ ih v1 v2 v3 v4 X
theorem gro_nextOrder_L98_Bg (q : Th) (n : Nat) (rec : Int32 → Int32 → St → Option (Int32 × St)) (hrec : ∀ v4 v5 X, G q (mF q nX3_nextOrder RX3 1) fiw 98 [(0, .ref (q.ad 78)), (4, .int v4), (5, .int v5)] [] X (rec v4 v5 X)) (v4 : Int32) (v5 : Int32) (X : St) : G q (mF q nX3_nextOrder RX3 1) fiw 98 [(0, .ref (q.ad 78)), (4, .int v4), (5, .int v5)] [] X (gro_nextOrder_L98_B n rec v4 v5 X) := by
  unfold gro_nextOrder_L98_B
  refine g_iload 2 dX3_nextOrder_98 rfl rfl ?_
  refine g_iload 1 dX3_nextOrder_100 rfl rfl ?_
  refine g_icmp_ge dX3_nextOrder_102 rfl rfl ?_ ?_
  · refine g_aload_n 0 dX3_nextOrder_105 rfl rfl ?_
    refine g_iload 2 dX3_nextOrder_106 rfl rfl ?_
    refine g_iload 1 dX3_nextOrder_108 rfl rfl ?_
    refine g_cVVw (As := [.int v5, .int v4]) (st := []) 2 mF_wg rfl dX3_nextOrder_110 rfl kkX3 (by decide) rfl vX3_swap lkX3_54 (rmL rfl rfl) (gro_swap_c q v5 v4 X) rfl rfl (Nat.le_of_ble_eq_true rfl) (fun X9 => ?_)
    refine g_inc (lv' := [(4, .int (v4 + (-1 : Int32))), (0, .ref (q.ad 78)), (5, .int v5)]) 1 dX3_nextOrder_113 rfl rfl kic_m1 (Nat.le_of_ble_eq_true rfl) rfl ?_
    refine g_inc (lv' := [(5, .int (v5 + (1 : Int32))), (4, .int (v4 + (-1 : Int32))), (0, .ref (q.ad 78))]) 2 dX3_nextOrder_116 rfl rfl kic_1 (Nat.le_of_ble_eq_true rfl) rfl ?_
    refine g_goto dX3_nextOrder_119 rfl ?_
    refine g_sub [2, 1, 0] rfl ?_
    exact hrec (v4 + (-1 : Int32)) (v5 + (1 : Int32)) X9
  refine g_iconst dX3_nextOrder_122 rfl kic_1 ?_
  exact g_zret dX3_nextOrder_123 rfl rfl rfl
theorem gro_nextOrder_L98_g (q : Th) (n : Nat) : ∀ (w : Nat) (v4 : Int32) (v5 : Int32) (X : St), G q (mF q nX3_nextOrder RX3 1) fiw 98 [(0, .ref (q.ad 78)), (4, .int v4), (5, .int v5)] [] X (gro_nextOrder_L98 n w v4 v5 X) := by
  intro w
  induction w with
  | zero => intro v4 v5 X; exact g_none
  | succ w ih => intro v4 v5 X; exact gro_nextOrder_L98_Bg q n _ ih v4 v5 X
theorem gro_nextOrder_c (q : Th) (n : Nat) (v1 : Int32) (X : St) : Ct q nX3_nextOrder 1 fiw [.ref (q.ad 78), .int v1] X (gro_nextOrder n v1 X) := by
  refine ct_of (by decide +kernel) (Nat.le_of_ble_eq_true rfl) ?_
  unfold gro_nextOrder
  show G q _ _ 0 [(0, .ref (q.ad 78)), (1, .int v1)] [] X _
  refine g_iconst dX3_nextOrder_0 rfl kic_m1 ?_
  refine g_istore_n (lv' := [(2, .int (-1 : Int32)), (0, .ref (q.ad 78)), (1, .int v1)]) dX3_nextOrder_1 rfl rfl (Nat.le_of_ble_eq_true rfl) rfl ?_
  refine g_iconst dX3_nextOrder_2 rfl kic_0 ?_
  refine g_istore_n (lv' := [(3, .int (0 : Int32)), (2, .int (-1 : Int32)), (0, .ref (q.ad 78)), (1, .int v1)]) dX3_nextOrder_3 rfl rfl (Nat.le_of_ble_eq_true rfl) rfl ?_
  refine g_sub [2, 3, 1, 0] rfl ?_
  refine gro_nextOrder_L4_g q n _ (fun v2 v3 X1 => ?_) n v1 (-1 : Int32) (0 : Int32) X
  refine g_iload_n 2 dX3_nextOrder_36 rfl rfl ?_
  refine g_if_ge dX3_nextOrder_37 rfl rfl ?_ ?_
  · refine g_iconst dX3_nextOrder_40 rfl kic_0 ?_
    exact g_zret dX3_nextOrder_41 rfl rfl rfl
  refine g_iload_n 2 dX3_nextOrder_42 rfl rfl ?_
  refine g_iconst dX3_nextOrder_43 rfl kic_1 ?_
  refine g_iadd dX3_nextOrder_44 rfl ?_
  refine g_istore_n (lv' := [(3, .int (v3 + (1 : Int32))), (0, .ref (q.ad 78)), (1, .int v2), (2, .int v3)]) dX3_nextOrder_45 rfl rfl (Nat.le_of_ble_eq_true rfl) rfl ?_
  refine g_iload_n 3 dX3_nextOrder_46 rfl rfl ?_
  refine g_iconst dX3_nextOrder_47 rfl kic_1 ?_
  refine g_iadd dX3_nextOrder_48 rfl ?_
  refine g_istore (lv' := [(4, .int (v3 + (1 : Int32))), (3, .int (v3 + (1 : Int32))), (0, .ref (q.ad 78)), (1, .int v2), (2, .int v3)]) dX3_nextOrder_49 rfl (Nat.le_of_ble_eq_true rfl) rfl ?_
  refine g_sub [2, 3, 4, 1, 0] rfl ?_
  refine gro_nextOrder_L51_g q n _ (fun v5 v6 v7 X4 => ?_) n v2 v3 (v3 + (1 : Int32)) (v3 + (1 : Int32)) X1
  refine g_aload_n 0 dX3_nextOrder_82 rfl rfl ?_
  refine g_iload_n 2 dX3_nextOrder_83 rfl rfl ?_
  refine g_iload_n 3 dX3_nextOrder_84 rfl rfl ?_
  refine g_cVVw (As := [.int v6, .int v7]) (st := []) 2 mF_wg rfl dX3_nextOrder_85 rfl kkX3 (by decide) rfl vX3_swap lkX3_54 (rmL rfl rfl) (gro_swap_c q v6 v7 X4) rfl rfl (Nat.le_of_ble_eq_true rfl) (fun X8 => ?_)
  refine g_iload_n 1 dX3_nextOrder_88 rfl rfl ?_
  refine g_iconst dX3_nextOrder_89 rfl kic_1 ?_
  refine g_isub dX3_nextOrder_90 rfl ?_
  refine g_istore (lv' := [(4, .int (v5 - (1 : Int32))), (0, .ref (q.ad 78)), (1, .int v5), (2, .int v6), (3, .int v7)]) dX3_nextOrder_91 rfl (Nat.le_of_ble_eq_true rfl) rfl ?_
  refine g_iload_n 3 dX3_nextOrder_93 rfl rfl ?_
  refine g_iconst dX3_nextOrder_94 rfl kic_1 ?_
  refine g_iadd dX3_nextOrder_95 rfl ?_
  refine g_istore (lv' := [(5, .int (v6 + (1 : Int32))), (4, .int (v5 - (1 : Int32))), (0, .ref (q.ad 78)), (1, .int v5), (2, .int v6), (3, .int v7)]) dX3_nextOrder_96 rfl (Nat.le_of_ble_eq_true rfl) rfl ?_
  refine g_sub [2, 1, 0] rfl ?_
  refine gro_nextOrder_L98_g q n n (v5 - (1 : Int32)) (v6 + (1 : Int32)) X8
def gro_tall (v1 : Int32) (X : St) : Option (Int32) :=
  ((poo_told v1 (2 : Int32) X).bind fun c1 =>
  (some c1))
theorem gro_tall_c (q : Th) (v1 : Int32) (X : St) : Ct q nX3_tall 2 (fir X) [.ref (q.ad 78), .int v1] X (gro_tall v1 X) := by
  refine ct_of (by decide +kernel) (Nat.le_of_ble_eq_true rfl) ?_
  unfold gro_tall
  show G q _ _ 0 [(0, .ref (q.ad 78)), (1, .int v1)] [] X _
  refine g_aload_n 0 dX3_tall_0 rfl rfl ?_
  refine g_getR 78 0 1 rfl dX3_tall_1 rfl kkX3 flX3_18 (by decide) rfl rfl (by decide) rfl ?_
  refine g_iload_n 1 dX3_tall_4 rfl rfl ?_
  refine g_iconst dX3_tall_5 rfl kic_2 ?_
  refine g_cVIr (As := [.int v1, .int (2 : Int32)]) (st := []) 2 mF_wg rfl dX3_tall_6 rfl kkX5 (by decide) rfl vX5_told lkX3_58 (rmL rfl rfl) (poo_told_c q v1 (2 : Int32) X) rfl rfl (Nat.le_of_ble_eq_true rfl) (fun c1 => ?_)
  exact g_iret dX3_tall_9 rfl rfl
def gro_spread_L23_B (n : Nat) (X : St) (rec : Int32 → Int32 → Int32 → Int32 → Int32 → Option (Int32)) (v1 : Int32) (v2 : Int32) (v3 : Int32) (v4 : Int32) (v5 : Int32) : Option (Int32) :=
(if v5 < v2 then
(if inB v5 6 then
((gro_tall (X.1 79 (nx v5)) X).bind fun c2 =>
(rec v1 v2 (jmath_max v3 (c2 - (v1 * v5))) (jmath_min v4 (c2 - (v1 * v5))) (v5 + (1 : Int32)))) else none)
else
(some (v3 - v4)))
def gro_spread_L23 (n : Nat) (X : St) : Nat → Int32 → Int32 → Int32 → Int32 → Int32 → Option (Int32)
  | 0 => fun _ _ _ _ _ => none
  | w + 1 => gro_spread_L23_B n X (gro_spread_L23 n X w)
def gro_spread (n : Nat) (v1 : Int32) (v2 : Int32) (X : St) : Option (Int32) :=
  (if v2 = 0 then
  (some (0 : Int32))
  else
  ((gro_tall (X.1 79 (nx (0 : Int32))) X).bind fun c1 =>
  (gro_spread_L23 n X n v1 v2 c1 c1 (1 : Int32))))
theorem gro_spread_L23_Bg (q : Th) (n : Nat) (X : St) (rec : Int32 → Int32 → Int32 → Int32 → Int32 → Option (Int32)) (hrec : ∀ v1 v2 v3 v4 v5, G q (mF q nX3_spread RX3 3) (fir X) 23 [(0, .ref (q.ad 78)), (1, .int v1), (2, .int v2), (3, .int v3), (4, .int v4), (5, .int v5)] [] X (rec v1 v2 v3 v4 v5)) (v1 : Int32) (v2 : Int32) (v3 : Int32) (v4 : Int32) (v5 : Int32) : G q (mF q nX3_spread RX3 3) (fir X) 23 [(0, .ref (q.ad 78)), (1, .int v1), (2, .int v2), (3, .int v3), (4, .int v4), (5, .int v5)] [] X (gro_spread_L23_B n X rec v1 v2 v3 v4 v5) := by
  unfold gro_spread_L23_B
  refine g_iload 5 dX3_spread_23 rfl rfl ?_
  refine g_iload_n 2 dX3_spread_25 rfl rfl ?_
  refine g_icmp_ge dX3_spread_26 rfl rfl ?_ ?_
  · refine g_aload_n 0 dX3_spread_29 rfl rfl ?_
    refine g_aload_n 0 dX3_spread_30 rfl rfl ?_
    refine g_getR 78 1 79 rfl dX3_spread_31 rfl kkX3 flX3_9 (by decide) rfl rfl (by decide) rfl ?_
    refine g_iload 5 dX3_spread_34 rfl rfl ?_
    refine g_iald dX3_spread_36 rfl (by decide) rfl rfl ?_
    refine g_cVIr (As := [.int (X.1 79 (nx v5))]) (st := []) 1 mF_wg rfl dX3_spread_37 rfl kkX3 (by decide) rfl vX3_tall lkX3_47 (rmL rfl rfl) (gro_tall_c q (X.1 79 (nx v5)) X) rfl rfl (Nat.le_of_ble_eq_true rfl) (fun c2 => ?_)
    refine g_iload_n 1 dX3_spread_40 rfl rfl ?_
    refine g_iload 5 dX3_spread_41 rfl rfl ?_
    refine g_imul dX3_spread_43 rfl ?_
    refine g_isub dX3_spread_44 rfl ?_
    refine g_istore (lv' := [(6, .int (c2 - (v1 * v5))), (0, .ref (q.ad 78)), (1, .int v1), (2, .int v2), (3, .int v3), (4, .int v4), (5, .int v5)]) dX3_spread_45 rfl (Nat.le_of_ble_eq_true rfl) rfl ?_
    refine g_iload_n 4 dX3_spread_47 rfl rfl ?_
    refine g_iload 0 dX3_spread_48 rfl rfl ?_
    refine g_mmax (st := []) rfl dX3_spread_50 rfl lkX3_51 (rmL rfl rfl) (Nat.le_of_ble_eq_true rfl) ?_
    refine g_istore_n (lv' := [(3, .int (jmath_max v3 (c2 - (v1 * v5)))), (6, .int (c2 - (v1 * v5))), (0, .ref (q.ad 78)), (1, .int v1), (2, .int v2), (4, .int v4), (5, .int v5)]) dX3_spread_53 rfl rfl (Nat.le_of_ble_eq_true rfl) rfl ?_
    refine g_iload 5 dX3_spread_54 rfl rfl ?_
    refine g_iload 1 dX3_spread_56 rfl rfl ?_
    refine g_mmin (st := []) rfl dX3_spread_58 rfl lkX3_28 (rmL rfl rfl) (Nat.le_of_ble_eq_true rfl) ?_
    refine g_istore (lv' := [(4, .int (jmath_min v4 (c2 - (v1 * v5)))), (3, .int (jmath_max v3 (c2 - (v1 * v5)))), (6, .int (c2 - (v1 * v5))), (0, .ref (q.ad 78)), (1, .int v1), (2, .int v2), (5, .int v5)]) dX3_spread_61 rfl (Nat.le_of_ble_eq_true rfl) rfl ?_
    refine g_inc (lv' := [(5, .int (v5 + (1 : Int32))), (4, .int (jmath_min v4 (c2 - (v1 * v5)))), (3, .int (jmath_max v3 (c2 - (v1 * v5)))), (6, .int (c2 - (v1 * v5))), (0, .ref (q.ad 78)), (1, .int v1), (2, .int v2)]) 6 dX3_spread_63 rfl rfl kic_1 (Nat.le_of_ble_eq_true rfl) rfl ?_
    refine g_goto dX3_spread_66 rfl ?_
    refine g_sub [4, 5, 6, 2, 1, 0] rfl ?_
    exact hrec v1 v2 (jmath_max v3 (c2 - (v1 * v5))) (jmath_min v4 (c2 - (v1 * v5))) (v5 + (1 : Int32))
  refine g_iload_n 3 dX3_spread_69 rfl rfl ?_
  refine g_iload 4 dX3_spread_70 rfl rfl ?_
  refine g_isub dX3_spread_72 rfl ?_
  exact g_iret dX3_spread_73 rfl rfl
theorem gro_spread_L23_g (q : Th) (n : Nat) (X : St) : ∀ (w : Nat) (v1 : Int32) (v2 : Int32) (v3 : Int32) (v4 : Int32) (v5 : Int32), G q (mF q nX3_spread RX3 3) (fir X) 23 [(0, .ref (q.ad 78)), (1, .int v1), (2, .int v2), (3, .int v3), (4, .int v4), (5, .int v5)] [] X (gro_spread_L23 n X w v1 v2 v3 v4 v5) := by
  intro w
  induction w with
  | zero => intro v1 v2 v3 v4 v5; exact g_none
  | succ w ih => intro v1 v2 v3 v4 v5; exact gro_spread_L23_Bg q n X _ ih v1 v2 v3 v4 v5
theorem gro_spread_c (q : Th) (n : Nat) (v1 : Int32) (v2 : Int32) (X : St) : Ct q nX3_spread 3 (fir X) [.ref (q.ad 78), .int v1, .int v2] X (gro_spread n v1 v2 X) := by
  refine ct_of (by decide +kernel) (Nat.le_of_ble_eq_true rfl) ?_
  unfold gro_spread
  show G q _ _ 0 [(0, .ref (q.ad 78)), (1, .int v1), (2, .int v2)] [] X _
  refine g_iload_n 2 dX3_spread_0 rfl rfl ?_
  refine g_if_ne dX3_spread_1 rfl rfl ?_ ?_
  · refine g_iconst dX3_spread_4 rfl kic_0 ?_
    exact g_iret dX3_spread_5 rfl rfl
  refine g_aload_n 0 dX3_spread_6 rfl rfl ?_
  refine g_aload_n 0 dX3_spread_7 rfl rfl ?_
  refine g_getR 78 1 79 rfl dX3_spread_8 rfl kkX3 flX3_9 (by decide) rfl rfl (by decide) rfl ?_
  refine g_iconst dX3_spread_11 rfl kic_0 ?_
  refine g_iald0 dX3_spread_12 rfl (by decide) rfl rfl (by decide) ?_
  refine g_cVIr (As := [.int (X.1 79 (nx (0 : Int32)))]) (st := []) 1 mF_wg rfl dX3_spread_13 rfl kkX3 (by decide) rfl vX3_tall lkX3_47 (rmL rfl rfl) (gro_tall_c q (X.1 79 (nx (0 : Int32))) X) rfl rfl (Nat.le_of_ble_eq_true rfl) (fun c1 => ?_)
  refine g_istore_n (lv' := [(3, .int c1), (0, .ref (q.ad 78)), (1, .int v1), (2, .int v2)]) dX3_spread_16 rfl rfl (Nat.le_of_ble_eq_true rfl) rfl ?_
  refine g_iload_n 0 dX3_spread_17 rfl rfl ?_
  refine g_istore (lv' := [(4, .int c1), (3, .int c1), (0, .ref (q.ad 78)), (1, .int v1), (2, .int v2)]) dX3_spread_18 rfl (Nat.le_of_ble_eq_true rfl) rfl ?_
  refine g_iconst dX3_spread_20 rfl kic_1 ?_
  refine g_istore (lv' := [(5, .int (1 : Int32)), (4, .int c1), (3, .int c1), (0, .ref (q.ad 78)), (1, .int v1), (2, .int v2)]) dX3_spread_21 rfl (Nat.le_of_ble_eq_true rfl) rfl ?_
  refine g_sub [3, 4, 5, 2, 1, 0] rfl ?_
  refine gro_spread_L23_g q n X n v1 v2 c1 c1 (1 : Int32)
def gro_lineUp_L15_B (n : Nat) (k33 : Int32 → Int32 → St → Option (Int32 × St)) (rec : Int32 → Int32 → Int32 → St → Option (Int32 × St)) (v1 : Int32) (v2 : Int32) (v3 : Int32) (X : St) : Option (Int32 × St) :=
(if v3 < v2 then
(if inB v3 6 then
(rec v1 v2 (v3 + (1 : Int32)) (stI X 79 (nx v3) v3)) else none)
else
(k33 v1 v2 X))
def gro_lineUp_L15 (n : Nat) (k33 : Int32 → Int32 → St → Option (Int32 × St)) : Nat → Int32 → Int32 → Int32 → St → Option (Int32 × St)
  | 0 => fun _ _ _ _ => none
  | w + 1 => gro_lineUp_L15_B n k33 (gro_lineUp_L15 n k33 w)
def gro_lineUp_L57_B (n : Nat) (rec : Int32 → Int32 → Int32 → Int32 → St → Option (Int32 × St)) (v1 : Int32) (v2 : Int32) (v3 : Int32) (v4 : Int32) (X : St) : Option (Int32 × St) :=
(if v4 < (720 : Int32) then
((gro_nextOrder n v2 X).bind fun (c6, X5) =>
(if c6 = 0 then
(some (v3, X5))
else
((gro_spread n v1 v2 X5).bind fun c7 =>
(if c7 < v3 then
(if cpOk (0 : Int32) (0 : Int32) v2 6 6 then
(rec v1 v2 c7 (v4 + (1 : Int32)) (cpI X5 79 (nx (0 : Int32)) 80 (nx (0 : Int32)) (nx v2))) else none)
else
(rec v1 v2 v3 (v4 + (1 : Int32)) X5)))))
else
(some (v3, X)))
def gro_lineUp_L57 (n : Nat) : Nat → Int32 → Int32 → Int32 → Int32 → St → Option (Int32 × St)
  | 0 => fun _ _ _ _ _ => none
  | w + 1 => gro_lineUp_L57_B n (gro_lineUp_L57 n w)
def gro_lineUp (n : Nat) (v1 : Int32) (X : St) : Option (Int32 × St) :=
  (gro_lineUp_L15 n (fun v2 v3 X1 =>
  ((gro_spread n v2 v3 X1).bind fun c4 =>
  (if cpOk (0 : Int32) (0 : Int32) v3 6 6 then
  (gro_lineUp_L57 n n v2 v3 c4 (1 : Int32) (cpI X1 79 (nx (0 : Int32)) 80 (nx (0 : Int32)) (nx v3))) else none))) n v1 (jmath_min (poo_many X) (6 : Int32)) (0 : Int32) X)
theorem gro_lineUp_L15_Bg (q : Th) (n : Nat) (k33 : Int32 → Int32 → St → Option (Int32 × St)) (hk33 : ∀ v1 v2 X, G q (mF q nX3_lineUp RX3 4) fiw 33 [(0, .ref (q.ad 78)), (1, .int v1), (2, .int v2)] [] X (k33 v1 v2 X)) (rec : Int32 → Int32 → Int32 → St → Option (Int32 × St)) (hrec : ∀ v1 v2 v3 X, G q (mF q nX3_lineUp RX3 4) fiw 15 [(0, .ref (q.ad 78)), (1, .int v1), (2, .int v2), (3, .int v3)] [] X (rec v1 v2 v3 X)) (v1 : Int32) (v2 : Int32) (v3 : Int32) (X : St) : G q (mF q nX3_lineUp RX3 4) fiw 15 [(0, .ref (q.ad 78)), (1, .int v1), (2, .int v2), (3, .int v3)] [] X (gro_lineUp_L15_B n k33 rec v1 v2 v3 X) := by
  unfold gro_lineUp_L15_B
  refine g_iload_n 3 dX3_lineUp_15 rfl rfl ?_
  refine g_iload_n 2 dX3_lineUp_16 rfl rfl ?_
  refine g_icmp_ge dX3_lineUp_17 rfl rfl ?_ ?_
  · refine g_aload_n 0 dX3_lineUp_20 rfl rfl ?_
    refine g_getR 78 1 79 rfl dX3_lineUp_21 rfl kkX3 flX3_9 (by decide) rfl rfl (by decide) rfl ?_
    refine g_iload_n 3 dX3_lineUp_24 rfl rfl ?_
    refine g_iload_n 3 dX3_lineUp_25 rfl rfl ?_
    refine g_iast dX3_lineUp_26 rfl (by decide) rfl rfl ?_
    refine g_inc (lv' := [(3, .int (v3 + (1 : Int32))), (0, .ref (q.ad 78)), (1, .int v1), (2, .int v2)]) 3 dX3_lineUp_27 rfl rfl kic_1 (Nat.le_of_ble_eq_true rfl) rfl ?_
    refine g_goto dX3_lineUp_30 rfl ?_
    refine g_sub [1, 2, 3, 0] rfl ?_
    exact hrec v1 v2 (v3 + (1 : Int32)) (stI X 79 (nx v3) v3)
  refine g_sub [0, 1, 2] rfl ?_
  exact hk33 v1 v2 X
theorem gro_lineUp_L15_g (q : Th) (n : Nat) (k33 : Int32 → Int32 → St → Option (Int32 × St)) (hk33 : ∀ v1 v2 X, G q (mF q nX3_lineUp RX3 4) fiw 33 [(0, .ref (q.ad 78)), (1, .int v1), (2, .int v2)] [] X (k33 v1 v2 X)) : ∀ (w : Nat) (v1 : Int32) (v2 : Int32) (v3 : Int32) (X : St), G q (mF q nX3_lineUp RX3 4) fiw 15 [(0, .ref (q.ad 78)), (1, .int v1), (2, .int v2), (3, .int v3)] [] X (gro_lineUp_L15 n k33 w v1 v2 v3 X) := by
  intro w
  induction w with
  | zero => intro v1 v2 v3 X; exact g_none
  | succ w ih => intro v1 v2 v3 X; exact gro_lineUp_L15_Bg q n k33 hk33 _ ih v1 v2 v3 X
theorem gro_lineUp_L57_Bg (q : Th) (n : Nat) (rec : Int32 → Int32 → Int32 → Int32 → St → Option (Int32 × St)) (hrec : ∀ v1 v2 v3 v4 X, G q (mF q nX3_lineUp RX3 4) fiw 57 [(0, .ref (q.ad 78)), (1, .int v1), (2, .int v2), (3, .int v3), (4, .int v4)] [] X (rec v1 v2 v3 v4 X)) (v1 : Int32) (v2 : Int32) (v3 : Int32) (v4 : Int32) (X : St) : G q (mF q nX3_lineUp RX3 4) fiw 57 [(0, .ref (q.ad 78)), (1, .int v1), (2, .int v2), (3, .int v3), (4, .int v4)] [] X (gro_lineUp_L57_B n rec v1 v2 v3 v4 X) := by
  unfold gro_lineUp_L57_B
  refine g_iload 4 dX3_lineUp_57 rfl rfl ?_
  refine g_sipush dX3_lineUp_59 rfl ksi_720 ?_
  refine g_icmp_ge dX3_lineUp_62 rfl rfl ?_ ?_
  · refine g_aload_n 0 dX3_lineUp_65 rfl rfl ?_
    refine g_iload_n 2 dX3_lineUp_66 rfl rfl ?_
    refine g_cVIw (As := [.int v2]) (st := []) 1 mF_wg rfl dX3_lineUp_67 rfl kkX3 (by decide) rfl vX3_nextOrder lkX3_43 (rmL rfl rfl) (gro_nextOrder_c q n v2 X) rfl rfl (Nat.le_of_ble_eq_true rfl) (fun c6 X5 => ?_)
    refine g_if_eq dX3_lineUp_70 rfl rfl ?_ ?_
    · refine g_iload_n 3 dX3_lineUp_110 rfl rfl ?_
      exact g_iret dX3_lineUp_111 rfl rfl
    refine g_aload_n 0 dX3_lineUp_73 rfl rfl ?_
    refine g_iload_n 1 dX3_lineUp_74 rfl rfl ?_
    refine g_iload_n 2 dX3_lineUp_75 rfl rfl ?_
    refine g_cVIr (As := [.int v1, .int v2]) (st := []) 2 mF_wg rfl dX3_lineUp_76 rfl kkX3 (by decide) rfl vX3_spread lkX3_34 (rmL rfl rfl) (gro_spread_c q n v1 v2 X5) rfl rfl (Nat.le_of_ble_eq_true rfl) (fun c7 => ?_)
    refine g_istore (lv' := [(5, .int c7), (0, .ref (q.ad 78)), (1, .int v1), (2, .int v2), (3, .int v3), (4, .int v4)]) dX3_lineUp_79 rfl (Nat.le_of_ble_eq_true rfl) rfl ?_
    refine g_iload 0 dX3_lineUp_81 rfl rfl ?_
    refine g_iload_n 4 dX3_lineUp_83 rfl rfl ?_
    refine g_icmp_ge dX3_lineUp_84 rfl rfl ?_ ?_
    · refine g_iload 0 dX3_lineUp_87 rfl rfl ?_
      refine g_istore_n (lv' := [(3, .int c7), (5, .int c7), (0, .ref (q.ad 78)), (1, .int v1), (2, .int v2), (4, .int v4)]) dX3_lineUp_89 rfl rfl (Nat.le_of_ble_eq_true rfl) rfl ?_
      refine g_aload_n 2 dX3_lineUp_90 rfl rfl ?_
      refine g_getR 78 1 79 rfl dX3_lineUp_91 rfl kkX3 flX3_9 (by decide) rfl rfl (by decide) rfl ?_
      refine g_iconst dX3_lineUp_94 rfl kic_0 ?_
      refine g_aload_n 2 dX3_lineUp_95 rfl rfl ?_
      refine g_getR 78 2 80 rfl dX3_lineUp_96 rfl kkX3 flX3_15 (by decide) rfl rfl (by decide) rfl ?_
      refine g_iconst dX3_lineUp_99 rfl kic_0 ?_
      refine g_iload_n 4 dX3_lineUp_100 rfl rfl ?_
      refine g_copyI (st := []) rfl dX3_lineUp_101 rfl lkX3_37 ac_nat ac_sta ac_ini (by decide) (by decide) rfl rfl rfl rfl (Nat.le_of_ble_eq_true rfl) (Nat.le_of_ble_eq_true rfl) ?_
      refine g_inc (lv' := [(4, .int (v4 + (1 : Int32))), (3, .int c7), (5, .int c7), (0, .ref (q.ad 78)), (1, .int v1), (2, .int v2)]) 5 dX3_lineUp_104 rfl rfl kic_1 (Nat.le_of_ble_eq_true rfl) rfl ?_
      refine g_goto dX3_lineUp_107 rfl ?_
      refine g_sub [3, 4, 5, 1, 0] rfl ?_
      exact hrec v1 v2 c7 (v4 + (1 : Int32)) (cpI X5 79 (nx (0 : Int32)) 80 (nx (0 : Int32)) (nx v2))
    refine g_inc (lv' := [(4, .int (v4 + (1 : Int32))), (5, .int c7), (0, .ref (q.ad 78)), (1, .int v1), (2, .int v2), (3, .int v3)]) 5 dX3_lineUp_104 rfl rfl kic_1 (Nat.le_of_ble_eq_true rfl) rfl ?_
    refine g_goto dX3_lineUp_107 rfl ?_
    refine g_sub [2, 3, 4, 5, 0] rfl ?_
    exact hrec v1 v2 v3 (v4 + (1 : Int32)) X5
  refine g_iload_n 3 dX3_lineUp_110 rfl rfl ?_
  exact g_iret dX3_lineUp_111 rfl rfl
theorem gro_lineUp_L57_g (q : Th) (n : Nat) : ∀ (w : Nat) (v1 : Int32) (v2 : Int32) (v3 : Int32) (v4 : Int32) (X : St), G q (mF q nX3_lineUp RX3 4) fiw 57 [(0, .ref (q.ad 78)), (1, .int v1), (2, .int v2), (3, .int v3), (4, .int v4)] [] X (gro_lineUp_L57 n w v1 v2 v3 v4 X) := by
  intro w
  induction w with
  | zero => intro v1 v2 v3 v4 X; exact g_none
  | succ w ih => intro v1 v2 v3 v4 X; exact gro_lineUp_L57_Bg q n _ ih v1 v2 v3 v4 X
theorem gro_lineUp_c (q : Th) (n : Nat) (v1 : Int32) (X : St) : Ct q nX3_lineUp 4 fiw [.ref (q.ad 78), .int v1] X (gro_lineUp n v1 X) := by
  refine ct_of (by decide +kernel) (Nat.le_of_ble_eq_true rfl) ?_
  unfold gro_lineUp
  show G q _ _ 0 [(0, .ref (q.ad 78)), (1, .int v1)] [] X _
  refine g_aload_n 0 dX3_lineUp_0 rfl rfl ?_
  refine g_getR 78 0 1 rfl dX3_lineUp_1 rfl kkX3 flX3_18 (by decide) rfl rfl (by decide) rfl ?_
  refine g_cVIt (As := []) (st := []) 0 mF_wg rfl dX3_lineUp_4 rfl kkX5 (by decide) rfl vX5_many lkX3_22 (rmL rfl rfl) (poo_many_c q X) rfl rfl (Nat.le_of_ble_eq_true rfl) ?_
  refine g_bipush dX3_lineUp_7 rfl kbi_6 ?_
  refine g_mmin (st := []) rfl dX3_lineUp_9 rfl lkX3_28 (rmL rfl rfl) (Nat.le_of_ble_eq_true rfl) ?_
  refine g_istore_n (lv' := [(2, .int (jmath_min (poo_many X) (6 : Int32))), (0, .ref (q.ad 78)), (1, .int v1)]) dX3_lineUp_12 rfl rfl (Nat.le_of_ble_eq_true rfl) rfl ?_
  refine g_iconst dX3_lineUp_13 rfl kic_0 ?_
  refine g_istore_n (lv' := [(3, .int (0 : Int32)), (2, .int (jmath_min (poo_many X) (6 : Int32))), (0, .ref (q.ad 78)), (1, .int v1)]) dX3_lineUp_14 rfl rfl (Nat.le_of_ble_eq_true rfl) rfl ?_
  refine g_sub [2, 3, 1, 0] rfl ?_
  refine gro_lineUp_L15_g q n _ (fun v2 v3 X1 => ?_) n v1 (jmath_min (poo_many X) (6 : Int32)) (0 : Int32) X
  refine g_aload_n 0 dX3_lineUp_33 rfl rfl ?_
  refine g_iload_n 1 dX3_lineUp_34 rfl rfl ?_
  refine g_iload_n 2 dX3_lineUp_35 rfl rfl ?_
  refine g_cVIr (As := [.int v2, .int v3]) (st := []) 2 mF_wg rfl dX3_lineUp_36 rfl kkX3 (by decide) rfl vX3_spread lkX3_34 (rmL rfl rfl) (gro_spread_c q n v2 v3 X1) rfl rfl (Nat.le_of_ble_eq_true rfl) (fun c4 => ?_)
  refine g_istore_n (lv' := [(3, .int c4), (0, .ref (q.ad 78)), (1, .int v2), (2, .int v3)]) dX3_lineUp_39 rfl rfl (Nat.le_of_ble_eq_true rfl) rfl ?_
  refine g_aload_n 1 dX3_lineUp_40 rfl rfl ?_
  refine g_getR 78 1 79 rfl dX3_lineUp_41 rfl kkX3 flX3_9 (by decide) rfl rfl (by decide) rfl ?_
  refine g_iconst dX3_lineUp_44 rfl kic_0 ?_
  refine g_aload_n 1 dX3_lineUp_45 rfl rfl ?_
  refine g_getR 78 2 80 rfl dX3_lineUp_46 rfl kkX3 flX3_15 (by decide) rfl rfl (by decide) rfl ?_
  refine g_iconst dX3_lineUp_49 rfl kic_0 ?_
  refine g_iload_n 3 dX3_lineUp_50 rfl rfl ?_
  refine g_copyI (st := []) rfl dX3_lineUp_51 rfl lkX3_37 ac_nat ac_sta ac_ini (by decide) (by decide) rfl rfl rfl rfl (Nat.le_of_ble_eq_true rfl) (Nat.le_of_ble_eq_true rfl) ?_
  refine g_iconst dX3_lineUp_54 rfl kic_1 ?_
  refine g_istore (lv' := [(4, .int (1 : Int32)), (3, .int c4), (0, .ref (q.ad 78)), (1, .int v2), (2, .int v3)]) dX3_lineUp_55 rfl (Nat.le_of_ble_eq_true rfl) rfl ?_
  refine g_sub [2, 3, 4, 1, 0] rfl ?_
  refine gro_lineUp_L57_g q n n v2 v3 c4 (1 : Int32) (cpI X1 79 (nx (0 : Int32)) 80 (nx (0 : Int32)) (nx v3))
def gro_inLine (v1 : Int32) (X : St) : Option (Int32) :=
  (if v1 < 0 then
  (some (-2 : Int32))
  else
  (if v1 < (poo_many X) then
  (if v1 < (6 : Int32) then
  (if inB v1 6 then
  (some (X.1 80 (nx v1))) else none)
  else
  (some (-2 : Int32)))
  else
  (some (-2 : Int32))))
theorem gro_inLine_c (q : Th) (v1 : Int32) (X : St) : Ct q nX3_inLine 1 (fir X) [.ref (q.ad 78), .int v1] X (gro_inLine v1 X) := by
  refine ct_of (by decide +kernel) (Nat.le_of_ble_eq_true rfl) ?_
  unfold gro_inLine
  show G q _ _ 0 [(0, .ref (q.ad 78)), (1, .int v1)] [] X _
  refine g_iload_n 1 dX3_inLine_0 rfl rfl ?_
  refine g_if_lt dX3_inLine_1 rfl rfl ?_ ?_
  · refine g_bipush dX3_inLine_30 rfl kbi_m2 ?_
    exact g_iret dX3_inLine_32 rfl rfl
  refine g_iload_n 1 dX3_inLine_4 rfl rfl ?_
  refine g_aload_n 0 dX3_inLine_5 rfl rfl ?_
  refine g_getR 78 0 1 rfl dX3_inLine_6 rfl kkX3 flX3_18 (by decide) rfl rfl (by decide) rfl ?_
  refine g_cVIt (As := []) (st := [.int v1]) 0 mF_wg rfl dX3_inLine_9 rfl kkX5 (by decide) rfl vX5_many lkX3_22 (rmL rfl rfl) (poo_many_c q X) rfl rfl (Nat.le_of_ble_eq_true rfl) ?_
  refine g_icmp_ge dX3_inLine_12 rfl rfl ?_ ?_
  · refine g_iload_n 1 dX3_inLine_15 rfl rfl ?_
    refine g_bipush dX3_inLine_16 rfl kbi_6 ?_
    refine g_icmp_ge dX3_inLine_18 rfl rfl ?_ ?_
    · refine g_aload_n 0 dX3_inLine_21 rfl rfl ?_
      refine g_getR 78 2 80 rfl dX3_inLine_22 rfl kkX3 flX3_15 (by decide) rfl rfl (by decide) rfl ?_
      refine g_iload_n 1 dX3_inLine_25 rfl rfl ?_
      refine g_iald dX3_inLine_26 rfl (by decide) rfl rfl ?_
      refine g_goto dX3_inLine_27 rfl ?_
      exact g_iret dX3_inLine_32 rfl rfl
    refine g_bipush dX3_inLine_30 rfl kbi_m2 ?_
    exact g_iret dX3_inLine_32 rfl rfl
  refine g_bipush dX3_inLine_30 rfl kbi_m2 ?_
  exact g_iret dX3_inLine_32 rfl rfl
def gro_tallTogether_L4_B (n : Nat) (X : St) (rec : Int32 → Int32 → Int32 → Option (Int32)) (v1 : Int32) (v2 : Int32) (v3 : Int32) : Option (Int32) :=
(if v3 < (poo_many X) then
(if (v1 &&& ((1 : Int32) <<< (v3 &&& 31))) = 0 then
(rec v1 v2 (v3 + (1 : Int32)))
else
((gro_tall v3 X).bind fun c1 =>
(rec v1 (v2 + c1) (v3 + (1 : Int32)))))
else
(some v2))
def gro_tallTogether_L4 (n : Nat) (X : St) : Nat → Int32 → Int32 → Int32 → Option (Int32)
  | 0 => fun _ _ _ => none
  | w + 1 => gro_tallTogether_L4_B n X (gro_tallTogether_L4 n X w)
def gro_tallTogether (n : Nat) (v1 : Int32) (X : St) : Option (Int32) :=
  (gro_tallTogether_L4 n X n v1 (0 : Int32) (0 : Int32))
theorem gro_tallTogether_L4_Bg (q : Th) (n : Nat) (X : St) (rec : Int32 → Int32 → Int32 → Option (Int32)) (hrec : ∀ v1 v2 v3, G q (mF q nX3_tallTogether RX3 3) (fir X) 4 [(0, .ref (q.ad 78)), (1, .int v1), (2, .int v2), (3, .int v3)] [] X (rec v1 v2 v3)) (v1 : Int32) (v2 : Int32) (v3 : Int32) : G q (mF q nX3_tallTogether RX3 3) (fir X) 4 [(0, .ref (q.ad 78)), (1, .int v1), (2, .int v2), (3, .int v3)] [] X (gro_tallTogether_L4_B n X rec v1 v2 v3) := by
  unfold gro_tallTogether_L4_B
  refine g_iload_n 3 dX3_tallTogether_4 rfl rfl ?_
  refine g_aload_n 0 dX3_tallTogether_5 rfl rfl ?_
  refine g_getR 78 0 1 rfl dX3_tallTogether_6 rfl kkX3 flX3_18 (by decide) rfl rfl (by decide) rfl ?_
  refine g_cVIt (As := []) (st := [.int v3]) 0 mF_wg rfl dX3_tallTogether_9 rfl kkX5 (by decide) rfl vX5_many lkX3_22 (rmL rfl rfl) (poo_many_c q X) rfl rfl (Nat.le_of_ble_eq_true rfl) ?_
  refine g_icmp_ge dX3_tallTogether_12 rfl rfl ?_ ?_
  · refine g_iload_n 1 dX3_tallTogether_15 rfl rfl ?_
    refine g_iconst dX3_tallTogether_16 rfl kic_1 ?_
    refine g_iload_n 3 dX3_tallTogether_17 rfl rfl ?_
    refine g_ishl dX3_tallTogether_18 rfl ?_
    refine g_iand dX3_tallTogether_19 rfl ?_
    refine g_if_eq dX3_tallTogether_20 rfl rfl ?_ ?_
    · refine g_inc (lv' := [(3, .int (v3 + (1 : Int32))), (0, .ref (q.ad 78)), (1, .int v1), (2, .int v2)]) 3 dX3_tallTogether_31 rfl rfl kic_1 (Nat.le_of_ble_eq_true rfl) rfl ?_
      refine g_goto dX3_tallTogether_34 rfl ?_
      refine g_sub [1, 2, 3, 0] rfl ?_
      exact hrec v1 v2 (v3 + (1 : Int32))
    refine g_iload_n 2 dX3_tallTogether_23 rfl rfl ?_
    refine g_aload_n 0 dX3_tallTogether_24 rfl rfl ?_
    refine g_iload_n 3 dX3_tallTogether_25 rfl rfl ?_
    refine g_cVIr (As := [.int v3]) (st := [.int v2]) 1 mF_wg rfl dX3_tallTogether_26 rfl kkX3 (by decide) rfl vX3_tall lkX3_47 (rmL rfl rfl) (gro_tall_c q v3 X) rfl rfl (Nat.le_of_ble_eq_true rfl) (fun c1 => ?_)
    refine g_iadd dX3_tallTogether_29 rfl ?_
    refine g_istore_n (lv' := [(2, .int (v2 + c1)), (0, .ref (q.ad 78)), (1, .int v1), (3, .int v3)]) dX3_tallTogether_30 rfl rfl (Nat.le_of_ble_eq_true rfl) rfl ?_
    refine g_inc (lv' := [(3, .int (v3 + (1 : Int32))), (2, .int (v2 + c1)), (0, .ref (q.ad 78)), (1, .int v1)]) 3 dX3_tallTogether_31 rfl rfl kic_1 (Nat.le_of_ble_eq_true rfl) rfl ?_
    refine g_goto dX3_tallTogether_34 rfl ?_
    refine g_sub [2, 3, 1, 0] rfl ?_
    exact hrec v1 (v2 + c1) (v3 + (1 : Int32))
  refine g_iload_n 2 dX3_tallTogether_37 rfl rfl ?_
  exact g_iret dX3_tallTogether_38 rfl rfl
theorem gro_tallTogether_L4_g (q : Th) (n : Nat) (X : St) : ∀ (w : Nat) (v1 : Int32) (v2 : Int32) (v3 : Int32), G q (mF q nX3_tallTogether RX3 3) (fir X) 4 [(0, .ref (q.ad 78)), (1, .int v1), (2, .int v2), (3, .int v3)] [] X (gro_tallTogether_L4 n X w v1 v2 v3) := by
  intro w
  induction w with
  | zero => intro v1 v2 v3; exact g_none
  | succ w ih => intro v1 v2 v3; exact gro_tallTogether_L4_Bg q n X _ ih v1 v2 v3
theorem gro_tallTogether_c (q : Th) (n : Nat) (v1 : Int32) (X : St) : Ct q nX3_tallTogether 3 (fir X) [.ref (q.ad 78), .int v1] X (gro_tallTogether n v1 X) := by
  refine ct_of (by decide +kernel) (Nat.le_of_ble_eq_true rfl) ?_
  unfold gro_tallTogether
  show G q _ _ 0 [(0, .ref (q.ad 78)), (1, .int v1)] [] X _
  refine g_iconst dX3_tallTogether_0 rfl kic_0 ?_
  refine g_istore_n (lv' := [(2, .int (0 : Int32)), (0, .ref (q.ad 78)), (1, .int v1)]) dX3_tallTogether_1 rfl rfl (Nat.le_of_ble_eq_true rfl) rfl ?_
  refine g_iconst dX3_tallTogether_2 rfl kic_0 ?_
  refine g_istore_n (lv' := [(3, .int (0 : Int32)), (2, .int (0 : Int32)), (0, .ref (q.ad 78)), (1, .int v1)]) dX3_tallTogether_3 rfl rfl (Nat.le_of_ble_eq_true rfl) rfl ?_
  refine g_sub [2, 3, 1, 0] rfl ?_
  refine gro_tallTogether_L4_g q n X n v1 (0 : Int32) (0 : Int32)
def gro_lifted_J87 (n : Nat) (X : St) (k27 : Int32 → Int32 → Int32 → Int32 → Int32 → Int32 → Option (Int32)) (v1 : Int32) (v2 : Int32) (v3 : Int32) (v4 : Int32) (v5 : Int32) (v6 : Int32) (v7 : Int32) (s0 : Int32) : Option (Int32) :=
(if s0 = 0 then
(k27 v1 v2 v3 v4 v5 (v6 + (1 : Int32)))
else
(if v3 = (-2 : Int32) then
(k27 v1 v7 v5 v6 v5 (v6 + (1 : Int32)))
else
(if v7 < v2 then
(k27 v1 v7 v5 v6 v5 (v6 + (1 : Int32)))
else
(k27 v1 v2 v3 v4 v5 (v6 + (1 : Int32))))))
def gro_lifted_L27_B (n : Nat) (X : St) (k122 : Int32 → Int32 → Int32 → Int32 → Int32 → Option (Int32)) (rec : Int32 → Int32 → Int32 → Int32 → Int32 → Int32 → Option (Int32)) (v1 : Int32) (v2 : Int32) (v3 : Int32) (v4 : Int32) (v5 : Int32) (v6 : Int32) : Option (Int32) :=
(if v6 < ((1 : Int32) <<< ((poo_many X) &&& 31)) then
((gro_tallTogether n v6 X).bind fun c1 =>
((gro_tall v5 X).bind fun c2 =>
(if (jint_bitCount v6) = (3 : Int32) then
(if (v6 &&& ((1 : Int32) <<< (v5 &&& 31))) = 0 then
(if (c1 - ((3 : Int32) * c2)) < 0 then
(gro_lifted_J87 n X rec v1 v2 v3 v4 v5 v6 (c1 - ((3 : Int32) * c2)) (0 : Int32))
else
(gro_lifted_J87 n X rec v1 v2 v3 v4 v5 v6 (c1 - ((3 : Int32) * c2)) (1 : Int32)))
else
(gro_lifted_J87 n X rec v1 v2 v3 v4 v5 v6 (c1 - ((3 : Int32) * c2)) (0 : Int32)))
else
(gro_lifted_J87 n X rec v1 v2 v3 v4 v5 v6 (c1 - ((3 : Int32) * c2)) (0 : Int32)))))
else
(k122 v1 v2 v3 v4 v5))
def gro_lifted_L27 (n : Nat) (X : St) (k122 : Int32 → Int32 → Int32 → Int32 → Int32 → Option (Int32)) : Nat → Int32 → Int32 → Int32 → Int32 → Int32 → Int32 → Option (Int32)
  | 0 => fun _ _ _ _ _ _ => none
  | w + 1 => gro_lifted_L27_B n X k122 (gro_lifted_L27 n X k122 w)
def gro_lifted_L12_B (n : Nat) (X : St) (rec : Int32 → Int32 → Int32 → Int32 → Int32 → Option (Int32)) (v1 : Int32) (v2 : Int32) (v3 : Int32) (v4 : Int32) (v5 : Int32) : Option (Int32) :=
(if v5 < (poo_many X) then
(gro_lifted_L27 n X (fun v3 v4 v5 v6 v7 =>
(rec v3 v4 v5 v6 (v7 + (1 : Int32)))) n v1 v2 v3 v4 v5 (0 : Int32))
else
(if v1 = 0 then
(some v4)
else
(some v3)))
def gro_lifted_L12 (n : Nat) (X : St) : Nat → Int32 → Int32 → Int32 → Int32 → Int32 → Option (Int32)
  | 0 => fun _ _ _ _ _ => none
  | w + 1 => gro_lifted_L12_B n X (gro_lifted_L12 n X w)
def gro_lifted (n : Nat) (v1 : Int32) (X : St) : Option (Int32) :=
  (gro_lifted_L12 n X n v1 (0 : Int32) (-2 : Int32) (-2 : Int32) (0 : Int32))
theorem gro_lifted_J87_g (q : Th) (n : Nat) (X : St) (k27 : Int32 → Int32 → Int32 → Int32 → Int32 → Int32 → Option (Int32)) (hk27 : ∀ v1 v2 v3 v4 v5 v6, G q (mF q nX3_lifted RX3 4) (fir X) 27 [(0, .ref (q.ad 78)), (1, .int v1), (2, .int v2), (3, .int v3), (4, .int v4), (5, .int v5), (6, .int v6)] [] X (k27 v1 v2 v3 v4 v5 v6)) (v1 : Int32) (v2 : Int32) (v3 : Int32) (v4 : Int32) (v5 : Int32) (v6 : Int32) (v7 : Int32) (s0 : Int32) : G q (mF q nX3_lifted RX3 4) (fir X) 87 [(0, .ref (q.ad 78)), (1, .int v1), (2, .int v2), (3, .int v3), (4, .int v4), (5, .int v5), (6, .int v6), (7, .int v7)] [.int s0] X (gro_lifted_J87 n X k27 v1 v2 v3 v4 v5 v6 v7 s0) := by
  unfold gro_lifted_J87
  refine g_istore (lv' := [(8, .int s0), (0, .ref (q.ad 78)), (1, .int v1), (2, .int v2), (3, .int v3), (4, .int v4), (5, .int v5), (6, .int v6), (7, .int v7)]) dX3_lifted_87 rfl (Nat.le_of_ble_eq_true rfl) rfl ?_
  refine g_iload 0 dX3_lifted_89 rfl rfl ?_
  refine g_if_eq dX3_lifted_91 rfl rfl ?_ ?_
  · refine g_inc (lv' := [(6, .int (v6 + (1 : Int32))), (8, .int s0), (0, .ref (q.ad 78)), (1, .int v1), (2, .int v2), (3, .int v3), (4, .int v4), (5, .int v5), (7, .int v7)]) 7 dX3_lifted_116 rfl rfl kic_1 (Nat.le_of_ble_eq_true rfl) rfl ?_
    refine g_goto dX3_lifted_119 rfl ?_
    refine g_sub [2, 3, 4, 5, 6, 7, 0] rfl ?_
    exact hk27 v1 v2 v3 v4 v5 (v6 + (1 : Int32))
  refine g_iload_n 4 dX3_lifted_94 rfl rfl ?_
  refine g_bipush dX3_lifted_95 rfl kbi_m2 ?_
  refine g_icmp_eq dX3_lifted_97 rfl rfl ?_ ?_
  · refine g_iload 8 dX3_lifted_106 rfl rfl ?_
    refine g_istore_n (lv' := [(2, .int v7), (8, .int s0), (0, .ref (q.ad 78)), (1, .int v1), (3, .int v3), (4, .int v4), (5, .int v5), (6, .int v6), (7, .int v7)]) dX3_lifted_108 rfl rfl (Nat.le_of_ble_eq_true rfl) rfl ?_
    refine g_iload 6 dX3_lifted_109 rfl rfl ?_
    refine g_istore_n (lv' := [(3, .int v5), (2, .int v7), (8, .int s0), (0, .ref (q.ad 78)), (1, .int v1), (4, .int v4), (5, .int v5), (6, .int v6), (7, .int v7)]) dX3_lifted_111 rfl rfl (Nat.le_of_ble_eq_true rfl) rfl ?_
    refine g_iload 7 dX3_lifted_112 rfl rfl ?_
    refine g_istore (lv' := [(4, .int v6), (3, .int v5), (2, .int v7), (8, .int s0), (0, .ref (q.ad 78)), (1, .int v1), (5, .int v5), (6, .int v6), (7, .int v7)]) dX3_lifted_114 rfl (Nat.le_of_ble_eq_true rfl) rfl ?_
    refine g_inc (lv' := [(6, .int (v6 + (1 : Int32))), (4, .int v6), (3, .int v5), (2, .int v7), (8, .int s0), (0, .ref (q.ad 78)), (1, .int v1), (5, .int v5), (7, .int v7)]) 7 dX3_lifted_116 rfl rfl kic_1 (Nat.le_of_ble_eq_true rfl) rfl ?_
    refine g_goto dX3_lifted_119 rfl ?_
    refine g_sub [5, 6, 3, 2, 1, 7, 0] rfl ?_
    exact hk27 v1 v7 v5 v6 v5 (v6 + (1 : Int32))
  refine g_iload 8 dX3_lifted_100 rfl rfl ?_
  refine g_iload_n 3 dX3_lifted_102 rfl rfl ?_
  refine g_icmp_ge dX3_lifted_103 rfl rfl ?_ ?_
  · refine g_iload 8 dX3_lifted_106 rfl rfl ?_
    refine g_istore_n (lv' := [(2, .int v7), (8, .int s0), (0, .ref (q.ad 78)), (1, .int v1), (3, .int v3), (4, .int v4), (5, .int v5), (6, .int v6), (7, .int v7)]) dX3_lifted_108 rfl rfl (Nat.le_of_ble_eq_true rfl) rfl ?_
    refine g_iload 6 dX3_lifted_109 rfl rfl ?_
    refine g_istore_n (lv' := [(3, .int v5), (2, .int v7), (8, .int s0), (0, .ref (q.ad 78)), (1, .int v1), (4, .int v4), (5, .int v5), (6, .int v6), (7, .int v7)]) dX3_lifted_111 rfl rfl (Nat.le_of_ble_eq_true rfl) rfl ?_
    refine g_iload 7 dX3_lifted_112 rfl rfl ?_
    refine g_istore (lv' := [(4, .int v6), (3, .int v5), (2, .int v7), (8, .int s0), (0, .ref (q.ad 78)), (1, .int v1), (5, .int v5), (6, .int v6), (7, .int v7)]) dX3_lifted_114 rfl (Nat.le_of_ble_eq_true rfl) rfl ?_
    refine g_inc (lv' := [(6, .int (v6 + (1 : Int32))), (4, .int v6), (3, .int v5), (2, .int v7), (8, .int s0), (0, .ref (q.ad 78)), (1, .int v1), (5, .int v5), (7, .int v7)]) 7 dX3_lifted_116 rfl rfl kic_1 (Nat.le_of_ble_eq_true rfl) rfl ?_
    refine g_goto dX3_lifted_119 rfl ?_
    refine g_sub [5, 6, 3, 2, 1, 7, 0] rfl ?_
    exact hk27 v1 v7 v5 v6 v5 (v6 + (1 : Int32))
  refine g_inc (lv' := [(6, .int (v6 + (1 : Int32))), (8, .int s0), (0, .ref (q.ad 78)), (1, .int v1), (2, .int v2), (3, .int v3), (4, .int v4), (5, .int v5), (7, .int v7)]) 7 dX3_lifted_116 rfl rfl kic_1 (Nat.le_of_ble_eq_true rfl) rfl ?_
  refine g_goto dX3_lifted_119 rfl ?_
  refine g_sub [2, 3, 4, 5, 6, 7, 0] rfl ?_
  exact hk27 v1 v2 v3 v4 v5 (v6 + (1 : Int32))
theorem gro_lifted_L27_Bg (q : Th) (n : Nat) (X : St) (k122 : Int32 → Int32 → Int32 → Int32 → Int32 → Option (Int32)) (hk122 : ∀ v1 v2 v3 v4 v5, G q (mF q nX3_lifted RX3 4) (fir X) 122 [(0, .ref (q.ad 78)), (1, .int v1), (2, .int v2), (3, .int v3), (4, .int v4), (5, .int v5)] [] X (k122 v1 v2 v3 v4 v5)) (rec : Int32 → Int32 → Int32 → Int32 → Int32 → Int32 → Option (Int32)) (hrec : ∀ v1 v2 v3 v4 v5 v6, G q (mF q nX3_lifted RX3 4) (fir X) 27 [(0, .ref (q.ad 78)), (1, .int v1), (2, .int v2), (3, .int v3), (4, .int v4), (5, .int v5), (6, .int v6)] [] X (rec v1 v2 v3 v4 v5 v6)) (v1 : Int32) (v2 : Int32) (v3 : Int32) (v4 : Int32) (v5 : Int32) (v6 : Int32) : G q (mF q nX3_lifted RX3 4) (fir X) 27 [(0, .ref (q.ad 78)), (1, .int v1), (2, .int v2), (3, .int v3), (4, .int v4), (5, .int v5), (6, .int v6)] [] X (gro_lifted_L27_B n X k122 rec v1 v2 v3 v4 v5 v6) := by
  unfold gro_lifted_L27_B
  refine g_iload 6 dX3_lifted_27 rfl rfl ?_
  refine g_iconst dX3_lifted_29 rfl kic_1 ?_
  refine g_aload_n 0 dX3_lifted_30 rfl rfl ?_
  refine g_getR 78 0 1 rfl dX3_lifted_31 rfl kkX3 flX3_18 (by decide) rfl rfl (by decide) rfl ?_
  refine g_cVIt (As := []) (st := [.int (1 : Int32), .int v6]) 0 mF_wg rfl dX3_lifted_34 rfl kkX5 (by decide) rfl vX5_many lkX3_22 (rmL rfl rfl) (poo_many_c q X) rfl rfl (Nat.le_of_ble_eq_true rfl) ?_
  refine g_ishl dX3_lifted_37 rfl ?_
  refine g_icmp_ge dX3_lifted_38 rfl rfl ?_ ?_
  · refine g_aload_n 0 dX3_lifted_41 rfl rfl ?_
    refine g_iload 6 dX3_lifted_42 rfl rfl ?_
    refine g_cVIr (As := [.int v6]) (st := []) 1 mF_wg rfl dX3_lifted_44 rfl kkX3 (by decide) rfl vX3_tallTogether lkX3_61 (rmL rfl rfl) (gro_tallTogether_c q n v6 X) rfl rfl (Nat.le_of_ble_eq_true rfl) (fun c1 => ?_)
    refine g_iconst dX3_lifted_47 rfl kic_3 ?_
    refine g_aload_n 0 dX3_lifted_48 rfl rfl ?_
    refine g_iload 5 dX3_lifted_49 rfl rfl ?_
    refine g_cVIr (As := [.int v5]) (st := [.int (3 : Int32), .int c1]) 1 mF_wg rfl dX3_lifted_51 rfl kkX3 (by decide) rfl vX3_tall lkX3_47 (rmL rfl rfl) (gro_tall_c q v5 X) rfl rfl (Nat.le_of_ble_eq_true rfl) (fun c2 => ?_)
    refine g_imul dX3_lifted_54 rfl ?_
    refine g_isub dX3_lifted_55 rfl ?_
    refine g_istore (lv' := [(7, .int (c1 - ((3 : Int32) * c2))), (0, .ref (q.ad 78)), (1, .int v1), (2, .int v2), (3, .int v3), (4, .int v4), (5, .int v5), (6, .int v6)]) dX3_lifted_56 rfl (Nat.le_of_ble_eq_true rfl) rfl ?_
    refine g_iload 7 dX3_lifted_58 rfl rfl ?_
    refine g_cSIt (As := [.int v6]) (st := []) 1 mF_wg rfl dX3_lifted_60 rfl vJ6_bitCount_0f7a4 lkX3_64 (rmL rfl rfl) (jint_bitCount_c q v6 X) rfl rfl (Nat.le_of_ble_eq_true rfl) ?_
    refine g_iconst dX3_lifted_63 rfl kic_3 ?_
    refine g_icmp_ne dX3_lifted_64 rfl rfl ?_ ?_
    · refine g_iload 7 dX3_lifted_67 rfl rfl ?_
      refine g_iconst dX3_lifted_69 rfl kic_1 ?_
      refine g_iload 6 dX3_lifted_70 rfl rfl ?_
      refine g_ishl dX3_lifted_72 rfl ?_
      refine g_iand dX3_lifted_73 rfl ?_
      refine g_if_ne dX3_lifted_74 rfl rfl ?_ ?_
      · refine g_iload 0 dX3_lifted_77 rfl rfl ?_
        refine g_if_lt dX3_lifted_79 rfl rfl ?_ ?_
        · refine g_iconst dX3_lifted_86 rfl kic_0 ?_
          refine g_sub [1, 2, 3, 4, 5, 6, 7, 0] rfl ?_
          exact gro_lifted_J87_g q n X _ hrec v1 v2 v3 v4 v5 v6 (c1 - ((3 : Int32) * c2)) (0 : Int32)
        refine g_iconst dX3_lifted_82 rfl kic_1 ?_
        refine g_goto dX3_lifted_83 rfl ?_
        refine g_sub [1, 2, 3, 4, 5, 6, 7, 0] rfl ?_
        exact gro_lifted_J87_g q n X _ hrec v1 v2 v3 v4 v5 v6 (c1 - ((3 : Int32) * c2)) (1 : Int32)
      refine g_iconst dX3_lifted_86 rfl kic_0 ?_
      refine g_sub [1, 2, 3, 4, 5, 6, 7, 0] rfl ?_
      exact gro_lifted_J87_g q n X _ hrec v1 v2 v3 v4 v5 v6 (c1 - ((3 : Int32) * c2)) (0 : Int32)
    refine g_iconst dX3_lifted_86 rfl kic_0 ?_
    refine g_sub [1, 2, 3, 4, 5, 6, 7, 0] rfl ?_
    exact gro_lifted_J87_g q n X _ hrec v1 v2 v3 v4 v5 v6 (c1 - ((3 : Int32) * c2)) (0 : Int32)
  refine g_sub [0, 1, 2, 3, 4, 5] rfl ?_
  exact hk122 v1 v2 v3 v4 v5
theorem gro_lifted_L27_g (q : Th) (n : Nat) (X : St) (k122 : Int32 → Int32 → Int32 → Int32 → Int32 → Option (Int32)) (hk122 : ∀ v1 v2 v3 v4 v5, G q (mF q nX3_lifted RX3 4) (fir X) 122 [(0, .ref (q.ad 78)), (1, .int v1), (2, .int v2), (3, .int v3), (4, .int v4), (5, .int v5)] [] X (k122 v1 v2 v3 v4 v5)) : ∀ (w : Nat) (v1 : Int32) (v2 : Int32) (v3 : Int32) (v4 : Int32) (v5 : Int32) (v6 : Int32), G q (mF q nX3_lifted RX3 4) (fir X) 27 [(0, .ref (q.ad 78)), (1, .int v1), (2, .int v2), (3, .int v3), (4, .int v4), (5, .int v5), (6, .int v6)] [] X (gro_lifted_L27 n X k122 w v1 v2 v3 v4 v5 v6) := by
  intro w
  induction w with
  | zero => intro v1 v2 v3 v4 v5 v6; exact g_none
  | succ w ih => intro v1 v2 v3 v4 v5 v6; exact gro_lifted_L27_Bg q n X k122 hk122 _ ih v1 v2 v3 v4 v5 v6
theorem gro_lifted_L12_Bg (q : Th) (n : Nat) (X : St) (rec : Int32 → Int32 → Int32 → Int32 → Int32 → Option (Int32)) (hrec : ∀ v1 v2 v3 v4 v5, G q (mF q nX3_lifted RX3 4) (fir X) 12 [(0, .ref (q.ad 78)), (1, .int v1), (2, .int v2), (3, .int v3), (4, .int v4), (5, .int v5)] [] X (rec v1 v2 v3 v4 v5)) (v1 : Int32) (v2 : Int32) (v3 : Int32) (v4 : Int32) (v5 : Int32) : G q (mF q nX3_lifted RX3 4) (fir X) 12 [(0, .ref (q.ad 78)), (1, .int v1), (2, .int v2), (3, .int v3), (4, .int v4), (5, .int v5)] [] X (gro_lifted_L12_B n X rec v1 v2 v3 v4 v5) := by
  unfold gro_lifted_L12_B
  refine g_iload 5 dX3_lifted_12 rfl rfl ?_
  refine g_aload_n 0 dX3_lifted_14 rfl rfl ?_
  refine g_getR 78 0 1 rfl dX3_lifted_15 rfl kkX3 flX3_18 (by decide) rfl rfl (by decide) rfl ?_
  refine g_cVIt (As := []) (st := [.int v5]) 0 mF_wg rfl dX3_lifted_18 rfl kkX5 (by decide) rfl vX5_many lkX3_22 (rmL rfl rfl) (poo_many_c q X) rfl rfl (Nat.le_of_ble_eq_true rfl) ?_
  refine g_icmp_ge dX3_lifted_21 rfl rfl ?_ ?_
  · refine g_iconst dX3_lifted_24 rfl kic_0 ?_
    refine g_istore (lv' := [(6, .int (0 : Int32)), (0, .ref (q.ad 78)), (1, .int v1), (2, .int v2), (3, .int v3), (4, .int v4), (5, .int v5)]) dX3_lifted_25 rfl (Nat.le_of_ble_eq_true rfl) rfl ?_
    refine g_sub [1, 2, 3, 4, 5, 6, 0] rfl ?_
    refine gro_lifted_L27_g q n X _ (fun v3 v4 v5 v6 v7 => ?_) n v1 v2 v3 v4 v5 (0 : Int32)
    refine g_inc (lv' := [(5, .int (v7 + (1 : Int32))), (0, .ref (q.ad 78)), (1, .int v3), (2, .int v4), (3, .int v5), (4, .int v6)]) 5 dX3_lifted_122 rfl rfl kic_1 (Nat.le_of_ble_eq_true rfl) rfl ?_
    refine g_goto dX3_lifted_125 rfl ?_
    refine g_sub [1, 2, 3, 4, 5, 0] rfl ?_
    exact hrec v3 v4 v5 v6 (v7 + (1 : Int32))
  refine g_iload_n 1 dX3_lifted_128 rfl rfl ?_
  refine g_if_eq dX3_lifted_129 rfl rfl ?_ ?_
  · refine g_iload 4 dX3_lifted_136 rfl rfl ?_
    exact g_iret dX3_lifted_138 rfl rfl
  refine g_iload_n 3 dX3_lifted_132 rfl rfl ?_
  refine g_goto dX3_lifted_133 rfl ?_
  exact g_iret dX3_lifted_138 rfl rfl
theorem gro_lifted_L12_g (q : Th) (n : Nat) (X : St) : ∀ (w : Nat) (v1 : Int32) (v2 : Int32) (v3 : Int32) (v4 : Int32) (v5 : Int32), G q (mF q nX3_lifted RX3 4) (fir X) 12 [(0, .ref (q.ad 78)), (1, .int v1), (2, .int v2), (3, .int v3), (4, .int v4), (5, .int v5)] [] X (gro_lifted_L12 n X w v1 v2 v3 v4 v5) := by
  intro w
  induction w with
  | zero => intro v1 v2 v3 v4 v5; exact g_none
  | succ w ih => intro v1 v2 v3 v4 v5; exact gro_lifted_L12_Bg q n X _ ih v1 v2 v3 v4 v5
theorem gro_lifted_c (q : Th) (n : Nat) (v1 : Int32) (X : St) : Ct q nX3_lifted 4 (fir X) [.ref (q.ad 78), .int v1] X (gro_lifted n v1 X) := by
  refine ct_of (by decide +kernel) (Nat.le_of_ble_eq_true rfl) ?_
  unfold gro_lifted
  show G q _ _ 0 [(0, .ref (q.ad 78)), (1, .int v1)] [] X _
  refine g_iconst dX3_lifted_0 rfl kic_0 ?_
  refine g_istore_n (lv' := [(2, .int (0 : Int32)), (0, .ref (q.ad 78)), (1, .int v1)]) dX3_lifted_1 rfl rfl (Nat.le_of_ble_eq_true rfl) rfl ?_
  refine g_bipush dX3_lifted_2 rfl kbi_m2 ?_
  refine g_istore_n (lv' := [(3, .int (-2 : Int32)), (2, .int (0 : Int32)), (0, .ref (q.ad 78)), (1, .int v1)]) dX3_lifted_4 rfl rfl (Nat.le_of_ble_eq_true rfl) rfl ?_
  refine g_bipush dX3_lifted_5 rfl kbi_m2 ?_
  refine g_istore (lv' := [(4, .int (-2 : Int32)), (3, .int (-2 : Int32)), (2, .int (0 : Int32)), (0, .ref (q.ad 78)), (1, .int v1)]) dX3_lifted_7 rfl (Nat.le_of_ble_eq_true rfl) rfl ?_
  refine g_iconst dX3_lifted_9 rfl kic_0 ?_
  refine g_istore (lv' := [(5, .int (0 : Int32)), (4, .int (-2 : Int32)), (3, .int (-2 : Int32)), (2, .int (0 : Int32)), (0, .ref (q.ad 78)), (1, .int v1)]) dX3_lifted_10 rfl (Nat.le_of_ble_eq_true rfl) rfl ?_
  refine g_sub [4, 5, 3, 2, 1, 0] rfl ?_
  refine gro_lifted_L12_g q n X n v1 (0 : Int32) (-2 : Int32) (-2 : Int32) (0 : Int32)
def gro_reach_L15_B (n : Nat) (X : St) (rec : Int32 → Int32 → Int32 → Int32 → Option (Int32)) (v1 : Int32) (v2 : Int32) (v3 : Int32) (v4 : Int32) : Option (Int32) :=
(if v4 < (poo_many X) then
((poo_told v4 v1 X).bind fun c2 =>
((poo_told v4 v1 X).bind fun c3 =>
(rec v1 (jmath_min v2 c2) (jmath_max v3 c3) (v4 + (1 : Int32)))))
else
(some (v3 - v2)))
def gro_reach_L15 (n : Nat) (X : St) : Nat → Int32 → Int32 → Int32 → Int32 → Option (Int32)
  | 0 => fun _ _ _ _ => none
  | w + 1 => gro_reach_L15_B n X (gro_reach_L15 n X w)
def gro_reach (n : Nat) (v1 : Int32) (X : St) : Option (Int32) :=
  ((poo_told (0 : Int32) v1 X).bind fun c1 =>
  (gro_reach_L15 n X n v1 c1 c1 (1 : Int32)))
theorem gro_reach_L15_Bg (q : Th) (n : Nat) (X : St) (rec : Int32 → Int32 → Int32 → Int32 → Option (Int32)) (hrec : ∀ v1 v2 v3 v4, G q (mF q nX3_reach RX3 2) (fir X) 15 [(0, .ref (q.ad 78)), (1, .int v1), (2, .int v2), (3, .int v3), (4, .int v4)] [] X (rec v1 v2 v3 v4)) (v1 : Int32) (v2 : Int32) (v3 : Int32) (v4 : Int32) : G q (mF q nX3_reach RX3 2) (fir X) 15 [(0, .ref (q.ad 78)), (1, .int v1), (2, .int v2), (3, .int v3), (4, .int v4)] [] X (gro_reach_L15_B n X rec v1 v2 v3 v4) := by
  unfold gro_reach_L15_B
  refine g_iload 4 dX3_reach_15 rfl rfl ?_
  refine g_aload_n 0 dX3_reach_17 rfl rfl ?_
  refine g_getR 78 0 1 rfl dX3_reach_18 rfl kkX3 flX3_18 (by decide) rfl rfl (by decide) rfl ?_
  refine g_cVIt (As := []) (st := [.int v4]) 0 mF_wg rfl dX3_reach_21 rfl kkX5 (by decide) rfl vX5_many lkX3_22 (rmL rfl rfl) (poo_many_c q X) rfl rfl (Nat.le_of_ble_eq_true rfl) ?_
  refine g_icmp_ge dX3_reach_24 rfl rfl ?_ ?_
  · refine g_iload_n 2 dX3_reach_27 rfl rfl ?_
    refine g_aload_n 0 dX3_reach_28 rfl rfl ?_
    refine g_getR 78 0 1 rfl dX3_reach_29 rfl kkX3 flX3_18 (by decide) rfl rfl (by decide) rfl ?_
    refine g_iload 4 dX3_reach_32 rfl rfl ?_
    refine g_iload_n 1 dX3_reach_34 rfl rfl ?_
    refine g_cVIr (As := [.int v4, .int v1]) (st := [.int v2]) 2 mF_wg rfl dX3_reach_35 rfl kkX5 (by decide) rfl vX5_told lkX3_58 (rmL rfl rfl) (poo_told_c q v4 v1 X) rfl rfl (Nat.le_of_ble_eq_true rfl) (fun c2 => ?_)
    refine g_mmin (st := []) rfl dX3_reach_38 rfl lkX3_28 (rmL rfl rfl) (Nat.le_of_ble_eq_true rfl) ?_
    refine g_istore_n (lv' := [(2, .int (jmath_min v2 c2)), (0, .ref (q.ad 78)), (1, .int v1), (3, .int v3), (4, .int v4)]) dX3_reach_41 rfl rfl (Nat.le_of_ble_eq_true rfl) rfl ?_
    refine g_iload_n 3 dX3_reach_42 rfl rfl ?_
    refine g_aload_n 1 dX3_reach_43 rfl rfl ?_
    refine g_getR 78 0 1 rfl dX3_reach_44 rfl kkX3 flX3_18 (by decide) rfl rfl (by decide) rfl ?_
    refine g_iload 4 dX3_reach_47 rfl rfl ?_
    refine g_iload_n 2 dX3_reach_49 rfl rfl ?_
    refine g_cVIr (As := [.int v4, .int v1]) (st := [.int v3]) 2 mF_wg rfl dX3_reach_50 rfl kkX5 (by decide) rfl vX5_told lkX3_58 (rmL rfl rfl) (poo_told_c q v4 v1 X) rfl rfl (Nat.le_of_ble_eq_true rfl) (fun c3 => ?_)
    refine g_mmax (st := []) rfl dX3_reach_53 rfl lkX3_51 (rmL rfl rfl) (Nat.le_of_ble_eq_true rfl) ?_
    refine g_istore_n (lv' := [(3, .int (jmath_max v3 c3)), (2, .int (jmath_min v2 c2)), (0, .ref (q.ad 78)), (1, .int v1), (4, .int v4)]) dX3_reach_56 rfl rfl (Nat.le_of_ble_eq_true rfl) rfl ?_
    refine g_inc (lv' := [(4, .int (v4 + (1 : Int32))), (3, .int (jmath_max v3 c3)), (2, .int (jmath_min v2 c2)), (0, .ref (q.ad 78)), (1, .int v1)]) 4 dX3_reach_57 rfl rfl kic_1 (Nat.le_of_ble_eq_true rfl) rfl ?_
    refine g_goto dX3_reach_60 rfl ?_
    refine g_sub [3, 4, 2, 1, 0] rfl ?_
    exact hrec v1 (jmath_min v2 c2) (jmath_max v3 c3) (v4 + (1 : Int32))
  refine g_iload_n 3 dX3_reach_63 rfl rfl ?_
  refine g_iload_n 2 dX3_reach_64 rfl rfl ?_
  refine g_isub dX3_reach_65 rfl ?_
  exact g_iret dX3_reach_66 rfl rfl
theorem gro_reach_L15_g (q : Th) (n : Nat) (X : St) : ∀ (w : Nat) (v1 : Int32) (v2 : Int32) (v3 : Int32) (v4 : Int32), G q (mF q nX3_reach RX3 2) (fir X) 15 [(0, .ref (q.ad 78)), (1, .int v1), (2, .int v2), (3, .int v3), (4, .int v4)] [] X (gro_reach_L15 n X w v1 v2 v3 v4) := by
  intro w
  induction w with
  | zero => intro v1 v2 v3 v4; exact g_none
  | succ w ih => intro v1 v2 v3 v4; exact gro_reach_L15_Bg q n X _ ih v1 v2 v3 v4
theorem gro_reach_c (q : Th) (n : Nat) (v1 : Int32) (X : St) : Ct q nX3_reach 2 (fir X) [.ref (q.ad 78), .int v1] X (gro_reach n v1 X) := by
  refine ct_of (by decide +kernel) (Nat.le_of_ble_eq_true rfl) ?_
  unfold gro_reach
  show G q _ _ 0 [(0, .ref (q.ad 78)), (1, .int v1)] [] X _
  refine g_aload_n 0 dX3_reach_0 rfl rfl ?_
  refine g_getR 78 0 1 rfl dX3_reach_1 rfl kkX3 flX3_18 (by decide) rfl rfl (by decide) rfl ?_
  refine g_iconst dX3_reach_4 rfl kic_0 ?_
  refine g_iload_n 1 dX3_reach_5 rfl rfl ?_
  refine g_cVIr (As := [.int (0 : Int32), .int v1]) (st := []) 2 mF_wg rfl dX3_reach_6 rfl kkX5 (by decide) rfl vX5_told lkX3_58 (rmL rfl rfl) (poo_told_c q (0 : Int32) v1 X) rfl rfl (Nat.le_of_ble_eq_true rfl) (fun c1 => ?_)
  refine g_istore_n (lv' := [(2, .int c1), (0, .ref (q.ad 78)), (1, .int v1)]) dX3_reach_9 rfl rfl (Nat.le_of_ble_eq_true rfl) rfl ?_
  refine g_iload_n 0 dX3_reach_10 rfl rfl ?_
  refine g_istore_n (lv' := [(3, .int c1), (2, .int c1), (0, .ref (q.ad 78)), (1, .int v1)]) dX3_reach_11 rfl rfl (Nat.le_of_ble_eq_true rfl) rfl ?_
  refine g_iconst dX3_reach_12 rfl kic_1 ?_
  refine g_istore (lv' := [(4, .int (1 : Int32)), (3, .int c1), (2, .int c1), (0, .ref (q.ad 78)), (1, .int v1)]) dX3_reach_13 rfl (Nat.le_of_ble_eq_true rfl) rfl ?_
  refine g_sub [3, 4, 2, 1, 0] rfl ?_
  refine gro_reach_L15_g q n X n v1 c1 c1 (1 : Int32)
def gro_starSize (n : Nat) (X : St) : Option (Int32) :=
  (if (poo_many X) = 0 then
  (some (0 : Int32))
  else
  ((gro_reach n (0 : Int32) X).bind fun c1 =>
  ((gro_reach n (1 : Int32) X).bind fun c2 =>
  (some ((1 : Int32) + (jmath_max c1 c2))))))
theorem gro_starSize_c (q : Th) (n : Nat) (X : St) : Ct q nX3_starSize 3 (fir X) [.ref (q.ad 78)] X (gro_starSize n X) := by
  refine ct_of (by decide +kernel) (Nat.le_of_ble_eq_true rfl) ?_
  unfold gro_starSize
  show G q _ _ 0 [(0, .ref (q.ad 78))] [] X _
  refine g_aload_n 0 dX3_starSize_0 rfl rfl ?_
  refine g_getR 78 0 1 rfl dX3_starSize_1 rfl kkX3 flX3_18 (by decide) rfl rfl (by decide) rfl ?_
  refine g_cVIt (As := []) (st := []) 0 mF_wg rfl dX3_starSize_4 rfl kkX5 (by decide) rfl vX5_many lkX3_22 (rmL rfl rfl) (poo_many_c q X) rfl rfl (Nat.le_of_ble_eq_true rfl) ?_
  refine g_if_ne dX3_starSize_7 rfl rfl ?_ ?_
  · refine g_iconst dX3_starSize_10 rfl kic_0 ?_
    exact g_iret dX3_starSize_11 rfl rfl
  refine g_iconst dX3_starSize_12 rfl kic_1 ?_
  refine g_aload_n 0 dX3_starSize_13 rfl rfl ?_
  refine g_iconst dX3_starSize_14 rfl kic_0 ?_
  refine g_cVIr (As := [.int (0 : Int32)]) (st := [.int (1 : Int32)]) 1 mF_wg rfl dX3_starSize_15 rfl kkX3 (by decide) rfl vX3_reach lkX3_69 (rmL rfl rfl) (gro_reach_c q n (0 : Int32) X) rfl rfl (Nat.le_of_ble_eq_true rfl) (fun c1 => ?_)
  refine g_aload_n 0 dX3_starSize_18 rfl rfl ?_
  refine g_iconst dX3_starSize_19 rfl kic_1 ?_
  refine g_cVIr (As := [.int (1 : Int32)]) (st := [.int c1, .int (1 : Int32)]) 1 mF_wg rfl dX3_starSize_20 rfl kkX3 (by decide) rfl vX3_reach lkX3_69 (rmL rfl rfl) (gro_reach_c q n (1 : Int32) X) rfl rfl (Nat.le_of_ble_eq_true rfl) (fun c2 => ?_)
  refine g_mmax (st := [.int (1 : Int32)]) rfl dX3_starSize_23 rfl lkX3_51 (rmL rfl rfl) (Nat.le_of_ble_eq_true rfl) ?_
  refine g_iadd dX3_starSize_26 rfl ?_
  exact g_iret dX3_starSize_27 rfl rfl
def gro_isAt (v1 : Int32) (v2 : Int32) (v3 : Int32) (X : St) : Option (Int32) :=
  ((poo_told v1 (0 : Int32) X).bind fun c1 =>
  (if c1 = v2 then
  ((poo_told v1 (1 : Int32) X).bind fun c2 =>
  (if c2 = v3 then
  (some (1 : Int32))
  else
  (some (0 : Int32))))
  else
  (some (0 : Int32))))
theorem gro_isAt_c (q : Th) (v1 : Int32) (v2 : Int32) (v3 : Int32) (X : St) : Ct q nX3_isAt 2 (fir X) [.ref (q.ad 78), .int v1, .int v2, .int v3] X (gro_isAt v1 v2 v3 X) := by
  refine ct_of (by decide +kernel) (Nat.le_of_ble_eq_true rfl) ?_
  unfold gro_isAt
  show G q _ _ 0 [(0, .ref (q.ad 78)), (1, .int v1), (2, .int v2), (3, .int v3)] [] X _
  refine g_aload_n 0 dX3_isAt_0 rfl rfl ?_
  refine g_getR 78 0 1 rfl dX3_isAt_1 rfl kkX3 flX3_18 (by decide) rfl rfl (by decide) rfl ?_
  refine g_iload_n 1 dX3_isAt_4 rfl rfl ?_
  refine g_iconst dX3_isAt_5 rfl kic_0 ?_
  refine g_cVIr (As := [.int v1, .int (0 : Int32)]) (st := []) 2 mF_wg rfl dX3_isAt_6 rfl kkX5 (by decide) rfl vX5_told lkX3_58 (rmL rfl rfl) (poo_told_c q v1 (0 : Int32) X) rfl rfl (Nat.le_of_ble_eq_true rfl) (fun c1 => ?_)
  refine g_iload_n 2 dX3_isAt_9 rfl rfl ?_
  refine g_icmp_ne dX3_isAt_10 rfl rfl ?_ ?_
  · refine g_aload_n 0 dX3_isAt_13 rfl rfl ?_
    refine g_getR 78 0 1 rfl dX3_isAt_14 rfl kkX3 flX3_18 (by decide) rfl rfl (by decide) rfl ?_
    refine g_iload_n 1 dX3_isAt_17 rfl rfl ?_
    refine g_iconst dX3_isAt_18 rfl kic_1 ?_
    refine g_cVIr (As := [.int v1, .int (1 : Int32)]) (st := []) 2 mF_wg rfl dX3_isAt_19 rfl kkX5 (by decide) rfl vX5_told lkX3_58 (rmL rfl rfl) (poo_told_c q v1 (1 : Int32) X) rfl rfl (Nat.le_of_ble_eq_true rfl) (fun c2 => ?_)
    refine g_iload_n 3 dX3_isAt_22 rfl rfl ?_
    refine g_icmp_ne dX3_isAt_23 rfl rfl ?_ ?_
    · refine g_iconst dX3_isAt_26 rfl kic_1 ?_
      refine g_goto dX3_isAt_27 rfl ?_
      exact g_zret dX3_isAt_31 rfl rfl rfl
    refine g_iconst dX3_isAt_30 rfl kic_0 ?_
    exact g_zret dX3_isAt_31 rfl rfl rfl
  refine g_iconst dX3_isAt_30 rfl kic_0 ?_
  exact g_zret dX3_isAt_31 rfl rfl rfl
def gro_onOneCell_L17_B (n : Nat) (X : St) (k71 : Int32 → Int32 → Option (Int32)) (rec : Int32 → Int32 → Int32 → Option (Int32)) (v1 : Int32) (v2 : Int32) (v3 : Int32) : Option (Int32) :=
(if v3 < (poo_many X) then
(if v2 = v3 then
(rec v1 v2 (v3 + (1 : Int32)))
else
((poo_told v2 (0 : Int32) X).bind fun c1 =>
((poo_told v2 (1 : Int32) X).bind fun c2 =>
((gro_isAt v3 c1 c2 X).bind fun c3 =>
(if c3 = 0 then
(rec v1 v2 (v3 + (1 : Int32)))
else
((some (v1 ||| ((1 : Int32) <<< (v2 &&& 31)))).bind fun t4 =>
(rec t4 v2 (v3 + (1 : Int32)))))))))
else
(k71 v1 v2))
def gro_onOneCell_L17 (n : Nat) (X : St) (k71 : Int32 → Int32 → Option (Int32)) : Nat → Int32 → Int32 → Int32 → Option (Int32)
  | 0 => fun _ _ _ => none
  | w + 1 => gro_onOneCell_L17_B n X k71 (gro_onOneCell_L17 n X k71 w)
def gro_onOneCell_L4_B (n : Nat) (X : St) (rec : Int32 → Int32 → Option (Int32)) (v1 : Int32) (v2 : Int32) : Option (Int32) :=
(if v2 < (poo_many X) then
(gro_onOneCell_L17 n X (fun v5 v6 =>
(rec v5 (v6 + (1 : Int32)))) n v1 v2 (0 : Int32))
else
(some v1))
def gro_onOneCell_L4 (n : Nat) (X : St) : Nat → Int32 → Int32 → Option (Int32)
  | 0 => fun _ _ => none
  | w + 1 => gro_onOneCell_L4_B n X (gro_onOneCell_L4 n X w)
def gro_onOneCell (n : Nat) (X : St) : Option (Int32) :=
  (gro_onOneCell_L4 n X n (0 : Int32) (0 : Int32))
theorem gro_onOneCell_L17_Bg (q : Th) (n : Nat) (X : St) (k71 : Int32 → Int32 → Option (Int32)) (hk71 : ∀ v1 v2, G q (mF q nX3_onOneCell RX3 3) (fir X) 71 [(0, .ref (q.ad 78)), (1, .int v1), (2, .int v2)] [] X (k71 v1 v2)) (rec : Int32 → Int32 → Int32 → Option (Int32)) (hrec : ∀ v1 v2 v3, G q (mF q nX3_onOneCell RX3 3) (fir X) 17 [(0, .ref (q.ad 78)), (1, .int v1), (2, .int v2), (3, .int v3)] [] X (rec v1 v2 v3)) (v1 : Int32) (v2 : Int32) (v3 : Int32) : G q (mF q nX3_onOneCell RX3 3) (fir X) 17 [(0, .ref (q.ad 78)), (1, .int v1), (2, .int v2), (3, .int v3)] [] X (gro_onOneCell_L17_B n X k71 rec v1 v2 v3) := by
  unfold gro_onOneCell_L17_B
  refine g_iload_n 3 dX3_onOneCell_17 rfl rfl ?_
  refine g_aload_n 0 dX3_onOneCell_18 rfl rfl ?_
  refine g_getR 78 0 1 rfl dX3_onOneCell_19 rfl kkX3 flX3_18 (by decide) rfl rfl (by decide) rfl ?_
  refine g_cVIt (As := []) (st := [.int v3]) 0 mF_wg rfl dX3_onOneCell_22 rfl kkX5 (by decide) rfl vX5_many lkX3_22 (rmL rfl rfl) (poo_many_c q X) rfl rfl (Nat.le_of_ble_eq_true rfl) ?_
  refine g_icmp_ge dX3_onOneCell_25 rfl rfl ?_ ?_
  · refine g_iload_n 2 dX3_onOneCell_28 rfl rfl ?_
    refine g_iload_n 3 dX3_onOneCell_29 rfl rfl ?_
    refine g_icmp_eq dX3_onOneCell_30 rfl rfl ?_ ?_
    · refine g_inc (lv' := [(3, .int (v3 + (1 : Int32))), (0, .ref (q.ad 78)), (1, .int v1), (2, .int v2)]) 3 dX3_onOneCell_65 rfl rfl kic_1 (Nat.le_of_ble_eq_true rfl) rfl ?_
      refine g_goto dX3_onOneCell_68 rfl ?_
      refine g_sub [1, 2, 3, 0] rfl ?_
      exact hrec v1 v2 (v3 + (1 : Int32))
    refine g_aload_n 0 dX3_onOneCell_33 rfl rfl ?_
    refine g_iload_n 3 dX3_onOneCell_34 rfl rfl ?_
    refine g_aload_n 0 dX3_onOneCell_35 rfl rfl ?_
    refine g_getR 78 0 1 rfl dX3_onOneCell_36 rfl kkX3 flX3_18 (by decide) rfl rfl (by decide) rfl ?_
    refine g_iload_n 2 dX3_onOneCell_39 rfl rfl ?_
    refine g_iconst dX3_onOneCell_40 rfl kic_0 ?_
    refine g_cVIr (As := [.int v2, .int (0 : Int32)]) (st := [.int v3, .ref (q.ad 78)]) 2 mF_wg rfl dX3_onOneCell_41 rfl kkX5 (by decide) rfl vX5_told lkX3_58 (rmL rfl rfl) (poo_told_c q v2 (0 : Int32) X) rfl rfl (Nat.le_of_ble_eq_true rfl) (fun c1 => ?_)
    refine g_aload_n 0 dX3_onOneCell_44 rfl rfl ?_
    refine g_getR 78 0 1 rfl dX3_onOneCell_45 rfl kkX3 flX3_18 (by decide) rfl rfl (by decide) rfl ?_
    refine g_iload_n 2 dX3_onOneCell_48 rfl rfl ?_
    refine g_iconst dX3_onOneCell_49 rfl kic_1 ?_
    refine g_cVIr (As := [.int v2, .int (1 : Int32)]) (st := [.int c1, .int v3, .ref (q.ad 78)]) 2 mF_wg rfl dX3_onOneCell_50 rfl kkX5 (by decide) rfl vX5_told lkX3_58 (rmL rfl rfl) (poo_told_c q v2 (1 : Int32) X) rfl rfl (Nat.le_of_ble_eq_true rfl) (fun c2 => ?_)
    refine g_cVIr (As := [.int v3, .int c1, .int c2]) (st := []) 3 mF_wg rfl dX3_onOneCell_53 rfl kkX3 (by decide) rfl vX3_isAt lkX3_72 (rmL rfl rfl) (gro_isAt_c q v3 c1 c2 X) rfl rfl (Nat.le_of_ble_eq_true rfl) (fun c3 => ?_)
    refine g_if_eq dX3_onOneCell_56 rfl rfl ?_ ?_
    · refine g_inc (lv' := [(3, .int (v3 + (1 : Int32))), (0, .ref (q.ad 78)), (1, .int v1), (2, .int v2)]) 3 dX3_onOneCell_65 rfl rfl kic_1 (Nat.le_of_ble_eq_true rfl) rfl ?_
      refine g_goto dX3_onOneCell_68 rfl ?_
      refine g_sub [1, 2, 3, 0] rfl ?_
      exact hrec v1 v2 (v3 + (1 : Int32))
    refine g_iload_n 1 dX3_onOneCell_59 rfl rfl ?_
    refine g_iconst dX3_onOneCell_60 rfl kic_1 ?_
    refine g_iload_n 2 dX3_onOneCell_61 rfl rfl ?_
    refine g_ishl dX3_onOneCell_62 rfl ?_
    refine g_ior dX3_onOneCell_63 rfl ?_
    refine g_nmI (fun t4 => ?_)
    refine g_istore_n (lv' := [(1, .int t4), (0, .ref (q.ad 78)), (2, .int v2), (3, .int v3)]) dX3_onOneCell_64 rfl rfl (Nat.le_of_ble_eq_true rfl) rfl ?_
    refine g_inc (lv' := [(3, .int (v3 + (1 : Int32))), (1, .int t4), (0, .ref (q.ad 78)), (2, .int v2)]) 3 dX3_onOneCell_65 rfl rfl kic_1 (Nat.le_of_ble_eq_true rfl) rfl ?_
    refine g_goto dX3_onOneCell_68 rfl ?_
    refine g_sub [2, 1, 3, 0] rfl ?_
    exact hrec t4 v2 (v3 + (1 : Int32))
  refine g_sub [0, 1, 2] rfl ?_
  exact hk71 v1 v2
theorem gro_onOneCell_L17_g (q : Th) (n : Nat) (X : St) (k71 : Int32 → Int32 → Option (Int32)) (hk71 : ∀ v1 v2, G q (mF q nX3_onOneCell RX3 3) (fir X) 71 [(0, .ref (q.ad 78)), (1, .int v1), (2, .int v2)] [] X (k71 v1 v2)) : ∀ (w : Nat) (v1 : Int32) (v2 : Int32) (v3 : Int32), G q (mF q nX3_onOneCell RX3 3) (fir X) 17 [(0, .ref (q.ad 78)), (1, .int v1), (2, .int v2), (3, .int v3)] [] X (gro_onOneCell_L17 n X k71 w v1 v2 v3) := by
  intro w
  induction w with
  | zero => intro v1 v2 v3; exact g_none
  | succ w ih => intro v1 v2 v3; exact gro_onOneCell_L17_Bg q n X k71 hk71 _ ih v1 v2 v3
theorem gro_onOneCell_L4_Bg (q : Th) (n : Nat) (X : St) (rec : Int32 → Int32 → Option (Int32)) (hrec : ∀ v1 v2, G q (mF q nX3_onOneCell RX3 3) (fir X) 4 [(0, .ref (q.ad 78)), (1, .int v1), (2, .int v2)] [] X (rec v1 v2)) (v1 : Int32) (v2 : Int32) : G q (mF q nX3_onOneCell RX3 3) (fir X) 4 [(0, .ref (q.ad 78)), (1, .int v1), (2, .int v2)] [] X (gro_onOneCell_L4_B n X rec v1 v2) := by
  unfold gro_onOneCell_L4_B
  refine g_iload_n 2 dX3_onOneCell_4 rfl rfl ?_
  refine g_aload_n 0 dX3_onOneCell_5 rfl rfl ?_
  refine g_getR 78 0 1 rfl dX3_onOneCell_6 rfl kkX3 flX3_18 (by decide) rfl rfl (by decide) rfl ?_
  refine g_cVIt (As := []) (st := [.int v2]) 0 mF_wg rfl dX3_onOneCell_9 rfl kkX5 (by decide) rfl vX5_many lkX3_22 (rmL rfl rfl) (poo_many_c q X) rfl rfl (Nat.le_of_ble_eq_true rfl) ?_
  refine g_icmp_ge dX3_onOneCell_12 rfl rfl ?_ ?_
  · refine g_iconst dX3_onOneCell_15 rfl kic_0 ?_
    refine g_istore_n (lv' := [(3, .int (0 : Int32)), (0, .ref (q.ad 78)), (1, .int v1), (2, .int v2)]) dX3_onOneCell_16 rfl rfl (Nat.le_of_ble_eq_true rfl) rfl ?_
    refine g_sub [1, 2, 3, 0] rfl ?_
    refine gro_onOneCell_L17_g q n X _ (fun v5 v6 => ?_) n v1 v2 (0 : Int32)
    refine g_inc (lv' := [(2, .int (v6 + (1 : Int32))), (0, .ref (q.ad 78)), (1, .int v5)]) 2 dX3_onOneCell_71 rfl rfl kic_1 (Nat.le_of_ble_eq_true rfl) rfl ?_
    refine g_goto dX3_onOneCell_74 rfl ?_
    refine g_sub [1, 2, 0] rfl ?_
    exact hrec v5 (v6 + (1 : Int32))
  refine g_iload_n 1 dX3_onOneCell_77 rfl rfl ?_
  exact g_iret dX3_onOneCell_78 rfl rfl
theorem gro_onOneCell_L4_g (q : Th) (n : Nat) (X : St) : ∀ (w : Nat) (v1 : Int32) (v2 : Int32), G q (mF q nX3_onOneCell RX3 3) (fir X) 4 [(0, .ref (q.ad 78)), (1, .int v1), (2, .int v2)] [] X (gro_onOneCell_L4 n X w v1 v2) := by
  intro w
  induction w with
  | zero => intro v1 v2; exact g_none
  | succ w ih => intro v1 v2; exact gro_onOneCell_L4_Bg q n X _ ih v1 v2
theorem gro_onOneCell_c (q : Th) (n : Nat) (X : St) : Ct q nX3_onOneCell 3 (fir X) [.ref (q.ad 78)] X (gro_onOneCell n X) := by
  refine ct_of (by decide +kernel) (Nat.le_of_ble_eq_true rfl) ?_
  unfold gro_onOneCell
  show G q _ _ 0 [(0, .ref (q.ad 78))] [] X _
  refine g_iconst dX3_onOneCell_0 rfl kic_0 ?_
  refine g_istore_n (lv' := [(1, .int (0 : Int32)), (0, .ref (q.ad 78))]) dX3_onOneCell_1 rfl rfl (Nat.le_of_ble_eq_true rfl) rfl ?_
  refine g_iconst dX3_onOneCell_2 rfl kic_0 ?_
  refine g_istore_n (lv' := [(2, .int (0 : Int32)), (1, .int (0 : Int32)), (0, .ref (q.ad 78))]) dX3_onOneCell_3 rfl rfl (Nat.le_of_ble_eq_true rfl) rfl ?_
  refine g_sub [2, 1, 0] rfl ?_
  refine gro_onOneCell_L4_g q n X n (0 : Int32) (0 : Int32)
def gro_isAnybodyAt_L2_B (n : Nat) (X : St) (rec : Int32 → Int32 → Int32 → Option (Int32)) (v1 : Int32) (v2 : Int32) (v3 : Int32) : Option (Int32) :=
(if v3 < (poo_many X) then
((gro_isAt v3 v1 v2 X).bind fun c1 =>
(if c1 = 0 then
(rec v1 v2 (v3 + (1 : Int32)))
else
(some (1 : Int32))))
else
(some (0 : Int32)))
def gro_isAnybodyAt_L2 (n : Nat) (X : St) : Nat → Int32 → Int32 → Int32 → Option (Int32)
  | 0 => fun _ _ _ => none
  | w + 1 => gro_isAnybodyAt_L2_B n X (gro_isAnybodyAt_L2 n X w)
def gro_isAnybodyAt (n : Nat) (v1 : Int32) (v2 : Int32) (X : St) : Option (Int32) :=
  (gro_isAnybodyAt_L2 n X n v1 v2 (0 : Int32))
theorem gro_isAnybodyAt_L2_Bg (q : Th) (n : Nat) (X : St) (rec : Int32 → Int32 → Int32 → Option (Int32)) (hrec : ∀ v1 v2 v3, G q (mF q nX3_isAnybodyAt RX3 3) (fir X) 2 [(0, .ref (q.ad 78)), (1, .int v1), (2, .int v2), (3, .int v3)] [] X (rec v1 v2 v3)) (v1 : Int32) (v2 : Int32) (v3 : Int32) : G q (mF q nX3_isAnybodyAt RX3 3) (fir X) 2 [(0, .ref (q.ad 78)), (1, .int v1), (2, .int v2), (3, .int v3)] [] X (gro_isAnybodyAt_L2_B n X rec v1 v2 v3) := by
  unfold gro_isAnybodyAt_L2_B
  refine g_iload_n 3 dX3_isAnybodyAt_2 rfl rfl ?_
  refine g_aload_n 0 dX3_isAnybodyAt_3 rfl rfl ?_
  refine g_getR 78 0 1 rfl dX3_isAnybodyAt_4 rfl kkX3 flX3_18 (by decide) rfl rfl (by decide) rfl ?_
  refine g_cVIt (As := []) (st := [.int v3]) 0 mF_wg rfl dX3_isAnybodyAt_7 rfl kkX5 (by decide) rfl vX5_many lkX3_22 (rmL rfl rfl) (poo_many_c q X) rfl rfl (Nat.le_of_ble_eq_true rfl) ?_
  refine g_icmp_ge dX3_isAnybodyAt_10 rfl rfl ?_ ?_
  · refine g_aload_n 0 dX3_isAnybodyAt_13 rfl rfl ?_
    refine g_iload_n 3 dX3_isAnybodyAt_14 rfl rfl ?_
    refine g_iload_n 1 dX3_isAnybodyAt_15 rfl rfl ?_
    refine g_iload_n 2 dX3_isAnybodyAt_16 rfl rfl ?_
    refine g_cVIr (As := [.int v3, .int v1, .int v2]) (st := []) 3 mF_wg rfl dX3_isAnybodyAt_17 rfl kkX3 (by decide) rfl vX3_isAt lkX3_72 (rmL rfl rfl) (gro_isAt_c q v3 v1 v2 X) rfl rfl (Nat.le_of_ble_eq_true rfl) (fun c1 => ?_)
    refine g_if_eq dX3_isAnybodyAt_20 rfl rfl ?_ ?_
    · refine g_inc (lv' := [(3, .int (v3 + (1 : Int32))), (0, .ref (q.ad 78)), (1, .int v1), (2, .int v2)]) 3 dX3_isAnybodyAt_25 rfl rfl kic_1 (Nat.le_of_ble_eq_true rfl) rfl ?_
      refine g_goto dX3_isAnybodyAt_28 rfl ?_
      refine g_sub [1, 2, 3, 0] rfl ?_
      exact hrec v1 v2 (v3 + (1 : Int32))
    refine g_iconst dX3_isAnybodyAt_23 rfl kic_1 ?_
    exact g_zret dX3_isAnybodyAt_24 rfl rfl rfl
  refine g_iconst dX3_isAnybodyAt_31 rfl kic_0 ?_
  exact g_zret dX3_isAnybodyAt_32 rfl rfl rfl
theorem gro_isAnybodyAt_L2_g (q : Th) (n : Nat) (X : St) : ∀ (w : Nat) (v1 : Int32) (v2 : Int32) (v3 : Int32), G q (mF q nX3_isAnybodyAt RX3 3) (fir X) 2 [(0, .ref (q.ad 78)), (1, .int v1), (2, .int v2), (3, .int v3)] [] X (gro_isAnybodyAt_L2 n X w v1 v2 v3) := by
  intro w
  induction w with
  | zero => intro v1 v2 v3; exact g_none
  | succ w ih => intro v1 v2 v3; exact gro_isAnybodyAt_L2_Bg q n X _ ih v1 v2 v3
theorem gro_isAnybodyAt_c (q : Th) (n : Nat) (v1 : Int32) (v2 : Int32) (X : St) : Ct q nX3_isAnybodyAt 3 (fir X) [.ref (q.ad 78), .int v1, .int v2] X (gro_isAnybodyAt n v1 v2 X) := by
  refine ct_of (by decide +kernel) (Nat.le_of_ble_eq_true rfl) ?_
  unfold gro_isAnybodyAt
  show G q _ _ 0 [(0, .ref (q.ad 78)), (1, .int v1), (2, .int v2)] [] X _
  refine g_iconst dX3_isAnybodyAt_0 rfl kic_0 ?_
  refine g_istore_n (lv' := [(3, .int (0 : Int32)), (0, .ref (q.ad 78)), (1, .int v1), (2, .int v2)]) dX3_isAnybodyAt_1 rfl rfl (Nat.le_of_ble_eq_true rfl) rfl ?_
  refine g_sub [1, 2, 3, 0] rfl ?_
  refine gro_isAnybodyAt_L2_g q n X n v1 v2 (0 : Int32)
def gro_isMirror_L2_B (n : Nat) (X : St) (rec : Int32 → Option (Int32)) (v1 : Int32) : Option (Int32) :=
(if v1 < (poo_many X) then
((poo_told v1 (0 : Int32) X).bind fun c1 =>
((poo_told v1 (1 : Int32) X).bind fun c2 =>
((gro_isAnybodyAt n ((15 : Int32) - c1) c2 X).bind fun c3 =>
(if c3 = 0 then
(some (0 : Int32))
else
(rec (v1 + (1 : Int32)))))))
else
(some (1 : Int32)))
def gro_isMirror_L2 (n : Nat) (X : St) : Nat → Int32 → Option (Int32)
  | 0 => fun _ => none
  | w + 1 => gro_isMirror_L2_B n X (gro_isMirror_L2 n X w)
def gro_isMirror (n : Nat) (X : St) : Option (Int32) :=
  (gro_isMirror_L2 n X n (0 : Int32))
theorem gro_isMirror_L2_Bg (q : Th) (n : Nat) (X : St) (rec : Int32 → Option (Int32)) (hrec : ∀ v1, G q (mF q nX3_isMirror RX3 4) (fir X) 2 [(0, .ref (q.ad 78)), (1, .int v1)] [] X (rec v1)) (v1 : Int32) : G q (mF q nX3_isMirror RX3 4) (fir X) 2 [(0, .ref (q.ad 78)), (1, .int v1)] [] X (gro_isMirror_L2_B n X rec v1) := by
  unfold gro_isMirror_L2_B
  refine g_iload_n 1 dX3_isMirror_2 rfl rfl ?_
  refine g_aload_n 0 dX3_isMirror_3 rfl rfl ?_
  refine g_getR 78 0 1 rfl dX3_isMirror_4 rfl kkX3 flX3_18 (by decide) rfl rfl (by decide) rfl ?_
  refine g_cVIt (As := []) (st := [.int v1]) 0 mF_wg rfl dX3_isMirror_7 rfl kkX5 (by decide) rfl vX5_many lkX3_22 (rmL rfl rfl) (poo_many_c q X) rfl rfl (Nat.le_of_ble_eq_true rfl) ?_
  refine g_icmp_ge dX3_isMirror_10 rfl rfl ?_ ?_
  · refine g_aload_n 0 dX3_isMirror_13 rfl rfl ?_
    refine g_bipush dX3_isMirror_14 rfl kbi_15 ?_
    refine g_aload_n 0 dX3_isMirror_16 rfl rfl ?_
    refine g_getR 78 0 1 rfl dX3_isMirror_17 rfl kkX3 flX3_18 (by decide) rfl rfl (by decide) rfl ?_
    refine g_iload_n 1 dX3_isMirror_20 rfl rfl ?_
    refine g_iconst dX3_isMirror_21 rfl kic_0 ?_
    refine g_cVIr (As := [.int v1, .int (0 : Int32)]) (st := [.int (15 : Int32), .ref (q.ad 78)]) 2 mF_wg rfl dX3_isMirror_22 rfl kkX5 (by decide) rfl vX5_told lkX3_58 (rmL rfl rfl) (poo_told_c q v1 (0 : Int32) X) rfl rfl (Nat.le_of_ble_eq_true rfl) (fun c1 => ?_)
    refine g_isub dX3_isMirror_25 rfl ?_
    refine g_aload_n 0 dX3_isMirror_26 rfl rfl ?_
    refine g_getR 78 0 1 rfl dX3_isMirror_27 rfl kkX3 flX3_18 (by decide) rfl rfl (by decide) rfl ?_
    refine g_iload_n 1 dX3_isMirror_30 rfl rfl ?_
    refine g_iconst dX3_isMirror_31 rfl kic_1 ?_
    refine g_cVIr (As := [.int v1, .int (1 : Int32)]) (st := [.int ((15 : Int32) - c1), .ref (q.ad 78)]) 2 mF_wg rfl dX3_isMirror_32 rfl kkX5 (by decide) rfl vX5_told lkX3_58 (rmL rfl rfl) (poo_told_c q v1 (1 : Int32) X) rfl rfl (Nat.le_of_ble_eq_true rfl) (fun c2 => ?_)
    refine g_cVIr (As := [.int ((15 : Int32) - c1), .int c2]) (st := []) 2 mF_wg rfl dX3_isMirror_35 rfl kkX3 (by decide) rfl vX3_isAnybodyAt lkX3_76 (rmL rfl rfl) (gro_isAnybodyAt_c q n ((15 : Int32) - c1) c2 X) rfl rfl (Nat.le_of_ble_eq_true rfl) (fun c3 => ?_)
    refine g_if_ne dX3_isMirror_38 rfl rfl ?_ ?_
    · refine g_iconst dX3_isMirror_41 rfl kic_0 ?_
      exact g_zret dX3_isMirror_42 rfl rfl rfl
    refine g_inc (lv' := [(1, .int (v1 + (1 : Int32))), (0, .ref (q.ad 78))]) 1 dX3_isMirror_43 rfl rfl kic_1 (Nat.le_of_ble_eq_true rfl) rfl ?_
    refine g_goto dX3_isMirror_46 rfl ?_
    refine g_sub [1, 0] rfl ?_
    exact hrec (v1 + (1 : Int32))
  refine g_iconst dX3_isMirror_49 rfl kic_1 ?_
  exact g_zret dX3_isMirror_50 rfl rfl rfl
theorem gro_isMirror_L2_g (q : Th) (n : Nat) (X : St) : ∀ (w : Nat) (v1 : Int32), G q (mF q nX3_isMirror RX3 4) (fir X) 2 [(0, .ref (q.ad 78)), (1, .int v1)] [] X (gro_isMirror_L2 n X w v1) := by
  intro w
  induction w with
  | zero => intro v1; exact g_none
  | succ w ih => intro v1; exact gro_isMirror_L2_Bg q n X _ ih v1
theorem gro_isMirror_c (q : Th) (n : Nat) (X : St) : Ct q nX3_isMirror 4 (fir X) [.ref (q.ad 78)] X (gro_isMirror n X) := by
  refine ct_of (by decide +kernel) (Nat.le_of_ble_eq_true rfl) ?_
  unfold gro_isMirror
  show G q _ _ 0 [(0, .ref (q.ad 78))] [] X _
  refine g_iconst dX3_isMirror_0 rfl kic_0 ?_
  refine g_istore_n (lv' := [(1, .int (0 : Int32)), (0, .ref (q.ad 78))]) dX3_isMirror_1 rfl rfl (Nat.le_of_ble_eq_true rfl) rfl ?_
  refine g_sub [1, 0] rfl ?_
  refine gro_isMirror_L2_g q n X n (0 : Int32)
