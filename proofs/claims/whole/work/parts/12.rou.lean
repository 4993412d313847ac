/-! 12.rou: what the methods come to, and that they do -/
def rou_counts (X : St) : Int32 :=
  ((X.1 24 1))
def rou_counts_o (X : St) : Option Int32 :=
  (some (X.1 24 1))
theorem rou_counts_e (X : St) : rou_counts_o X = some (rou_counts X) := rfl
theorem rou_counts_c (q : Th) (X : St) : Ct q nX6_counts 0 (fir X) [.ref (q.ad 24)] X (some (rou_counts X)) := by
  refine ct_of (by decide +kernel) (Nat.le_of_ble_eq_true rfl) ?_
  rw [← rou_counts_e]
  unfold rou_counts_o
  show G q _ _ 0 [(0, .ref (q.ad 24))] [] X _
  refine g_aload_n 0 dX6_counts_0 rfl rfl ?_
  refine g_getI 24 1 rfl dX6_counts_1 rfl kkX6 flX6_17 (by decide) rfl rfl (by decide) rfl ?_
  exact g_iret dX6_counts_4 rfl rfl
def rou_isUnder (v0 : Int32) : Int32 :=
  (if v0 = (1 : Int32) then
  ((1 : Int32))
  else
  (if v0 = (2 : Int32) then
  ((1 : Int32))
  else
  ((0 : Int32))))
def rou_isUnder_o (v0 : Int32) : Option Int32 :=
  (if v0 = (1 : Int32) then
  (some (1 : Int32))
  else
  (if v0 = (2 : Int32) then
  (some (1 : Int32))
  else
  (some (0 : Int32))))
theorem rou_isUnder_e (v0 : Int32) : rou_isUnder_o v0 = some (rou_isUnder v0) := by
  unfold rou_isUnder_o rou_isUnder
  simp only [apply_ite some]
theorem z_rou_isUnder (v0 : Int32) : isZ (rou_isUnder v0) = true := by
  unfold rou_isUnder
  (repeat' split) <;> first | rfl
theorem rou_isUnder_c (q : Th) (v0 : Int32) (X : St) : Ct q nX6_isUnder 0 (fir X) [.int v0] X (some (rou_isUnder v0)) := by
  refine ct_of (by decide +kernel) (Nat.le_of_ble_eq_true rfl) ?_
  rw [← rou_isUnder_e]
  unfold rou_isUnder_o
  show G q _ _ 0 [(0, .int v0)] [] X _
  refine g_iload_n 0 dX6_isUnder_0 rfl rfl ?_
  refine g_iconst dX6_isUnder_1 rfl kic_1 ?_
  refine g_icmp_eq dX6_isUnder_2 rfl rfl ?_ ?_
  · refine g_iconst dX6_isUnder_10 rfl kic_1 ?_
    refine g_goto dX6_isUnder_11 rfl ?_
    exact g_zret dX6_isUnder_15 rfl rfl rfl
  refine g_iload_n 0 dX6_isUnder_5 rfl rfl ?_
  refine g_iconst dX6_isUnder_6 rfl kic_2 ?_
  refine g_icmp_ne dX6_isUnder_7 rfl rfl ?_ ?_
  · refine g_iconst dX6_isUnder_10 rfl kic_1 ?_
    refine g_goto dX6_isUnder_11 rfl ?_
    exact g_zret dX6_isUnder_15 rfl rfl rfl
  refine g_iconst dX6_isUnder_14 rfl kic_0 ?_
  exact g_zret dX6_isUnder_15 rfl rfl rfl
def rou_countsUnder_L4_B (n : Nat) (X : St) (rec : Int32 → Int32 → Option (Int32)) (v1 : Int32) (v2 : Int32) : Option (Int32) :=
(if v2 < (X.1 24 1) then
(if inB v2 60 then
(if (rou_isUnder (X.1 25 (nx v2))) = 0 then
(rec v1 (v2 + (1 : Int32)))
else
(rec (v1 + (1 : Int32)) (v2 + (1 : Int32)))) else none)
else
(some v1))
def rou_countsUnder_L4 (n : Nat) (X : St) : Nat → Int32 → Int32 → Option (Int32)
  | 0 => fun _ _ => none
  | w + 1 => rou_countsUnder_L4_B n X (rou_countsUnder_L4 n X w)
def rou_countsUnder (n : Nat) (X : St) : Option (Int32) :=
  (rou_countsUnder_L4 n X n (0 : Int32) (0 : Int32))
theorem rou_countsUnder_L4_Bg (q : Th) (n : Nat) (X : St) (rec : Int32 → Int32 → Option (Int32)) (hrec : ∀ v1 v2, G q (mF q nX6_countsUnder RX6 1) (fir X) 4 [(0, .ref (q.ad 24)), (1, .int v1), (2, .int v2)] [] X (rec v1 v2)) (v1 : Int32) (v2 : Int32) : G q (mF q nX6_countsUnder RX6 1) (fir X) 4 [(0, .ref (q.ad 24)), (1, .int v1), (2, .int v2)] [] X (rou_countsUnder_L4_B n X rec v1 v2) := by
  unfold rou_countsUnder_L4_B
  refine g_iload_n 2 dX6_countsUnder_4 rfl rfl ?_
  refine g_aload_n 0 dX6_countsUnder_5 rfl rfl ?_
  refine g_getI 24 1 rfl dX6_countsUnder_6 rfl kkX6 flX6_17 (by decide) rfl rfl (by decide) rfl ?_
  refine g_icmp_ge dX6_countsUnder_9 rfl rfl ?_ ?_
  · refine g_aload_n 0 dX6_countsUnder_12 rfl rfl ?_
    refine g_getR 24 0 25 rfl dX6_countsUnder_13 rfl kkX6 flX6_9 (by decide) rfl rfl (by decide) rfl ?_
    refine g_iload_n 2 dX6_countsUnder_16 rfl rfl ?_
    refine g_iald dX6_countsUnder_17 rfl (by decide) rfl rfl ?_
    refine g_cSIt (As := [.int (X.1 25 (nx v2))]) (st := []) 1 mF_wg rfl dX6_countsUnder_18 rfl vX6_isUnder lkX6_31 (rmL rfl rfl) (rou_isUnder_c q (X.1 25 (nx v2)) X) rfl rfl (Nat.le_of_ble_eq_true rfl) ?_
    refine g_if_eq dX6_countsUnder_21 rfl rfl ?_ ?_
    · refine g_inc (lv' := [(2, .int (v2 + (1 : Int32))), (0, .ref (q.ad 24)), (1, .int v1)]) 2 dX6_countsUnder_27 rfl rfl kic_1 (Nat.le_of_ble_eq_true rfl) rfl ?_
      refine g_goto dX6_countsUnder_30 rfl ?_
      refine g_sub [1, 2, 0] rfl ?_
      exact hrec v1 (v2 + (1 : Int32))
    refine g_inc (lv' := [(1, .int (v1 + (1 : Int32))), (0, .ref (q.ad 24)), (2, .int v2)]) 1 dX6_countsUnder_24 rfl rfl kic_1 (Nat.le_of_ble_eq_true rfl) rfl ?_
    refine g_inc (lv' := [(2, .int (v2 + (1 : Int32))), (1, .int (v1 + (1 : Int32))), (0, .ref (q.ad 24))]) 2 dX6_countsUnder_27 rfl rfl kic_1 (Nat.le_of_ble_eq_true rfl) rfl ?_
    refine g_goto dX6_countsUnder_30 rfl ?_
    refine g_sub [2, 1, 0] rfl ?_
    exact hrec (v1 + (1 : Int32)) (v2 + (1 : Int32))
  refine g_iload_n 1 dX6_countsUnder_33 rfl rfl ?_
  exact g_iret dX6_countsUnder_34 rfl rfl
theorem rou_countsUnder_L4_g (q : Th) (n : Nat) (X : St) : ∀ (w : Nat) (v1 : Int32) (v2 : Int32), G q (mF q nX6_countsUnder RX6 1) (fir X) 4 [(0, .ref (q.ad 24)), (1, .int v1), (2, .int v2)] [] X (rou_countsUnder_L4 n X w v1 v2) := by
  intro w
  induction w with
  | zero => intro v1 v2; exact g_none
  | succ w ih => intro v1 v2; exact rou_countsUnder_L4_Bg q n X _ ih v1 v2
theorem rou_countsUnder_c (q : Th) (n : Nat) (X : St) : Ct q nX6_countsUnder 1 (fir X) [.ref (q.ad 24)] X (rou_countsUnder n X) := by
  refine ct_of (by decide +kernel) (Nat.le_of_ble_eq_true rfl) ?_
  unfold rou_countsUnder
  show G q _ _ 0 [(0, .ref (q.ad 24))] [] X _
  refine g_iconst dX6_countsUnder_0 rfl kic_0 ?_
  refine g_istore_n (lv' := [(1, .int (0 : Int32)), (0, .ref (q.ad 24))]) dX6_countsUnder_1 rfl rfl (Nat.le_of_ble_eq_true rfl) rfl ?_
  refine g_iconst dX6_countsUnder_2 rfl kic_0 ?_
  refine g_istore_n (lv' := [(2, .int (0 : Int32)), (1, .int (0 : Int32)), (0, .ref (q.ad 24))]) dX6_countsUnder_3 rfl rfl (Nat.le_of_ble_eq_true rfl) rfl ?_
  refine g_sub [2, 1, 0] rfl ?_
  refine rou_countsUnder_L4_g q n X n (0 : Int32) (0 : Int32)
def rou_aboveThen (v0 : Int32) (v1 : Int32) (v2 : Int32) : Int32 :=
  (if (rou_isUnder v1) = 0 then
  ((jmath_min (v0 + (1 : Int32)) v2))
  else
  ((0 : Int32)))
def rou_aboveThen_o (v0 : Int32) (v1 : Int32) (v2 : Int32) : Option Int32 :=
  (if (rou_isUnder v1) = 0 then
  (some (jmath_min (v0 + (1 : Int32)) v2))
  else
  (some (0 : Int32)))
theorem rou_aboveThen_e (v0 : Int32) (v1 : Int32) (v2 : Int32) : rou_aboveThen_o v0 v1 v2 = some (rou_aboveThen v0 v1 v2) := by
  unfold rou_aboveThen_o rou_aboveThen
  simp only [apply_ite some]
theorem rou_aboveThen_c (q : Th) (v0 : Int32) (v1 : Int32) (v2 : Int32) (X : St) : Ct q nX6_aboveThen 1 (fir X) [.int v0, .int v1, .int v2] X (some (rou_aboveThen v0 v1 v2)) := by
  refine ct_of (by decide +kernel) (Nat.le_of_ble_eq_true rfl) ?_
  rw [← rou_aboveThen_e]
  unfold rou_aboveThen_o
  show G q _ _ 0 [(0, .int v0), (1, .int v1), (2, .int v2)] [] X _
  refine g_iload_n 1 dX6_aboveThen_0 rfl rfl ?_
  refine g_cSIt (As := [.int v1]) (st := []) 1 mF_wg rfl dX6_aboveThen_1 rfl vX6_isUnder lkX6_31 (rmL rfl rfl) (rou_isUnder_c q v1 X) rfl rfl (Nat.le_of_ble_eq_true rfl) ?_
  refine g_if_eq dX6_aboveThen_4 rfl rfl ?_ ?_
  · refine g_iload_n 0 dX6_aboveThen_11 rfl rfl ?_
    refine g_iconst dX6_aboveThen_12 rfl kic_1 ?_
    refine g_iadd dX6_aboveThen_13 rfl ?_
    refine g_iload_n 2 dX6_aboveThen_14 rfl rfl ?_
    refine g_mmin (st := []) rfl dX6_aboveThen_15 rfl lkX6_21 (rmL rfl rfl) (Nat.le_of_ble_eq_true rfl) ?_
    exact g_iret dX6_aboveThen_18 rfl rfl
  refine g_iconst dX6_aboveThen_7 rfl kic_0 ?_
  refine g_goto dX6_aboveThen_8 rfl ?_
  exact g_iret dX6_aboveThen_18 rfl rfl
def rou_underThen (v0 : Int32) (v1 : Int32) (v2 : Int32) (v3 : Int32) : Int32 :=
  (if (rou_isUnder v2) = 0 then
  (if v1 < v3 then
  (v0)
  else
  ((0 : Int32)))
  else
  ((v0 + (1 : Int32))))
def rou_underThen_o (v0 : Int32) (v1 : Int32) (v2 : Int32) (v3 : Int32) : Option Int32 :=
  (if (rou_isUnder v2) = 0 then
  (if v1 < v3 then
  (some v0)
  else
  (some (0 : Int32)))
  else
  (some (v0 + (1 : Int32))))
theorem rou_underThen_e (v0 : Int32) (v1 : Int32) (v2 : Int32) (v3 : Int32) : rou_underThen_o v0 v1 v2 v3 = some (rou_underThen v0 v1 v2 v3) := by
  unfold rou_underThen_o rou_underThen
  simp only [apply_ite some]
theorem rou_underThen_c (q : Th) (v0 : Int32) (v1 : Int32) (v2 : Int32) (v3 : Int32) (X : St) : Ct q nX6_underThen 1 (fir X) [.int v0, .int v1, .int v2, .int v3] X (some (rou_underThen v0 v1 v2 v3)) := by
  refine ct_of (by decide +kernel) (Nat.le_of_ble_eq_true rfl) ?_
  rw [← rou_underThen_e]
  unfold rou_underThen_o
  show G q _ _ 0 [(0, .int v0), (1, .int v1), (2, .int v2), (3, .int v3)] [] X _
  refine g_iload_n 2 dX6_underThen_0 rfl rfl ?_
  refine g_cSIt (As := [.int v2]) (st := []) 1 mF_wg rfl dX6_underThen_1 rfl vX6_isUnder lkX6_31 (rmL rfl rfl) (rou_isUnder_c q v2 X) rfl rfl (Nat.le_of_ble_eq_true rfl) ?_
  refine g_if_eq dX6_underThen_4 rfl rfl ?_ ?_
  · refine g_iload_n 1 dX6_underThen_11 rfl rfl ?_
    refine g_iload_n 3 dX6_underThen_12 rfl rfl ?_
    refine g_icmp_lt dX6_underThen_13 rfl rfl ?_ ?_
    · refine g_iload_n 0 dX6_underThen_20 rfl rfl ?_
      exact g_iret dX6_underThen_21 rfl rfl
    refine g_iconst dX6_underThen_16 rfl kic_0 ?_
    refine g_goto dX6_underThen_17 rfl ?_
    exact g_iret dX6_underThen_21 rfl rfl
  refine g_iload_n 0 dX6_underThen_7 rfl rfl ?_
  refine g_iconst dX6_underThen_8 rfl kic_1 ?_
  refine g_iadd dX6_underThen_9 rfl ?_
  exact g_iret dX6_underThen_10 rfl rfl
def rou_actAt (v1 : Int32) (X : St) : Option (Int32) :=
  (if v1 < 0 then
  (some (0 : Int32))
  else
  (if v1 < (X.1 24 1) then
  (if inB v1 60 then
  (some (X.1 25 (nx v1))) else none)
  else
  (some (0 : Int32))))
theorem rou_actAt_c (q : Th) (v1 : Int32) (X : St) : Ct q nX6_actAt 0 (fir X) [.ref (q.ad 24), .int v1] X (rou_actAt v1 X) := by
  refine ct_of (by decide +kernel) (Nat.le_of_ble_eq_true rfl) ?_
  unfold rou_actAt
  show G q _ _ 0 [(0, .ref (q.ad 24)), (1, .int v1)] [] X _
  refine g_iload_n 1 dX6_actAt_0 rfl rfl ?_
  refine g_if_lt dX6_actAt_1 rfl rfl ?_ ?_
  · refine g_iconst dX6_actAt_21 rfl kic_0 ?_
    exact g_iret dX6_actAt_22 rfl rfl
  refine g_iload_n 1 dX6_actAt_4 rfl rfl ?_
  refine g_aload_n 0 dX6_actAt_5 rfl rfl ?_
  refine g_getI 24 1 rfl dX6_actAt_6 rfl kkX6 flX6_17 (by decide) rfl rfl (by decide) rfl ?_
  refine g_icmp_ge dX6_actAt_9 rfl rfl ?_ ?_
  · refine g_aload_n 0 dX6_actAt_12 rfl rfl ?_
    refine g_getR 24 0 25 rfl dX6_actAt_13 rfl kkX6 flX6_9 (by decide) rfl rfl (by decide) rfl ?_
    refine g_iload_n 1 dX6_actAt_16 rfl rfl ?_
    refine g_iald dX6_actAt_17 rfl (by decide) rfl rfl ?_
    refine g_goto dX6_actAt_18 rfl ?_
    exact g_iret dX6_actAt_22 rfl rfl
  refine g_iconst dX6_actAt_21 rfl kic_0 ?_
  exact g_iret dX6_actAt_22 rfl rfl
def rou_isAct (w0 : Int64) : Int32 :=
  (if (lg_cmp w0 (0 : Int64)) < 0 then
  ((0 : Int32))
  else
  (if 0 < (lg_cmp w0 (4 : Int64)) then
  ((0 : Int32))
  else
  ((1 : Int32))))
def rou_isAct_o (w0 : Int64) : Option Int32 :=
  (if (lg_cmp w0 (0 : Int64)) < 0 then
  (some (0 : Int32))
  else
  (if 0 < (lg_cmp w0 (4 : Int64)) then
  (some (0 : Int32))
  else
  (some (1 : Int32))))
theorem rou_isAct_e (w0 : Int64) : rou_isAct_o w0 = some (rou_isAct w0) := by
  unfold rou_isAct_o rou_isAct
  simp only [apply_ite some]
theorem z_rou_isAct (w0 : Int64) : isZ (rou_isAct w0) = true := by
  unfold rou_isAct
  (repeat' split) <;> first | rfl
theorem rou_isAct_c (q : Th) (w0 : Int64) (X : St) : Ct q nX6_isAct 0 (fir X) [.long w0] X (some (rou_isAct w0)) := by
  refine ct_of (by decide +kernel) (Nat.le_of_ble_eq_true rfl) ?_
  rw [← rou_isAct_e]
  unfold rou_isAct_o
  show G q _ _ 0 [(0, .long w0)] [] X _
  refine g_lload_n 0 dX6_isAct_0 rfl rfl ?_
  refine g_lconst dX6_isAct_1 rfl k_l0 ?_
  refine g_lcmp dX6_isAct_2 rfl ?_
  refine g_if_lt dX6_isAct_3 rfl rfl ?_ ?_
  · refine g_iconst dX6_isAct_18 rfl kic_0 ?_
    exact g_zret dX6_isAct_19 rfl rfl rfl
  refine g_lload_n 0 dX6_isAct_6 rfl rfl ?_
  refine g_ldc2 rfl dX6_isAct_7 rfl klX6_15 ?_
  refine g_lcmp dX6_isAct_10 rfl ?_
  refine g_if_gt dX6_isAct_11 rfl rfl ?_ ?_
  · refine g_iconst dX6_isAct_18 rfl kic_0 ?_
    exact g_zret dX6_isAct_19 rfl rfl rfl
  refine g_iconst dX6_isAct_14 rfl kic_1 ?_
  refine g_goto dX6_isAct_15 rfl ?_
  exact g_zret dX6_isAct_19 rfl rfl rfl
def rou_take_L20_B (n : Nat) (rec : Nat → Int32 → Int32 → St → Option (St)) (r1 : Nat) (v3 : Int32) (v4 : Int32) (X : St) : Option (St) :=
(if v4 < v3 then
(if okJ r1 v4 then
(if (rou_isAct (X.2 r1 (nx v4))) = 0 then
(some X)
else
(if okJ r1 v4 then
(if inB v4 60 then
((some (stI (stI X 25 (nx v4) ((X.2 r1 (nx v4)).toInt32)) 24 1 (((stI X 25 (nx v4) ((X.2 r1 (nx v4)).toInt32)).1 24 1) + (1 : Int32)))).bind fun X2 =>
(rec r1 v3 (v4 + (1 : Int32)) X2)) else none) else none)) else none)
else
(some X))
def rou_take_L20 (n : Nat) : Nat → Nat → Int32 → Int32 → St → Option (St)
  | 0 => fun _ _ _ _ => none
  | w + 1 => rou_take_L20_B n (rou_take_L20 n w)
def rou_take (n : Nat) (r1 : Nat) (v2 : Int32) (X : St) : Option (St) :=
  (if isR r1 then
  ((some (jmath_min (jmath_min v2 (Int32.ofNat (oln r1))) (60 : Int32))).bind fun t1 =>
  (rou_take_L20 n n r1 t1 (0 : Int32) (stI X 24 1 (0 : Int32)))) else none)
theorem rou_take_L20_Bg (q : Th) (n : Nat) (rec : Nat → Int32 → Int32 → St → Option (St)) (hrec : ∀ r1 v3 v4 X, G q (mF q nX6_take RX6 1) fvw 20 [(0, .ref (q.ad 24)), (1, .ref (q.ad r1)), (3, .int v3), (4, .int v4)] [] X (rec r1 v3 v4 X)) (r1 : Nat) (v3 : Int32) (v4 : Int32) (X : St) : G q (mF q nX6_take RX6 1) fvw 20 [(0, .ref (q.ad 24)), (1, .ref (q.ad r1)), (3, .int v3), (4, .int v4)] [] X (rou_take_L20_B n rec r1 v3 v4 X) := by
  unfold rou_take_L20_B
  refine g_iload 3 dX6_take_20 rfl rfl ?_
  refine g_iload_n 2 dX6_take_22 rfl rfl ?_
  refine g_icmp_ge dX6_take_23 rfl rfl ?_ ?_
  · refine g_aload_n 1 dX6_take_26 rfl rfl ?_
    refine g_iload 3 dX6_take_27 rfl rfl ?_
    refine g_laldD dX6_take_29 rfl ?_
    refine g_cSIt (As := [.long (X.2 r1 (nx v4))]) (st := []) 1 mF_wg rfl dX6_take_30 rfl vX6_isAct lkX6_27 (rmL rfl rfl) (rou_isAct_c q (X.2 r1 (nx v4)) X) rfl rfl (Nat.le_of_ble_eq_true rfl) ?_
    refine g_if_eq dX6_take_33 rfl rfl ?_ ?_
    · exact g_vret dX6_take_64 rfl rfl
    refine g_aload_n 0 dX6_take_36 rfl rfl ?_
    refine g_getR 24 0 25 rfl dX6_take_37 rfl kkX6 flX6_9 (by decide) rfl rfl (by decide) rfl ?_
    refine g_iload 3 dX6_take_40 rfl rfl ?_
    refine g_aload_n 1 dX6_take_42 rfl rfl ?_
    refine g_iload 3 dX6_take_43 rfl rfl ?_
    refine g_laldD dX6_take_45 rfl ?_
    refine g_l2i dX6_take_46 rfl ?_
    refine g_iast dX6_take_47 rfl (by decide) rfl rfl ?_
    refine g_aload_n 0 dX6_take_48 rfl rfl ?_
    refine g_dup dX6_take_49 rfl rfl ?_
    refine g_getI 24 1 rfl dX6_take_50 rfl kkX6 flX6_17 (by decide) rfl rfl (by decide) rfl ?_
    refine g_iconst dX6_take_53 rfl kic_1 ?_
    refine g_iadd dX6_take_54 rfl ?_
    refine g_putI 24 1 rfl dX6_take_55 rfl kkX6 flX6_17 (by decide) rfl rfl (by decide) rfl rfl rfl ?_
    refine g_nmX (fun X2 => ?_)
    refine g_inc (lv' := [(4, .int (v4 + (1 : Int32))), (0, .ref (q.ad 24)), (1, .ref (q.ad r1)), (3, .int v3)]) 3 dX6_take_58 rfl rfl kic_1 (Nat.le_of_ble_eq_true rfl) rfl ?_
    refine g_goto dX6_take_61 rfl ?_
    refine g_sub [1, 2, 3, 0] rfl ?_
    exact hrec r1 v3 (v4 + (1 : Int32)) X2
  exact g_vret dX6_take_64 rfl rfl
theorem rou_take_L20_g (q : Th) (n : Nat) : ∀ (w : Nat) (r1 : Nat) (v3 : Int32) (v4 : Int32) (X : St), G q (mF q nX6_take RX6 1) fvw 20 [(0, .ref (q.ad 24)), (1, .ref (q.ad r1)), (3, .int v3), (4, .int v4)] [] X (rou_take_L20 n w r1 v3 v4 X) := by
  intro w
  induction w with
  | zero => intro r1 v3 v4 X; exact g_none
  | succ w ih => intro r1 v3 v4 X; exact rou_take_L20_Bg q n _ ih r1 v3 v4 X
theorem rou_take_c (q : Th) (n : Nat) (r1 : Nat) (v2 : Int32) (X : St) : Ct q nX6_take 1 fvw [.ref (q.ad 24), .ref (q.ad r1), .int v2] X (rou_take n r1 v2 X) := by
  refine ct_of (by decide +kernel) (Nat.le_of_ble_eq_true rfl) ?_
  unfold rou_take
  show G q _ _ 0 [(0, .ref (q.ad 24)), (1, .ref (q.ad r1)), (2, .int v2)] [] X _
  refine g_aload_n 0 dX6_take_0 rfl rfl ?_
  refine g_iconst dX6_take_1 rfl kic_0 ?_
  refine g_putI 24 1 rfl dX6_take_2 rfl kkX6 flX6_17 (by decide) rfl rfl (by decide) rfl rfl rfl ?_
  refine g_iload_n 2 dX6_take_5 rfl rfl ?_
  refine g_aload_n 1 dX6_take_6 rfl rfl ?_
  refine g_alenD dX6_take_7 rfl ?_
  refine g_mmin (st := []) rfl dX6_take_8 rfl lkX6_21 (rmL rfl rfl) (Nat.le_of_ble_eq_true rfl) ?_
  refine g_bipush dX6_take_11 rfl kbi_60 ?_
  refine g_mmin (st := []) rfl dX6_take_13 rfl lkX6_21 (rmL rfl rfl) (Nat.le_of_ble_eq_true rfl) ?_
  refine g_nmI (fun t1 => ?_)
  refine g_istore_n (lv' := [(3, .int t1), (0, .ref (q.ad 24)), (1, .ref (q.ad r1)), (2, .int v2)]) dX6_take_16 rfl rfl (Nat.le_of_ble_eq_true rfl) rfl ?_
  refine g_iconst dX6_take_17 rfl kic_0 ?_
  refine g_istore (lv' := [(4, .int (0 : Int32)), (3, .int t1), (0, .ref (q.ad 24)), (1, .ref (q.ad r1)), (2, .int v2)]) dX6_take_18 rfl (Nat.le_of_ble_eq_true rfl) rfl ?_
  refine g_sub [2, 3, 1, 0] rfl ?_
  refine rou_take_L20_g q n n r1 t1 (0 : Int32) (stI X 24 1 (0 : Int32))
def rou_firstGone_L8_B (n : Nat) (X : St) (rec : Int32 → Int32 → Int32 → Int32 → Int32 → Option (Int32)) (v1 : Int32) (v2 : Int32) (v3 : Int32) (v4 : Int32) (v5 : Int32) : Option (Int32) :=
(if v5 < (X.1 24 1) then
(if inB v5 60 then
((some (rou_aboveThen v4 (X.1 25 (nx v5)) v2)).bind fun t1 =>
(if inB v5 60 then
((some (rou_underThen v3 t1 (X.1 25 (nx v5)) v2)).bind fun t2 =>
(if v1 < t2 then
(some v5)
else
(rec v1 v2 t2 t1 (v5 + (1 : Int32))))) else none)) else none)
else
(some (-2 : Int32)))
def rou_firstGone_L8 (n : Nat) (X : St) : Nat → Int32 → Int32 → Int32 → Int32 → Int32 → Option (Int32)
  | 0 => fun _ _ _ _ _ => none
  | w + 1 => rou_firstGone_L8_B n X (rou_firstGone_L8 n X w)
def rou_firstGone (n : Nat) (v1 : Int32) (v2 : Int32) (X : St) : Option (Int32) :=
  (rou_firstGone_L8 n X n v1 v2 (0 : Int32) (0 : Int32) (0 : Int32))
theorem rou_firstGone_L8_Bg (q : Th) (n : Nat) (X : St) (rec : Int32 → Int32 → Int32 → Int32 → Int32 → Option (Int32)) (hrec : ∀ v1 v2 v3 v4 v5, G q (mF q nX6_firstGone RX6 2) (fir X) 8 [(0, .ref (q.ad 24)), (1, .int v1), (2, .int v2), (3, .int v3), (4, .int v4), (5, .int v5)] [] X (rec v1 v2 v3 v4 v5)) (v1 : Int32) (v2 : Int32) (v3 : Int32) (v4 : Int32) (v5 : Int32) : G q (mF q nX6_firstGone RX6 2) (fir X) 8 [(0, .ref (q.ad 24)), (1, .int v1), (2, .int v2), (3, .int v3), (4, .int v4), (5, .int v5)] [] X (rou_firstGone_L8_B n X rec v1 v2 v3 v4 v5) := by
  unfold rou_firstGone_L8_B
  refine g_iload 5 dX6_firstGone_8 rfl rfl ?_
  refine g_aload_n 0 dX6_firstGone_10 rfl rfl ?_
  refine g_getI 24 1 rfl dX6_firstGone_11 rfl kkX6 flX6_17 (by decide) rfl rfl (by decide) rfl ?_
  refine g_icmp_ge dX6_firstGone_14 rfl rfl ?_ ?_
  · refine g_iload 4 dX6_firstGone_17 rfl rfl ?_
    refine g_aload_n 0 dX6_firstGone_19 rfl rfl ?_
    refine g_getR 24 0 25 rfl dX6_firstGone_20 rfl kkX6 flX6_9 (by decide) rfl rfl (by decide) rfl ?_
    refine g_iload 5 dX6_firstGone_23 rfl rfl ?_
    refine g_iald dX6_firstGone_25 rfl (by decide) rfl rfl ?_
    refine g_iload_n 2 dX6_firstGone_26 rfl rfl ?_
    refine g_cSIt (As := [.int v4, .int (X.1 25 (nx v5)), .int v2]) (st := []) 3 mF_wg rfl dX6_firstGone_27 rfl vX6_aboveThen lkX6_35 (rmL rfl rfl) (rou_aboveThen_c q v4 (X.1 25 (nx v5)) v2 X) rfl rfl (Nat.le_of_ble_eq_true rfl) ?_
    refine g_nmI (fun t1 => ?_)
    refine g_istore (lv' := [(4, .int t1), (0, .ref (q.ad 24)), (1, .int v1), (2, .int v2), (3, .int v3), (5, .int v5)]) dX6_firstGone_30 rfl (Nat.le_of_ble_eq_true rfl) rfl ?_
    refine g_iload_n 4 dX6_firstGone_32 rfl rfl ?_
    refine g_iload 0 dX6_firstGone_33 rfl rfl ?_
    refine g_aload_n 1 dX6_firstGone_35 rfl rfl ?_
    refine g_getR 24 0 25 rfl dX6_firstGone_36 rfl kkX6 flX6_9 (by decide) rfl rfl (by decide) rfl ?_
    refine g_iload 5 dX6_firstGone_39 rfl rfl ?_
    refine g_iald dX6_firstGone_41 rfl (by decide) rfl rfl ?_
    refine g_iload_n 3 dX6_firstGone_42 rfl rfl ?_
    refine g_cSIt (As := [.int v3, .int t1, .int (X.1 25 (nx v5)), .int v2]) (st := []) 4 mF_wg rfl dX6_firstGone_43 rfl vX6_underThen lkX6_39 (rmL rfl rfl) (rou_underThen_c q v3 t1 (X.1 25 (nx v5)) v2 X) rfl rfl (Nat.le_of_ble_eq_true rfl) ?_
    refine g_nmI (fun t2 => ?_)
    refine g_istore_n (lv' := [(3, .int t2), (4, .int t1), (0, .ref (q.ad 24)), (1, .int v1), (2, .int v2), (5, .int v5)]) dX6_firstGone_46 rfl rfl (Nat.le_of_ble_eq_true rfl) rfl ?_
    refine g_iload_n 0 dX6_firstGone_47 rfl rfl ?_
    refine g_iload_n 3 dX6_firstGone_48 rfl rfl ?_
    refine g_icmp_le dX6_firstGone_49 rfl rfl ?_ ?_
    · refine g_iload 5 dX6_firstGone_52 rfl rfl ?_
      exact g_iret dX6_firstGone_54 rfl rfl
    refine g_inc (lv' := [(5, .int (v5 + (1 : Int32))), (3, .int t2), (4, .int t1), (0, .ref (q.ad 24)), (1, .int v1), (2, .int v2)]) 5 dX6_firstGone_55 rfl rfl kic_1 (Nat.le_of_ble_eq_true rfl) rfl ?_
    refine g_goto dX6_firstGone_58 rfl ?_
    refine g_sub [3, 4, 5, 1, 2, 0] rfl ?_
    exact hrec v1 v2 t2 t1 (v5 + (1 : Int32))
  refine g_bipush dX6_firstGone_61 rfl kbi_m2 ?_
  exact g_iret dX6_firstGone_63 rfl rfl
theorem rou_firstGone_L8_g (q : Th) (n : Nat) (X : St) : ∀ (w : Nat) (v1 : Int32) (v2 : Int32) (v3 : Int32) (v4 : Int32) (v5 : Int32), G q (mF q nX6_firstGone RX6 2) (fir X) 8 [(0, .ref (q.ad 24)), (1, .int v1), (2, .int v2), (3, .int v3), (4, .int v4), (5, .int v5)] [] X (rou_firstGone_L8 n X w v1 v2 v3 v4 v5) := by
  intro w
  induction w with
  | zero => intro v1 v2 v3 v4 v5; exact g_none
  | succ w ih => intro v1 v2 v3 v4 v5; exact rou_firstGone_L8_Bg q n X _ ih v1 v2 v3 v4 v5
theorem rou_firstGone_c (q : Th) (n : Nat) (v1 : Int32) (v2 : Int32) (X : St) : Ct q nX6_firstGone 2 (fir X) [.ref (q.ad 24), .int v1, .int v2] X (rou_firstGone n v1 v2 X) := by
  refine ct_of (by decide +kernel) (Nat.le_of_ble_eq_true rfl) ?_
  unfold rou_firstGone
  show G q _ _ 0 [(0, .ref (q.ad 24)), (1, .int v1), (2, .int v2)] [] X _
  refine g_iconst dX6_firstGone_0 rfl kic_0 ?_
  refine g_istore_n (lv' := [(3, .int (0 : Int32)), (0, .ref (q.ad 24)), (1, .int v1), (2, .int v2)]) dX6_firstGone_1 rfl rfl (Nat.le_of_ble_eq_true rfl) rfl ?_
  refine g_iconst dX6_firstGone_2 rfl kic_0 ?_
  refine g_istore (lv' := [(4, .int (0 : Int32)), (3, .int (0 : Int32)), (0, .ref (q.ad 24)), (1, .int v1), (2, .int v2)]) dX6_firstGone_3 rfl (Nat.le_of_ble_eq_true rfl) rfl ?_
  refine g_iconst dX6_firstGone_5 rfl kic_0 ?_
  refine g_istore (lv' := [(5, .int (0 : Int32)), (4, .int (0 : Int32)), (3, .int (0 : Int32)), (0, .ref (q.ad 24)), (1, .int v1), (2, .int v2)]) dX6_firstGone_6 rfl (Nat.le_of_ble_eq_true rfl) rfl ?_
  refine g_sub [3, 4, 5, 2, 1, 0] rfl ?_
  refine rou_firstGone_L8_g q n X n v1 v2 (0 : Int32) (0 : Int32) (0 : Int32)
def rou_longest_L10_B (n : Nat) (X : St) (rec : Int32 → Int32 → Int32 → Int32 → Int32 → Option (Int32)) (v1 : Int32) (v2 : Int32) (v3 : Int32) (v4 : Int32) (v5 : Int32) : Option (Int32) :=
(if v5 < (X.1 24 1) then
(if inB v5 60 then
((some (rou_aboveThen v4 (X.1 25 (nx v5)) v1)).bind fun t1 =>
(if inB v5 60 then
((some (rou_underThen v3 t1 (X.1 25 (nx v5)) v1)).bind fun t2 =>
(rec v1 (jmath_max v2 t2) t2 t1 (v5 + (1 : Int32)))) else none)) else none)
else
(some v2))
def rou_longest_L10 (n : Nat) (X : St) : Nat → Int32 → Int32 → Int32 → Int32 → Int32 → Option (Int32)
  | 0 => fun _ _ _ _ _ => none
  | w + 1 => rou_longest_L10_B n X (rou_longest_L10 n X w)
def rou_longest (n : Nat) (v1 : Int32) (X : St) : Option (Int32) :=
  (rou_longest_L10 n X n v1 (0 : Int32) (0 : Int32) (0 : Int32) (0 : Int32))
theorem rou_longest_L10_Bg (q : Th) (n : Nat) (X : St) (rec : Int32 → Int32 → Int32 → Int32 → Int32 → Option (Int32)) (hrec : ∀ v1 v2 v3 v4 v5, G q (mF q nX6_longest RX6 2) (fir X) 10 [(0, .ref (q.ad 24)), (1, .int v1), (2, .int v2), (3, .int v3), (4, .int v4), (5, .int v5)] [] X (rec v1 v2 v3 v4 v5)) (v1 : Int32) (v2 : Int32) (v3 : Int32) (v4 : Int32) (v5 : Int32) : G q (mF q nX6_longest RX6 2) (fir X) 10 [(0, .ref (q.ad 24)), (1, .int v1), (2, .int v2), (3, .int v3), (4, .int v4), (5, .int v5)] [] X (rou_longest_L10_B n X rec v1 v2 v3 v4 v5) := by
  unfold rou_longest_L10_B
  refine g_iload 5 dX6_longest_10 rfl rfl ?_
  refine g_aload_n 0 dX6_longest_12 rfl rfl ?_
  refine g_getI 24 1 rfl dX6_longest_13 rfl kkX6 flX6_17 (by decide) rfl rfl (by decide) rfl ?_
  refine g_icmp_ge dX6_longest_16 rfl rfl ?_ ?_
  · refine g_iload 4 dX6_longest_19 rfl rfl ?_
    refine g_aload_n 0 dX6_longest_21 rfl rfl ?_
    refine g_getR 24 0 25 rfl dX6_longest_22 rfl kkX6 flX6_9 (by decide) rfl rfl (by decide) rfl ?_
    refine g_iload 5 dX6_longest_25 rfl rfl ?_
    refine g_iald dX6_longest_27 rfl (by decide) rfl rfl ?_
    refine g_iload_n 1 dX6_longest_28 rfl rfl ?_
    refine g_cSIt (As := [.int v4, .int (X.1 25 (nx v5)), .int v1]) (st := []) 3 mF_wg rfl dX6_longest_29 rfl vX6_aboveThen lkX6_35 (rmL rfl rfl) (rou_aboveThen_c q v4 (X.1 25 (nx v5)) v1 X) rfl rfl (Nat.le_of_ble_eq_true rfl) ?_
    refine g_nmI (fun t1 => ?_)
    refine g_istore (lv' := [(4, .int t1), (0, .ref (q.ad 24)), (1, .int v1), (2, .int v2), (3, .int v3), (5, .int v5)]) dX6_longest_32 rfl (Nat.le_of_ble_eq_true rfl) rfl ?_
    refine g_iload_n 4 dX6_longest_34 rfl rfl ?_
    refine g_iload 0 dX6_longest_35 rfl rfl ?_
    refine g_aload_n 1 dX6_longest_37 rfl rfl ?_
    refine g_getR 24 0 25 rfl dX6_longest_38 rfl kkX6 flX6_9 (by decide) rfl rfl (by decide) rfl ?_
    refine g_iload 5 dX6_longest_41 rfl rfl ?_
    refine g_iald dX6_longest_43 rfl (by decide) rfl rfl ?_
    refine g_iload_n 2 dX6_longest_44 rfl rfl ?_
    refine g_cSIt (As := [.int v3, .int t1, .int (X.1 25 (nx v5)), .int v1]) (st := []) 4 mF_wg rfl dX6_longest_45 rfl vX6_underThen lkX6_39 (rmL rfl rfl) (rou_underThen_c q v3 t1 (X.1 25 (nx v5)) v1 X) rfl rfl (Nat.le_of_ble_eq_true rfl) ?_
    refine g_nmI (fun t2 => ?_)
    refine g_istore_n (lv' := [(3, .int t2), (4, .int t1), (0, .ref (q.ad 24)), (1, .int v1), (2, .int v2), (5, .int v5)]) dX6_longest_48 rfl rfl (Nat.le_of_ble_eq_true rfl) rfl ?_
    refine g_iload_n 4 dX6_longest_49 rfl rfl ?_
    refine g_iload_n 0 dX6_longest_50 rfl rfl ?_
    refine g_mmax (st := []) rfl dX6_longest_51 rfl lkX6_43 (rmL rfl rfl) (Nat.le_of_ble_eq_true rfl) ?_
    refine g_istore_n (lv' := [(2, .int (jmath_max v2 t2)), (3, .int t2), (4, .int t1), (0, .ref (q.ad 24)), (1, .int v1), (5, .int v5)]) dX6_longest_54 rfl rfl (Nat.le_of_ble_eq_true rfl) rfl ?_
    refine g_inc (lv' := [(5, .int (v5 + (1 : Int32))), (2, .int (jmath_max v2 t2)), (3, .int t2), (4, .int t1), (0, .ref (q.ad 24)), (1, .int v1)]) 5 dX6_longest_55 rfl rfl kic_1 (Nat.le_of_ble_eq_true rfl) rfl ?_
    refine g_goto dX6_longest_58 rfl ?_
    refine g_sub [4, 5, 1, 2, 3, 0] rfl ?_
    exact hrec v1 (jmath_max v2 t2) t2 t1 (v5 + (1 : Int32))
  refine g_iload_n 2 dX6_longest_61 rfl rfl ?_
  exact g_iret dX6_longest_62 rfl rfl
theorem rou_longest_L10_g (q : Th) (n : Nat) (X : St) : ∀ (w : Nat) (v1 : Int32) (v2 : Int32) (v3 : Int32) (v4 : Int32) (v5 : Int32), G q (mF q nX6_longest RX6 2) (fir X) 10 [(0, .ref (q.ad 24)), (1, .int v1), (2, .int v2), (3, .int v3), (4, .int v4), (5, .int v5)] [] X (rou_longest_L10 n X w v1 v2 v3 v4 v5) := by
  intro w
  induction w with
  | zero => intro v1 v2 v3 v4 v5; exact g_none
  | succ w ih => intro v1 v2 v3 v4 v5; exact rou_longest_L10_Bg q n X _ ih v1 v2 v3 v4 v5
theorem rou_longest_c (q : Th) (n : Nat) (v1 : Int32) (X : St) : Ct q nX6_longest 2 (fir X) [.ref (q.ad 24), .int v1] X (rou_longest n v1 X) := by
  refine ct_of (by decide +kernel) (Nat.le_of_ble_eq_true rfl) ?_
  unfold rou_longest
  show G q _ _ 0 [(0, .ref (q.ad 24)), (1, .int v1)] [] X _
  refine g_iconst dX6_longest_0 rfl kic_0 ?_
  refine g_istore_n (lv' := [(2, .int (0 : Int32)), (0, .ref (q.ad 24)), (1, .int v1)]) dX6_longest_1 rfl rfl (Nat.le_of_ble_eq_true rfl) rfl ?_
  refine g_iconst dX6_longest_2 rfl kic_0 ?_
  refine g_istore_n (lv' := [(3, .int (0 : Int32)), (2, .int (0 : Int32)), (0, .ref (q.ad 24)), (1, .int v1)]) dX6_longest_3 rfl rfl (Nat.le_of_ble_eq_true rfl) rfl ?_
  refine g_iconst dX6_longest_4 rfl kic_0 ?_
  refine g_istore (lv' := [(4, .int (0 : Int32)), (3, .int (0 : Int32)), (2, .int (0 : Int32)), (0, .ref (q.ad 24)), (1, .int v1)]) dX6_longest_5 rfl (Nat.le_of_ble_eq_true rfl) rfl ?_
  refine g_iconst dX6_longest_7 rfl kic_0 ?_
  refine g_istore (lv' := [(5, .int (0 : Int32)), (4, .int (0 : Int32)), (3, .int (0 : Int32)), (2, .int (0 : Int32)), (0, .ref (q.ad 24)), (1, .int v1)]) dX6_longest_8 rfl (Nat.le_of_ble_eq_true rfl) rfl ?_
  refine g_sub [4, 5, 3, 2, 1, 0] rfl ?_
  refine rou_longest_L10_g q n X n v1 (0 : Int32) (0 : Int32) (0 : Int32) (0 : Int32)
