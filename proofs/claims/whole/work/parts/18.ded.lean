/-! 18.ded: what the methods come to, and that they do -/
def ded_told (v1 : Int32) (v2 : Int32) (X : St) : Option (Int32) :=
  (if v1 < 0 then
  (some (-2000000000 : Int32))
  else
  (if v1 < (8 : Int32) then
  (if v2 = 0 then
  (if inB v1 8 then
  (some (X.1 83 (nx v1))) else none)
  else
  (if inB v1 8 then
  (some (X.1 82 (nx v1))) else none))
  else
  (some (-2000000000 : Int32))))
theorem ded_told_c (q : Th) (v1 : Int32) (v2 : Int32) (X : St) : Ct q nX1_told 0 (fir X) [.ref (q.ad 81), .int v1, .int v2] X (ded_told v1 v2 X) := by
  refine ct_of (by decide +kernel) (Nat.le_of_ble_eq_true rfl) ?_
  unfold ded_told
  show G q _ _ 0 [(0, .ref (q.ad 81)), (1, .int v1), (2, .int v2)] [] X _
  refine g_iload_n 1 dX1_told_0 rfl rfl ?_
  refine g_if_lt dX1_told_1 rfl rfl ?_ ?_
  · refine g_ldc rfl dX1_told_10 rfl kcX1_30 ?_
    exact g_iret dX1_told_12 rfl rfl
  refine g_iload_n 1 dX1_told_4 rfl rfl ?_
  refine g_bipush dX1_told_5 rfl kbi_8 ?_
  refine g_icmp_lt dX1_told_7 rfl rfl ?_ ?_
  · refine g_iload_n 2 dX1_told_13 rfl rfl ?_
    refine g_if_eq dX1_told_14 rfl rfl ?_ ?_
    · refine g_aload_n 0 dX1_told_26 rfl rfl ?_
      refine g_getR 81 1 83 rfl dX1_told_27 rfl kkX1 flX1_15 (by decide) rfl rfl (by decide) rfl ?_
      refine g_iload_n 1 dX1_told_30 rfl rfl ?_
      refine g_iald dX1_told_31 rfl (by decide) rfl rfl ?_
      exact g_iret dX1_told_32 rfl rfl
    refine g_aload_n 0 dX1_told_17 rfl rfl ?_
    refine g_getR 81 0 82 rfl dX1_told_18 rfl kkX1 flX1_9 (by decide) rfl rfl (by decide) rfl ?_
    refine g_iload_n 1 dX1_told_21 rfl rfl ?_
    refine g_iald dX1_told_22 rfl (by decide) rfl rfl ?_
    refine g_goto dX1_told_23 rfl ?_
    exact g_iret dX1_told_32 rfl rfl
  refine g_ldc rfl dX1_told_10 rfl kcX1_30 ?_
  exact g_iret dX1_told_12 rfl rfl
def ded_inAll (v1 : Int32) (X : St) : Option (Int32) :=
  (if v1 < 0 then
  (some (-1 : Int32))
  else
  (if v1 < (5 : Int32) then
  (if inB v1 5 then
  (some (X.1 84 (nx v1))) else none)
  else
  (some (-1 : Int32))))
theorem ded_inAll_c (q : Th) (v1 : Int32) (X : St) : Ct q nX1_inAll 0 (fir X) [.ref (q.ad 81), .int v1] X (ded_inAll v1 X) := by
  refine ct_of (by decide +kernel) (Nat.le_of_ble_eq_true rfl) ?_
  unfold ded_inAll
  show G q _ _ 0 [(0, .ref (q.ad 81)), (1, .int v1)] [] X _
  refine g_iload_n 1 dX1_inAll_0 rfl rfl ?_
  refine g_if_lt dX1_inAll_1 rfl rfl ?_ ?_
  · refine g_iconst dX1_inAll_18 rfl kic_m1 ?_
    exact g_iret dX1_inAll_19 rfl rfl
  refine g_iload_n 1 dX1_inAll_4 rfl rfl ?_
  refine g_iconst dX1_inAll_5 rfl kic_5 ?_
  refine g_icmp_ge dX1_inAll_6 rfl rfl ?_ ?_
  · refine g_aload_n 0 dX1_inAll_9 rfl rfl ?_
    refine g_getR 81 2 84 rfl dX1_inAll_10 rfl kkX1 flX1_18 (by decide) rfl rfl (by decide) rfl ?_
    refine g_iload_n 1 dX1_inAll_13 rfl rfl ?_
    refine g_iald dX1_inAll_14 rfl (by decide) rfl rfl ?_
    refine g_goto dX1_inAll_15 rfl ?_
    exact g_iret dX1_inAll_19 rfl rfl
  refine g_iconst dX1_inAll_18 rfl kic_m1 ?_
  exact g_iret dX1_inAll_19 rfl rfl
def ded_tire (v1 : Int32) (v2 : Int32) (X : St) : Option (St) :=
  (if inB v1 8 then
  (if inB v1 8 then
  (if inB v1 8 then
  (if ((stI X 82 (nx v1) ((X.1 82 (nx v1)) + v2)).1 82 (nx v1)) < (100 : Int32) then
  (some (stI X 82 (nx v1) ((X.1 82 (nx v1)) + v2)))
  else
  (if inB v1 8 then
  ((some (stI (stI X 82 (nx v1) ((X.1 82 (nx v1)) + v2)) 82 (nx v1) (0 : Int32))).bind fun X1 =>
  ((some (stI X1 84 (nx (4 : Int32)) ((X1.1 84 (nx (4 : Int32))) + (1 : Int32)))).bind fun X2 =>
  (some X2))) else none)) else none) else none) else none)
theorem ded_tire_c (q : Th) (v1 : Int32) (v2 : Int32) (X : St) : Ct q nX1_tire 0 fvw [.ref (q.ad 81), .int v1, .int v2] X (ded_tire v1 v2 X) := by
  refine ct_of (by decide +kernel) (Nat.le_of_ble_eq_true rfl) ?_
  unfold ded_tire
  show G q _ _ 0 [(0, .ref (q.ad 81)), (1, .int v1), (2, .int v2)] [] X _
  refine g_aload_n 0 dX1_tire_0 rfl rfl ?_
  refine g_getR 81 0 82 rfl dX1_tire_1 rfl kkX1 flX1_9 (by decide) rfl rfl (by decide) rfl ?_
  refine g_iload_n 1 dX1_tire_4 rfl rfl ?_
  refine g_dup2 dX1_tire_5 rfl rfl rfl ?_
  refine g_iald dX1_tire_6 rfl (by decide) rfl rfl ?_
  refine g_iload_n 2 dX1_tire_7 rfl rfl ?_
  refine g_iadd dX1_tire_8 rfl ?_
  refine g_iast dX1_tire_9 rfl (by decide) rfl rfl ?_
  refine g_aload_n 0 dX1_tire_10 rfl rfl ?_
  refine g_getR 81 0 82 rfl dX1_tire_11 rfl kkX1 flX1_9 (by decide) rfl rfl (by decide) rfl ?_
  refine g_iload_n 1 dX1_tire_14 rfl rfl ?_
  refine g_iald dX1_tire_15 rfl (by decide) rfl rfl ?_
  refine g_bipush dX1_tire_16 rfl kbi_100 ?_
  refine g_icmp_lt dX1_tire_18 rfl rfl ?_ ?_
  · exact g_vret dX1_tire_38 rfl rfl
  refine g_aload_n 0 dX1_tire_21 rfl rfl ?_
  refine g_getR 81 0 82 rfl dX1_tire_22 rfl kkX1 flX1_9 (by decide) rfl rfl (by decide) rfl ?_
  refine g_iload_n 1 dX1_tire_25 rfl rfl ?_
  refine g_iconst dX1_tire_26 rfl kic_0 ?_
  refine g_iast dX1_tire_27 rfl (by decide) rfl rfl ?_
  refine g_nmX (fun X1 => ?_)
  refine g_aload_n 0 dX1_tire_28 rfl rfl ?_
  refine g_getR 81 2 84 rfl dX1_tire_29 rfl kkX1 flX1_18 (by decide) rfl rfl (by decide) rfl ?_
  refine g_iconst dX1_tire_32 rfl kic_4 ?_
  refine g_dup2 dX1_tire_33 rfl rfl rfl ?_
  refine g_iald0 dX1_tire_34 rfl (by decide) rfl rfl (by decide) ?_
  refine g_iconst dX1_tire_35 rfl kic_1 ?_
  refine g_iadd dX1_tire_36 rfl ?_
  refine g_iast0 dX1_tire_37 rfl (by decide) rfl rfl (by decide) ?_
  refine g_nmX (fun X2 => ?_)
  exact g_vret dX1_tire_38 rfl rfl
def ded_swum_L9_B (n : Nat) (k65 : Int32 → St → Option (St)) (rec : Int32 → Int32 → Int32 → Int32 → Int32 → St → Option (St)) (v1 : Int32) (v3 : Int32) (v4 : Int32) (v5 : Int32) (v6 : Int32) (X : St) : Option (St) :=
(if v6 < (jmath_min v1 (8 : Int32)) then
((ded_tire v6 v5 X).bind fun X2 =>
(if (v4 &&& ((1 : Int32) <<< (v6 &&& 31))) = 0 then
(rec v1 v3 v4 v5 (v6 + (1 : Int32)) X2)
else
(if inB v6 8 then
(if inB v6 8 then
((some (stI (stI X2 83 (nx v6) ((X2.1 83 (nx v6)) + (1 : Int32))) 84 (nx (3 : Int32)) (((stI X2 83 (nx v6) ((X2.1 83 (nx v6)) + (1 : Int32))).1 84 (nx (3 : Int32))) + (1 : Int32)))).bind fun X3 =>
(rec v1 v3 v4 v5 (v6 + (1 : Int32)) X3)) else none) else none)))
else
(k65 v3 X))
def ded_swum_L9 (n : Nat) (k65 : Int32 → St → Option (St)) : Nat → Int32 → Int32 → Int32 → Int32 → Int32 → St → Option (St)
  | 0 => fun _ _ _ _ _ _ => none
  | w + 1 => ded_swum_L9_B n k65 (ded_swum_L9 n k65 w)
def ded_swum (n : Nat) (v1 : Int32) (v3 : Int32) (v4 : Int32) (X : St) : Option (St) :=
  ((rou_countsUnder n X).bind fun c1 =>
  (ded_swum_L9 n (fun v5 X4 =>
  ((some (stI X4 84 (nx (0 : Int32)) ((X4.1 84 (nx (0 : Int32))) + (1 : Int32)))).bind fun X6 =>
  ((some (stI X6 84 (nx (1 : Int32)) ((X6.1 84 (nx (1 : Int32))) + (rou_counts X6)))).bind fun X7 =>
  ((some (stI X7 84 (nx (2 : Int32)) ((X7.1 84 (nx (2 : Int32))) + v5))).bind fun X8 =>
  (some X8))))) n v1 v3 v4 c1 (0 : Int32) X))
theorem ded_swum_L9_Bg (q : Th) (n : Nat) (k65 : Int32 → St → Option (St)) (hk65 : ∀ v3 X, G q (mF q nX1_swum RX1 2) fvw 65 [(0, .ref (q.ad 81)), (2, .ref (q.ad 24)), (3, .int v3)] [] X (k65 v3 X)) (rec : Int32 → Int32 → Int32 → Int32 → Int32 → St → Option (St)) (hrec : ∀ v1 v3 v4 v5 v6 X, G q (mF q nX1_swum RX1 2) fvw 9 [(0, .ref (q.ad 81)), (1, .int v1), (2, .ref (q.ad 24)), (3, .int v3), (4, .int v4), (5, .int v5), (6, .int v6)] [] X (rec v1 v3 v4 v5 v6 X)) (v1 : Int32) (v3 : Int32) (v4 : Int32) (v5 : Int32) (v6 : Int32) (X : St) : G q (mF q nX1_swum RX1 2) fvw 9 [(0, .ref (q.ad 81)), (1, .int v1), (2, .ref (q.ad 24)), (3, .int v3), (4, .int v4), (5, .int v5), (6, .int v6)] [] X (ded_swum_L9_B n k65 rec v1 v3 v4 v5 v6 X) := by
  unfold ded_swum_L9_B
  refine g_iload 6 dX1_swum_9 rfl rfl ?_
  refine g_iload_n 1 dX1_swum_11 rfl rfl ?_
  refine g_bipush dX1_swum_12 rfl kbi_8 ?_
  refine g_mmin (st := [.int v6]) rfl dX1_swum_14 rfl lkX1_37 (rmL rfl rfl) (Nat.le_of_ble_eq_true rfl) ?_
  refine g_icmp_ge dX1_swum_17 rfl rfl ?_ ?_
  · refine g_aload_n 0 dX1_swum_20 rfl rfl ?_
    refine g_iload 6 dX1_swum_21 rfl rfl ?_
    refine g_iload 5 dX1_swum_23 rfl rfl ?_
    refine g_cVVw (As := [.int v6, .int v5]) (st := []) 2 mF_wg rfl dX1_swum_25 rfl kkX1 (by decide) rfl vX1_tire lkX1_43 (rmL rfl rfl) (ded_tire_c q v6 v5 X) rfl rfl (Nat.le_of_ble_eq_true rfl) (fun X2 => ?_)
    refine g_iload 4 dX1_swum_28 rfl rfl ?_
    refine g_iconst dX1_swum_30 rfl kic_1 ?_
    refine g_iload 6 dX1_swum_31 rfl rfl ?_
    refine g_ishl dX1_swum_33 rfl ?_
    refine g_iand dX1_swum_34 rfl ?_
    refine g_if_eq dX1_swum_35 rfl rfl ?_ ?_
    · refine g_inc (lv' := [(6, .int (v6 + (1 : Int32))), (0, .ref (q.ad 81)), (1, .int v1), (2, .ref (q.ad 24)), (3, .int v3), (4, .int v4), (5, .int v5)]) 6 dX1_swum_59 rfl rfl kic_1 (Nat.le_of_ble_eq_true rfl) rfl ?_
      refine g_goto dX1_swum_62 rfl ?_
      refine g_sub [1, 2, 3, 4, 5, 6, 0] rfl ?_
      exact hrec v1 v3 v4 v5 (v6 + (1 : Int32)) X2
    refine g_aload_n 0 dX1_swum_38 rfl rfl ?_
    refine g_getR 81 1 83 rfl dX1_swum_39 rfl kkX1 flX1_15 (by decide) rfl rfl (by decide) rfl ?_
    refine g_iload 6 dX1_swum_42 rfl rfl ?_
    refine g_dup2 dX1_swum_44 rfl rfl rfl ?_
    refine g_iald dX1_swum_45 rfl (by decide) rfl rfl ?_
    refine g_iconst dX1_swum_46 rfl kic_1 ?_
    refine g_iadd dX1_swum_47 rfl ?_
    refine g_iast dX1_swum_48 rfl (by decide) rfl rfl ?_
    refine g_aload_n 0 dX1_swum_49 rfl rfl ?_
    refine g_getR 81 2 84 rfl dX1_swum_50 rfl kkX1 flX1_18 (by decide) rfl rfl (by decide) rfl ?_
    refine g_iconst dX1_swum_53 rfl kic_3 ?_
    refine g_dup2 dX1_swum_54 rfl rfl rfl ?_
    refine g_iald0 dX1_swum_55 rfl (by decide) rfl rfl (by decide) ?_
    refine g_iconst dX1_swum_56 rfl kic_1 ?_
    refine g_iadd dX1_swum_57 rfl ?_
    refine g_iast0 dX1_swum_58 rfl (by decide) rfl rfl (by decide) ?_
    refine g_nmX (fun X3 => ?_)
    refine g_inc (lv' := [(6, .int (v6 + (1 : Int32))), (0, .ref (q.ad 81)), (1, .int v1), (2, .ref (q.ad 24)), (3, .int v3), (4, .int v4), (5, .int v5)]) 6 dX1_swum_59 rfl rfl kic_1 (Nat.le_of_ble_eq_true rfl) rfl ?_
    refine g_goto dX1_swum_62 rfl ?_
    refine g_sub [1, 2, 3, 4, 5, 6, 0] rfl ?_
    exact hrec v1 v3 v4 v5 (v6 + (1 : Int32)) X3
  refine g_sub [0, 2, 3] rfl ?_
  exact hk65 v3 X
theorem ded_swum_L9_g (q : Th) (n : Nat) (k65 : Int32 → St → Option (St)) (hk65 : ∀ v3 X, G q (mF q nX1_swum RX1 2) fvw 65 [(0, .ref (q.ad 81)), (2, .ref (q.ad 24)), (3, .int v3)] [] X (k65 v3 X)) : ∀ (w : Nat) (v1 : Int32) (v3 : Int32) (v4 : Int32) (v5 : Int32) (v6 : Int32) (X : St), G q (mF q nX1_swum RX1 2) fvw 9 [(0, .ref (q.ad 81)), (1, .int v1), (2, .ref (q.ad 24)), (3, .int v3), (4, .int v4), (5, .int v5), (6, .int v6)] [] X (ded_swum_L9 n k65 w v1 v3 v4 v5 v6 X) := by
  intro w
  induction w with
  | zero => intro v1 v3 v4 v5 v6 X; exact g_none
  | succ w ih => intro v1 v3 v4 v5 v6 X; exact ded_swum_L9_Bg q n k65 hk65 _ ih v1 v3 v4 v5 v6 X
theorem ded_swum_c (q : Th) (n : Nat) (v1 : Int32) (v3 : Int32) (v4 : Int32) (X : St) : Ct q nX1_swum 2 fvw [.ref (q.ad 81), .int v1, .ref (q.ad 24), .int v3, .int v4] X (ded_swum n v1 v3 v4 X) := by
  refine ct_of (by decide +kernel) (Nat.le_of_ble_eq_true rfl) ?_
  unfold ded_swum
  show G q _ _ 0 [(0, .ref (q.ad 81)), (1, .int v1), (2, .ref (q.ad 24)), (3, .int v3), (4, .int v4)] [] X _
  refine g_aload_n 2 dX1_swum_0 rfl rfl ?_
  refine g_cVIr (As := []) (st := []) 0 mF_wg rfl dX1_swum_1 rfl kkX6 (by decide) rfl vX6_countsUnder lkX1_31 (rmL rfl rfl) (rou_countsUnder_c q n X) rfl rfl (Nat.le_of_ble_eq_true rfl) (fun c1 => ?_)
  refine g_istore (lv' := [(5, .int c1), (0, .ref (q.ad 81)), (1, .int v1), (2, .ref (q.ad 24)), (3, .int v3), (4, .int v4)]) dX1_swum_4 rfl (Nat.le_of_ble_eq_true rfl) rfl ?_
  refine g_iconst dX1_swum_6 rfl kic_0 ?_
  refine g_istore (lv' := [(6, .int (0 : Int32)), (5, .int c1), (0, .ref (q.ad 81)), (1, .int v1), (2, .ref (q.ad 24)), (3, .int v3), (4, .int v4)]) dX1_swum_7 rfl (Nat.le_of_ble_eq_true rfl) rfl ?_
  refine g_sub [2, 3, 4, 5, 6, 1, 0] rfl ?_
  refine ded_swum_L9_g q n _ (fun v5 X4 => ?_) n v1 v3 v4 c1 (0 : Int32) X
  refine g_aload_n 0 dX1_swum_65 rfl rfl ?_
  refine g_getR 81 2 84 rfl dX1_swum_66 rfl kkX1 flX1_18 (by decide) rfl rfl (by decide) rfl ?_
  refine g_iconst dX1_swum_69 rfl kic_0 ?_
  refine g_dup2 dX1_swum_70 rfl rfl rfl ?_
  refine g_iald0 dX1_swum_71 rfl (by decide) rfl rfl (by decide) ?_
  refine g_iconst dX1_swum_72 rfl kic_1 ?_
  refine g_iadd dX1_swum_73 rfl ?_
  refine g_iast0 dX1_swum_74 rfl (by decide) rfl rfl (by decide) ?_
  refine g_nmX (fun X6 => ?_)
  refine g_aload_n 0 dX1_swum_75 rfl rfl ?_
  refine g_getR 81 2 84 rfl dX1_swum_76 rfl kkX1 flX1_18 (by decide) rfl rfl (by decide) rfl ?_
  refine g_iconst dX1_swum_79 rfl kic_1 ?_
  refine g_dup2 dX1_swum_80 rfl rfl rfl ?_
  refine g_iald0 dX1_swum_81 rfl (by decide) rfl rfl (by decide) ?_
  refine g_aload_n 1 dX1_swum_82 rfl rfl ?_
  refine g_cVIt (As := []) (st := [.int (X6.1 84 (nx (1 : Int32))), .int (1 : Int32), .ref (q.ad 84)]) 0 mF_wg rfl dX1_swum_83 rfl kkX6 (by decide) rfl vX6_counts lkX1_47 (rmL rfl rfl) (rou_counts_c q X6) rfl rfl (Nat.le_of_ble_eq_true rfl) ?_
  refine g_iadd dX1_swum_86 rfl ?_
  refine g_iast0 dX1_swum_87 rfl (by decide) rfl rfl (by decide) ?_
  refine g_nmX (fun X7 => ?_)
  refine g_aload_n 0 dX1_swum_88 rfl rfl ?_
  refine g_getR 81 2 84 rfl dX1_swum_89 rfl kkX1 flX1_18 (by decide) rfl rfl (by decide) rfl ?_
  refine g_iconst dX1_swum_92 rfl kic_2 ?_
  refine g_dup2 dX1_swum_93 rfl rfl rfl ?_
  refine g_iald0 dX1_swum_94 rfl (by decide) rfl rfl (by decide) ?_
  refine g_iload_n 2 dX1_swum_95 rfl rfl ?_
  refine g_iadd dX1_swum_96 rfl ?_
  refine g_iast0 dX1_swum_97 rfl (by decide) rfl rfl (by decide) ?_
  refine g_nmX (fun X8 => ?_)
  exact g_vret dX1_swum_98 rfl rfl
def ded_hasImage (X : St) : Option (Int32) :=
  (if isZ (X.1 81 6) then (some (X.1 81 6)) else none)
theorem ded_hasImage_c (q : Th) (X : St) : Ct q nX1_hasImage 0 (fir X) [.ref (q.ad 81)] X (ded_hasImage X) := by
  refine ct_of (by decide +kernel) (Nat.le_of_ble_eq_true rfl) ?_
  unfold ded_hasImage
  show G q _ _ 0 [(0, .ref (q.ad 81))] [] X _
  refine g_aload_n 0 dX1_hasImage_0 rfl rfl ?_
  refine g_getI 81 6 rfl dX1_hasImage_1 rfl kkX1 flX1_50 (by decide) rfl rfl (by decide) rfl ?_
  exact g_zretD dX1_hasImage_4 rfl rfl
def ded_keepImage (X : St) : Option (St) :=
  (if cpOk (0 : Int32) (0 : Int32) (8 : Int32) 8 8 then
  ((some (cpI X 82 (nx (0 : Int32)) 85 (nx (0 : Int32)) (nx (8 : Int32)))).bind fun X1 =>
  (if cpOk (0 : Int32) (0 : Int32) (8 : Int32) 8 8 then
  ((some (cpI X1 83 (nx (0 : Int32)) 86 (nx (0 : Int32)) (nx (8 : Int32)))).bind fun X2 =>
  (if cpOk (0 : Int32) (0 : Int32) (5 : Int32) 5 5 then
  ((some (cpI X2 84 (nx (0 : Int32)) 87 (nx (0 : Int32)) (nx (5 : Int32)))).bind fun X3 =>
  (some (stI X3 81 6 (1 : Int32)))) else none)) else none)) else none)
theorem ded_keepImage_c (q : Th) (X : St) : Ct q nX1_keepImage 2 fvw [.ref (q.ad 81)] X (ded_keepImage X) := by
  refine ct_of (by decide +kernel) (Nat.le_of_ble_eq_true rfl) ?_
  unfold ded_keepImage
  show G q _ _ 0 [(0, .ref (q.ad 81))] [] X _
  refine g_aload_n 0 dX1_keepImage_0 rfl rfl ?_
  refine g_getR 81 0 82 rfl dX1_keepImage_1 rfl kkX1 flX1_9 (by decide) rfl rfl (by decide) rfl ?_
  refine g_iconst dX1_keepImage_4 rfl kic_0 ?_
  refine g_aload_n 0 dX1_keepImage_5 rfl rfl ?_
  refine g_getR 81 3 85 rfl dX1_keepImage_6 rfl kkX1 flX1_21 (by decide) rfl rfl (by decide) rfl ?_
  refine g_iconst dX1_keepImage_9 rfl kic_0 ?_
  refine g_bipush dX1_keepImage_10 rfl kbi_8 ?_
  refine g_copyI (st := []) rfl dX1_keepImage_12 rfl lkX1_54 ac_nat ac_sta ac_ini (by decide) (by decide) rfl rfl rfl rfl (Nat.le_of_ble_eq_true rfl) (Nat.le_of_ble_eq_true rfl) ?_
  refine g_nmX (fun X1 => ?_)
  refine g_aload_n 0 dX1_keepImage_15 rfl rfl ?_
  refine g_getR 81 1 83 rfl dX1_keepImage_16 rfl kkX1 flX1_15 (by decide) rfl rfl (by decide) rfl ?_
  refine g_iconst dX1_keepImage_19 rfl kic_0 ?_
  refine g_aload_n 0 dX1_keepImage_20 rfl rfl ?_
  refine g_getR 81 4 86 rfl dX1_keepImage_21 rfl kkX1 flX1_24 (by decide) rfl rfl (by decide) rfl ?_
  refine g_iconst dX1_keepImage_24 rfl kic_0 ?_
  refine g_bipush dX1_keepImage_25 rfl kbi_8 ?_
  refine g_copyI (st := []) rfl dX1_keepImage_27 rfl lkX1_54 ac_nat ac_sta ac_ini (by decide) (by decide) rfl rfl rfl rfl (Nat.le_of_ble_eq_true rfl) (Nat.le_of_ble_eq_true rfl) ?_
  refine g_nmX (fun X2 => ?_)
  refine g_aload_n 0 dX1_keepImage_30 rfl rfl ?_
  refine g_getR 81 2 84 rfl dX1_keepImage_31 rfl kkX1 flX1_18 (by decide) rfl rfl (by decide) rfl ?_
  refine g_iconst dX1_keepImage_34 rfl kic_0 ?_
  refine g_aload_n 0 dX1_keepImage_35 rfl rfl ?_
  refine g_getR 81 5 87 rfl dX1_keepImage_36 rfl kkX1 flX1_27 (by decide) rfl rfl (by decide) rfl ?_
  refine g_iconst dX1_keepImage_39 rfl kic_0 ?_
  refine g_iconst dX1_keepImage_40 rfl kic_5 ?_
  refine g_copyI (st := []) rfl dX1_keepImage_41 rfl lkX1_54 ac_nat ac_sta ac_ini (by decide) (by decide) rfl rfl rfl rfl (Nat.le_of_ble_eq_true rfl) (Nat.le_of_ble_eq_true rfl) ?_
  refine g_nmX (fun X3 => ?_)
  refine g_aload_n 0 dX1_keepImage_44 rfl rfl ?_
  refine g_iconst dX1_keepImage_45 rfl kic_1 ?_
  refine g_putC (t := .boolean) 81 6 rfl dX1_keepImage_46 rfl kkX1 flX1_50 (by decide) rfl rfl (by decide) rfl rfl (by decide +kernel) rfl rfl ?_
  exact g_vret dX1_keepImage_49 rfl rfl
def ded_layBack (X : St) : Option (St) :=
  (if cpOk (0 : Int32) (0 : Int32) (8 : Int32) 8 8 then
  ((some (cpI X 85 (nx (0 : Int32)) 82 (nx (0 : Int32)) (nx (8 : Int32)))).bind fun X1 =>
  (if cpOk (0 : Int32) (0 : Int32) (8 : Int32) 8 8 then
  ((some (cpI X1 86 (nx (0 : Int32)) 83 (nx (0 : Int32)) (nx (8 : Int32)))).bind fun X2 =>
  (if cpOk (0 : Int32) (0 : Int32) (5 : Int32) 5 5 then
  ((some (cpI X2 87 (nx (0 : Int32)) 84 (nx (0 : Int32)) (nx (5 : Int32)))).bind fun X3 =>
  (some X3)) else none)) else none)) else none)
theorem ded_layBack_c (q : Th) (X : St) : Ct q nX1_layBack 2 fvw [.ref (q.ad 81)] X (ded_layBack X) := by
  refine ct_of (by decide +kernel) (Nat.le_of_ble_eq_true rfl) ?_
  unfold ded_layBack
  show G q _ _ 0 [(0, .ref (q.ad 81))] [] X _
  refine g_aload_n 0 dX1_layBack_0 rfl rfl ?_
  refine g_getR 81 3 85 rfl dX1_layBack_1 rfl kkX1 flX1_21 (by decide) rfl rfl (by decide) rfl ?_
  refine g_iconst dX1_layBack_4 rfl kic_0 ?_
  refine g_aload_n 0 dX1_layBack_5 rfl rfl ?_
  refine g_getR 81 0 82 rfl dX1_layBack_6 rfl kkX1 flX1_9 (by decide) rfl rfl (by decide) rfl ?_
  refine g_iconst dX1_layBack_9 rfl kic_0 ?_
  refine g_bipush dX1_layBack_10 rfl kbi_8 ?_
  refine g_copyI (st := []) rfl dX1_layBack_12 rfl lkX1_54 ac_nat ac_sta ac_ini (by decide) (by decide) rfl rfl rfl rfl (Nat.le_of_ble_eq_true rfl) (Nat.le_of_ble_eq_true rfl) ?_
  refine g_nmX (fun X1 => ?_)
  refine g_aload_n 0 dX1_layBack_15 rfl rfl ?_
  refine g_getR 81 4 86 rfl dX1_layBack_16 rfl kkX1 flX1_24 (by decide) rfl rfl (by decide) rfl ?_
  refine g_iconst dX1_layBack_19 rfl kic_0 ?_
  refine g_aload_n 0 dX1_layBack_20 rfl rfl ?_
  refine g_getR 81 1 83 rfl dX1_layBack_21 rfl kkX1 flX1_15 (by decide) rfl rfl (by decide) rfl ?_
  refine g_iconst dX1_layBack_24 rfl kic_0 ?_
  refine g_bipush dX1_layBack_25 rfl kbi_8 ?_
  refine g_copyI (st := []) rfl dX1_layBack_27 rfl lkX1_54 ac_nat ac_sta ac_ini (by decide) (by decide) rfl rfl rfl rfl (Nat.le_of_ble_eq_true rfl) (Nat.le_of_ble_eq_true rfl) ?_
  refine g_nmX (fun X2 => ?_)
  refine g_aload_n 0 dX1_layBack_30 rfl rfl ?_
  refine g_getR 81 5 87 rfl dX1_layBack_31 rfl kkX1 flX1_27 (by decide) rfl rfl (by decide) rfl ?_
  refine g_iconst dX1_layBack_34 rfl kic_0 ?_
  refine g_aload_n 0 dX1_layBack_35 rfl rfl ?_
  refine g_getR 81 2 84 rfl dX1_layBack_36 rfl kkX1 flX1_18 (by decide) rfl rfl (by decide) rfl ?_
  refine g_iconst dX1_layBack_39 rfl kic_0 ?_
  refine g_iconst dX1_layBack_40 rfl kic_5 ?_
  refine g_copyI (st := []) rfl dX1_layBack_41 rfl lkX1_54 ac_nat ac_sta ac_ini (by decide) (by decide) rfl rfl rfl rfl (Nat.le_of_ble_eq_true rfl) (Nat.le_of_ble_eq_true rfl) ?_
  refine g_nmX (fun X3 => ?_)
  exact g_vret dX1_layBack_44 rfl rfl
