/-! 17.chg: what the methods come to, and that they do -/
def chg_done (X : St) : Int32 :=
  ((X.1 12 5))
def chg_done_o (X : St) : Option Int32 :=
  (some (X.1 12 5))
theorem chg_done_e (X : St) : chg_done_o X = some (chg_done X) := rfl
theorem chg_done_c (q : Th) (X : St) : Ct q nX0_done 0 (fir X) [.ref (q.ad 12)] X (some (chg_done X)) := by
  refine ct_of (by decide +kernel) (Nat.le_of_ble_eq_true rfl) ?_
  rw [← chg_done_e]
  unfold chg_done_o
  show G q _ _ 0 [(0, .ref (q.ad 12))] [] X _
  refine g_aload_n 0 dX0_done_0 rfl rfl ?_
  refine g_getI 12 5 rfl dX0_done_1 rfl kkX0 flX0_26 (by decide) rfl rfl (by decide) rfl ?_
  exact g_iret dX0_done_4 rfl rfl
def chg_undone (X : St) : Int32 :=
  (((X.1 12 6) - (X.1 12 5)))
def chg_undone_o (X : St) : Option Int32 :=
  (some ((X.1 12 6) - (X.1 12 5)))
theorem chg_undone_e (X : St) : chg_undone_o X = some (chg_undone X) := rfl
theorem chg_undone_c (q : Th) (X : St) : Ct q nX0_undone 0 (fir X) [.ref (q.ad 12)] X (some (chg_undone X)) := by
  refine ct_of (by decide +kernel) (Nat.le_of_ble_eq_true rfl) ?_
  rw [← chg_undone_e]
  unfold chg_undone_o
  show G q _ _ 0 [(0, .ref (q.ad 12))] [] X _
  refine g_aload_n 0 dX0_undone_0 rfl rfl ?_
  refine g_getI 12 6 rfl dX0_undone_1 rfl kkX0 flX0_30 (by decide) rfl rfl (by decide) rfl ?_
  refine g_aload_n 0 dX0_undone_4 rfl rfl ?_
  refine g_getI 12 5 rfl dX0_undone_5 rfl kkX0 flX0_26 (by decide) rfl rfl (by decide) rfl ?_
  refine g_isub dX0_undone_8 rfl ?_
  exact g_iret dX0_undone_9 rfl rfl
def chg_forgetOldest_L2_B (n : Nat) (rec : Int32 → St → Option (St)) (v1 : Int32) (X : St) : Option (St) :=
(if v1 < (40 : Int32) then
(if inB v1 40 then
(if inB (v1 - (1 : Int32)) 40 then
(if inB v1 40 then
(if inB (v1 - (1 : Int32)) 40 then
((some (stI (stI X 13 (nx (v1 - (1 : Int32))) (X.1 13 (nx v1))) 14 (nx (v1 - (1 : Int32))) ((stI X 13 (nx (v1 - (1 : Int32))) (X.1 13 (nx v1))).1 14 (nx v1)))).bind fun X1 =>
(if inB v1 40 then
(if inB (v1 - (1 : Int32)) 40 then
(if inB v1 40 then
(if inB (v1 - (1 : Int32)) 40 then
((some (stI (stI X1 15 (nx (v1 - (1 : Int32))) (X1.1 15 (nx v1))) 16 (nx (v1 - (1 : Int32))) ((stI X1 15 (nx (v1 - (1 : Int32))) (X1.1 15 (nx v1))).1 16 (nx v1)))).bind fun X2 =>
(rec (v1 + (1 : Int32)) X2)) else none) else none) else none) else none)) else none) else none) else none) else none)
else
(some (stI X 12 5 ((X.1 12 5) - (1 : Int32)))))
def chg_forgetOldest_L2 (n : Nat) : Nat → Int32 → St → Option (St)
  | 0 => fun _ _ => none
  | w + 1 => chg_forgetOldest_L2_B n (chg_forgetOldest_L2 n w)
def chg_forgetOldest (n : Nat) (X : St) : Option (St) :=
  (chg_forgetOldest_L2 n n (1 : Int32) X)
theorem chg_forgetOldest_L2_Bg (q : Th) (n : Nat) (rec : Int32 → St → Option (St)) (hrec : ∀ v1 X, G q (mF q nX0_forgetOldest RX0 0) fvw 2 [(0, .ref (q.ad 12)), (1, .int v1)] [] X (rec v1 X)) (v1 : Int32) (X : St) : G q (mF q nX0_forgetOldest RX0 0) fvw 2 [(0, .ref (q.ad 12)), (1, .int v1)] [] X (chg_forgetOldest_L2_B n rec v1 X) := by
  unfold chg_forgetOldest_L2_B
  refine g_iload_n 1 dX0_forgetOldest_2 rfl rfl ?_
  refine g_bipush dX0_forgetOldest_3 rfl kbi_40 ?_
  refine g_icmp_ge dX0_forgetOldest_5 rfl rfl ?_ ?_
  · refine g_aload_n 0 dX0_forgetOldest_8 rfl rfl ?_
    refine g_getR 12 1 13 rfl dX0_forgetOldest_9 rfl kkX0 flX0_9 (by decide) rfl rfl (by decide) rfl ?_
    refine g_iload_n 1 dX0_forgetOldest_12 rfl rfl ?_
    refine g_iconst dX0_forgetOldest_13 rfl kic_1 ?_
    refine g_isub dX0_forgetOldest_14 rfl ?_
    refine g_aload_n 0 dX0_forgetOldest_15 rfl rfl ?_
    refine g_getR 12 1 13 rfl dX0_forgetOldest_16 rfl kkX0 flX0_9 (by decide) rfl rfl (by decide) rfl ?_
    refine g_iload_n 1 dX0_forgetOldest_19 rfl rfl ?_
    refine g_iald dX0_forgetOldest_20 rfl (by decide) rfl rfl ?_
    refine g_iast dX0_forgetOldest_21 rfl (by decide) rfl rfl ?_
    refine g_aload_n 0 dX0_forgetOldest_22 rfl rfl ?_
    refine g_getR 12 2 14 rfl dX0_forgetOldest_23 rfl kkX0 flX0_13 (by decide) rfl rfl (by decide) rfl ?_
    refine g_iload_n 1 dX0_forgetOldest_26 rfl rfl ?_
    refine g_iconst dX0_forgetOldest_27 rfl kic_1 ?_
    refine g_isub dX0_forgetOldest_28 rfl ?_
    refine g_aload_n 0 dX0_forgetOldest_29 rfl rfl ?_
    refine g_getR 12 2 14 rfl dX0_forgetOldest_30 rfl kkX0 flX0_13 (by decide) rfl rfl (by decide) rfl ?_
    refine g_iload_n 1 dX0_forgetOldest_33 rfl rfl ?_
    refine g_iald dX0_forgetOldest_34 rfl (by decide) rfl rfl ?_
    refine g_iast dX0_forgetOldest_35 rfl (by decide) rfl rfl ?_
    refine g_nmX (fun X1 => ?_)
    refine g_aload_n 0 dX0_forgetOldest_36 rfl rfl ?_
    refine g_getR 12 3 15 rfl dX0_forgetOldest_37 rfl kkX0 flX0_16 (by decide) rfl rfl (by decide) rfl ?_
    refine g_iload_n 1 dX0_forgetOldest_40 rfl rfl ?_
    refine g_iconst dX0_forgetOldest_41 rfl kic_1 ?_
    refine g_isub dX0_forgetOldest_42 rfl ?_
    refine g_aload_n 0 dX0_forgetOldest_43 rfl rfl ?_
    refine g_getR 12 3 15 rfl dX0_forgetOldest_44 rfl kkX0 flX0_16 (by decide) rfl rfl (by decide) rfl ?_
    refine g_iload_n 1 dX0_forgetOldest_47 rfl rfl ?_
    refine g_iald dX0_forgetOldest_48 rfl (by decide) rfl rfl ?_
    refine g_iast dX0_forgetOldest_49 rfl (by decide) rfl rfl ?_
    refine g_aload_n 0 dX0_forgetOldest_50 rfl rfl ?_
    refine g_getR 12 4 16 rfl dX0_forgetOldest_51 rfl kkX0 flX0_19 (by decide) rfl rfl (by decide) rfl ?_
    refine g_iload_n 1 dX0_forgetOldest_54 rfl rfl ?_
    refine g_iconst dX0_forgetOldest_55 rfl kic_1 ?_
    refine g_isub dX0_forgetOldest_56 rfl ?_
    refine g_aload_n 0 dX0_forgetOldest_57 rfl rfl ?_
    refine g_getR 12 4 16 rfl dX0_forgetOldest_58 rfl kkX0 flX0_19 (by decide) rfl rfl (by decide) rfl ?_
    refine g_iload_n 1 dX0_forgetOldest_61 rfl rfl ?_
    refine g_iald dX0_forgetOldest_62 rfl (by decide) rfl rfl ?_
    refine g_iast dX0_forgetOldest_63 rfl (by decide) rfl rfl ?_
    refine g_nmX (fun X2 => ?_)
    refine g_inc (lv' := [(1, .int (v1 + (1 : Int32))), (0, .ref (q.ad 12))]) 1 dX0_forgetOldest_64 rfl rfl kic_1 (Nat.le_of_ble_eq_true rfl) rfl ?_
    refine g_goto dX0_forgetOldest_67 rfl ?_
    refine g_sub [1, 0] rfl ?_
    exact hrec (v1 + (1 : Int32)) X2
  refine g_aload_n 0 dX0_forgetOldest_70 rfl rfl ?_
  refine g_dup dX0_forgetOldest_71 rfl rfl ?_
  refine g_getI 12 5 rfl dX0_forgetOldest_72 rfl kkX0 flX0_26 (by decide) rfl rfl (by decide) rfl ?_
  refine g_iconst dX0_forgetOldest_75 rfl kic_1 ?_
  refine g_isub dX0_forgetOldest_76 rfl ?_
  refine g_putI 12 5 rfl dX0_forgetOldest_77 rfl kkX0 flX0_26 (by decide) rfl rfl (by decide) rfl rfl rfl ?_
  exact g_vret dX0_forgetOldest_80 rfl rfl
theorem chg_forgetOldest_L2_g (q : Th) (n : Nat) : ∀ (w : Nat) (v1 : Int32) (X : St), G q (mF q nX0_forgetOldest RX0 0) fvw 2 [(0, .ref (q.ad 12)), (1, .int v1)] [] X (chg_forgetOldest_L2 n w v1 X) := by
  intro w
  induction w with
  | zero => intro v1 X; exact g_none
  | succ w ih => intro v1 X; exact chg_forgetOldest_L2_Bg q n _ ih v1 X
theorem chg_forgetOldest_c (q : Th) (n : Nat) (X : St) : Ct q nX0_forgetOldest 0 fvw [.ref (q.ad 12)] X (chg_forgetOldest n X) := by
  refine ct_of (by decide +kernel) (Nat.le_of_ble_eq_true rfl) ?_
  unfold chg_forgetOldest
  show G q _ _ 0 [(0, .ref (q.ad 12))] [] X _
  refine g_iconst dX0_forgetOldest_0 rfl kic_1 ?_
  refine g_istore_n (lv' := [(1, .int (1 : Int32)), (0, .ref (q.ad 12))]) dX0_forgetOldest_1 rfl rfl (Nat.le_of_ble_eq_true rfl) rfl ?_
  refine g_sub [1, 0] rfl ?_
  refine chg_forgetOldest_L2_g q n n (1 : Int32) X
def chg_tell_J31 (n : Nat) (v1 : Int32) (v2 : Int32) (v3 : Int32) (v4 : Int32) (X : St) : Option (St) :=
(if inB (X.1 12 5) 40 then
(if inB ((stI X 13 (nx (X.1 12 5)) v1).1 12 5) 40 then
((some (stI (stI X 13 (nx (X.1 12 5)) v1) 14 (nx ((stI X 13 (nx (X.1 12 5)) v1).1 12 5)) v2)).bind fun X3 =>
(if inB (X3.1 12 5) 40 then
(if inB ((stI X3 15 (nx (X3.1 12 5)) v4).1 12 5) 40 then
((some (stI (stI X3 15 (nx (X3.1 12 5)) v4) 16 (nx ((stI X3 15 (nx (X3.1 12 5)) v4).1 12 5)) v3)).bind fun X4 =>
((some (stI (stI X4 12 5 ((X4.1 12 5) + (1 : Int32))) 12 6 ((stI X4 12 5 ((X4.1 12 5) + (1 : Int32))).1 12 5))).bind fun X5 =>
((poo_tell v1 v2 v3 X5).bind fun X6 =>
(some X6)))) else none) else none)) else none) else none)
def chg_tell (n : Nat) (v1 : Int32) (v2 : Int32) (v3 : Int32) (X : St) : Option (St) :=
  ((poo_told v1 v2 X).bind fun c1 =>
  (if c1 = v3 then
  (some X)
  else
  (if (X.1 12 5) = (40 : Int32) then
  ((chg_forgetOldest n X).bind fun X2 =>
  (chg_tell_J31 n v1 v2 v3 c1 X2))
  else
  (chg_tell_J31 n v1 v2 v3 c1 X))))
theorem chg_tell_J31_g (q : Th) (n : Nat) (v1 : Int32) (v2 : Int32) (v3 : Int32) (v4 : Int32) (X : St) : G q (mF q nX0_tell RX0 2) fvw 31 [(0, .ref (q.ad 12)), (1, .int v1), (2, .int v2), (3, .int v3), (4, .int v4)] [] X (chg_tell_J31 n v1 v2 v3 v4 X) := by
  unfold chg_tell_J31
  refine g_aload_n 0 dX0_tell_31 rfl rfl ?_
  refine g_getR 12 1 13 rfl dX0_tell_32 rfl kkX0 flX0_9 (by decide) rfl rfl (by decide) rfl ?_
  refine g_aload_n 0 dX0_tell_35 rfl rfl ?_
  refine g_getI 12 5 rfl dX0_tell_36 rfl kkX0 flX0_26 (by decide) rfl rfl (by decide) rfl ?_
  refine g_iload_n 1 dX0_tell_39 rfl rfl ?_
  refine g_iast dX0_tell_40 rfl (by decide) rfl rfl ?_
  refine g_aload_n 0 dX0_tell_41 rfl rfl ?_
  refine g_getR 12 2 14 rfl dX0_tell_42 rfl kkX0 flX0_13 (by decide) rfl rfl (by decide) rfl ?_
  refine g_aload_n 0 dX0_tell_45 rfl rfl ?_
  refine g_getI 12 5 rfl dX0_tell_46 rfl kkX0 flX0_26 (by decide) rfl rfl (by decide) rfl ?_
  refine g_iload_n 2 dX0_tell_49 rfl rfl ?_
  refine g_iast dX0_tell_50 rfl (by decide) rfl rfl ?_
  refine g_nmX (fun X3 => ?_)
  refine g_aload_n 0 dX0_tell_51 rfl rfl ?_
  refine g_getR 12 3 15 rfl dX0_tell_52 rfl kkX0 flX0_16 (by decide) rfl rfl (by decide) rfl ?_
  refine g_aload_n 0 dX0_tell_55 rfl rfl ?_
  refine g_getI 12 5 rfl dX0_tell_56 rfl kkX0 flX0_26 (by decide) rfl rfl (by decide) rfl ?_
  refine g_iload 4 dX0_tell_59 rfl rfl ?_
  refine g_iast dX0_tell_61 rfl (by decide) rfl rfl ?_
  refine g_aload_n 0 dX0_tell_62 rfl rfl ?_
  refine g_getR 12 4 16 rfl dX0_tell_63 rfl kkX0 flX0_19 (by decide) rfl rfl (by decide) rfl ?_
  refine g_aload_n 0 dX0_tell_66 rfl rfl ?_
  refine g_getI 12 5 rfl dX0_tell_67 rfl kkX0 flX0_26 (by decide) rfl rfl (by decide) rfl ?_
  refine g_iload_n 3 dX0_tell_70 rfl rfl ?_
  refine g_iast dX0_tell_71 rfl (by decide) rfl rfl ?_
  refine g_nmX (fun X4 => ?_)
  refine g_aload_n 0 dX0_tell_72 rfl rfl ?_
  refine g_dup dX0_tell_73 rfl rfl ?_
  refine g_getI 12 5 rfl dX0_tell_74 rfl kkX0 flX0_26 (by decide) rfl rfl (by decide) rfl ?_
  refine g_iconst dX0_tell_77 rfl kic_1 ?_
  refine g_iadd dX0_tell_78 rfl ?_
  refine g_putI 12 5 rfl dX0_tell_79 rfl kkX0 flX0_26 (by decide) rfl rfl (by decide) rfl rfl rfl ?_
  refine g_aload_n 0 dX0_tell_82 rfl rfl ?_
  refine g_aload_n 0 dX0_tell_83 rfl rfl ?_
  refine g_getI 12 5 rfl dX0_tell_84 rfl kkX0 flX0_26 (by decide) rfl rfl (by decide) rfl ?_
  refine g_putI 12 6 rfl dX0_tell_87 rfl kkX0 flX0_30 (by decide) rfl rfl (by decide) rfl rfl rfl ?_
  refine g_nmX (fun X5 => ?_)
  refine g_aload_n 0 dX0_tell_90 rfl rfl ?_
  refine g_getR 12 0 1 rfl dX0_tell_91 rfl kkX0 flX0_22 (by decide) rfl rfl (by decide) rfl ?_
  refine g_iload_n 1 dX0_tell_94 rfl rfl ?_
  refine g_iload_n 2 dX0_tell_95 rfl rfl ?_
  refine g_iload_n 3 dX0_tell_96 rfl rfl ?_
  refine g_cVVw (As := [.int v1, .int v2, .int v3]) (st := []) 3 mF_wg rfl dX0_tell_97 rfl kkX5 (by decide) rfl vX5_tell lkX0_42 (rmL rfl rfl) (poo_tell_c q v1 v2 v3 X5) rfl rfl (Nat.le_of_ble_eq_true rfl) (fun X6 => ?_)
  exact g_vret dX0_tell_100 rfl rfl
theorem chg_tell_c (q : Th) (n : Nat) (v1 : Int32) (v2 : Int32) (v3 : Int32) (X : St) : Ct q nX0_tell 2 fvw [.ref (q.ad 12), .int v1, .int v2, .int v3] X (chg_tell n v1 v2 v3 X) := by
  refine ct_of (by decide +kernel) (Nat.le_of_ble_eq_true rfl) ?_
  unfold chg_tell
  show G q _ _ 0 [(0, .ref (q.ad 12)), (1, .int v1), (2, .int v2), (3, .int v3)] [] X _
  refine g_aload_n 0 dX0_tell_0 rfl rfl ?_
  refine g_getR 12 0 1 rfl dX0_tell_1 rfl kkX0 flX0_22 (by decide) rfl rfl (by decide) rfl ?_
  refine g_iload_n 1 dX0_tell_4 rfl rfl ?_
  refine g_iload_n 2 dX0_tell_5 rfl rfl ?_
  refine g_cVIr (As := [.int v1, .int v2]) (st := []) 2 mF_wg rfl dX0_tell_6 rfl kkX5 (by decide) rfl vX5_told lkX0_33 (rmL rfl rfl) (poo_told_c q v1 v2 X) rfl rfl (Nat.le_of_ble_eq_true rfl) (fun c1 => ?_)
  refine g_istore (lv' := [(4, .int c1), (0, .ref (q.ad 12)), (1, .int v1), (2, .int v2), (3, .int v3)]) dX0_tell_9 rfl (Nat.le_of_ble_eq_true rfl) rfl ?_
  refine g_iload 0 dX0_tell_11 rfl rfl ?_
  refine g_iload_n 4 dX0_tell_13 rfl rfl ?_
  refine g_icmp_ne dX0_tell_14 rfl rfl ?_ ?_
  · exact g_vret dX0_tell_17 rfl rfl
  refine g_aload_n 1 dX0_tell_18 rfl rfl ?_
  refine g_getI 12 5 rfl dX0_tell_19 rfl kkX0 flX0_26 (by decide) rfl rfl (by decide) rfl ?_
  refine g_bipush dX0_tell_22 rfl kbi_40 ?_
  refine g_icmp_ne dX0_tell_24 rfl rfl ?_ ?_
  · refine g_aload_n 1 dX0_tell_27 rfl rfl ?_
    refine g_cVVw (As := []) (st := []) 0 mF_wg rfl dX0_tell_28 rfl kkX0 (by decide) rfl vX0_forgetOldest lkX0_39 (rmL rfl rfl) (chg_forgetOldest_c q n X) rfl rfl (Nat.le_of_ble_eq_true rfl) (fun X2 => ?_)
    refine g_sub [1, 2, 3, 4, 0] rfl ?_
    exact chg_tell_J31_g q n v1 v2 v3 c1 X2
  refine g_sub [1, 2, 3, 4, 0] rfl ?_
  exact chg_tell_J31_g q n v1 v2 v3 c1 X
def chg_takeBack (X : St) : Option (Int32 × St) :=
  (if 0 < (X.1 12 5) then
  (if inB ((stI X 12 5 ((X.1 12 5) - (1 : Int32))).1 12 5) 40 then
  (if inB ((stI X 12 5 ((X.1 12 5) - (1 : Int32))).1 12 5) 40 then
  (if inB ((stI X 12 5 ((X.1 12 5) - (1 : Int32))).1 12 5) 40 then
  ((poo_tell ((stI X 12 5 ((X.1 12 5) - (1 : Int32))).1 13 (nx ((stI X 12 5 ((X.1 12 5) - (1 : Int32))).1 12 5))) ((stI X 12 5 ((X.1 12 5) - (1 : Int32))).1 14 (nx ((stI X 12 5 ((X.1 12 5) - (1 : Int32))).1 12 5))) ((stI X 12 5 ((X.1 12 5) - (1 : Int32))).1 15 (nx ((stI X 12 5 ((X.1 12 5) - (1 : Int32))).1 12 5))) (stI X 12 5 ((X.1 12 5) - (1 : Int32)))).bind fun X1 =>
  (some ((1 : Int32), X1))) else none) else none) else none)
  else
  (some ((0 : Int32), X)))
theorem chg_takeBack_c (q : Th) (X : St) : Ct q nX0_takeBack 2 fiw [.ref (q.ad 12)] X (chg_takeBack X) := by
  refine ct_of (by decide +kernel) (Nat.le_of_ble_eq_true rfl) ?_
  unfold chg_takeBack
  show G q _ _ 0 [(0, .ref (q.ad 12))] [] X _
  refine g_aload_n 0 dX0_takeBack_0 rfl rfl ?_
  refine g_getI 12 5 rfl dX0_takeBack_1 rfl kkX0 flX0_26 (by decide) rfl rfl (by decide) rfl ?_
  refine g_if_gt dX0_takeBack_4 rfl rfl ?_ ?_
  · refine g_aload_n 0 dX0_takeBack_9 rfl rfl ?_
    refine g_dup dX0_takeBack_10 rfl rfl ?_
    refine g_getI 12 5 rfl dX0_takeBack_11 rfl kkX0 flX0_26 (by decide) rfl rfl (by decide) rfl ?_
    refine g_iconst dX0_takeBack_14 rfl kic_1 ?_
    refine g_isub dX0_takeBack_15 rfl ?_
    refine g_putI 12 5 rfl dX0_takeBack_16 rfl kkX0 flX0_26 (by decide) rfl rfl (by decide) rfl rfl rfl ?_
    refine g_aload_n 0 dX0_takeBack_19 rfl rfl ?_
    refine g_getR 12 0 1 rfl dX0_takeBack_20 rfl kkX0 flX0_22 (by decide) rfl rfl (by decide) rfl ?_
    refine g_aload_n 0 dX0_takeBack_23 rfl rfl ?_
    refine g_getR 12 1 13 rfl dX0_takeBack_24 rfl kkX0 flX0_9 (by decide) rfl rfl (by decide) rfl ?_
    refine g_aload_n 0 dX0_takeBack_27 rfl rfl ?_
    refine g_getI 12 5 rfl dX0_takeBack_28 rfl kkX0 flX0_26 (by decide) rfl rfl (by decide) rfl ?_
    refine g_iald dX0_takeBack_31 rfl (by decide) rfl rfl ?_
    refine g_aload_n 0 dX0_takeBack_32 rfl rfl ?_
    refine g_getR 12 2 14 rfl dX0_takeBack_33 rfl kkX0 flX0_13 (by decide) rfl rfl (by decide) rfl ?_
    refine g_aload_n 0 dX0_takeBack_36 rfl rfl ?_
    refine g_getI 12 5 rfl dX0_takeBack_37 rfl kkX0 flX0_26 (by decide) rfl rfl (by decide) rfl ?_
    refine g_iald dX0_takeBack_40 rfl (by decide) rfl rfl ?_
    refine g_aload_n 0 dX0_takeBack_41 rfl rfl ?_
    refine g_getR 12 3 15 rfl dX0_takeBack_42 rfl kkX0 flX0_16 (by decide) rfl rfl (by decide) rfl ?_
    refine g_aload_n 0 dX0_takeBack_45 rfl rfl ?_
    refine g_getI 12 5 rfl dX0_takeBack_46 rfl kkX0 flX0_26 (by decide) rfl rfl (by decide) rfl ?_
    refine g_iald dX0_takeBack_49 rfl (by decide) rfl rfl ?_
    refine g_cVVw (As := [.int ((stI X 12 5 ((X.1 12 5) - (1 : Int32))).1 13 (nx ((stI X 12 5 ((X.1 12 5) - (1 : Int32))).1 12 5))), .int ((stI X 12 5 ((X.1 12 5) - (1 : Int32))).1 14 (nx ((stI X 12 5 ((X.1 12 5) - (1 : Int32))).1 12 5))), .int ((stI X 12 5 ((X.1 12 5) - (1 : Int32))).1 15 (nx ((stI X 12 5 ((X.1 12 5) - (1 : Int32))).1 12 5)))]) (st := []) 3 mF_wg rfl dX0_takeBack_50 rfl kkX5 (by decide) rfl vX5_tell lkX0_42 (rmL rfl rfl) (poo_tell_c q ((stI X 12 5 ((X.1 12 5) - (1 : Int32))).1 13 (nx ((stI X 12 5 ((X.1 12 5) - (1 : Int32))).1 12 5))) ((stI X 12 5 ((X.1 12 5) - (1 : Int32))).1 14 (nx ((stI X 12 5 ((X.1 12 5) - (1 : Int32))).1 12 5))) ((stI X 12 5 ((X.1 12 5) - (1 : Int32))).1 15 (nx ((stI X 12 5 ((X.1 12 5) - (1 : Int32))).1 12 5))) (stI X 12 5 ((X.1 12 5) - (1 : Int32)))) rfl rfl (Nat.le_of_ble_eq_true rfl) (fun X1 => ?_)
    refine g_iconst dX0_takeBack_53 rfl kic_1 ?_
    exact g_zret dX0_takeBack_54 rfl rfl rfl
  refine g_iconst dX0_takeBack_7 rfl kic_0 ?_
  exact g_zret dX0_takeBack_8 rfl rfl rfl
def chg_doAgain (X : St) : Option (Int32 × St) :=
  (if (X.1 12 5) < (X.1 12 6) then
  (if inB (X.1 12 5) 40 then
  (if inB (X.1 12 5) 40 then
  (if inB (X.1 12 5) 40 then
  ((poo_tell (X.1 13 (nx (X.1 12 5))) (X.1 14 (nx (X.1 12 5))) (X.1 16 (nx (X.1 12 5))) X).bind fun X1 =>
  (some ((1 : Int32), (stI X1 12 5 ((X1.1 12 5) + (1 : Int32)))))) else none) else none) else none)
  else
  (some ((0 : Int32), X)))
theorem chg_doAgain_c (q : Th) (X : St) : Ct q nX0_doAgain 2 fiw [.ref (q.ad 12)] X (chg_doAgain X) := by
  refine ct_of (by decide +kernel) (Nat.le_of_ble_eq_true rfl) ?_
  unfold chg_doAgain
  show G q _ _ 0 [(0, .ref (q.ad 12))] [] X _
  refine g_aload_n 0 dX0_doAgain_0 rfl rfl ?_
  refine g_getI 12 5 rfl dX0_doAgain_1 rfl kkX0 flX0_26 (by decide) rfl rfl (by decide) rfl ?_
  refine g_aload_n 0 dX0_doAgain_4 rfl rfl ?_
  refine g_getI 12 6 rfl dX0_doAgain_5 rfl kkX0 flX0_30 (by decide) rfl rfl (by decide) rfl ?_
  refine g_icmp_lt dX0_doAgain_8 rfl rfl ?_ ?_
  · refine g_aload_n 0 dX0_doAgain_13 rfl rfl ?_
    refine g_getR 12 0 1 rfl dX0_doAgain_14 rfl kkX0 flX0_22 (by decide) rfl rfl (by decide) rfl ?_
    refine g_aload_n 0 dX0_doAgain_17 rfl rfl ?_
    refine g_getR 12 1 13 rfl dX0_doAgain_18 rfl kkX0 flX0_9 (by decide) rfl rfl (by decide) rfl ?_
    refine g_aload_n 0 dX0_doAgain_21 rfl rfl ?_
    refine g_getI 12 5 rfl dX0_doAgain_22 rfl kkX0 flX0_26 (by decide) rfl rfl (by decide) rfl ?_
    refine g_iald dX0_doAgain_25 rfl (by decide) rfl rfl ?_
    refine g_aload_n 0 dX0_doAgain_26 rfl rfl ?_
    refine g_getR 12 2 14 rfl dX0_doAgain_27 rfl kkX0 flX0_13 (by decide) rfl rfl (by decide) rfl ?_
    refine g_aload_n 0 dX0_doAgain_30 rfl rfl ?_
    refine g_getI 12 5 rfl dX0_doAgain_31 rfl kkX0 flX0_26 (by decide) rfl rfl (by decide) rfl ?_
    refine g_iald dX0_doAgain_34 rfl (by decide) rfl rfl ?_
    refine g_aload_n 0 dX0_doAgain_35 rfl rfl ?_
    refine g_getR 12 4 16 rfl dX0_doAgain_36 rfl kkX0 flX0_19 (by decide) rfl rfl (by decide) rfl ?_
    refine g_aload_n 0 dX0_doAgain_39 rfl rfl ?_
    refine g_getI 12 5 rfl dX0_doAgain_40 rfl kkX0 flX0_26 (by decide) rfl rfl (by decide) rfl ?_
    refine g_iald dX0_doAgain_43 rfl (by decide) rfl rfl ?_
    refine g_cVVw (As := [.int (X.1 13 (nx (X.1 12 5))), .int (X.1 14 (nx (X.1 12 5))), .int (X.1 16 (nx (X.1 12 5)))]) (st := []) 3 mF_wg rfl dX0_doAgain_44 rfl kkX5 (by decide) rfl vX5_tell lkX0_42 (rmL rfl rfl) (poo_tell_c q (X.1 13 (nx (X.1 12 5))) (X.1 14 (nx (X.1 12 5))) (X.1 16 (nx (X.1 12 5))) X) rfl rfl (Nat.le_of_ble_eq_true rfl) (fun X1 => ?_)
    refine g_aload_n 0 dX0_doAgain_47 rfl rfl ?_
    refine g_dup dX0_doAgain_48 rfl rfl ?_
    refine g_getI 12 5 rfl dX0_doAgain_49 rfl kkX0 flX0_26 (by decide) rfl rfl (by decide) rfl ?_
    refine g_iconst dX0_doAgain_52 rfl kic_1 ?_
    refine g_iadd dX0_doAgain_53 rfl ?_
    refine g_putI 12 5 rfl dX0_doAgain_54 rfl kkX0 flX0_26 (by decide) rfl rfl (by decide) rfl rfl rfl ?_
    refine g_iconst dX0_doAgain_57 rfl kic_1 ?_
    exact g_zret dX0_doAgain_58 rfl rfl rfl
  refine g_iconst dX0_doAgain_11 rfl kic_0 ?_
  exact g_zret dX0_doAgain_12 rfl rfl rfl
