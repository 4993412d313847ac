/-! 22.el: what the methods come to, and that they do -/
def el_swimmer (v1 : Int32) (v2 : Int32) (X : St) : Option (Int32 × St) :=
  (if v1 < 0 then
  (some ((-1 : Int32), X))
  else
  ((poo_isSwimmer (irm v1 (100 : Int32)) (v1 / (100 : Int32)) v2 (0 : Int32) X).bind fun c1 =>
  (if c1 = 0 then
  (some ((-1 : Int32), X))
  else
  (if (poo_isFull X) = 0 then
  ((poo_join (irm v1 (100 : Int32)) (v1 / (100 : Int32)) v2 (0 : Int32) X).bind fun (c3, X2) =>
  (some (c3, X2)))
  else
  (some ((-3 : Int32), X))))))
theorem el_swimmer_c (q : Th) (v1 : Int32) (v2 : Int32) (X : St) : Ct q nX11_swimmer 3 fiw [.ref (q.ad 0), .int v1, .int v2] X (el_swimmer v1 v2 X) := by
  refine ct_of (by decide +kernel) (Nat.le_of_ble_eq_true rfl) ?_
  unfold el_swimmer
  show G q _ _ 0 [(0, .ref (q.ad 0)), (1, .int v1), (2, .int v2)] [] X _
  refine g_iload_n 1 dX11_swimmer_0 rfl rfl ?_
  refine g_if_ge dX11_swimmer_1 rfl rfl ?_ ?_
  · refine g_iconst dX11_swimmer_4 rfl kic_m1 ?_
    exact g_iret dX11_swimmer_5 rfl rfl
  refine g_iload_n 1 dX11_swimmer_6 rfl rfl ?_
  refine g_bipush dX11_swimmer_7 rfl kbi_100 ?_
  refine g_iremC dX11_swimmer_9 rfl (by decide) ?_
  refine g_istore_n (lv' := [(3, .int (irm v1 (100 : Int32))), (0, .ref (q.ad 0)), (1, .int v1), (2, .int v2)]) dX11_swimmer_10 rfl rfl (Nat.le_of_ble_eq_true rfl) rfl ?_
  refine g_iload_n 2 dX11_swimmer_11 rfl rfl ?_
  refine g_bipush dX11_swimmer_12 rfl kbi_100 ?_
  refine g_idivC dX11_swimmer_14 rfl (by decide) ?_
  refine g_istore (lv' := [(4, .int (v1 / (100 : Int32))), (3, .int (irm v1 (100 : Int32))), (0, .ref (q.ad 0)), (1, .int v1), (2, .int v2)]) dX11_swimmer_15 rfl (Nat.le_of_ble_eq_true rfl) rfl ?_
  refine g_iload_n 1 dX11_swimmer_17 rfl rfl ?_
  refine g_iload 0 dX11_swimmer_18 rfl rfl ?_
  refine g_iload_n 4 dX11_swimmer_20 rfl rfl ?_
  refine g_iconst dX11_swimmer_21 rfl kic_0 ?_
  refine g_cSIr (As := [.int (irm v1 (100 : Int32)), .int (v1 / (100 : Int32)), .int v2, .int (0 : Int32)]) (st := []) 4 mF_wg rfl dX11_swimmer_22 rfl vX5_isSwimmer lkX11_90 (rmL rfl rfl) (poo_isSwimmer_c q (irm v1 (100 : Int32)) (v1 / (100 : Int32)) v2 (0 : Int32) X) rfl rfl (Nat.le_of_ble_eq_true rfl) (fun c1 => ?_)
  refine g_if_ne dX11_swimmer_25 rfl rfl ?_ ?_
  · refine g_iconst dX11_swimmer_28 rfl kic_m1 ?_
    exact g_iret dX11_swimmer_29 rfl rfl
  refine g_aload_n 2 dX11_swimmer_30 rfl rfl ?_
  refine g_getR 0 0 1 rfl dX11_swimmer_31 rfl kkX11 flX11_10 (by decide) rfl rfl (by decide) rfl ?_
  refine g_cVIt (As := []) (st := []) 0 mF_wg rfl dX11_swimmer_34 rfl kkX5 (by decide) rfl vX5_isFull lkX11_94 (rmL rfl rfl) (poo_isFull_c q X) rfl rfl (Nat.le_of_ble_eq_true rfl) ?_
  refine g_if_eq dX11_swimmer_37 rfl rfl ?_ ?_
  · refine g_aload_n 2 dX11_swimmer_45 rfl rfl ?_
    refine g_getR 0 0 1 rfl dX11_swimmer_46 rfl kkX11 flX11_10 (by decide) rfl rfl (by decide) rfl ?_
    refine g_iload_n 1 dX11_swimmer_49 rfl rfl ?_
    refine g_iload 0 dX11_swimmer_50 rfl rfl ?_
    refine g_iload_n 4 dX11_swimmer_52 rfl rfl ?_
    refine g_iconst dX11_swimmer_53 rfl kic_0 ?_
    refine g_cVIw (As := [.int (irm v1 (100 : Int32)), .int (v1 / (100 : Int32)), .int v2, .int (0 : Int32)]) (st := []) 4 mF_wg rfl dX11_swimmer_54 rfl kkX5 (by decide) rfl vX5_join lkX11_98 (rmL rfl rfl) (poo_join_c q (irm v1 (100 : Int32)) (v1 / (100 : Int32)) v2 (0 : Int32) X) rfl rfl (Nat.le_of_ble_eq_true rfl) (fun c3 X2 => ?_)
    exact g_iret dX11_swimmer_57 rfl rfl
  refine g_bipush dX11_swimmer_40 rfl kbi_m3 ?_
  refine g_goto dX11_swimmer_42 rfl ?_
  exact g_iret dX11_swimmer_57 rfl rfl
def el_swimmers (n : Nat) (v1 : Int32) (v2 : Int32) (v3 : Int32) (X : St) : Option (Int32 × St) :=
  (if (she_isShelf v1) = 0 then
  (some ((-1 : Int32), X))
  else
  (if v3 < (1 : Int32) then
  (some ((-1 : Int32), X))
  else
  (if (8 : Int32) < v3 then
  (some ((-1 : Int32), X))
  else
  ((she_refusal v1 (0 : Int32) X).bind fun c1 =>
  (if c1 = (-11 : Int32) then
  (some ((0 : Int32), X))
  else
  (if c1 = 0 then
  ((she_elements v1 X).bind fun c2 =>
  ((she_size v1 X).bind fun c3 =>
  ((poo_joinFrom n c2 c3 v2 v3 X).bind fun (c5, X4) =>
  (some (c5, X4)))))
  else
  (some (c1, X))))))))
theorem el_swimmers_c (q : Th) (n : Nat) (v1 : Int32) (v2 : Int32) (v3 : Int32) (X : St) : Ct q nX11_swimmers 5 fiw [.ref (q.ad 0), .int v1, .int v2, .int v3] X (el_swimmers n v1 v2 v3 X) := by
  refine ct_of (by decide +kernel) (Nat.le_of_ble_eq_true rfl) ?_
  unfold el_swimmers
  show G q _ _ 0 [(0, .ref (q.ad 0)), (1, .int v1), (2, .int v2), (3, .int v3)] [] X _
  refine g_iload_n 1 dX11_swimmers_0 rfl rfl ?_
  refine g_cSIt (As := [.int v1]) (st := []) 1 mF_wg rfl dX11_swimmers_1 rfl vX7_isShelf lkX11_102 (rmL rfl rfl) (she_isShelf_c q v1 X) rfl rfl (Nat.le_of_ble_eq_true rfl) ?_
  refine g_if_eq dX11_swimmers_4 rfl rfl ?_ ?_
  · refine g_iconst dX11_swimmers_18 rfl kic_m1 ?_
    exact g_iret dX11_swimmers_19 rfl rfl
  refine g_iload_n 3 dX11_swimmers_7 rfl rfl ?_
  refine g_iconst dX11_swimmers_8 rfl kic_1 ?_
  refine g_icmp_lt dX11_swimmers_9 rfl rfl ?_ ?_
  · refine g_iconst dX11_swimmers_18 rfl kic_m1 ?_
    exact g_iret dX11_swimmers_19 rfl rfl
  refine g_iload_n 3 dX11_swimmers_12 rfl rfl ?_
  refine g_bipush dX11_swimmers_13 rfl kbi_8 ?_
  refine g_icmp_le dX11_swimmers_15 rfl rfl ?_ ?_
  · refine g_iconst dX11_swimmers_18 rfl kic_m1 ?_
    exact g_iret dX11_swimmers_19 rfl rfl
  refine g_aload_n 0 dX11_swimmers_20 rfl rfl ?_
  refine g_getR 0 10 91 rfl dX11_swimmers_21 rfl kkX11 flX11_86 (by decide) rfl rfl (by decide) rfl ?_
  refine g_iload_n 1 dX11_swimmers_24 rfl rfl ?_
  refine g_iconst dX11_swimmers_25 rfl kic_0 ?_
  refine g_cVIr (As := [.int v1, .int (0 : Int32)]) (st := []) 2 mF_wg rfl dX11_swimmers_26 rfl kkX7 (by decide) rfl vX7_refusal lkX11_106 (rmL rfl rfl) (she_refusal_c q v1 (0 : Int32) X) rfl rfl (Nat.le_of_ble_eq_true rfl) (fun c1 => ?_)
  refine g_istore (lv' := [(4, .int c1), (0, .ref (q.ad 0)), (1, .int v1), (2, .int v2), (3, .int v3)]) dX11_swimmers_29 rfl (Nat.le_of_ble_eq_true rfl) rfl ?_
  refine g_iload 0 dX11_swimmers_31 rfl rfl ?_
  refine g_bipush dX11_swimmers_33 rfl kbi_m11 ?_
  refine g_icmp_ne dX11_swimmers_35 rfl rfl ?_ ?_
  · refine g_iconst dX11_swimmers_38 rfl kic_0 ?_
    exact g_iret dX11_swimmers_39 rfl rfl
  refine g_iload 0 dX11_swimmers_40 rfl rfl ?_
  refine g_if_eq dX11_swimmers_42 rfl rfl ?_ ?_
  · refine g_aload_n 1 dX11_swimmers_50 rfl rfl ?_
    refine g_getR 0 0 1 rfl dX11_swimmers_51 rfl kkX11 flX11_10 (by decide) rfl rfl (by decide) rfl ?_
    refine g_aload_n 1 dX11_swimmers_54 rfl rfl ?_
    refine g_getR 0 10 91 rfl dX11_swimmers_55 rfl kkX11 flX11_86 (by decide) rfl rfl (by decide) rfl ?_
    refine g_iload_n 2 dX11_swimmers_58 rfl rfl ?_
    refine g_cVRr (As := [.int v1]) (st := [.ref (q.ad 1)]) 1 mF_wg rfl dX11_swimmers_59 rfl kkX7 (by decide) rfl vX7_elements lkX11_110 (rmL rfl rfl) (she_elements_c q v1 X) rfl rfl (Nat.le_of_ble_eq_true rfl) (fun c2 => ?_)
    refine g_aload_n 1 dX11_swimmers_62 rfl rfl ?_
    refine g_getR 0 10 91 rfl dX11_swimmers_63 rfl kkX11 flX11_86 (by decide) rfl rfl (by decide) rfl ?_
    refine g_iload_n 2 dX11_swimmers_66 rfl rfl ?_
    refine g_cVIr (As := [.int v1]) (st := [.ref (q.ad c2), .ref (q.ad 1)]) 1 mF_wg rfl dX11_swimmers_67 rfl kkX7 (by decide) rfl vX7_size lkX11_114 (rmL rfl rfl) (she_size_c q v1 X) rfl rfl (Nat.le_of_ble_eq_true rfl) (fun c3 => ?_)
    refine g_iload_n 3 dX11_swimmers_70 rfl rfl ?_
    refine g_iload_n 4 dX11_swimmers_71 rfl rfl ?_
    refine g_cVIw (As := [.ref (q.ad c2), .int c3, .int v2, .int v3]) (st := []) 4 mF_wg rfl dX11_swimmers_72 rfl kkX5 (by decide) rfl vX5_joinFrom lkX11_118 (rmL rfl rfl) (poo_joinFrom_c q n c2 c3 v2 v3 X) rfl rfl (Nat.le_of_ble_eq_true rfl) (fun c5 X4 => ?_)
    exact g_iret dX11_swimmers_75 rfl rfl
  refine g_iload 0 dX11_swimmers_45 rfl rfl ?_
  refine g_goto dX11_swimmers_47 rfl ?_
  exact g_iret dX11_swimmers_75 rfl rfl
def el_mend (n : Nat) (v1 : Int32) (v2 : Int32) (v3 : Int32) (X : St) : Option (Int32 × St) :=
  (if (poo_keeps v1 v2 X) = 0 then
  (some ((-2000000000 : Int32), X))
  else
  ((poo_allows v2 v3 X).bind fun c1 =>
  (if c1 = 0 then
  (some ((-2000000000 : Int32), X))
  else
  ((poo_told v1 v2 X).bind fun c2 =>
  ((chg_tell n v1 v2 v3 X).bind fun X3 =>
  (some (c2, X3)))))))
theorem el_mend_c (q : Th) (n : Nat) (v1 : Int32) (v2 : Int32) (v3 : Int32) (X : St) : Ct q nX11_mend 3 fiw [.ref (q.ad 0), .int v1, .int v2, .int v3] X (el_mend n v1 v2 v3 X) := by
  refine ct_of (by decide +kernel) (Nat.le_of_ble_eq_true rfl) ?_
  unfold el_mend
  show G q _ _ 0 [(0, .ref (q.ad 0)), (1, .int v1), (2, .int v2), (3, .int v3)] [] X _
  refine g_aload_n 0 dX11_mend_0 rfl rfl ?_
  refine g_getR 0 0 1 rfl dX11_mend_1 rfl kkX11 flX11_10 (by decide) rfl rfl (by decide) rfl ?_
  refine g_iload_n 1 dX11_mend_4 rfl rfl ?_
  refine g_iload_n 2 dX11_mend_5 rfl rfl ?_
  refine g_cVIt (As := [.int v1, .int v2]) (st := []) 2 mF_wg rfl dX11_mend_6 rfl kkX5 (by decide) rfl vX5_keeps lkX11_122 (rmL rfl rfl) (poo_keeps_c q v1 v2 X) rfl rfl (Nat.le_of_ble_eq_true rfl) ?_
  refine g_if_eq dX11_mend_9 rfl rfl ?_ ?_
  · refine g_ldc rfl dX11_mend_20 rfl kcX11_129 ?_
    exact g_iret dX11_mend_22 rfl rfl
  refine g_iload_n 2 dX11_mend_12 rfl rfl ?_
  refine g_iload_n 3 dX11_mend_13 rfl rfl ?_
  refine g_cSIr (As := [.int v2, .int v3]) (st := []) 2 mF_wg rfl dX11_mend_14 rfl vX5_allows lkX11_126 (rmL rfl rfl) (poo_allows_c q v2 v3 X) rfl rfl (Nat.le_of_ble_eq_true rfl) (fun c1 => ?_)
  refine g_if_ne dX11_mend_17 rfl rfl ?_ ?_
  · refine g_ldc rfl dX11_mend_20 rfl kcX11_129 ?_
    exact g_iret dX11_mend_22 rfl rfl
  refine g_aload_n 0 dX11_mend_23 rfl rfl ?_
  refine g_getR 0 0 1 rfl dX11_mend_24 rfl kkX11 flX11_10 (by decide) rfl rfl (by decide) rfl ?_
  refine g_iload_n 1 dX11_mend_27 rfl rfl ?_
  refine g_iload_n 2 dX11_mend_28 rfl rfl ?_
  refine g_cVIr (As := [.int v1, .int v2]) (st := []) 2 mF_wg rfl dX11_mend_29 rfl kkX5 (by decide) rfl vX5_told lkX11_130 (rmL rfl rfl) (poo_told_c q v1 v2 X) rfl rfl (Nat.le_of_ble_eq_true rfl) (fun c2 => ?_)
  refine g_istore (lv' := [(4, .int c2), (0, .ref (q.ad 0)), (1, .int v1), (2, .int v2), (3, .int v3)]) dX11_mend_32 rfl (Nat.le_of_ble_eq_true rfl) rfl ?_
  refine g_aload_n 1 dX11_mend_34 rfl rfl ?_
  refine g_getR 0 1 12 rfl dX11_mend_35 rfl kkX11 flX11_21 (by decide) rfl rfl (by decide) rfl ?_
  refine g_iload_n 2 dX11_mend_38 rfl rfl ?_
  refine g_iload_n 3 dX11_mend_39 rfl rfl ?_
  refine g_iload_n 4 dX11_mend_40 rfl rfl ?_
  refine g_cVVw (As := [.int v1, .int v2, .int v3]) (st := []) 3 mF_wg rfl dX11_mend_41 rfl kkX0 (by decide) rfl vX0_tell lkX11_133 (rmL rfl rfl) (chg_tell_c q n v1 v2 v3 X) rfl rfl (Nat.le_of_ble_eq_true rfl) (fun X3 => ?_)
  refine g_iload 0 dX11_mend_44 rfl rfl ?_
  exact g_iret dX11_mend_46 rfl rfl
def el_of_J12 (X : St) (v1 : Int32) (v2 : Int32) : Option (Int32) :=
(if (poo_has v1 X) = 0 then
(some (-2000000000 : Int32))
else
(if v2 = (9 : Int32) then
((ded_told v1 (1 : Int32) X).bind fun c1 =>
(some c1))
else
((ded_told v1 (0 : Int32) X).bind fun c2 =>
(some c2))))
def el_of (v1 : Int32) (v2 : Int32) (X : St) : Option (Int32) :=
  (if v2 = (9 : Int32) then
  (el_of_J12 X v1 v2)
  else
  (if v2 = (10 : Int32) then
  (el_of_J12 X v1 v2)
  else
  (if (poo_keeps v1 v2 X) = 0 then
  (some (-2000000000 : Int32))
  else
  ((poo_told v1 v2 X).bind fun c3 =>
  (some c3)))))
theorem el_of_J12_g (q : Th) (X : St) (v1 : Int32) (v2 : Int32) : G q (mF q nX11_of RX11 2) (fir X) 12 [(0, .ref (q.ad 0)), (1, .int v1), (2, .int v2)] [] X (el_of_J12 X v1 v2) := by
  unfold el_of_J12
  refine g_aload_n 0 dX11_of_12 rfl rfl ?_
  refine g_getR 0 0 1 rfl dX11_of_13 rfl kkX11 flX11_10 (by decide) rfl rfl (by decide) rfl ?_
  refine g_iload_n 1 dX11_of_16 rfl rfl ?_
  refine g_cVIt (As := [.int v1]) (st := []) 1 mF_wg rfl dX11_of_17 rfl kkX5 (by decide) rfl vX5_has lkX11_137 (rmL rfl rfl) (poo_has_c q v1 X) rfl rfl (Nat.le_of_ble_eq_true rfl) ?_
  refine g_if_eq dX11_of_20 rfl rfl ?_ ?_
  · refine g_ldc rfl dX11_of_45 rfl kcX11_129 ?_
    exact g_iret dX11_of_47 rfl rfl
  refine g_aload_n 0 dX11_of_23 rfl rfl ?_
  refine g_getR 0 8 81 rfl dX11_of_24 rfl kkX11 flX11_72 (by decide) rfl rfl (by decide) rfl ?_
  refine g_iload_n 1 dX11_of_27 rfl rfl ?_
  refine g_iload_n 2 dX11_of_28 rfl rfl ?_
  refine g_bipush dX11_of_29 rfl kbi_9 ?_
  refine g_icmp_ne dX11_of_31 rfl rfl ?_ ?_
  · refine g_iconst dX11_of_34 rfl kic_1 ?_
    refine g_goto dX11_of_35 rfl ?_
    refine g_cVIr (As := [.int v1, .int (1 : Int32)]) (st := []) 2 mF_wg rfl dX11_of_39 rfl kkX1 (by decide) rfl vX1_told lkX11_140 (rmL rfl rfl) (ded_told_c q v1 (1 : Int32) X) rfl rfl (Nat.le_of_ble_eq_true rfl) (fun c1 => ?_)
    refine g_goto dX11_of_42 rfl ?_
    exact g_iret dX11_of_47 rfl rfl
  refine g_iconst dX11_of_38 rfl kic_0 ?_
  refine g_cVIr (As := [.int v1, .int (0 : Int32)]) (st := []) 2 mF_wg rfl dX11_of_39 rfl kkX1 (by decide) rfl vX1_told lkX11_140 (rmL rfl rfl) (ded_told_c q v1 (0 : Int32) X) rfl rfl (Nat.le_of_ble_eq_true rfl) (fun c2 => ?_)
  refine g_goto dX11_of_42 rfl ?_
  exact g_iret dX11_of_47 rfl rfl
theorem el_of_c (q : Th) (v1 : Int32) (v2 : Int32) (X : St) : Ct q nX11_of 2 (fir X) [.ref (q.ad 0), .int v1, .int v2] X (el_of v1 v2 X) := by
  refine ct_of (by decide +kernel) (Nat.le_of_ble_eq_true rfl) ?_
  unfold el_of
  show G q _ _ 0 [(0, .ref (q.ad 0)), (1, .int v1), (2, .int v2)] [] X _
  refine g_iload_n 2 dX11_of_0 rfl rfl ?_
  refine g_bipush dX11_of_1 rfl kbi_9 ?_
  refine g_icmp_eq dX11_of_3 rfl rfl ?_ ?_
  · refine g_sub [0, 1, 2] rfl ?_
    exact el_of_J12_g q X v1 v2
  refine g_iload_n 2 dX11_of_6 rfl rfl ?_
  refine g_bipush dX11_of_7 rfl kbi_10 ?_
  refine g_icmp_ne dX11_of_9 rfl rfl ?_ ?_
  · refine g_sub [0, 1, 2] rfl ?_
    exact el_of_J12_g q X v1 v2
  refine g_aload_n 0 dX11_of_48 rfl rfl ?_
  refine g_getR 0 0 1 rfl dX11_of_49 rfl kkX11 flX11_10 (by decide) rfl rfl (by decide) rfl ?_
  refine g_iload_n 1 dX11_of_52 rfl rfl ?_
  refine g_iload_n 2 dX11_of_53 rfl rfl ?_
  refine g_cVIt (As := [.int v1, .int v2]) (st := []) 2 mF_wg rfl dX11_of_54 rfl kkX5 (by decide) rfl vX5_keeps lkX11_122 (rmL rfl rfl) (poo_keeps_c q v1 v2 X) rfl rfl (Nat.le_of_ble_eq_true rfl) ?_
  refine g_if_eq dX11_of_57 rfl rfl ?_ ?_
  · refine g_ldc rfl dX11_of_72 rfl kcX11_129 ?_
    exact g_iret dX11_of_74 rfl rfl
  refine g_aload_n 0 dX11_of_60 rfl rfl ?_
  refine g_getR 0 0 1 rfl dX11_of_61 rfl kkX11 flX11_10 (by decide) rfl rfl (by decide) rfl ?_
  refine g_iload_n 1 dX11_of_64 rfl rfl ?_
  refine g_iload_n 2 dX11_of_65 rfl rfl ?_
  refine g_cVIr (As := [.int v1, .int v2]) (st := []) 2 mF_wg rfl dX11_of_66 rfl kkX5 (by decide) rfl vX5_told lkX11_130 (rmL rfl rfl) (poo_told_c q v1 v2 X) rfl rfl (Nat.le_of_ble_eq_true rfl) (fun c3 => ?_)
  refine g_goto dX11_of_69 rfl ?_
  exact g_iret dX11_of_74 rfl rfl
def el_feed (v1 : Int32) (X : St) : Option (Int32 × St) :=
  (if v1 < 0 then
  (some ((-1 : Int32), X))
  else
  (if (255 : Int32) < v1 then
  (some ((-1 : Int32), X))
  else
  (if (tap_isFull X) = 0 then
  ((tap_take v1 X).bind fun (c2, X1) =>
  (some (c2, X1)))
  else
  (some ((-3 : Int32), X)))))
theorem el_feed_c (q : Th) (v1 : Int32) (X : St) : Ct q nX11_feed 2 fiw [.ref (q.ad 0), .int v1] X (el_feed v1 X) := by
  refine ct_of (by decide +kernel) (Nat.le_of_ble_eq_true rfl) ?_
  unfold el_feed
  show G q _ _ 0 [(0, .ref (q.ad 0)), (1, .int v1)] [] X _
  refine g_iload_n 1 dX11_feed_0 rfl rfl ?_
  refine g_if_lt dX11_feed_1 rfl rfl ?_ ?_
  · refine g_iconst dX11_feed_11 rfl kic_m1 ?_
    exact g_iret dX11_feed_12 rfl rfl
  refine g_iload_n 1 dX11_feed_4 rfl rfl ?_
  refine g_sipush dX11_feed_5 rfl ksi_255 ?_
  refine g_icmp_le dX11_feed_8 rfl rfl ?_ ?_
  · refine g_iconst dX11_feed_11 rfl kic_m1 ?_
    exact g_iret dX11_feed_12 rfl rfl
  refine g_aload_n 0 dX11_feed_13 rfl rfl ?_
  refine g_getR 0 2 17 rfl dX11_feed_14 rfl kkX11 flX11_28 (by decide) rfl rfl (by decide) rfl ?_
  refine g_cVIt (As := []) (st := []) 0 mF_wg rfl dX11_feed_17 rfl kkX8 (by decide) rfl vX8_isFull lkX11_143 (rmL rfl rfl) (tap_isFull_c q X) rfl rfl (Nat.le_of_ble_eq_true rfl) ?_
  refine g_if_eq dX11_feed_20 rfl rfl ?_ ?_
  · refine g_aload_n 0 dX11_feed_28 rfl rfl ?_
    refine g_getR 0 2 17 rfl dX11_feed_29 rfl kkX11 flX11_28 (by decide) rfl rfl (by decide) rfl ?_
    refine g_iload_n 1 dX11_feed_32 rfl rfl ?_
    refine g_cVIw (As := [.int v1]) (st := []) 1 mF_wg rfl dX11_feed_33 rfl kkX8 (by decide) rfl vX8_take lkX11_144 (rmL rfl rfl) (tap_take_c q v1 X) rfl rfl (Nat.le_of_ble_eq_true rfl) (fun c2 X1 => ?_)
    exact g_iret dX11_feed_36 rfl rfl
  refine g_bipush dX11_feed_23 rfl kbi_m3 ?_
  refine g_goto dX11_feed_25 rfl ?_
  exact g_iret dX11_feed_36 rfl rfl
def el_law_J26 (n : Nat) (v1 : Int32) (s0 : Int32) (X : St) : Option (Int32 × St) :=
(if v1 = 0 then
((tap_empty X).bind fun X3 =>
(some (s0, X3)))
else
((rul_become (tap_codes X) X).bind fun X4 =>
((tap_empty X4).bind fun X5 =>
(some (s0, X5)))))
def el_law (n : Nat) (X : St) : Option (Int32 × St) :=
  ((tap_isText n X).bind fun (c2, X1) =>
  (if c2 = 0 then
  (el_law_J26 n c2 ((-100 : Int32) - (tap_place X1)) X1)
  else
  (el_law_J26 n c2 (1 : Int32) X1)))
theorem el_law_J26_g (q : Th) (n : Nat) (v1 : Int32) (s0 : Int32) (X : St) : G q (mF q nX11_law RX11 412) fiw 26 [(0, .ref (q.ad 0)), (1, .int v1)] [.int s0] X (el_law_J26 n v1 s0 X) := by
  unfold el_law_J26
  refine g_istore_n (lv' := [(2, .int s0), (0, .ref (q.ad 0)), (1, .int v1)]) dX11_law_26 rfl rfl (Nat.le_of_ble_eq_true rfl) rfl ?_
  refine g_iload_n 2 dX11_law_27 rfl rfl ?_
  refine g_if_eq dX11_law_28 rfl rfl ?_ ?_
  · refine g_aload_n 1 dX11_law_52 rfl rfl ?_
    refine g_getR 0 2 17 rfl dX11_law_53 rfl kkX11 flX11_28 (by decide) rfl rfl (by decide) rfl ?_
    refine g_cVVw (As := []) (st := []) 0 mF_wg rfl dX11_law_56 rfl kkX8 (by decide) rfl vX8_empty lkX11_165 (rmL rfl rfl) (tap_empty_c q X) rfl rfl (Nat.le_of_ble_eq_true rfl) (fun X3 => ?_)
    refine g_iload_n 0 dX11_law_59 rfl rfl ?_
    exact g_iret dX11_law_60 rfl rfl
  refine g_aload_n 1 dX11_law_31 rfl rfl ?_
  refine g_getR 0 3 20 rfl dX11_law_32 rfl kkX11 flX11_35 (by decide) rfl rfl (by decide) rfl ?_
  refine g_aload_n 1 dX11_law_35 rfl rfl ?_
  refine g_getR 0 2 17 rfl dX11_law_36 rfl kkX11 flX11_28 (by decide) rfl rfl (by decide) rfl ?_
  refine g_cVRt (As := []) (st := [.ref (q.ad 20)]) 0 mF_wg rfl dX11_law_39 rfl kkX8 (by decide) rfl vX8_code lkX11_154 (rmL rfl rfl) (tap_code_c q X) rfl rfl (Nat.le_of_ble_eq_true rfl) ?_
  refine g_aload_n 1 dX11_law_42 rfl rfl ?_
  refine g_getR 0 2 17 rfl dX11_law_43 rfl kkX11 flX11_28 (by decide) rfl rfl (by decide) rfl ?_
  refine g_cVIt (As := []) (st := [.ref (q.ad 19), .ref (q.ad 20)]) 0 mF_wg rfl dX11_law_46 rfl kkX8 (by decide) rfl vX8_codes lkX11_158 (rmL rfl rfl) (tap_codes_c q X) rfl rfl (Nat.le_of_ble_eq_true rfl) ?_
  refine g_cVVw (As := [.ref (q.ad 19), .int (tap_codes X)]) (st := []) 2 mF_wg rfl dX11_law_49 rfl kkX4 (by decide) rfl vX4_become lkX11_161 (rmL rfl rfl) (rul_become_c q (tap_codes X) X) rfl rfl (Nat.le_of_ble_eq_true rfl) (fun X4 => ?_)
  refine g_aload_n 1 dX11_law_52 rfl rfl ?_
  refine g_getR 0 2 17 rfl dX11_law_53 rfl kkX11 flX11_28 (by decide) rfl rfl (by decide) rfl ?_
  refine g_cVVw (As := []) (st := []) 0 mF_wg rfl dX11_law_56 rfl kkX8 (by decide) rfl vX8_empty lkX11_165 (rmL rfl rfl) (tap_empty_c q X4) rfl rfl (Nat.le_of_ble_eq_true rfl) (fun X5 => ?_)
  refine g_iload_n 0 dX11_law_59 rfl rfl ?_
  exact g_iret dX11_law_60 rfl rfl
theorem el_law_c (q : Th) (n : Nat) (X : St) : Ct q nX11_law 412 fiw [.ref (q.ad 0)] X (el_law n X) := by
  refine ct_of (by decide +kernel) (Nat.le_of_ble_eq_true rfl) ?_
  unfold el_law
  show G q _ _ 0 [(0, .ref (q.ad 0))] [] X _
  refine g_aload_n 0 dX11_law_0 rfl rfl ?_
  refine g_getR 0 2 17 rfl dX11_law_1 rfl kkX11 flX11_28 (by decide) rfl rfl (by decide) rfl ?_
  refine g_cVIw (As := []) (st := []) 0 mF_wg rfl dX11_law_4 rfl kkX8 (by decide) rfl vX8_isText lkX11_147 (rmL rfl rfl) (tap_isText_c q n X) rfl rfl (Nat.le_of_ble_eq_true rfl) (fun c2 X1 => ?_)
  refine g_istore_n (lv' := [(1, .int c2), (0, .ref (q.ad 0))]) dX11_law_7 rfl rfl (Nat.le_of_ble_eq_true rfl) rfl ?_
  refine g_iload_n 0 dX11_law_8 rfl rfl ?_
  refine g_if_eq dX11_law_9 rfl rfl ?_ ?_
  · refine g_bipush dX11_law_16 rfl kbi_m100 ?_
    refine g_aload_n 1 dX11_law_18 rfl rfl ?_
    refine g_getR 0 2 17 rfl dX11_law_19 rfl kkX11 flX11_28 (by decide) rfl rfl (by decide) rfl ?_
    refine g_cVIt (As := []) (st := [.int (-100 : Int32)]) 0 mF_wg rfl dX11_law_22 rfl kkX8 (by decide) rfl vX8_place lkX11_150 (rmL rfl rfl) (tap_place_c q X1) rfl rfl (Nat.le_of_ble_eq_true rfl) ?_
    refine g_isub dX11_law_25 rfl ?_
    refine g_sub [1, 0] rfl ?_
    exact el_law_J26_g q n c2 ((-100 : Int32) - (tap_place X1)) X1
  refine g_iconst dX11_law_12 rfl kic_1 ?_
  refine g_goto dX11_law_13 rfl ?_
  refine g_sub [1, 0] rfl ?_
  exact el_law_J26_g q n c2 (1 : Int32) X1
def el_loses (n : Nat) (v1 : Int32) (v2 : Int32) (v3 : Int32) (X : St) : Option (Int32 × St) :=
  (if v1 < 0 then
  (some ((-1 : Int32), X))
  else
  (if v3 < 0 then
  (some ((-1 : Int32), X))
  else
  (if v2 < 0 then
  (some ((-1 : Int32), X))
  else
  (if (9999 : Int32) < v2 then
  (some ((-1 : Int32), X))
  else
  (if (poo_has (v1 / (10 : Int32)) X) = 0 then
  (some ((-1 : Int32), X))
  else
  (if (poo_has (irm v1 (10 : Int32)) X) = 0 then
  (some ((-1 : Int32), X))
  else
  (if (v1 / (10 : Int32)) = (irm v1 (10 : Int32)) then
  (some ((-1 : Int32), X))
  else
  (if (rou_isAct ((v3 / (100 : Int32)).toInt64)) = 0 then
  (some ((-1 : Int32), X))
  else
  (if (irm v3 (100 : Int32)) < (60 : Int32) then
  ((tho_ready n X).bind fun X1 =>
  ((tho_marksOfTwo n (v1 / (10 : Int32)) (irm v1 (10 : Int32)) v2 (v3 / (100 : Int32)) (irm v3 (100 : Int32)) X1).bind fun (c3, X2) =>
  (some (c3, X2))))
  else
  (some ((-1 : Int32), X)))))))))))
theorem el_loses_c (q : Th) (n : Nat) (v1 : Int32) (v2 : Int32) (v3 : Int32) (X : St) : Ct q nX11_loses 5 fiw [.ref (q.ad 0), .int v1, .int v2, .int v3] X (el_loses n v1 v2 v3 X) := by
  refine ct_of (by decide +kernel) (Nat.le_of_ble_eq_true rfl) ?_
  unfold el_loses
  show G q _ _ 0 [(0, .ref (q.ad 0)), (1, .int v1), (2, .int v2), (3, .int v3)] [] X _
  refine g_iload_n 1 dX11_loses_0 rfl rfl ?_
  refine g_if_lt dX11_loses_1 rfl rfl ?_ ?_
  · refine g_iconst dX11_loses_19 rfl kic_m1 ?_
    exact g_iret dX11_loses_20 rfl rfl
  refine g_iload_n 3 dX11_loses_4 rfl rfl ?_
  refine g_if_lt dX11_loses_5 rfl rfl ?_ ?_
  · refine g_iconst dX11_loses_19 rfl kic_m1 ?_
    exact g_iret dX11_loses_20 rfl rfl
  refine g_iload_n 2 dX11_loses_8 rfl rfl ?_
  refine g_if_lt dX11_loses_9 rfl rfl ?_ ?_
  · refine g_iconst dX11_loses_19 rfl kic_m1 ?_
    exact g_iret dX11_loses_20 rfl rfl
  refine g_iload_n 2 dX11_loses_12 rfl rfl ?_
  refine g_sipush dX11_loses_13 rfl ksi_9999 ?_
  refine g_icmp_le dX11_loses_16 rfl rfl ?_ ?_
  · refine g_iconst dX11_loses_19 rfl kic_m1 ?_
    exact g_iret dX11_loses_20 rfl rfl
  refine g_iload_n 1 dX11_loses_21 rfl rfl ?_
  refine g_bipush dX11_loses_22 rfl kbi_10 ?_
  refine g_idivC dX11_loses_24 rfl (by decide) ?_
  refine g_istore (lv' := [(4, .int (v1 / (10 : Int32))), (0, .ref (q.ad 0)), (1, .int v1), (2, .int v2), (3, .int v3)]) dX11_loses_25 rfl (Nat.le_of_ble_eq_true rfl) rfl ?_
  refine g_iload_n 2 dX11_loses_27 rfl rfl ?_
  refine g_bipush dX11_loses_28 rfl kbi_10 ?_
  refine g_iremC dX11_loses_30 rfl (by decide) ?_
  refine g_istore (lv' := [(5, .int (irm v1 (10 : Int32))), (4, .int (v1 / (10 : Int32))), (0, .ref (q.ad 0)), (1, .int v1), (2, .int v2), (3, .int v3)]) dX11_loses_31 rfl (Nat.le_of_ble_eq_true rfl) rfl ?_
  refine g_iload_n 5 dX11_loses_33 rfl rfl ?_
  refine g_bipush dX11_loses_34 rfl kbi_100 ?_
  refine g_idivC dX11_loses_36 rfl (by decide) ?_
  refine g_istore (lv' := [(6, .int (v3 / (100 : Int32))), (5, .int (irm v1 (10 : Int32))), (4, .int (v1 / (10 : Int32))), (0, .ref (q.ad 0)), (1, .int v1), (2, .int v2), (3, .int v3)]) dX11_loses_37 rfl (Nat.le_of_ble_eq_true rfl) rfl ?_
  refine g_iload_n 6 dX11_loses_39 rfl rfl ?_
  refine g_bipush dX11_loses_40 rfl kbi_100 ?_
  refine g_iremC dX11_loses_42 rfl (by decide) ?_
  refine g_istore (lv' := [(7, .int (irm v3 (100 : Int32))), (6, .int (v3 / (100 : Int32))), (5, .int (irm v1 (10 : Int32))), (4, .int (v1 / (10 : Int32))), (0, .ref (q.ad 0)), (1, .int v1), (2, .int v2), (3, .int v3)]) dX11_loses_43 rfl (Nat.le_of_ble_eq_true rfl) rfl ?_
  refine g_aload_n 4 dX11_loses_45 rfl rfl ?_
  refine g_getR 0 0 1 rfl dX11_loses_46 rfl kkX11 flX11_10 (by decide) rfl rfl (by decide) rfl ?_
  refine g_iload 3 dX11_loses_49 rfl rfl ?_
  refine g_cVIt (As := [.int (v1 / (10 : Int32))]) (st := []) 1 mF_wg rfl dX11_loses_51 rfl kkX5 (by decide) rfl vX5_has lkX11_137 (rmL rfl rfl) (poo_has_c q (v1 / (10 : Int32)) X) rfl rfl (Nat.le_of_ble_eq_true rfl) ?_
  refine g_if_eq dX11_loses_54 rfl rfl ?_ ?_
  · refine g_iconst dX11_loses_92 rfl kic_m1 ?_
    exact g_iret dX11_loses_93 rfl rfl
  refine g_aload_n 4 dX11_loses_57 rfl rfl ?_
  refine g_getR 0 0 1 rfl dX11_loses_58 rfl kkX11 flX11_10 (by decide) rfl rfl (by decide) rfl ?_
  refine g_iload 2 dX11_loses_61 rfl rfl ?_
  refine g_cVIt (As := [.int (irm v1 (10 : Int32))]) (st := []) 1 mF_wg rfl dX11_loses_63 rfl kkX5 (by decide) rfl vX5_has lkX11_137 (rmL rfl rfl) (poo_has_c q (irm v1 (10 : Int32)) X) rfl rfl (Nat.le_of_ble_eq_true rfl) ?_
  refine g_if_eq dX11_loses_66 rfl rfl ?_ ?_
  · refine g_iconst dX11_loses_92 rfl kic_m1 ?_
    exact g_iret dX11_loses_93 rfl rfl
  refine g_iload 3 dX11_loses_69 rfl rfl ?_
  refine g_iload 2 dX11_loses_71 rfl rfl ?_
  refine g_icmp_eq dX11_loses_73 rfl rfl ?_ ?_
  · refine g_iconst dX11_loses_92 rfl kic_m1 ?_
    exact g_iret dX11_loses_93 rfl rfl
  refine g_iload 1 dX11_loses_76 rfl rfl ?_
  refine g_i2l dX11_loses_78 rfl ?_
  refine g_cSIt (As := [.long ((v3 / (100 : Int32)).toInt64)]) (st := []) 1 mF_wg rfl dX11_loses_79 rfl vX6_isAct lkX11_168 (rmL rfl rfl) (rou_isAct_c q ((v3 / (100 : Int32)).toInt64) X) rfl rfl (Nat.le_of_ble_eq_true rfl) ?_
  refine g_if_eq dX11_loses_82 rfl rfl ?_ ?_
  · refine g_iconst dX11_loses_92 rfl kic_m1 ?_
    exact g_iret dX11_loses_93 rfl rfl
  refine g_iload 0 dX11_loses_85 rfl rfl ?_
  refine g_bipush dX11_loses_87 rfl kbi_60 ?_
  refine g_icmp_lt dX11_loses_89 rfl rfl ?_ ?_
  · refine g_aload_n 4 dX11_loses_94 rfl rfl ?_
    refine g_getR 0 5 26 rfl dX11_loses_95 rfl kkX11 flX11_51 (by decide) rfl rfl (by decide) rfl ?_
    refine g_cVVw (As := []) (st := []) 0 mF_wg rfl dX11_loses_98 rfl kkX9 (by decide) rfl vX9_ready lkX11_172 (rmL rfl rfl) (tho_ready_c q n X) rfl rfl (Nat.le_of_ble_eq_true rfl) (fun X1 => ?_)
    refine g_aload_n 4 dX11_loses_101 rfl rfl ?_
    refine g_getR 0 5 26 rfl dX11_loses_102 rfl kkX11 flX11_51 (by decide) rfl rfl (by decide) rfl ?_
    refine g_iload 3 dX11_loses_105 rfl rfl ?_
    refine g_iload 2 dX11_loses_107 rfl rfl ?_
    refine g_iload_n 6 dX11_loses_109 rfl rfl ?_
    refine g_iload 1 dX11_loses_110 rfl rfl ?_
    refine g_iload 0 dX11_loses_112 rfl rfl ?_
    refine g_cVIw (As := [.int (v1 / (10 : Int32)), .int (irm v1 (10 : Int32)), .int v2, .int (v3 / (100 : Int32)), .int (irm v3 (100 : Int32))]) (st := []) 5 mF_wg rfl dX11_loses_114 rfl kkX9 (by decide) rfl vX9_marksOfTwo lkX11_175 (rmL rfl rfl) (tho_marksOfTwo_c q n (v1 / (10 : Int32)) (irm v1 (10 : Int32)) v2 (v3 / (100 : Int32)) (irm v3 (100 : Int32)) X1) rfl rfl (Nat.le_of_ble_eq_true rfl) (fun c3 X2 => ?_)
    exact g_iret dX11_loses_117 rfl rfl
  refine g_iconst dX11_loses_92 rfl kic_m1 ?_
  exact g_iret dX11_loses_93 rfl rfl
def el_begin (n : Nat) (v1 : Int32) (v2 : Int32) (X : St) : Option (Int32 × St) :=
  (if v2 = 0 then
  (some ((-1 : Int32), X))
  else
  (if (she_isShelf v1) = 0 then
  (some ((-1 : Int32), X))
  else
  ((she_refusal v1 (0 : Int32) X).bind fun c1 =>
  (if c1 = 0 then
  ((she_elements v1 X).bind fun c2 =>
  ((she_size v1 X).bind fun c3 =>
  ((rou_take n c2 c3 X).bind fun X4 =>
  ((tho_ready n X4).bind fun X5 =>
  (some ((0 : Int32), X5))))))
  else
  (some (c1, X))))))
theorem el_begin_c (q : Th) (n : Nat) (v1 : Int32) (v2 : Int32) (X : St) : Ct q nX11_begin 5 fiw [.ref (q.ad 0), .int v1, .int v2] X (el_begin n v1 v2 X) := by
  refine ct_of (by decide +kernel) (Nat.le_of_ble_eq_true rfl) ?_
  unfold el_begin
  show G q _ _ 0 [(0, .ref (q.ad 0)), (1, .int v1), (2, .int v2)] [] X _
  refine g_iload_n 2 dX11_begin_0 rfl rfl ?_
  refine g_if_eq dX11_begin_1 rfl rfl ?_ ?_
  · refine g_iconst dX11_begin_11 rfl kic_m1 ?_
    exact g_iret dX11_begin_12 rfl rfl
  refine g_iload_n 1 dX11_begin_4 rfl rfl ?_
  refine g_cSIt (As := [.int v1]) (st := []) 1 mF_wg rfl dX11_begin_5 rfl vX7_isShelf lkX11_102 (rmL rfl rfl) (she_isShelf_c q v1 X) rfl rfl (Nat.le_of_ble_eq_true rfl) ?_
  refine g_if_ne dX11_begin_8 rfl rfl ?_ ?_
  · refine g_iconst dX11_begin_11 rfl kic_m1 ?_
    exact g_iret dX11_begin_12 rfl rfl
  refine g_aload_n 0 dX11_begin_13 rfl rfl ?_
  refine g_getR 0 10 91 rfl dX11_begin_14 rfl kkX11 flX11_86 (by decide) rfl rfl (by decide) rfl ?_
  refine g_iload_n 1 dX11_begin_17 rfl rfl ?_
  refine g_iconst dX11_begin_18 rfl kic_0 ?_
  refine g_cVIr (As := [.int v1, .int (0 : Int32)]) (st := []) 2 mF_wg rfl dX11_begin_19 rfl kkX7 (by decide) rfl vX7_refusal lkX11_106 (rmL rfl rfl) (she_refusal_c q v1 (0 : Int32) X) rfl rfl (Nat.le_of_ble_eq_true rfl) (fun c1 => ?_)
  refine g_istore_n (lv' := [(3, .int c1), (0, .ref (q.ad 0)), (1, .int v1), (2, .int v2)]) dX11_begin_22 rfl rfl (Nat.le_of_ble_eq_true rfl) rfl ?_
  refine g_iload_n 0 dX11_begin_23 rfl rfl ?_
  refine g_if_eq dX11_begin_24 rfl rfl ?_ ?_
  · refine g_aload_n 1 dX11_begin_29 rfl rfl ?_
    refine g_getR 0 4 24 rfl dX11_begin_30 rfl kkX11 flX11_42 (by decide) rfl rfl (by decide) rfl ?_
    refine g_aload_n 1 dX11_begin_33 rfl rfl ?_
    refine g_getR 0 10 91 rfl dX11_begin_34 rfl kkX11 flX11_86 (by decide) rfl rfl (by decide) rfl ?_
    refine g_iload_n 2 dX11_begin_37 rfl rfl ?_
    refine g_cVRr (As := [.int v1]) (st := [.ref (q.ad 24)]) 1 mF_wg rfl dX11_begin_38 rfl kkX7 (by decide) rfl vX7_elements lkX11_110 (rmL rfl rfl) (she_elements_c q v1 X) rfl rfl (Nat.le_of_ble_eq_true rfl) (fun c2 => ?_)
    refine g_aload_n 1 dX11_begin_41 rfl rfl ?_
    refine g_getR 0 10 91 rfl dX11_begin_42 rfl kkX11 flX11_86 (by decide) rfl rfl (by decide) rfl ?_
    refine g_iload_n 2 dX11_begin_45 rfl rfl ?_
    refine g_cVIr (As := [.int v1]) (st := [.ref (q.ad c2), .ref (q.ad 24)]) 1 mF_wg rfl dX11_begin_46 rfl kkX7 (by decide) rfl vX7_size lkX11_114 (rmL rfl rfl) (she_size_c q v1 X) rfl rfl (Nat.le_of_ble_eq_true rfl) (fun c3 => ?_)
    refine g_cVVw (As := [.ref (q.ad c2), .int c3]) (st := []) 2 mF_wg rfl dX11_begin_49 rfl kkX6 (by decide) rfl vX6_take lkX11_385 (rmL rfl rfl) (rou_take_c q n c2 c3 X) rfl rfl (Nat.le_of_ble_eq_true rfl) (fun X4 => ?_)
    refine g_aload_n 1 dX11_begin_52 rfl rfl ?_
    refine g_getR 0 5 26 rfl dX11_begin_53 rfl kkX11 flX11_51 (by decide) rfl rfl (by decide) rfl ?_
    refine g_cVVw (As := []) (st := []) 0 mF_wg rfl dX11_begin_56 rfl kkX9 (by decide) rfl vX9_ready lkX11_172 (rmL rfl rfl) (tho_ready_c q n X4) rfl rfl (Nat.le_of_ble_eq_true rfl) (fun X5 => ?_)
    refine g_iconst dX11_begin_59 rfl kic_0 ?_
    exact g_iret dX11_begin_60 rfl rfl
  refine g_iload_n 0 dX11_begin_27 rfl rfl ?_
  exact g_iret dX11_begin_28 rfl rfl
def el_routine_J16 (n : Nat) (v2 : Int32) (s0 : Int32) (s1 : Int32) (X : St) : Option (Int32 × St) :=
((el_begin n s1 s0 X).bind fun (c2, X1) =>
(if c2 = 0 then
(if v2 = (0 : Int32) then
(some ((rou_counts X1), X1))
else
(if v2 = (1 : Int32) then
((tho_lost n X1).bind fun (c4, X3) =>
(some (c4, X3)))
else
(if v2 = (2 : Int32) then
((tho_firstSeen n X1).bind fun (c6, X5) =>
(some (c6, X5)))
else
((tho_worstTwo n X1).bind fun (c8, X7) =>
(some (c8, X7))))))
else
(some (c2, X1))))
def el_routine (n : Nat) (v1 : Int32) (v2 : Int32) (X : St) : Option (Int32 × St) :=
  (if v2 < 0 then
  (el_routine_J16 n v2 (0 : Int32) v1 X)
  else
  (if (3 : Int32) < v2 then
  (el_routine_J16 n v2 (0 : Int32) v1 X)
  else
  (el_routine_J16 n v2 (1 : Int32) v1 X)))
theorem el_routine_J16_g (q : Th) (n : Nat) (v2 : Int32) (s0 : Int32) (s1 : Int32) (X : St) : G q (mF q nX11_routine RX11 7) fiw 16 [(0, .ref (q.ad 0)), (2, .int v2)] [.int s0, .int s1, .ref (q.ad 0)] X (el_routine_J16 n v2 s0 s1 X) := by
  unfold el_routine_J16
  refine g_cVIw (As := [.int s1, .int s0]) (st := []) 2 mF_wg rfl dX11_routine_16 rfl kkX11 (by decide) rfl vX11_begin lkX11_179 (rmL rfl rfl) (el_begin_c q n s1 s0 X) rfl rfl (Nat.le_of_ble_eq_true rfl) (fun c2 X1 => ?_)
  refine g_istore_n (lv' := [(3, .int c2), (0, .ref (q.ad 0)), (2, .int v2)]) dX11_routine_19 rfl rfl (Nat.le_of_ble_eq_true rfl) rfl ?_
  refine g_iload_n 0 dX11_routine_20 rfl rfl ?_
  refine g_if_eq dX11_routine_21 rfl rfl ?_ ?_
  · refine g_iload_n 2 dX11_routine_26 rfl rfl ?_
    refine g_case (z := (0 : Int32)) (fun hc => ?_) (fun hc0 => ?_)
    · refine g_tableIn hc dX11_routine_27 (by decide) (by decide) rfl rfl ?_
      refine g_aload_n 1 dX11_routine_52 rfl rfl ?_
      refine g_getR 0 4 24 rfl dX11_routine_53 rfl kkX11 flX11_42 (by decide) rfl rfl (by decide) rfl ?_
      refine g_cVIt (As := []) (st := []) 0 mF_wg rfl dX11_routine_56 rfl kkX6 (by decide) rfl vX6_counts lkX11_182 (rmL rfl rfl) (rou_counts_c q X1) rfl rfl (Nat.le_of_ble_eq_true rfl) ?_
      exact g_iret dX11_routine_59 rfl rfl
    refine g_case (z := (1 : Int32)) (fun hc => ?_) (fun hc1 => ?_)
    · refine g_tableIn hc dX11_routine_27 (by decide) (by decide) rfl rfl ?_
      refine g_aload_n 1 dX11_routine_60 rfl rfl ?_
      refine g_getR 0 5 26 rfl dX11_routine_61 rfl kkX11 flX11_51 (by decide) rfl rfl (by decide) rfl ?_
      refine g_cVIw (As := []) (st := []) 0 mF_wg rfl dX11_routine_64 rfl kkX9 (by decide) rfl vX9_lost lkX11_185 (rmL rfl rfl) (tho_lost_c q n X1) rfl rfl (Nat.le_of_ble_eq_true rfl) (fun c4 X3 => ?_)
      exact g_iret dX11_routine_67 rfl rfl
    refine g_case (z := (2 : Int32)) (fun hc => ?_) (fun hc2 => ?_)
    · refine g_tableIn hc dX11_routine_27 (by decide) (by decide) rfl rfl ?_
      refine g_aload_n 1 dX11_routine_68 rfl rfl ?_
      refine g_getR 0 5 26 rfl dX11_routine_69 rfl kkX11 flX11_51 (by decide) rfl rfl (by decide) rfl ?_
      refine g_cVIw (As := []) (st := []) 0 mF_wg rfl dX11_routine_72 rfl kkX9 (by decide) rfl vX9_firstSeen lkX11_188 (rmL rfl rfl) (tho_firstSeen_c q n X1) rfl rfl (Nat.le_of_ble_eq_true rfl) (fun c6 X5 => ?_)
      exact g_iret dX11_routine_75 rfl rfl
    refine g_tableOut dX11_routine_27 (by have e0 := lv_neT (a := 0) hc0 (by decide); have e1 := lv_neT (a := 1) hc1 (by decide); have e2 := lv_neT (a := 2) hc2 (by decide); omega) rfl ?_
    refine g_aload_n 1 dX11_routine_76 rfl rfl ?_
    refine g_getR 0 5 26 rfl dX11_routine_77 rfl kkX11 flX11_51 (by decide) rfl rfl (by decide) rfl ?_
    refine g_cVIw (As := []) (st := []) 0 mF_wg rfl dX11_routine_80 rfl kkX9 (by decide) rfl vX9_worstTwo lkX11_191 (rmL rfl rfl) (tho_worstTwo_c q n X1) rfl rfl (Nat.le_of_ble_eq_true rfl) (fun c8 X7 => ?_)
    exact g_iret dX11_routine_83 rfl rfl
  refine g_iload_n 0 dX11_routine_24 rfl rfl ?_
  exact g_iret dX11_routine_25 rfl rfl
theorem el_routine_c (q : Th) (n : Nat) (v1 : Int32) (v2 : Int32) (X : St) : Ct q nX11_routine 7 fiw [.ref (q.ad 0), .int v1, .int v2] X (el_routine n v1 v2 X) := by
  refine ct_of (by decide +kernel) (Nat.le_of_ble_eq_true rfl) ?_
  unfold el_routine
  show G q _ _ 0 [(0, .ref (q.ad 0)), (1, .int v1), (2, .int v2)] [] X _
  refine g_aload_n 0 dX11_routine_0 rfl rfl ?_
  refine g_iload_n 1 dX11_routine_1 rfl rfl ?_
  refine g_iload_n 2 dX11_routine_2 rfl rfl ?_
  refine g_if_lt dX11_routine_3 rfl rfl ?_ ?_
  · refine g_iconst dX11_routine_15 rfl kic_0 ?_
    refine g_sub [0, 2] rfl ?_
    exact el_routine_J16_g q n v2 (0 : Int32) v1 X
  refine g_iload_n 2 dX11_routine_6 rfl rfl ?_
  refine g_iconst dX11_routine_7 rfl kic_3 ?_
  refine g_icmp_gt dX11_routine_8 rfl rfl ?_ ?_
  · refine g_iconst dX11_routine_15 rfl kic_0 ?_
    refine g_sub [0, 2] rfl ?_
    exact el_routine_J16_g q n v2 (0 : Int32) v1 X
  refine g_iconst dX11_routine_11 rfl kic_1 ?_
  refine g_goto dX11_routine_12 rfl ?_
  refine g_sub [0, 2] rfl ?_
  exact el_routine_J16_g q n v2 (1 : Int32) v1 X
def el_off_J28 (n : Nat) (v2 : Int32) (v3 : Int32) (s0 : Int32) (s1 : Int32) (X : St) : Option (Int32 × St) :=
((el_begin n s1 s0 X).bind fun (c2, X1) =>
(if c2 = 0 then
((tho_think n v2 X1).bind fun X3 =>
((tho_offOf v3 X3).bind fun c4 =>
(some (c4, X3))))
else
(some ((-2000000000 : Int32), X1))))
def el_off (n : Nat) (v1 : Int32) (v2 : Int32) (v3 : Int32) (X : St) : Option (Int32 × St) :=
  (if v2 < 0 then
  (el_off_J28 n v2 v3 (0 : Int32) v1 X)
  else
  (if (60 : Int32) < v2 then
  (el_off_J28 n v2 v3 (0 : Int32) v1 X)
  else
  (if (poo_has v3 X) = 0 then
  (el_off_J28 n v2 v3 (0 : Int32) v1 X)
  else
  (el_off_J28 n v2 v3 (1 : Int32) v1 X))))
theorem el_off_J28_g (q : Th) (n : Nat) (v2 : Int32) (v3 : Int32) (s0 : Int32) (s1 : Int32) (X : St) : G q (mF q nX11_off RX11 6) fiw 28 [(0, .ref (q.ad 0)), (2, .int v2), (3, .int v3)] [.int s0, .int s1, .ref (q.ad 0)] X (el_off_J28 n v2 v3 s0 s1 X) := by
  unfold el_off_J28
  refine g_cVIw (As := [.int s1, .int s0]) (st := []) 2 mF_wg rfl dX11_off_28 rfl kkX11 (by decide) rfl vX11_begin lkX11_179 (rmL rfl rfl) (el_begin_c q n s1 s0 X) rfl rfl (Nat.le_of_ble_eq_true rfl) (fun c2 X1 => ?_)
  refine g_if_eq dX11_off_31 rfl rfl ?_ ?_
  · refine g_aload_n 0 dX11_off_37 rfl rfl ?_
    refine g_getR 0 5 26 rfl dX11_off_38 rfl kkX11 flX11_51 (by decide) rfl rfl (by decide) rfl ?_
    refine g_iload_n 1 dX11_off_41 rfl rfl ?_
    refine g_cVVw (As := [.int v2]) (st := []) 1 mF_wg rfl dX11_off_42 rfl kkX9 (by decide) rfl vX9_think lkX11_194 (rmL rfl rfl) (tho_think_c q n v2 X1) rfl rfl (Nat.le_of_ble_eq_true rfl) (fun X3 => ?_)
    refine g_aload_n 0 dX11_off_45 rfl rfl ?_
    refine g_getR 0 5 26 rfl dX11_off_46 rfl kkX11 flX11_51 (by decide) rfl rfl (by decide) rfl ?_
    refine g_iload_n 2 dX11_off_49 rfl rfl ?_
    refine g_cVIr (As := [.int v3]) (st := []) 1 mF_wg rfl dX11_off_50 rfl kkX9 (by decide) rfl vX9_offOf lkX11_198 (rmL rfl rfl) (tho_offOf_c q v3 X3) rfl rfl (Nat.le_of_ble_eq_true rfl) (fun c4 => ?_)
    exact g_iret dX11_off_53 rfl rfl
  refine g_ldc rfl dX11_off_34 rfl kcX11_129 ?_
  exact g_iret dX11_off_36 rfl rfl
theorem el_off_c (q : Th) (n : Nat) (v1 : Int32) (v2 : Int32) (v3 : Int32) (X : St) : Ct q nX11_off 6 fiw [.ref (q.ad 0), .int v1, .int v2, .int v3] X (el_off n v1 v2 v3 X) := by
  refine ct_of (by decide +kernel) (Nat.le_of_ble_eq_true rfl) ?_
  unfold el_off
  show G q _ _ 0 [(0, .ref (q.ad 0)), (1, .int v1), (2, .int v2), (3, .int v3)] [] X _
  refine g_aload_n 0 dX11_off_0 rfl rfl ?_
  refine g_iload_n 1 dX11_off_1 rfl rfl ?_
  refine g_iload_n 2 dX11_off_2 rfl rfl ?_
  refine g_if_lt dX11_off_3 rfl rfl ?_ ?_
  · refine g_iconst dX11_off_27 rfl kic_0 ?_
    refine g_sub [0, 2, 3] rfl ?_
    exact el_off_J28_g q n v2 v3 (0 : Int32) v1 X
  refine g_iload_n 2 dX11_off_6 rfl rfl ?_
  refine g_bipush dX11_off_7 rfl kbi_60 ?_
  refine g_icmp_gt dX11_off_9 rfl rfl ?_ ?_
  · refine g_iconst dX11_off_27 rfl kic_0 ?_
    refine g_sub [0, 2, 3] rfl ?_
    exact el_off_J28_g q n v2 v3 (0 : Int32) v1 X
  refine g_aload_n 0 dX11_off_12 rfl rfl ?_
  refine g_getR 0 0 1 rfl dX11_off_13 rfl kkX11 flX11_10 (by decide) rfl rfl (by decide) rfl ?_
  refine g_iload_n 3 dX11_off_16 rfl rfl ?_
  refine g_cVIt (As := [.int v3]) (st := [.int v1, .ref (q.ad 0)]) 1 mF_wg rfl dX11_off_17 rfl kkX5 (by decide) rfl vX5_has lkX11_137 (rmL rfl rfl) (poo_has_c q v3 X) rfl rfl (Nat.le_of_ble_eq_true rfl) ?_
  refine g_if_eq dX11_off_20 rfl rfl ?_ ?_
  · refine g_iconst dX11_off_27 rfl kic_0 ?_
    refine g_sub [0, 2, 3] rfl ?_
    exact el_off_J28_g q n v2 v3 (0 : Int32) v1 X
  refine g_iconst dX11_off_23 rfl kic_1 ?_
  refine g_goto dX11_off_24 rfl ?_
  refine g_sub [0, 2, 3] rfl ?_
  exact el_off_J28_g q n v2 v3 (1 : Int32) v1 X
def el_isZeroOrOne (v0 : Int32) : Int32 :=
  (if v0 = 0 then
  ((1 : Int32))
  else
  (if v0 = (1 : Int32) then
  ((1 : Int32))
  else
  ((0 : Int32))))
def el_isZeroOrOne_o (v0 : Int32) : Option Int32 :=
  (if v0 = 0 then
  (some (1 : Int32))
  else
  (if v0 = (1 : Int32) then
  (some (1 : Int32))
  else
  (some (0 : Int32))))
theorem el_isZeroOrOne_e (v0 : Int32) : el_isZeroOrOne_o v0 = some (el_isZeroOrOne v0) := by
  unfold el_isZeroOrOne_o el_isZeroOrOne
  simp only [apply_ite some]
theorem z_el_isZeroOrOne (v0 : Int32) : isZ (el_isZeroOrOne v0) = true := by
  unfold el_isZeroOrOne
  (repeat' split) <;> first | rfl
theorem el_isZeroOrOne_c (q : Th) (v0 : Int32) (X : St) : Ct q nX11_isZeroOrOne 0 (fir X) [.int v0] X (some (el_isZeroOrOne v0)) := by
  refine ct_of (by decide +kernel) (Nat.le_of_ble_eq_true rfl) ?_
  rw [← el_isZeroOrOne_e]
  unfold el_isZeroOrOne_o
  show G q _ _ 0 [(0, .int v0)] [] X _
  refine g_iload_n 0 dX11_isZeroOrOne_0 rfl rfl ?_
  refine g_if_eq dX11_isZeroOrOne_1 rfl rfl ?_ ?_
  · refine g_iconst dX11_isZeroOrOne_9 rfl kic_1 ?_
    refine g_goto dX11_isZeroOrOne_10 rfl ?_
    exact g_zret dX11_isZeroOrOne_14 rfl rfl rfl
  refine g_iload_n 0 dX11_isZeroOrOne_4 rfl rfl ?_
  refine g_iconst dX11_isZeroOrOne_5 rfl kic_1 ?_
  refine g_icmp_ne dX11_isZeroOrOne_6 rfl rfl ?_ ?_
  · refine g_iconst dX11_isZeroOrOne_9 rfl kic_1 ?_
    refine g_goto dX11_isZeroOrOne_10 rfl ?_
    exact g_zret dX11_isZeroOrOne_14 rfl rfl rfl
  refine g_iconst dX11_isZeroOrOne_13 rfl kic_0 ?_
  exact g_zret dX11_isZeroOrOne_14 rfl rfl rfl
def el_apart_J24 (n : Nat) (v2 : Int32) (v3 : Int32) (s0 : Int32) (s1 : Int32) (X : St) : Option (Int32 × St) :=
((el_begin n s1 s0 X).bind fun (c2, X1) =>
(if c2 = 0 then
((tho_think n v2 X1).bind fun X3 =>
(if v3 = 0 then
((tho_widest n X3).bind fun c4 =>
(some (c4, X3)))
else
((tho_widestTwo n X3).bind fun c5 =>
(some (c5, X3)))))
else
(some (c2, X1))))
def el_apart (n : Nat) (v1 : Int32) (v2 : Int32) (v3 : Int32) (X : St) : Option (Int32 × St) :=
  (if v2 < 0 then
  (el_apart_J24 n v2 v3 (0 : Int32) v1 X)
  else
  (if (60 : Int32) < v2 then
  (el_apart_J24 n v2 v3 (0 : Int32) v1 X)
  else
  (if (el_isZeroOrOne v3) = 0 then
  (el_apart_J24 n v2 v3 (0 : Int32) v1 X)
  else
  (el_apart_J24 n v2 v3 (1 : Int32) v1 X))))
theorem el_apart_J24_g (q : Th) (n : Nat) (v2 : Int32) (v3 : Int32) (s0 : Int32) (s1 : Int32) (X : St) : G q (mF q nX11_apart RX11 6) fiw 24 [(0, .ref (q.ad 0)), (2, .int v2), (3, .int v3)] [.int s0, .int s1, .ref (q.ad 0)] X (el_apart_J24 n v2 v3 s0 s1 X) := by
  unfold el_apart_J24
  refine g_cVIw (As := [.int s1, .int s0]) (st := []) 2 mF_wg rfl dX11_apart_24 rfl kkX11 (by decide) rfl vX11_begin lkX11_179 (rmL rfl rfl) (el_begin_c q n s1 s0 X) rfl rfl (Nat.le_of_ble_eq_true rfl) (fun c2 X1 => ?_)
  refine g_istore (lv' := [(4, .int c2), (0, .ref (q.ad 0)), (2, .int v2), (3, .int v3)]) dX11_apart_27 rfl (Nat.le_of_ble_eq_true rfl) rfl ?_
  refine g_iload 0 dX11_apart_29 rfl rfl ?_
  refine g_if_eq dX11_apart_31 rfl rfl ?_ ?_
  · refine g_aload_n 1 dX11_apart_37 rfl rfl ?_
    refine g_getR 0 5 26 rfl dX11_apart_38 rfl kkX11 flX11_51 (by decide) rfl rfl (by decide) rfl ?_
    refine g_iload_n 2 dX11_apart_41 rfl rfl ?_
    refine g_cVVw (As := [.int v2]) (st := []) 1 mF_wg rfl dX11_apart_42 rfl kkX9 (by decide) rfl vX9_think lkX11_194 (rmL rfl rfl) (tho_think_c q n v2 X1) rfl rfl (Nat.le_of_ble_eq_true rfl) (fun X3 => ?_)
    refine g_iload_n 3 dX11_apart_45 rfl rfl ?_
    refine g_if_ne dX11_apart_46 rfl rfl ?_ ?_
    · refine g_aload_n 1 dX11_apart_49 rfl rfl ?_
      refine g_getR 0 5 26 rfl dX11_apart_50 rfl kkX11 flX11_51 (by decide) rfl rfl (by decide) rfl ?_
      refine g_cVIr (As := []) (st := []) 0 mF_wg rfl dX11_apart_53 rfl kkX9 (by decide) rfl vX9_widest lkX11_204 (rmL rfl rfl) (tho_widest_c q n X3) rfl rfl (Nat.le_of_ble_eq_true rfl) (fun c4 => ?_)
      refine g_goto dX11_apart_56 rfl ?_
      exact g_iret dX11_apart_66 rfl rfl
    refine g_aload_n 1 dX11_apart_59 rfl rfl ?_
    refine g_getR 0 5 26 rfl dX11_apart_60 rfl kkX11 flX11_51 (by decide) rfl rfl (by decide) rfl ?_
    refine g_cVIr (As := []) (st := []) 0 mF_wg rfl dX11_apart_63 rfl kkX9 (by decide) rfl vX9_widestTwo lkX11_207 (rmL rfl rfl) (tho_widestTwo_c q n X3) rfl rfl (Nat.le_of_ble_eq_true rfl) (fun c5 => ?_)
    exact g_iret dX11_apart_66 rfl rfl
  refine g_iload 0 dX11_apart_34 rfl rfl ?_
  exact g_iret dX11_apart_36 rfl rfl
theorem el_apart_c (q : Th) (n : Nat) (v1 : Int32) (v2 : Int32) (v3 : Int32) (X : St) : Ct q nX11_apart 6 fiw [.ref (q.ad 0), .int v1, .int v2, .int v3] X (el_apart n v1 v2 v3 X) := by
  refine ct_of (by decide +kernel) (Nat.le_of_ble_eq_true rfl) ?_
  unfold el_apart
  show G q _ _ 0 [(0, .ref (q.ad 0)), (1, .int v1), (2, .int v2), (3, .int v3)] [] X _
  refine g_aload_n 0 dX11_apart_0 rfl rfl ?_
  refine g_iload_n 1 dX11_apart_1 rfl rfl ?_
  refine g_iload_n 2 dX11_apart_2 rfl rfl ?_
  refine g_if_lt dX11_apart_3 rfl rfl ?_ ?_
  · refine g_iconst dX11_apart_23 rfl kic_0 ?_
    refine g_sub [0, 2, 3] rfl ?_
    exact el_apart_J24_g q n v2 v3 (0 : Int32) v1 X
  refine g_iload_n 2 dX11_apart_6 rfl rfl ?_
  refine g_bipush dX11_apart_7 rfl kbi_60 ?_
  refine g_icmp_gt dX11_apart_9 rfl rfl ?_ ?_
  · refine g_iconst dX11_apart_23 rfl kic_0 ?_
    refine g_sub [0, 2, 3] rfl ?_
    exact el_apart_J24_g q n v2 v3 (0 : Int32) v1 X
  refine g_iload_n 3 dX11_apart_12 rfl rfl ?_
  refine g_cSIt (As := [.int v3]) (st := [.int v1, .ref (q.ad 0)]) 1 mF_wg rfl dX11_apart_13 rfl vX11_isZeroOrOne lkX11_201 (rmL rfl rfl) (el_isZeroOrOne_c q v3 X) rfl rfl (Nat.le_of_ble_eq_true rfl) ?_
  refine g_if_eq dX11_apart_16 rfl rfl ?_ ?_
  · refine g_iconst dX11_apart_23 rfl kic_0 ?_
    refine g_sub [0, 2, 3] rfl ?_
    exact el_apart_J24_g q n v2 v3 (0 : Int32) v1 X
  refine g_iconst dX11_apart_19 rfl kic_1 ?_
  refine g_goto dX11_apart_20 rfl ?_
  refine g_sub [0, 2, 3] rfl ?_
  exact el_apart_J24_g q n v2 v3 (1 : Int32) v1 X
def el_gone_J23 (n : Nat) (v2 : Int32) (s0 : Int32) (s1 : Int32) (X : St) : Option (Int32 × St) :=
((el_begin n s1 s0 X).bind fun (c2, X1) =>
(if c2 = 0 then
(if v2 = (-1 : Int32) then
((tho_allGone n X1).bind fun c3 =>
(some (c3, X1)))
else
((tho_goneOf n v2 X1).bind fun c4 =>
(some (c4, X1))))
else
(some (c2, X1))))
def el_gone (n : Nat) (v1 : Int32) (v2 : Int32) (X : St) : Option (Int32 × St) :=
  (if v2 = (-1 : Int32) then
  (el_gone_J23 n v2 (1 : Int32) v1 X)
  else
  (if (poo_has v2 X) = 0 then
  (el_gone_J23 n v2 (0 : Int32) v1 X)
  else
  (el_gone_J23 n v2 (1 : Int32) v1 X)))
theorem el_gone_J23_g (q : Th) (n : Nat) (v2 : Int32) (s0 : Int32) (s1 : Int32) (X : St) : G q (mF q nX11_gone RX11 6) fiw 23 [(0, .ref (q.ad 0)), (2, .int v2)] [.int s0, .int s1, .ref (q.ad 0)] X (el_gone_J23 n v2 s0 s1 X) := by
  unfold el_gone_J23
  refine g_cVIw (As := [.int s1, .int s0]) (st := []) 2 mF_wg rfl dX11_gone_23 rfl kkX11 (by decide) rfl vX11_begin lkX11_179 (rmL rfl rfl) (el_begin_c q n s1 s0 X) rfl rfl (Nat.le_of_ble_eq_true rfl) (fun c2 X1 => ?_)
  refine g_istore_n (lv' := [(3, .int c2), (0, .ref (q.ad 0)), (2, .int v2)]) dX11_gone_26 rfl rfl (Nat.le_of_ble_eq_true rfl) rfl ?_
  refine g_iload_n 0 dX11_gone_27 rfl rfl ?_
  refine g_if_eq dX11_gone_28 rfl rfl ?_ ?_
  · refine g_iload_n 2 dX11_gone_33 rfl rfl ?_
    refine g_iconst dX11_gone_34 rfl kic_m1 ?_
    refine g_icmp_ne dX11_gone_35 rfl rfl ?_ ?_
    · refine g_aload_n 1 dX11_gone_38 rfl rfl ?_
      refine g_getR 0 5 26 rfl dX11_gone_39 rfl kkX11 flX11_51 (by decide) rfl rfl (by decide) rfl ?_
      refine g_cVIr (As := []) (st := []) 0 mF_wg rfl dX11_gone_42 rfl kkX9 (by decide) rfl vX9_allGone lkX11_210 (rmL rfl rfl) (tho_allGone_c q n X1) rfl rfl (Nat.le_of_ble_eq_true rfl) (fun c3 => ?_)
      refine g_goto dX11_gone_45 rfl ?_
      exact g_iret dX11_gone_56 rfl rfl
    refine g_aload_n 1 dX11_gone_48 rfl rfl ?_
    refine g_getR 0 5 26 rfl dX11_gone_49 rfl kkX11 flX11_51 (by decide) rfl rfl (by decide) rfl ?_
    refine g_iload_n 2 dX11_gone_52 rfl rfl ?_
    refine g_cVIr (As := [.int v2]) (st := []) 1 mF_wg rfl dX11_gone_53 rfl kkX9 (by decide) rfl vX9_goneOf lkX11_213 (rmL rfl rfl) (tho_goneOf_c q n v2 X1) rfl rfl (Nat.le_of_ble_eq_true rfl) (fun c4 => ?_)
    exact g_iret dX11_gone_56 rfl rfl
  refine g_iload_n 0 dX11_gone_31 rfl rfl ?_
  exact g_iret dX11_gone_32 rfl rfl
theorem el_gone_c (q : Th) (n : Nat) (v1 : Int32) (v2 : Int32) (X : St) : Ct q nX11_gone 6 fiw [.ref (q.ad 0), .int v1, .int v2] X (el_gone n v1 v2 X) := by
  refine ct_of (by decide +kernel) (Nat.le_of_ble_eq_true rfl) ?_
  unfold el_gone
  show G q _ _ 0 [(0, .ref (q.ad 0)), (1, .int v1), (2, .int v2)] [] X _
  refine g_aload_n 0 dX11_gone_0 rfl rfl ?_
  refine g_iload_n 1 dX11_gone_1 rfl rfl ?_
  refine g_iload_n 2 dX11_gone_2 rfl rfl ?_
  refine g_iconst dX11_gone_3 rfl kic_m1 ?_
  refine g_icmp_eq dX11_gone_4 rfl rfl ?_ ?_
  · refine g_iconst dX11_gone_18 rfl kic_1 ?_
    refine g_goto dX11_gone_19 rfl ?_
    refine g_sub [0, 2] rfl ?_
    exact el_gone_J23_g q n v2 (1 : Int32) v1 X
  refine g_aload_n 0 dX11_gone_7 rfl rfl ?_
  refine g_getR 0 0 1 rfl dX11_gone_8 rfl kkX11 flX11_10 (by decide) rfl rfl (by decide) rfl ?_
  refine g_iload_n 2 dX11_gone_11 rfl rfl ?_
  refine g_cVIt (As := [.int v2]) (st := [.int v1, .ref (q.ad 0)]) 1 mF_wg rfl dX11_gone_12 rfl kkX5 (by decide) rfl vX5_has lkX11_137 (rmL rfl rfl) (poo_has_c q v2 X) rfl rfl (Nat.le_of_ble_eq_true rfl) ?_
  refine g_if_eq dX11_gone_15 rfl rfl ?_ ?_
  · refine g_iconst dX11_gone_22 rfl kic_0 ?_
    refine g_sub [0, 2] rfl ?_
    exact el_gone_J23_g q n v2 (0 : Int32) v1 X
  refine g_iconst dX11_gone_18 rfl kic_1 ?_
  refine g_goto dX11_gone_19 rfl ?_
  refine g_sub [0, 2] rfl ?_
  exact el_gone_J23_g q n v2 (1 : Int32) v1 X
def el_least (n : Nat) (v1 : Int32) (v2 : Int32) (X : St) : Option (Int32 × St) :=
  ((el_begin n v1 (poo_has v2 X) X).bind fun (c2, X1) =>
  (if c2 = 0 then
  ((poo_told (0 : Int32) (8 : Int32) X1).bind fun c3 =>
  ((rou_longest n c3 X1).bind fun c4 =>
  (some ((jmath_max (1 : Int32) c4), X1))))
  else
  (some (c2, X1))))
theorem el_least_c (q : Th) (n : Nat) (v1 : Int32) (v2 : Int32) (X : St) : Ct q nX11_least 6 fiw [.ref (q.ad 0), .int v1, .int v2] X (el_least n v1 v2 X) := by
  refine ct_of (by decide +kernel) (Nat.le_of_ble_eq_true rfl) ?_
  unfold el_least
  show G q _ _ 0 [(0, .ref (q.ad 0)), (1, .int v1), (2, .int v2)] [] X _
  refine g_aload_n 0 dX11_least_0 rfl rfl ?_
  refine g_iload_n 1 dX11_least_1 rfl rfl ?_
  refine g_aload_n 0 dX11_least_2 rfl rfl ?_
  refine g_getR 0 0 1 rfl dX11_least_3 rfl kkX11 flX11_10 (by decide) rfl rfl (by decide) rfl ?_
  refine g_iload_n 2 dX11_least_6 rfl rfl ?_
  refine g_cVIt (As := [.int v2]) (st := [.int v1, .ref (q.ad 0)]) 1 mF_wg rfl dX11_least_7 rfl kkX5 (by decide) rfl vX5_has lkX11_137 (rmL rfl rfl) (poo_has_c q v2 X) rfl rfl (Nat.le_of_ble_eq_true rfl) ?_
  refine g_cVIw (As := [.int v1, .int (poo_has v2 X)]) (st := []) 2 mF_wg rfl dX11_least_10 rfl kkX11 (by decide) rfl vX11_begin lkX11_179 (rmL rfl rfl) (el_begin_c q n v1 (poo_has v2 X) X) rfl rfl (Nat.le_of_ble_eq_true rfl) (fun c2 X1 => ?_)
  refine g_istore_n (lv' := [(3, .int c2), (0, .ref (q.ad 0)), (1, .int v1), (2, .int v2)]) dX11_least_13 rfl rfl (Nat.le_of_ble_eq_true rfl) rfl ?_
  refine g_iload_n 0 dX11_least_14 rfl rfl ?_
  refine g_if_eq dX11_least_15 rfl rfl ?_ ?_
  · refine g_iconst dX11_least_22 rfl kic_1 ?_
    refine g_aload_n 1 dX11_least_23 rfl rfl ?_
    refine g_getR 0 4 24 rfl dX11_least_24 rfl kkX11 flX11_42 (by decide) rfl rfl (by decide) rfl ?_
    refine g_aload_n 1 dX11_least_27 rfl rfl ?_
    refine g_getR 0 0 1 rfl dX11_least_28 rfl kkX11 flX11_10 (by decide) rfl rfl (by decide) rfl ?_
    refine g_iconst dX11_least_31 rfl kic_0 ?_
    refine g_bipush dX11_least_32 rfl kbi_8 ?_
    refine g_cVIr (As := [.int (0 : Int32), .int (8 : Int32)]) (st := [.ref (q.ad 24), .int (1 : Int32)]) 2 mF_wg rfl dX11_least_34 rfl kkX5 (by decide) rfl vX5_told lkX11_130 (rmL rfl rfl) (poo_told_c q (0 : Int32) (8 : Int32) X1) rfl rfl (Nat.le_of_ble_eq_true rfl) (fun c3 => ?_)
    refine g_cVIr (As := [.int c3]) (st := [.int (1 : Int32)]) 1 mF_wg rfl dX11_least_37 rfl kkX6 (by decide) rfl vX6_longest lkX11_216 (rmL rfl rfl) (rou_longest_c q n c3 X1) rfl rfl (Nat.le_of_ble_eq_true rfl) (fun c4 => ?_)
    refine g_mmax (st := []) rfl dX11_least_40 rfl lkX11_219 (rmL rfl rfl) (Nat.le_of_ble_eq_true rfl) ?_
    exact g_iret dX11_least_43 rfl rfl
  refine g_iload_n 0 dX11_least_18 rfl rfl ?_
  refine g_goto dX11_least_19 rfl ?_
  exact g_iret dX11_least_43 rfl rfl
def el_gasps_J12 (n : Nat) (v2 : Int32) (s0 : Int32) (s1 : Int32) (X : St) : Option (Int32 × St) :=
((el_begin n s1 s0 X).bind fun (c2, X1) =>
(if c2 = 0 then
(if (16 : Int32) < (rou_counts X1) then
(some ((-5 : Int32), X1))
else
((poo_leastBreath n X1).bind fun c3 =>
((poo_told (0 : Int32) (8 : Int32) X1).bind fun c4 =>
((few_chooseGasps n c3 c4 X1).bind fun X5 =>
((few_answer v2 X5).bind fun c6 =>
(some (c6, X5)))))))
else
(some (c2, X1))))
def el_gasps (n : Nat) (v1 : Int32) (v2 : Int32) (X : St) : Option (Int32 × St) :=
  (if v2 < (-1 : Int32) then
  (el_gasps_J12 n v2 (0 : Int32) v1 X)
  else
  (el_gasps_J12 n v2 (1 : Int32) v1 X))
theorem el_gasps_J12_g (q : Th) (n : Nat) (v2 : Int32) (s0 : Int32) (s1 : Int32) (X : St) : G q (mF q nX11_gasps RX11 7) fiw 12 [(0, .ref (q.ad 0)), (2, .int v2)] [.int s0, .int s1, .ref (q.ad 0)] X (el_gasps_J12 n v2 s0 s1 X) := by
  unfold el_gasps_J12
  refine g_cVIw (As := [.int s1, .int s0]) (st := []) 2 mF_wg rfl dX11_gasps_12 rfl kkX11 (by decide) rfl vX11_begin lkX11_179 (rmL rfl rfl) (el_begin_c q n s1 s0 X) rfl rfl (Nat.le_of_ble_eq_true rfl) (fun c2 X1 => ?_)
  refine g_istore_n (lv' := [(3, .int c2), (0, .ref (q.ad 0)), (2, .int v2)]) dX11_gasps_15 rfl rfl (Nat.le_of_ble_eq_true rfl) rfl ?_
  refine g_iload_n 0 dX11_gasps_16 rfl rfl ?_
  refine g_if_eq dX11_gasps_17 rfl rfl ?_ ?_
  · refine g_aload_n 1 dX11_gasps_22 rfl rfl ?_
    refine g_getR 0 4 24 rfl dX11_gasps_23 rfl kkX11 flX11_42 (by decide) rfl rfl (by decide) rfl ?_
    refine g_cVIt (As := []) (st := []) 0 mF_wg rfl dX11_gasps_26 rfl kkX6 (by decide) rfl vX6_counts lkX11_182 (rmL rfl rfl) (rou_counts_c q X1) rfl rfl (Nat.le_of_ble_eq_true rfl) ?_
    refine g_bipush dX11_gasps_29 rfl kbi_16 ?_
    refine g_icmp_le dX11_gasps_31 rfl rfl ?_ ?_
    · refine g_bipush dX11_gasps_34 rfl kbi_m5 ?_
      exact g_iret dX11_gasps_36 rfl rfl
    refine g_aload_n 1 dX11_gasps_37 rfl rfl ?_
    refine g_getR 0 6 57 rfl dX11_gasps_38 rfl kkX11 flX11_58 (by decide) rfl rfl (by decide) rfl ?_
    refine g_aload_n 1 dX11_gasps_41 rfl rfl ?_
    refine g_getR 0 4 24 rfl dX11_gasps_42 rfl kkX11 flX11_42 (by decide) rfl rfl (by decide) rfl ?_
    refine g_aload_n 1 dX11_gasps_45 rfl rfl ?_
    refine g_getR 0 0 1 rfl dX11_gasps_46 rfl kkX11 flX11_10 (by decide) rfl rfl (by decide) rfl ?_
    refine g_cVIr (As := []) (st := [.ref (q.ad 24), .ref (q.ad 57)]) 0 mF_wg rfl dX11_gasps_49 rfl kkX5 (by decide) rfl vX5_leastBreath lkX11_224 (rmL rfl rfl) (poo_leastBreath_c q n X1) rfl rfl (Nat.le_of_ble_eq_true rfl) (fun c3 => ?_)
    refine g_aload_n 1 dX11_gasps_52 rfl rfl ?_
    refine g_getR 0 0 1 rfl dX11_gasps_53 rfl kkX11 flX11_10 (by decide) rfl rfl (by decide) rfl ?_
    refine g_iconst dX11_gasps_56 rfl kic_0 ?_
    refine g_bipush dX11_gasps_57 rfl kbi_8 ?_
    refine g_cVIr (As := [.int (0 : Int32), .int (8 : Int32)]) (st := [.int c3, .ref (q.ad 24), .ref (q.ad 57)]) 2 mF_wg rfl dX11_gasps_59 rfl kkX5 (by decide) rfl vX5_told lkX11_130 (rmL rfl rfl) (poo_told_c q (0 : Int32) (8 : Int32) X1) rfl rfl (Nat.le_of_ble_eq_true rfl) (fun c4 => ?_)
    refine g_cVVw (As := [.ref (q.ad 24), .int c3, .int c4]) (st := []) 3 mF_wg rfl dX11_gasps_62 rfl kkX2 (by decide) rfl vX2_chooseGasps lkX11_227 (rmL rfl rfl) (few_chooseGasps_c q n c3 c4 X1) rfl rfl (Nat.le_of_ble_eq_true rfl) (fun X5 => ?_)
    refine g_aload_n 1 dX11_gasps_65 rfl rfl ?_
    refine g_getR 0 6 57 rfl dX11_gasps_66 rfl kkX11 flX11_58 (by decide) rfl rfl (by decide) rfl ?_
    refine g_iload_n 2 dX11_gasps_69 rfl rfl ?_
    refine g_cVIr (As := [.int v2]) (st := []) 1 mF_wg rfl dX11_gasps_70 rfl kkX2 (by decide) rfl vX2_answer lkX11_231 (rmL rfl rfl) (few_answer_c q v2 X5) rfl rfl (Nat.le_of_ble_eq_true rfl) (fun c6 => ?_)
    exact g_iret dX11_gasps_73 rfl rfl
  refine g_iload_n 0 dX11_gasps_20 rfl rfl ?_
  exact g_iret dX11_gasps_21 rfl rfl
theorem el_gasps_c (q : Th) (n : Nat) (v1 : Int32) (v2 : Int32) (X : St) : Ct q nX11_gasps 7 fiw [.ref (q.ad 0), .int v1, .int v2] X (el_gasps n v1 v2 X) := by
  refine ct_of (by decide +kernel) (Nat.le_of_ble_eq_true rfl) ?_
  unfold el_gasps
  show G q _ _ 0 [(0, .ref (q.ad 0)), (1, .int v1), (2, .int v2)] [] X _
  refine g_aload_n 0 dX11_gasps_0 rfl rfl ?_
  refine g_iload_n 1 dX11_gasps_1 rfl rfl ?_
  refine g_iload_n 2 dX11_gasps_2 rfl rfl ?_
  refine g_iconst dX11_gasps_3 rfl kic_m1 ?_
  refine g_icmp_lt dX11_gasps_4 rfl rfl ?_ ?_
  · refine g_iconst dX11_gasps_11 rfl kic_0 ?_
    refine g_sub [0, 2] rfl ?_
    exact el_gasps_J12_g q n v2 (0 : Int32) v1 X
  refine g_iconst dX11_gasps_7 rfl kic_1 ?_
  refine g_goto dX11_gasps_8 rfl ?_
  refine g_sub [0, 2] rfl ?_
  exact el_gasps_J12_g q n v2 (1 : Int32) v1 X
def el_looks_J12 (n : Nat) (v2 : Int32) (s0 : Int32) (s1 : Int32) (X : St) : Option (Int32 × St) :=
((el_begin n s1 s0 X).bind fun (c2, X1) =>
(if c2 = 0 then
(if (16 : Int32) < (rou_counts X1) then
(some ((-5 : Int32), X1))
else
((few_chooseLooks n X1).bind fun X3 =>
((few_answer v2 X3).bind fun c4 =>
(some (c4, X3)))))
else
(some (c2, X1))))
def el_looks (n : Nat) (v1 : Int32) (v2 : Int32) (X : St) : Option (Int32 × St) :=
  (if v2 < (-1 : Int32) then
  (el_looks_J12 n v2 (0 : Int32) v1 X)
  else
  (el_looks_J12 n v2 (1 : Int32) v1 X))
theorem el_looks_J12_g (q : Th) (n : Nat) (v2 : Int32) (s0 : Int32) (s1 : Int32) (X : St) : G q (mF q nX11_looks RX11 7) fiw 12 [(0, .ref (q.ad 0)), (2, .int v2)] [.int s0, .int s1, .ref (q.ad 0)] X (el_looks_J12 n v2 s0 s1 X) := by
  unfold el_looks_J12
  refine g_cVIw (As := [.int s1, .int s0]) (st := []) 2 mF_wg rfl dX11_looks_12 rfl kkX11 (by decide) rfl vX11_begin lkX11_179 (rmL rfl rfl) (el_begin_c q n s1 s0 X) rfl rfl (Nat.le_of_ble_eq_true rfl) (fun c2 X1 => ?_)
  refine g_istore_n (lv' := [(3, .int c2), (0, .ref (q.ad 0)), (2, .int v2)]) dX11_looks_15 rfl rfl (Nat.le_of_ble_eq_true rfl) rfl ?_
  refine g_iload_n 0 dX11_looks_16 rfl rfl ?_
  refine g_if_eq dX11_looks_17 rfl rfl ?_ ?_
  · refine g_aload_n 1 dX11_looks_22 rfl rfl ?_
    refine g_getR 0 4 24 rfl dX11_looks_23 rfl kkX11 flX11_42 (by decide) rfl rfl (by decide) rfl ?_
    refine g_cVIt (As := []) (st := []) 0 mF_wg rfl dX11_looks_26 rfl kkX6 (by decide) rfl vX6_counts lkX11_182 (rmL rfl rfl) (rou_counts_c q X1) rfl rfl (Nat.le_of_ble_eq_true rfl) ?_
    refine g_bipush dX11_looks_29 rfl kbi_16 ?_
    refine g_icmp_le dX11_looks_31 rfl rfl ?_ ?_
    · refine g_bipush dX11_looks_34 rfl kbi_m5 ?_
      exact g_iret dX11_looks_36 rfl rfl
    refine g_aload_n 1 dX11_looks_37 rfl rfl ?_
    refine g_getR 0 6 57 rfl dX11_looks_38 rfl kkX11 flX11_58 (by decide) rfl rfl (by decide) rfl ?_
    refine g_aload_n 1 dX11_looks_41 rfl rfl ?_
    refine g_getR 0 4 24 rfl dX11_looks_42 rfl kkX11 flX11_42 (by decide) rfl rfl (by decide) rfl ?_
    refine g_aload_n 1 dX11_looks_45 rfl rfl ?_
    refine g_getR 0 5 26 rfl dX11_looks_46 rfl kkX11 flX11_51 (by decide) rfl rfl (by decide) rfl ?_
    refine g_cVVw (As := [.ref (q.ad 24), .ref (q.ad 26)]) (st := []) 2 mF_wg rfl dX11_looks_49 rfl kkX2 (by decide) rfl vX2_chooseLooks lkX11_234 (rmL rfl rfl) (few_chooseLooks_c q n X1) rfl rfl (Nat.le_of_ble_eq_true rfl) (fun X3 => ?_)
    refine g_aload_n 1 dX11_looks_52 rfl rfl ?_
    refine g_getR 0 6 57 rfl dX11_looks_53 rfl kkX11 flX11_58 (by decide) rfl rfl (by decide) rfl ?_
    refine g_iload_n 2 dX11_looks_56 rfl rfl ?_
    refine g_cVIr (As := [.int v2]) (st := []) 1 mF_wg rfl dX11_looks_57 rfl kkX2 (by decide) rfl vX2_answer lkX11_231 (rmL rfl rfl) (few_answer_c q v2 X3) rfl rfl (Nat.le_of_ble_eq_true rfl) (fun c4 => ?_)
    exact g_iret dX11_looks_60 rfl rfl
  refine g_iload_n 0 dX11_looks_20 rfl rfl ?_
  exact g_iret dX11_looks_21 rfl rfl
theorem el_looks_c (q : Th) (n : Nat) (v1 : Int32) (v2 : Int32) (X : St) : Ct q nX11_looks 7 fiw [.ref (q.ad 0), .int v1, .int v2] X (el_looks n v1 v2 X) := by
  refine ct_of (by decide +kernel) (Nat.le_of_ble_eq_true rfl) ?_
  unfold el_looks
  show G q _ _ 0 [(0, .ref (q.ad 0)), (1, .int v1), (2, .int v2)] [] X _
  refine g_aload_n 0 dX11_looks_0 rfl rfl ?_
  refine g_iload_n 1 dX11_looks_1 rfl rfl ?_
  refine g_iload_n 2 dX11_looks_2 rfl rfl ?_
  refine g_iconst dX11_looks_3 rfl kic_m1 ?_
  refine g_icmp_lt dX11_looks_4 rfl rfl ?_ ?_
  · refine g_iconst dX11_looks_11 rfl kic_0 ?_
    refine g_sub [0, 2] rfl ?_
    exact el_looks_J12_g q n v2 (0 : Int32) v1 X
  refine g_iconst dX11_looks_7 rfl kic_1 ?_
  refine g_goto dX11_looks_8 rfl ?_
  refine g_sub [0, 2] rfl ?_
  exact el_looks_J12_g q n v2 (1 : Int32) v1 X
def el_fewestLost_J54 (n : Nat) (k9 : Int32 → Int32 → Int32 → Int32 → Int32 → St → Option (Int32 × St)) (v1 : Int32) (v2 : Int32) (v3 : Int32) (v4 : Int32) (v5 : Int32) (X : St) : Option (Int32 × St) :=
((tho_lost n X).bind fun (c4, X3) =>
(if v4 = (-2 : Int32) then
(k9 v1 v2 c4 v5 (v5 + (1 : Int32)) X3)
else
(if c4 < v3 then
(k9 v1 v2 c4 v5 (v5 + (1 : Int32)) X3)
else
(k9 v1 v2 v3 v4 (v5 + (1 : Int32)) X3))))
def el_fewestLost_L9_B (n : Nat) (k89 : Int32 → Int32 → Int32 → St → Option (Int32 × St)) (rec : Int32 → Int32 → Int32 → Int32 → Int32 → St → Option (Int32 × St)) (v1 : Int32) (v2 : Int32) (v3 : Int32) (v4 : Int32) (v5 : Int32) (X : St) : Option (Int32 × St) :=
(if v5 < (poo_many X) then
((tho_ready n X).bind fun X1 =>
(if v2 = 0 then
((tho_quicken v5 (0 : Int32) X1).bind fun X2 =>
(el_fewestLost_J54 n rec v1 v2 v3 v4 v5 X2))
else
((tho_leadBy v5 X1).bind fun X5 =>
(el_fewestLost_J54 n rec v1 v2 v3 v4 v5 X5))))
else
(k89 v1 v3 v4 X))
def el_fewestLost_L9 (n : Nat) (k89 : Int32 → Int32 → Int32 → St → Option (Int32 × St)) : Nat → Int32 → Int32 → Int32 → Int32 → Int32 → St → Option (Int32 × St)
  | 0 => fun _ _ _ _ _ _ => none
  | w + 1 => el_fewestLost_L9_B n k89 (el_fewestLost_L9 n k89 w)
def el_fewestLost (n : Nat) (v1 : Int32) (v2 : Int32) (X : St) : Option (Int32 × St) :=
  (el_fewestLost_L9 n (fun v7 v8 v9 X6 =>
  (if v7 = 0 then
  (if v9 = (-2 : Int32) then
  (some (v9, X6))
  else
  (some (v8, X6)))
  else
  (some (v9, X6)))) n v1 v2 (0 : Int32) (-2 : Int32) (0 : Int32) X)
theorem el_fewestLost_J54_g (q : Th) (n : Nat) (k9 : Int32 → Int32 → Int32 → Int32 → Int32 → St → Option (Int32 × St)) (hk9 : ∀ v1 v2 v3 v4 v5 X, G q (mF q nX11_fewestLost RX11 6) fiw 9 [(0, .ref (q.ad 0)), (1, .int v1), (2, .int v2), (3, .int v3), (4, .int v4), (5, .int v5)] [] X (k9 v1 v2 v3 v4 v5 X)) (v1 : Int32) (v2 : Int32) (v3 : Int32) (v4 : Int32) (v5 : Int32) (X : St) : G q (mF q nX11_fewestLost RX11 6) fiw 54 [(0, .ref (q.ad 0)), (1, .int v1), (2, .int v2), (3, .int v3), (4, .int v4), (5, .int v5)] [] X (el_fewestLost_J54 n k9 v1 v2 v3 v4 v5 X) := by
  unfold el_fewestLost_J54
  refine g_aload_n 0 dX11_fewestLost_54 rfl rfl ?_
  refine g_getR 0 5 26 rfl dX11_fewestLost_55 rfl kkX11 flX11_51 (by decide) rfl rfl (by decide) rfl ?_
  refine g_cVIw (As := []) (st := []) 0 mF_wg rfl dX11_fewestLost_58 rfl kkX9 (by decide) rfl vX9_lost lkX11_185 (rmL rfl rfl) (tho_lost_c q n X) rfl rfl (Nat.le_of_ble_eq_true rfl) (fun c4 X3 => ?_)
  refine g_istore (lv' := [(6, .int c4), (0, .ref (q.ad 0)), (1, .int v1), (2, .int v2), (3, .int v3), (4, .int v4), (5, .int v5)]) dX11_fewestLost_61 rfl (Nat.le_of_ble_eq_true rfl) rfl ?_
  refine g_iload 5 dX11_fewestLost_63 rfl rfl ?_
  refine g_bipush dX11_fewestLost_65 rfl kbi_m2 ?_
  refine g_icmp_eq dX11_fewestLost_67 rfl rfl ?_ ?_
  · refine g_iload 0 dX11_fewestLost_76 rfl rfl ?_
    refine g_istore_n (lv' := [(3, .int c4), (6, .int c4), (0, .ref (q.ad 0)), (1, .int v1), (2, .int v2), (4, .int v4), (5, .int v5)]) dX11_fewestLost_78 rfl rfl (Nat.le_of_ble_eq_true rfl) rfl ?_
    refine g_iload 6 dX11_fewestLost_79 rfl rfl ?_
    refine g_istore (lv' := [(4, .int v5), (3, .int c4), (6, .int c4), (0, .ref (q.ad 0)), (1, .int v1), (2, .int v2), (5, .int v5)]) dX11_fewestLost_81 rfl (Nat.le_of_ble_eq_true rfl) rfl ?_
    refine g_inc (lv' := [(5, .int (v5 + (1 : Int32))), (4, .int v5), (3, .int c4), (6, .int c4), (0, .ref (q.ad 0)), (1, .int v1), (2, .int v2)]) 6 dX11_fewestLost_83 rfl rfl kic_1 (Nat.le_of_ble_eq_true rfl) rfl ?_
    refine g_goto dX11_fewestLost_86 rfl ?_
    refine g_sub [4, 5, 6, 2, 1, 0] rfl ?_
    exact hk9 v1 v2 c4 v5 (v5 + (1 : Int32)) X3
  refine g_iload 0 dX11_fewestLost_70 rfl rfl ?_
  refine g_iload_n 4 dX11_fewestLost_72 rfl rfl ?_
  refine g_icmp_ge dX11_fewestLost_73 rfl rfl ?_ ?_
  · refine g_iload 0 dX11_fewestLost_76 rfl rfl ?_
    refine g_istore_n (lv' := [(3, .int c4), (6, .int c4), (0, .ref (q.ad 0)), (1, .int v1), (2, .int v2), (4, .int v4), (5, .int v5)]) dX11_fewestLost_78 rfl rfl (Nat.le_of_ble_eq_true rfl) rfl ?_
    refine g_iload 6 dX11_fewestLost_79 rfl rfl ?_
    refine g_istore (lv' := [(4, .int v5), (3, .int c4), (6, .int c4), (0, .ref (q.ad 0)), (1, .int v1), (2, .int v2), (5, .int v5)]) dX11_fewestLost_81 rfl (Nat.le_of_ble_eq_true rfl) rfl ?_
    refine g_inc (lv' := [(5, .int (v5 + (1 : Int32))), (4, .int v5), (3, .int c4), (6, .int c4), (0, .ref (q.ad 0)), (1, .int v1), (2, .int v2)]) 6 dX11_fewestLost_83 rfl rfl kic_1 (Nat.le_of_ble_eq_true rfl) rfl ?_
    refine g_goto dX11_fewestLost_86 rfl ?_
    refine g_sub [4, 5, 6, 2, 1, 0] rfl ?_
    exact hk9 v1 v2 c4 v5 (v5 + (1 : Int32)) X3
  refine g_inc (lv' := [(5, .int (v5 + (1 : Int32))), (6, .int c4), (0, .ref (q.ad 0)), (1, .int v1), (2, .int v2), (3, .int v3), (4, .int v4)]) 6 dX11_fewestLost_83 rfl rfl kic_1 (Nat.le_of_ble_eq_true rfl) rfl ?_
  refine g_goto dX11_fewestLost_86 rfl ?_
  refine g_sub [2, 3, 4, 5, 6, 0] rfl ?_
  exact hk9 v1 v2 v3 v4 (v5 + (1 : Int32)) X3
theorem el_fewestLost_L9_Bg (q : Th) (n : Nat) (k89 : Int32 → Int32 → Int32 → St → Option (Int32 × St)) (hk89 : ∀ v1 v3 v4 X, G q (mF q nX11_fewestLost RX11 6) fiw 89 [(1, .int v1), (3, .int v3), (4, .int v4)] [] X (k89 v1 v3 v4 X)) (rec : Int32 → Int32 → Int32 → Int32 → Int32 → St → Option (Int32 × St)) (hrec : ∀ v1 v2 v3 v4 v5 X, G q (mF q nX11_fewestLost RX11 6) fiw 9 [(0, .ref (q.ad 0)), (1, .int v1), (2, .int v2), (3, .int v3), (4, .int v4), (5, .int v5)] [] X (rec v1 v2 v3 v4 v5 X)) (v1 : Int32) (v2 : Int32) (v3 : Int32) (v4 : Int32) (v5 : Int32) (X : St) : G q (mF q nX11_fewestLost RX11 6) fiw 9 [(0, .ref (q.ad 0)), (1, .int v1), (2, .int v2), (3, .int v3), (4, .int v4), (5, .int v5)] [] X (el_fewestLost_L9_B n k89 rec v1 v2 v3 v4 v5 X) := by
  unfold el_fewestLost_L9_B
  refine g_iload 5 dX11_fewestLost_9 rfl rfl ?_
  refine g_aload_n 0 dX11_fewestLost_11 rfl rfl ?_
  refine g_getR 0 0 1 rfl dX11_fewestLost_12 rfl kkX11 flX11_10 (by decide) rfl rfl (by decide) rfl ?_
  refine g_cVIt (As := []) (st := [.int v5]) 0 mF_wg rfl dX11_fewestLost_15 rfl kkX5 (by decide) rfl vX5_many lkX11_245 (rmL rfl rfl) (poo_many_c q X) rfl rfl (Nat.le_of_ble_eq_true rfl) ?_
  refine g_icmp_ge dX11_fewestLost_18 rfl rfl ?_ ?_
  · refine g_aload_n 0 dX11_fewestLost_21 rfl rfl ?_
    refine g_getR 0 5 26 rfl dX11_fewestLost_22 rfl kkX11 flX11_51 (by decide) rfl rfl (by decide) rfl ?_
    refine g_cVVw (As := []) (st := []) 0 mF_wg rfl dX11_fewestLost_25 rfl kkX9 (by decide) rfl vX9_ready lkX11_172 (rmL rfl rfl) (tho_ready_c q n X) rfl rfl (Nat.le_of_ble_eq_true rfl) (fun X1 => ?_)
    refine g_iload_n 2 dX11_fewestLost_28 rfl rfl ?_
    refine g_if_eq dX11_fewestLost_29 rfl rfl ?_ ?_
    · refine g_aload_n 0 dX11_fewestLost_44 rfl rfl ?_
      refine g_getR 0 5 26 rfl dX11_fewestLost_45 rfl kkX11 flX11_51 (by decide) rfl rfl (by decide) rfl ?_
      refine g_iload 5 dX11_fewestLost_48 rfl rfl ?_
      refine g_iconst dX11_fewestLost_50 rfl kic_0 ?_
      refine g_cVVw (As := [.int v5, .int (0 : Int32)]) (st := []) 2 mF_wg rfl dX11_fewestLost_51 rfl kkX9 (by decide) rfl vX9_quicken lkX11_280 (rmL rfl rfl) (tho_quicken_c q v5 (0 : Int32) X1) rfl rfl (Nat.le_of_ble_eq_true rfl) (fun X2 => ?_)
      refine g_sub [0, 1, 2, 3, 4, 5] rfl ?_
      exact el_fewestLost_J54_g q n _ hrec v1 v2 v3 v4 v5 X2
    refine g_aload_n 0 dX11_fewestLost_32 rfl rfl ?_
    refine g_getR 0 5 26 rfl dX11_fewestLost_33 rfl kkX11 flX11_51 (by decide) rfl rfl (by decide) rfl ?_
    refine g_iload 5 dX11_fewestLost_36 rfl rfl ?_
    refine g_cVVw (As := [.int v5]) (st := []) 1 mF_wg rfl dX11_fewestLost_38 rfl kkX9 (by decide) rfl vX9_leadBy lkX11_273 (rmL rfl rfl) (tho_leadBy_c q v5 X1) rfl rfl (Nat.le_of_ble_eq_true rfl) (fun X5 => ?_)
    refine g_goto dX11_fewestLost_41 rfl ?_
    refine g_sub [0, 1, 2, 3, 4, 5] rfl ?_
    exact el_fewestLost_J54_g q n _ hrec v1 v2 v3 v4 v5 X5
  refine g_sub [1, 3, 4] rfl ?_
  exact hk89 v1 v3 v4 X
theorem el_fewestLost_L9_g (q : Th) (n : Nat) (k89 : Int32 → Int32 → Int32 → St → Option (Int32 × St)) (hk89 : ∀ v1 v3 v4 X, G q (mF q nX11_fewestLost RX11 6) fiw 89 [(1, .int v1), (3, .int v3), (4, .int v4)] [] X (k89 v1 v3 v4 X)) : ∀ (w : Nat) (v1 : Int32) (v2 : Int32) (v3 : Int32) (v4 : Int32) (v5 : Int32) (X : St), G q (mF q nX11_fewestLost RX11 6) fiw 9 [(0, .ref (q.ad 0)), (1, .int v1), (2, .int v2), (3, .int v3), (4, .int v4), (5, .int v5)] [] X (el_fewestLost_L9 n k89 w v1 v2 v3 v4 v5 X) := by
  intro w
  induction w with
  | zero => intro v1 v2 v3 v4 v5 X; exact g_none
  | succ w ih => intro v1 v2 v3 v4 v5 X; exact el_fewestLost_L9_Bg q n k89 hk89 _ ih v1 v2 v3 v4 v5 X
theorem el_fewestLost_c (q : Th) (n : Nat) (v1 : Int32) (v2 : Int32) (X : St) : Ct q nX11_fewestLost 6 fiw [.ref (q.ad 0), .int v1, .int v2] X (el_fewestLost n v1 v2 X) := by
  refine ct_of (by decide +kernel) (Nat.le_of_ble_eq_true rfl) ?_
  unfold el_fewestLost
  show G q _ _ 0 [(0, .ref (q.ad 0)), (1, .int v1), (2, .int v2)] [] X _
  refine g_iconst dX11_fewestLost_0 rfl kic_0 ?_
  refine g_istore_n (lv' := [(3, .int (0 : Int32)), (0, .ref (q.ad 0)), (1, .int v1), (2, .int v2)]) dX11_fewestLost_1 rfl rfl (Nat.le_of_ble_eq_true rfl) rfl ?_
  refine g_bipush dX11_fewestLost_2 rfl kbi_m2 ?_
  refine g_istore (lv' := [(4, .int (-2 : Int32)), (3, .int (0 : Int32)), (0, .ref (q.ad 0)), (1, .int v1), (2, .int v2)]) dX11_fewestLost_4 rfl (Nat.le_of_ble_eq_true rfl) rfl ?_
  refine g_iconst dX11_fewestLost_6 rfl kic_0 ?_
  refine g_istore (lv' := [(5, .int (0 : Int32)), (4, .int (-2 : Int32)), (3, .int (0 : Int32)), (0, .ref (q.ad 0)), (1, .int v1), (2, .int v2)]) dX11_fewestLost_7 rfl (Nat.le_of_ble_eq_true rfl) rfl ?_
  refine g_sub [3, 4, 5, 2, 1, 0] rfl ?_
  refine el_fewestLost_L9_g q n _ (fun v7 v8 v9 X6 => ?_) n v1 v2 (0 : Int32) (-2 : Int32) (0 : Int32) X
  refine g_iload_n 0 dX11_fewestLost_89 rfl rfl ?_
  refine g_if_ne dX11_fewestLost_90 rfl rfl ?_ ?_
  · refine g_iload 2 dX11_fewestLost_93 rfl rfl ?_
    refine g_bipush dX11_fewestLost_95 rfl kbi_m2 ?_
    refine g_icmp_ne dX11_fewestLost_97 rfl rfl ?_ ?_
    · refine g_iload 2 dX11_fewestLost_100 rfl rfl ?_
      refine g_goto dX11_fewestLost_102 rfl ?_
      exact g_iret dX11_fewestLost_106 rfl rfl
    refine g_iload_n 1 dX11_fewestLost_105 rfl rfl ?_
    exact g_iret dX11_fewestLost_106 rfl rfl
  refine g_iload 2 dX11_fewestLost_100 rfl rfl ?_
  refine g_goto dX11_fewestLost_102 rfl ?_
  exact g_iret dX11_fewestLost_106 rfl rfl
def el_whose (n : Nat) (v1 : Int32) (v2 : Int32) (X : St) : Option (Int32 × St) :=
  ((el_begin n v1 (el_isZeroOrOne v2) X).bind fun (c2, X1) =>
  (if c2 = 0 then
  (if v2 = 0 then
  ((el_fewestLost n (1 : Int32) (1 : Int32) X1).bind fun (c4, X3) =>
  (some (c4, X3)))
  else
  ((el_fewestLost n (0 : Int32) (1 : Int32) X1).bind fun (c6, X5) =>
  (some (c6, X5))))
  else
  (some (c2, X1))))
theorem el_whose_c (q : Th) (n : Nat) (v1 : Int32) (v2 : Int32) (X : St) : Ct q nX11_whose 7 fiw [.ref (q.ad 0), .int v1, .int v2] X (el_whose n v1 v2 X) := by
  refine ct_of (by decide +kernel) (Nat.le_of_ble_eq_true rfl) ?_
  unfold el_whose
  show G q _ _ 0 [(0, .ref (q.ad 0)), (1, .int v1), (2, .int v2)] [] X _
  refine g_aload_n 0 dX11_whose_0 rfl rfl ?_
  refine g_iload_n 1 dX11_whose_1 rfl rfl ?_
  refine g_iload_n 2 dX11_whose_2 rfl rfl ?_
  refine g_cSIt (As := [.int v2]) (st := [.int v1, .ref (q.ad 0)]) 1 mF_wg rfl dX11_whose_3 rfl vX11_isZeroOrOne lkX11_201 (rmL rfl rfl) (el_isZeroOrOne_c q v2 X) rfl rfl (Nat.le_of_ble_eq_true rfl) ?_
  refine g_cVIw (As := [.int v1, .int (el_isZeroOrOne v2)]) (st := []) 2 mF_wg rfl dX11_whose_6 rfl kkX11 (by decide) rfl vX11_begin lkX11_179 (rmL rfl rfl) (el_begin_c q n v1 (el_isZeroOrOne v2) X) rfl rfl (Nat.le_of_ble_eq_true rfl) (fun c2 X1 => ?_)
  refine g_istore_n (lv' := [(3, .int c2), (0, .ref (q.ad 0)), (1, .int v1), (2, .int v2)]) dX11_whose_9 rfl rfl (Nat.le_of_ble_eq_true rfl) rfl ?_
  refine g_iload_n 0 dX11_whose_10 rfl rfl ?_
  refine g_if_eq dX11_whose_11 rfl rfl ?_ ?_
  · refine g_aload_n 1 dX11_whose_18 rfl rfl ?_
    refine g_iload_n 3 dX11_whose_19 rfl rfl ?_
    refine g_if_ne dX11_whose_20 rfl rfl ?_ ?_
    · refine g_iconst dX11_whose_23 rfl kic_1 ?_
      refine g_goto dX11_whose_24 rfl ?_
      refine g_iconst dX11_whose_28 rfl kic_1 ?_
      refine g_cVIw (As := [.int (1 : Int32), .int (1 : Int32)]) (st := []) 2 mF_wg rfl dX11_whose_29 rfl kkX11 (by decide) rfl vX11_fewestLost lkX11_238 (rmL rfl rfl) (el_fewestLost_c q n (1 : Int32) (1 : Int32) X1) rfl rfl (Nat.le_of_ble_eq_true rfl) (fun c4 X3 => ?_)
      exact g_iret dX11_whose_32 rfl rfl
    refine g_iconst dX11_whose_27 rfl kic_0 ?_
    refine g_iconst dX11_whose_28 rfl kic_1 ?_
    refine g_cVIw (As := [.int (0 : Int32), .int (1 : Int32)]) (st := []) 2 mF_wg rfl dX11_whose_29 rfl kkX11 (by decide) rfl vX11_fewestLost lkX11_238 (rmL rfl rfl) (el_fewestLost_c q n (0 : Int32) (1 : Int32) X1) rfl rfl (Nat.le_of_ble_eq_true rfl) (fun c6 X5 => ?_)
    exact g_iret dX11_whose_32 rfl rfl
  refine g_iload_n 0 dX11_whose_14 rfl rfl ?_
  refine g_goto dX11_whose_15 rfl ?_
  exact g_iret dX11_whose_32 rfl rfl
def el_first (n : Nat) (v1 : Int32) (v2 : Int32) (X : St) : Option (Int32 × St) :=
  ((el_begin n v1 (el_isZeroOrOne v2) X).bind fun (c2, X1) =>
  (if c2 = 0 then
  (if v2 = 0 then
  ((el_fewestLost n (1 : Int32) (0 : Int32) X1).bind fun (c4, X3) =>
  (some (c4, X3)))
  else
  ((el_fewestLost n (0 : Int32) (0 : Int32) X1).bind fun (c6, X5) =>
  (some (c6, X5))))
  else
  (some (c2, X1))))
theorem el_first_c (q : Th) (n : Nat) (v1 : Int32) (v2 : Int32) (X : St) : Ct q nX11_first 7 fiw [.ref (q.ad 0), .int v1, .int v2] X (el_first n v1 v2 X) := by
  refine ct_of (by decide +kernel) (Nat.le_of_ble_eq_true rfl) ?_
  unfold el_first
  show G q _ _ 0 [(0, .ref (q.ad 0)), (1, .int v1), (2, .int v2)] [] X _
  refine g_aload_n 0 dX11_first_0 rfl rfl ?_
  refine g_iload_n 1 dX11_first_1 rfl rfl ?_
  refine g_iload_n 2 dX11_first_2 rfl rfl ?_
  refine g_cSIt (As := [.int v2]) (st := [.int v1, .ref (q.ad 0)]) 1 mF_wg rfl dX11_first_3 rfl vX11_isZeroOrOne lkX11_201 (rmL rfl rfl) (el_isZeroOrOne_c q v2 X) rfl rfl (Nat.le_of_ble_eq_true rfl) ?_
  refine g_cVIw (As := [.int v1, .int (el_isZeroOrOne v2)]) (st := []) 2 mF_wg rfl dX11_first_6 rfl kkX11 (by decide) rfl vX11_begin lkX11_179 (rmL rfl rfl) (el_begin_c q n v1 (el_isZeroOrOne v2) X) rfl rfl (Nat.le_of_ble_eq_true rfl) (fun c2 X1 => ?_)
  refine g_istore_n (lv' := [(3, .int c2), (0, .ref (q.ad 0)), (1, .int v1), (2, .int v2)]) dX11_first_9 rfl rfl (Nat.le_of_ble_eq_true rfl) rfl ?_
  refine g_iload_n 0 dX11_first_10 rfl rfl ?_
  refine g_if_eq dX11_first_11 rfl rfl ?_ ?_
  · refine g_aload_n 1 dX11_first_18 rfl rfl ?_
    refine g_iload_n 3 dX11_first_19 rfl rfl ?_
    refine g_if_ne dX11_first_20 rfl rfl ?_ ?_
    · refine g_iconst dX11_first_23 rfl kic_1 ?_
      refine g_goto dX11_first_24 rfl ?_
      refine g_iconst dX11_first_28 rfl kic_0 ?_
      refine g_cVIw (As := [.int (1 : Int32), .int (0 : Int32)]) (st := []) 2 mF_wg rfl dX11_first_29 rfl kkX11 (by decide) rfl vX11_fewestLost lkX11_238 (rmL rfl rfl) (el_fewestLost_c q n (1 : Int32) (0 : Int32) X1) rfl rfl (Nat.le_of_ble_eq_true rfl) (fun c4 X3 => ?_)
      exact g_iret dX11_first_32 rfl rfl
    refine g_iconst dX11_first_27 rfl kic_0 ?_
    refine g_iconst dX11_first_28 rfl kic_0 ?_
    refine g_cVIw (As := [.int (0 : Int32), .int (0 : Int32)]) (st := []) 2 mF_wg rfl dX11_first_29 rfl kkX11 (by decide) rfl vX11_fewestLost lkX11_238 (rmL rfl rfl) (el_fewestLost_c q n (0 : Int32) (0 : Int32) X1) rfl rfl (Nat.le_of_ble_eq_true rfl) (fun c6 X5 => ?_)
    exact g_iret dX11_first_32 rfl rfl
  refine g_iload_n 0 dX11_first_14 rfl rfl ?_
  refine g_goto dX11_first_15 rfl ?_
  exact g_iret dX11_first_32 rfl rfl
def el_slip_J44 (n : Nat) (v1 : Int32) (v2 : Int32) (v3 : Int32) (s0 : Int32) (X : St) : Option (Int32 × St) :=
((el_begin n v1 s0 X).bind fun (c2, X1) =>
(if c2 = 0 then
((tho_slipAt (v2 / (100 : Int32)) (irm v2 (100 : Int32)) v3 X1).bind fun X3 =>
((tho_lost n X3).bind fun (c5, X4) =>
(some (c5, X4))))
else
(some (c2, X1))))
def el_slip (n : Nat) (v1 : Int32) (v2 : Int32) (v3 : Int32) (X : St) : Option (Int32 × St) :=
  (if v2 < 0 then
  (el_slip_J44 n v1 v2 v3 (0 : Int32) X)
  else
  (if (poo_has (v2 / (100 : Int32)) X) = 0 then
  (el_slip_J44 n v1 v2 v3 (0 : Int32) X)
  else
  (if (irm v2 (100 : Int32)) < (60 : Int32) then
  (if v3 < (-99 : Int32) then
  (el_slip_J44 n v1 v2 v3 (0 : Int32) X)
  else
  (if (99 : Int32) < v3 then
  (el_slip_J44 n v1 v2 v3 (0 : Int32) X)
  else
  (el_slip_J44 n v1 v2 v3 (1 : Int32) X)))
  else
  (el_slip_J44 n v1 v2 v3 (0 : Int32) X))))
theorem el_slip_J44_g (q : Th) (n : Nat) (v1 : Int32) (v2 : Int32) (v3 : Int32) (s0 : Int32) (X : St) : G q (mF q nX11_slip RX11 6) fiw 44 [(0, .ref (q.ad 0)), (1, .int v1), (2, .int v2), (3, .int v3)] [.int s0] X (el_slip_J44 n v1 v2 v3 s0 X) := by
  unfold el_slip_J44
  refine g_istore (lv' := [(4, .int s0), (0, .ref (q.ad 0)), (1, .int v1), (2, .int v2), (3, .int v3)]) dX11_slip_44 rfl (Nat.le_of_ble_eq_true rfl) rfl ?_
  refine g_aload_n 1 dX11_slip_46 rfl rfl ?_
  refine g_iload_n 2 dX11_slip_47 rfl rfl ?_
  refine g_iload 0 dX11_slip_48 rfl rfl ?_
  refine g_cVIw (As := [.int v1, .int s0]) (st := []) 2 mF_wg rfl dX11_slip_50 rfl kkX11 (by decide) rfl vX11_begin lkX11_179 (rmL rfl rfl) (el_begin_c q n v1 s0 X) rfl rfl (Nat.le_of_ble_eq_true rfl) (fun c2 X1 => ?_)
  refine g_istore (lv' := [(5, .int c2), (4, .int s0), (0, .ref (q.ad 0)), (1, .int v1), (2, .int v2), (3, .int v3)]) dX11_slip_53 rfl (Nat.le_of_ble_eq_true rfl) rfl ?_
  refine g_iload 0 dX11_slip_55 rfl rfl ?_
  refine g_if_eq dX11_slip_57 rfl rfl ?_ ?_
  · refine g_aload_n 2 dX11_slip_63 rfl rfl ?_
    refine g_getR 0 5 26 rfl dX11_slip_64 rfl kkX11 flX11_51 (by decide) rfl rfl (by decide) rfl ?_
    refine g_iload_n 4 dX11_slip_67 rfl rfl ?_
    refine g_bipush dX11_slip_68 rfl kbi_100 ?_
    refine g_idivC dX11_slip_70 rfl (by decide) ?_
    refine g_iload_n 4 dX11_slip_71 rfl rfl ?_
    refine g_bipush dX11_slip_72 rfl kbi_100 ?_
    refine g_iremC dX11_slip_74 rfl (by decide) ?_
    refine g_iload_n 5 dX11_slip_75 rfl rfl ?_
    refine g_cVVw (As := [.int (v2 / (100 : Int32)), .int (irm v2 (100 : Int32)), .int v3]) (st := []) 3 mF_wg rfl dX11_slip_76 rfl kkX9 (by decide) rfl vX9_slipAt lkX11_242 (rmL rfl rfl) (tho_slipAt_c q (v2 / (100 : Int32)) (irm v2 (100 : Int32)) v3 X1) rfl rfl (Nat.le_of_ble_eq_true rfl) (fun X3 => ?_)
    refine g_aload_n 2 dX11_slip_79 rfl rfl ?_
    refine g_getR 0 5 26 rfl dX11_slip_80 rfl kkX11 flX11_51 (by decide) rfl rfl (by decide) rfl ?_
    refine g_cVIw (As := []) (st := []) 0 mF_wg rfl dX11_slip_83 rfl kkX9 (by decide) rfl vX9_lost lkX11_185 (rmL rfl rfl) (tho_lost_c q n X3) rfl rfl (Nat.le_of_ble_eq_true rfl) (fun c5 X4 => ?_)
    exact g_iret dX11_slip_86 rfl rfl
  refine g_iload 0 dX11_slip_60 rfl rfl ?_
  exact g_iret dX11_slip_62 rfl rfl
theorem el_slip_c (q : Th) (n : Nat) (v1 : Int32) (v2 : Int32) (v3 : Int32) (X : St) : Ct q nX11_slip 6 fiw [.ref (q.ad 0), .int v1, .int v2, .int v3] X (el_slip n v1 v2 v3 X) := by
  refine ct_of (by decide +kernel) (Nat.le_of_ble_eq_true rfl) ?_
  unfold el_slip
  show G q _ _ 0 [(0, .ref (q.ad 0)), (1, .int v1), (2, .int v2), (3, .int v3)] [] X _
  refine g_iload_n 2 dX11_slip_0 rfl rfl ?_
  refine g_if_lt dX11_slip_1 rfl rfl ?_ ?_
  · refine g_iconst dX11_slip_43 rfl kic_0 ?_
    refine g_sub [0, 1, 2, 3] rfl ?_
    exact el_slip_J44_g q n v1 v2 v3 (0 : Int32) X
  refine g_aload_n 0 dX11_slip_4 rfl rfl ?_
  refine g_getR 0 0 1 rfl dX11_slip_5 rfl kkX11 flX11_10 (by decide) rfl rfl (by decide) rfl ?_
  refine g_iload_n 2 dX11_slip_8 rfl rfl ?_
  refine g_bipush dX11_slip_9 rfl kbi_100 ?_
  refine g_idivC dX11_slip_11 rfl (by decide) ?_
  refine g_cVIt (As := [.int (v2 / (100 : Int32))]) (st := []) 1 mF_wg rfl dX11_slip_12 rfl kkX5 (by decide) rfl vX5_has lkX11_137 (rmL rfl rfl) (poo_has_c q (v2 / (100 : Int32)) X) rfl rfl (Nat.le_of_ble_eq_true rfl) ?_
  refine g_if_eq dX11_slip_15 rfl rfl ?_ ?_
  · refine g_iconst dX11_slip_43 rfl kic_0 ?_
    refine g_sub [0, 1, 2, 3] rfl ?_
    exact el_slip_J44_g q n v1 v2 v3 (0 : Int32) X
  refine g_iload_n 2 dX11_slip_18 rfl rfl ?_
  refine g_bipush dX11_slip_19 rfl kbi_100 ?_
  refine g_iremC dX11_slip_21 rfl (by decide) ?_
  refine g_bipush dX11_slip_22 rfl kbi_60 ?_
  refine g_icmp_ge dX11_slip_24 rfl rfl ?_ ?_
  · refine g_iload_n 3 dX11_slip_27 rfl rfl ?_
    refine g_bipush dX11_slip_28 rfl kbi_m99 ?_
    refine g_icmp_lt dX11_slip_30 rfl rfl ?_ ?_
    · refine g_iconst dX11_slip_43 rfl kic_0 ?_
      refine g_sub [0, 1, 2, 3] rfl ?_
      exact el_slip_J44_g q n v1 v2 v3 (0 : Int32) X
    refine g_iload_n 3 dX11_slip_33 rfl rfl ?_
    refine g_bipush dX11_slip_34 rfl kbi_99 ?_
    refine g_icmp_gt dX11_slip_36 rfl rfl ?_ ?_
    · refine g_iconst dX11_slip_43 rfl kic_0 ?_
      refine g_sub [0, 1, 2, 3] rfl ?_
      exact el_slip_J44_g q n v1 v2 v3 (0 : Int32) X
    refine g_iconst dX11_slip_39 rfl kic_1 ?_
    refine g_goto dX11_slip_40 rfl ?_
    refine g_sub [0, 1, 2, 3] rfl ?_
    exact el_slip_J44_g q n v1 v2 v3 (1 : Int32) X
  refine g_iconst dX11_slip_43 rfl kic_0 ?_
  refine g_sub [0, 1, 2, 3] rfl ?_
  exact el_slip_J44_g q n v1 v2 v3 (0 : Int32) X
def el_line (n : Nat) (v1 : Int32) (v2 : Int32) (X : St) : Option (Int32 × St) :=
  (if v1 < 0 then
  (some ((-1 : Int32), X))
  else
  (if (9 : Int32) < v1 then
  (some ((-1 : Int32), X))
  else
  (if v2 < (-1 : Int32) then
  (some ((-1 : Int32), X))
  else
  (if (6 : Int32) < (poo_many X) then
  (some ((-5 : Int32), X))
  else
  ((gro_lineUp n v1 X).bind fun (c2, X1) =>
  (if v2 = (-1 : Int32) then
  (some (c2, X1))
  else
  ((gro_inLine v2 X1).bind fun c3 =>
  (some (c3, X1)))))))))
theorem el_line_c (q : Th) (n : Nat) (v1 : Int32) (v2 : Int32) (X : St) : Ct q nX11_line 5 fiw [.ref (q.ad 0), .int v1, .int v2] X (el_line n v1 v2 X) := by
  refine ct_of (by decide +kernel) (Nat.le_of_ble_eq_true rfl) ?_
  unfold el_line
  show G q _ _ 0 [(0, .ref (q.ad 0)), (1, .int v1), (2, .int v2)] [] X _
  refine g_iload_n 1 dX11_line_0 rfl rfl ?_
  refine g_if_lt dX11_line_1 rfl rfl ?_ ?_
  · refine g_iconst dX11_line_15 rfl kic_m1 ?_
    exact g_iret dX11_line_16 rfl rfl
  refine g_iload_n 1 dX11_line_4 rfl rfl ?_
  refine g_bipush dX11_line_5 rfl kbi_9 ?_
  refine g_icmp_gt dX11_line_7 rfl rfl ?_ ?_
  · refine g_iconst dX11_line_15 rfl kic_m1 ?_
    exact g_iret dX11_line_16 rfl rfl
  refine g_iload_n 2 dX11_line_10 rfl rfl ?_
  refine g_iconst dX11_line_11 rfl kic_m1 ?_
  refine g_icmp_ge dX11_line_12 rfl rfl ?_ ?_
  · refine g_iconst dX11_line_15 rfl kic_m1 ?_
    exact g_iret dX11_line_16 rfl rfl
  refine g_aload_n 0 dX11_line_17 rfl rfl ?_
  refine g_getR 0 0 1 rfl dX11_line_18 rfl kkX11 flX11_10 (by decide) rfl rfl (by decide) rfl ?_
  refine g_cVIt (As := []) (st := []) 0 mF_wg rfl dX11_line_21 rfl kkX5 (by decide) rfl vX5_many lkX11_245 (rmL rfl rfl) (poo_many_c q X) rfl rfl (Nat.le_of_ble_eq_true rfl) ?_
  refine g_bipush dX11_line_24 rfl kbi_6 ?_
  refine g_icmp_le dX11_line_26 rfl rfl ?_ ?_
  · refine g_bipush dX11_line_29 rfl kbi_m5 ?_
    exact g_iret dX11_line_31 rfl rfl
  refine g_aload_n 0 dX11_line_32 rfl rfl ?_
  refine g_getR 0 7 78 rfl dX11_line_33 rfl kkX11 flX11_65 (by decide) rfl rfl (by decide) rfl ?_
  refine g_iload_n 1 dX11_line_36 rfl rfl ?_
  refine g_cVIw (As := [.int v1]) (st := []) 1 mF_wg rfl dX11_line_37 rfl kkX3 (by decide) rfl vX3_lineUp lkX11_248 (rmL rfl rfl) (gro_lineUp_c q n v1 X) rfl rfl (Nat.le_of_ble_eq_true rfl) (fun c2 X1 => ?_)
  refine g_istore_n (lv' := [(3, .int c2), (0, .ref (q.ad 0)), (1, .int v1), (2, .int v2)]) dX11_line_40 rfl rfl (Nat.le_of_ble_eq_true rfl) rfl ?_
  refine g_iload_n 3 dX11_line_41 rfl rfl ?_
  refine g_iconst dX11_line_42 rfl kic_m1 ?_
  refine g_icmp_ne dX11_line_43 rfl rfl ?_ ?_
  · refine g_iload_n 0 dX11_line_46 rfl rfl ?_
    refine g_goto dX11_line_47 rfl ?_
    exact g_iret dX11_line_58 rfl rfl
  refine g_aload_n 1 dX11_line_50 rfl rfl ?_
  refine g_getR 0 7 78 rfl dX11_line_51 rfl kkX11 flX11_65 (by decide) rfl rfl (by decide) rfl ?_
  refine g_iload_n 3 dX11_line_54 rfl rfl ?_
  refine g_cVIr (As := [.int v2]) (st := []) 1 mF_wg rfl dX11_line_55 rfl kkX3 (by decide) rfl vX3_inLine lkX11_251 (rmL rfl rfl) (gro_inLine_c q v2 X1) rfl rfl (Nat.le_of_ble_eq_true rfl) (fun c3 => ?_)
  exact g_iret dX11_line_58 rfl rfl
def el_lift (n : Nat) (v1 : Int32) (X : St) : Option (Int32) :=
  (if (el_isZeroOrOne v1) = 0 then
  (some (-1 : Int32))
  else
  (if v1 = 0 then
  ((gro_lifted n (1 : Int32) X).bind fun c1 =>
  (some c1))
  else
  ((gro_lifted n (0 : Int32) X).bind fun c2 =>
  (some c2))))
theorem el_lift_c (q : Th) (n : Nat) (v1 : Int32) (X : St) : Ct q nX11_lift 5 (fir X) [.ref (q.ad 0), .int v1] X (el_lift n v1 X) := by
  refine ct_of (by decide +kernel) (Nat.le_of_ble_eq_true rfl) ?_
  unfold el_lift
  show G q _ _ 0 [(0, .ref (q.ad 0)), (1, .int v1)] [] X _
  refine g_iload_n 1 dX11_lift_0 rfl rfl ?_
  refine g_cSIt (As := [.int v1]) (st := []) 1 mF_wg rfl dX11_lift_1 rfl vX11_isZeroOrOne lkX11_201 (rmL rfl rfl) (el_isZeroOrOne_c q v1 X) rfl rfl (Nat.le_of_ble_eq_true rfl) ?_
  refine g_if_ne dX11_lift_4 rfl rfl ?_ ?_
  · refine g_iconst dX11_lift_7 rfl kic_m1 ?_
    exact g_iret dX11_lift_8 rfl rfl
  refine g_aload_n 0 dX11_lift_9 rfl rfl ?_
  refine g_getR 0 7 78 rfl dX11_lift_10 rfl kkX11 flX11_65 (by decide) rfl rfl (by decide) rfl ?_
  refine g_iload_n 1 dX11_lift_13 rfl rfl ?_
  refine g_if_ne dX11_lift_14 rfl rfl ?_ ?_
  · refine g_iconst dX11_lift_17 rfl kic_1 ?_
    refine g_goto dX11_lift_18 rfl ?_
    refine g_cVIr (As := [.int (1 : Int32)]) (st := []) 1 mF_wg rfl dX11_lift_22 rfl kkX3 (by decide) rfl vX3_lifted lkX11_254 (rmL rfl rfl) (gro_lifted_c q n (1 : Int32) X) rfl rfl (Nat.le_of_ble_eq_true rfl) (fun c1 => ?_)
    exact g_iret dX11_lift_25 rfl rfl
  refine g_iconst dX11_lift_21 rfl kic_0 ?_
  refine g_cVIr (As := [.int (0 : Int32)]) (st := []) 1 mF_wg rfl dX11_lift_22 rfl kkX3 (by decide) rfl vX3_lifted lkX11_254 (rmL rfl rfl) (gro_lifted_c q n (0 : Int32) X) rfl rfl (Nat.le_of_ble_eq_true rfl) (fun c2 => ?_)
  exact g_iret dX11_lift_25 rfl rfl
def el_star (n : Nat) (v1 : Int32) (X : St) : Option (Int32) :=
  (if v1 = (0 : Int32) then
  ((gro_starSize n X).bind fun c1 =>
  (some c1))
  else
  (if v1 = (1 : Int32) then
  ((gro_onOneCell n X).bind fun c2 =>
  (some c2))
  else
  (if v1 = (2 : Int32) then
  ((gro_isMirror n X).bind fun c3 =>
  (if c3 = 0 then
  (some (0 : Int32))
  else
  (some (1 : Int32))))
  else
  (some (-1 : Int32)))))
theorem el_star_c (q : Th) (n : Nat) (v1 : Int32) (X : St) : Ct q nX11_star 5 (fir X) [.ref (q.ad 0), .int v1] X (el_star n v1 X) := by
  refine ct_of (by decide +kernel) (Nat.le_of_ble_eq_true rfl) ?_
  unfold el_star
  show G q _ _ 0 [(0, .ref (q.ad 0)), (1, .int v1)] [] X _
  refine g_iload_n 1 dX11_star_0 rfl rfl ?_
  refine g_case (z := (0 : Int32)) (fun hc => ?_) (fun hc0 => ?_)
  · refine g_tableIn hc dX11_star_1 (by decide) (by decide) rfl rfl ?_
    refine g_aload_n 0 dX11_star_28 rfl rfl ?_
    refine g_getR 0 7 78 rfl dX11_star_29 rfl kkX11 flX11_65 (by decide) rfl rfl (by decide) rfl ?_
    refine g_cVIr (As := []) (st := []) 0 mF_wg rfl dX11_star_32 rfl kkX3 (by decide) rfl vX3_starSize lkX11_258 (rmL rfl rfl) (gro_starSize_c q n X) rfl rfl (Nat.le_of_ble_eq_true rfl) (fun c1 => ?_)
    exact g_iret dX11_star_35 rfl rfl
  refine g_case (z := (1 : Int32)) (fun hc => ?_) (fun hc1 => ?_)
  · refine g_tableIn hc dX11_star_1 (by decide) (by decide) rfl rfl ?_
    refine g_aload_n 0 dX11_star_36 rfl rfl ?_
    refine g_getR 0 7 78 rfl dX11_star_37 rfl kkX11 flX11_65 (by decide) rfl rfl (by decide) rfl ?_
    refine g_cVIr (As := []) (st := []) 0 mF_wg rfl dX11_star_40 rfl kkX3 (by decide) rfl vX3_onOneCell lkX11_261 (rmL rfl rfl) (gro_onOneCell_c q n X) rfl rfl (Nat.le_of_ble_eq_true rfl) (fun c2 => ?_)
    exact g_iret dX11_star_43 rfl rfl
  refine g_case (z := (2 : Int32)) (fun hc => ?_) (fun hc2 => ?_)
  · refine g_tableIn hc dX11_star_1 (by decide) (by decide) rfl rfl ?_
    refine g_aload_n 0 dX11_star_44 rfl rfl ?_
    refine g_getR 0 7 78 rfl dX11_star_45 rfl kkX11 flX11_65 (by decide) rfl rfl (by decide) rfl ?_
    refine g_cVIr (As := []) (st := []) 0 mF_wg rfl dX11_star_48 rfl kkX3 (by decide) rfl vX3_isMirror lkX11_264 (rmL rfl rfl) (gro_isMirror_c q n X) rfl rfl (Nat.le_of_ble_eq_true rfl) (fun c3 => ?_)
    refine g_if_eq dX11_star_51 rfl rfl ?_ ?_
    · refine g_iconst dX11_star_58 rfl kic_0 ?_
      exact g_iret dX11_star_59 rfl rfl
    refine g_iconst dX11_star_54 rfl kic_1 ?_
    refine g_goto dX11_star_55 rfl ?_
    exact g_iret dX11_star_59 rfl rfl
  refine g_tableOut dX11_star_1 (by have e0 := lv_neT (a := 0) hc0 (by decide); have e1 := lv_neT (a := 1) hc1 (by decide); have e2 := lv_neT (a := 2) hc2 (by decide); omega) rfl ?_
  refine g_iconst dX11_star_60 rfl kic_m1 ?_
  exact g_iret dX11_star_61 rfl rfl
def el_beginRipples (n : Nat) (v1 : Int32) (v2 : Int32) (X : St) : Option (Int32 × St) :=
  (if v2 = 0 then
  (some ((-1 : Int32), X))
  else
  (if v1 < 0 then
  (some ((-1 : Int32), X))
  else
  (if (she_isShelf (v1 / (10 : Int32))) = 0 then
  (some ((-1 : Int32), X))
  else
  (if (she_isShelf (irm v1 (10 : Int32))) = 0 then
  (some ((-1 : Int32), X))
  else
  ((she_isEmpty (v1 / (10 : Int32)) X).bind fun c1 =>
  (if c1 = 0 then
  ((she_isEmpty (irm v1 (10 : Int32)) X).bind fun c2 =>
  (if c2 = 0 then
  ((el_begin n (v1 / (10 : Int32)) (1 : Int32) X).bind fun (c4, X3) =>
  (if c4 = 0 then
  ((she_refusal (irm v1 (10 : Int32)) (1 : Int32) X3).bind fun c5 =>
  (some (c5, X3)))
  else
  (some (c4, X3))))
  else
  (some ((-11 : Int32), X))))
  else
  (some ((-11 : Int32), X))))))))
theorem el_beginRipples_c (q : Th) (n : Nat) (v1 : Int32) (v2 : Int32) (X : St) : Ct q nX11_beginRipples 6 fiw [.ref (q.ad 0), .int v1, .int v2] X (el_beginRipples n v1 v2 X) := by
  refine ct_of (by decide +kernel) (Nat.le_of_ble_eq_true rfl) ?_
  unfold el_beginRipples
  show G q _ _ 0 [(0, .ref (q.ad 0)), (1, .int v1), (2, .int v2)] [] X _
  refine g_iload_n 2 dX11_beginRipples_0 rfl rfl ?_
  refine g_if_eq dX11_beginRipples_1 rfl rfl ?_ ?_
  · refine g_iconst dX11_beginRipples_28 rfl kic_m1 ?_
    exact g_iret dX11_beginRipples_29 rfl rfl
  refine g_iload_n 1 dX11_beginRipples_4 rfl rfl ?_
  refine g_if_lt dX11_beginRipples_5 rfl rfl ?_ ?_
  · refine g_iconst dX11_beginRipples_28 rfl kic_m1 ?_
    exact g_iret dX11_beginRipples_29 rfl rfl
  refine g_iload_n 1 dX11_beginRipples_8 rfl rfl ?_
  refine g_bipush dX11_beginRipples_9 rfl kbi_10 ?_
  refine g_idivC dX11_beginRipples_11 rfl (by decide) ?_
  refine g_cSIt (As := [.int (v1 / (10 : Int32))]) (st := []) 1 mF_wg rfl dX11_beginRipples_12 rfl vX7_isShelf lkX11_102 (rmL rfl rfl) (she_isShelf_c q (v1 / (10 : Int32)) X) rfl rfl (Nat.le_of_ble_eq_true rfl) ?_
  refine g_if_eq dX11_beginRipples_15 rfl rfl ?_ ?_
  · refine g_iconst dX11_beginRipples_28 rfl kic_m1 ?_
    exact g_iret dX11_beginRipples_29 rfl rfl
  refine g_iload_n 1 dX11_beginRipples_18 rfl rfl ?_
  refine g_bipush dX11_beginRipples_19 rfl kbi_10 ?_
  refine g_iremC dX11_beginRipples_21 rfl (by decide) ?_
  refine g_cSIt (As := [.int (irm v1 (10 : Int32))]) (st := []) 1 mF_wg rfl dX11_beginRipples_22 rfl vX7_isShelf lkX11_102 (rmL rfl rfl) (she_isShelf_c q (irm v1 (10 : Int32)) X) rfl rfl (Nat.le_of_ble_eq_true rfl) ?_
  refine g_if_ne dX11_beginRipples_25 rfl rfl ?_ ?_
  · refine g_iconst dX11_beginRipples_28 rfl kic_m1 ?_
    exact g_iret dX11_beginRipples_29 rfl rfl
  refine g_aload_n 0 dX11_beginRipples_30 rfl rfl ?_
  refine g_getR 0 10 91 rfl dX11_beginRipples_31 rfl kkX11 flX11_86 (by decide) rfl rfl (by decide) rfl ?_
  refine g_iload_n 1 dX11_beginRipples_34 rfl rfl ?_
  refine g_bipush dX11_beginRipples_35 rfl kbi_10 ?_
  refine g_idivC dX11_beginRipples_37 rfl (by decide) ?_
  refine g_cVIr (As := [.int (v1 / (10 : Int32))]) (st := []) 1 mF_wg rfl dX11_beginRipples_38 rfl kkX7 (by decide) rfl vX7_isEmpty lkX11_388 (rmL rfl rfl) (she_isEmpty_c q (v1 / (10 : Int32)) X) rfl rfl (Nat.le_of_ble_eq_true rfl) (fun c1 => ?_)
  refine g_if_ne dX11_beginRipples_41 rfl rfl ?_ ?_
  · refine g_aload_n 0 dX11_beginRipples_44 rfl rfl ?_
    refine g_getR 0 10 91 rfl dX11_beginRipples_45 rfl kkX11 flX11_86 (by decide) rfl rfl (by decide) rfl ?_
    refine g_iload_n 1 dX11_beginRipples_48 rfl rfl ?_
    refine g_bipush dX11_beginRipples_49 rfl kbi_10 ?_
    refine g_iremC dX11_beginRipples_51 rfl (by decide) ?_
    refine g_cVIr (As := [.int (irm v1 (10 : Int32))]) (st := []) 1 mF_wg rfl dX11_beginRipples_52 rfl kkX7 (by decide) rfl vX7_isEmpty lkX11_388 (rmL rfl rfl) (she_isEmpty_c q (irm v1 (10 : Int32)) X) rfl rfl (Nat.le_of_ble_eq_true rfl) (fun c2 => ?_)
    refine g_if_eq dX11_beginRipples_55 rfl rfl ?_ ?_
    · refine g_aload_n 0 dX11_beginRipples_61 rfl rfl ?_
      refine g_iload_n 1 dX11_beginRipples_62 rfl rfl ?_
      refine g_bipush dX11_beginRipples_63 rfl kbi_10 ?_
      refine g_idivC dX11_beginRipples_65 rfl (by decide) ?_
      refine g_iconst dX11_beginRipples_66 rfl kic_1 ?_
      refine g_cVIw (As := [.int (v1 / (10 : Int32)), .int (1 : Int32)]) (st := []) 2 mF_wg rfl dX11_beginRipples_67 rfl kkX11 (by decide) rfl vX11_begin lkX11_179 (rmL rfl rfl) (el_begin_c q n (v1 / (10 : Int32)) (1 : Int32) X) rfl rfl (Nat.le_of_ble_eq_true rfl) (fun c4 X3 => ?_)
      refine g_istore_n (lv' := [(3, .int c4), (0, .ref (q.ad 0)), (1, .int v1), (2, .int v2)]) dX11_beginRipples_70 rfl rfl (Nat.le_of_ble_eq_true rfl) rfl ?_
      refine g_iload_n 0 dX11_beginRipples_71 rfl rfl ?_
      refine g_if_eq dX11_beginRipples_72 rfl rfl ?_ ?_
      · refine g_aload_n 1 dX11_beginRipples_79 rfl rfl ?_
        refine g_getR 0 10 91 rfl dX11_beginRipples_80 rfl kkX11 flX11_86 (by decide) rfl rfl (by decide) rfl ?_
        refine g_iload_n 2 dX11_beginRipples_83 rfl rfl ?_
        refine g_bipush dX11_beginRipples_84 rfl kbi_10 ?_
        refine g_iremC dX11_beginRipples_86 rfl (by decide) ?_
        refine g_iconst dX11_beginRipples_87 rfl kic_1 ?_
        refine g_cVIr (As := [.int (irm v1 (10 : Int32)), .int (1 : Int32)]) (st := []) 2 mF_wg rfl dX11_beginRipples_88 rfl kkX7 (by decide) rfl vX7_refusal lkX11_106 (rmL rfl rfl) (she_refusal_c q (irm v1 (10 : Int32)) (1 : Int32) X3) rfl rfl (Nat.le_of_ble_eq_true rfl) (fun c5 => ?_)
        exact g_iret dX11_beginRipples_91 rfl rfl
      refine g_iload_n 0 dX11_beginRipples_75 rfl rfl ?_
      refine g_goto dX11_beginRipples_76 rfl ?_
      exact g_iret dX11_beginRipples_91 rfl rfl
    refine g_bipush dX11_beginRipples_58 rfl kbi_m11 ?_
    exact g_iret dX11_beginRipples_60 rfl rfl
  refine g_bipush dX11_beginRipples_58 rfl kbi_m11 ?_
  exact g_iret dX11_beginRipples_60 rfl rfl
def el_judged (n : Nat) (v1 : Int32) (X : St) : Option (Int32 × St) :=
  ((she_elements (irm v1 (10 : Int32)) X).bind fun c1 =>
  ((she_size (irm v1 (10 : Int32)) X).bind fun c2 =>
  ((tho_judged n c1 c2 X).bind fun (c4, X3) =>
  (some (c4, X3)))))
theorem el_judged_c (q : Th) (n : Nat) (v1 : Int32) (X : St) : Ct q nX11_judged 5 fiw [.ref (q.ad 0), .int v1] X (el_judged n v1 X) := by
  refine ct_of (by decide +kernel) (Nat.le_of_ble_eq_true rfl) ?_
  unfold el_judged
  show G q _ _ 0 [(0, .ref (q.ad 0)), (1, .int v1)] [] X _
  refine g_aload_n 0 dX11_judged_0 rfl rfl ?_
  refine g_getR 0 5 26 rfl dX11_judged_1 rfl kkX11 flX11_51 (by decide) rfl rfl (by decide) rfl ?_
  refine g_aload_n 0 dX11_judged_4 rfl rfl ?_
  refine g_getR 0 10 91 rfl dX11_judged_5 rfl kkX11 flX11_86 (by decide) rfl rfl (by decide) rfl ?_
  refine g_iload_n 1 dX11_judged_8 rfl rfl ?_
  refine g_bipush dX11_judged_9 rfl kbi_10 ?_
  refine g_iremC dX11_judged_11 rfl (by decide) ?_
  refine g_cVRr (As := [.int (irm v1 (10 : Int32))]) (st := [.ref (q.ad 26)]) 1 mF_wg rfl dX11_judged_12 rfl kkX7 (by decide) rfl vX7_elements lkX11_110 (rmL rfl rfl) (she_elements_c q (irm v1 (10 : Int32)) X) rfl rfl (Nat.le_of_ble_eq_true rfl) (fun c1 => ?_)
  refine g_aload_n 0 dX11_judged_15 rfl rfl ?_
  refine g_getR 0 10 91 rfl dX11_judged_16 rfl kkX11 flX11_86 (by decide) rfl rfl (by decide) rfl ?_
  refine g_iload_n 1 dX11_judged_19 rfl rfl ?_
  refine g_bipush dX11_judged_20 rfl kbi_10 ?_
  refine g_iremC dX11_judged_22 rfl (by decide) ?_
  refine g_cVIr (As := [.int (irm v1 (10 : Int32))]) (st := [.ref (q.ad c1), .ref (q.ad 26)]) 1 mF_wg rfl dX11_judged_23 rfl kkX7 (by decide) rfl vX7_size lkX11_114 (rmL rfl rfl) (she_size_c q (irm v1 (10 : Int32)) X) rfl rfl (Nat.le_of_ble_eq_true rfl) (fun c2 => ?_)
  refine g_cVIw (As := [.ref (q.ad c1), .int c2]) (st := []) 2 mF_wg rfl dX11_judged_26 rfl kkX9 (by decide) rfl vX9_judged lkX11_391 (rmL rfl rfl) (tho_judged_c q n c1 c2 X) rfl rfl (Nat.le_of_ble_eq_true rfl) (fun c4 X3 => ?_)
  exact g_iret dX11_judged_29 rfl rfl
def el_judge (n : Nat) (v1 : Int32) (X : St) : Option (Int32 × St) :=
  ((el_beginRipples n v1 (1 : Int32) X).bind fun (c2, X1) =>
  (if c2 = 0 then
  ((el_judged n v1 X1).bind fun (c4, X3) =>
  (some (c4, X3)))
  else
  (some (c2, X1))))
theorem el_judge_c (q : Th) (n : Nat) (v1 : Int32) (X : St) : Ct q nX11_judge 7 fiw [.ref (q.ad 0), .int v1] X (el_judge n v1 X) := by
  refine ct_of (by decide +kernel) (Nat.le_of_ble_eq_true rfl) ?_
  unfold el_judge
  show G q _ _ 0 [(0, .ref (q.ad 0)), (1, .int v1)] [] X _
  refine g_aload_n 0 dX11_judge_0 rfl rfl ?_
  refine g_iload_n 1 dX11_judge_1 rfl rfl ?_
  refine g_iconst dX11_judge_2 rfl kic_1 ?_
  refine g_cVIw (As := [.int v1, .int (1 : Int32)]) (st := []) 2 mF_wg rfl dX11_judge_3 rfl kkX11 (by decide) rfl vX11_beginRipples lkX11_267 (rmL rfl rfl) (el_beginRipples_c q n v1 (1 : Int32) X) rfl rfl (Nat.le_of_ble_eq_true rfl) (fun c2 X1 => ?_)
  refine g_istore_n (lv' := [(2, .int c2), (0, .ref (q.ad 0)), (1, .int v1)]) dX11_judge_6 rfl rfl (Nat.le_of_ble_eq_true rfl) rfl ?_
  refine g_iload_n 0 dX11_judge_7 rfl rfl ?_
  refine g_if_eq dX11_judge_8 rfl rfl ?_ ?_
  · refine g_aload_n 1 dX11_judge_15 rfl rfl ?_
    refine g_iload_n 2 dX11_judge_16 rfl rfl ?_
    refine g_cVIw (As := [.int v1]) (st := []) 1 mF_wg rfl dX11_judge_17 rfl kkX11 (by decide) rfl vX11_judged lkX11_270 (rmL rfl rfl) (el_judged_c q n v1 X1) rfl rfl (Nat.le_of_ble_eq_true rfl) (fun c4 X3 => ?_)
    exact g_iret dX11_judge_20 rfl rfl
  refine g_iload_n 0 dX11_judge_11 rfl rfl ?_
  refine g_goto dX11_judge_12 rfl ?_
  exact g_iret dX11_judge_20 rfl rfl
def el_whoLed_L18_B (n : Nat) (rec : Int32 → Int32 → Int32 → St → Option (Int32 × St)) (v1 : Int32) (v3 : Int32) (v4 : Int32) (X : St) : Option (Int32 × St) :=
(if v4 < (poo_many X) then
((tho_leadBy v4 X).bind fun X3 =>
((el_judged n v1 X3).bind fun (c5, X4) =>
(if c5 = (-2 : Int32) then
((some (v3 ||| ((1 : Int32) <<< (v4 &&& 31)))).bind fun t6 =>
(rec v1 t6 (v4 + (1 : Int32)) X4))
else
(rec v1 v3 (v4 + (1 : Int32)) X4))))
else
(some (v3, X)))
def el_whoLed_L18 (n : Nat) : Nat → Int32 → Int32 → Int32 → St → Option (Int32 × St)
  | 0 => fun _ _ _ _ => none
  | w + 1 => el_whoLed_L18_B n (el_whoLed_L18 n w)
def el_whoLed (n : Nat) (v1 : Int32) (X : St) : Option (Int32 × St) :=
  ((el_beginRipples n v1 (1 : Int32) X).bind fun (c2, X1) =>
  (if c2 = 0 then
  (el_whoLed_L18 n n v1 (0 : Int32) (0 : Int32) X1)
  else
  (some (c2, X1))))
theorem el_whoLed_L18_Bg (q : Th) (n : Nat) (rec : Int32 → Int32 → Int32 → St → Option (Int32 × St)) (hrec : ∀ v1 v3 v4 X, G q (mF q nX11_whoLed RX11 7) fiw 18 [(0, .ref (q.ad 0)), (1, .int v1), (3, .int v3), (4, .int v4)] [] X (rec v1 v3 v4 X)) (v1 : Int32) (v3 : Int32) (v4 : Int32) (X : St) : G q (mF q nX11_whoLed RX11 7) fiw 18 [(0, .ref (q.ad 0)), (1, .int v1), (3, .int v3), (4, .int v4)] [] X (el_whoLed_L18_B n rec v1 v3 v4 X) := by
  unfold el_whoLed_L18_B
  refine g_iload 3 dX11_whoLed_18 rfl rfl ?_
  refine g_aload_n 0 dX11_whoLed_20 rfl rfl ?_
  refine g_getR 0 0 1 rfl dX11_whoLed_21 rfl kkX11 flX11_10 (by decide) rfl rfl (by decide) rfl ?_
  refine g_cVIt (As := []) (st := [.int v4]) 0 mF_wg rfl dX11_whoLed_24 rfl kkX5 (by decide) rfl vX5_many lkX11_245 (rmL rfl rfl) (poo_many_c q X) rfl rfl (Nat.le_of_ble_eq_true rfl) ?_
  refine g_icmp_ge dX11_whoLed_27 rfl rfl ?_ ?_
  · refine g_aload_n 0 dX11_whoLed_30 rfl rfl ?_
    refine g_getR 0 5 26 rfl dX11_whoLed_31 rfl kkX11 flX11_51 (by decide) rfl rfl (by decide) rfl ?_
    refine g_iload 3 dX11_whoLed_34 rfl rfl ?_
    refine g_cVVw (As := [.int v4]) (st := []) 1 mF_wg rfl dX11_whoLed_36 rfl kkX9 (by decide) rfl vX9_leadBy lkX11_273 (rmL rfl rfl) (tho_leadBy_c q v4 X) rfl rfl (Nat.le_of_ble_eq_true rfl) (fun X3 => ?_)
    refine g_aload_n 0 dX11_whoLed_39 rfl rfl ?_
    refine g_iload_n 1 dX11_whoLed_40 rfl rfl ?_
    refine g_cVIw (As := [.int v1]) (st := []) 1 mF_wg rfl dX11_whoLed_41 rfl kkX11 (by decide) rfl vX11_judged lkX11_270 (rmL rfl rfl) (el_judged_c q n v1 X3) rfl rfl (Nat.le_of_ble_eq_true rfl) (fun c5 X4 => ?_)
    refine g_bipush dX11_whoLed_44 rfl kbi_m2 ?_
    refine g_icmp_ne dX11_whoLed_46 rfl rfl ?_ ?_
    · refine g_iload_n 2 dX11_whoLed_49 rfl rfl ?_
      refine g_iconst dX11_whoLed_50 rfl kic_1 ?_
      refine g_iload 3 dX11_whoLed_51 rfl rfl ?_
      refine g_ishl dX11_whoLed_53 rfl ?_
      refine g_ior dX11_whoLed_54 rfl ?_
      refine g_nmI (fun t6 => ?_)
      refine g_istore_n (lv' := [(3, .int t6), (0, .ref (q.ad 0)), (1, .int v1), (4, .int v4)]) dX11_whoLed_55 rfl rfl (Nat.le_of_ble_eq_true rfl) rfl ?_
      refine g_inc (lv' := [(4, .int (v4 + (1 : Int32))), (3, .int t6), (0, .ref (q.ad 0)), (1, .int v1)]) 3 dX11_whoLed_56 rfl rfl kic_1 (Nat.le_of_ble_eq_true rfl) rfl ?_
      refine g_goto dX11_whoLed_59 rfl ?_
      refine g_sub [2, 3, 1, 0] rfl ?_
      exact hrec v1 t6 (v4 + (1 : Int32)) X4
    refine g_inc (lv' := [(4, .int (v4 + (1 : Int32))), (0, .ref (q.ad 0)), (1, .int v1), (3, .int v3)]) 3 dX11_whoLed_56 rfl rfl kic_1 (Nat.le_of_ble_eq_true rfl) rfl ?_
    refine g_goto dX11_whoLed_59 rfl ?_
    refine g_sub [1, 2, 3, 0] rfl ?_
    exact hrec v1 v3 (v4 + (1 : Int32)) X4
  refine g_iload_n 2 dX11_whoLed_62 rfl rfl ?_
  exact g_iret dX11_whoLed_63 rfl rfl
theorem el_whoLed_L18_g (q : Th) (n : Nat) : ∀ (w : Nat) (v1 : Int32) (v3 : Int32) (v4 : Int32) (X : St), G q (mF q nX11_whoLed RX11 7) fiw 18 [(0, .ref (q.ad 0)), (1, .int v1), (3, .int v3), (4, .int v4)] [] X (el_whoLed_L18 n w v1 v3 v4 X) := by
  intro w
  induction w with
  | zero => intro v1 v3 v4 X; exact g_none
  | succ w ih => intro v1 v3 v4 X; exact el_whoLed_L18_Bg q n _ ih v1 v3 v4 X
theorem el_whoLed_c (q : Th) (n : Nat) (v1 : Int32) (X : St) : Ct q nX11_whoLed 7 fiw [.ref (q.ad 0), .int v1] X (el_whoLed n v1 X) := by
  refine ct_of (by decide +kernel) (Nat.le_of_ble_eq_true rfl) ?_
  unfold el_whoLed
  show G q _ _ 0 [(0, .ref (q.ad 0)), (1, .int v1)] [] X _
  refine g_aload_n 0 dX11_whoLed_0 rfl rfl ?_
  refine g_iload_n 1 dX11_whoLed_1 rfl rfl ?_
  refine g_iconst dX11_whoLed_2 rfl kic_1 ?_
  refine g_cVIw (As := [.int v1, .int (1 : Int32)]) (st := []) 2 mF_wg rfl dX11_whoLed_3 rfl kkX11 (by decide) rfl vX11_beginRipples lkX11_267 (rmL rfl rfl) (el_beginRipples_c q n v1 (1 : Int32) X) rfl rfl (Nat.le_of_ble_eq_true rfl) (fun c2 X1 => ?_)
  refine g_istore_n (lv' := [(2, .int c2), (0, .ref (q.ad 0)), (1, .int v1)]) dX11_whoLed_6 rfl rfl (Nat.le_of_ble_eq_true rfl) rfl ?_
  refine g_iload_n 0 dX11_whoLed_7 rfl rfl ?_
  refine g_if_eq dX11_whoLed_8 rfl rfl ?_ ?_
  · refine g_iconst dX11_whoLed_13 rfl kic_0 ?_
    refine g_istore_n (lv' := [(3, .int (0 : Int32)), (2, .int c2), (0, .ref (q.ad 0)), (1, .int v1)]) dX11_whoLed_14 rfl rfl (Nat.le_of_ble_eq_true rfl) rfl ?_
    refine g_iconst dX11_whoLed_15 rfl kic_0 ?_
    refine g_istore (lv' := [(4, .int (0 : Int32)), (3, .int (0 : Int32)), (2, .int c2), (0, .ref (q.ad 0)), (1, .int v1)]) dX11_whoLed_16 rfl (Nat.le_of_ble_eq_true rfl) rfl ?_
    refine g_sub [3, 4, 1, 0] rfl ?_
    refine el_whoLed_L18_g q n n v1 (0 : Int32) (0 : Int32) X1
  refine g_iload_n 0 dX11_whoLed_11 rfl rfl ?_
  exact g_iret dX11_whoLed_12 rfl rfl
def el_later_L23_B (n : Nat) (rec : Int32 → Int32 → Int32 → St → Option (Int32 × St)) (v1 : Int32) (v2 : Int32) (v4 : Int32) (X : St) : Option (Int32 × St) :=
(if (99 : Int32) < v4 then
(some ((-2 : Int32), X))
else
((tho_delay v2 v4 X).bind fun X3 =>
((el_judged n v1 X3).bind fun (c5, X4) =>
(if c5 = (-2 : Int32) then
(some (v4, X4))
else
(rec v1 v2 (v4 + (1 : Int32)) X4)))))
def el_later_L23 (n : Nat) : Nat → Int32 → Int32 → Int32 → St → Option (Int32 × St)
  | 0 => fun _ _ _ _ => none
  | w + 1 => el_later_L23_B n (el_later_L23 n w)
def el_later (n : Nat) (v1 : Int32) (v2 : Int32) (X : St) : Option (Int32 × St) :=
  ((el_beginRipples n v1 (poo_has v2 X) X).bind fun (c2, X1) =>
  (if c2 = 0 then
  (el_later_L23 n n v1 v2 (0 : Int32) X1)
  else
  (some (c2, X1))))
theorem el_later_L23_Bg (q : Th) (n : Nat) (rec : Int32 → Int32 → Int32 → St → Option (Int32 × St)) (hrec : ∀ v1 v2 v4 X, G q (mF q nX11_later RX11 7) fiw 23 [(0, .ref (q.ad 0)), (1, .int v1), (2, .int v2), (4, .int v4)] [] X (rec v1 v2 v4 X)) (v1 : Int32) (v2 : Int32) (v4 : Int32) (X : St) : G q (mF q nX11_later RX11 7) fiw 23 [(0, .ref (q.ad 0)), (1, .int v1), (2, .int v2), (4, .int v4)] [] X (el_later_L23_B n rec v1 v2 v4 X) := by
  unfold el_later_L23_B
  refine g_iload 3 dX11_later_23 rfl rfl ?_
  refine g_bipush dX11_later_25 rfl kbi_99 ?_
  refine g_icmp_gt dX11_later_27 rfl rfl ?_ ?_
  · refine g_bipush dX11_later_59 rfl kbi_m2 ?_
    exact g_iret dX11_later_61 rfl rfl
  refine g_aload_n 0 dX11_later_30 rfl rfl ?_
  refine g_getR 0 5 26 rfl dX11_later_31 rfl kkX11 flX11_51 (by decide) rfl rfl (by decide) rfl ?_
  refine g_iload_n 2 dX11_later_34 rfl rfl ?_
  refine g_iload 3 dX11_later_35 rfl rfl ?_
  refine g_cVVw (As := [.int v2, .int v4]) (st := []) 2 mF_wg rfl dX11_later_37 rfl kkX9 (by decide) rfl vX9_delay lkX11_276 (rmL rfl rfl) (tho_delay_c q v2 v4 X) rfl rfl (Nat.le_of_ble_eq_true rfl) (fun X3 => ?_)
  refine g_aload_n 0 dX11_later_40 rfl rfl ?_
  refine g_iload_n 1 dX11_later_41 rfl rfl ?_
  refine g_cVIw (As := [.int v1]) (st := []) 1 mF_wg rfl dX11_later_42 rfl kkX11 (by decide) rfl vX11_judged lkX11_270 (rmL rfl rfl) (el_judged_c q n v1 X3) rfl rfl (Nat.le_of_ble_eq_true rfl) (fun c5 X4 => ?_)
  refine g_bipush dX11_later_45 rfl kbi_m2 ?_
  refine g_icmp_ne dX11_later_47 rfl rfl ?_ ?_
  · refine g_iload 3 dX11_later_50 rfl rfl ?_
    exact g_iret dX11_later_52 rfl rfl
  refine g_inc (lv' := [(4, .int (v4 + (1 : Int32))), (0, .ref (q.ad 0)), (1, .int v1), (2, .int v2)]) 3 dX11_later_53 rfl rfl kic_1 (Nat.le_of_ble_eq_true rfl) rfl ?_
  refine g_goto dX11_later_56 rfl ?_
  refine g_sub [1, 2, 3, 0] rfl ?_
  exact hrec v1 v2 (v4 + (1 : Int32)) X4
theorem el_later_L23_g (q : Th) (n : Nat) : ∀ (w : Nat) (v1 : Int32) (v2 : Int32) (v4 : Int32) (X : St), G q (mF q nX11_later RX11 7) fiw 23 [(0, .ref (q.ad 0)), (1, .int v1), (2, .int v2), (4, .int v4)] [] X (el_later_L23 n w v1 v2 v4 X) := by
  intro w
  induction w with
  | zero => intro v1 v2 v4 X; exact g_none
  | succ w ih => intro v1 v2 v4 X; exact el_later_L23_Bg q n _ ih v1 v2 v4 X
theorem el_later_c (q : Th) (n : Nat) (v1 : Int32) (v2 : Int32) (X : St) : Ct q nX11_later 7 fiw [.ref (q.ad 0), .int v1, .int v2] X (el_later n v1 v2 X) := by
  refine ct_of (by decide +kernel) (Nat.le_of_ble_eq_true rfl) ?_
  unfold el_later
  show G q _ _ 0 [(0, .ref (q.ad 0)), (1, .int v1), (2, .int v2)] [] X _
  refine g_aload_n 0 dX11_later_0 rfl rfl ?_
  refine g_iload_n 1 dX11_later_1 rfl rfl ?_
  refine g_aload_n 0 dX11_later_2 rfl rfl ?_
  refine g_getR 0 0 1 rfl dX11_later_3 rfl kkX11 flX11_10 (by decide) rfl rfl (by decide) rfl ?_
  refine g_iload_n 2 dX11_later_6 rfl rfl ?_
  refine g_cVIt (As := [.int v2]) (st := [.int v1, .ref (q.ad 0)]) 1 mF_wg rfl dX11_later_7 rfl kkX5 (by decide) rfl vX5_has lkX11_137 (rmL rfl rfl) (poo_has_c q v2 X) rfl rfl (Nat.le_of_ble_eq_true rfl) ?_
  refine g_cVIw (As := [.int v1, .int (poo_has v2 X)]) (st := []) 2 mF_wg rfl dX11_later_10 rfl kkX11 (by decide) rfl vX11_beginRipples lkX11_267 (rmL rfl rfl) (el_beginRipples_c q n v1 (poo_has v2 X) X) rfl rfl (Nat.le_of_ble_eq_true rfl) (fun c2 X1 => ?_)
  refine g_istore_n (lv' := [(3, .int c2), (0, .ref (q.ad 0)), (1, .int v1), (2, .int v2)]) dX11_later_13 rfl rfl (Nat.le_of_ble_eq_true rfl) rfl ?_
  refine g_iload_n 0 dX11_later_14 rfl rfl ?_
  refine g_if_eq dX11_later_15 rfl rfl ?_ ?_
  · refine g_iconst dX11_later_20 rfl kic_0 ?_
    refine g_istore (lv' := [(4, .int (0 : Int32)), (3, .int c2), (0, .ref (q.ad 0)), (1, .int v1), (2, .int v2)]) dX11_later_21 rfl (Nat.le_of_ble_eq_true rfl) rfl ?_
    refine g_sub [2, 3, 4, 0] rfl ?_
    refine el_later_L23_g q n n v1 v2 (0 : Int32) X1
  refine g_iload_n 0 dX11_later_18 rfl rfl ?_
  exact g_iret dX11_later_19 rfl rfl
def el_quicker_L34_B (n : Nat) (rec : Int32 → Int32 → Int32 → St → Option (Int32 × St)) (v1 : Int32) (v2 : Int32) (v4 : Int32) (X : St) : Option (Int32 × St) :=
(if (9 : Int32) < v4 then
(some ((-99 : Int32), X))
else
((tho_quicken v2 v4 X).bind fun X3 =>
((el_judged n v1 X3).bind fun (c5, X4) =>
(if c5 = (-2 : Int32) then
(some (v4, X4))
else
(rec v1 v2 (v4 + (1 : Int32)) X4)))))
def el_quicker_L34 (n : Nat) : Nat → Int32 → Int32 → Int32 → St → Option (Int32 × St)
  | 0 => fun _ _ _ _ => none
  | w + 1 => el_quicker_L34_B n (el_quicker_L34 n w)
def el_quicker (n : Nat) (v1 : Int32) (v2 : Int32) (X : St) : Option (Int32 × St) :=
  ((el_beginRipples n v1 (poo_has v2 X) X).bind fun (c2, X1) =>
  (if c2 = 0 then
  (el_quicker_L34 n n v1 v2 (-9 : Int32) X1)
  else
  (if c2 = (-1 : Int32) then
  (some ((-2000000000 : Int32), X1))
  else
  (some (c2, X1)))))
theorem el_quicker_L34_Bg (q : Th) (n : Nat) (rec : Int32 → Int32 → Int32 → St → Option (Int32 × St)) (hrec : ∀ v1 v2 v4 X, G q (mF q nX11_quicker RX11 7) fiw 34 [(0, .ref (q.ad 0)), (1, .int v1), (2, .int v2), (4, .int v4)] [] X (rec v1 v2 v4 X)) (v1 : Int32) (v2 : Int32) (v4 : Int32) (X : St) : G q (mF q nX11_quicker RX11 7) fiw 34 [(0, .ref (q.ad 0)), (1, .int v1), (2, .int v2), (4, .int v4)] [] X (el_quicker_L34_B n rec v1 v2 v4 X) := by
  unfold el_quicker_L34_B
  refine g_iload 3 dX11_quicker_34 rfl rfl ?_
  refine g_bipush dX11_quicker_36 rfl kbi_9 ?_
  refine g_icmp_gt dX11_quicker_38 rfl rfl ?_ ?_
  · refine g_bipush dX11_quicker_70 rfl kbi_m99 ?_
    exact g_iret dX11_quicker_72 rfl rfl
  refine g_aload_n 0 dX11_quicker_41 rfl rfl ?_
  refine g_getR 0 5 26 rfl dX11_quicker_42 rfl kkX11 flX11_51 (by decide) rfl rfl (by decide) rfl ?_
  refine g_iload_n 2 dX11_quicker_45 rfl rfl ?_
  refine g_iload 3 dX11_quicker_46 rfl rfl ?_
  refine g_cVVw (As := [.int v2, .int v4]) (st := []) 2 mF_wg rfl dX11_quicker_48 rfl kkX9 (by decide) rfl vX9_quicken lkX11_280 (rmL rfl rfl) (tho_quicken_c q v2 v4 X) rfl rfl (Nat.le_of_ble_eq_true rfl) (fun X3 => ?_)
  refine g_aload_n 0 dX11_quicker_51 rfl rfl ?_
  refine g_iload_n 1 dX11_quicker_52 rfl rfl ?_
  refine g_cVIw (As := [.int v1]) (st := []) 1 mF_wg rfl dX11_quicker_53 rfl kkX11 (by decide) rfl vX11_judged lkX11_270 (rmL rfl rfl) (el_judged_c q n v1 X3) rfl rfl (Nat.le_of_ble_eq_true rfl) (fun c5 X4 => ?_)
  refine g_bipush dX11_quicker_56 rfl kbi_m2 ?_
  refine g_icmp_ne dX11_quicker_58 rfl rfl ?_ ?_
  · refine g_iload 3 dX11_quicker_61 rfl rfl ?_
    exact g_iret dX11_quicker_63 rfl rfl
  refine g_inc (lv' := [(4, .int (v4 + (1 : Int32))), (0, .ref (q.ad 0)), (1, .int v1), (2, .int v2)]) 3 dX11_quicker_64 rfl rfl kic_1 (Nat.le_of_ble_eq_true rfl) rfl ?_
  refine g_goto dX11_quicker_67 rfl ?_
  refine g_sub [1, 2, 3, 0] rfl ?_
  exact hrec v1 v2 (v4 + (1 : Int32)) X4
theorem el_quicker_L34_g (q : Th) (n : Nat) : ∀ (w : Nat) (v1 : Int32) (v2 : Int32) (v4 : Int32) (X : St), G q (mF q nX11_quicker RX11 7) fiw 34 [(0, .ref (q.ad 0)), (1, .int v1), (2, .int v2), (4, .int v4)] [] X (el_quicker_L34 n w v1 v2 v4 X) := by
  intro w
  induction w with
  | zero => intro v1 v2 v4 X; exact g_none
  | succ w ih => intro v1 v2 v4 X; exact el_quicker_L34_Bg q n _ ih v1 v2 v4 X
theorem el_quicker_c (q : Th) (n : Nat) (v1 : Int32) (v2 : Int32) (X : St) : Ct q nX11_quicker 7 fiw [.ref (q.ad 0), .int v1, .int v2] X (el_quicker n v1 v2 X) := by
  refine ct_of (by decide +kernel) (Nat.le_of_ble_eq_true rfl) ?_
  unfold el_quicker
  show G q _ _ 0 [(0, .ref (q.ad 0)), (1, .int v1), (2, .int v2)] [] X _
  refine g_aload_n 0 dX11_quicker_0 rfl rfl ?_
  refine g_iload_n 1 dX11_quicker_1 rfl rfl ?_
  refine g_aload_n 0 dX11_quicker_2 rfl rfl ?_
  refine g_getR 0 0 1 rfl dX11_quicker_3 rfl kkX11 flX11_10 (by decide) rfl rfl (by decide) rfl ?_
  refine g_iload_n 2 dX11_quicker_6 rfl rfl ?_
  refine g_cVIt (As := [.int v2]) (st := [.int v1, .ref (q.ad 0)]) 1 mF_wg rfl dX11_quicker_7 rfl kkX5 (by decide) rfl vX5_has lkX11_137 (rmL rfl rfl) (poo_has_c q v2 X) rfl rfl (Nat.le_of_ble_eq_true rfl) ?_
  refine g_cVIw (As := [.int v1, .int (poo_has v2 X)]) (st := []) 2 mF_wg rfl dX11_quicker_10 rfl kkX11 (by decide) rfl vX11_beginRipples lkX11_267 (rmL rfl rfl) (el_beginRipples_c q n v1 (poo_has v2 X) X) rfl rfl (Nat.le_of_ble_eq_true rfl) (fun c2 X1 => ?_)
  refine g_istore_n (lv' := [(3, .int c2), (0, .ref (q.ad 0)), (1, .int v1), (2, .int v2)]) dX11_quicker_13 rfl rfl (Nat.le_of_ble_eq_true rfl) rfl ?_
  refine g_iload_n 0 dX11_quicker_14 rfl rfl ?_
  refine g_if_eq dX11_quicker_15 rfl rfl ?_ ?_
  · refine g_bipush dX11_quicker_30 rfl kbi_m9 ?_
    refine g_istore (lv' := [(4, .int (-9 : Int32)), (3, .int c2), (0, .ref (q.ad 0)), (1, .int v1), (2, .int v2)]) dX11_quicker_32 rfl (Nat.le_of_ble_eq_true rfl) rfl ?_
    refine g_sub [2, 3, 4, 0] rfl ?_
    refine el_quicker_L34_g q n n v1 v2 (-9 : Int32) X1
  refine g_iload_n 0 dX11_quicker_18 rfl rfl ?_
  refine g_iconst dX11_quicker_19 rfl kic_m1 ?_
  refine g_icmp_ne dX11_quicker_20 rfl rfl ?_ ?_
  · refine g_ldc rfl dX11_quicker_23 rfl kcX11_129 ?_
    refine g_goto dX11_quicker_25 rfl ?_
    exact g_iret dX11_quicker_29 rfl rfl
  refine g_iload_n 0 dX11_quicker_28 rfl rfl ?_
  exact g_iret dX11_quicker_29 rfl rfl
def el_drawn_J47 (n : Nat) (v2 : Int32) (v4 : Int32) (v5 : Int32) (v6 : Int32) (s0 : Int32) (s1 : Int32) (X : St) : Option (Int32 × St) :=
((el_begin n s1 s0 X).bind fun (c2, X1) =>
(if c2 = 0 then
(if v4 = 0 then
((tho_train n v2 v5 v6 (1 : Int32) X1).bind fun (c4, X3) =>
(some (c4, X3)))
else
((tho_train n v2 v5 v6 (0 : Int32) X1).bind fun (c6, X5) =>
(some (c6, X5))))
else
(some (c2, X1))))
def el_drawn (n : Nat) (v1 : Int32) (v2 : Int32) (v3 : Int32) (v4 : Int32) (X : St) : Option (Int32 × St) :=
  (if (v3 / (100 : Int32)) < (1 : Int32) then
  (el_drawn_J47 n v2 v4 (v3 / (100 : Int32)) (irm v3 (100 : Int32)) (0 : Int32) v1 X)
  else
  (if (30 : Int32) < (v3 / (100 : Int32)) then
  (el_drawn_J47 n v2 v4 (v3 / (100 : Int32)) (irm v3 (100 : Int32)) (0 : Int32) v1 X)
  else
  (if (12 : Int32) < (irm v3 (100 : Int32)) then
  (el_drawn_J47 n v2 v4 (v3 / (100 : Int32)) (irm v3 (100 : Int32)) (0 : Int32) v1 X)
  else
  (if (el_isZeroOrOne v4) = 0 then
  (el_drawn_J47 n v2 v4 (v3 / (100 : Int32)) (irm v3 (100 : Int32)) (0 : Int32) v1 X)
  else
  (el_drawn_J47 n v2 v4 (v3 / (100 : Int32)) (irm v3 (100 : Int32)) (1 : Int32) v1 X)))))
theorem el_drawn_J47_g (q : Th) (n : Nat) (v2 : Int32) (v4 : Int32) (v5 : Int32) (v6 : Int32) (s0 : Int32) (s1 : Int32) (X : St) : G q (mF q nX11_drawn RX11 6) fiw 47 [(0, .ref (q.ad 0)), (2, .int v2), (4, .int v4), (5, .int v5), (6, .int v6)] [.int s0, .int s1, .ref (q.ad 0)] X (el_drawn_J47 n v2 v4 v5 v6 s0 s1 X) := by
  unfold el_drawn_J47
  refine g_cVIw (As := [.int s1, .int s0]) (st := []) 2 mF_wg rfl dX11_drawn_47 rfl kkX11 (by decide) rfl vX11_begin lkX11_179 (rmL rfl rfl) (el_begin_c q n s1 s0 X) rfl rfl (Nat.le_of_ble_eq_true rfl) (fun c2 X1 => ?_)
  refine g_istore (lv' := [(7, .int c2), (0, .ref (q.ad 0)), (2, .int v2), (4, .int v4), (5, .int v5), (6, .int v6)]) dX11_drawn_50 rfl (Nat.le_of_ble_eq_true rfl) rfl ?_
  refine g_iload 0 dX11_drawn_52 rfl rfl ?_
  refine g_if_eq dX11_drawn_54 rfl rfl ?_ ?_
  · refine g_aload_n 1 dX11_drawn_62 rfl rfl ?_
    refine g_getR 0 5 26 rfl dX11_drawn_63 rfl kkX11 flX11_51 (by decide) rfl rfl (by decide) rfl ?_
    refine g_iload_n 2 dX11_drawn_66 rfl rfl ?_
    refine g_iload 4 dX11_drawn_67 rfl rfl ?_
    refine g_iload 5 dX11_drawn_69 rfl rfl ?_
    refine g_iload 3 dX11_drawn_71 rfl rfl ?_
    refine g_if_ne dX11_drawn_73 rfl rfl ?_ ?_
    · refine g_iconst dX11_drawn_76 rfl kic_1 ?_
      refine g_goto dX11_drawn_77 rfl ?_
      refine g_cVIw (As := [.int v2, .int v5, .int v6, .int (1 : Int32)]) (st := []) 4 mF_wg rfl dX11_drawn_81 rfl kkX9 (by decide) rfl vX9_train lkX11_283 (rmL rfl rfl) (tho_train_c q n v2 v5 v6 (1 : Int32) X1) rfl rfl (Nat.le_of_ble_eq_true rfl) (fun c4 X3 => ?_)
      exact g_iret dX11_drawn_84 rfl rfl
    refine g_iconst dX11_drawn_80 rfl kic_0 ?_
    refine g_cVIw (As := [.int v2, .int v5, .int v6, .int (0 : Int32)]) (st := []) 4 mF_wg rfl dX11_drawn_81 rfl kkX9 (by decide) rfl vX9_train lkX11_283 (rmL rfl rfl) (tho_train_c q n v2 v5 v6 (0 : Int32) X1) rfl rfl (Nat.le_of_ble_eq_true rfl) (fun c6 X5 => ?_)
    exact g_iret dX11_drawn_84 rfl rfl
  refine g_iload 0 dX11_drawn_57 rfl rfl ?_
  refine g_goto dX11_drawn_59 rfl ?_
  exact g_iret dX11_drawn_84 rfl rfl
theorem el_drawn_c (q : Th) (n : Nat) (v1 : Int32) (v2 : Int32) (v3 : Int32) (v4 : Int32) (X : St) : Ct q nX11_drawn 6 fiw [.ref (q.ad 0), .int v1, .int v2, .int v3, .int v4] X (el_drawn n v1 v2 v3 v4 X) := by
  refine ct_of (by decide +kernel) (Nat.le_of_ble_eq_true rfl) ?_
  unfold el_drawn
  show G q _ _ 0 [(0, .ref (q.ad 0)), (1, .int v1), (2, .int v2), (3, .int v3), (4, .int v4)] [] X _
  refine g_iload_n 3 dX11_drawn_0 rfl rfl ?_
  refine g_bipush dX11_drawn_1 rfl kbi_100 ?_
  refine g_idivC dX11_drawn_3 rfl (by decide) ?_
  refine g_istore (lv' := [(5, .int (v3 / (100 : Int32))), (0, .ref (q.ad 0)), (1, .int v1), (2, .int v2), (3, .int v3), (4, .int v4)]) dX11_drawn_4 rfl (Nat.le_of_ble_eq_true rfl) rfl ?_
  refine g_iload_n 4 dX11_drawn_6 rfl rfl ?_
  refine g_bipush dX11_drawn_7 rfl kbi_100 ?_
  refine g_iremC dX11_drawn_9 rfl (by decide) ?_
  refine g_istore (lv' := [(6, .int (irm v3 (100 : Int32))), (5, .int (v3 / (100 : Int32))), (0, .ref (q.ad 0)), (1, .int v1), (2, .int v2), (3, .int v3), (4, .int v4)]) dX11_drawn_10 rfl (Nat.le_of_ble_eq_true rfl) rfl ?_
  refine g_aload_n 2 dX11_drawn_12 rfl rfl ?_
  refine g_iload_n 3 dX11_drawn_13 rfl rfl ?_
  refine g_iload 1 dX11_drawn_14 rfl rfl ?_
  refine g_iconst dX11_drawn_16 rfl kic_1 ?_
  refine g_icmp_lt dX11_drawn_17 rfl rfl ?_ ?_
  · refine g_iconst dX11_drawn_46 rfl kic_0 ?_
    refine g_sub [2, 4, 6, 1, 0] rfl ?_
    exact el_drawn_J47_g q n v2 v4 (v3 / (100 : Int32)) (irm v3 (100 : Int32)) (0 : Int32) v1 X
  refine g_iload 1 dX11_drawn_20 rfl rfl ?_
  refine g_bipush dX11_drawn_22 rfl kbi_30 ?_
  refine g_icmp_gt dX11_drawn_24 rfl rfl ?_ ?_
  · refine g_iconst dX11_drawn_46 rfl kic_0 ?_
    refine g_sub [2, 4, 6, 1, 0] rfl ?_
    exact el_drawn_J47_g q n v2 v4 (v3 / (100 : Int32)) (irm v3 (100 : Int32)) (0 : Int32) v1 X
  refine g_iload 0 dX11_drawn_27 rfl rfl ?_
  refine g_bipush dX11_drawn_29 rfl kbi_12 ?_
  refine g_icmp_gt dX11_drawn_31 rfl rfl ?_ ?_
  · refine g_iconst dX11_drawn_46 rfl kic_0 ?_
    refine g_sub [2, 4, 6, 1, 0] rfl ?_
    exact el_drawn_J47_g q n v2 v4 (v3 / (100 : Int32)) (irm v3 (100 : Int32)) (0 : Int32) v1 X
  refine g_iload 6 dX11_drawn_34 rfl rfl ?_
  refine g_cSIt (As := [.int v4]) (st := [.int v1, .ref (q.ad 0)]) 1 mF_wg rfl dX11_drawn_36 rfl vX11_isZeroOrOne lkX11_201 (rmL rfl rfl) (el_isZeroOrOne_c q v4 X) rfl rfl (Nat.le_of_ble_eq_true rfl) ?_
  refine g_if_eq dX11_drawn_39 rfl rfl ?_ ?_
  · refine g_iconst dX11_drawn_46 rfl kic_0 ?_
    refine g_sub [2, 4, 6, 1, 0] rfl ?_
    exact el_drawn_J47_g q n v2 v4 (v3 / (100 : Int32)) (irm v3 (100 : Int32)) (0 : Int32) v1 X
  refine g_iconst dX11_drawn_42 rfl kic_1 ?_
  refine g_goto dX11_drawn_43 rfl ?_
  refine g_sub [2, 4, 6, 1, 0] rfl ?_
  exact el_drawn_J47_g q n v2 v4 (v3 / (100 : Int32)) (irm v3 (100 : Int32)) (1 : Int32) v1 X
def el_swim (n : Nat) (v1 : Int32) (X : St) : Option (Int32 × St) :=
  ((el_begin n v1 (1 : Int32) X).bind fun (c2, X1) =>
  (if c2 = 0 then
  ((tho_lost n X1).bind fun (c4, X3) =>
  ((tho_allGone n X3).bind fun c5 =>
  ((ded_swum n (poo_many X3) c4 c5 X3).bind fun X6 =>
  (some (c4, X6)))))
  else
  (some (c2, X1))))
theorem el_swim_c (q : Th) (n : Nat) (v1 : Int32) (X : St) : Ct q nX11_swim 6 fiw [.ref (q.ad 0), .int v1] X (el_swim n v1 X) := by
  refine ct_of (by decide +kernel) (Nat.le_of_ble_eq_true rfl) ?_
  unfold el_swim
  show G q _ _ 0 [(0, .ref (q.ad 0)), (1, .int v1)] [] X _
  refine g_aload_n 0 dX11_swim_0 rfl rfl ?_
  refine g_iload_n 1 dX11_swim_1 rfl rfl ?_
  refine g_iconst dX11_swim_2 rfl kic_1 ?_
  refine g_cVIw (As := [.int v1, .int (1 : Int32)]) (st := []) 2 mF_wg rfl dX11_swim_3 rfl kkX11 (by decide) rfl vX11_begin lkX11_179 (rmL rfl rfl) (el_begin_c q n v1 (1 : Int32) X) rfl rfl (Nat.le_of_ble_eq_true rfl) (fun c2 X1 => ?_)
  refine g_istore_n (lv' := [(2, .int c2), (0, .ref (q.ad 0)), (1, .int v1)]) dX11_swim_6 rfl rfl (Nat.le_of_ble_eq_true rfl) rfl ?_
  refine g_iload_n 0 dX11_swim_7 rfl rfl ?_
  refine g_if_eq dX11_swim_8 rfl rfl ?_ ?_
  · refine g_aload_n 1 dX11_swim_13 rfl rfl ?_
    refine g_getR 0 5 26 rfl dX11_swim_14 rfl kkX11 flX11_51 (by decide) rfl rfl (by decide) rfl ?_
    refine g_cVIw (As := []) (st := []) 0 mF_wg rfl dX11_swim_17 rfl kkX9 (by decide) rfl vX9_lost lkX11_185 (rmL rfl rfl) (tho_lost_c q n X1) rfl rfl (Nat.le_of_ble_eq_true rfl) (fun c4 X3 => ?_)
    refine g_istore_n (lv' := [(3, .int c4), (2, .int c2), (0, .ref (q.ad 0)), (1, .int v1)]) dX11_swim_20 rfl rfl (Nat.le_of_ble_eq_true rfl) rfl ?_
    refine g_aload_n 2 dX11_swim_21 rfl rfl ?_
    refine g_getR 0 8 81 rfl dX11_swim_22 rfl kkX11 flX11_72 (by decide) rfl rfl (by decide) rfl ?_
    refine g_aload_n 2 dX11_swim_25 rfl rfl ?_
    refine g_getR 0 0 1 rfl dX11_swim_26 rfl kkX11 flX11_10 (by decide) rfl rfl (by decide) rfl ?_
    refine g_cVIt (As := []) (st := [.ref (q.ad 81)]) 0 mF_wg rfl dX11_swim_29 rfl kkX5 (by decide) rfl vX5_many lkX11_245 (rmL rfl rfl) (poo_many_c q X3) rfl rfl (Nat.le_of_ble_eq_true rfl) ?_
    refine g_aload_n 2 dX11_swim_32 rfl rfl ?_
    refine g_getR 0 4 24 rfl dX11_swim_33 rfl kkX11 flX11_42 (by decide) rfl rfl (by decide) rfl ?_
    refine g_iload_n 0 dX11_swim_36 rfl rfl ?_
    refine g_aload_n 2 dX11_swim_37 rfl rfl ?_
    refine g_getR 0 5 26 rfl dX11_swim_38 rfl kkX11 flX11_51 (by decide) rfl rfl (by decide) rfl ?_
    refine g_cVIr (As := []) (st := [.int c4, .ref (q.ad 24), .int (poo_many X3), .ref (q.ad 81)]) 0 mF_wg rfl dX11_swim_41 rfl kkX9 (by decide) rfl vX9_allGone lkX11_210 (rmL rfl rfl) (tho_allGone_c q n X3) rfl rfl (Nat.le_of_ble_eq_true rfl) (fun c5 => ?_)
    refine g_cVVw (As := [.int (poo_many X3), .ref (q.ad 24), .int c4, .int c5]) (st := []) 4 mF_wg rfl dX11_swim_44 rfl kkX1 (by decide) rfl vX1_swum lkX11_287 (rmL rfl rfl) (ded_swum_c q n (poo_many X3) c4 c5 X3) rfl rfl (Nat.le_of_ble_eq_true rfl) (fun X6 => ?_)
    refine g_iload_n 0 dX11_swim_47 rfl rfl ?_
    exact g_iret dX11_swim_48 rfl rfl
  refine g_iload_n 0 dX11_swim_11 rfl rfl ?_
  exact g_iret dX11_swim_12 rfl rfl
def el_led (v1 : Int32) (X : St) : Option (Int32) :=
  (if v1 < 0 then
  (some (-1 : Int32))
  else
  (if v1 < (5 : Int32) then
  ((ded_inAll v1 X).bind fun c1 =>
  (some c1))
  else
  (some (-1 : Int32))))
theorem el_led_c (q : Th) (v1 : Int32) (X : St) : Ct q nX11_led 1 (fir X) [.ref (q.ad 0), .int v1] X (el_led v1 X) := by
  refine ct_of (by decide +kernel) (Nat.le_of_ble_eq_true rfl) ?_
  unfold el_led
  show G q _ _ 0 [(0, .ref (q.ad 0)), (1, .int v1)] [] X _
  refine g_iload_n 1 dX11_led_0 rfl rfl ?_
  refine g_if_lt dX11_led_1 rfl rfl ?_ ?_
  · refine g_iconst dX11_led_20 rfl kic_m1 ?_
    exact g_iret dX11_led_21 rfl rfl
  refine g_iload_n 1 dX11_led_4 rfl rfl ?_
  refine g_iconst dX11_led_5 rfl kic_5 ?_
  refine g_icmp_ge dX11_led_6 rfl rfl ?_ ?_
  · refine g_aload_n 0 dX11_led_9 rfl rfl ?_
    refine g_getR 0 8 81 rfl dX11_led_10 rfl kkX11 flX11_72 (by decide) rfl rfl (by decide) rfl ?_
    refine g_iload_n 1 dX11_led_13 rfl rfl ?_
    refine g_cVIr (As := [.int v1]) (st := []) 1 mF_wg rfl dX11_led_14 rfl kkX1 (by decide) rfl vX1_inAll lkX11_291 (rmL rfl rfl) (ded_inAll_c q v1 X) rfl rfl (Nat.le_of_ble_eq_true rfl) (fun c1 => ?_)
    refine g_goto dX11_led_17 rfl ?_
    exact g_iret dX11_led_21 rfl rfl
  refine g_iconst dX11_led_20 rfl kic_m1 ?_
  exact g_iret dX11_led_21 rfl rfl
def el_image (X : St) : Option (Int32 × St) :=
  ((ded_keepImage X).bind fun X1 =>
  ((ded_inAll (0 : Int32) X1).bind fun c2 =>
  (some (c2, X1))))
theorem el_image_c (q : Th) (X : St) : Ct q nX11_image 3 fiw [.ref (q.ad 0)] X (el_image X) := by
  refine ct_of (by decide +kernel) (Nat.le_of_ble_eq_true rfl) ?_
  unfold el_image
  show G q _ _ 0 [(0, .ref (q.ad 0))] [] X _
  refine g_aload_n 0 dX11_image_0 rfl rfl ?_
  refine g_getR 0 8 81 rfl dX11_image_1 rfl kkX11 flX11_72 (by decide) rfl rfl (by decide) rfl ?_
  refine g_cVVw (As := []) (st := []) 0 mF_wg rfl dX11_image_4 rfl kkX1 (by decide) rfl vX1_keepImage lkX11_294 (rmL rfl rfl) (ded_keepImage_c q X) rfl rfl (Nat.le_of_ble_eq_true rfl) (fun X1 => ?_)
  refine g_aload_n 0 dX11_image_7 rfl rfl ?_
  refine g_getR 0 8 81 rfl dX11_image_8 rfl kkX11 flX11_72 (by decide) rfl rfl (by decide) rfl ?_
  refine g_iconst dX11_image_11 rfl kic_0 ?_
  refine g_cVIr (As := [.int (0 : Int32)]) (st := []) 1 mF_wg rfl dX11_image_12 rfl kkX1 (by decide) rfl vX1_inAll lkX11_291 (rmL rfl rfl) (ded_inAll_c q (0 : Int32) X1) rfl rfl (Nat.le_of_ble_eq_true rfl) (fun c2 => ?_)
  exact g_iret dX11_image_15 rfl rfl
def el_back (X : St) : Option (Int32 × St) :=
  ((ded_hasImage X).bind fun c1 =>
  (if c1 = 0 then
  (some ((-5 : Int32), X))
  else
  ((ded_layBack X).bind fun X2 =>
  ((ded_inAll (0 : Int32) X2).bind fun c3 =>
  (some (c3, X2))))))
theorem el_back_c (q : Th) (X : St) : Ct q nX11_back 3 fiw [.ref (q.ad 0)] X (el_back X) := by
  refine ct_of (by decide +kernel) (Nat.le_of_ble_eq_true rfl) ?_
  unfold el_back
  show G q _ _ 0 [(0, .ref (q.ad 0))] [] X _
  refine g_aload_n 0 dX11_back_0 rfl rfl ?_
  refine g_getR 0 8 81 rfl dX11_back_1 rfl kkX11 flX11_72 (by decide) rfl rfl (by decide) rfl ?_
  refine g_cVIr (As := []) (st := []) 0 mF_wg rfl dX11_back_4 rfl kkX1 (by decide) rfl vX1_hasImage lkX11_297 (rmL rfl rfl) (ded_hasImage_c q X) rfl rfl (Nat.le_of_ble_eq_true rfl) (fun c1 => ?_)
  refine g_if_ne dX11_back_7 rfl rfl ?_ ?_
  · refine g_bipush dX11_back_10 rfl kbi_m5 ?_
    exact g_iret dX11_back_12 rfl rfl
  refine g_aload_n 0 dX11_back_13 rfl rfl ?_
  refine g_getR 0 8 81 rfl dX11_back_14 rfl kkX11 flX11_72 (by decide) rfl rfl (by decide) rfl ?_
  refine g_cVVw (As := []) (st := []) 0 mF_wg rfl dX11_back_17 rfl kkX1 (by decide) rfl vX1_layBack lkX11_300 (rmL rfl rfl) (ded_layBack_c q X) rfl rfl (Nat.le_of_ble_eq_true rfl) (fun X2 => ?_)
  refine g_aload_n 0 dX11_back_20 rfl rfl ?_
  refine g_getR 0 8 81 rfl dX11_back_21 rfl kkX11 flX11_72 (by decide) rfl rfl (by decide) rfl ?_
  refine g_iconst dX11_back_24 rfl kic_0 ?_
  refine g_cVIr (As := [.int (0 : Int32)]) (st := []) 1 mF_wg rfl dX11_back_25 rfl kkX1 (by decide) rfl vX1_inAll lkX11_291 (rmL rfl rfl) (ded_inAll_c q (0 : Int32) X2) rfl rfl (Nat.le_of_ble_eq_true rfl) (fun c3 => ?_)
  exact g_iret dX11_back_28 rfl rfl
def el_undo (X : St) : Option (Int32 × St) :=
  ((chg_takeBack X).bind fun (c2, X1) =>
  (if c2 = 0 then
  (some ((-5 : Int32), X1))
  else
  (some ((chg_done X1), X1))))
theorem el_undo_c (q : Th) (X : St) : Ct q nX11_undo 3 fiw [.ref (q.ad 0)] X (el_undo X) := by
  refine ct_of (by decide +kernel) (Nat.le_of_ble_eq_true rfl) ?_
  unfold el_undo
  show G q _ _ 0 [(0, .ref (q.ad 0))] [] X _
  refine g_aload_n 0 dX11_undo_0 rfl rfl ?_
  refine g_getR 0 1 12 rfl dX11_undo_1 rfl kkX11 flX11_21 (by decide) rfl rfl (by decide) rfl ?_
  refine g_cVIw (As := []) (st := []) 0 mF_wg rfl dX11_undo_4 rfl kkX0 (by decide) rfl vX0_takeBack lkX11_303 (rmL rfl rfl) (chg_takeBack_c q X) rfl rfl (Nat.le_of_ble_eq_true rfl) (fun c2 X1 => ?_)
  refine g_if_eq dX11_undo_7 rfl rfl ?_ ?_
  · refine g_bipush dX11_undo_20 rfl kbi_m5 ?_
    exact g_iret dX11_undo_22 rfl rfl
  refine g_aload_n 0 dX11_undo_10 rfl rfl ?_
  refine g_getR 0 1 12 rfl dX11_undo_11 rfl kkX11 flX11_21 (by decide) rfl rfl (by decide) rfl ?_
  refine g_cVIt (As := []) (st := []) 0 mF_wg rfl dX11_undo_14 rfl kkX0 (by decide) rfl vX0_done lkX11_306 (rmL rfl rfl) (chg_done_c q X1) rfl rfl (Nat.le_of_ble_eq_true rfl) ?_
  refine g_goto dX11_undo_17 rfl ?_
  exact g_iret dX11_undo_22 rfl rfl
def el_redo (X : St) : Option (Int32 × St) :=
  ((chg_doAgain X).bind fun (c2, X1) =>
  (if c2 = 0 then
  (some ((-5 : Int32), X1))
  else
  (some ((chg_undone X1), X1))))
theorem el_redo_c (q : Th) (X : St) : Ct q nX11_redo 3 fiw [.ref (q.ad 0)] X (el_redo X) := by
  refine ct_of (by decide +kernel) (Nat.le_of_ble_eq_true rfl) ?_
  unfold el_redo
  show G q _ _ 0 [(0, .ref (q.ad 0))] [] X _
  refine g_aload_n 0 dX11_redo_0 rfl rfl ?_
  refine g_getR 0 1 12 rfl dX11_redo_1 rfl kkX11 flX11_21 (by decide) rfl rfl (by decide) rfl ?_
  refine g_cVIw (As := []) (st := []) 0 mF_wg rfl dX11_redo_4 rfl kkX0 (by decide) rfl vX0_doAgain lkX11_309 (rmL rfl rfl) (chg_doAgain_c q X) rfl rfl (Nat.le_of_ble_eq_true rfl) (fun c2 X1 => ?_)
  refine g_if_eq dX11_redo_7 rfl rfl ?_ ?_
  · refine g_bipush dX11_redo_20 rfl kbi_m5 ?_
    exact g_iret dX11_redo_22 rfl rfl
  refine g_aload_n 0 dX11_redo_10 rfl rfl ?_
  refine g_getR 0 1 12 rfl dX11_redo_11 rfl kkX11 flX11_21 (by decide) rfl rfl (by decide) rfl ?_
  refine g_cVIt (As := []) (st := []) 0 mF_wg rfl dX11_redo_14 rfl kkX0 (by decide) rfl vX0_undone lkX11_312 (rmL rfl rfl) (chg_undone_c q X1) rfl rfl (Nat.le_of_ble_eq_true rfl) ?_
  refine g_goto dX11_redo_17 rfl ?_
  exact g_iret dX11_redo_22 rfl rfl
def el_body (v1 : Int32) (X : St) : Option (Int32 × St) :=
  (if (way_isKind v1) = 0 then
  (some ((-1 : Int32), X))
  else
  (if (way_isFull X) = 0 then
  ((way_add v1 X).bind fun (c2, X1) =>
  (some (c2, X1)))
  else
  (some ((-3 : Int32), X))))
theorem el_body_c (q : Th) (v1 : Int32) (X : St) : Ct q nX11_body 2 fiw [.ref (q.ad 0), .int v1] X (el_body v1 X) := by
  refine ct_of (by decide +kernel) (Nat.le_of_ble_eq_true rfl) ?_
  unfold el_body
  show G q _ _ 0 [(0, .ref (q.ad 0)), (1, .int v1)] [] X _
  refine g_iload_n 1 dX11_body_0 rfl rfl ?_
  refine g_cSIt (As := [.int v1]) (st := []) 1 mF_wg rfl dX11_body_1 rfl vX10_isKind lkX11_315 (rmL rfl rfl) (way_isKind_c q v1 X) rfl rfl (Nat.le_of_ble_eq_true rfl) ?_
  refine g_if_ne dX11_body_4 rfl rfl ?_ ?_
  · refine g_iconst dX11_body_7 rfl kic_m1 ?_
    exact g_iret dX11_body_8 rfl rfl
  refine g_aload_n 0 dX11_body_9 rfl rfl ?_
  refine g_getR 0 9 88 rfl dX11_body_10 rfl kkX11 flX11_79 (by decide) rfl rfl (by decide) rfl ?_
  refine g_cVIt (As := []) (st := []) 0 mF_wg rfl dX11_body_13 rfl kkX10 (by decide) rfl vX10_isFull lkX11_318 (rmL rfl rfl) (way_isFull_c q X) rfl rfl (Nat.le_of_ble_eq_true rfl) ?_
  refine g_if_eq dX11_body_16 rfl rfl ?_ ?_
  · refine g_aload_n 0 dX11_body_24 rfl rfl ?_
    refine g_getR 0 9 88 rfl dX11_body_25 rfl kkX11 flX11_79 (by decide) rfl rfl (by decide) rfl ?_
    refine g_iload_n 1 dX11_body_28 rfl rfl ?_
    refine g_cVIw (As := [.int v1]) (st := []) 1 mF_wg rfl dX11_body_29 rfl kkX10 (by decide) rfl vX10_add lkX11_319 (rmL rfl rfl) (way_add_c q v1 X) rfl rfl (Nat.le_of_ble_eq_true rfl) (fun c2 X1 => ?_)
    exact g_iret dX11_body_32 rfl rfl
  refine g_bipush dX11_body_19 rfl kbi_m3 ?_
  refine g_goto dX11_body_21 rfl ?_
  exact g_iret dX11_body_32 rfl rfl
def el_act (v1 : Int32) (v2 : Int32) (v3 : Int32) (X : St) : Option (Int32 × St) :=
  ((way_start v1 X).bind fun (c2, X1) =>
  (if c2 = 0 then
  (some ((0 : Int32), X1))
  else
  (if v2 = (0 : Int32) then
  ((way_counts v3 X1).bind fun (c4, X3) =>
  (some (c4, X3)))
  else
  (if v2 = (1 : Int32) then
  ((way_turns v3 X1).bind fun (c6, X5) =>
  (some (c6, X5)))
  else
  (if v2 = (2 : Int32) then
  ((way_sinks v3 X1).bind fun (c8, X7) =>
  (some (c8, X7)))
  else
  (if v2 = (3 : Int32) then
  ((way_tells v3 X1).bind fun (c10, X9) =>
  (some (c10, X9)))
  else
  (some ((0 : Int32), X1))))))))
theorem el_act_c (q : Th) (v1 : Int32) (v2 : Int32) (v3 : Int32) (X : St) : Ct q nX11_act 7 fiw [.ref (q.ad 0), .int v1, .int v2, .int v3] X (el_act v1 v2 v3 X) := by
  refine ct_of (by decide +kernel) (Nat.le_of_ble_eq_true rfl) ?_
  unfold el_act
  show G q _ _ 0 [(0, .ref (q.ad 0)), (1, .int v1), (2, .int v2), (3, .int v3)] [] X _
  refine g_aload_n 0 dX11_act_0 rfl rfl ?_
  refine g_getR 0 9 88 rfl dX11_act_1 rfl kkX11 flX11_79 (by decide) rfl rfl (by decide) rfl ?_
  refine g_iload_n 1 dX11_act_4 rfl rfl ?_
  refine g_cVIw (As := [.int v1]) (st := []) 1 mF_wg rfl dX11_act_5 rfl kkX10 (by decide) rfl vX10_start lkX11_322 (rmL rfl rfl) (way_start_c q v1 X) rfl rfl (Nat.le_of_ble_eq_true rfl) (fun c2 X1 => ?_)
  refine g_if_ne dX11_act_8 rfl rfl ?_ ?_
  · refine g_iconst dX11_act_11 rfl kic_0 ?_
    exact g_iret dX11_act_12 rfl rfl
  refine g_iload_n 2 dX11_act_13 rfl rfl ?_
  refine g_case (z := (0 : Int32)) (fun hc => ?_) (fun hc0 => ?_)
  · refine g_tableIn hc dX11_act_14 (by decide) (by decide) rfl rfl ?_
    refine g_aload_n 0 dX11_act_44 rfl rfl ?_
    refine g_getR 0 9 88 rfl dX11_act_45 rfl kkX11 flX11_79 (by decide) rfl rfl (by decide) rfl ?_
    refine g_iload_n 3 dX11_act_48 rfl rfl ?_
    refine g_cVIw (As := [.int v3]) (st := []) 1 mF_wg rfl dX11_act_49 rfl kkX10 (by decide) rfl vX10_counts lkX11_325 (rmL rfl rfl) (way_counts_c q v3 X1) rfl rfl (Nat.le_of_ble_eq_true rfl) (fun c4 X3 => ?_)
    exact g_iret dX11_act_52 rfl rfl
  refine g_case (z := (1 : Int32)) (fun hc => ?_) (fun hc1 => ?_)
  · refine g_tableIn hc dX11_act_14 (by decide) (by decide) rfl rfl ?_
    refine g_aload_n 0 dX11_act_53 rfl rfl ?_
    refine g_getR 0 9 88 rfl dX11_act_54 rfl kkX11 flX11_79 (by decide) rfl rfl (by decide) rfl ?_
    refine g_iload_n 3 dX11_act_57 rfl rfl ?_
    refine g_cVIw (As := [.int v3]) (st := []) 1 mF_wg rfl dX11_act_58 rfl kkX10 (by decide) rfl vX10_turns lkX11_327 (rmL rfl rfl) (way_turns_c q v3 X1) rfl rfl (Nat.le_of_ble_eq_true rfl) (fun c6 X5 => ?_)
    exact g_iret dX11_act_61 rfl rfl
  refine g_case (z := (2 : Int32)) (fun hc => ?_) (fun hc2 => ?_)
  · refine g_tableIn hc dX11_act_14 (by decide) (by decide) rfl rfl ?_
    refine g_aload_n 0 dX11_act_62 rfl rfl ?_
    refine g_getR 0 9 88 rfl dX11_act_63 rfl kkX11 flX11_79 (by decide) rfl rfl (by decide) rfl ?_
    refine g_iload_n 3 dX11_act_66 rfl rfl ?_
    refine g_cVIw (As := [.int v3]) (st := []) 1 mF_wg rfl dX11_act_67 rfl kkX10 (by decide) rfl vX10_sinks lkX11_330 (rmL rfl rfl) (way_sinks_c q v3 X1) rfl rfl (Nat.le_of_ble_eq_true rfl) (fun c8 X7 => ?_)
    exact g_iret dX11_act_70 rfl rfl
  refine g_case (z := (3 : Int32)) (fun hc => ?_) (fun hc3 => ?_)
  · refine g_tableIn hc dX11_act_14 (by decide) (by decide) rfl rfl ?_
    refine g_aload_n 0 dX11_act_71 rfl rfl ?_
    refine g_getR 0 9 88 rfl dX11_act_72 rfl kkX11 flX11_79 (by decide) rfl rfl (by decide) rfl ?_
    refine g_iload_n 3 dX11_act_75 rfl rfl ?_
    refine g_cVIw (As := [.int v3]) (st := []) 1 mF_wg rfl dX11_act_76 rfl kkX10 (by decide) rfl vX10_tells lkX11_333 (rmL rfl rfl) (way_tells_c q v3 X1) rfl rfl (Nat.le_of_ble_eq_true rfl) (fun c10 X9 => ?_)
    exact g_iret dX11_act_79 rfl rfl
  refine g_tableOut dX11_act_14 (by have e0 := lv_neT (a := 0) hc0 (by decide); have e1 := lv_neT (a := 1) hc1 (by decide); have e2 := lv_neT (a := 2) hc2 (by decide); have e3 := lv_neT (a := 3) hc3 (by decide); omega) rfl ?_
  refine g_iconst dX11_act_80 rfl kic_0 ?_
  exact g_iret dX11_act_81 rfl rfl
def el_trace (v1 : Int32) (X : St) : Option (Int32) :=
  ((way_traced v1 X).bind fun c1 =>
  (some c1))
theorem el_trace_c (q : Th) (v1 : Int32) (X : St) : Ct q nX11_trace 1 (fir X) [.ref (q.ad 0), .int v1] X (el_trace v1 X) := by
  refine ct_of (by decide +kernel) (Nat.le_of_ble_eq_true rfl) ?_
  unfold el_trace
  show G q _ _ 0 [(0, .ref (q.ad 0)), (1, .int v1)] [] X _
  refine g_aload_n 0 dX11_trace_0 rfl rfl ?_
  refine g_getR 0 9 88 rfl dX11_trace_1 rfl kkX11 flX11_79 (by decide) rfl rfl (by decide) rfl ?_
  refine g_iload_n 1 dX11_trace_4 rfl rfl ?_
  refine g_cVIr (As := [.int v1]) (st := []) 1 mF_wg rfl dX11_trace_5 rfl kkX10 (by decide) rfl vX10_traced lkX11_336 (rmL rfl rfl) (way_traced_c q v1 X) rfl rfl (Nat.le_of_ble_eq_true rfl) (fun c1 => ?_)
  exact g_iret dX11_trace_8 rfl rfl
def el_keep (v1 : Int32) (v2 : Int32) (X : St) : Option (Int32 × St) :=
  (if (she_isShelf v1) = 0 then
  (some ((-1 : Int32), X))
  else
  (if v2 = (-1 : Int32) then
  ((she_hold v1 v2 X).bind fun X1 =>
  (some ((1 : Int32), X1)))
  else
  (if (way_has v2 X) = 0 then
  (some ((-1 : Int32), X))
  else
  ((she_hold v1 v2 X).bind fun X2 =>
  (some ((1 : Int32), X2))))))
theorem el_keep_c (q : Th) (v1 : Int32) (v2 : Int32) (X : St) : Ct q nX11_keep 2 fiw [.ref (q.ad 0), .int v1, .int v2] X (el_keep v1 v2 X) := by
  refine ct_of (by decide +kernel) (Nat.le_of_ble_eq_true rfl) ?_
  unfold el_keep
  show G q _ _ 0 [(0, .ref (q.ad 0)), (1, .int v1), (2, .int v2)] [] X _
  refine g_iload_n 1 dX11_keep_0 rfl rfl ?_
  refine g_cSIt (As := [.int v1]) (st := []) 1 mF_wg rfl dX11_keep_1 rfl vX7_isShelf lkX11_102 (rmL rfl rfl) (she_isShelf_c q v1 X) rfl rfl (Nat.le_of_ble_eq_true rfl) ?_
  refine g_if_eq dX11_keep_4 rfl rfl ?_ ?_
  · refine g_iconst dX11_keep_23 rfl kic_m1 ?_
    exact g_iret dX11_keep_24 rfl rfl
  refine g_iload_n 2 dX11_keep_7 rfl rfl ?_
  refine g_iconst dX11_keep_8 rfl kic_m1 ?_
  refine g_icmp_eq dX11_keep_9 rfl rfl ?_ ?_
  · refine g_aload_n 0 dX11_keep_25 rfl rfl ?_
    refine g_getR 0 10 91 rfl dX11_keep_26 rfl kkX11 flX11_86 (by decide) rfl rfl (by decide) rfl ?_
    refine g_iload_n 1 dX11_keep_29 rfl rfl ?_
    refine g_iload_n 2 dX11_keep_30 rfl rfl ?_
    refine g_cVVw (As := [.int v1, .int v2]) (st := []) 2 mF_wg rfl dX11_keep_31 rfl kkX7 (by decide) rfl vX7_hold lkX11_340 (rmL rfl rfl) (she_hold_c q v1 v2 X) rfl rfl (Nat.le_of_ble_eq_true rfl) (fun X1 => ?_)
    refine g_iconst dX11_keep_34 rfl kic_1 ?_
    exact g_iret dX11_keep_35 rfl rfl
  refine g_aload_n 0 dX11_keep_12 rfl rfl ?_
  refine g_getR 0 9 88 rfl dX11_keep_13 rfl kkX11 flX11_79 (by decide) rfl rfl (by decide) rfl ?_
  refine g_iload_n 2 dX11_keep_16 rfl rfl ?_
  refine g_cVIt (As := [.int v2]) (st := []) 1 mF_wg rfl dX11_keep_17 rfl kkX10 (by decide) rfl vX10_has lkX11_339 (rmL rfl rfl) (way_has_c q v2 X) rfl rfl (Nat.le_of_ble_eq_true rfl) ?_
  refine g_if_ne dX11_keep_20 rfl rfl ?_ ?_
  · refine g_iconst dX11_keep_23 rfl kic_m1 ?_
    exact g_iret dX11_keep_24 rfl rfl
  refine g_aload_n 0 dX11_keep_25 rfl rfl ?_
  refine g_getR 0 10 91 rfl dX11_keep_26 rfl kkX11 flX11_86 (by decide) rfl rfl (by decide) rfl ?_
  refine g_iload_n 1 dX11_keep_29 rfl rfl ?_
  refine g_iload_n 2 dX11_keep_30 rfl rfl ?_
  refine g_cVVw (As := [.int v1, .int v2]) (st := []) 2 mF_wg rfl dX11_keep_31 rfl kkX7 (by decide) rfl vX7_hold lkX11_340 (rmL rfl rfl) (she_hold_c q v1 v2 X) rfl rfl (Nat.le_of_ble_eq_true rfl) (fun X2 => ?_)
  refine g_iconst dX11_keep_34 rfl kic_1 ?_
  exact g_iret dX11_keep_35 rfl rfl
def el_row (n : Nat) (v1 : Int32) (v2 : Int32) (v3 : Int32) (X : St) : Option (Int32 × St) :=
  (if (she_isShelf v1) = 0 then
  (some ((-1 : Int32), X))
  else
  (if (she_isSort v2) = 0 then
  (some ((-1 : Int32), X))
  else
  (if (60 : Int32) < v3 then
  (some ((-1 : Int32), X))
  else
  (if v3 < 0 then
  (some ((-14 : Int32), X))
  else
  ((she_lay n v1 v2 v3 X).bind fun X1 =>
  (some ((1 : Int32), X1)))))))
theorem el_row_c (q : Th) (n : Nat) (v1 : Int32) (v2 : Int32) (v3 : Int32) (X : St) : Ct q nX11_row 2 fiw [.ref (q.ad 0), .int v1, .int v2, .int v3] X (el_row n v1 v2 v3 X) := by
  refine ct_of (by decide +kernel) (Nat.le_of_ble_eq_true rfl) ?_
  unfold el_row
  show G q _ _ 0 [(0, .ref (q.ad 0)), (1, .int v1), (2, .int v2), (3, .int v3)] [] X _
  refine g_iload_n 1 dX11_row_0 rfl rfl ?_
  refine g_cSIt (As := [.int v1]) (st := []) 1 mF_wg rfl dX11_row_1 rfl vX7_isShelf lkX11_102 (rmL rfl rfl) (she_isShelf_c q v1 X) rfl rfl (Nat.le_of_ble_eq_true rfl) ?_
  refine g_if_eq dX11_row_4 rfl rfl ?_ ?_
  · refine g_iconst dX11_row_20 rfl kic_m1 ?_
    exact g_iret dX11_row_21 rfl rfl
  refine g_iload_n 2 dX11_row_7 rfl rfl ?_
  refine g_cSIt (As := [.int v2]) (st := []) 1 mF_wg rfl dX11_row_8 rfl vX7_isSort lkX11_343 (rmL rfl rfl) (she_isSort_c q v2 X) rfl rfl (Nat.le_of_ble_eq_true rfl) ?_
  refine g_if_eq dX11_row_11 rfl rfl ?_ ?_
  · refine g_iconst dX11_row_20 rfl kic_m1 ?_
    exact g_iret dX11_row_21 rfl rfl
  refine g_iload_n 3 dX11_row_14 rfl rfl ?_
  refine g_bipush dX11_row_15 rfl kbi_60 ?_
  refine g_icmp_le dX11_row_17 rfl rfl ?_ ?_
  · refine g_iconst dX11_row_20 rfl kic_m1 ?_
    exact g_iret dX11_row_21 rfl rfl
  refine g_iload_n 3 dX11_row_22 rfl rfl ?_
  refine g_if_ge dX11_row_23 rfl rfl ?_ ?_
  · refine g_bipush dX11_row_26 rfl kbi_m14 ?_
    exact g_iret dX11_row_28 rfl rfl
  refine g_aload_n 0 dX11_row_29 rfl rfl ?_
  refine g_getR 0 10 91 rfl dX11_row_30 rfl kkX11 flX11_86 (by decide) rfl rfl (by decide) rfl ?_
  refine g_iload_n 1 dX11_row_33 rfl rfl ?_
  refine g_iload_n 2 dX11_row_34 rfl rfl ?_
  refine g_iload_n 3 dX11_row_35 rfl rfl ?_
  refine g_cVVw (As := [.int v1, .int v2, .int v3]) (st := []) 3 mF_wg rfl dX11_row_36 rfl kkX7 (by decide) rfl vX7_lay lkX11_346 (rmL rfl rfl) (she_lay_c q n v1 v2 v3 X) rfl rfl (Nat.le_of_ble_eq_true rfl) (fun X1 => ?_)
  refine g_iconst dX11_row_39 rfl kic_1 ?_
  exact g_iret dX11_row_40 rfl rfl
def el_put (v1 : Int32) (v2 : Int32) (w3 : Int64) (X : St) : Option (Int32 × St) :=
  (if (she_isShelf v1) = 0 then
  (some ((-1 : Int32), X))
  else
  ((she_rowRefusal v1 X).bind fun c1 =>
  (if c1 = 0 then
  ((she_set v1 v2 w3 X).bind fun (c3, X2) =>
  (if c3 = 0 then
  (some ((-13 : Int32), X2))
  else
  (some ((1 : Int32), X2))))
  else
  (some (c1, X)))))
theorem el_put_c (q : Th) (v1 : Int32) (v2 : Int32) (w3 : Int64) (X : St) : Ct q nX11_put 3 fiw [.ref (q.ad 0), .int v1, .int v2, .long w3] X (el_put v1 v2 w3 X) := by
  refine ct_of (by decide +kernel) (Nat.le_of_ble_eq_true rfl) ?_
  unfold el_put
  show G q _ _ 0 [(0, .ref (q.ad 0)), (1, .int v1), (2, .int v2), (3, .long w3)] [] X _
  refine g_iload_n 1 dX11_put_0 rfl rfl ?_
  refine g_cSIt (As := [.int v1]) (st := []) 1 mF_wg rfl dX11_put_1 rfl vX7_isShelf lkX11_102 (rmL rfl rfl) (she_isShelf_c q v1 X) rfl rfl (Nat.le_of_ble_eq_true rfl) ?_
  refine g_if_ne dX11_put_4 rfl rfl ?_ ?_
  · refine g_iconst dX11_put_7 rfl kic_m1 ?_
    exact g_iret dX11_put_8 rfl rfl
  refine g_aload_n 0 dX11_put_9 rfl rfl ?_
  refine g_getR 0 10 91 rfl dX11_put_10 rfl kkX11 flX11_86 (by decide) rfl rfl (by decide) rfl ?_
  refine g_iload_n 1 dX11_put_13 rfl rfl ?_
  refine g_cVIr (As := [.int v1]) (st := []) 1 mF_wg rfl dX11_put_14 rfl kkX7 (by decide) rfl vX7_rowRefusal lkX11_349 (rmL rfl rfl) (she_rowRefusal_c q v1 X) rfl rfl (Nat.le_of_ble_eq_true rfl) (fun c1 => ?_)
  refine g_istore (lv' := [(5, .int c1), (0, .ref (q.ad 0)), (1, .int v1), (2, .int v2), (3, .long w3)]) dX11_put_17 rfl (Nat.le_of_ble_eq_true rfl) rfl ?_
  refine g_iload 0 dX11_put_19 rfl rfl ?_
  refine g_if_eq dX11_put_21 rfl rfl ?_ ?_
  · refine g_aload_n 1 dX11_put_27 rfl rfl ?_
    refine g_getR 0 10 91 rfl dX11_put_28 rfl kkX11 flX11_86 (by decide) rfl rfl (by decide) rfl ?_
    refine g_iload_n 2 dX11_put_31 rfl rfl ?_
    refine g_iload_n 3 dX11_put_32 rfl rfl ?_
    refine g_lload_n 4 dX11_put_33 rfl rfl ?_
    refine g_cVIw (As := [.int v1, .int v2, .long w3]) (st := []) 3 mF_wg rfl dX11_put_34 rfl kkX7 (by decide) rfl vX7_set lkX11_352 (rmL rfl rfl) (she_set_c q v1 v2 w3 X) rfl rfl (Nat.le_of_ble_eq_true rfl) (fun c3 X2 => ?_)
    refine g_if_eq dX11_put_37 rfl rfl ?_ ?_
    · refine g_bipush dX11_put_44 rfl kbi_m13 ?_
      exact g_iret dX11_put_46 rfl rfl
    refine g_iconst dX11_put_40 rfl kic_1 ?_
    refine g_goto dX11_put_41 rfl ?_
    exact g_iret dX11_put_46 rfl rfl
  refine g_iload 0 dX11_put_24 rfl rfl ?_
  exact g_iret dX11_put_26 rfl rfl
def el_element (v1 : Int32) (v2 : Int32) (X : St) : Option (Int64) :=
  (if (she_isShelf v1) = 0 then
  (some (-9223372036854775808 : Int64))
  else
  ((she_rowRefusal v1 X).bind fun c1 =>
  (if c1 = 0 then
  ((she_elementAt v1 v2 X).bind fun c2 =>
  (some c2))
  else
  (some (-9223372036854775808 : Int64)))))
theorem el_element_c (q : Th) (v1 : Int32) (v2 : Int32) (X : St) : Ct q nX11_element 3 (flr X) [.ref (q.ad 0), .int v1, .int v2] X (el_element v1 v2 X) := by
  refine ct_of (by decide +kernel) (Nat.le_of_ble_eq_true rfl) ?_
  unfold el_element
  show G q _ _ 0 [(0, .ref (q.ad 0)), (1, .int v1), (2, .int v2)] [] X _
  refine g_iload_n 1 dX11_element_0 rfl rfl ?_
  refine g_cSIt (As := [.int v1]) (st := []) 1 mF_wg rfl dX11_element_1 rfl vX7_isShelf lkX11_102 (rmL rfl rfl) (she_isShelf_c q v1 X) rfl rfl (Nat.le_of_ble_eq_true rfl) ?_
  refine g_if_eq dX11_element_4 rfl rfl ?_ ?_
  · refine g_ldc2 rfl dX11_element_18 rfl klX11_356 ?_
    exact g_lret dX11_element_21 rfl rfl
  refine g_aload_n 0 dX11_element_7 rfl rfl ?_
  refine g_getR 0 10 91 rfl dX11_element_8 rfl kkX11 flX11_86 (by decide) rfl rfl (by decide) rfl ?_
  refine g_iload_n 1 dX11_element_11 rfl rfl ?_
  refine g_cVIr (As := [.int v1]) (st := []) 1 mF_wg rfl dX11_element_12 rfl kkX7 (by decide) rfl vX7_rowRefusal lkX11_349 (rmL rfl rfl) (she_rowRefusal_c q v1 X) rfl rfl (Nat.le_of_ble_eq_true rfl) (fun c1 => ?_)
  refine g_if_eq dX11_element_15 rfl rfl ?_ ?_
  · refine g_aload_n 0 dX11_element_22 rfl rfl ?_
    refine g_getR 0 10 91 rfl dX11_element_23 rfl kkX11 flX11_86 (by decide) rfl rfl (by decide) rfl ?_
    refine g_iload_n 1 dX11_element_26 rfl rfl ?_
    refine g_iload_n 2 dX11_element_27 rfl rfl ?_
    refine g_cVLr (As := [.int v1, .int v2]) (st := []) 2 mF_wg rfl dX11_element_28 rfl kkX7 (by decide) rfl vX7_elementAt lkX11_358 (rmL rfl rfl) (she_elementAt_c q v1 v2 X) rfl rfl (Nat.le_of_ble_eq_true rfl) (fun c2 => ?_)
    exact g_lret dX11_element_31 rfl rfl
  refine g_ldc2 rfl dX11_element_18 rfl klX11_356 ?_
  exact g_lret dX11_element_21 rfl rfl
def el_shift (v1 : Int32) (v2 : Int32) (v3 : Int32) (v4 : Int32) (v5 : Int32) (X : St) : Option (Int32 × St) :=
  (if (she_isShelf v1) = 0 then
  (some ((-1 : Int32), X))
  else
  (if (she_isShelf v3) = 0 then
  (some ((-1 : Int32), X))
  else
  ((she_pairRefusal v1 v3 X).bind fun c1 =>
  (if c1 = 0 then
  ((she_move v1 v2 v3 v4 v5 X).bind fun (c3, X2) =>
  (if c3 = 0 then
  (some ((-13 : Int32), X2))
  else
  (some (v5, X2))))
  else
  (some (c1, X))))))
theorem el_shift_c (q : Th) (v1 : Int32) (v2 : Int32) (v3 : Int32) (v4 : Int32) (v5 : Int32) (X : St) : Ct q nX11_shift 3 fiw [.ref (q.ad 0), .int v1, .int v2, .int v3, .int v4, .int v5] X (el_shift v1 v2 v3 v4 v5 X) := by
  refine ct_of (by decide +kernel) (Nat.le_of_ble_eq_true rfl) ?_
  unfold el_shift
  show G q _ _ 0 [(0, .ref (q.ad 0)), (1, .int v1), (2, .int v2), (3, .int v3), (4, .int v4), (5, .int v5)] [] X _
  refine g_iload_n 1 dX11_shift_0 rfl rfl ?_
  refine g_cSIt (As := [.int v1]) (st := []) 1 mF_wg rfl dX11_shift_1 rfl vX7_isShelf lkX11_102 (rmL rfl rfl) (she_isShelf_c q v1 X) rfl rfl (Nat.le_of_ble_eq_true rfl) ?_
  refine g_if_eq dX11_shift_4 rfl rfl ?_ ?_
  · refine g_iconst dX11_shift_14 rfl kic_m1 ?_
    exact g_iret dX11_shift_15 rfl rfl
  refine g_iload_n 3 dX11_shift_7 rfl rfl ?_
  refine g_cSIt (As := [.int v3]) (st := []) 1 mF_wg rfl dX11_shift_8 rfl vX7_isShelf lkX11_102 (rmL rfl rfl) (she_isShelf_c q v3 X) rfl rfl (Nat.le_of_ble_eq_true rfl) ?_
  refine g_if_ne dX11_shift_11 rfl rfl ?_ ?_
  · refine g_iconst dX11_shift_14 rfl kic_m1 ?_
    exact g_iret dX11_shift_15 rfl rfl
  refine g_aload_n 0 dX11_shift_16 rfl rfl ?_
  refine g_getR 0 10 91 rfl dX11_shift_17 rfl kkX11 flX11_86 (by decide) rfl rfl (by decide) rfl ?_
  refine g_iload_n 1 dX11_shift_20 rfl rfl ?_
  refine g_iload_n 3 dX11_shift_21 rfl rfl ?_
  refine g_cVIr (As := [.int v1, .int v3]) (st := []) 2 mF_wg rfl dX11_shift_22 rfl kkX7 (by decide) rfl vX7_pairRefusal lkX11_362 (rmL rfl rfl) (she_pairRefusal_c q v1 v3 X) rfl rfl (Nat.le_of_ble_eq_true rfl) (fun c1 => ?_)
  refine g_istore (lv' := [(6, .int c1), (0, .ref (q.ad 0)), (1, .int v1), (2, .int v2), (3, .int v3), (4, .int v4), (5, .int v5)]) dX11_shift_25 rfl (Nat.le_of_ble_eq_true rfl) rfl ?_
  refine g_iload 0 dX11_shift_27 rfl rfl ?_
  refine g_if_eq dX11_shift_29 rfl rfl ?_ ?_
  · refine g_aload_n 1 dX11_shift_35 rfl rfl ?_
    refine g_getR 0 10 91 rfl dX11_shift_36 rfl kkX11 flX11_86 (by decide) rfl rfl (by decide) rfl ?_
    refine g_iload_n 2 dX11_shift_39 rfl rfl ?_
    refine g_iload_n 3 dX11_shift_40 rfl rfl ?_
    refine g_iload_n 4 dX11_shift_41 rfl rfl ?_
    refine g_iload 5 dX11_shift_42 rfl rfl ?_
    refine g_iload 6 dX11_shift_44 rfl rfl ?_
    refine g_cVIw (As := [.int v1, .int v2, .int v3, .int v4, .int v5]) (st := []) 5 mF_wg rfl dX11_shift_46 rfl kkX7 (by decide) rfl vX7_move lkX11_365 (rmL rfl rfl) (she_move_c q v1 v2 v3 v4 v5 X) rfl rfl (Nat.le_of_ble_eq_true rfl) (fun c3 X2 => ?_)
    refine g_if_eq dX11_shift_49 rfl rfl ?_ ?_
    · refine g_bipush dX11_shift_57 rfl kbi_m13 ?_
      exact g_iret dX11_shift_59 rfl rfl
    refine g_iload 6 dX11_shift_52 rfl rfl ?_
    refine g_goto dX11_shift_54 rfl ?_
    exact g_iret dX11_shift_59 rfl rfl
  refine g_iload 0 dX11_shift_32 rfl rfl ?_
  exact g_iret dX11_shift_34 rfl rfl
def el_taken (v1 : Int32) (v2 : Int32) (X : St) : Option (Int32) :=
  (if (she_isShelf v1) = 0 then
  (some (-1 : Int32))
  else
  (if (way_isKind v2) = 0 then
  (some (-1 : Int32))
  else
  ((she_refusal v1 (5 : Int32) X).bind fun c1 =>
  (if c1 = 0 then
  ((she_held v1 X).bind fun c2 =>
  ((way_kindOf c2 X).bind fun c3 =>
  ((way_isUnder c3 v2 X).bind fun c4 =>
  (if c4 = 0 then
  (some (-12 : Int32))
  else
  (some c3)))))
  else
  (some c1)))))
theorem el_taken_c (q : Th) (v1 : Int32) (v2 : Int32) (X : St) : Ct q nX11_taken 3 (fir X) [.ref (q.ad 0), .int v1, .int v2] X (el_taken v1 v2 X) := by
  refine ct_of (by decide +kernel) (Nat.le_of_ble_eq_true rfl) ?_
  unfold el_taken
  show G q _ _ 0 [(0, .ref (q.ad 0)), (1, .int v1), (2, .int v2)] [] X _
  refine g_iload_n 1 dX11_taken_0 rfl rfl ?_
  refine g_cSIt (As := [.int v1]) (st := []) 1 mF_wg rfl dX11_taken_1 rfl vX7_isShelf lkX11_102 (rmL rfl rfl) (she_isShelf_c q v1 X) rfl rfl (Nat.le_of_ble_eq_true rfl) ?_
  refine g_if_eq dX11_taken_4 rfl rfl ?_ ?_
  · refine g_iconst dX11_taken_14 rfl kic_m1 ?_
    exact g_iret dX11_taken_15 rfl rfl
  refine g_iload_n 2 dX11_taken_7 rfl rfl ?_
  refine g_cSIt (As := [.int v2]) (st := []) 1 mF_wg rfl dX11_taken_8 rfl vX10_isKind lkX11_315 (rmL rfl rfl) (way_isKind_c q v2 X) rfl rfl (Nat.le_of_ble_eq_true rfl) ?_
  refine g_if_ne dX11_taken_11 rfl rfl ?_ ?_
  · refine g_iconst dX11_taken_14 rfl kic_m1 ?_
    exact g_iret dX11_taken_15 rfl rfl
  refine g_aload_n 0 dX11_taken_16 rfl rfl ?_
  refine g_getR 0 10 91 rfl dX11_taken_17 rfl kkX11 flX11_86 (by decide) rfl rfl (by decide) rfl ?_
  refine g_iload_n 1 dX11_taken_20 rfl rfl ?_
  refine g_iconst dX11_taken_21 rfl kic_5 ?_
  refine g_cVIr (As := [.int v1, .int (5 : Int32)]) (st := []) 2 mF_wg rfl dX11_taken_22 rfl kkX7 (by decide) rfl vX7_refusal lkX11_106 (rmL rfl rfl) (she_refusal_c q v1 (5 : Int32) X) rfl rfl (Nat.le_of_ble_eq_true rfl) (fun c1 => ?_)
  refine g_istore_n (lv' := [(3, .int c1), (0, .ref (q.ad 0)), (1, .int v1), (2, .int v2)]) dX11_taken_25 rfl rfl (Nat.le_of_ble_eq_true rfl) rfl ?_
  refine g_iload_n 0 dX11_taken_26 rfl rfl ?_
  refine g_if_eq dX11_taken_27 rfl rfl ?_ ?_
  · refine g_aload_n 1 dX11_taken_32 rfl rfl ?_
    refine g_getR 0 9 88 rfl dX11_taken_33 rfl kkX11 flX11_79 (by decide) rfl rfl (by decide) rfl ?_
    refine g_aload_n 1 dX11_taken_36 rfl rfl ?_
    refine g_getR 0 10 91 rfl dX11_taken_37 rfl kkX11 flX11_86 (by decide) rfl rfl (by decide) rfl ?_
    refine g_iload_n 2 dX11_taken_40 rfl rfl ?_
    refine g_cVIr (As := [.int v1]) (st := [.ref (q.ad 88)]) 1 mF_wg rfl dX11_taken_41 rfl kkX7 (by decide) rfl vX7_held lkX11_369 (rmL rfl rfl) (she_held_c q v1 X) rfl rfl (Nat.le_of_ble_eq_true rfl) (fun c2 => ?_)
    refine g_cVIr (As := [.int c2]) (st := []) 1 mF_wg rfl dX11_taken_44 rfl kkX10 (by decide) rfl vX10_kindOf lkX11_372 (rmL rfl rfl) (way_kindOf_c q c2 X) rfl rfl (Nat.le_of_ble_eq_true rfl) (fun c3 => ?_)
    refine g_istore (lv' := [(4, .int c3), (3, .int c1), (0, .ref (q.ad 0)), (1, .int v1), (2, .int v2)]) dX11_taken_47 rfl (Nat.le_of_ble_eq_true rfl) rfl ?_
    refine g_iload 0 dX11_taken_49 rfl rfl ?_
    refine g_iload_n 4 dX11_taken_51 rfl rfl ?_
    refine g_cSIr (As := [.int c3, .int v2]) (st := []) 2 mF_wg rfl dX11_taken_52 rfl vX10_isUnder lkX11_375 (rmL rfl rfl) (way_isUnder_c q c3 v2 X) rfl rfl (Nat.le_of_ble_eq_true rfl) (fun c4 => ?_)
    refine g_if_eq dX11_taken_55 rfl rfl ?_ ?_
    · refine g_bipush dX11_taken_63 rfl kbi_m12 ?_
      exact g_iret dX11_taken_65 rfl rfl
    refine g_iload 0 dX11_taken_58 rfl rfl ?_
    refine g_goto dX11_taken_60 rfl ?_
    exact g_iret dX11_taken_65 rfl rfl
  refine g_iload_n 0 dX11_taken_30 rfl rfl ?_
  exact g_iret dX11_taken_31 rfl rfl
def el_count (v1 : Int32) (X : St) : Int32 :=
  (if v1 = (0 : Int32) then
  ((poo_many X))
  else
  (if v1 = (1 : Int32) then
  ((tap_length X))
  else
  (if v1 = (2 : Int32) then
  ((chg_done X))
  else
  (if v1 = (3 : Int32) then
  ((way_many X))
  else
  (if v1 = (4 : Int32) then
  ((way_ran X))
  else
  ((-1 : Int32)))))))
def el_count_o (v1 : Int32) (X : St) : Option Int32 :=
  (if v1 = (0 : Int32) then
  (some (poo_many X))
  else
  (if v1 = (1 : Int32) then
  (some (tap_length X))
  else
  (if v1 = (2 : Int32) then
  (some (chg_done X))
  else
  (if v1 = (3 : Int32) then
  (some (way_many X))
  else
  (if v1 = (4 : Int32) then
  (some (way_ran X))
  else
  (some (-1 : Int32)))))))
theorem el_count_e (v1 : Int32) (X : St) : el_count_o v1 X = some (el_count v1 X) := by
  unfold el_count_o el_count
  simp only [apply_ite some]
theorem el_count_c (q : Th) (v1 : Int32) (X : St) : Ct q nX11_count 1 (fir X) [.ref (q.ad 0), .int v1] X (some (el_count v1 X)) := by
  refine ct_of (by decide +kernel) (Nat.le_of_ble_eq_true rfl) ?_
  rw [← el_count_e]
  unfold el_count_o
  show G q _ _ 0 [(0, .ref (q.ad 0)), (1, .int v1)] [] X _
  refine g_iload_n 1 dX11_count_0 rfl rfl ?_
  refine g_case (z := (0 : Int32)) (fun hc => ?_) (fun hc0 => ?_)
  · refine g_tableIn hc dX11_count_1 (by decide) (by decide) rfl rfl ?_
    refine g_aload_n 0 dX11_count_36 rfl rfl ?_
    refine g_getR 0 0 1 rfl dX11_count_37 rfl kkX11 flX11_10 (by decide) rfl rfl (by decide) rfl ?_
    refine g_cVIt (As := []) (st := []) 0 mF_wg rfl dX11_count_40 rfl kkX5 (by decide) rfl vX5_many lkX11_245 (rmL rfl rfl) (poo_many_c q X) rfl rfl (Nat.le_of_ble_eq_true rfl) ?_
    exact g_iret dX11_count_43 rfl rfl
  refine g_case (z := (1 : Int32)) (fun hc => ?_) (fun hc1 => ?_)
  · refine g_tableIn hc dX11_count_1 (by decide) (by decide) rfl rfl ?_
    refine g_aload_n 0 dX11_count_44 rfl rfl ?_
    refine g_getR 0 2 17 rfl dX11_count_45 rfl kkX11 flX11_28 (by decide) rfl rfl (by decide) rfl ?_
    refine g_cVIt (As := []) (st := []) 0 mF_wg rfl dX11_count_48 rfl kkX8 (by decide) rfl vX8_length lkX11_378 (rmL rfl rfl) (tap_length_c q X) rfl rfl (Nat.le_of_ble_eq_true rfl) ?_
    exact g_iret dX11_count_51 rfl rfl
  refine g_case (z := (2 : Int32)) (fun hc => ?_) (fun hc2 => ?_)
  · refine g_tableIn hc dX11_count_1 (by decide) (by decide) rfl rfl ?_
    refine g_aload_n 0 dX11_count_52 rfl rfl ?_
    refine g_getR 0 1 12 rfl dX11_count_53 rfl kkX11 flX11_21 (by decide) rfl rfl (by decide) rfl ?_
    refine g_cVIt (As := []) (st := []) 0 mF_wg rfl dX11_count_56 rfl kkX0 (by decide) rfl vX0_done lkX11_306 (rmL rfl rfl) (chg_done_c q X) rfl rfl (Nat.le_of_ble_eq_true rfl) ?_
    exact g_iret dX11_count_59 rfl rfl
  refine g_case (z := (3 : Int32)) (fun hc => ?_) (fun hc3 => ?_)
  · refine g_tableIn hc dX11_count_1 (by decide) (by decide) rfl rfl ?_
    refine g_aload_n 0 dX11_count_60 rfl rfl ?_
    refine g_getR 0 9 88 rfl dX11_count_61 rfl kkX11 flX11_79 (by decide) rfl rfl (by decide) rfl ?_
    refine g_cVIt (As := []) (st := []) 0 mF_wg rfl dX11_count_64 rfl kkX10 (by decide) rfl vX10_many lkX11_381 (rmL rfl rfl) (way_many_c q X) rfl rfl (Nat.le_of_ble_eq_true rfl) ?_
    exact g_iret dX11_count_67 rfl rfl
  refine g_case (z := (4 : Int32)) (fun hc => ?_) (fun hc4 => ?_)
  · refine g_tableIn hc dX11_count_1 (by decide) (by decide) rfl rfl ?_
    refine g_aload_n 0 dX11_count_68 rfl rfl ?_
    refine g_getR 0 9 88 rfl dX11_count_69 rfl kkX11 flX11_79 (by decide) rfl rfl (by decide) rfl ?_
    refine g_cVIt (As := []) (st := []) 0 mF_wg rfl dX11_count_72 rfl kkX10 (by decide) rfl vX10_ran lkX11_382 (rmL rfl rfl) (way_ran_c q X) rfl rfl (Nat.le_of_ble_eq_true rfl) ?_
    exact g_iret dX11_count_75 rfl rfl
  refine g_tableOut dX11_count_1 (by have e0 := lv_neT (a := 0) hc0 (by decide); have e1 := lv_neT (a := 1) hc1 (by decide); have e2 := lv_neT (a := 2) hc2 (by decide); have e3 := lv_neT (a := 3) hc3 (by decide); have e4 := lv_neT (a := 4) hc4 (by decide); omega) rfl ?_
  refine g_iconst dX11_count_76 rfl kic_m1 ?_
  exact g_iret dX11_count_77 rfl rfl
