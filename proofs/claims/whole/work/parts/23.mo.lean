/-! 23.mo: what the methods come to, and that they do -/
def mo_within (v0 : Int32) (v1 : Int32) (v2 : Int32) : Int32 :=
  (if v0 < v1 then
  ((0 : Int32))
  else
  (if v2 < v0 then
  ((0 : Int32))
  else
  ((1 : Int32))))
def mo_within_o (v0 : Int32) (v1 : Int32) (v2 : Int32) : Option Int32 :=
  (if v0 < v1 then
  (some (0 : Int32))
  else
  (if v2 < v0 then
  (some (0 : Int32))
  else
  (some (1 : Int32))))
theorem mo_within_e (v0 : Int32) (v1 : Int32) (v2 : Int32) : mo_within_o v0 v1 v2 = some (mo_within v0 v1 v2) := by
  unfold mo_within_o mo_within
  simp only [apply_ite some]
theorem z_mo_within (v0 : Int32) (v1 : Int32) (v2 : Int32) : isZ (mo_within v0 v1 v2) = true := by
  unfold mo_within
  (repeat' split) <;> first | rfl
theorem mo_within_c (q : Th) (v0 : Int32) (v1 : Int32) (v2 : Int32) (X : St) : Ct q nX12_within 0 (fir X) [.int v0, .int v1, .int v2] X (some (mo_within v0 v1 v2)) := by
  refine ct_of (by decide +kernel) (Nat.le_of_ble_eq_true rfl) ?_
  rw [← mo_within_e]
  unfold mo_within_o
  show G q _ _ 0 [(0, .int v0), (1, .int v1), (2, .int v2)] [] X _
  refine g_iload_n 0 dX12_within_0 rfl rfl ?_
  refine g_iload_n 1 dX12_within_1 rfl rfl ?_
  refine g_icmp_lt dX12_within_2 rfl rfl ?_ ?_
  · refine g_iconst dX12_within_14 rfl kic_0 ?_
    exact g_zret dX12_within_15 rfl rfl rfl
  refine g_iload_n 0 dX12_within_5 rfl rfl ?_
  refine g_iload_n 2 dX12_within_6 rfl rfl ?_
  refine g_icmp_gt dX12_within_7 rfl rfl ?_ ?_
  · refine g_iconst dX12_within_14 rfl kic_0 ?_
    exact g_zret dX12_within_15 rfl rfl rfl
  refine g_iconst dX12_within_10 rfl kic_1 ?_
  refine g_goto dX12_within_11 rfl ?_
  exact g_zret dX12_within_15 rfl rfl rfl
def mo_isOne (v1 : Int32) (X : St) : Int32 :=
  ((mo_within v1 (0 : Int32) ((X.1 102 0) - (1 : Int32))))
def mo_isOne_o (v1 : Int32) (X : St) : Option Int32 :=
  (some (mo_within v1 (0 : Int32) ((X.1 102 0) - (1 : Int32))))
theorem mo_isOne_e (v1 : Int32) (X : St) : mo_isOne_o v1 X = some (mo_isOne v1 X) := rfl
theorem z_mo_isOne (v1 : Int32) (X : St) : isZ (mo_isOne v1 X) = true := by
  unfold mo_isOne
  (repeat' split) <;> first | rfl | apply z_mo_within
theorem mo_isOne_c (q : Th) (v1 : Int32) (X : St) : Ct q nX12_isOne 1 (fir X) [.ref (q.ad 102), .int v1] X (some (mo_isOne v1 X)) := by
  refine ct_of (by decide +kernel) (Nat.le_of_ble_eq_true rfl) ?_
  rw [← mo_isOne_e]
  unfold mo_isOne_o
  show G q _ _ 0 [(0, .ref (q.ad 102)), (1, .int v1)] [] X _
  refine g_iload_n 1 dX12_isOne_0 rfl rfl ?_
  refine g_iconst dX12_isOne_1 rfl kic_0 ?_
  refine g_aload_n 0 dX12_isOne_2 rfl rfl ?_
  refine g_getI 102 0 rfl dX12_isOne_3 rfl kkX12 flX12_125 (by decide) rfl rfl (by decide) rfl ?_
  refine g_iconst dX12_isOne_6 rfl kic_1 ?_
  refine g_isub dX12_isOne_7 rfl ?_
  refine g_cSIt (As := [.int v1, .int (0 : Int32), .int ((X.1 102 0) - (1 : Int32))]) (st := []) 3 mF_wg rfl dX12_isOne_8 rfl vX12_within lkX12_128 (rmL rfl rfl) (mo_within_c q v1 (0 : Int32) ((X.1 102 0) - (1 : Int32)) X) rfl rfl (Nat.le_of_ble_eq_true rfl) ?_
  exact g_zret dX12_isOne_11 rfl (z_mo_within v1 (0 : Int32) ((X.1 102 0) - (1 : Int32))) rfl
def mo_areTwo (v1 : Int32) (X : St) : Int32 :=
  (if v1 < 0 then
  ((0 : Int32))
  else
  (if (mo_isOne (v1 / (10 : Int32)) X) = 0 then
  ((0 : Int32))
  else
  (if (mo_isOne (irm v1 (10 : Int32)) X) = 0 then
  ((0 : Int32))
  else
  (if (v1 / (10 : Int32)) = (irm v1 (10 : Int32)) then
  ((0 : Int32))
  else
  ((1 : Int32))))))
def mo_areTwo_o (v1 : Int32) (X : St) : Option Int32 :=
  (if v1 < 0 then
  (some (0 : Int32))
  else
  (if (mo_isOne (v1 / (10 : Int32)) X) = 0 then
  (some (0 : Int32))
  else
  (if (mo_isOne (irm v1 (10 : Int32)) X) = 0 then
  (some (0 : Int32))
  else
  (if (v1 / (10 : Int32)) = (irm v1 (10 : Int32)) then
  (some (0 : Int32))
  else
  (some (1 : Int32))))))
theorem mo_areTwo_e (v1 : Int32) (X : St) : mo_areTwo_o v1 X = some (mo_areTwo v1 X) := by
  unfold mo_areTwo_o mo_areTwo
  simp only [apply_ite some]
theorem z_mo_areTwo (v1 : Int32) (X : St) : isZ (mo_areTwo v1 X) = true := by
  unfold mo_areTwo
  (repeat' split) <;> first | rfl
theorem mo_areTwo_c (q : Th) (v1 : Int32) (X : St) : Ct q nX12_areTwo 2 (fir X) [.ref (q.ad 102), .int v1] X (some (mo_areTwo v1 X)) := by
  refine ct_of (by decide +kernel) (Nat.le_of_ble_eq_true rfl) ?_
  rw [← mo_areTwo_e]
  unfold mo_areTwo_o
  show G q _ _ 0 [(0, .ref (q.ad 102)), (1, .int v1)] [] X _
  refine g_iload_n 1 dX12_areTwo_0 rfl rfl ?_
  refine g_if_lt dX12_areTwo_1 rfl rfl ?_ ?_
  · refine g_iconst dX12_areTwo_41 rfl kic_0 ?_
    exact g_zret dX12_areTwo_42 rfl rfl rfl
  refine g_aload_n 0 dX12_areTwo_4 rfl rfl ?_
  refine g_iload_n 1 dX12_areTwo_5 rfl rfl ?_
  refine g_bipush dX12_areTwo_6 rfl kbi_10 ?_
  refine g_idivC dX12_areTwo_8 rfl (by decide) ?_
  refine g_cVIt (As := [.int (v1 / (10 : Int32))]) (st := []) 1 mF_wg rfl dX12_areTwo_9 rfl kkX12 (by decide) rfl vX12_isOne lkX12_132 (rmL rfl rfl) (mo_isOne_c q (v1 / (10 : Int32)) X) rfl rfl (Nat.le_of_ble_eq_true rfl) ?_
  refine g_if_eq dX12_areTwo_12 rfl rfl ?_ ?_
  · refine g_iconst dX12_areTwo_41 rfl kic_0 ?_
    exact g_zret dX12_areTwo_42 rfl rfl rfl
  refine g_aload_n 0 dX12_areTwo_15 rfl rfl ?_
  refine g_iload_n 1 dX12_areTwo_16 rfl rfl ?_
  refine g_bipush dX12_areTwo_17 rfl kbi_10 ?_
  refine g_iremC dX12_areTwo_19 rfl (by decide) ?_
  refine g_cVIt (As := [.int (irm v1 (10 : Int32))]) (st := []) 1 mF_wg rfl dX12_areTwo_20 rfl kkX12 (by decide) rfl vX12_isOne lkX12_132 (rmL rfl rfl) (mo_isOne_c q (irm v1 (10 : Int32)) X) rfl rfl (Nat.le_of_ble_eq_true rfl) ?_
  refine g_if_eq dX12_areTwo_23 rfl rfl ?_ ?_
  · refine g_iconst dX12_areTwo_41 rfl kic_0 ?_
    exact g_zret dX12_areTwo_42 rfl rfl rfl
  refine g_iload_n 1 dX12_areTwo_26 rfl rfl ?_
  refine g_bipush dX12_areTwo_27 rfl kbi_10 ?_
  refine g_idivC dX12_areTwo_29 rfl (by decide) ?_
  refine g_iload_n 1 dX12_areTwo_30 rfl rfl ?_
  refine g_bipush dX12_areTwo_31 rfl kbi_10 ?_
  refine g_iremC dX12_areTwo_33 rfl (by decide) ?_
  refine g_icmp_eq dX12_areTwo_34 rfl rfl ?_ ?_
  · refine g_iconst dX12_areTwo_41 rfl kic_0 ?_
    exact g_zret dX12_areTwo_42 rfl rfl rfl
  refine g_iconst dX12_areTwo_37 rfl kic_1 ?_
  refine g_goto dX12_areTwo_38 rfl ?_
  exact g_zret dX12_areTwo_42 rfl rfl rfl
def mo_isShelf (v0 : Int32) : Int32 :=
  ((mo_within v0 (0 : Int32) (5 : Int32)))
def mo_isShelf_o (v0 : Int32) : Option Int32 :=
  (some (mo_within v0 (0 : Int32) (5 : Int32)))
theorem mo_isShelf_e (v0 : Int32) : mo_isShelf_o v0 = some (mo_isShelf v0) := rfl
theorem z_mo_isShelf (v0 : Int32) : isZ (mo_isShelf v0) = true := by
  unfold mo_isShelf
  (repeat' split) <;> first | rfl | apply z_mo_within
theorem mo_isShelf_c (q : Th) (v0 : Int32) (X : St) : Ct q nX12_isShelf 1 (fir X) [.int v0] X (some (mo_isShelf v0)) := by
  refine ct_of (by decide +kernel) (Nat.le_of_ble_eq_true rfl) ?_
  rw [← mo_isShelf_e]
  unfold mo_isShelf_o
  show G q _ _ 0 [(0, .int v0)] [] X _
  refine g_iload_n 0 dX12_isShelf_0 rfl rfl ?_
  refine g_iconst dX12_isShelf_1 rfl kic_0 ?_
  refine g_iconst dX12_isShelf_2 rfl kic_5 ?_
  refine g_cSIt (As := [.int v0, .int (0 : Int32), .int (5 : Int32)]) (st := []) 3 mF_wg rfl dX12_isShelf_3 rfl vX12_within lkX12_128 (rmL rfl rfl) (mo_within_c q v0 (0 : Int32) (5 : Int32) X) rfl rfl (Nat.le_of_ble_eq_true rfl) ?_
  exact g_zret dX12_isShelf_6 rfl (z_mo_within v0 (0 : Int32) (5 : Int32)) rfl
def mo_newSwimmer (v1 : Int32) (v2 : Int32) (v3 : Int32) (v4 : Int32) (X : St) : Option (Int32 × St) :=
  (if inB (X.1 102 0) 8 then
  (if inB ((stI X 103 (nx (X.1 102 0)) v1).1 102 0) 8 then
  ((some (stI (stI X 103 (nx (X.1 102 0)) v1) 104 (nx ((stI X 103 (nx (X.1 102 0)) v1).1 102 0)) v2)).bind fun X1 =>
  (if inB (X1.1 102 0) 8 then
  (if inB ((stI X1 105 (nx (X1.1 102 0)) v3).1 102 0) 8 then
  ((some (stI (stI X1 105 (nx (X1.1 102 0)) v3) 106 (nx ((stI X1 105 (nx (X1.1 102 0)) v3).1 102 0)) (12 : Int32))).bind fun X2 =>
  (if inB (X2.1 102 0) 8 then
  (if inB ((stI X2 107 (nx (X2.1 102 0)) v4).1 102 0) 8 then
  ((some (stI (stI X2 107 (nx (X2.1 102 0)) v4) 108 (nx ((stI X2 107 (nx (X2.1 102 0)) v4).1 102 0)) (0 : Int32))).bind fun X3 =>
  (if inB (X3.1 102 0) 8 then
  (if inB ((stI X3 110 (nx (X3.1 102 0)) (0 : Int32)).1 102 0) 8 then
  ((some (stI (stI X3 110 (nx (X3.1 102 0)) (0 : Int32)) 111 (nx ((stI X3 110 (nx (X3.1 102 0)) (0 : Int32)).1 102 0)) (0 : Int32))).bind fun X4 =>
  (some ((X4.1 102 0), (stI X4 102 0 ((X4.1 102 0) + (1 : Int32)))))) else none) else none)) else none) else none)) else none) else none)) else none) else none)
theorem mo_newSwimmer_c (q : Th) (v1 : Int32) (v2 : Int32) (v3 : Int32) (v4 : Int32) (X : St) : Ct q nX12_newSwimmer 0 fiw [.ref (q.ad 102), .int v1, .int v2, .int v3, .int v4] X (mo_newSwimmer v1 v2 v3 v4 X) := by
  refine ct_of (by decide +kernel) (Nat.le_of_ble_eq_true rfl) ?_
  unfold mo_newSwimmer
  show G q _ _ 0 [(0, .ref (q.ad 102)), (1, .int v1), (2, .int v2), (3, .int v3), (4, .int v4)] [] X _
  refine g_aload_n 0 dX12_newSwimmer_0 rfl rfl ?_
  refine g_getR 102 1 103 rfl dX12_newSwimmer_1 rfl kkX12 flX12_9 (by decide) rfl rfl (by decide) rfl ?_
  refine g_aload_n 0 dX12_newSwimmer_4 rfl rfl ?_
  refine g_getI 102 0 rfl dX12_newSwimmer_5 rfl kkX12 flX12_125 (by decide) rfl rfl (by decide) rfl ?_
  refine g_iload_n 1 dX12_newSwimmer_8 rfl rfl ?_
  refine g_iast dX12_newSwimmer_9 rfl (by decide) rfl rfl ?_
  refine g_aload_n 0 dX12_newSwimmer_10 rfl rfl ?_
  refine g_getR 102 2 104 rfl dX12_newSwimmer_11 rfl kkX12 flX12_15 (by decide) rfl rfl (by decide) rfl ?_
  refine g_aload_n 0 dX12_newSwimmer_14 rfl rfl ?_
  refine g_getI 102 0 rfl dX12_newSwimmer_15 rfl kkX12 flX12_125 (by decide) rfl rfl (by decide) rfl ?_
  refine g_iload_n 2 dX12_newSwimmer_18 rfl rfl ?_
  refine g_iast dX12_newSwimmer_19 rfl (by decide) rfl rfl ?_
  refine g_nmX (fun X1 => ?_)
  refine g_aload_n 0 dX12_newSwimmer_20 rfl rfl ?_
  refine g_getR 102 3 105 rfl dX12_newSwimmer_21 rfl kkX12 flX12_18 (by decide) rfl rfl (by decide) rfl ?_
  refine g_aload_n 0 dX12_newSwimmer_24 rfl rfl ?_
  refine g_getI 102 0 rfl dX12_newSwimmer_25 rfl kkX12 flX12_125 (by decide) rfl rfl (by decide) rfl ?_
  refine g_iload_n 3 dX12_newSwimmer_28 rfl rfl ?_
  refine g_iast dX12_newSwimmer_29 rfl (by decide) rfl rfl ?_
  refine g_aload_n 0 dX12_newSwimmer_30 rfl rfl ?_
  refine g_getR 102 4 106 rfl dX12_newSwimmer_31 rfl kkX12 flX12_21 (by decide) rfl rfl (by decide) rfl ?_
  refine g_aload_n 0 dX12_newSwimmer_34 rfl rfl ?_
  refine g_getI 102 0 rfl dX12_newSwimmer_35 rfl kkX12 flX12_125 (by decide) rfl rfl (by decide) rfl ?_
  refine g_bipush dX12_newSwimmer_38 rfl kbi_12 ?_
  refine g_iast dX12_newSwimmer_40 rfl (by decide) rfl rfl ?_
  refine g_nmX (fun X2 => ?_)
  refine g_aload_n 0 dX12_newSwimmer_41 rfl rfl ?_
  refine g_getR 102 5 107 rfl dX12_newSwimmer_42 rfl kkX12 flX12_24 (by decide) rfl rfl (by decide) rfl ?_
  refine g_aload_n 0 dX12_newSwimmer_45 rfl rfl ?_
  refine g_getI 102 0 rfl dX12_newSwimmer_46 rfl kkX12 flX12_125 (by decide) rfl rfl (by decide) rfl ?_
  refine g_iload 4 dX12_newSwimmer_49 rfl rfl ?_
  refine g_iast dX12_newSwimmer_51 rfl (by decide) rfl rfl ?_
  refine g_aload_n 0 dX12_newSwimmer_52 rfl rfl ?_
  refine g_getR 102 6 108 rfl dX12_newSwimmer_53 rfl kkX12 flX12_27 (by decide) rfl rfl (by decide) rfl ?_
  refine g_aload_n 0 dX12_newSwimmer_56 rfl rfl ?_
  refine g_getI 102 0 rfl dX12_newSwimmer_57 rfl kkX12 flX12_125 (by decide) rfl rfl (by decide) rfl ?_
  refine g_iconst dX12_newSwimmer_60 rfl kic_0 ?_
  refine g_iast dX12_newSwimmer_61 rfl (by decide) rfl rfl ?_
  refine g_nmX (fun X3 => ?_)
  refine g_aload_n 0 dX12_newSwimmer_62 rfl rfl ?_
  refine g_getR 102 8 110 rfl dX12_newSwimmer_63 rfl kkX12 flX12_33 (by decide) rfl rfl (by decide) rfl ?_
  refine g_aload_n 0 dX12_newSwimmer_66 rfl rfl ?_
  refine g_getI 102 0 rfl dX12_newSwimmer_67 rfl kkX12 flX12_125 (by decide) rfl rfl (by decide) rfl ?_
  refine g_iconst dX12_newSwimmer_70 rfl kic_0 ?_
  refine g_iast dX12_newSwimmer_71 rfl (by decide) rfl rfl ?_
  refine g_aload_n 0 dX12_newSwimmer_72 rfl rfl ?_
  refine g_getR 102 9 111 rfl dX12_newSwimmer_73 rfl kkX12 flX12_36 (by decide) rfl rfl (by decide) rfl ?_
  refine g_aload_n 0 dX12_newSwimmer_76 rfl rfl ?_
  refine g_getI 102 0 rfl dX12_newSwimmer_77 rfl kkX12 flX12_125 (by decide) rfl rfl (by decide) rfl ?_
  refine g_iconst dX12_newSwimmer_80 rfl kic_0 ?_
  refine g_iast dX12_newSwimmer_81 rfl (by decide) rfl rfl ?_
  refine g_nmX (fun X4 => ?_)
  refine g_aload_n 0 dX12_newSwimmer_82 rfl rfl ?_
  refine g_dup dX12_newSwimmer_83 rfl rfl ?_
  refine g_getI 102 0 rfl dX12_newSwimmer_84 rfl kkX12 flX12_125 (by decide) rfl rfl (by decide) rfl ?_
  refine g_dup_x1 dX12_newSwimmer_87 rfl rfl rfl ?_
  refine g_iconst dX12_newSwimmer_88 rfl kic_1 ?_
  refine g_iadd dX12_newSwimmer_89 rfl ?_
  refine g_putI 102 0 rfl dX12_newSwimmer_90 rfl kkX12 flX12_125 (by decide) rfl rfl (by decide) rfl rfl rfl ?_
  exact g_iret dX12_newSwimmer_93 rfl rfl
def mo_swimmer (v1 : Int32) (v2 : Int32) (X : St) : Option (Int32 × St) :=
  (if v1 < 0 then
  (some ((-1 : Int32), X))
  else
  (if (15 : Int32) < (v1 / (100 : Int32)) then
  (some ((-1 : Int32), X))
  else
  (if (15 : Int32) < (irm v1 (100 : Int32)) then
  (some ((-1 : Int32), X))
  else
  (if (mo_within v2 (1 : Int32) (9 : Int32)) = 0 then
  (some ((-1 : Int32), X))
  else
  (if (X.1 102 0) = (8 : Int32) then
  (some ((-3 : Int32), X))
  else
  ((mo_newSwimmer (irm v1 (100 : Int32)) (v1 / (100 : Int32)) v2 (0 : Int32) X).bind fun (c2, X1) =>
  (some (c2, X1))))))))
theorem mo_swimmer_c (q : Th) (v1 : Int32) (v2 : Int32) (X : St) : Ct q nX12_swimmer 1 fiw [.ref (q.ad 102), .int v1, .int v2] X (mo_swimmer v1 v2 X) := by
  refine ct_of (by decide +kernel) (Nat.le_of_ble_eq_true rfl) ?_
  unfold mo_swimmer
  show G q _ _ 0 [(0, .ref (q.ad 102)), (1, .int v1), (2, .int v2)] [] X _
  refine g_iload_n 1 dX12_swimmer_0 rfl rfl ?_
  refine g_if_lt dX12_swimmer_1 rfl rfl ?_ ?_
  · refine g_iconst dX12_swimmer_32 rfl kic_m1 ?_
    exact g_iret dX12_swimmer_33 rfl rfl
  refine g_iload_n 1 dX12_swimmer_4 rfl rfl ?_
  refine g_bipush dX12_swimmer_5 rfl kbi_100 ?_
  refine g_idivC dX12_swimmer_7 rfl (by decide) ?_
  refine g_bipush dX12_swimmer_8 rfl kbi_15 ?_
  refine g_icmp_gt dX12_swimmer_10 rfl rfl ?_ ?_
  · refine g_iconst dX12_swimmer_32 rfl kic_m1 ?_
    exact g_iret dX12_swimmer_33 rfl rfl
  refine g_iload_n 1 dX12_swimmer_13 rfl rfl ?_
  refine g_bipush dX12_swimmer_14 rfl kbi_100 ?_
  refine g_iremC dX12_swimmer_16 rfl (by decide) ?_
  refine g_bipush dX12_swimmer_17 rfl kbi_15 ?_
  refine g_icmp_gt dX12_swimmer_19 rfl rfl ?_ ?_
  · refine g_iconst dX12_swimmer_32 rfl kic_m1 ?_
    exact g_iret dX12_swimmer_33 rfl rfl
  refine g_iload_n 2 dX12_swimmer_22 rfl rfl ?_
  refine g_iconst dX12_swimmer_23 rfl kic_1 ?_
  refine g_bipush dX12_swimmer_24 rfl kbi_9 ?_
  refine g_cSIt (As := [.int v2, .int (1 : Int32), .int (9 : Int32)]) (st := []) 3 mF_wg rfl dX12_swimmer_26 rfl vX12_within lkX12_128 (rmL rfl rfl) (mo_within_c q v2 (1 : Int32) (9 : Int32) X) rfl rfl (Nat.le_of_ble_eq_true rfl) ?_
  refine g_if_ne dX12_swimmer_29 rfl rfl ?_ ?_
  · refine g_iconst dX12_swimmer_32 rfl kic_m1 ?_
    exact g_iret dX12_swimmer_33 rfl rfl
  refine g_aload_n 0 dX12_swimmer_34 rfl rfl ?_
  refine g_getI 102 0 rfl dX12_swimmer_35 rfl kkX12 flX12_125 (by decide) rfl rfl (by decide) rfl ?_
  refine g_bipush dX12_swimmer_38 rfl kbi_8 ?_
  refine g_icmp_ne dX12_swimmer_40 rfl rfl ?_ ?_
  · refine g_bipush dX12_swimmer_43 rfl kbi_m3 ?_
    refine g_goto dX12_swimmer_45 rfl ?_
    exact g_iret dX12_swimmer_62 rfl rfl
  refine g_aload_n 0 dX12_swimmer_48 rfl rfl ?_
  refine g_iload_n 1 dX12_swimmer_49 rfl rfl ?_
  refine g_bipush dX12_swimmer_50 rfl kbi_100 ?_
  refine g_iremC dX12_swimmer_52 rfl (by decide) ?_
  refine g_iload_n 1 dX12_swimmer_53 rfl rfl ?_
  refine g_bipush dX12_swimmer_54 rfl kbi_100 ?_
  refine g_idivC dX12_swimmer_56 rfl (by decide) ?_
  refine g_iload_n 2 dX12_swimmer_57 rfl rfl ?_
  refine g_iconst dX12_swimmer_58 rfl kic_0 ?_
  refine g_cVIw (As := [.int (irm v1 (100 : Int32)), .int (v1 / (100 : Int32)), .int v2, .int (0 : Int32)]) (st := []) 4 mF_wg rfl dX12_swimmer_59 rfl kkX12 (by decide) rfl vX12_newSwimmer lkX12_136 (rmL rfl rfl) (mo_newSwimmer_c q (irm v1 (100 : Int32)) (v1 / (100 : Int32)) v2 (0 : Int32) X) rfl rfl (Nat.le_of_ble_eq_true rfl) (fun c2 X1 => ?_)
  exact g_iret dX12_swimmer_62 rfl rfl
def mo_swimmers_L49_B (n : Nat) (rec : Int32 → Int32 → Int32 → Int32 → Int32 → St → Option (Int32 × St)) (v1 : Int32) (v2 : Int32) (v3 : Int32) (v4 : Int32) (v5 : Int32) (X : St) : Option (Int32 × St) :=
(if v5 < v3 then
((some ((v2.toInt64) + ((4 : Int64) * (v5.toInt64)))).bind fun t1 =>
(if (lg_cmp t1 (0 : Int64)) < 0 then
(some (v4, X))
else
(if inB v1 6 then
(if 0 < (lg_cmp (t1 + (4 : Int64)) ((X.1 131 (nx v1)).toInt64)) then
(some (v4, X))
else
(if (X.1 102 0) = (8 : Int32) then
(some (v4, X))
else
(if inB (((60 : Int32) * v1) + (t1.toInt32)) 360 then
(if (mo_within ((X.2 132 (nx (((60 : Int32) * v1) + (t1.toInt32)))).toInt32) (0 : Int32) (15 : Int32)) = 0 then
(some (v4, X))
else
(if inB ((((60 : Int32) * v1) + (t1.toInt32)) + (1 : Int32)) 360 then
(if (mo_within ((X.2 132 (nx ((((60 : Int32) * v1) + (t1.toInt32)) + (1 : Int32)))).toInt32) (0 : Int32) (15 : Int32)) = 0 then
(some (v4, X))
else
(if inB ((((60 : Int32) * v1) + (t1.toInt32)) + (2 : Int32)) 360 then
(if (mo_within ((X.2 132 (nx ((((60 : Int32) * v1) + (t1.toInt32)) + (2 : Int32)))).toInt32) (1 : Int32) (9 : Int32)) = 0 then
(some (v4, X))
else
(if inB ((((60 : Int32) * v1) + (t1.toInt32)) + (3 : Int32)) 360 then
(if (mo_within ((X.2 132 (nx ((((60 : Int32) * v1) + (t1.toInt32)) + (3 : Int32)))).toInt32) (-9 : Int32) (9 : Int32)) = 0 then
(some (v4, X))
else
(if inB (((60 : Int32) * v1) + (t1.toInt32)) 360 then
(if inB ((((60 : Int32) * v1) + (t1.toInt32)) + (1 : Int32)) 360 then
(if inB ((((60 : Int32) * v1) + (t1.toInt32)) + (2 : Int32)) 360 then
(if inB ((((60 : Int32) * v1) + (t1.toInt32)) + (3 : Int32)) 360 then
((mo_newSwimmer ((X.2 132 (nx (((60 : Int32) * v1) + (t1.toInt32)))).toInt32) ((X.2 132 (nx ((((60 : Int32) * v1) + (t1.toInt32)) + (1 : Int32)))).toInt32) ((X.2 132 (nx ((((60 : Int32) * v1) + (t1.toInt32)) + (2 : Int32)))).toInt32) ((X.2 132 (nx ((((60 : Int32) * v1) + (t1.toInt32)) + (3 : Int32)))).toInt32) X).bind fun (c3, X2) =>
(rec v1 v2 v3 (v4 + (1 : Int32)) (v5 + (1 : Int32)) X2)) else none) else none) else none) else none)) else none)) else none)) else none)) else none))) else none)))
else
(some (v4, X)))
def mo_swimmers_L49 (n : Nat) : Nat → Int32 → Int32 → Int32 → Int32 → Int32 → St → Option (Int32 × St)
  | 0 => fun _ _ _ _ _ _ => none
  | w + 1 => mo_swimmers_L49_B n (mo_swimmers_L49 n w)
def mo_swimmers (n : Nat) (v1 : Int32) (v2 : Int32) (v3 : Int32) (X : St) : Option (Int32 × St) :=
  (if (mo_isShelf v1) = 0 then
  (some ((-1 : Int32), X))
  else
  (if (mo_within v3 (1 : Int32) (8 : Int32)) = 0 then
  (some ((-1 : Int32), X))
  else
  (if inB v1 6 then
  (if (X.1 130 (nx v1)) = (-1 : Int32) then
  (some ((0 : Int32), X))
  else
  (if inB v1 6 then
  (if (X.1 130 (nx v1)) = 0 then
  (mo_swimmers_L49 n n v1 v2 v3 (0 : Int32) (0 : Int32) X)
  else
  (some ((-12 : Int32), X))) else none)) else none)))
theorem mo_swimmers_L49_Bg (q : Th) (n : Nat) (rec : Int32 → Int32 → Int32 → Int32 → Int32 → St → Option (Int32 × St)) (hrec : ∀ v1 v2 v3 v4 v5 X, G q (mF q nX12_swimmers RX12 2) fiw 49 [(0, .ref (q.ad 102)), (1, .int v1), (2, .int v2), (3, .int v3), (4, .int v4), (5, .int v5)] [] X (rec v1 v2 v3 v4 v5 X)) (v1 : Int32) (v2 : Int32) (v3 : Int32) (v4 : Int32) (v5 : Int32) (X : St) : G q (mF q nX12_swimmers RX12 2) fiw 49 [(0, .ref (q.ad 102)), (1, .int v1), (2, .int v2), (3, .int v3), (4, .int v4), (5, .int v5)] [] X (mo_swimmers_L49_B n rec v1 v2 v3 v4 v5 X) := by
  unfold mo_swimmers_L49_B
  refine g_iload 5 dX12_swimmers_49 rfl rfl ?_
  refine g_iload_n 3 dX12_swimmers_51 rfl rfl ?_
  refine g_icmp_ge dX12_swimmers_52 rfl rfl ?_ ?_
  · refine g_iload_n 2 dX12_swimmers_55 rfl rfl ?_
    refine g_i2l dX12_swimmers_56 rfl ?_
    refine g_ldc2 rfl dX12_swimmers_57 rfl klX12_143 ?_
    refine g_iload 5 dX12_swimmers_60 rfl rfl ?_
    refine g_i2l dX12_swimmers_62 rfl ?_
    refine g_lmul dX12_swimmers_63 rfl ?_
    refine g_ladd dX12_swimmers_64 rfl ?_
    refine g_nmL (fun t1 => ?_)
    refine g_lstore (lv' := [(6, .long t1), (0, .ref (q.ad 102)), (1, .int v1), (2, .int v2), (3, .int v3), (4, .int v4), (5, .int v5)]) dX12_swimmers_65 rfl (Nat.le_of_ble_eq_true rfl) rfl ?_
    refine g_lload 0 dX12_swimmers_67 rfl rfl ?_
    refine g_lconst dX12_swimmers_69 rfl k_l0 ?_
    refine g_lcmp dX12_swimmers_70 rfl ?_
    refine g_if_lt dX12_swimmers_71 rfl rfl ?_ ?_
    · refine g_iload 5 dX12_swimmers_100 rfl rfl ?_
      exact g_iret dX12_swimmers_102 rfl rfl
    refine g_lload 0 dX12_swimmers_74 rfl rfl ?_
    refine g_ldc2 rfl dX12_swimmers_76 rfl klX12_143 ?_
    refine g_ladd dX12_swimmers_79 rfl ?_
    refine g_aload_n 1 dX12_swimmers_80 rfl rfl ?_
    refine g_getR 102 42 131 rfl dX12_swimmers_81 rfl kkX12 flX12_96 (by decide) rfl rfl (by decide) rfl ?_
    refine g_iload_n 2 dX12_swimmers_84 rfl rfl ?_
    refine g_iald dX12_swimmers_85 rfl (by decide) rfl rfl ?_
    refine g_i2l dX12_swimmers_86 rfl ?_
    refine g_lcmp dX12_swimmers_87 rfl ?_
    refine g_if_gt dX12_swimmers_88 rfl rfl ?_ ?_
    · refine g_iload 5 dX12_swimmers_100 rfl rfl ?_
      exact g_iret dX12_swimmers_102 rfl rfl
    refine g_aload_n 1 dX12_swimmers_91 rfl rfl ?_
    refine g_getI 102 0 rfl dX12_swimmers_92 rfl kkX12 flX12_125 (by decide) rfl rfl (by decide) rfl ?_
    refine g_bipush dX12_swimmers_95 rfl kbi_8 ?_
    refine g_icmp_ne dX12_swimmers_97 rfl rfl ?_ ?_
    · refine g_iload 5 dX12_swimmers_100 rfl rfl ?_
      exact g_iret dX12_swimmers_102 rfl rfl
    refine g_bipush dX12_swimmers_103 rfl kbi_60 ?_
    refine g_iload_n 2 dX12_swimmers_105 rfl rfl ?_
    refine g_imul dX12_swimmers_106 rfl ?_
    refine g_lload 0 dX12_swimmers_107 rfl rfl ?_
    refine g_l2i dX12_swimmers_109 rfl ?_
    refine g_iadd dX12_swimmers_110 rfl ?_
    refine g_istore (lv' := [(8, .int (((60 : Int32) * v1) + (t1.toInt32))), (6, .long t1), (0, .ref (q.ad 102)), (1, .int v1), (2, .int v2), (3, .int v3), (4, .int v4), (5, .int v5)]) dX12_swimmers_111 rfl (Nat.le_of_ble_eq_true rfl) rfl ?_
    refine g_aload_n 2 dX12_swimmers_113 rfl rfl ?_
    refine g_getR 102 43 132 rfl dX12_swimmers_114 rfl kkX12 flX12_99 (by decide) rfl rfl (by decide) rfl ?_
    refine g_iload 0 dX12_swimmers_117 rfl rfl ?_
    refine g_lald dX12_swimmers_119 rfl (by decide) rfl rfl ?_
    refine g_l2i dX12_swimmers_120 rfl ?_
    refine g_iconst dX12_swimmers_121 rfl kic_0 ?_
    refine g_bipush dX12_swimmers_122 rfl kbi_15 ?_
    refine g_cSIt (As := [.int ((X.2 132 (nx (((60 : Int32) * v1) + (t1.toInt32)))).toInt32), .int (0 : Int32), .int (15 : Int32)]) (st := []) 3 mF_wg rfl dX12_swimmers_124 rfl vX12_within lkX12_128 (rmL rfl rfl) (mo_within_c q ((X.2 132 (nx (((60 : Int32) * v1) + (t1.toInt32)))).toInt32) (0 : Int32) (15 : Int32) X) rfl rfl (Nat.le_of_ble_eq_true rfl) ?_
    refine g_if_eq dX12_swimmers_127 rfl rfl ?_ ?_
    · refine g_iload 6 dX12_swimmers_188 rfl rfl ?_
      exact g_iret dX12_swimmers_190 rfl rfl
    refine g_aload_n 2 dX12_swimmers_130 rfl rfl ?_
    refine g_getR 102 43 132 rfl dX12_swimmers_131 rfl kkX12 flX12_99 (by decide) rfl rfl (by decide) rfl ?_
    refine g_iload 0 dX12_swimmers_134 rfl rfl ?_
    refine g_iconst dX12_swimmers_136 rfl kic_1 ?_
    refine g_iadd dX12_swimmers_137 rfl ?_
    refine g_lald dX12_swimmers_138 rfl (by decide) rfl rfl ?_
    refine g_l2i dX12_swimmers_139 rfl ?_
    refine g_iconst dX12_swimmers_140 rfl kic_0 ?_
    refine g_bipush dX12_swimmers_141 rfl kbi_15 ?_
    refine g_cSIt (As := [.int ((X.2 132 (nx ((((60 : Int32) * v1) + (t1.toInt32)) + (1 : Int32)))).toInt32), .int (0 : Int32), .int (15 : Int32)]) (st := []) 3 mF_wg rfl dX12_swimmers_143 rfl vX12_within lkX12_128 (rmL rfl rfl) (mo_within_c q ((X.2 132 (nx ((((60 : Int32) * v1) + (t1.toInt32)) + (1 : Int32)))).toInt32) (0 : Int32) (15 : Int32) X) rfl rfl (Nat.le_of_ble_eq_true rfl) ?_
    refine g_if_eq dX12_swimmers_146 rfl rfl ?_ ?_
    · refine g_iload 6 dX12_swimmers_188 rfl rfl ?_
      exact g_iret dX12_swimmers_190 rfl rfl
    refine g_aload_n 2 dX12_swimmers_149 rfl rfl ?_
    refine g_getR 102 43 132 rfl dX12_swimmers_150 rfl kkX12 flX12_99 (by decide) rfl rfl (by decide) rfl ?_
    refine g_iload 0 dX12_swimmers_153 rfl rfl ?_
    refine g_iconst dX12_swimmers_155 rfl kic_2 ?_
    refine g_iadd dX12_swimmers_156 rfl ?_
    refine g_lald dX12_swimmers_157 rfl (by decide) rfl rfl ?_
    refine g_l2i dX12_swimmers_158 rfl ?_
    refine g_iconst dX12_swimmers_159 rfl kic_1 ?_
    refine g_bipush dX12_swimmers_160 rfl kbi_9 ?_
    refine g_cSIt (As := [.int ((X.2 132 (nx ((((60 : Int32) * v1) + (t1.toInt32)) + (2 : Int32)))).toInt32), .int (1 : Int32), .int (9 : Int32)]) (st := []) 3 mF_wg rfl dX12_swimmers_162 rfl vX12_within lkX12_128 (rmL rfl rfl) (mo_within_c q ((X.2 132 (nx ((((60 : Int32) * v1) + (t1.toInt32)) + (2 : Int32)))).toInt32) (1 : Int32) (9 : Int32) X) rfl rfl (Nat.le_of_ble_eq_true rfl) ?_
    refine g_if_eq dX12_swimmers_165 rfl rfl ?_ ?_
    · refine g_iload 6 dX12_swimmers_188 rfl rfl ?_
      exact g_iret dX12_swimmers_190 rfl rfl
    refine g_aload_n 2 dX12_swimmers_168 rfl rfl ?_
    refine g_getR 102 43 132 rfl dX12_swimmers_169 rfl kkX12 flX12_99 (by decide) rfl rfl (by decide) rfl ?_
    refine g_iload 0 dX12_swimmers_172 rfl rfl ?_
    refine g_iconst dX12_swimmers_174 rfl kic_3 ?_
    refine g_iadd dX12_swimmers_175 rfl ?_
    refine g_lald dX12_swimmers_176 rfl (by decide) rfl rfl ?_
    refine g_l2i dX12_swimmers_177 rfl ?_
    refine g_bipush dX12_swimmers_178 rfl kbi_m9 ?_
    refine g_bipush dX12_swimmers_180 rfl kbi_9 ?_
    refine g_cSIt (As := [.int ((X.2 132 (nx ((((60 : Int32) * v1) + (t1.toInt32)) + (3 : Int32)))).toInt32), .int (-9 : Int32), .int (9 : Int32)]) (st := []) 3 mF_wg rfl dX12_swimmers_182 rfl vX12_within lkX12_128 (rmL rfl rfl) (mo_within_c q ((X.2 132 (nx ((((60 : Int32) * v1) + (t1.toInt32)) + (3 : Int32)))).toInt32) (-9 : Int32) (9 : Int32) X) rfl rfl (Nat.le_of_ble_eq_true rfl) ?_
    refine g_if_ne dX12_swimmers_185 rfl rfl ?_ ?_
    · refine g_iload 6 dX12_swimmers_188 rfl rfl ?_
      exact g_iret dX12_swimmers_190 rfl rfl
    refine g_aload_n 2 dX12_swimmers_191 rfl rfl ?_
    refine g_aload_n 2 dX12_swimmers_192 rfl rfl ?_
    refine g_getR 102 43 132 rfl dX12_swimmers_193 rfl kkX12 flX12_99 (by decide) rfl rfl (by decide) rfl ?_
    refine g_iload 0 dX12_swimmers_196 rfl rfl ?_
    refine g_lald dX12_swimmers_198 rfl (by decide) rfl rfl ?_
    refine g_l2i dX12_swimmers_199 rfl ?_
    refine g_aload_n 2 dX12_swimmers_200 rfl rfl ?_
    refine g_getR 102 43 132 rfl dX12_swimmers_201 rfl kkX12 flX12_99 (by decide) rfl rfl (by decide) rfl ?_
    refine g_iload 0 dX12_swimmers_204 rfl rfl ?_
    refine g_iconst dX12_swimmers_206 rfl kic_1 ?_
    refine g_iadd dX12_swimmers_207 rfl ?_
    refine g_lald dX12_swimmers_208 rfl (by decide) rfl rfl ?_
    refine g_l2i dX12_swimmers_209 rfl ?_
    refine g_aload_n 2 dX12_swimmers_210 rfl rfl ?_
    refine g_getR 102 43 132 rfl dX12_swimmers_211 rfl kkX12 flX12_99 (by decide) rfl rfl (by decide) rfl ?_
    refine g_iload 0 dX12_swimmers_214 rfl rfl ?_
    refine g_iconst dX12_swimmers_216 rfl kic_2 ?_
    refine g_iadd dX12_swimmers_217 rfl ?_
    refine g_lald dX12_swimmers_218 rfl (by decide) rfl rfl ?_
    refine g_l2i dX12_swimmers_219 rfl ?_
    refine g_aload_n 2 dX12_swimmers_220 rfl rfl ?_
    refine g_getR 102 43 132 rfl dX12_swimmers_221 rfl kkX12 flX12_99 (by decide) rfl rfl (by decide) rfl ?_
    refine g_iload 0 dX12_swimmers_224 rfl rfl ?_
    refine g_iconst dX12_swimmers_226 rfl kic_3 ?_
    refine g_iadd dX12_swimmers_227 rfl ?_
    refine g_lald dX12_swimmers_228 rfl (by decide) rfl rfl ?_
    refine g_l2i dX12_swimmers_229 rfl ?_
    refine g_cVIw (As := [.int ((X.2 132 (nx (((60 : Int32) * v1) + (t1.toInt32)))).toInt32), .int ((X.2 132 (nx ((((60 : Int32) * v1) + (t1.toInt32)) + (1 : Int32)))).toInt32), .int ((X.2 132 (nx ((((60 : Int32) * v1) + (t1.toInt32)) + (2 : Int32)))).toInt32), .int ((X.2 132 (nx ((((60 : Int32) * v1) + (t1.toInt32)) + (3 : Int32)))).toInt32)]) (st := []) 4 mF_wg rfl dX12_swimmers_230 rfl kkX12 (by decide) rfl vX12_newSwimmer lkX12_136 (rmL rfl rfl) (mo_newSwimmer_c q ((X.2 132 (nx (((60 : Int32) * v1) + (t1.toInt32)))).toInt32) ((X.2 132 (nx ((((60 : Int32) * v1) + (t1.toInt32)) + (1 : Int32)))).toInt32) ((X.2 132 (nx ((((60 : Int32) * v1) + (t1.toInt32)) + (2 : Int32)))).toInt32) ((X.2 132 (nx ((((60 : Int32) * v1) + (t1.toInt32)) + (3 : Int32)))).toInt32) X) rfl rfl (Nat.le_of_ble_eq_true rfl) (fun c3 X2 => ?_)
    refine g_pop dX12_swimmers_233 rfl rfl ?_
    refine g_inc (lv' := [(4, .int (v4 + (1 : Int32))), (8, .int (((60 : Int32) * v1) + (t1.toInt32))), (6, .long t1), (0, .ref (q.ad 102)), (1, .int v1), (2, .int v2), (3, .int v3), (5, .int v5)]) 6 dX12_swimmers_234 rfl rfl kic_1 (Nat.le_of_ble_eq_true rfl) rfl ?_
    refine g_inc (lv' := [(5, .int (v5 + (1 : Int32))), (4, .int (v4 + (1 : Int32))), (8, .int (((60 : Int32) * v1) + (t1.toInt32))), (6, .long t1), (0, .ref (q.ad 102)), (1, .int v1), (2, .int v2), (3, .int v3)]) 7 dX12_swimmers_237 rfl rfl kic_1 (Nat.le_of_ble_eq_true rfl) rfl ?_
    refine g_goto dX12_swimmers_240 rfl ?_
    refine g_sub [4, 5, 6, 7, 1, 0] rfl ?_
    exact hrec v1 v2 v3 (v4 + (1 : Int32)) (v5 + (1 : Int32)) X2
  refine g_iload 4 dX12_swimmers_243 rfl rfl ?_
  exact g_iret dX12_swimmers_245 rfl rfl
theorem mo_swimmers_L49_g (q : Th) (n : Nat) : ∀ (w : Nat) (v1 : Int32) (v2 : Int32) (v3 : Int32) (v4 : Int32) (v5 : Int32) (X : St), G q (mF q nX12_swimmers RX12 2) fiw 49 [(0, .ref (q.ad 102)), (1, .int v1), (2, .int v2), (3, .int v3), (4, .int v4), (5, .int v5)] [] X (mo_swimmers_L49 n w v1 v2 v3 v4 v5 X) := by
  intro w
  induction w with
  | zero => intro v1 v2 v3 v4 v5 X; exact g_none
  | succ w ih => intro v1 v2 v3 v4 v5 X; exact mo_swimmers_L49_Bg q n _ ih v1 v2 v3 v4 v5 X
theorem mo_swimmers_c (q : Th) (n : Nat) (v1 : Int32) (v2 : Int32) (v3 : Int32) (X : St) : Ct q nX12_swimmers 2 fiw [.ref (q.ad 102), .int v1, .int v2, .int v3] X (mo_swimmers n v1 v2 v3 X) := by
  refine ct_of (by decide +kernel) (Nat.le_of_ble_eq_true rfl) ?_
  unfold mo_swimmers
  show G q _ _ 0 [(0, .ref (q.ad 102)), (1, .int v1), (2, .int v2), (3, .int v3)] [] X _
  refine g_iload_n 1 dX12_swimmers_0 rfl rfl ?_
  refine g_cSIt (As := [.int v1]) (st := []) 1 mF_wg rfl dX12_swimmers_1 rfl vX12_isShelf lkX12_140 (rmL rfl rfl) (mo_isShelf_c q v1 X) rfl rfl (Nat.le_of_ble_eq_true rfl) ?_
  refine g_if_eq dX12_swimmers_4 rfl rfl ?_ ?_
  · refine g_iconst dX12_swimmers_17 rfl kic_m1 ?_
    exact g_iret dX12_swimmers_18 rfl rfl
  refine g_iload_n 3 dX12_swimmers_7 rfl rfl ?_
  refine g_iconst dX12_swimmers_8 rfl kic_1 ?_
  refine g_bipush dX12_swimmers_9 rfl kbi_8 ?_
  refine g_cSIt (As := [.int v3, .int (1 : Int32), .int (8 : Int32)]) (st := []) 3 mF_wg rfl dX12_swimmers_11 rfl vX12_within lkX12_128 (rmL rfl rfl) (mo_within_c q v3 (1 : Int32) (8 : Int32) X) rfl rfl (Nat.le_of_ble_eq_true rfl) ?_
  refine g_if_ne dX12_swimmers_14 rfl rfl ?_ ?_
  · refine g_iconst dX12_swimmers_17 rfl kic_m1 ?_
    exact g_iret dX12_swimmers_18 rfl rfl
  refine g_aload_n 0 dX12_swimmers_19 rfl rfl ?_
  refine g_getR 102 41 130 rfl dX12_swimmers_20 rfl kkX12 flX12_93 (by decide) rfl rfl (by decide) rfl ?_
  refine g_iload_n 1 dX12_swimmers_23 rfl rfl ?_
  refine g_iald dX12_swimmers_24 rfl (by decide) rfl rfl ?_
  refine g_iconst dX12_swimmers_25 rfl kic_m1 ?_
  refine g_icmp_ne dX12_swimmers_26 rfl rfl ?_ ?_
  · refine g_iconst dX12_swimmers_29 rfl kic_0 ?_
    exact g_iret dX12_swimmers_30 rfl rfl
  refine g_aload_n 0 dX12_swimmers_31 rfl rfl ?_
  refine g_getR 102 41 130 rfl dX12_swimmers_32 rfl kkX12 flX12_93 (by decide) rfl rfl (by decide) rfl ?_
  refine g_iload_n 1 dX12_swimmers_35 rfl rfl ?_
  refine g_iald dX12_swimmers_36 rfl (by decide) rfl rfl ?_
  refine g_if_eq dX12_swimmers_37 rfl rfl ?_ ?_
  · refine g_iconst dX12_swimmers_43 rfl kic_0 ?_
    refine g_istore (lv' := [(4, .int (0 : Int32)), (0, .ref (q.ad 102)), (1, .int v1), (2, .int v2), (3, .int v3)]) dX12_swimmers_44 rfl (Nat.le_of_ble_eq_true rfl) rfl ?_
    refine g_iconst dX12_swimmers_46 rfl kic_0 ?_
    refine g_istore (lv' := [(5, .int (0 : Int32)), (4, .int (0 : Int32)), (0, .ref (q.ad 102)), (1, .int v1), (2, .int v2), (3, .int v3)]) dX12_swimmers_47 rfl (Nat.le_of_ble_eq_true rfl) rfl ?_
    refine g_sub [2, 3, 4, 5, 1, 0] rfl ?_
    refine mo_swimmers_L49_g q n n v1 v2 v3 (0 : Int32) (0 : Int32) X
  refine g_bipush dX12_swimmers_40 rfl kbi_m12 ?_
  exact g_iret dX12_swimmers_42 rfl rfl
def mo_isOf (v1 : Int32) (v2 : Int32) (X : St) : Int32 :=
  (if (mo_within v2 (0 : Int32) (5 : Int32)) = 0 then
  (if (mo_within v2 (6 : Int32) (8 : Int32)) = 0 then
  ((0 : Int32))
  else
  (if v1 = 0 then
  ((1 : Int32))
  else
  ((0 : Int32))))
  else
  ((mo_isOne v1 X)))
def mo_isOf_o (v1 : Int32) (v2 : Int32) (X : St) : Option Int32 :=
  (if (mo_within v2 (0 : Int32) (5 : Int32)) = 0 then
  (if (mo_within v2 (6 : Int32) (8 : Int32)) = 0 then
  (some (0 : Int32))
  else
  (if v1 = 0 then
  (some (1 : Int32))
  else
  (some (0 : Int32))))
  else
  (some (mo_isOne v1 X)))
theorem mo_isOf_e (v1 : Int32) (v2 : Int32) (X : St) : mo_isOf_o v1 v2 X = some (mo_isOf v1 v2 X) := by
  unfold mo_isOf_o mo_isOf
  simp only [apply_ite some]
theorem z_mo_isOf (v1 : Int32) (v2 : Int32) (X : St) : isZ (mo_isOf v1 v2 X) = true := by
  unfold mo_isOf
  (repeat' split) <;> first | rfl | apply z_mo_isOne
theorem mo_isOf_c (q : Th) (v1 : Int32) (v2 : Int32) (X : St) : Ct q nX12_isOf 2 (fir X) [.ref (q.ad 102), .int v1, .int v2] X (some (mo_isOf v1 v2 X)) := by
  refine ct_of (by decide +kernel) (Nat.le_of_ble_eq_true rfl) ?_
  rw [← mo_isOf_e]
  unfold mo_isOf_o
  show G q _ _ 0 [(0, .ref (q.ad 102)), (1, .int v1), (2, .int v2)] [] X _
  refine g_iload_n 2 dX12_isOf_0 rfl rfl ?_
  refine g_iconst dX12_isOf_1 rfl kic_0 ?_
  refine g_iconst dX12_isOf_2 rfl kic_5 ?_
  refine g_cSIt (As := [.int v2, .int (0 : Int32), .int (5 : Int32)]) (st := []) 3 mF_wg rfl dX12_isOf_3 rfl vX12_within lkX12_128 (rmL rfl rfl) (mo_within_c q v2 (0 : Int32) (5 : Int32) X) rfl rfl (Nat.le_of_ble_eq_true rfl) ?_
  refine g_if_eq dX12_isOf_6 rfl rfl ?_ ?_
  · refine g_iload_n 2 dX12_isOf_17 rfl rfl ?_
    refine g_bipush dX12_isOf_18 rfl kbi_6 ?_
    refine g_bipush dX12_isOf_20 rfl kbi_8 ?_
    refine g_cSIt (As := [.int v2, .int (6 : Int32), .int (8 : Int32)]) (st := []) 3 mF_wg rfl dX12_isOf_22 rfl vX12_within lkX12_128 (rmL rfl rfl) (mo_within_c q v2 (6 : Int32) (8 : Int32) X) rfl rfl (Nat.le_of_ble_eq_true rfl) ?_
    refine g_if_eq dX12_isOf_25 rfl rfl ?_ ?_
    · refine g_iconst dX12_isOf_36 rfl kic_0 ?_
      exact g_zret dX12_isOf_37 rfl rfl rfl
    refine g_iload_n 1 dX12_isOf_28 rfl rfl ?_
    refine g_if_ne dX12_isOf_29 rfl rfl ?_ ?_
    · refine g_iconst dX12_isOf_32 rfl kic_1 ?_
      refine g_goto dX12_isOf_33 rfl ?_
      exact g_zret dX12_isOf_37 rfl rfl rfl
    refine g_iconst dX12_isOf_36 rfl kic_0 ?_
    exact g_zret dX12_isOf_37 rfl rfl rfl
  refine g_aload_n 0 dX12_isOf_9 rfl rfl ?_
  refine g_iload_n 1 dX12_isOf_10 rfl rfl ?_
  refine g_cVIt (As := [.int v1]) (st := []) 1 mF_wg rfl dX12_isOf_11 rfl kkX12 (by decide) rfl vX12_isOne lkX12_132 (rmL rfl rfl) (mo_isOne_c q v1 X) rfl rfl (Nat.le_of_ble_eq_true rfl) ?_
  refine g_goto dX12_isOf_14 rfl ?_
  exact g_zret dX12_isOf_37 rfl (z_mo_isOne v1 X) rfl
def mo_isFit (v0 : Int32) (v1 : Int32) : Int32 :=
  (if v0 = (0 : Int32) then
  ((mo_within v1 (0 : Int32) (15 : Int32)))
  else
  (if v0 = (1 : Int32) then
  ((mo_within v1 (0 : Int32) (15 : Int32)))
  else
  (if v0 = (2 : Int32) then
  ((mo_within v1 (1 : Int32) (9 : Int32)))
  else
  (if v0 = (3 : Int32) then
  ((mo_within v1 (1 : Int32) (60 : Int32)))
  else
  (if v0 = (4 : Int32) then
  ((mo_within v1 (-9 : Int32) (9 : Int32)))
  else
  (if v0 = (5 : Int32) then
  ((mo_within v1 (0 : Int32) (99 : Int32)))
  else
  (if v0 = (6 : Int32) then
  ((mo_within v1 (0 : Int32) (7 : Int32)))
  else
  (if v0 = (7 : Int32) then
  ((mo_within v1 (1 : Int32) (999 : Int32)))
  else
  (if v0 = (8 : Int32) then
  ((mo_within v1 (1 : Int32) (9 : Int32)))
  else
  ((mo_within v1 (1 : Int32) (999 : Int32))))))))))))
def mo_isFit_o (v0 : Int32) (v1 : Int32) : Option Int32 :=
  (if v0 = (0 : Int32) then
  (some (mo_within v1 (0 : Int32) (15 : Int32)))
  else
  (if v0 = (1 : Int32) then
  (some (mo_within v1 (0 : Int32) (15 : Int32)))
  else
  (if v0 = (2 : Int32) then
  (some (mo_within v1 (1 : Int32) (9 : Int32)))
  else
  (if v0 = (3 : Int32) then
  (some (mo_within v1 (1 : Int32) (60 : Int32)))
  else
  (if v0 = (4 : Int32) then
  (some (mo_within v1 (-9 : Int32) (9 : Int32)))
  else
  (if v0 = (5 : Int32) then
  (some (mo_within v1 (0 : Int32) (99 : Int32)))
  else
  (if v0 = (6 : Int32) then
  (some (mo_within v1 (0 : Int32) (7 : Int32)))
  else
  (if v0 = (7 : Int32) then
  (some (mo_within v1 (1 : Int32) (999 : Int32)))
  else
  (if v0 = (8 : Int32) then
  (some (mo_within v1 (1 : Int32) (9 : Int32)))
  else
  (some (mo_within v1 (1 : Int32) (999 : Int32))))))))))))
theorem mo_isFit_e (v0 : Int32) (v1 : Int32) : mo_isFit_o v0 v1 = some (mo_isFit v0 v1) := by
  unfold mo_isFit_o mo_isFit
  simp only [apply_ite some]
theorem z_mo_isFit (v0 : Int32) (v1 : Int32) : isZ (mo_isFit v0 v1) = true := by
  unfold mo_isFit
  (repeat' split) <;> first | rfl | apply z_mo_within
theorem mo_isFit_c (q : Th) (v0 : Int32) (v1 : Int32) (X : St) : Ct q nX12_isFit 1 (fir X) [.int v0, .int v1] X (some (mo_isFit v0 v1)) := by
  refine ct_of (by decide +kernel) (Nat.le_of_ble_eq_true rfl) ?_
  rw [← mo_isFit_e]
  unfold mo_isFit_o
  show G q _ _ 0 [(0, .int v0), (1, .int v1)] [] X _
  refine g_iload_n 0 dX12_isFit_0 rfl rfl ?_
  refine g_case (z := (0 : Int32)) (fun hc => ?_) (fun hc0 => ?_)
  · refine g_tableIn hc dX12_isFit_1 (by decide) (by decide) rfl rfl ?_
    refine g_iload_n 1 dX12_isFit_52 rfl rfl ?_
    refine g_iconst dX12_isFit_53 rfl kic_0 ?_
    refine g_bipush dX12_isFit_54 rfl kbi_15 ?_
    refine g_cSIt (As := [.int v1, .int (0 : Int32), .int (15 : Int32)]) (st := []) 3 mF_wg rfl dX12_isFit_56 rfl vX12_within lkX12_128 (rmL rfl rfl) (mo_within_c q v1 (0 : Int32) (15 : Int32) X) rfl rfl (Nat.le_of_ble_eq_true rfl) ?_
    exact g_zret dX12_isFit_59 rfl (z_mo_within v1 (0 : Int32) (15 : Int32)) rfl
  refine g_case (z := (1 : Int32)) (fun hc => ?_) (fun hc1 => ?_)
  · refine g_tableIn hc dX12_isFit_1 (by decide) (by decide) rfl rfl ?_
    refine g_iload_n 1 dX12_isFit_52 rfl rfl ?_
    refine g_iconst dX12_isFit_53 rfl kic_0 ?_
    refine g_bipush dX12_isFit_54 rfl kbi_15 ?_
    refine g_cSIt (As := [.int v1, .int (0 : Int32), .int (15 : Int32)]) (st := []) 3 mF_wg rfl dX12_isFit_56 rfl vX12_within lkX12_128 (rmL rfl rfl) (mo_within_c q v1 (0 : Int32) (15 : Int32) X) rfl rfl (Nat.le_of_ble_eq_true rfl) ?_
    exact g_zret dX12_isFit_59 rfl (z_mo_within v1 (0 : Int32) (15 : Int32)) rfl
  refine g_case (z := (2 : Int32)) (fun hc => ?_) (fun hc2 => ?_)
  · refine g_tableIn hc dX12_isFit_1 (by decide) (by decide) rfl rfl ?_
    refine g_iload_n 1 dX12_isFit_60 rfl rfl ?_
    refine g_iconst dX12_isFit_61 rfl kic_1 ?_
    refine g_bipush dX12_isFit_62 rfl kbi_9 ?_
    refine g_cSIt (As := [.int v1, .int (1 : Int32), .int (9 : Int32)]) (st := []) 3 mF_wg rfl dX12_isFit_64 rfl vX12_within lkX12_128 (rmL rfl rfl) (mo_within_c q v1 (1 : Int32) (9 : Int32) X) rfl rfl (Nat.le_of_ble_eq_true rfl) ?_
    exact g_zret dX12_isFit_67 rfl (z_mo_within v1 (1 : Int32) (9 : Int32)) rfl
  refine g_case (z := (3 : Int32)) (fun hc => ?_) (fun hc3 => ?_)
  · refine g_tableIn hc dX12_isFit_1 (by decide) (by decide) rfl rfl ?_
    refine g_iload_n 1 dX12_isFit_68 rfl rfl ?_
    refine g_iconst dX12_isFit_69 rfl kic_1 ?_
    refine g_bipush dX12_isFit_70 rfl kbi_60 ?_
    refine g_cSIt (As := [.int v1, .int (1 : Int32), .int (60 : Int32)]) (st := []) 3 mF_wg rfl dX12_isFit_72 rfl vX12_within lkX12_128 (rmL rfl rfl) (mo_within_c q v1 (1 : Int32) (60 : Int32) X) rfl rfl (Nat.le_of_ble_eq_true rfl) ?_
    exact g_zret dX12_isFit_75 rfl (z_mo_within v1 (1 : Int32) (60 : Int32)) rfl
  refine g_case (z := (4 : Int32)) (fun hc => ?_) (fun hc4 => ?_)
  · refine g_tableIn hc dX12_isFit_1 (by decide) (by decide) rfl rfl ?_
    refine g_iload_n 1 dX12_isFit_76 rfl rfl ?_
    refine g_bipush dX12_isFit_77 rfl kbi_m9 ?_
    refine g_bipush dX12_isFit_79 rfl kbi_9 ?_
    refine g_cSIt (As := [.int v1, .int (-9 : Int32), .int (9 : Int32)]) (st := []) 3 mF_wg rfl dX12_isFit_81 rfl vX12_within lkX12_128 (rmL rfl rfl) (mo_within_c q v1 (-9 : Int32) (9 : Int32) X) rfl rfl (Nat.le_of_ble_eq_true rfl) ?_
    exact g_zret dX12_isFit_84 rfl (z_mo_within v1 (-9 : Int32) (9 : Int32)) rfl
  refine g_case (z := (5 : Int32)) (fun hc => ?_) (fun hc5 => ?_)
  · refine g_tableIn hc dX12_isFit_1 (by decide) (by decide) rfl rfl ?_
    refine g_iload_n 1 dX12_isFit_85 rfl rfl ?_
    refine g_iconst dX12_isFit_86 rfl kic_0 ?_
    refine g_bipush dX12_isFit_87 rfl kbi_99 ?_
    refine g_cSIt (As := [.int v1, .int (0 : Int32), .int (99 : Int32)]) (st := []) 3 mF_wg rfl dX12_isFit_89 rfl vX12_within lkX12_128 (rmL rfl rfl) (mo_within_c q v1 (0 : Int32) (99 : Int32) X) rfl rfl (Nat.le_of_ble_eq_true rfl) ?_
    exact g_zret dX12_isFit_92 rfl (z_mo_within v1 (0 : Int32) (99 : Int32)) rfl
  refine g_case (z := (6 : Int32)) (fun hc => ?_) (fun hc6 => ?_)
  · refine g_tableIn hc dX12_isFit_1 (by decide) (by decide) rfl rfl ?_
    refine g_iload_n 1 dX12_isFit_93 rfl rfl ?_
    refine g_iconst dX12_isFit_94 rfl kic_0 ?_
    refine g_bipush dX12_isFit_95 rfl kbi_7 ?_
    refine g_cSIt (As := [.int v1, .int (0 : Int32), .int (7 : Int32)]) (st := []) 3 mF_wg rfl dX12_isFit_97 rfl vX12_within lkX12_128 (rmL rfl rfl) (mo_within_c q v1 (0 : Int32) (7 : Int32) X) rfl rfl (Nat.le_of_ble_eq_true rfl) ?_
    exact g_zret dX12_isFit_100 rfl (z_mo_within v1 (0 : Int32) (7 : Int32)) rfl
  refine g_case (z := (7 : Int32)) (fun hc => ?_) (fun hc7 => ?_)
  · refine g_tableIn hc dX12_isFit_1 (by decide) (by decide) rfl rfl ?_
    refine g_iload_n 1 dX12_isFit_101 rfl rfl ?_
    refine g_iconst dX12_isFit_102 rfl kic_1 ?_
    refine g_sipush dX12_isFit_103 rfl ksi_999 ?_
    refine g_cSIt (As := [.int v1, .int (1 : Int32), .int (999 : Int32)]) (st := []) 3 mF_wg rfl dX12_isFit_106 rfl vX12_within lkX12_128 (rmL rfl rfl) (mo_within_c q v1 (1 : Int32) (999 : Int32) X) rfl rfl (Nat.le_of_ble_eq_true rfl) ?_
    exact g_zret dX12_isFit_109 rfl (z_mo_within v1 (1 : Int32) (999 : Int32)) rfl
  refine g_case (z := (8 : Int32)) (fun hc => ?_) (fun hc8 => ?_)
  · refine g_tableIn hc dX12_isFit_1 (by decide) (by decide) rfl rfl ?_
    refine g_iload_n 1 dX12_isFit_60 rfl rfl ?_
    refine g_iconst dX12_isFit_61 rfl kic_1 ?_
    refine g_bipush dX12_isFit_62 rfl kbi_9 ?_
    refine g_cSIt (As := [.int v1, .int (1 : Int32), .int (9 : Int32)]) (st := []) 3 mF_wg rfl dX12_isFit_64 rfl vX12_within lkX12_128 (rmL rfl rfl) (mo_within_c q v1 (1 : Int32) (9 : Int32) X) rfl rfl (Nat.le_of_ble_eq_true rfl) ?_
    exact g_zret dX12_isFit_67 rfl (z_mo_within v1 (1 : Int32) (9 : Int32)) rfl
  refine g_tableOut dX12_isFit_1 (by have e0 := lv_neT (a := 0) hc0 (by decide); have e1 := lv_neT (a := 1) hc1 (by decide); have e2 := lv_neT (a := 2) hc2 (by decide); have e3 := lv_neT (a := 3) hc3 (by decide); have e4 := lv_neT (a := 4) hc4 (by decide); have e5 := lv_neT (a := 5) hc5 (by decide); have e6 := lv_neT (a := 6) hc6 (by decide); have e7 := lv_neT (a := 7) hc7 (by decide); have e8 := lv_neT (a := 8) hc8 (by decide); omega) rfl ?_
  refine g_iload_n 1 dX12_isFit_101 rfl rfl ?_
  refine g_iconst dX12_isFit_102 rfl kic_1 ?_
  refine g_sipush dX12_isFit_103 rfl ksi_999 ?_
  refine g_cSIt (As := [.int v1, .int (1 : Int32), .int (999 : Int32)]) (st := []) 3 mF_wg rfl dX12_isFit_106 rfl vX12_within lkX12_128 (rmL rfl rfl) (mo_within_c q v1 (1 : Int32) (999 : Int32) X) rfl rfl (Nat.le_of_ble_eq_true rfl) ?_
  exact g_zret dX12_isFit_109 rfl (z_mo_within v1 (1 : Int32) (999 : Int32)) rfl
def mo_get (v1 : Int32) (v2 : Int32) (X : St) : Option (Int32) :=
  (if v2 = (0 : Int32) then
  (if inB v1 8 then
  (some (X.1 103 (nx v1))) else none)
  else
  (if v2 = (1 : Int32) then
  (if inB v1 8 then
  (some (X.1 104 (nx v1))) else none)
  else
  (if v2 = (2 : Int32) then
  (if inB v1 8 then
  (some (X.1 105 (nx v1))) else none)
  else
  (if v2 = (3 : Int32) then
  (if inB v1 8 then
  (some (X.1 106 (nx v1))) else none)
  else
  (if v2 = (4 : Int32) then
  (if inB v1 8 then
  (some (X.1 107 (nx v1))) else none)
  else
  (if v2 = (5 : Int32) then
  (if inB v1 8 then
  (some (X.1 108 (nx v1))) else none)
  else
  (if inB (v2 - (6 : Int32)) 3 then
  (some (X.1 109 (nx (v2 - (6 : Int32))))) else none)))))))
theorem mo_get_c (q : Th) (v1 : Int32) (v2 : Int32) (X : St) : Ct q nX12_get 0 (fir X) [.ref (q.ad 102), .int v1, .int v2] X (mo_get v1 v2 X) := by
  refine ct_of (by decide +kernel) (Nat.le_of_ble_eq_true rfl) ?_
  unfold mo_get
  show G q _ _ 0 [(0, .ref (q.ad 102)), (1, .int v1), (2, .int v2)] [] X _
  refine g_iload_n 2 dX12_get_0 rfl rfl ?_
  refine g_case (z := (0 : Int32)) (fun hc => ?_) (fun hc0 => ?_)
  · refine g_tableIn hc dX12_get_1 (by decide) (by decide) rfl rfl ?_
    refine g_aload_n 0 dX12_get_40 rfl rfl ?_
    refine g_getR 102 1 103 rfl dX12_get_41 rfl kkX12 flX12_9 (by decide) rfl rfl (by decide) rfl ?_
    refine g_iload_n 1 dX12_get_44 rfl rfl ?_
    refine g_iald dX12_get_45 rfl (by decide) rfl rfl ?_
    exact g_iret dX12_get_46 rfl rfl
  refine g_case (z := (1 : Int32)) (fun hc => ?_) (fun hc1 => ?_)
  · refine g_tableIn hc dX12_get_1 (by decide) (by decide) rfl rfl ?_
    refine g_aload_n 0 dX12_get_47 rfl rfl ?_
    refine g_getR 102 2 104 rfl dX12_get_48 rfl kkX12 flX12_15 (by decide) rfl rfl (by decide) rfl ?_
    refine g_iload_n 1 dX12_get_51 rfl rfl ?_
    refine g_iald dX12_get_52 rfl (by decide) rfl rfl ?_
    exact g_iret dX12_get_53 rfl rfl
  refine g_case (z := (2 : Int32)) (fun hc => ?_) (fun hc2 => ?_)
  · refine g_tableIn hc dX12_get_1 (by decide) (by decide) rfl rfl ?_
    refine g_aload_n 0 dX12_get_54 rfl rfl ?_
    refine g_getR 102 3 105 rfl dX12_get_55 rfl kkX12 flX12_18 (by decide) rfl rfl (by decide) rfl ?_
    refine g_iload_n 1 dX12_get_58 rfl rfl ?_
    refine g_iald dX12_get_59 rfl (by decide) rfl rfl ?_
    exact g_iret dX12_get_60 rfl rfl
  refine g_case (z := (3 : Int32)) (fun hc => ?_) (fun hc3 => ?_)
  · refine g_tableIn hc dX12_get_1 (by decide) (by decide) rfl rfl ?_
    refine g_aload_n 0 dX12_get_61 rfl rfl ?_
    refine g_getR 102 4 106 rfl dX12_get_62 rfl kkX12 flX12_21 (by decide) rfl rfl (by decide) rfl ?_
    refine g_iload_n 1 dX12_get_65 rfl rfl ?_
    refine g_iald dX12_get_66 rfl (by decide) rfl rfl ?_
    exact g_iret dX12_get_67 rfl rfl
  refine g_case (z := (4 : Int32)) (fun hc => ?_) (fun hc4 => ?_)
  · refine g_tableIn hc dX12_get_1 (by decide) (by decide) rfl rfl ?_
    refine g_aload_n 0 dX12_get_68 rfl rfl ?_
    refine g_getR 102 5 107 rfl dX12_get_69 rfl kkX12 flX12_24 (by decide) rfl rfl (by decide) rfl ?_
    refine g_iload_n 1 dX12_get_72 rfl rfl ?_
    refine g_iald dX12_get_73 rfl (by decide) rfl rfl ?_
    exact g_iret dX12_get_74 rfl rfl
  refine g_case (z := (5 : Int32)) (fun hc => ?_) (fun hc5 => ?_)
  · refine g_tableIn hc dX12_get_1 (by decide) (by decide) rfl rfl ?_
    refine g_aload_n 0 dX12_get_75 rfl rfl ?_
    refine g_getR 102 6 108 rfl dX12_get_76 rfl kkX12 flX12_27 (by decide) rfl rfl (by decide) rfl ?_
    refine g_iload_n 1 dX12_get_79 rfl rfl ?_
    refine g_iald dX12_get_80 rfl (by decide) rfl rfl ?_
    exact g_iret dX12_get_81 rfl rfl
  refine g_tableOut dX12_get_1 (by have e0 := lv_neT (a := 0) hc0 (by decide); have e1 := lv_neT (a := 1) hc1 (by decide); have e2 := lv_neT (a := 2) hc2 (by decide); have e3 := lv_neT (a := 3) hc3 (by decide); have e4 := lv_neT (a := 4) hc4 (by decide); have e5 := lv_neT (a := 5) hc5 (by decide); omega) rfl ?_
  refine g_aload_n 0 dX12_get_82 rfl rfl ?_
  refine g_getR 102 7 109 rfl dX12_get_83 rfl kkX12 flX12_30 (by decide) rfl rfl (by decide) rfl ?_
  refine g_iload_n 2 dX12_get_86 rfl rfl ?_
  refine g_bipush dX12_get_87 rfl kbi_6 ?_
  refine g_isub dX12_get_89 rfl ?_
  refine g_iald dX12_get_90 rfl (by decide) rfl rfl ?_
  exact g_iret dX12_get_91 rfl rfl
def mo_becomes (v1 : Int32) (v2 : Int32) (v3 : Int32) (X : St) : Option (St) :=
  (if v2 = (0 : Int32) then
  (if inB v1 8 then
  (some (stI X 103 (nx v1) v3)) else none)
  else
  (if v2 = (1 : Int32) then
  (if inB v1 8 then
  (some (stI X 104 (nx v1) v3)) else none)
  else
  (if v2 = (2 : Int32) then
  (if inB v1 8 then
  (some (stI X 105 (nx v1) v3)) else none)
  else
  (if v2 = (3 : Int32) then
  (if inB v1 8 then
  (some (stI X 106 (nx v1) v3)) else none)
  else
  (if v2 = (4 : Int32) then
  (if inB v1 8 then
  (some (stI X 107 (nx v1) v3)) else none)
  else
  (if v2 = (5 : Int32) then
  (if inB v1 8 then
  (some (stI X 108 (nx v1) v3)) else none)
  else
  (if inB (v2 - (6 : Int32)) 3 then
  (some (stI X 109 (nx (v2 - (6 : Int32))) v3)) else none)))))))
theorem mo_becomes_c (q : Th) (v1 : Int32) (v2 : Int32) (v3 : Int32) (X : St) : Ct q nX12_becomes 0 fvw [.ref (q.ad 102), .int v1, .int v2, .int v3] X (mo_becomes v1 v2 v3 X) := by
  refine ct_of (by decide +kernel) (Nat.le_of_ble_eq_true rfl) ?_
  unfold mo_becomes
  show G q _ _ 0 [(0, .ref (q.ad 102)), (1, .int v1), (2, .int v2), (3, .int v3)] [] X _
  refine g_iload_n 2 dX12_becomes_0 rfl rfl ?_
  refine g_case (z := (0 : Int32)) (fun hc => ?_) (fun hc0 => ?_)
  · refine g_tableIn hc dX12_becomes_1 (by decide) (by decide) rfl rfl ?_
    refine g_aload_n 0 dX12_becomes_40 rfl rfl ?_
    refine g_getR 102 1 103 rfl dX12_becomes_41 rfl kkX12 flX12_9 (by decide) rfl rfl (by decide) rfl ?_
    refine g_iload_n 1 dX12_becomes_44 rfl rfl ?_
    refine g_iload_n 3 dX12_becomes_45 rfl rfl ?_
    refine g_iast dX12_becomes_46 rfl (by decide) rfl rfl ?_
    exact g_vret dX12_becomes_47 rfl rfl
  refine g_case (z := (1 : Int32)) (fun hc => ?_) (fun hc1 => ?_)
  · refine g_tableIn hc dX12_becomes_1 (by decide) (by decide) rfl rfl ?_
    refine g_aload_n 0 dX12_becomes_48 rfl rfl ?_
    refine g_getR 102 2 104 rfl dX12_becomes_49 rfl kkX12 flX12_15 (by decide) rfl rfl (by decide) rfl ?_
    refine g_iload_n 1 dX12_becomes_52 rfl rfl ?_
    refine g_iload_n 3 dX12_becomes_53 rfl rfl ?_
    refine g_iast dX12_becomes_54 rfl (by decide) rfl rfl ?_
    exact g_vret dX12_becomes_55 rfl rfl
  refine g_case (z := (2 : Int32)) (fun hc => ?_) (fun hc2 => ?_)
  · refine g_tableIn hc dX12_becomes_1 (by decide) (by decide) rfl rfl ?_
    refine g_aload_n 0 dX12_becomes_56 rfl rfl ?_
    refine g_getR 102 3 105 rfl dX12_becomes_57 rfl kkX12 flX12_18 (by decide) rfl rfl (by decide) rfl ?_
    refine g_iload_n 1 dX12_becomes_60 rfl rfl ?_
    refine g_iload_n 3 dX12_becomes_61 rfl rfl ?_
    refine g_iast dX12_becomes_62 rfl (by decide) rfl rfl ?_
    exact g_vret dX12_becomes_63 rfl rfl
  refine g_case (z := (3 : Int32)) (fun hc => ?_) (fun hc3 => ?_)
  · refine g_tableIn hc dX12_becomes_1 (by decide) (by decide) rfl rfl ?_
    refine g_aload_n 0 dX12_becomes_64 rfl rfl ?_
    refine g_getR 102 4 106 rfl dX12_becomes_65 rfl kkX12 flX12_21 (by decide) rfl rfl (by decide) rfl ?_
    refine g_iload_n 1 dX12_becomes_68 rfl rfl ?_
    refine g_iload_n 3 dX12_becomes_69 rfl rfl ?_
    refine g_iast dX12_becomes_70 rfl (by decide) rfl rfl ?_
    exact g_vret dX12_becomes_71 rfl rfl
  refine g_case (z := (4 : Int32)) (fun hc => ?_) (fun hc4 => ?_)
  · refine g_tableIn hc dX12_becomes_1 (by decide) (by decide) rfl rfl ?_
    refine g_aload_n 0 dX12_becomes_72 rfl rfl ?_
    refine g_getR 102 5 107 rfl dX12_becomes_73 rfl kkX12 flX12_24 (by decide) rfl rfl (by decide) rfl ?_
    refine g_iload_n 1 dX12_becomes_76 rfl rfl ?_
    refine g_iload_n 3 dX12_becomes_77 rfl rfl ?_
    refine g_iast dX12_becomes_78 rfl (by decide) rfl rfl ?_
    exact g_vret dX12_becomes_79 rfl rfl
  refine g_case (z := (5 : Int32)) (fun hc => ?_) (fun hc5 => ?_)
  · refine g_tableIn hc dX12_becomes_1 (by decide) (by decide) rfl rfl ?_
    refine g_aload_n 0 dX12_becomes_80 rfl rfl ?_
    refine g_getR 102 6 108 rfl dX12_becomes_81 rfl kkX12 flX12_27 (by decide) rfl rfl (by decide) rfl ?_
    refine g_iload_n 1 dX12_becomes_84 rfl rfl ?_
    refine g_iload_n 3 dX12_becomes_85 rfl rfl ?_
    refine g_iast dX12_becomes_86 rfl (by decide) rfl rfl ?_
    exact g_vret dX12_becomes_87 rfl rfl
  refine g_tableOut dX12_becomes_1 (by have e0 := lv_neT (a := 0) hc0 (by decide); have e1 := lv_neT (a := 1) hc1 (by decide); have e2 := lv_neT (a := 2) hc2 (by decide); have e3 := lv_neT (a := 3) hc3 (by decide); have e4 := lv_neT (a := 4) hc4 (by decide); have e5 := lv_neT (a := 5) hc5 (by decide); omega) rfl ?_
  refine g_aload_n 0 dX12_becomes_88 rfl rfl ?_
  refine g_getR 102 7 109 rfl dX12_becomes_89 rfl kkX12 flX12_30 (by decide) rfl rfl (by decide) rfl ?_
  refine g_iload_n 2 dX12_becomes_92 rfl rfl ?_
  refine g_bipush dX12_becomes_93 rfl kbi_6 ?_
  refine g_isub dX12_becomes_95 rfl ?_
  refine g_iload_n 3 dX12_becomes_96 rfl rfl ?_
  refine g_iast dX12_becomes_97 rfl (by decide) rfl rfl ?_
  exact g_vret dX12_becomes_98 rfl rfl
def mo_mend_L56_B (n : Nat) (k86 : Int32 → Int32 → Int32 → Int32 → St → Option (Int32 × St)) (rec : Int32 → Int32 → Int32 → Int32 → Int32 → St → Option (Int32 × St)) (v1 : Int32) (v2 : Int32) (v3 : Int32) (v4 : Int32) (v5 : Int32) (X : St) : Option (Int32 × St) :=
(if v5 < (156 : Int32) then
(if inB (v5 + (4 : Int32)) 160 then
(if inB v5 160 then
(rec v1 v2 v3 v4 (v5 + (1 : Int32)) (stI X 127 (nx v5) (X.1 127 (nx (v5 + (4 : Int32)))))) else none) else none)
else
(k86 v1 v2 v3 v4 X))
def mo_mend_L56 (n : Nat) (k86 : Int32 → Int32 → Int32 → Int32 → St → Option (Int32 × St)) : Nat → Int32 → Int32 → Int32 → Int32 → Int32 → St → Option (Int32 × St)
  | 0 => fun _ _ _ _ _ _ => none
  | w + 1 => mo_mend_L56_B n k86 (mo_mend_L56 n k86 w)
def mo_mend_J96 (n : Nat) (v1 : Int32) (v2 : Int32) (v3 : Int32) (v4 : Int32) (X : St) : Option (Int32 × St) :=
(if inB ((4 : Int32) * (X.1 102 35)) 160 then
(if inB (((4 : Int32) * ((stI X 127 (nx ((4 : Int32) * (X.1 102 35))) v1).1 102 35)) + (1 : Int32)) 160 then
((some (stI (stI X 127 (nx ((4 : Int32) * (X.1 102 35))) v1) 127 (nx (((4 : Int32) * ((stI X 127 (nx ((4 : Int32) * (X.1 102 35))) v1).1 102 35)) + (1 : Int32))) v2)).bind fun X8 =>
(if inB (((4 : Int32) * (X8.1 102 35)) + (2 : Int32)) 160 then
((some (stI X8 127 (nx (((4 : Int32) * (X8.1 102 35)) + (2 : Int32))) v4)).bind fun X9 =>
(if inB (((4 : Int32) * (X9.1 102 35)) + (3 : Int32)) 160 then
((some (stI X9 127 (nx (((4 : Int32) * (X9.1 102 35)) + (3 : Int32))) v3)).bind fun X10 =>
((some (stI (stI X10 102 35 ((X10.1 102 35) + (1 : Int32))) 102 34 ((stI X10 102 35 ((X10.1 102 35) + (1 : Int32))).1 102 35))).bind fun X11 =>
(some (v4, X11)))) else none)) else none)) else none) else none)
def mo_mend (n : Nat) (v1 : Int32) (v2 : Int32) (v3 : Int32) (X : St) : Option (Int32 × St) :=
  (if (mo_isOf v1 v2 X) = 0 then
  (some ((-2000000000 : Int32), X))
  else
  (if (mo_isFit v2 v3) = 0 then
  (some ((-2000000000 : Int32), X))
  else
  ((mo_get v1 v2 X).bind fun c1 =>
  (if c1 = v3 then
  (some (c1, X))
  else
  ((mo_becomes v1 v2 v3 X).bind fun X2 =>
  (if (X2.1 102 35) = (40 : Int32) then
  (mo_mend_L56 n (fun v4 v5 v6 v7 X3 =>
  (mo_mend_J96 n v4 v5 v6 v7 (stI X3 102 35 ((X3.1 102 35) - (1 : Int32))))) n v1 v2 v3 c1 (0 : Int32) X2)
  else
  (mo_mend_J96 n v1 v2 v3 c1 X2)))))))
theorem mo_mend_L56_Bg (q : Th) (n : Nat) (k86 : Int32 → Int32 → Int32 → Int32 → St → Option (Int32 × St)) (hk86 : ∀ v1 v2 v3 v4 X, G q (mF q nX12_mend RX12 3) fiw 86 [(0, .ref (q.ad 102)), (1, .int v1), (2, .int v2), (3, .int v3), (4, .int v4)] [] X (k86 v1 v2 v3 v4 X)) (rec : Int32 → Int32 → Int32 → Int32 → Int32 → St → Option (Int32 × St)) (hrec : ∀ v1 v2 v3 v4 v5 X, G q (mF q nX12_mend RX12 3) fiw 56 [(0, .ref (q.ad 102)), (1, .int v1), (2, .int v2), (3, .int v3), (4, .int v4), (5, .int v5)] [] X (rec v1 v2 v3 v4 v5 X)) (v1 : Int32) (v2 : Int32) (v3 : Int32) (v4 : Int32) (v5 : Int32) (X : St) : G q (mF q nX12_mend RX12 3) fiw 56 [(0, .ref (q.ad 102)), (1, .int v1), (2, .int v2), (3, .int v3), (4, .int v4), (5, .int v5)] [] X (mo_mend_L56_B n k86 rec v1 v2 v3 v4 v5 X) := by
  unfold mo_mend_L56_B
  refine g_iload 5 dX12_mend_56 rfl rfl ?_
  refine g_sipush dX12_mend_58 rfl ksi_156 ?_
  refine g_icmp_ge dX12_mend_61 rfl rfl ?_ ?_
  · refine g_aload_n 0 dX12_mend_64 rfl rfl ?_
    refine g_getR 102 36 127 rfl dX12_mend_65 rfl kkX12 flX12_84 (by decide) rfl rfl (by decide) rfl ?_
    refine g_iload 5 dX12_mend_68 rfl rfl ?_
    refine g_aload_n 0 dX12_mend_70 rfl rfl ?_
    refine g_getR 102 36 127 rfl dX12_mend_71 rfl kkX12 flX12_84 (by decide) rfl rfl (by decide) rfl ?_
    refine g_iload 5 dX12_mend_74 rfl rfl ?_
    refine g_iconst dX12_mend_76 rfl kic_4 ?_
    refine g_iadd dX12_mend_77 rfl ?_
    refine g_iald dX12_mend_78 rfl (by decide) rfl rfl ?_
    refine g_iast dX12_mend_79 rfl (by decide) rfl rfl ?_
    refine g_inc (lv' := [(5, .int (v5 + (1 : Int32))), (0, .ref (q.ad 102)), (1, .int v1), (2, .int v2), (3, .int v3), (4, .int v4)]) 5 dX12_mend_80 rfl rfl kic_1 (Nat.le_of_ble_eq_true rfl) rfl ?_
    refine g_goto dX12_mend_83 rfl ?_
    refine g_sub [1, 2, 3, 4, 5, 0] rfl ?_
    exact hrec v1 v2 v3 v4 (v5 + (1 : Int32)) (stI X 127 (nx v5) (X.1 127 (nx (v5 + (4 : Int32)))))
  refine g_sub [0, 1, 2, 3, 4] rfl ?_
  exact hk86 v1 v2 v3 v4 X
theorem mo_mend_L56_g (q : Th) (n : Nat) (k86 : Int32 → Int32 → Int32 → Int32 → St → Option (Int32 × St)) (hk86 : ∀ v1 v2 v3 v4 X, G q (mF q nX12_mend RX12 3) fiw 86 [(0, .ref (q.ad 102)), (1, .int v1), (2, .int v2), (3, .int v3), (4, .int v4)] [] X (k86 v1 v2 v3 v4 X)) : ∀ (w : Nat) (v1 : Int32) (v2 : Int32) (v3 : Int32) (v4 : Int32) (v5 : Int32) (X : St), G q (mF q nX12_mend RX12 3) fiw 56 [(0, .ref (q.ad 102)), (1, .int v1), (2, .int v2), (3, .int v3), (4, .int v4), (5, .int v5)] [] X (mo_mend_L56 n k86 w v1 v2 v3 v4 v5 X) := by
  intro w
  induction w with
  | zero => intro v1 v2 v3 v4 v5 X; exact g_none
  | succ w ih => intro v1 v2 v3 v4 v5 X; exact mo_mend_L56_Bg q n k86 hk86 _ ih v1 v2 v3 v4 v5 X
theorem mo_mend_J96_g (q : Th) (n : Nat) (v1 : Int32) (v2 : Int32) (v3 : Int32) (v4 : Int32) (X : St) : G q (mF q nX12_mend RX12 3) fiw 96 [(0, .ref (q.ad 102)), (1, .int v1), (2, .int v2), (3, .int v3), (4, .int v4)] [] X (mo_mend_J96 n v1 v2 v3 v4 X) := by
  unfold mo_mend_J96
  refine g_aload_n 0 dX12_mend_96 rfl rfl ?_
  refine g_getR 102 36 127 rfl dX12_mend_97 rfl kkX12 flX12_84 (by decide) rfl rfl (by decide) rfl ?_
  refine g_iconst dX12_mend_100 rfl kic_4 ?_
  refine g_aload_n 0 dX12_mend_101 rfl rfl ?_
  refine g_getI 102 35 rfl dX12_mend_102 rfl kkX12 flX12_161 (by decide) rfl rfl (by decide) rfl ?_
  refine g_imul dX12_mend_105 rfl ?_
  refine g_iload_n 1 dX12_mend_106 rfl rfl ?_
  refine g_iast dX12_mend_107 rfl (by decide) rfl rfl ?_
  refine g_aload_n 0 dX12_mend_108 rfl rfl ?_
  refine g_getR 102 36 127 rfl dX12_mend_109 rfl kkX12 flX12_84 (by decide) rfl rfl (by decide) rfl ?_
  refine g_iconst dX12_mend_112 rfl kic_4 ?_
  refine g_aload_n 0 dX12_mend_113 rfl rfl ?_
  refine g_getI 102 35 rfl dX12_mend_114 rfl kkX12 flX12_161 (by decide) rfl rfl (by decide) rfl ?_
  refine g_imul dX12_mend_117 rfl ?_
  refine g_iconst dX12_mend_118 rfl kic_1 ?_
  refine g_iadd dX12_mend_119 rfl ?_
  refine g_iload_n 2 dX12_mend_120 rfl rfl ?_
  refine g_iast dX12_mend_121 rfl (by decide) rfl rfl ?_
  refine g_nmX (fun X8 => ?_)
  refine g_aload_n 0 dX12_mend_122 rfl rfl ?_
  refine g_getR 102 36 127 rfl dX12_mend_123 rfl kkX12 flX12_84 (by decide) rfl rfl (by decide) rfl ?_
  refine g_iconst dX12_mend_126 rfl kic_4 ?_
  refine g_aload_n 0 dX12_mend_127 rfl rfl ?_
  refine g_getI 102 35 rfl dX12_mend_128 rfl kkX12 flX12_161 (by decide) rfl rfl (by decide) rfl ?_
  refine g_imul dX12_mend_131 rfl ?_
  refine g_iconst dX12_mend_132 rfl kic_2 ?_
  refine g_iadd dX12_mend_133 rfl ?_
  refine g_iload 4 dX12_mend_134 rfl rfl ?_
  refine g_iast dX12_mend_136 rfl (by decide) rfl rfl ?_
  refine g_nmX (fun X9 => ?_)
  refine g_aload_n 0 dX12_mend_137 rfl rfl ?_
  refine g_getR 102 36 127 rfl dX12_mend_138 rfl kkX12 flX12_84 (by decide) rfl rfl (by decide) rfl ?_
  refine g_iconst dX12_mend_141 rfl kic_4 ?_
  refine g_aload_n 0 dX12_mend_142 rfl rfl ?_
  refine g_getI 102 35 rfl dX12_mend_143 rfl kkX12 flX12_161 (by decide) rfl rfl (by decide) rfl ?_
  refine g_imul dX12_mend_146 rfl ?_
  refine g_iconst dX12_mend_147 rfl kic_3 ?_
  refine g_iadd dX12_mend_148 rfl ?_
  refine g_iload_n 3 dX12_mend_149 rfl rfl ?_
  refine g_iast dX12_mend_150 rfl (by decide) rfl rfl ?_
  refine g_nmX (fun X10 => ?_)
  refine g_aload_n 0 dX12_mend_151 rfl rfl ?_
  refine g_dup dX12_mend_152 rfl rfl ?_
  refine g_getI 102 35 rfl dX12_mend_153 rfl kkX12 flX12_161 (by decide) rfl rfl (by decide) rfl ?_
  refine g_iconst dX12_mend_156 rfl kic_1 ?_
  refine g_iadd dX12_mend_157 rfl ?_
  refine g_putI 102 35 rfl dX12_mend_158 rfl kkX12 flX12_161 (by decide) rfl rfl (by decide) rfl rfl rfl ?_
  refine g_aload_n 0 dX12_mend_161 rfl rfl ?_
  refine g_aload_n 0 dX12_mend_162 rfl rfl ?_
  refine g_getI 102 35 rfl dX12_mend_163 rfl kkX12 flX12_161 (by decide) rfl rfl (by decide) rfl ?_
  refine g_putI 102 34 rfl dX12_mend_166 rfl kkX12 flX12_164 (by decide) rfl rfl (by decide) rfl rfl rfl ?_
  refine g_nmX (fun X11 => ?_)
  refine g_iload 4 dX12_mend_169 rfl rfl ?_
  exact g_iret dX12_mend_171 rfl rfl
theorem mo_mend_c (q : Th) (n : Nat) (v1 : Int32) (v2 : Int32) (v3 : Int32) (X : St) : Ct q nX12_mend 3 fiw [.ref (q.ad 102), .int v1, .int v2, .int v3] X (mo_mend n v1 v2 v3 X) := by
  refine ct_of (by decide +kernel) (Nat.le_of_ble_eq_true rfl) ?_
  unfold mo_mend
  show G q _ _ 0 [(0, .ref (q.ad 102)), (1, .int v1), (2, .int v2), (3, .int v3)] [] X _
  refine g_aload_n 0 dX12_mend_0 rfl rfl ?_
  refine g_iload_n 1 dX12_mend_1 rfl rfl ?_
  refine g_iload_n 2 dX12_mend_2 rfl rfl ?_
  refine g_cVIt (As := [.int v1, .int v2]) (st := []) 2 mF_wg rfl dX12_mend_3 rfl kkX12 (by decide) rfl vX12_isOf lkX12_145 (rmL rfl rfl) (mo_isOf_c q v1 v2 X) rfl rfl (Nat.le_of_ble_eq_true rfl) ?_
  refine g_if_eq dX12_mend_6 rfl rfl ?_ ?_
  · refine g_ldc rfl dX12_mend_17 rfl kcX12_152 ?_
    exact g_iret dX12_mend_19 rfl rfl
  refine g_iload_n 2 dX12_mend_9 rfl rfl ?_
  refine g_iload_n 3 dX12_mend_10 rfl rfl ?_
  refine g_cSIt (As := [.int v2, .int v3]) (st := []) 2 mF_wg rfl dX12_mend_11 rfl vX12_isFit lkX12_149 (rmL rfl rfl) (mo_isFit_c q v2 v3 X) rfl rfl (Nat.le_of_ble_eq_true rfl) ?_
  refine g_if_ne dX12_mend_14 rfl rfl ?_ ?_
  · refine g_ldc rfl dX12_mend_17 rfl kcX12_152 ?_
    exact g_iret dX12_mend_19 rfl rfl
  refine g_aload_n 0 dX12_mend_20 rfl rfl ?_
  refine g_iload_n 1 dX12_mend_21 rfl rfl ?_
  refine g_iload_n 2 dX12_mend_22 rfl rfl ?_
  refine g_cVIr (As := [.int v1, .int v2]) (st := []) 2 mF_wg rfl dX12_mend_23 rfl kkX12 (by decide) rfl vX12_get lkX12_153 (rmL rfl rfl) (mo_get_c q v1 v2 X) rfl rfl (Nat.le_of_ble_eq_true rfl) (fun c1 => ?_)
  refine g_istore (lv' := [(4, .int c1), (0, .ref (q.ad 102)), (1, .int v1), (2, .int v2), (3, .int v3)]) dX12_mend_26 rfl (Nat.le_of_ble_eq_true rfl) rfl ?_
  refine g_iload 0 dX12_mend_28 rfl rfl ?_
  refine g_iload_n 4 dX12_mend_30 rfl rfl ?_
  refine g_icmp_ne dX12_mend_31 rfl rfl ?_ ?_
  · refine g_iload 0 dX12_mend_34 rfl rfl ?_
    exact g_iret dX12_mend_36 rfl rfl
  refine g_aload_n 1 dX12_mend_37 rfl rfl ?_
  refine g_iload_n 2 dX12_mend_38 rfl rfl ?_
  refine g_iload_n 3 dX12_mend_39 rfl rfl ?_
  refine g_iload_n 4 dX12_mend_40 rfl rfl ?_
  refine g_cVVw (As := [.int v1, .int v2, .int v3]) (st := []) 3 mF_wg rfl dX12_mend_41 rfl kkX12 (by decide) rfl vX12_becomes lkX12_157 (rmL rfl rfl) (mo_becomes_c q v1 v2 v3 X) rfl rfl (Nat.le_of_ble_eq_true rfl) (fun X2 => ?_)
  refine g_aload_n 1 dX12_mend_44 rfl rfl ?_
  refine g_getI 102 35 rfl dX12_mend_45 rfl kkX12 flX12_161 (by decide) rfl rfl (by decide) rfl ?_
  refine g_bipush dX12_mend_48 rfl kbi_40 ?_
  refine g_icmp_ne dX12_mend_50 rfl rfl ?_ ?_
  · refine g_iconst dX12_mend_53 rfl kic_0 ?_
    refine g_istore (lv' := [(5, .int (0 : Int32)), (4, .int c1), (0, .ref (q.ad 102)), (1, .int v1), (2, .int v2), (3, .int v3)]) dX12_mend_54 rfl (Nat.le_of_ble_eq_true rfl) rfl ?_
    refine g_sub [2, 3, 4, 5, 1, 0] rfl ?_
    refine mo_mend_L56_g q n _ (fun v4 v5 v6 v7 X3 => ?_) n v1 v2 v3 c1 (0 : Int32) X2
    refine g_aload_n 0 dX12_mend_86 rfl rfl ?_
    refine g_dup dX12_mend_87 rfl rfl ?_
    refine g_getI 102 35 rfl dX12_mend_88 rfl kkX12 flX12_161 (by decide) rfl rfl (by decide) rfl ?_
    refine g_iconst dX12_mend_91 rfl kic_1 ?_
    refine g_isub dX12_mend_92 rfl ?_
    refine g_putI 102 35 rfl dX12_mend_93 rfl kkX12 flX12_161 (by decide) rfl rfl (by decide) rfl rfl rfl ?_
    refine g_sub [0, 1, 2, 3, 4] rfl ?_
    exact mo_mend_J96_g q n v4 v5 v6 v7 (stI X3 102 35 ((X3.1 102 35) - (1 : Int32)))
  refine g_sub [1, 2, 3, 4, 0] rfl ?_
  exact mo_mend_J96_g q n v1 v2 v3 c1 X2
def mo_of (v1 : Int32) (v2 : Int32) (X : St) : Option (Int32) :=
  (if (mo_within v2 (9 : Int32) (10 : Int32)) = 0 then
  (if (mo_isOf v1 v2 X) = 0 then
  (some (-2000000000 : Int32))
  else
  ((mo_get v1 v2 X).bind fun c1 =>
  (some c1)))
  else
  (if (mo_isOne v1 X) = 0 then
  (some (-2000000000 : Int32))
  else
  (if v2 = (9 : Int32) then
  (if inB v1 8 then
  (some (X.1 110 (nx v1))) else none)
  else
  (if inB v1 8 then
  (some (X.1 111 (nx v1))) else none))))
theorem mo_of_c (q : Th) (v1 : Int32) (v2 : Int32) (X : St) : Ct q nX12_of 3 (fir X) [.ref (q.ad 102), .int v1, .int v2] X (mo_of v1 v2 X) := by
  refine ct_of (by decide +kernel) (Nat.le_of_ble_eq_true rfl) ?_
  unfold mo_of
  show G q _ _ 0 [(0, .ref (q.ad 102)), (1, .int v1), (2, .int v2)] [] X _
  refine g_iload_n 2 dX12_of_0 rfl rfl ?_
  refine g_bipush dX12_of_1 rfl kbi_9 ?_
  refine g_bipush dX12_of_3 rfl kbi_10 ?_
  refine g_cSIt (As := [.int v2, .int (9 : Int32), .int (10 : Int32)]) (st := []) 3 mF_wg rfl dX12_of_5 rfl vX12_within lkX12_128 (rmL rfl rfl) (mo_within_c q v2 (9 : Int32) (10 : Int32) X) rfl rfl (Nat.le_of_ble_eq_true rfl) ?_
  refine g_if_eq dX12_of_8 rfl rfl ?_ ?_
  · refine g_aload_n 0 dX12_of_46 rfl rfl ?_
    refine g_iload_n 1 dX12_of_47 rfl rfl ?_
    refine g_iload_n 2 dX12_of_48 rfl rfl ?_
    refine g_cVIt (As := [.int v1, .int v2]) (st := []) 2 mF_wg rfl dX12_of_49 rfl kkX12 (by decide) rfl vX12_isOf lkX12_145 (rmL rfl rfl) (mo_isOf_c q v1 v2 X) rfl rfl (Nat.le_of_ble_eq_true rfl) ?_
    refine g_if_eq dX12_of_52 rfl rfl ?_ ?_
    · refine g_ldc rfl dX12_of_64 rfl kcX12_152 ?_
      exact g_iret dX12_of_66 rfl rfl
    refine g_aload_n 0 dX12_of_55 rfl rfl ?_
    refine g_iload_n 1 dX12_of_56 rfl rfl ?_
    refine g_iload_n 2 dX12_of_57 rfl rfl ?_
    refine g_cVIr (As := [.int v1, .int v2]) (st := []) 2 mF_wg rfl dX12_of_58 rfl kkX12 (by decide) rfl vX12_get lkX12_153 (rmL rfl rfl) (mo_get_c q v1 v2 X) rfl rfl (Nat.le_of_ble_eq_true rfl) (fun c1 => ?_)
    refine g_goto dX12_of_61 rfl ?_
    exact g_iret dX12_of_66 rfl rfl
  refine g_aload_n 0 dX12_of_11 rfl rfl ?_
  refine g_iload_n 1 dX12_of_12 rfl rfl ?_
  refine g_cVIt (As := [.int v1]) (st := []) 1 mF_wg rfl dX12_of_13 rfl kkX12 (by decide) rfl vX12_isOne lkX12_132 (rmL rfl rfl) (mo_isOne_c q v1 X) rfl rfl (Nat.le_of_ble_eq_true rfl) ?_
  refine g_if_eq dX12_of_16 rfl rfl ?_ ?_
  · refine g_ldc rfl dX12_of_43 rfl kcX12_152 ?_
    exact g_iret dX12_of_45 rfl rfl
  refine g_iload_n 2 dX12_of_19 rfl rfl ?_
  refine g_bipush dX12_of_20 rfl kbi_9 ?_
  refine g_icmp_ne dX12_of_22 rfl rfl ?_ ?_
  · refine g_aload_n 0 dX12_of_25 rfl rfl ?_
    refine g_getR 102 8 110 rfl dX12_of_26 rfl kkX12 flX12_33 (by decide) rfl rfl (by decide) rfl ?_
    refine g_iload_n 1 dX12_of_29 rfl rfl ?_
    refine g_iald dX12_of_30 rfl (by decide) rfl rfl ?_
    refine g_goto dX12_of_31 rfl ?_
    exact g_iret dX12_of_45 rfl rfl
  refine g_aload_n 0 dX12_of_34 rfl rfl ?_
  refine g_getR 102 9 111 rfl dX12_of_35 rfl kkX12 flX12_36 (by decide) rfl rfl (by decide) rfl ?_
  refine g_iload_n 1 dX12_of_38 rfl rfl ?_
  refine g_iald dX12_of_39 rfl (by decide) rfl rfl ?_
  refine g_goto dX12_of_40 rfl ?_
  exact g_iret dX12_of_45 rfl rfl
def mo_undo (X : St) : Option (Int32 × St) :=
  (if (X.1 102 35) = 0 then
  (some ((-5 : Int32), X))
  else
  (if inB ((4 : Int32) * ((stI X 102 35 ((X.1 102 35) - (1 : Int32))).1 102 35)) 160 then
  (if inB (((4 : Int32) * ((stI X 102 35 ((X.1 102 35) - (1 : Int32))).1 102 35)) + (1 : Int32)) 160 then
  (if inB (((4 : Int32) * ((stI X 102 35 ((X.1 102 35) - (1 : Int32))).1 102 35)) + (2 : Int32)) 160 then
  ((mo_becomes ((stI X 102 35 ((X.1 102 35) - (1 : Int32))).1 127 (nx ((4 : Int32) * ((stI X 102 35 ((X.1 102 35) - (1 : Int32))).1 102 35)))) ((stI X 102 35 ((X.1 102 35) - (1 : Int32))).1 127 (nx (((4 : Int32) * ((stI X 102 35 ((X.1 102 35) - (1 : Int32))).1 102 35)) + (1 : Int32)))) ((stI X 102 35 ((X.1 102 35) - (1 : Int32))).1 127 (nx (((4 : Int32) * ((stI X 102 35 ((X.1 102 35) - (1 : Int32))).1 102 35)) + (2 : Int32)))) (stI X 102 35 ((X.1 102 35) - (1 : Int32)))).bind fun X1 =>
  (some ((X1.1 102 35), X1))) else none) else none) else none))
theorem mo_undo_c (q : Th) (X : St) : Ct q nX12_undo 1 fiw [.ref (q.ad 102)] X (mo_undo X) := by
  refine ct_of (by decide +kernel) (Nat.le_of_ble_eq_true rfl) ?_
  unfold mo_undo
  show G q _ _ 0 [(0, .ref (q.ad 102))] [] X _
  refine g_aload_n 0 dX12_undo_0 rfl rfl ?_
  refine g_getI 102 35 rfl dX12_undo_1 rfl kkX12 flX12_161 (by decide) rfl rfl (by decide) rfl ?_
  refine g_if_ne dX12_undo_4 rfl rfl ?_ ?_
  · refine g_bipush dX12_undo_7 rfl kbi_m5 ?_
    exact g_iret dX12_undo_9 rfl rfl
  refine g_aload_n 0 dX12_undo_10 rfl rfl ?_
  refine g_dup dX12_undo_11 rfl rfl ?_
  refine g_getI 102 35 rfl dX12_undo_12 rfl kkX12 flX12_161 (by decide) rfl rfl (by decide) rfl ?_
  refine g_iconst dX12_undo_15 rfl kic_1 ?_
  refine g_isub dX12_undo_16 rfl ?_
  refine g_putI 102 35 rfl dX12_undo_17 rfl kkX12 flX12_161 (by decide) rfl rfl (by decide) rfl rfl rfl ?_
  refine g_aload_n 0 dX12_undo_20 rfl rfl ?_
  refine g_aload_n 0 dX12_undo_21 rfl rfl ?_
  refine g_getR 102 36 127 rfl dX12_undo_22 rfl kkX12 flX12_84 (by decide) rfl rfl (by decide) rfl ?_
  refine g_iconst dX12_undo_25 rfl kic_4 ?_
  refine g_aload_n 0 dX12_undo_26 rfl rfl ?_
  refine g_getI 102 35 rfl dX12_undo_27 rfl kkX12 flX12_161 (by decide) rfl rfl (by decide) rfl ?_
  refine g_imul dX12_undo_30 rfl ?_
  refine g_iald dX12_undo_31 rfl (by decide) rfl rfl ?_
  refine g_aload_n 0 dX12_undo_32 rfl rfl ?_
  refine g_getR 102 36 127 rfl dX12_undo_33 rfl kkX12 flX12_84 (by decide) rfl rfl (by decide) rfl ?_
  refine g_iconst dX12_undo_36 rfl kic_4 ?_
  refine g_aload_n 0 dX12_undo_37 rfl rfl ?_
  refine g_getI 102 35 rfl dX12_undo_38 rfl kkX12 flX12_161 (by decide) rfl rfl (by decide) rfl ?_
  refine g_imul dX12_undo_41 rfl ?_
  refine g_iconst dX12_undo_42 rfl kic_1 ?_
  refine g_iadd dX12_undo_43 rfl ?_
  refine g_iald dX12_undo_44 rfl (by decide) rfl rfl ?_
  refine g_aload_n 0 dX12_undo_45 rfl rfl ?_
  refine g_getR 102 36 127 rfl dX12_undo_46 rfl kkX12 flX12_84 (by decide) rfl rfl (by decide) rfl ?_
  refine g_iconst dX12_undo_49 rfl kic_4 ?_
  refine g_aload_n 0 dX12_undo_50 rfl rfl ?_
  refine g_getI 102 35 rfl dX12_undo_51 rfl kkX12 flX12_161 (by decide) rfl rfl (by decide) rfl ?_
  refine g_imul dX12_undo_54 rfl ?_
  refine g_iconst dX12_undo_55 rfl kic_2 ?_
  refine g_iadd dX12_undo_56 rfl ?_
  refine g_iald dX12_undo_57 rfl (by decide) rfl rfl ?_
  refine g_cVVw (As := [.int ((stI X 102 35 ((X.1 102 35) - (1 : Int32))).1 127 (nx ((4 : Int32) * ((stI X 102 35 ((X.1 102 35) - (1 : Int32))).1 102 35)))), .int ((stI X 102 35 ((X.1 102 35) - (1 : Int32))).1 127 (nx (((4 : Int32) * ((stI X 102 35 ((X.1 102 35) - (1 : Int32))).1 102 35)) + (1 : Int32)))), .int ((stI X 102 35 ((X.1 102 35) - (1 : Int32))).1 127 (nx (((4 : Int32) * ((stI X 102 35 ((X.1 102 35) - (1 : Int32))).1 102 35)) + (2 : Int32))))]) (st := []) 3 mF_wg rfl dX12_undo_58 rfl kkX12 (by decide) rfl vX12_becomes lkX12_157 (rmL rfl rfl) (mo_becomes_c q ((stI X 102 35 ((X.1 102 35) - (1 : Int32))).1 127 (nx ((4 : Int32) * ((stI X 102 35 ((X.1 102 35) - (1 : Int32))).1 102 35)))) ((stI X 102 35 ((X.1 102 35) - (1 : Int32))).1 127 (nx (((4 : Int32) * ((stI X 102 35 ((X.1 102 35) - (1 : Int32))).1 102 35)) + (1 : Int32)))) ((stI X 102 35 ((X.1 102 35) - (1 : Int32))).1 127 (nx (((4 : Int32) * ((stI X 102 35 ((X.1 102 35) - (1 : Int32))).1 102 35)) + (2 : Int32)))) (stI X 102 35 ((X.1 102 35) - (1 : Int32)))) rfl rfl (Nat.le_of_ble_eq_true rfl) (fun X1 => ?_)
  refine g_aload_n 0 dX12_undo_61 rfl rfl ?_
  refine g_getI 102 35 rfl dX12_undo_62 rfl kkX12 flX12_161 (by decide) rfl rfl (by decide) rfl ?_
  exact g_iret dX12_undo_65 rfl rfl
def mo_redo (X : St) : Option (Int32 × St) :=
  (if (X.1 102 35) = (X.1 102 34) then
  (some ((-5 : Int32), X))
  else
  (if inB ((4 : Int32) * (X.1 102 35)) 160 then
  (if inB (((4 : Int32) * (X.1 102 35)) + (1 : Int32)) 160 then
  (if inB (((4 : Int32) * (X.1 102 35)) + (3 : Int32)) 160 then
  ((mo_becomes (X.1 127 (nx ((4 : Int32) * (X.1 102 35)))) (X.1 127 (nx (((4 : Int32) * (X.1 102 35)) + (1 : Int32)))) (X.1 127 (nx (((4 : Int32) * (X.1 102 35)) + (3 : Int32)))) X).bind fun X1 =>
  (some ((((stI X1 102 35 ((X1.1 102 35) + (1 : Int32))).1 102 34) - ((stI X1 102 35 ((X1.1 102 35) + (1 : Int32))).1 102 35)), (stI X1 102 35 ((X1.1 102 35) + (1 : Int32)))))) else none) else none) else none))
theorem mo_redo_c (q : Th) (X : St) : Ct q nX12_redo 1 fiw [.ref (q.ad 102)] X (mo_redo X) := by
  refine ct_of (by decide +kernel) (Nat.le_of_ble_eq_true rfl) ?_
  unfold mo_redo
  show G q _ _ 0 [(0, .ref (q.ad 102))] [] X _
  refine g_aload_n 0 dX12_redo_0 rfl rfl ?_
  refine g_getI 102 35 rfl dX12_redo_1 rfl kkX12 flX12_161 (by decide) rfl rfl (by decide) rfl ?_
  refine g_aload_n 0 dX12_redo_4 rfl rfl ?_
  refine g_getI 102 34 rfl dX12_redo_5 rfl kkX12 flX12_164 (by decide) rfl rfl (by decide) rfl ?_
  refine g_icmp_ne dX12_redo_8 rfl rfl ?_ ?_
  · refine g_bipush dX12_redo_11 rfl kbi_m5 ?_
    exact g_iret dX12_redo_13 rfl rfl
  refine g_aload_n 0 dX12_redo_14 rfl rfl ?_
  refine g_aload_n 0 dX12_redo_15 rfl rfl ?_
  refine g_getR 102 36 127 rfl dX12_redo_16 rfl kkX12 flX12_84 (by decide) rfl rfl (by decide) rfl ?_
  refine g_iconst dX12_redo_19 rfl kic_4 ?_
  refine g_aload_n 0 dX12_redo_20 rfl rfl ?_
  refine g_getI 102 35 rfl dX12_redo_21 rfl kkX12 flX12_161 (by decide) rfl rfl (by decide) rfl ?_
  refine g_imul dX12_redo_24 rfl ?_
  refine g_iald dX12_redo_25 rfl (by decide) rfl rfl ?_
  refine g_aload_n 0 dX12_redo_26 rfl rfl ?_
  refine g_getR 102 36 127 rfl dX12_redo_27 rfl kkX12 flX12_84 (by decide) rfl rfl (by decide) rfl ?_
  refine g_iconst dX12_redo_30 rfl kic_4 ?_
  refine g_aload_n 0 dX12_redo_31 rfl rfl ?_
  refine g_getI 102 35 rfl dX12_redo_32 rfl kkX12 flX12_161 (by decide) rfl rfl (by decide) rfl ?_
  refine g_imul dX12_redo_35 rfl ?_
  refine g_iconst dX12_redo_36 rfl kic_1 ?_
  refine g_iadd dX12_redo_37 rfl ?_
  refine g_iald dX12_redo_38 rfl (by decide) rfl rfl ?_
  refine g_aload_n 0 dX12_redo_39 rfl rfl ?_
  refine g_getR 102 36 127 rfl dX12_redo_40 rfl kkX12 flX12_84 (by decide) rfl rfl (by decide) rfl ?_
  refine g_iconst dX12_redo_43 rfl kic_4 ?_
  refine g_aload_n 0 dX12_redo_44 rfl rfl ?_
  refine g_getI 102 35 rfl dX12_redo_45 rfl kkX12 flX12_161 (by decide) rfl rfl (by decide) rfl ?_
  refine g_imul dX12_redo_48 rfl ?_
  refine g_iconst dX12_redo_49 rfl kic_3 ?_
  refine g_iadd dX12_redo_50 rfl ?_
  refine g_iald dX12_redo_51 rfl (by decide) rfl rfl ?_
  refine g_cVVw (As := [.int (X.1 127 (nx ((4 : Int32) * (X.1 102 35)))), .int (X.1 127 (nx (((4 : Int32) * (X.1 102 35)) + (1 : Int32)))), .int (X.1 127 (nx (((4 : Int32) * (X.1 102 35)) + (3 : Int32))))]) (st := []) 3 mF_wg rfl dX12_redo_52 rfl kkX12 (by decide) rfl vX12_becomes lkX12_157 (rmL rfl rfl) (mo_becomes_c q (X.1 127 (nx ((4 : Int32) * (X.1 102 35)))) (X.1 127 (nx (((4 : Int32) * (X.1 102 35)) + (1 : Int32)))) (X.1 127 (nx (((4 : Int32) * (X.1 102 35)) + (3 : Int32)))) X) rfl rfl (Nat.le_of_ble_eq_true rfl) (fun X1 => ?_)
  refine g_aload_n 0 dX12_redo_55 rfl rfl ?_
  refine g_dup dX12_redo_56 rfl rfl ?_
  refine g_getI 102 35 rfl dX12_redo_57 rfl kkX12 flX12_161 (by decide) rfl rfl (by decide) rfl ?_
  refine g_iconst dX12_redo_60 rfl kic_1 ?_
  refine g_iadd dX12_redo_61 rfl ?_
  refine g_putI 102 35 rfl dX12_redo_62 rfl kkX12 flX12_161 (by decide) rfl rfl (by decide) rfl rfl rfl ?_
  refine g_aload_n 0 dX12_redo_65 rfl rfl ?_
  refine g_getI 102 34 rfl dX12_redo_66 rfl kkX12 flX12_164 (by decide) rfl rfl (by decide) rfl ?_
  refine g_aload_n 0 dX12_redo_69 rfl rfl ?_
  refine g_getI 102 35 rfl dX12_redo_70 rfl kkX12 flX12_161 (by decide) rfl rfl (by decide) rfl ?_
  refine g_isub dX12_redo_73 rfl ?_
  exact g_iret dX12_redo_74 rfl rfl
def mo_feed (v1 : Int32) (X : St) : Option (Int32 × St) :=
  (if (mo_within v1 (0 : Int32) (255 : Int32)) = 0 then
  (some ((-1 : Int32), X))
  else
  (if (X.1 102 10) = (120 : Int32) then
  (some ((-3 : Int32), X))
  else
  (if inB (X.1 102 10) 120 then
  ((some (stI (stI X 102 10 ((X.1 102 10) + (1 : Int32))) 112 (nx (X.1 102 10)) v1)).bind fun X1 =>
  (some ((X1.1 102 10), X1))) else none)))
theorem mo_feed_c (q : Th) (v1 : Int32) (X : St) : Ct q nX12_feed 1 fiw [.ref (q.ad 102), .int v1] X (mo_feed v1 X) := by
  refine ct_of (by decide +kernel) (Nat.le_of_ble_eq_true rfl) ?_
  unfold mo_feed
  show G q _ _ 0 [(0, .ref (q.ad 102)), (1, .int v1)] [] X _
  refine g_iload_n 1 dX12_feed_0 rfl rfl ?_
  refine g_iconst dX12_feed_1 rfl kic_0 ?_
  refine g_sipush dX12_feed_2 rfl ksi_255 ?_
  refine g_cSIt (As := [.int v1, .int (0 : Int32), .int (255 : Int32)]) (st := []) 3 mF_wg rfl dX12_feed_5 rfl vX12_within lkX12_128 (rmL rfl rfl) (mo_within_c q v1 (0 : Int32) (255 : Int32) X) rfl rfl (Nat.le_of_ble_eq_true rfl) ?_
  refine g_if_ne dX12_feed_8 rfl rfl ?_ ?_
  · refine g_iconst dX12_feed_11 rfl kic_m1 ?_
    exact g_iret dX12_feed_12 rfl rfl
  refine g_aload_n 0 dX12_feed_13 rfl rfl ?_
  refine g_getI 102 10 rfl dX12_feed_14 rfl kkX12 flX12_167 (by decide) rfl rfl (by decide) rfl ?_
  refine g_bipush dX12_feed_17 rfl kbi_120 ?_
  refine g_icmp_ne dX12_feed_19 rfl rfl ?_ ?_
  · refine g_bipush dX12_feed_22 rfl kbi_m3 ?_
    exact g_iret dX12_feed_24 rfl rfl
  refine g_aload_n 0 dX12_feed_25 rfl rfl ?_
  refine g_getR 102 11 112 rfl dX12_feed_26 rfl kkX12 flX12_39 (by decide) rfl rfl (by decide) rfl ?_
  refine g_aload_n 0 dX12_feed_29 rfl rfl ?_
  refine g_dup dX12_feed_30 rfl rfl ?_
  refine g_getI 102 10 rfl dX12_feed_31 rfl kkX12 flX12_167 (by decide) rfl rfl (by decide) rfl ?_
  refine g_dup_x1 dX12_feed_34 rfl rfl rfl ?_
  refine g_iconst dX12_feed_35 rfl kic_1 ?_
  refine g_iadd dX12_feed_36 rfl ?_
  refine g_putI 102 10 rfl dX12_feed_37 rfl kkX12 flX12_167 (by decide) rfl rfl (by decide) rfl rfl rfl ?_
  refine g_iload_n 1 dX12_feed_40 rfl rfl ?_
  refine g_iast dX12_feed_41 rfl (by decide) rfl rfl ?_
  refine g_nmX (fun X1 => ?_)
  refine g_aload_n 0 dX12_feed_42 rfl rfl ?_
  refine g_getI 102 10 rfl dX12_feed_43 rfl kkX12 flX12_167 (by decide) rfl rfl (by decide) rfl ?_
  exact g_iret dX12_feed_46 rfl rfl
def mo_sign (X : St) : Option (Int32) :=
  (if (X.1 102 18) < (X.1 102 10) then
  (if inB (X.1 102 18) 120 then
  (some (X.1 112 (nx (X.1 102 18)))) else none)
  else
  (some (-1 : Int32)))
theorem mo_sign_c (q : Th) (X : St) : Ct q nX12_sign 0 (fir X) [.ref (q.ad 102)] X (mo_sign X) := by
  refine ct_of (by decide +kernel) (Nat.le_of_ble_eq_true rfl) ?_
  unfold mo_sign
  show G q _ _ 0 [(0, .ref (q.ad 102))] [] X _
  refine g_aload_n 0 dX12_sign_0 rfl rfl ?_
  refine g_getI 102 18 rfl dX12_sign_1 rfl kkX12 flX12_170 (by decide) rfl rfl (by decide) rfl ?_
  refine g_aload_n 0 dX12_sign_4 rfl rfl ?_
  refine g_getI 102 10 rfl dX12_sign_5 rfl kkX12 flX12_167 (by decide) rfl rfl (by decide) rfl ?_
  refine g_icmp_ge dX12_sign_8 rfl rfl ?_ ?_
  · refine g_aload_n 0 dX12_sign_11 rfl rfl ?_
    refine g_getR 102 11 112 rfl dX12_sign_12 rfl kkX12 flX12_39 (by decide) rfl rfl (by decide) rfl ?_
    refine g_aload_n 0 dX12_sign_15 rfl rfl ?_
    refine g_getI 102 18 rfl dX12_sign_16 rfl kkX12 flX12_170 (by decide) rfl rfl (by decide) rfl ?_
    refine g_iald dX12_sign_19 rfl (by decide) rfl rfl ?_
    refine g_goto dX12_sign_20 rfl ?_
    exact g_iret dX12_sign_24 rfl rfl
  refine g_iconst dX12_sign_23 rfl kic_m1 ?_
  exact g_iret dX12_sign_24 rfl rfl
def mo_is (v1 : Int32) (X : St) : Option (Int32 × St) :=
  ((mo_sign X).bind fun c1 =>
  (if c1 = v1 then
  (some ((1 : Int32), (stI X 102 18 ((X.1 102 18) + (1 : Int32)))))
  else
  (some ((0 : Int32), X))))
theorem mo_is_c (q : Th) (v1 : Int32) (X : St) : Ct q nX12_is 1 fiw [.ref (q.ad 102), .int v1] X (mo_is v1 X) := by
  refine ct_of (by decide +kernel) (Nat.le_of_ble_eq_true rfl) ?_
  unfold mo_is
  show G q _ _ 0 [(0, .ref (q.ad 102)), (1, .int v1)] [] X _
  refine g_aload_n 0 dX12_is_0 rfl rfl ?_
  refine g_cVIr (As := []) (st := []) 0 mF_wg rfl dX12_is_1 rfl kkX12 (by decide) rfl vX12_sign lkX12_173 (rmL rfl rfl) (mo_sign_c q X) rfl rfl (Nat.le_of_ble_eq_true rfl) (fun c1 => ?_)
  refine g_iload_n 1 dX12_is_4 rfl rfl ?_
  refine g_icmp_eq dX12_is_5 rfl rfl ?_ ?_
  · refine g_aload_n 0 dX12_is_10 rfl rfl ?_
    refine g_dup dX12_is_11 rfl rfl ?_
    refine g_getI 102 18 rfl dX12_is_12 rfl kkX12 flX12_170 (by decide) rfl rfl (by decide) rfl ?_
    refine g_iconst dX12_is_15 rfl kic_1 ?_
    refine g_iadd dX12_is_16 rfl ?_
    refine g_putI 102 18 rfl dX12_is_17 rfl kkX12 flX12_170 (by decide) rfl rfl (by decide) rfl rfl rfl ?_
    refine g_iconst dX12_is_20 rfl kic_1 ?_
    exact g_zret dX12_is_21 rfl rfl rfl
  refine g_iconst dX12_is_8 rfl kic_0 ?_
  exact g_zret dX12_is_9 rfl rfl rfl
def mo_codes (v1 : Int32) (X : St) : Option (Int32 × St) :=
  (if inB (X.1 102 20) 200 then
  ((some (stI (stI X 102 20 ((X.1 102 20) + (1 : Int32))) 120 (nx (X.1 102 20)) v1)).bind fun X1 =>
  (some ((1 : Int32), X1))) else none)
theorem mo_codes_c (q : Th) (v1 : Int32) (X : St) : Ct q nX12_codes 0 fiw [.ref (q.ad 102), .int v1] X (mo_codes v1 X) := by
  refine ct_of (by decide +kernel) (Nat.le_of_ble_eq_true rfl) ?_
  unfold mo_codes
  show G q _ _ 0 [(0, .ref (q.ad 102)), (1, .int v1)] [] X _
  refine g_aload_n 0 dX12_codes_0 rfl rfl ?_
  refine g_getR 102 25 120 rfl dX12_codes_1 rfl kkX12 flX12_63 (by decide) rfl rfl (by decide) rfl ?_
  refine g_aload_n 0 dX12_codes_4 rfl rfl ?_
  refine g_dup dX12_codes_5 rfl rfl ?_
  refine g_getI 102 20 rfl dX12_codes_6 rfl kkX12 flX12_177 (by decide) rfl rfl (by decide) rfl ?_
  refine g_dup_x1 dX12_codes_9 rfl rfl rfl ?_
  refine g_iconst dX12_codes_10 rfl kic_1 ?_
  refine g_iadd dX12_codes_11 rfl ?_
  refine g_putI 102 20 rfl dX12_codes_12 rfl kkX12 flX12_177 (by decide) rfl rfl (by decide) rfl rfl rfl ?_
  refine g_iload_n 1 dX12_codes_15 rfl rfl ?_
  refine g_iast dX12_codes_16 rfl (by decide) rfl rfl ?_
  refine g_nmX (fun X1 => ?_)
  refine g_iconst dX12_codes_17 rfl kic_1 ?_
  exact g_zret dX12_codes_18 rfl rfl rfl
def mo_isDigit (X : St) : Option (Int32) :=
  ((mo_sign X).bind fun c1 =>
  (if c1 < (48 : Int32) then
  (some (0 : Int32))
  else
  ((mo_sign X).bind fun c2 =>
  (if (57 : Int32) < c2 then
  (some (0 : Int32))
  else
  (some (1 : Int32))))))
theorem mo_isDigit_c (q : Th) (X : St) : Ct q nX12_isDigit 1 (fir X) [.ref (q.ad 102)] X (mo_isDigit X) := by
  refine ct_of (by decide +kernel) (Nat.le_of_ble_eq_true rfl) ?_
  unfold mo_isDigit
  show G q _ _ 0 [(0, .ref (q.ad 102))] [] X _
  refine g_aload_n 0 dX12_isDigit_0 rfl rfl ?_
  refine g_cVIr (As := []) (st := []) 0 mF_wg rfl dX12_isDigit_1 rfl kkX12 (by decide) rfl vX12_sign lkX12_173 (rmL rfl rfl) (mo_sign_c q X) rfl rfl (Nat.le_of_ble_eq_true rfl) (fun c1 => ?_)
  refine g_bipush dX12_isDigit_4 rfl kbi_48 ?_
  refine g_icmp_lt dX12_isDigit_6 rfl rfl ?_ ?_
  · refine g_iconst dX12_isDigit_22 rfl kic_0 ?_
    exact g_zret dX12_isDigit_23 rfl rfl rfl
  refine g_aload_n 0 dX12_isDigit_9 rfl rfl ?_
  refine g_cVIr (As := []) (st := []) 0 mF_wg rfl dX12_isDigit_10 rfl kkX12 (by decide) rfl vX12_sign lkX12_173 (rmL rfl rfl) (mo_sign_c q X) rfl rfl (Nat.le_of_ble_eq_true rfl) (fun c2 => ?_)
  refine g_bipush dX12_isDigit_13 rfl kbi_57 ?_
  refine g_icmp_gt dX12_isDigit_15 rfl rfl ?_ ?_
  · refine g_iconst dX12_isDigit_22 rfl kic_0 ?_
    exact g_zret dX12_isDigit_23 rfl rfl rfl
  refine g_iconst dX12_isDigit_18 rfl kic_1 ?_
  refine g_goto dX12_isDigit_19 rfl ?_
  exact g_zret dX12_isDigit_23 rfl rfl rfl
def mo_nameOf (v0 : Int32) : Int32 :=
  (if v0 = (100 : Int32) then
  ((2 : Int32))
  else
  (if v0 = (101 : Int32) then
  ((1 : Int32))
  else
  (if v0 = (102 : Int32) then
  ((-1 : Int32))
  else
  (if v0 = (103 : Int32) then
  ((-1 : Int32))
  else
  (if v0 = (104 : Int32) then
  ((-1 : Int32))
  else
  (if v0 = (105 : Int32) then
  ((-1 : Int32))
  else
  (if v0 = (106 : Int32) then
  ((-1 : Int32))
  else
  (if v0 = (107 : Int32) then
  ((4 : Int32))
  else
  (if v0 = (108 : Int32) then
  ((-1 : Int32))
  else
  (if v0 = (109 : Int32) then
  ((-1 : Int32))
  else
  (if v0 = (110 : Int32) then
  ((-1 : Int32))
  else
  (if v0 = (111 : Int32) then
  ((0 : Int32))
  else
  (if v0 = (112 : Int32) then
  ((-1 : Int32))
  else
  (if v0 = (113 : Int32) then
  ((-1 : Int32))
  else
  (if v0 = (114 : Int32) then
  ((-1 : Int32))
  else
  (if v0 = (115 : Int32) then
  ((5 : Int32))
  else
  (if v0 = (116 : Int32) then
  ((3 : Int32))
  else
  ((-1 : Int32)))))))))))))))))))
def mo_nameOf_o (v0 : Int32) : Option Int32 :=
  (if v0 = (100 : Int32) then
  (some (2 : Int32))
  else
  (if v0 = (101 : Int32) then
  (some (1 : Int32))
  else
  (if v0 = (102 : Int32) then
  (some (-1 : Int32))
  else
  (if v0 = (103 : Int32) then
  (some (-1 : Int32))
  else
  (if v0 = (104 : Int32) then
  (some (-1 : Int32))
  else
  (if v0 = (105 : Int32) then
  (some (-1 : Int32))
  else
  (if v0 = (106 : Int32) then
  (some (-1 : Int32))
  else
  (if v0 = (107 : Int32) then
  (some (4 : Int32))
  else
  (if v0 = (108 : Int32) then
  (some (-1 : Int32))
  else
  (if v0 = (109 : Int32) then
  (some (-1 : Int32))
  else
  (if v0 = (110 : Int32) then
  (some (-1 : Int32))
  else
  (if v0 = (111 : Int32) then
  (some (0 : Int32))
  else
  (if v0 = (112 : Int32) then
  (some (-1 : Int32))
  else
  (if v0 = (113 : Int32) then
  (some (-1 : Int32))
  else
  (if v0 = (114 : Int32) then
  (some (-1 : Int32))
  else
  (if v0 = (115 : Int32) then
  (some (5 : Int32))
  else
  (if v0 = (116 : Int32) then
  (some (3 : Int32))
  else
  (some (-1 : Int32)))))))))))))))))))
theorem mo_nameOf_e (v0 : Int32) : mo_nameOf_o v0 = some (mo_nameOf v0) := by
  unfold mo_nameOf_o mo_nameOf
  simp only [apply_ite some]
theorem mo_nameOf_c (q : Th) (v0 : Int32) (X : St) : Ct q nX12_nameOf 0 (fir X) [.int v0] X (some (mo_nameOf v0)) := by
  refine ct_of (by decide +kernel) (Nat.le_of_ble_eq_true rfl) ?_
  rw [← mo_nameOf_e]
  unfold mo_nameOf_o
  show G q _ _ 0 [(0, .int v0)] [] X _
  refine g_iload_n 0 dX12_nameOf_0 rfl rfl ?_
  refine g_case (z := (100 : Int32)) (fun hc => ?_) (fun hc0 => ?_)
  · refine g_tableIn hc dX12_nameOf_1 (by decide) (by decide) rfl rfl ?_
    refine g_iconst dX12_nameOf_88 rfl kic_2 ?_
    exact g_iret dX12_nameOf_89 rfl rfl
  refine g_case (z := (101 : Int32)) (fun hc => ?_) (fun hc1 => ?_)
  · refine g_tableIn hc dX12_nameOf_1 (by decide) (by decide) rfl rfl ?_
    refine g_iconst dX12_nameOf_86 rfl kic_1 ?_
    exact g_iret dX12_nameOf_87 rfl rfl
  refine g_case (z := (102 : Int32)) (fun hc => ?_) (fun hc2 => ?_)
  · refine g_tableIn hc dX12_nameOf_1 (by decide) (by decide) rfl rfl ?_
    refine g_iconst dX12_nameOf_96 rfl kic_m1 ?_
    exact g_iret dX12_nameOf_97 rfl rfl
  refine g_case (z := (103 : Int32)) (fun hc => ?_) (fun hc3 => ?_)
  · refine g_tableIn hc dX12_nameOf_1 (by decide) (by decide) rfl rfl ?_
    refine g_iconst dX12_nameOf_96 rfl kic_m1 ?_
    exact g_iret dX12_nameOf_97 rfl rfl
  refine g_case (z := (104 : Int32)) (fun hc => ?_) (fun hc4 => ?_)
  · refine g_tableIn hc dX12_nameOf_1 (by decide) (by decide) rfl rfl ?_
    refine g_iconst dX12_nameOf_96 rfl kic_m1 ?_
    exact g_iret dX12_nameOf_97 rfl rfl
  refine g_case (z := (105 : Int32)) (fun hc => ?_) (fun hc5 => ?_)
  · refine g_tableIn hc dX12_nameOf_1 (by decide) (by decide) rfl rfl ?_
    refine g_iconst dX12_nameOf_96 rfl kic_m1 ?_
    exact g_iret dX12_nameOf_97 rfl rfl
  refine g_case (z := (106 : Int32)) (fun hc => ?_) (fun hc6 => ?_)
  · refine g_tableIn hc dX12_nameOf_1 (by decide) (by decide) rfl rfl ?_
    refine g_iconst dX12_nameOf_96 rfl kic_m1 ?_
    exact g_iret dX12_nameOf_97 rfl rfl
  refine g_case (z := (107 : Int32)) (fun hc => ?_) (fun hc7 => ?_)
  · refine g_tableIn hc dX12_nameOf_1 (by decide) (by decide) rfl rfl ?_
    refine g_iconst dX12_nameOf_92 rfl kic_4 ?_
    exact g_iret dX12_nameOf_93 rfl rfl
  refine g_case (z := (108 : Int32)) (fun hc => ?_) (fun hc8 => ?_)
  · refine g_tableIn hc dX12_nameOf_1 (by decide) (by decide) rfl rfl ?_
    refine g_iconst dX12_nameOf_96 rfl kic_m1 ?_
    exact g_iret dX12_nameOf_97 rfl rfl
  refine g_case (z := (109 : Int32)) (fun hc => ?_) (fun hc9 => ?_)
  · refine g_tableIn hc dX12_nameOf_1 (by decide) (by decide) rfl rfl ?_
    refine g_iconst dX12_nameOf_96 rfl kic_m1 ?_
    exact g_iret dX12_nameOf_97 rfl rfl
  refine g_case (z := (110 : Int32)) (fun hc => ?_) (fun hc10 => ?_)
  · refine g_tableIn hc dX12_nameOf_1 (by decide) (by decide) rfl rfl ?_
    refine g_iconst dX12_nameOf_96 rfl kic_m1 ?_
    exact g_iret dX12_nameOf_97 rfl rfl
  refine g_case (z := (111 : Int32)) (fun hc => ?_) (fun hc11 => ?_)
  · refine g_tableIn hc dX12_nameOf_1 (by decide) (by decide) rfl rfl ?_
    refine g_iconst dX12_nameOf_84 rfl kic_0 ?_
    exact g_iret dX12_nameOf_85 rfl rfl
  refine g_case (z := (112 : Int32)) (fun hc => ?_) (fun hc12 => ?_)
  · refine g_tableIn hc dX12_nameOf_1 (by decide) (by decide) rfl rfl ?_
    refine g_iconst dX12_nameOf_96 rfl kic_m1 ?_
    exact g_iret dX12_nameOf_97 rfl rfl
  refine g_case (z := (113 : Int32)) (fun hc => ?_) (fun hc13 => ?_)
  · refine g_tableIn hc dX12_nameOf_1 (by decide) (by decide) rfl rfl ?_
    refine g_iconst dX12_nameOf_96 rfl kic_m1 ?_
    exact g_iret dX12_nameOf_97 rfl rfl
  refine g_case (z := (114 : Int32)) (fun hc => ?_) (fun hc14 => ?_)
  · refine g_tableIn hc dX12_nameOf_1 (by decide) (by decide) rfl rfl ?_
    refine g_iconst dX12_nameOf_96 rfl kic_m1 ?_
    exact g_iret dX12_nameOf_97 rfl rfl
  refine g_case (z := (115 : Int32)) (fun hc => ?_) (fun hc15 => ?_)
  · refine g_tableIn hc dX12_nameOf_1 (by decide) (by decide) rfl rfl ?_
    refine g_iconst dX12_nameOf_94 rfl kic_5 ?_
    exact g_iret dX12_nameOf_95 rfl rfl
  refine g_case (z := (116 : Int32)) (fun hc => ?_) (fun hc16 => ?_)
  · refine g_tableIn hc dX12_nameOf_1 (by decide) (by decide) rfl rfl ?_
    refine g_iconst dX12_nameOf_90 rfl kic_3 ?_
    exact g_iret dX12_nameOf_91 rfl rfl
  refine g_tableOut dX12_nameOf_1 (by have e0 := lv_neT (a := 100) hc0 (by decide); have e1 := lv_neT (a := 101) hc1 (by decide); have e2 := lv_neT (a := 102) hc2 (by decide); have e3 := lv_neT (a := 103) hc3 (by decide); have e4 := lv_neT (a := 104) hc4 (by decide); have e5 := lv_neT (a := 105) hc5 (by decide); have e6 := lv_neT (a := 106) hc6 (by decide); have e7 := lv_neT (a := 107) hc7 (by decide); have e8 := lv_neT (a := 108) hc8 (by decide); have e9 := lv_neT (a := 109) hc9 (by decide); have e10 := lv_neT (a := 110) hc10 (by decide); have e11 := lv_neT (a := 111) hc11 (by decide); have e12 := lv_neT (a := 112) hc12 (by decide); have e13 := lv_neT (a := 113) hc13 (by decide); have e14 := lv_neT (a := 114) hc14 (by decide); have e15 := lv_neT (a := 115) hc15 (by decide); have e16 := lv_neT (a := 116) hc16 (by decide); omega) rfl ?_
  refine g_iconst dX12_nameOf_96 rfl kic_m1 ?_
  exact g_iret dX12_nameOf_97 rfl rfl
def mo_isO_J212 (C : Nat → St → Option (Int32 × St)) (n : Nat) (X : St) : Option (Int32 × St) :=
(some ((0 : Int32), (stI X 102 19 ((X.1 102 19) - (1 : Int32)))))
def mo_isO_J179 (C : Nat → St → Option (Int32 × St)) (n : Nat) (s0 : Int32) (X : St) : Option (Int32 × St) :=
(if isZ s0 then (some (s0, (stI X 102 19 ((X.1 102 19) - (1 : Int32))))) else none)
def mo_isO_J145 (C : Nat → St → Option (Int32 × St)) (n : Nat) (s0 : Int32) (X : St) : Option (Int32 × St) :=
(if isZ s0 then (some (s0, (stI X 102 19 ((X.1 102 19) - (1 : Int32))))) else none)
def mo_isO_L11_B (C : Nat → St → Option (Int32 × St)) (n : Nat) (rec : Int32 → Int32 → St → Option (Int32 × St)) (v1 : Int32) (v2 : Int32) (X : St) : Option (Int32 × St) :=
(if v2 < (4 : Int32) then
((mo_isDigit X).bind fun c23 =>
(if c23 = 0 then
((mo_codes ((18 : Int32) + v1) X).bind fun (c25, X24) =>
(if isZ c25 then (some (c25, X24)) else none))
else
(if inB (X.1 102 18) 120 then
((some ((((10 : Int32) * v1) + (X.1 112 (nx (X.1 102 18)))) - (48 : Int32))).bind fun t26 =>
(rec t26 (v2 + (1 : Int32)) (stI X 102 18 ((X.1 102 18) + (1 : Int32))))) else none)))
else
((mo_codes ((18 : Int32) + v1) X).bind fun (c28, X27) =>
(if isZ c28 then (some (c28, X27)) else none)))
def mo_isO_L11 (C : Nat → St → Option (Int32 × St)) (n : Nat) : Nat → Int32 → Int32 → St → Option (Int32 × St)
  | 0 => fun _ _ _ => none
  | w + 1 => mo_isO_L11_B C n (mo_isO_L11 C n w)
def mo_isO_G (C : Nat → St → Option (Int32 × St)) (n : Nat) (X : St) : Option (Int32 × St) :=
  ((mo_isDigit X).bind fun c1 =>
  (if c1 = 0 then
  ((mo_sign X).bind fun c2 =>
  (if (mo_nameOf c2) < 0 then
  (if (X.1 102 19) = (6 : Int32) then
  (some ((0 : Int32), X))
  else
  ((mo_is (33 : Int32) (stI X 102 19 ((X.1 102 19) + (1 : Int32)))).bind fun (c4, X3) =>
  (if c4 = 0 then
  ((mo_is (45 : Int32) X3).bind fun (c6, X5) =>
  (if c6 = 0 then
  ((mo_is (40 : Int32) X5).bind fun (c8, X7) =>
  (if c8 = 0 then
  (mo_isO_J212 C n X7)
  else
  ((C 5 X7).bind fun (c10, X9) =>
  (if c10 = 0 then
  (mo_isO_J212 C n X9)
  else
  ((mo_is (41 : Int32) X9).bind fun (c12, X11) =>
  (if c12 = 0 then
  (mo_isO_J212 C n X11)
  else
  (some ((1 : Int32), (stI X11 102 19 ((X11.1 102 19) - (1 : Int32)))))))))))
  else
  ((C 0 X5).bind fun (c14, X13) =>
  (if c14 = 0 then
  (mo_isO_J179 C n (0 : Int32) X13)
  else
  ((mo_codes (17 : Int32) X13).bind fun (c16, X15) =>
  (if c16 = 0 then
  (mo_isO_J179 C n (0 : Int32) X15)
  else
  (mo_isO_J179 C n (1 : Int32) X15)))))))
  else
  ((C 0 X3).bind fun (c18, X17) =>
  (if c18 = 0 then
  (mo_isO_J145 C n (0 : Int32) X17)
  else
  ((mo_codes (16 : Int32) X17).bind fun (c20, X19) =>
  (if c20 = 0 then
  (mo_isO_J145 C n (0 : Int32) X19)
  else
  (mo_isO_J145 C n (1 : Int32) X19))))))))
  else
  ((mo_codes (mo_nameOf c2) (stI X 102 18 ((X.1 102 18) + (1 : Int32)))).bind fun (c22, X21) =>
  (if isZ c22 then (some (c22, X21)) else none))))
  else
  (mo_isO_L11 C n n (0 : Int32) (0 : Int32) X)))
theorem mo_isO_J212_g (q : Th) (C : Nat → St → Option (Int32 × St)) (Dg : Nat) (hDg : 2 ≤ Dg) (hC0 : ∀ X, Ct q nX12_isO Dg fiw [.ref (q.ad 102)] X (C 0 X)) (hC1 : ∀ X, Ct q nX12_isP Dg fiw [.ref (q.ad 102)] X (C 1 X)) (hC2 : ∀ X, Ct q nX12_isS Dg fiw [.ref (q.ad 102)] X (C 2 X)) (hC3 : ∀ X, Ct q nX12_isB Dg fiw [.ref (q.ad 102)] X (C 3 X)) (hC4 : ∀ X, Ct q nX12_isA Dg fiw [.ref (q.ad 102)] X (C 4 X)) (hC5 : ∀ X, Ct q nX12_isE Dg fiw [.ref (q.ad 102)] X (C 5 X)) (n : Nat) (X : St) : G q (mF q nX12_isO RX12 (Dg + 1)) fiw 212 [(0, .ref (q.ad 102))] [] X (mo_isO_J212 C n X) := by
  unfold mo_isO_J212
  refine g_iconst dX12_isO_212 rfl kic_0 ?_
  refine g_istore_n (lv' := [(2, .int (0 : Int32)), (0, .ref (q.ad 102))]) dX12_isO_213 rfl rfl (Nat.le_of_ble_eq_true rfl) rfl ?_
  refine g_aload_n 1 dX12_isO_214 rfl rfl ?_
  refine g_dup dX12_isO_215 rfl rfl ?_
  refine g_getI 102 19 rfl dX12_isO_216 rfl kkX12 flX12_191 (by decide) rfl rfl (by decide) rfl ?_
  refine g_iconst dX12_isO_219 rfl kic_1 ?_
  refine g_isub dX12_isO_220 rfl ?_
  refine g_putI 102 19 rfl dX12_isO_221 rfl kkX12 flX12_191 (by decide) rfl rfl (by decide) rfl rfl rfl ?_
  refine g_iload_n 0 dX12_isO_224 rfl rfl ?_
  exact g_zret dX12_isO_225 rfl rfl rfl
theorem mo_isO_J179_g (q : Th) (C : Nat → St → Option (Int32 × St)) (Dg : Nat) (hDg : 2 ≤ Dg) (hC0 : ∀ X, Ct q nX12_isO Dg fiw [.ref (q.ad 102)] X (C 0 X)) (hC1 : ∀ X, Ct q nX12_isP Dg fiw [.ref (q.ad 102)] X (C 1 X)) (hC2 : ∀ X, Ct q nX12_isS Dg fiw [.ref (q.ad 102)] X (C 2 X)) (hC3 : ∀ X, Ct q nX12_isB Dg fiw [.ref (q.ad 102)] X (C 3 X)) (hC4 : ∀ X, Ct q nX12_isA Dg fiw [.ref (q.ad 102)] X (C 4 X)) (hC5 : ∀ X, Ct q nX12_isE Dg fiw [.ref (q.ad 102)] X (C 5 X)) (n : Nat) (s0 : Int32) (X : St) : G q (mF q nX12_isO RX12 (Dg + 1)) fiw 179 [(0, .ref (q.ad 102))] [.int s0] X (mo_isO_J179 C n s0 X) := by
  unfold mo_isO_J179
  refine g_istore_n (lv' := [(2, .int s0), (0, .ref (q.ad 102))]) dX12_isO_179 rfl rfl (Nat.le_of_ble_eq_true rfl) rfl ?_
  refine g_goto dX12_isO_180 rfl ?_
  refine g_aload_n 1 dX12_isO_214 rfl rfl ?_
  refine g_dup dX12_isO_215 rfl rfl ?_
  refine g_getI 102 19 rfl dX12_isO_216 rfl kkX12 flX12_191 (by decide) rfl rfl (by decide) rfl ?_
  refine g_iconst dX12_isO_219 rfl kic_1 ?_
  refine g_isub dX12_isO_220 rfl ?_
  refine g_putI 102 19 rfl dX12_isO_221 rfl kkX12 flX12_191 (by decide) rfl rfl (by decide) rfl rfl rfl ?_
  refine g_iload_n 0 dX12_isO_224 rfl rfl ?_
  exact g_zretD dX12_isO_225 rfl rfl
theorem mo_isO_J145_g (q : Th) (C : Nat → St → Option (Int32 × St)) (Dg : Nat) (hDg : 2 ≤ Dg) (hC0 : ∀ X, Ct q nX12_isO Dg fiw [.ref (q.ad 102)] X (C 0 X)) (hC1 : ∀ X, Ct q nX12_isP Dg fiw [.ref (q.ad 102)] X (C 1 X)) (hC2 : ∀ X, Ct q nX12_isS Dg fiw [.ref (q.ad 102)] X (C 2 X)) (hC3 : ∀ X, Ct q nX12_isB Dg fiw [.ref (q.ad 102)] X (C 3 X)) (hC4 : ∀ X, Ct q nX12_isA Dg fiw [.ref (q.ad 102)] X (C 4 X)) (hC5 : ∀ X, Ct q nX12_isE Dg fiw [.ref (q.ad 102)] X (C 5 X)) (n : Nat) (s0 : Int32) (X : St) : G q (mF q nX12_isO RX12 (Dg + 1)) fiw 145 [(0, .ref (q.ad 102))] [.int s0] X (mo_isO_J145 C n s0 X) := by
  unfold mo_isO_J145
  refine g_istore_n (lv' := [(2, .int s0), (0, .ref (q.ad 102))]) dX12_isO_145 rfl rfl (Nat.le_of_ble_eq_true rfl) rfl ?_
  refine g_goto dX12_isO_146 rfl ?_
  refine g_aload_n 1 dX12_isO_214 rfl rfl ?_
  refine g_dup dX12_isO_215 rfl rfl ?_
  refine g_getI 102 19 rfl dX12_isO_216 rfl kkX12 flX12_191 (by decide) rfl rfl (by decide) rfl ?_
  refine g_iconst dX12_isO_219 rfl kic_1 ?_
  refine g_isub dX12_isO_220 rfl ?_
  refine g_putI 102 19 rfl dX12_isO_221 rfl kkX12 flX12_191 (by decide) rfl rfl (by decide) rfl rfl rfl ?_
  refine g_iload_n 0 dX12_isO_224 rfl rfl ?_
  exact g_zretD dX12_isO_225 rfl rfl
theorem mo_isO_L11_Bg (q : Th) (C : Nat → St → Option (Int32 × St)) (Dg : Nat) (hDg : 2 ≤ Dg) (hC0 : ∀ X, Ct q nX12_isO Dg fiw [.ref (q.ad 102)] X (C 0 X)) (hC1 : ∀ X, Ct q nX12_isP Dg fiw [.ref (q.ad 102)] X (C 1 X)) (hC2 : ∀ X, Ct q nX12_isS Dg fiw [.ref (q.ad 102)] X (C 2 X)) (hC3 : ∀ X, Ct q nX12_isB Dg fiw [.ref (q.ad 102)] X (C 3 X)) (hC4 : ∀ X, Ct q nX12_isA Dg fiw [.ref (q.ad 102)] X (C 4 X)) (hC5 : ∀ X, Ct q nX12_isE Dg fiw [.ref (q.ad 102)] X (C 5 X)) (n : Nat) (rec : Int32 → Int32 → St → Option (Int32 × St)) (hrec : ∀ v1 v2 X, G q (mF q nX12_isO RX12 (Dg + 1)) fiw 11 [(0, .ref (q.ad 102)), (1, .int v1), (2, .int v2)] [] X (rec v1 v2 X)) (v1 : Int32) (v2 : Int32) (X : St) : G q (mF q nX12_isO RX12 (Dg + 1)) fiw 11 [(0, .ref (q.ad 102)), (1, .int v1), (2, .int v2)] [] X (mo_isO_L11_B C n rec v1 v2 X) := by
  unfold mo_isO_L11_B
  refine g_iload_n 2 dX12_isO_11 rfl rfl ?_
  refine g_iconst dX12_isO_12 rfl kic_4 ?_
  refine g_icmp_ge dX12_isO_13 rfl rfl ?_ ?_
  · refine g_aload_n 0 dX12_isO_16 rfl rfl ?_
    refine g_cVIr (As := []) (st := []) 0 mF_wg rfl dX12_isO_17 rfl kkX12 (by decide) rfl vX12_isDigit lkX12_180 (rmB (b := 2) (by decide) (by decide) (by omega)) (mo_isDigit_c q X) rfl rfl (Nat.le_of_ble_eq_true rfl) (fun c23 => ?_)
    refine g_if_eq dX12_isO_20 rfl rfl ?_ ?_
    · refine g_aload_n 0 dX12_isO_57 rfl rfl ?_
      refine g_bipush dX12_isO_58 rfl kbi_18 ?_
      refine g_iload_n 1 dX12_isO_60 rfl rfl ?_
      refine g_iadd dX12_isO_61 rfl ?_
      refine g_cVIw (As := [.int ((18 : Int32) + v1)]) (st := []) 1 mF_wg rfl dX12_isO_62 rfl kkX12 (by decide) rfl vX12_codes lkX12_184 (rmB (b := 2) (by decide) (by decide) (by omega)) (mo_codes_c q ((18 : Int32) + v1) X) rfl rfl (Nat.le_of_ble_eq_true rfl) (fun c25 X24 => ?_)
      exact g_zretD dX12_isO_65 rfl rfl
    refine g_bipush dX12_isO_23 rfl kbi_10 ?_
    refine g_iload_n 1 dX12_isO_25 rfl rfl ?_
    refine g_imul dX12_isO_26 rfl ?_
    refine g_aload_n 0 dX12_isO_27 rfl rfl ?_
    refine g_getR 102 11 112 rfl dX12_isO_28 rfl kkX12 flX12_39 (by decide) rfl rfl (by decide) rfl ?_
    refine g_aload_n 0 dX12_isO_31 rfl rfl ?_
    refine g_getI 102 18 rfl dX12_isO_32 rfl kkX12 flX12_170 (by decide) rfl rfl (by decide) rfl ?_
    refine g_iald dX12_isO_35 rfl (by decide) rfl rfl ?_
    refine g_iadd dX12_isO_36 rfl ?_
    refine g_bipush dX12_isO_37 rfl kbi_48 ?_
    refine g_isub dX12_isO_39 rfl ?_
    refine g_nmI (fun t26 => ?_)
    refine g_istore_n (lv' := [(1, .int t26), (0, .ref (q.ad 102)), (2, .int v2)]) dX12_isO_40 rfl rfl (Nat.le_of_ble_eq_true rfl) rfl ?_
    refine g_aload_n 1 dX12_isO_41 rfl rfl ?_
    refine g_dup dX12_isO_42 rfl rfl ?_
    refine g_getI 102 18 rfl dX12_isO_43 rfl kkX12 flX12_170 (by decide) rfl rfl (by decide) rfl ?_
    refine g_iconst dX12_isO_46 rfl kic_1 ?_
    refine g_iadd dX12_isO_47 rfl ?_
    refine g_putI 102 18 rfl dX12_isO_48 rfl kkX12 flX12_170 (by decide) rfl rfl (by decide) rfl rfl rfl ?_
    refine g_inc (lv' := [(2, .int (v2 + (1 : Int32))), (1, .int t26), (0, .ref (q.ad 102))]) 2 dX12_isO_51 rfl rfl kic_1 (Nat.le_of_ble_eq_true rfl) rfl ?_
    refine g_goto dX12_isO_54 rfl ?_
    refine g_sub [2, 1, 0] rfl ?_
    exact hrec t26 (v2 + (1 : Int32)) (stI X 102 18 ((X.1 102 18) + (1 : Int32)))
  refine g_aload_n 0 dX12_isO_57 rfl rfl ?_
  refine g_bipush dX12_isO_58 rfl kbi_18 ?_
  refine g_iload_n 1 dX12_isO_60 rfl rfl ?_
  refine g_iadd dX12_isO_61 rfl ?_
  refine g_cVIw (As := [.int ((18 : Int32) + v1)]) (st := []) 1 mF_wg rfl dX12_isO_62 rfl kkX12 (by decide) rfl vX12_codes lkX12_184 (rmB (b := 2) (by decide) (by decide) (by omega)) (mo_codes_c q ((18 : Int32) + v1) X) rfl rfl (Nat.le_of_ble_eq_true rfl) (fun c28 X27 => ?_)
  exact g_zretD dX12_isO_65 rfl rfl
theorem mo_isO_L11_g (q : Th) (C : Nat → St → Option (Int32 × St)) (Dg : Nat) (hDg : 2 ≤ Dg) (hC0 : ∀ X, Ct q nX12_isO Dg fiw [.ref (q.ad 102)] X (C 0 X)) (hC1 : ∀ X, Ct q nX12_isP Dg fiw [.ref (q.ad 102)] X (C 1 X)) (hC2 : ∀ X, Ct q nX12_isS Dg fiw [.ref (q.ad 102)] X (C 2 X)) (hC3 : ∀ X, Ct q nX12_isB Dg fiw [.ref (q.ad 102)] X (C 3 X)) (hC4 : ∀ X, Ct q nX12_isA Dg fiw [.ref (q.ad 102)] X (C 4 X)) (hC5 : ∀ X, Ct q nX12_isE Dg fiw [.ref (q.ad 102)] X (C 5 X)) (n : Nat) : ∀ (w : Nat) (v1 : Int32) (v2 : Int32) (X : St), G q (mF q nX12_isO RX12 (Dg + 1)) fiw 11 [(0, .ref (q.ad 102)), (1, .int v1), (2, .int v2)] [] X (mo_isO_L11 C n w v1 v2 X) := by
  intro w
  induction w with
  | zero => intro v1 v2 X; exact g_none
  | succ w ih => intro v1 v2 X; exact mo_isO_L11_Bg q C Dg hDg hC0 hC1 hC2 hC3 hC4 hC5 n _ ih v1 v2 X
theorem mo_isO_gc (q : Th) (C : Nat → St → Option (Int32 × St)) (Dg : Nat) (hDg : 2 ≤ Dg) (hC0 : ∀ X, Ct q nX12_isO Dg fiw [.ref (q.ad 102)] X (C 0 X)) (hC1 : ∀ X, Ct q nX12_isP Dg fiw [.ref (q.ad 102)] X (C 1 X)) (hC2 : ∀ X, Ct q nX12_isS Dg fiw [.ref (q.ad 102)] X (C 2 X)) (hC3 : ∀ X, Ct q nX12_isB Dg fiw [.ref (q.ad 102)] X (C 3 X)) (hC4 : ∀ X, Ct q nX12_isA Dg fiw [.ref (q.ad 102)] X (C 4 X)) (hC5 : ∀ X, Ct q nX12_isE Dg fiw [.ref (q.ad 102)] X (C 5 X)) (n : Nat) (X : St) : Ct q nX12_isO (Dg + 1) fiw [.ref (q.ad 102)] X (mo_isO_G C n X) := by
  refine ct_of (by decide +kernel) (Nat.le_of_ble_eq_true rfl) ?_
  unfold mo_isO_G
  show G q _ _ 0 [(0, .ref (q.ad 102))] [] X _
  refine g_aload_n 0 dX12_isO_0 rfl rfl ?_
  refine g_cVIr (As := []) (st := []) 0 mF_wg rfl dX12_isO_1 rfl kkX12 (by decide) rfl vX12_isDigit lkX12_180 (rmB (b := 2) (by decide) (by decide) (by omega)) (mo_isDigit_c q X) rfl rfl (Nat.le_of_ble_eq_true rfl) (fun c1 => ?_)
  refine g_if_eq dX12_isO_4 rfl rfl ?_ ?_
  · refine g_aload_n 0 dX12_isO_66 rfl rfl ?_
    refine g_cVIr (As := []) (st := []) 0 mF_wg rfl dX12_isO_67 rfl kkX12 (by decide) rfl vX12_sign lkX12_173 (rmB (b := 2) (by decide) (by decide) (by omega)) (mo_sign_c q X) rfl rfl (Nat.le_of_ble_eq_true rfl) (fun c2 => ?_)
    refine g_cSIt (As := [.int c2]) (st := []) 1 mF_wg rfl dX12_isO_70 rfl vX12_nameOf lkX12_187 (rmB (b := 2) (by decide) (by decide) (by omega)) (mo_nameOf_c q c2 X) rfl rfl (Nat.le_of_ble_eq_true rfl) ?_
    refine g_istore_n (lv' := [(1, .int (mo_nameOf c2)), (0, .ref (q.ad 102))]) dX12_isO_73 rfl rfl (Nat.le_of_ble_eq_true rfl) rfl ?_
    refine g_iload_n 0 dX12_isO_74 rfl rfl ?_
    refine g_if_lt dX12_isO_75 rfl rfl ?_ ?_
    · refine g_aload_n 1 dX12_isO_94 rfl rfl ?_
      refine g_getI 102 19 rfl dX12_isO_95 rfl kkX12 flX12_191 (by decide) rfl rfl (by decide) rfl ?_
      refine g_bipush dX12_isO_98 rfl kbi_6 ?_
      refine g_icmp_ne dX12_isO_100 rfl rfl ?_ ?_
      · refine g_iconst dX12_isO_103 rfl kic_0 ?_
        exact g_zret dX12_isO_104 rfl rfl rfl
      refine g_aload_n 1 dX12_isO_105 rfl rfl ?_
      refine g_dup dX12_isO_106 rfl rfl ?_
      refine g_getI 102 19 rfl dX12_isO_107 rfl kkX12 flX12_191 (by decide) rfl rfl (by decide) rfl ?_
      refine g_iconst dX12_isO_110 rfl kic_1 ?_
      refine g_iadd dX12_isO_111 rfl ?_
      refine g_putI 102 19 rfl dX12_isO_112 rfl kkX12 flX12_191 (by decide) rfl rfl (by decide) rfl rfl rfl ?_
      refine g_aload_n 1 dX12_isO_115 rfl rfl ?_
      refine g_bipush dX12_isO_116 rfl kbi_33 ?_
      refine g_cVIw (As := [.int (33 : Int32)]) (st := []) 1 mF_wg rfl dX12_isO_118 rfl kkX12 (by decide) rfl vX12_is lkX12_194 (rmB (b := 2) (by decide) (by decide) (by omega)) (mo_is_c q (33 : Int32) (stI X 102 19 ((X.1 102 19) + (1 : Int32)))) rfl rfl (Nat.le_of_ble_eq_true rfl) (fun c4 X3 => ?_)
      refine g_if_eq dX12_isO_121 rfl rfl ?_ ?_
      · refine g_aload_n 1 dX12_isO_149 rfl rfl ?_
        refine g_bipush dX12_isO_150 rfl kbi_45 ?_
        refine g_cVIw (As := [.int (45 : Int32)]) (st := []) 1 mF_wg rfl dX12_isO_152 rfl kkX12 (by decide) rfl vX12_is lkX12_194 (rmB (b := 2) (by decide) (by decide) (by omega)) (mo_is_c q (45 : Int32) X3) rfl rfl (Nat.le_of_ble_eq_true rfl) (fun c6 X5 => ?_)
        refine g_if_eq dX12_isO_155 rfl rfl ?_ ?_
        · refine g_aload_n 1 dX12_isO_183 rfl rfl ?_
          refine g_bipush dX12_isO_184 rfl kbi_40 ?_
          refine g_cVIw (As := [.int (40 : Int32)]) (st := []) 1 mF_wg rfl dX12_isO_186 rfl kkX12 (by decide) rfl vX12_is lkX12_194 (rmB (b := 2) (by decide) (by decide) (by omega)) (mo_is_c q (40 : Int32) X5) rfl rfl (Nat.le_of_ble_eq_true rfl) (fun c8 X7 => ?_)
          refine g_if_eq dX12_isO_189 rfl rfl ?_ ?_
          · refine g_sub [1] rfl ?_
            exact mo_isO_J212_g q C Dg hDg hC0 hC1 hC2 hC3 hC4 hC5 n X7
          refine g_aload_n 1 dX12_isO_192 rfl rfl ?_
          refine g_cVIw (As := []) (st := []) 0 mF_wg rfl dX12_isO_193 rfl kkX12 (by decide) rfl vX12_isE lkX12_200 (rmS rfl) (hC5 X7) rfl rfl (Nat.le_of_ble_eq_true rfl) (fun c10 X9 => ?_)
          refine g_if_eq dX12_isO_196 rfl rfl ?_ ?_
          · refine g_sub [1] rfl ?_
            exact mo_isO_J212_g q C Dg hDg hC0 hC1 hC2 hC3 hC4 hC5 n X9
          refine g_aload_n 1 dX12_isO_199 rfl rfl ?_
          refine g_bipush dX12_isO_200 rfl kbi_41 ?_
          refine g_cVIw (As := [.int (41 : Int32)]) (st := []) 1 mF_wg rfl dX12_isO_202 rfl kkX12 (by decide) rfl vX12_is lkX12_194 (rmB (b := 2) (by decide) (by decide) (by omega)) (mo_is_c q (41 : Int32) X9) rfl rfl (Nat.le_of_ble_eq_true rfl) (fun c12 X11 => ?_)
          refine g_if_eq dX12_isO_205 rfl rfl ?_ ?_
          · refine g_sub [1] rfl ?_
            exact mo_isO_J212_g q C Dg hDg hC0 hC1 hC2 hC3 hC4 hC5 n X11
          refine g_iconst dX12_isO_208 rfl kic_1 ?_
          refine g_goto dX12_isO_209 rfl ?_
          refine g_istore_n (lv' := [(2, .int (1 : Int32)), (1, .int (mo_nameOf c2)), (0, .ref (q.ad 102))]) dX12_isO_213 rfl rfl (Nat.le_of_ble_eq_true rfl) rfl ?_
          refine g_aload_n 2 dX12_isO_214 rfl rfl ?_
          refine g_dup dX12_isO_215 rfl rfl ?_
          refine g_getI 102 19 rfl dX12_isO_216 rfl kkX12 flX12_191 (by decide) rfl rfl (by decide) rfl ?_
          refine g_iconst dX12_isO_219 rfl kic_1 ?_
          refine g_isub dX12_isO_220 rfl ?_
          refine g_putI 102 19 rfl dX12_isO_221 rfl kkX12 flX12_191 (by decide) rfl rfl (by decide) rfl rfl rfl ?_
          refine g_iload_n 0 dX12_isO_224 rfl rfl ?_
          exact g_zret dX12_isO_225 rfl rfl rfl
        refine g_aload_n 1 dX12_isO_158 rfl rfl ?_
        refine g_cVIw (As := []) (st := []) 0 mF_wg rfl dX12_isO_159 rfl kkX12 (by decide) rfl vX12_isO lkX12_197 (rmS rfl) (hC0 X5) rfl rfl (Nat.le_of_ble_eq_true rfl) (fun c14 X13 => ?_)
        refine g_if_eq dX12_isO_162 rfl rfl ?_ ?_
        · refine g_iconst dX12_isO_178 rfl kic_0 ?_
          refine g_sub [1] rfl ?_
          exact mo_isO_J179_g q C Dg hDg hC0 hC1 hC2 hC3 hC4 hC5 n (0 : Int32) X13
        refine g_aload_n 1 dX12_isO_165 rfl rfl ?_
        refine g_bipush dX12_isO_166 rfl kbi_17 ?_
        refine g_cVIw (As := [.int (17 : Int32)]) (st := []) 1 mF_wg rfl dX12_isO_168 rfl kkX12 (by decide) rfl vX12_codes lkX12_184 (rmB (b := 2) (by decide) (by decide) (by omega)) (mo_codes_c q (17 : Int32) X13) rfl rfl (Nat.le_of_ble_eq_true rfl) (fun c16 X15 => ?_)
        refine g_if_eq dX12_isO_171 rfl rfl ?_ ?_
        · refine g_iconst dX12_isO_178 rfl kic_0 ?_
          refine g_sub [1] rfl ?_
          exact mo_isO_J179_g q C Dg hDg hC0 hC1 hC2 hC3 hC4 hC5 n (0 : Int32) X15
        refine g_iconst dX12_isO_174 rfl kic_1 ?_
        refine g_goto dX12_isO_175 rfl ?_
        refine g_sub [1] rfl ?_
        exact mo_isO_J179_g q C Dg hDg hC0 hC1 hC2 hC3 hC4 hC5 n (1 : Int32) X15
      refine g_aload_n 1 dX12_isO_124 rfl rfl ?_
      refine g_cVIw (As := []) (st := []) 0 mF_wg rfl dX12_isO_125 rfl kkX12 (by decide) rfl vX12_isO lkX12_197 (rmS rfl) (hC0 X3) rfl rfl (Nat.le_of_ble_eq_true rfl) (fun c18 X17 => ?_)
      refine g_if_eq dX12_isO_128 rfl rfl ?_ ?_
      · refine g_iconst dX12_isO_144 rfl kic_0 ?_
        refine g_sub [1] rfl ?_
        exact mo_isO_J145_g q C Dg hDg hC0 hC1 hC2 hC3 hC4 hC5 n (0 : Int32) X17
      refine g_aload_n 1 dX12_isO_131 rfl rfl ?_
      refine g_bipush dX12_isO_132 rfl kbi_16 ?_
      refine g_cVIw (As := [.int (16 : Int32)]) (st := []) 1 mF_wg rfl dX12_isO_134 rfl kkX12 (by decide) rfl vX12_codes lkX12_184 (rmB (b := 2) (by decide) (by decide) (by omega)) (mo_codes_c q (16 : Int32) X17) rfl rfl (Nat.le_of_ble_eq_true rfl) (fun c20 X19 => ?_)
      refine g_if_eq dX12_isO_137 rfl rfl ?_ ?_
      · refine g_iconst dX12_isO_144 rfl kic_0 ?_
        refine g_sub [1] rfl ?_
        exact mo_isO_J145_g q C Dg hDg hC0 hC1 hC2 hC3 hC4 hC5 n (0 : Int32) X19
      refine g_iconst dX12_isO_140 rfl kic_1 ?_
      refine g_goto dX12_isO_141 rfl ?_
      refine g_sub [1] rfl ?_
      exact mo_isO_J145_g q C Dg hDg hC0 hC1 hC2 hC3 hC4 hC5 n (1 : Int32) X19
    refine g_aload_n 1 dX12_isO_78 rfl rfl ?_
    refine g_dup dX12_isO_79 rfl rfl ?_
    refine g_getI 102 18 rfl dX12_isO_80 rfl kkX12 flX12_170 (by decide) rfl rfl (by decide) rfl ?_
    refine g_iconst dX12_isO_83 rfl kic_1 ?_
    refine g_iadd dX12_isO_84 rfl ?_
    refine g_putI 102 18 rfl dX12_isO_85 rfl kkX12 flX12_170 (by decide) rfl rfl (by decide) rfl rfl rfl ?_
    refine g_aload_n 1 dX12_isO_88 rfl rfl ?_
    refine g_iload_n 0 dX12_isO_89 rfl rfl ?_
    refine g_cVIw (As := [.int (mo_nameOf c2)]) (st := []) 1 mF_wg rfl dX12_isO_90 rfl kkX12 (by decide) rfl vX12_codes lkX12_184 (rmB (b := 2) (by decide) (by decide) (by omega)) (mo_codes_c q (mo_nameOf c2) (stI X 102 18 ((X.1 102 18) + (1 : Int32)))) rfl rfl (Nat.le_of_ble_eq_true rfl) (fun c22 X21 => ?_)
    exact g_zretD dX12_isO_93 rfl rfl
  refine g_iconst dX12_isO_7 rfl kic_0 ?_
  refine g_istore_n (lv' := [(1, .int (0 : Int32)), (0, .ref (q.ad 102))]) dX12_isO_8 rfl rfl (Nat.le_of_ble_eq_true rfl) rfl ?_
  refine g_iconst dX12_isO_9 rfl kic_0 ?_
  refine g_istore_n (lv' := [(2, .int (0 : Int32)), (1, .int (0 : Int32)), (0, .ref (q.ad 102))]) dX12_isO_10 rfl rfl (Nat.le_of_ble_eq_true rfl) rfl ?_
  refine g_sub [2, 1, 0] rfl ?_
  refine mo_isO_L11_g q C Dg hDg hC0 hC1 hC2 hC3 hC4 hC5 n n (0 : Int32) (0 : Int32) X
def mo_isP_J52 (C : Nat → St → Option (Int32 × St)) (n : Nat) (k9 : St → Option (Int32 × St)) (s0 : Int32) (X : St) : Option (Int32 × St) :=
(if s0 < 0 then
(some ((1 : Int32), X))
else
((C 0 (stI X 102 18 ((X.1 102 18) + (1 : Int32)))).bind fun (c5, X4) =>
(if c5 = 0 then
(some ((0 : Int32), X4))
else
((mo_codes s0 X4).bind fun (c7, X6) =>
(k9 X6)))))
def mo_isP_L9_B (C : Nat → St → Option (Int32 × St)) (n : Nat) (rec : St → Option (Int32 × St)) (X : St) : Option (Int32 × St) :=
((mo_sign X).bind fun c3 =>
(if c3 = (42 : Int32) then
(mo_isP_J52 C n rec (13 : Int32) X)
else
((mo_sign X).bind fun c8 =>
(if c8 = (47 : Int32) then
(mo_isP_J52 C n rec (14 : Int32) X)
else
((mo_sign X).bind fun c9 =>
(if c9 = (37 : Int32) then
(mo_isP_J52 C n rec (15 : Int32) X)
else
(mo_isP_J52 C n rec (-1 : Int32) X)))))))
def mo_isP_L9 (C : Nat → St → Option (Int32 × St)) (n : Nat) : Nat → St → Option (Int32 × St)
  | 0 => fun  _ => none
  | w + 1 => mo_isP_L9_B C n (mo_isP_L9 C n w)
def mo_isP_G (C : Nat → St → Option (Int32 × St)) (n : Nat) (X : St) : Option (Int32 × St) :=
  ((C 0 X).bind fun (c2, X1) =>
  (if c2 = 0 then
  (some ((0 : Int32), X1))
  else
  (mo_isP_L9 C n n X1)))
theorem mo_isP_J52_g (q : Th) (C : Nat → St → Option (Int32 × St)) (Dg : Nat) (hDg : 2 ≤ Dg) (hC0 : ∀ X, Ct q nX12_isO Dg fiw [.ref (q.ad 102)] X (C 0 X)) (hC1 : ∀ X, Ct q nX12_isP Dg fiw [.ref (q.ad 102)] X (C 1 X)) (hC2 : ∀ X, Ct q nX12_isS Dg fiw [.ref (q.ad 102)] X (C 2 X)) (hC3 : ∀ X, Ct q nX12_isB Dg fiw [.ref (q.ad 102)] X (C 3 X)) (hC4 : ∀ X, Ct q nX12_isA Dg fiw [.ref (q.ad 102)] X (C 4 X)) (hC5 : ∀ X, Ct q nX12_isE Dg fiw [.ref (q.ad 102)] X (C 5 X)) (n : Nat) (k9 : St → Option (Int32 × St)) (hk9 : ∀ X, G q (mF q nX12_isP RX12 (Dg + 1)) fiw 9 [(0, .ref (q.ad 102))] [] X (k9 X)) (s0 : Int32) (X : St) : G q (mF q nX12_isP RX12 (Dg + 1)) fiw 52 [(0, .ref (q.ad 102))] [.int s0] X (mo_isP_J52 C n k9 s0 X) := by
  unfold mo_isP_J52
  refine g_istore_n (lv' := [(1, .int s0), (0, .ref (q.ad 102))]) dX12_isP_52 rfl rfl (Nat.le_of_ble_eq_true rfl) rfl ?_
  refine g_iload_n 0 dX12_isP_53 rfl rfl ?_
  refine g_if_ge dX12_isP_54 rfl rfl ?_ ?_
  · refine g_iconst dX12_isP_57 rfl kic_1 ?_
    exact g_zret dX12_isP_58 rfl rfl rfl
  refine g_aload_n 1 dX12_isP_59 rfl rfl ?_
  refine g_dup dX12_isP_60 rfl rfl ?_
  refine g_getI 102 18 rfl dX12_isP_61 rfl kkX12 flX12_170 (by decide) rfl rfl (by decide) rfl ?_
  refine g_iconst dX12_isP_64 rfl kic_1 ?_
  refine g_iadd dX12_isP_65 rfl ?_
  refine g_putI 102 18 rfl dX12_isP_66 rfl kkX12 flX12_170 (by decide) rfl rfl (by decide) rfl rfl rfl ?_
  refine g_aload_n 1 dX12_isP_69 rfl rfl ?_
  refine g_cVIw (As := []) (st := []) 0 mF_wg rfl dX12_isP_70 rfl kkX12 (by decide) rfl vX12_isO lkX12_197 (rmS rfl) (hC0 (stI X 102 18 ((X.1 102 18) + (1 : Int32)))) rfl rfl (Nat.le_of_ble_eq_true rfl) (fun c5 X4 => ?_)
  refine g_if_ne dX12_isP_73 rfl rfl ?_ ?_
  · refine g_iconst dX12_isP_76 rfl kic_0 ?_
    exact g_zret dX12_isP_77 rfl rfl rfl
  refine g_aload_n 1 dX12_isP_78 rfl rfl ?_
  refine g_iload_n 0 dX12_isP_79 rfl rfl ?_
  refine g_cVIw (As := [.int s0]) (st := []) 1 mF_wg rfl dX12_isP_80 rfl kkX12 (by decide) rfl vX12_codes lkX12_184 (rmB (b := 2) (by decide) (by decide) (by omega)) (mo_codes_c q s0 X4) rfl rfl (Nat.le_of_ble_eq_true rfl) (fun c7 X6 => ?_)
  refine g_pop dX12_isP_83 rfl rfl ?_
  refine g_goto dX12_isP_84 rfl ?_
  refine g_sub [1] rfl ?_
  exact hk9 X6
theorem mo_isP_L9_Bg (q : Th) (C : Nat → St → Option (Int32 × St)) (Dg : Nat) (hDg : 2 ≤ Dg) (hC0 : ∀ X, Ct q nX12_isO Dg fiw [.ref (q.ad 102)] X (C 0 X)) (hC1 : ∀ X, Ct q nX12_isP Dg fiw [.ref (q.ad 102)] X (C 1 X)) (hC2 : ∀ X, Ct q nX12_isS Dg fiw [.ref (q.ad 102)] X (C 2 X)) (hC3 : ∀ X, Ct q nX12_isB Dg fiw [.ref (q.ad 102)] X (C 3 X)) (hC4 : ∀ X, Ct q nX12_isA Dg fiw [.ref (q.ad 102)] X (C 4 X)) (hC5 : ∀ X, Ct q nX12_isE Dg fiw [.ref (q.ad 102)] X (C 5 X)) (n : Nat) (rec : St → Option (Int32 × St)) (hrec : ∀ X, G q (mF q nX12_isP RX12 (Dg + 1)) fiw 9 [(0, .ref (q.ad 102))] [] X (rec X)) (X : St) : G q (mF q nX12_isP RX12 (Dg + 1)) fiw 9 [(0, .ref (q.ad 102))] [] X (mo_isP_L9_B C n rec X) := by
  unfold mo_isP_L9_B
  refine g_aload_n 0 dX12_isP_9 rfl rfl ?_
  refine g_cVIr (As := []) (st := []) 0 mF_wg rfl dX12_isP_10 rfl kkX12 (by decide) rfl vX12_sign lkX12_173 (rmB (b := 2) (by decide) (by decide) (by omega)) (mo_sign_c q X) rfl rfl (Nat.le_of_ble_eq_true rfl) (fun c3 => ?_)
  refine g_bipush dX12_isP_13 rfl kbi_42 ?_
  refine g_icmp_ne dX12_isP_15 rfl rfl ?_ ?_
  · refine g_bipush dX12_isP_18 rfl kbi_13 ?_
    refine g_goto dX12_isP_20 rfl ?_
    refine g_sub [0] rfl ?_
    exact mo_isP_J52_g q C Dg hDg hC0 hC1 hC2 hC3 hC4 hC5 n _ hrec (13 : Int32) X
  refine g_aload_n 0 dX12_isP_23 rfl rfl ?_
  refine g_cVIr (As := []) (st := []) 0 mF_wg rfl dX12_isP_24 rfl kkX12 (by decide) rfl vX12_sign lkX12_173 (rmB (b := 2) (by decide) (by decide) (by omega)) (mo_sign_c q X) rfl rfl (Nat.le_of_ble_eq_true rfl) (fun c8 => ?_)
  refine g_bipush dX12_isP_27 rfl kbi_47 ?_
  refine g_icmp_ne dX12_isP_29 rfl rfl ?_ ?_
  · refine g_bipush dX12_isP_32 rfl kbi_14 ?_
    refine g_goto dX12_isP_34 rfl ?_
    refine g_sub [0] rfl ?_
    exact mo_isP_J52_g q C Dg hDg hC0 hC1 hC2 hC3 hC4 hC5 n _ hrec (14 : Int32) X
  refine g_aload_n 0 dX12_isP_37 rfl rfl ?_
  refine g_cVIr (As := []) (st := []) 0 mF_wg rfl dX12_isP_38 rfl kkX12 (by decide) rfl vX12_sign lkX12_173 (rmB (b := 2) (by decide) (by decide) (by omega)) (mo_sign_c q X) rfl rfl (Nat.le_of_ble_eq_true rfl) (fun c9 => ?_)
  refine g_bipush dX12_isP_41 rfl kbi_37 ?_
  refine g_icmp_ne dX12_isP_43 rfl rfl ?_ ?_
  · refine g_bipush dX12_isP_46 rfl kbi_15 ?_
    refine g_goto dX12_isP_48 rfl ?_
    refine g_sub [0] rfl ?_
    exact mo_isP_J52_g q C Dg hDg hC0 hC1 hC2 hC3 hC4 hC5 n _ hrec (15 : Int32) X
  refine g_iconst dX12_isP_51 rfl kic_m1 ?_
  refine g_sub [0] rfl ?_
  exact mo_isP_J52_g q C Dg hDg hC0 hC1 hC2 hC3 hC4 hC5 n _ hrec (-1 : Int32) X
theorem mo_isP_L9_g (q : Th) (C : Nat → St → Option (Int32 × St)) (Dg : Nat) (hDg : 2 ≤ Dg) (hC0 : ∀ X, Ct q nX12_isO Dg fiw [.ref (q.ad 102)] X (C 0 X)) (hC1 : ∀ X, Ct q nX12_isP Dg fiw [.ref (q.ad 102)] X (C 1 X)) (hC2 : ∀ X, Ct q nX12_isS Dg fiw [.ref (q.ad 102)] X (C 2 X)) (hC3 : ∀ X, Ct q nX12_isB Dg fiw [.ref (q.ad 102)] X (C 3 X)) (hC4 : ∀ X, Ct q nX12_isA Dg fiw [.ref (q.ad 102)] X (C 4 X)) (hC5 : ∀ X, Ct q nX12_isE Dg fiw [.ref (q.ad 102)] X (C 5 X)) (n : Nat) : ∀ (w : Nat) (X : St), G q (mF q nX12_isP RX12 (Dg + 1)) fiw 9 [(0, .ref (q.ad 102))] [] X (mo_isP_L9 C n w X) := by
  intro w
  induction w with
  | zero => intro X; exact g_none
  | succ w ih => intro X; exact mo_isP_L9_Bg q C Dg hDg hC0 hC1 hC2 hC3 hC4 hC5 n _ ih X
theorem mo_isP_gc (q : Th) (C : Nat → St → Option (Int32 × St)) (Dg : Nat) (hDg : 2 ≤ Dg) (hC0 : ∀ X, Ct q nX12_isO Dg fiw [.ref (q.ad 102)] X (C 0 X)) (hC1 : ∀ X, Ct q nX12_isP Dg fiw [.ref (q.ad 102)] X (C 1 X)) (hC2 : ∀ X, Ct q nX12_isS Dg fiw [.ref (q.ad 102)] X (C 2 X)) (hC3 : ∀ X, Ct q nX12_isB Dg fiw [.ref (q.ad 102)] X (C 3 X)) (hC4 : ∀ X, Ct q nX12_isA Dg fiw [.ref (q.ad 102)] X (C 4 X)) (hC5 : ∀ X, Ct q nX12_isE Dg fiw [.ref (q.ad 102)] X (C 5 X)) (n : Nat) (X : St) : Ct q nX12_isP (Dg + 1) fiw [.ref (q.ad 102)] X (mo_isP_G C n X) := by
  refine ct_of (by decide +kernel) (Nat.le_of_ble_eq_true rfl) ?_
  unfold mo_isP_G
  show G q _ _ 0 [(0, .ref (q.ad 102))] [] X _
  refine g_aload_n 0 dX12_isP_0 rfl rfl ?_
  refine g_cVIw (As := []) (st := []) 0 mF_wg rfl dX12_isP_1 rfl kkX12 (by decide) rfl vX12_isO lkX12_197 (rmS rfl) (hC0 X) rfl rfl (Nat.le_of_ble_eq_true rfl) (fun c2 X1 => ?_)
  refine g_if_ne dX12_isP_4 rfl rfl ?_ ?_
  · refine g_iconst dX12_isP_7 rfl kic_0 ?_
    exact g_zret dX12_isP_8 rfl rfl rfl
  refine g_sub [0] rfl ?_
  refine mo_isP_L9_g q C Dg hDg hC0 hC1 hC2 hC3 hC4 hC5 n n X1
def mo_isS_J38 (C : Nat → St → Option (Int32 × St)) (n : Nat) (k9 : St → Option (Int32 × St)) (s0 : Int32) (X : St) : Option (Int32 × St) :=
(if s0 < 0 then
(some ((1 : Int32), X))
else
((C 1 (stI X 102 18 ((X.1 102 18) + (1 : Int32)))).bind fun (c5, X4) =>
(if c5 = 0 then
(some ((0 : Int32), X4))
else
((mo_codes s0 X4).bind fun (c7, X6) =>
(k9 X6)))))
def mo_isS_L9_B (C : Nat → St → Option (Int32 × St)) (n : Nat) (rec : St → Option (Int32 × St)) (X : St) : Option (Int32 × St) :=
((mo_sign X).bind fun c3 =>
(if c3 = (43 : Int32) then
(mo_isS_J38 C n rec (11 : Int32) X)
else
((mo_sign X).bind fun c8 =>
(if c8 = (45 : Int32) then
(mo_isS_J38 C n rec (12 : Int32) X)
else
(mo_isS_J38 C n rec (-1 : Int32) X)))))
def mo_isS_L9 (C : Nat → St → Option (Int32 × St)) (n : Nat) : Nat → St → Option (Int32 × St)
  | 0 => fun  _ => none
  | w + 1 => mo_isS_L9_B C n (mo_isS_L9 C n w)
def mo_isS_G (C : Nat → St → Option (Int32 × St)) (n : Nat) (X : St) : Option (Int32 × St) :=
  ((C 1 X).bind fun (c2, X1) =>
  (if c2 = 0 then
  (some ((0 : Int32), X1))
  else
  (mo_isS_L9 C n n X1)))
theorem mo_isS_J38_g (q : Th) (C : Nat → St → Option (Int32 × St)) (Dg : Nat) (hDg : 2 ≤ Dg) (hC0 : ∀ X, Ct q nX12_isO Dg fiw [.ref (q.ad 102)] X (C 0 X)) (hC1 : ∀ X, Ct q nX12_isP Dg fiw [.ref (q.ad 102)] X (C 1 X)) (hC2 : ∀ X, Ct q nX12_isS Dg fiw [.ref (q.ad 102)] X (C 2 X)) (hC3 : ∀ X, Ct q nX12_isB Dg fiw [.ref (q.ad 102)] X (C 3 X)) (hC4 : ∀ X, Ct q nX12_isA Dg fiw [.ref (q.ad 102)] X (C 4 X)) (hC5 : ∀ X, Ct q nX12_isE Dg fiw [.ref (q.ad 102)] X (C 5 X)) (n : Nat) (k9 : St → Option (Int32 × St)) (hk9 : ∀ X, G q (mF q nX12_isS RX12 (Dg + 1)) fiw 9 [(0, .ref (q.ad 102))] [] X (k9 X)) (s0 : Int32) (X : St) : G q (mF q nX12_isS RX12 (Dg + 1)) fiw 38 [(0, .ref (q.ad 102))] [.int s0] X (mo_isS_J38 C n k9 s0 X) := by
  unfold mo_isS_J38
  refine g_istore_n (lv' := [(1, .int s0), (0, .ref (q.ad 102))]) dX12_isS_38 rfl rfl (Nat.le_of_ble_eq_true rfl) rfl ?_
  refine g_iload_n 0 dX12_isS_39 rfl rfl ?_
  refine g_if_ge dX12_isS_40 rfl rfl ?_ ?_
  · refine g_iconst dX12_isS_43 rfl kic_1 ?_
    exact g_zret dX12_isS_44 rfl rfl rfl
  refine g_aload_n 1 dX12_isS_45 rfl rfl ?_
  refine g_dup dX12_isS_46 rfl rfl ?_
  refine g_getI 102 18 rfl dX12_isS_47 rfl kkX12 flX12_170 (by decide) rfl rfl (by decide) rfl ?_
  refine g_iconst dX12_isS_50 rfl kic_1 ?_
  refine g_iadd dX12_isS_51 rfl ?_
  refine g_putI 102 18 rfl dX12_isS_52 rfl kkX12 flX12_170 (by decide) rfl rfl (by decide) rfl rfl rfl ?_
  refine g_aload_n 1 dX12_isS_55 rfl rfl ?_
  refine g_cVIw (As := []) (st := []) 0 mF_wg rfl dX12_isS_56 rfl kkX12 (by decide) rfl vX12_isP lkX12_203 (rmS rfl) (hC1 (stI X 102 18 ((X.1 102 18) + (1 : Int32)))) rfl rfl (Nat.le_of_ble_eq_true rfl) (fun c5 X4 => ?_)
  refine g_if_ne dX12_isS_59 rfl rfl ?_ ?_
  · refine g_iconst dX12_isS_62 rfl kic_0 ?_
    exact g_zret dX12_isS_63 rfl rfl rfl
  refine g_aload_n 1 dX12_isS_64 rfl rfl ?_
  refine g_iload_n 0 dX12_isS_65 rfl rfl ?_
  refine g_cVIw (As := [.int s0]) (st := []) 1 mF_wg rfl dX12_isS_66 rfl kkX12 (by decide) rfl vX12_codes lkX12_184 (rmB (b := 2) (by decide) (by decide) (by omega)) (mo_codes_c q s0 X4) rfl rfl (Nat.le_of_ble_eq_true rfl) (fun c7 X6 => ?_)
  refine g_pop dX12_isS_69 rfl rfl ?_
  refine g_goto dX12_isS_70 rfl ?_
  refine g_sub [1] rfl ?_
  exact hk9 X6
theorem mo_isS_L9_Bg (q : Th) (C : Nat → St → Option (Int32 × St)) (Dg : Nat) (hDg : 2 ≤ Dg) (hC0 : ∀ X, Ct q nX12_isO Dg fiw [.ref (q.ad 102)] X (C 0 X)) (hC1 : ∀ X, Ct q nX12_isP Dg fiw [.ref (q.ad 102)] X (C 1 X)) (hC2 : ∀ X, Ct q nX12_isS Dg fiw [.ref (q.ad 102)] X (C 2 X)) (hC3 : ∀ X, Ct q nX12_isB Dg fiw [.ref (q.ad 102)] X (C 3 X)) (hC4 : ∀ X, Ct q nX12_isA Dg fiw [.ref (q.ad 102)] X (C 4 X)) (hC5 : ∀ X, Ct q nX12_isE Dg fiw [.ref (q.ad 102)] X (C 5 X)) (n : Nat) (rec : St → Option (Int32 × St)) (hrec : ∀ X, G q (mF q nX12_isS RX12 (Dg + 1)) fiw 9 [(0, .ref (q.ad 102))] [] X (rec X)) (X : St) : G q (mF q nX12_isS RX12 (Dg + 1)) fiw 9 [(0, .ref (q.ad 102))] [] X (mo_isS_L9_B C n rec X) := by
  unfold mo_isS_L9_B
  refine g_aload_n 0 dX12_isS_9 rfl rfl ?_
  refine g_cVIr (As := []) (st := []) 0 mF_wg rfl dX12_isS_10 rfl kkX12 (by decide) rfl vX12_sign lkX12_173 (rmB (b := 2) (by decide) (by decide) (by omega)) (mo_sign_c q X) rfl rfl (Nat.le_of_ble_eq_true rfl) (fun c3 => ?_)
  refine g_bipush dX12_isS_13 rfl kbi_43 ?_
  refine g_icmp_ne dX12_isS_15 rfl rfl ?_ ?_
  · refine g_bipush dX12_isS_18 rfl kbi_11 ?_
    refine g_goto dX12_isS_20 rfl ?_
    refine g_sub [0] rfl ?_
    exact mo_isS_J38_g q C Dg hDg hC0 hC1 hC2 hC3 hC4 hC5 n _ hrec (11 : Int32) X
  refine g_aload_n 0 dX12_isS_23 rfl rfl ?_
  refine g_cVIr (As := []) (st := []) 0 mF_wg rfl dX12_isS_24 rfl kkX12 (by decide) rfl vX12_sign lkX12_173 (rmB (b := 2) (by decide) (by decide) (by omega)) (mo_sign_c q X) rfl rfl (Nat.le_of_ble_eq_true rfl) (fun c8 => ?_)
  refine g_bipush dX12_isS_27 rfl kbi_45 ?_
  refine g_icmp_ne dX12_isS_29 rfl rfl ?_ ?_
  · refine g_bipush dX12_isS_32 rfl kbi_12 ?_
    refine g_goto dX12_isS_34 rfl ?_
    refine g_sub [0] rfl ?_
    exact mo_isS_J38_g q C Dg hDg hC0 hC1 hC2 hC3 hC4 hC5 n _ hrec (12 : Int32) X
  refine g_iconst dX12_isS_37 rfl kic_m1 ?_
  refine g_sub [0] rfl ?_
  exact mo_isS_J38_g q C Dg hDg hC0 hC1 hC2 hC3 hC4 hC5 n _ hrec (-1 : Int32) X
theorem mo_isS_L9_g (q : Th) (C : Nat → St → Option (Int32 × St)) (Dg : Nat) (hDg : 2 ≤ Dg) (hC0 : ∀ X, Ct q nX12_isO Dg fiw [.ref (q.ad 102)] X (C 0 X)) (hC1 : ∀ X, Ct q nX12_isP Dg fiw [.ref (q.ad 102)] X (C 1 X)) (hC2 : ∀ X, Ct q nX12_isS Dg fiw [.ref (q.ad 102)] X (C 2 X)) (hC3 : ∀ X, Ct q nX12_isB Dg fiw [.ref (q.ad 102)] X (C 3 X)) (hC4 : ∀ X, Ct q nX12_isA Dg fiw [.ref (q.ad 102)] X (C 4 X)) (hC5 : ∀ X, Ct q nX12_isE Dg fiw [.ref (q.ad 102)] X (C 5 X)) (n : Nat) : ∀ (w : Nat) (X : St), G q (mF q nX12_isS RX12 (Dg + 1)) fiw 9 [(0, .ref (q.ad 102))] [] X (mo_isS_L9 C n w X) := by
  intro w
  induction w with
  | zero => intro X; exact g_none
  | succ w ih => intro X; exact mo_isS_L9_Bg q C Dg hDg hC0 hC1 hC2 hC3 hC4 hC5 n _ ih X
theorem mo_isS_gc (q : Th) (C : Nat → St → Option (Int32 × St)) (Dg : Nat) (hDg : 2 ≤ Dg) (hC0 : ∀ X, Ct q nX12_isO Dg fiw [.ref (q.ad 102)] X (C 0 X)) (hC1 : ∀ X, Ct q nX12_isP Dg fiw [.ref (q.ad 102)] X (C 1 X)) (hC2 : ∀ X, Ct q nX12_isS Dg fiw [.ref (q.ad 102)] X (C 2 X)) (hC3 : ∀ X, Ct q nX12_isB Dg fiw [.ref (q.ad 102)] X (C 3 X)) (hC4 : ∀ X, Ct q nX12_isA Dg fiw [.ref (q.ad 102)] X (C 4 X)) (hC5 : ∀ X, Ct q nX12_isE Dg fiw [.ref (q.ad 102)] X (C 5 X)) (n : Nat) (X : St) : Ct q nX12_isS (Dg + 1) fiw [.ref (q.ad 102)] X (mo_isS_G C n X) := by
  refine ct_of (by decide +kernel) (Nat.le_of_ble_eq_true rfl) ?_
  unfold mo_isS_G
  show G q _ _ 0 [(0, .ref (q.ad 102))] [] X _
  refine g_aload_n 0 dX12_isS_0 rfl rfl ?_
  refine g_cVIw (As := []) (st := []) 0 mF_wg rfl dX12_isS_1 rfl kkX12 (by decide) rfl vX12_isP lkX12_203 (rmS rfl) (hC1 X) rfl rfl (Nat.le_of_ble_eq_true rfl) (fun c2 X1 => ?_)
  refine g_if_ne dX12_isS_4 rfl rfl ?_ ?_
  · refine g_iconst dX12_isS_7 rfl kic_0 ?_
    exact g_zret dX12_isS_8 rfl rfl rfl
  refine g_sub [0] rfl ?_
  refine mo_isS_L9_g q C Dg hDg hC0 hC1 hC2 hC3 hC4 hC5 n n X1
def mo_isB_J52 (C : Nat → St → Option (Int32 × St)) (n : Nat) (s0 : Int32) (X : St) : Option (Int32 × St) :=
(if s0 < 0 then
(some ((1 : Int32), X))
else
((C 2 (stI X 102 18 ((X.1 102 18) + (1 : Int32)))).bind fun (c5, X4) =>
(if c5 = 0 then
(some ((0 : Int32), X4))
else
((mo_codes s0 X4).bind fun (c7, X6) =>
(if c7 = 0 then
(some ((0 : Int32), X6))
else
(some ((1 : Int32), X6)))))))
def mo_isB_G (C : Nat → St → Option (Int32 × St)) (n : Nat) (X : St) : Option (Int32 × St) :=
  ((C 2 X).bind fun (c2, X1) =>
  (if c2 = 0 then
  (some ((0 : Int32), X1))
  else
  ((mo_sign X1).bind fun c3 =>
  (if c3 = (60 : Int32) then
  (mo_isB_J52 C n (8 : Int32) X1)
  else
  ((mo_sign X1).bind fun c8 =>
  (if c8 = (61 : Int32) then
  (mo_isB_J52 C n (9 : Int32) X1)
  else
  ((mo_sign X1).bind fun c9 =>
  (if c9 = (62 : Int32) then
  (mo_isB_J52 C n (10 : Int32) X1)
  else
  (mo_isB_J52 C n (-1 : Int32) X1)))))))))
theorem mo_isB_J52_g (q : Th) (C : Nat → St → Option (Int32 × St)) (Dg : Nat) (hDg : 2 ≤ Dg) (hC0 : ∀ X, Ct q nX12_isO Dg fiw [.ref (q.ad 102)] X (C 0 X)) (hC1 : ∀ X, Ct q nX12_isP Dg fiw [.ref (q.ad 102)] X (C 1 X)) (hC2 : ∀ X, Ct q nX12_isS Dg fiw [.ref (q.ad 102)] X (C 2 X)) (hC3 : ∀ X, Ct q nX12_isB Dg fiw [.ref (q.ad 102)] X (C 3 X)) (hC4 : ∀ X, Ct q nX12_isA Dg fiw [.ref (q.ad 102)] X (C 4 X)) (hC5 : ∀ X, Ct q nX12_isE Dg fiw [.ref (q.ad 102)] X (C 5 X)) (n : Nat) (s0 : Int32) (X : St) : G q (mF q nX12_isB RX12 (Dg + 1)) fiw 52 [(0, .ref (q.ad 102))] [.int s0] X (mo_isB_J52 C n s0 X) := by
  unfold mo_isB_J52
  refine g_istore_n (lv' := [(1, .int s0), (0, .ref (q.ad 102))]) dX12_isB_52 rfl rfl (Nat.le_of_ble_eq_true rfl) rfl ?_
  refine g_iload_n 0 dX12_isB_53 rfl rfl ?_
  refine g_if_ge dX12_isB_54 rfl rfl ?_ ?_
  · refine g_iconst dX12_isB_57 rfl kic_1 ?_
    exact g_zret dX12_isB_58 rfl rfl rfl
  refine g_aload_n 1 dX12_isB_59 rfl rfl ?_
  refine g_dup dX12_isB_60 rfl rfl ?_
  refine g_getI 102 18 rfl dX12_isB_61 rfl kkX12 flX12_170 (by decide) rfl rfl (by decide) rfl ?_
  refine g_iconst dX12_isB_64 rfl kic_1 ?_
  refine g_iadd dX12_isB_65 rfl ?_
  refine g_putI 102 18 rfl dX12_isB_66 rfl kkX12 flX12_170 (by decide) rfl rfl (by decide) rfl rfl rfl ?_
  refine g_aload_n 1 dX12_isB_69 rfl rfl ?_
  refine g_cVIw (As := []) (st := []) 0 mF_wg rfl dX12_isB_70 rfl kkX12 (by decide) rfl vX12_isS lkX12_206 (rmS rfl) (hC2 (stI X 102 18 ((X.1 102 18) + (1 : Int32)))) rfl rfl (Nat.le_of_ble_eq_true rfl) (fun c5 X4 => ?_)
  refine g_if_eq dX12_isB_73 rfl rfl ?_ ?_
  · refine g_iconst dX12_isB_88 rfl kic_0 ?_
    exact g_zret dX12_isB_89 rfl rfl rfl
  refine g_aload_n 1 dX12_isB_76 rfl rfl ?_
  refine g_iload_n 0 dX12_isB_77 rfl rfl ?_
  refine g_cVIw (As := [.int s0]) (st := []) 1 mF_wg rfl dX12_isB_78 rfl kkX12 (by decide) rfl vX12_codes lkX12_184 (rmB (b := 2) (by decide) (by decide) (by omega)) (mo_codes_c q s0 X4) rfl rfl (Nat.le_of_ble_eq_true rfl) (fun c7 X6 => ?_)
  refine g_if_eq dX12_isB_81 rfl rfl ?_ ?_
  · refine g_iconst dX12_isB_88 rfl kic_0 ?_
    exact g_zret dX12_isB_89 rfl rfl rfl
  refine g_iconst dX12_isB_84 rfl kic_1 ?_
  refine g_goto dX12_isB_85 rfl ?_
  exact g_zret dX12_isB_89 rfl rfl rfl
theorem mo_isB_gc (q : Th) (C : Nat → St → Option (Int32 × St)) (Dg : Nat) (hDg : 2 ≤ Dg) (hC0 : ∀ X, Ct q nX12_isO Dg fiw [.ref (q.ad 102)] X (C 0 X)) (hC1 : ∀ X, Ct q nX12_isP Dg fiw [.ref (q.ad 102)] X (C 1 X)) (hC2 : ∀ X, Ct q nX12_isS Dg fiw [.ref (q.ad 102)] X (C 2 X)) (hC3 : ∀ X, Ct q nX12_isB Dg fiw [.ref (q.ad 102)] X (C 3 X)) (hC4 : ∀ X, Ct q nX12_isA Dg fiw [.ref (q.ad 102)] X (C 4 X)) (hC5 : ∀ X, Ct q nX12_isE Dg fiw [.ref (q.ad 102)] X (C 5 X)) (n : Nat) (X : St) : Ct q nX12_isB (Dg + 1) fiw [.ref (q.ad 102)] X (mo_isB_G C n X) := by
  refine ct_of (by decide +kernel) (Nat.le_of_ble_eq_true rfl) ?_
  unfold mo_isB_G
  show G q _ _ 0 [(0, .ref (q.ad 102))] [] X _
  refine g_aload_n 0 dX12_isB_0 rfl rfl ?_
  refine g_cVIw (As := []) (st := []) 0 mF_wg rfl dX12_isB_1 rfl kkX12 (by decide) rfl vX12_isS lkX12_206 (rmS rfl) (hC2 X) rfl rfl (Nat.le_of_ble_eq_true rfl) (fun c2 X1 => ?_)
  refine g_if_ne dX12_isB_4 rfl rfl ?_ ?_
  · refine g_iconst dX12_isB_7 rfl kic_0 ?_
    exact g_zret dX12_isB_8 rfl rfl rfl
  refine g_aload_n 0 dX12_isB_9 rfl rfl ?_
  refine g_cVIr (As := []) (st := []) 0 mF_wg rfl dX12_isB_10 rfl kkX12 (by decide) rfl vX12_sign lkX12_173 (rmB (b := 2) (by decide) (by decide) (by omega)) (mo_sign_c q X1) rfl rfl (Nat.le_of_ble_eq_true rfl) (fun c3 => ?_)
  refine g_bipush dX12_isB_13 rfl kbi_60 ?_
  refine g_icmp_ne dX12_isB_15 rfl rfl ?_ ?_
  · refine g_bipush dX12_isB_18 rfl kbi_8 ?_
    refine g_goto dX12_isB_20 rfl ?_
    refine g_sub [0] rfl ?_
    exact mo_isB_J52_g q C Dg hDg hC0 hC1 hC2 hC3 hC4 hC5 n (8 : Int32) X1
  refine g_aload_n 0 dX12_isB_23 rfl rfl ?_
  refine g_cVIr (As := []) (st := []) 0 mF_wg rfl dX12_isB_24 rfl kkX12 (by decide) rfl vX12_sign lkX12_173 (rmB (b := 2) (by decide) (by decide) (by omega)) (mo_sign_c q X1) rfl rfl (Nat.le_of_ble_eq_true rfl) (fun c8 => ?_)
  refine g_bipush dX12_isB_27 rfl kbi_61 ?_
  refine g_icmp_ne dX12_isB_29 rfl rfl ?_ ?_
  · refine g_bipush dX12_isB_32 rfl kbi_9 ?_
    refine g_goto dX12_isB_34 rfl ?_
    refine g_sub [0] rfl ?_
    exact mo_isB_J52_g q C Dg hDg hC0 hC1 hC2 hC3 hC4 hC5 n (9 : Int32) X1
  refine g_aload_n 0 dX12_isB_37 rfl rfl ?_
  refine g_cVIr (As := []) (st := []) 0 mF_wg rfl dX12_isB_38 rfl kkX12 (by decide) rfl vX12_sign lkX12_173 (rmB (b := 2) (by decide) (by decide) (by omega)) (mo_sign_c q X1) rfl rfl (Nat.le_of_ble_eq_true rfl) (fun c9 => ?_)
  refine g_bipush dX12_isB_41 rfl kbi_62 ?_
  refine g_icmp_ne dX12_isB_43 rfl rfl ?_ ?_
  · refine g_bipush dX12_isB_46 rfl kbi_10 ?_
    refine g_goto dX12_isB_48 rfl ?_
    refine g_sub [0] rfl ?_
    exact mo_isB_J52_g q C Dg hDg hC0 hC1 hC2 hC3 hC4 hC5 n (10 : Int32) X1
  refine g_iconst dX12_isB_51 rfl kic_m1 ?_
  refine g_sub [0] rfl ?_
  exact mo_isB_J52_g q C Dg hDg hC0 hC1 hC2 hC3 hC4 hC5 n (-1 : Int32) X1
def mo_isA_L9_B (C : Nat → St → Option (Int32 × St)) (n : Nat) (rec : St → Option (Int32 × St)) (X : St) : Option (Int32 × St) :=
((mo_is (38 : Int32) X).bind fun (c4, X3) =>
(if c4 = 0 then
(some ((1 : Int32), X3))
else
((C 3 X3).bind fun (c6, X5) =>
(if c6 = 0 then
(some ((0 : Int32), X5))
else
((mo_codes (7 : Int32) X5).bind fun (c8, X7) =>
(rec X7))))))
def mo_isA_L9 (C : Nat → St → Option (Int32 × St)) (n : Nat) : Nat → St → Option (Int32 × St)
  | 0 => fun  _ => none
  | w + 1 => mo_isA_L9_B C n (mo_isA_L9 C n w)
def mo_isA_G (C : Nat → St → Option (Int32 × St)) (n : Nat) (X : St) : Option (Int32 × St) :=
  ((C 3 X).bind fun (c2, X1) =>
  (if c2 = 0 then
  (some ((0 : Int32), X1))
  else
  (mo_isA_L9 C n n X1)))
theorem mo_isA_L9_Bg (q : Th) (C : Nat → St → Option (Int32 × St)) (Dg : Nat) (hDg : 2 ≤ Dg) (hC0 : ∀ X, Ct q nX12_isO Dg fiw [.ref (q.ad 102)] X (C 0 X)) (hC1 : ∀ X, Ct q nX12_isP Dg fiw [.ref (q.ad 102)] X (C 1 X)) (hC2 : ∀ X, Ct q nX12_isS Dg fiw [.ref (q.ad 102)] X (C 2 X)) (hC3 : ∀ X, Ct q nX12_isB Dg fiw [.ref (q.ad 102)] X (C 3 X)) (hC4 : ∀ X, Ct q nX12_isA Dg fiw [.ref (q.ad 102)] X (C 4 X)) (hC5 : ∀ X, Ct q nX12_isE Dg fiw [.ref (q.ad 102)] X (C 5 X)) (n : Nat) (rec : St → Option (Int32 × St)) (hrec : ∀ X, G q (mF q nX12_isA RX12 (Dg + 1)) fiw 9 [(0, .ref (q.ad 102))] [] X (rec X)) (X : St) : G q (mF q nX12_isA RX12 (Dg + 1)) fiw 9 [(0, .ref (q.ad 102))] [] X (mo_isA_L9_B C n rec X) := by
  unfold mo_isA_L9_B
  refine g_aload_n 0 dX12_isA_9 rfl rfl ?_
  refine g_bipush dX12_isA_10 rfl kbi_38 ?_
  refine g_cVIw (As := [.int (38 : Int32)]) (st := []) 1 mF_wg rfl dX12_isA_12 rfl kkX12 (by decide) rfl vX12_is lkX12_194 (rmB (b := 2) (by decide) (by decide) (by omega)) (mo_is_c q (38 : Int32) X) rfl rfl (Nat.le_of_ble_eq_true rfl) (fun c4 X3 => ?_)
  refine g_if_eq dX12_isA_15 rfl rfl ?_ ?_
  · refine g_iconst dX12_isA_37 rfl kic_1 ?_
    exact g_zret dX12_isA_38 rfl rfl rfl
  refine g_aload_n 0 dX12_isA_18 rfl rfl ?_
  refine g_cVIw (As := []) (st := []) 0 mF_wg rfl dX12_isA_19 rfl kkX12 (by decide) rfl vX12_isB lkX12_209 (rmS rfl) (hC3 X3) rfl rfl (Nat.le_of_ble_eq_true rfl) (fun c6 X5 => ?_)
  refine g_if_ne dX12_isA_22 rfl rfl ?_ ?_
  · refine g_iconst dX12_isA_25 rfl kic_0 ?_
    exact g_zret dX12_isA_26 rfl rfl rfl
  refine g_aload_n 0 dX12_isA_27 rfl rfl ?_
  refine g_bipush dX12_isA_28 rfl kbi_7 ?_
  refine g_cVIw (As := [.int (7 : Int32)]) (st := []) 1 mF_wg rfl dX12_isA_30 rfl kkX12 (by decide) rfl vX12_codes lkX12_184 (rmB (b := 2) (by decide) (by decide) (by omega)) (mo_codes_c q (7 : Int32) X5) rfl rfl (Nat.le_of_ble_eq_true rfl) (fun c8 X7 => ?_)
  refine g_pop dX12_isA_33 rfl rfl ?_
  refine g_goto dX12_isA_34 rfl ?_
  refine g_sub [0] rfl ?_
  exact hrec X7
theorem mo_isA_L9_g (q : Th) (C : Nat → St → Option (Int32 × St)) (Dg : Nat) (hDg : 2 ≤ Dg) (hC0 : ∀ X, Ct q nX12_isO Dg fiw [.ref (q.ad 102)] X (C 0 X)) (hC1 : ∀ X, Ct q nX12_isP Dg fiw [.ref (q.ad 102)] X (C 1 X)) (hC2 : ∀ X, Ct q nX12_isS Dg fiw [.ref (q.ad 102)] X (C 2 X)) (hC3 : ∀ X, Ct q nX12_isB Dg fiw [.ref (q.ad 102)] X (C 3 X)) (hC4 : ∀ X, Ct q nX12_isA Dg fiw [.ref (q.ad 102)] X (C 4 X)) (hC5 : ∀ X, Ct q nX12_isE Dg fiw [.ref (q.ad 102)] X (C 5 X)) (n : Nat) : ∀ (w : Nat) (X : St), G q (mF q nX12_isA RX12 (Dg + 1)) fiw 9 [(0, .ref (q.ad 102))] [] X (mo_isA_L9 C n w X) := by
  intro w
  induction w with
  | zero => intro X; exact g_none
  | succ w ih => intro X; exact mo_isA_L9_Bg q C Dg hDg hC0 hC1 hC2 hC3 hC4 hC5 n _ ih X
theorem mo_isA_gc (q : Th) (C : Nat → St → Option (Int32 × St)) (Dg : Nat) (hDg : 2 ≤ Dg) (hC0 : ∀ X, Ct q nX12_isO Dg fiw [.ref (q.ad 102)] X (C 0 X)) (hC1 : ∀ X, Ct q nX12_isP Dg fiw [.ref (q.ad 102)] X (C 1 X)) (hC2 : ∀ X, Ct q nX12_isS Dg fiw [.ref (q.ad 102)] X (C 2 X)) (hC3 : ∀ X, Ct q nX12_isB Dg fiw [.ref (q.ad 102)] X (C 3 X)) (hC4 : ∀ X, Ct q nX12_isA Dg fiw [.ref (q.ad 102)] X (C 4 X)) (hC5 : ∀ X, Ct q nX12_isE Dg fiw [.ref (q.ad 102)] X (C 5 X)) (n : Nat) (X : St) : Ct q nX12_isA (Dg + 1) fiw [.ref (q.ad 102)] X (mo_isA_G C n X) := by
  refine ct_of (by decide +kernel) (Nat.le_of_ble_eq_true rfl) ?_
  unfold mo_isA_G
  show G q _ _ 0 [(0, .ref (q.ad 102))] [] X _
  refine g_aload_n 0 dX12_isA_0 rfl rfl ?_
  refine g_cVIw (As := []) (st := []) 0 mF_wg rfl dX12_isA_1 rfl kkX12 (by decide) rfl vX12_isB lkX12_209 (rmS rfl) (hC3 X) rfl rfl (Nat.le_of_ble_eq_true rfl) (fun c2 X1 => ?_)
  refine g_if_ne dX12_isA_4 rfl rfl ?_ ?_
  · refine g_iconst dX12_isA_7 rfl kic_0 ?_
    exact g_zret dX12_isA_8 rfl rfl rfl
  refine g_sub [0] rfl ?_
  refine mo_isA_L9_g q C Dg hDg hC0 hC1 hC2 hC3 hC4 hC5 n n X1
def mo_isE_L9_B (C : Nat → St → Option (Int32 × St)) (n : Nat) (rec : St → Option (Int32 × St)) (X : St) : Option (Int32 × St) :=
((mo_is (124 : Int32) X).bind fun (c4, X3) =>
(if c4 = 0 then
(some ((1 : Int32), X3))
else
((C 4 X3).bind fun (c6, X5) =>
(if c6 = 0 then
(some ((0 : Int32), X5))
else
((mo_codes (6 : Int32) X5).bind fun (c8, X7) =>
(rec X7))))))
def mo_isE_L9 (C : Nat → St → Option (Int32 × St)) (n : Nat) : Nat → St → Option (Int32 × St)
  | 0 => fun  _ => none
  | w + 1 => mo_isE_L9_B C n (mo_isE_L9 C n w)
def mo_isE_G (C : Nat → St → Option (Int32 × St)) (n : Nat) (X : St) : Option (Int32 × St) :=
  ((C 4 X).bind fun (c2, X1) =>
  (if c2 = 0 then
  (some ((0 : Int32), X1))
  else
  (mo_isE_L9 C n n X1)))
def mo_isO_grp (n : Nat) : Nat → Nat → St → Option (Int32 × St)
  | 0 => fun _  _ => none
  | d + 1 => fun j  X => if j = 0 then mo_isO_G (mo_isO_grp n d) n X else if j = 1 then mo_isP_G (mo_isO_grp n d) n X else if j = 2 then mo_isS_G (mo_isO_grp n d) n X else if j = 3 then mo_isB_G (mo_isO_grp n d) n X else if j = 4 then mo_isA_G (mo_isO_grp n d) n X else mo_isE_G (mo_isO_grp n d) n X
def mo_isO (n : Nat) (X : St) : Option (Int32 × St) := mo_isO_grp n DEP 0 X
def mo_isP (n : Nat) (X : St) : Option (Int32 × St) := mo_isO_grp n DEP 1 X
def mo_isS (n : Nat) (X : St) : Option (Int32 × St) := mo_isO_grp n DEP 2 X
def mo_isB (n : Nat) (X : St) : Option (Int32 × St) := mo_isO_grp n DEP 3 X
def mo_isA (n : Nat) (X : St) : Option (Int32 × St) := mo_isO_grp n DEP 4 X
def mo_isE (n : Nat) (X : St) : Option (Int32 × St) := mo_isO_grp n DEP 5 X
theorem mo_isE_L9_Bg (q : Th) (C : Nat → St → Option (Int32 × St)) (Dg : Nat) (hDg : 2 ≤ Dg) (hC0 : ∀ X, Ct q nX12_isO Dg fiw [.ref (q.ad 102)] X (C 0 X)) (hC1 : ∀ X, Ct q nX12_isP Dg fiw [.ref (q.ad 102)] X (C 1 X)) (hC2 : ∀ X, Ct q nX12_isS Dg fiw [.ref (q.ad 102)] X (C 2 X)) (hC3 : ∀ X, Ct q nX12_isB Dg fiw [.ref (q.ad 102)] X (C 3 X)) (hC4 : ∀ X, Ct q nX12_isA Dg fiw [.ref (q.ad 102)] X (C 4 X)) (hC5 : ∀ X, Ct q nX12_isE Dg fiw [.ref (q.ad 102)] X (C 5 X)) (n : Nat) (rec : St → Option (Int32 × St)) (hrec : ∀ X, G q (mF q nX12_isE RX12 (Dg + 1)) fiw 9 [(0, .ref (q.ad 102))] [] X (rec X)) (X : St) : G q (mF q nX12_isE RX12 (Dg + 1)) fiw 9 [(0, .ref (q.ad 102))] [] X (mo_isE_L9_B C n rec X) := by
  unfold mo_isE_L9_B
  refine g_aload_n 0 dX12_isE_9 rfl rfl ?_
  refine g_bipush dX12_isE_10 rfl kbi_124 ?_
  refine g_cVIw (As := [.int (124 : Int32)]) (st := []) 1 mF_wg rfl dX12_isE_12 rfl kkX12 (by decide) rfl vX12_is lkX12_194 (rmB (b := 2) (by decide) (by decide) (by omega)) (mo_is_c q (124 : Int32) X) rfl rfl (Nat.le_of_ble_eq_true rfl) (fun c4 X3 => ?_)
  refine g_if_eq dX12_isE_15 rfl rfl ?_ ?_
  · refine g_iconst dX12_isE_37 rfl kic_1 ?_
    exact g_zret dX12_isE_38 rfl rfl rfl
  refine g_aload_n 0 dX12_isE_18 rfl rfl ?_
  refine g_cVIw (As := []) (st := []) 0 mF_wg rfl dX12_isE_19 rfl kkX12 (by decide) rfl vX12_isA lkX12_212 (rmS rfl) (hC4 X3) rfl rfl (Nat.le_of_ble_eq_true rfl) (fun c6 X5 => ?_)
  refine g_if_ne dX12_isE_22 rfl rfl ?_ ?_
  · refine g_iconst dX12_isE_25 rfl kic_0 ?_
    exact g_zret dX12_isE_26 rfl rfl rfl
  refine g_aload_n 0 dX12_isE_27 rfl rfl ?_
  refine g_bipush dX12_isE_28 rfl kbi_6 ?_
  refine g_cVIw (As := [.int (6 : Int32)]) (st := []) 1 mF_wg rfl dX12_isE_30 rfl kkX12 (by decide) rfl vX12_codes lkX12_184 (rmB (b := 2) (by decide) (by decide) (by omega)) (mo_codes_c q (6 : Int32) X5) rfl rfl (Nat.le_of_ble_eq_true rfl) (fun c8 X7 => ?_)
  refine g_pop dX12_isE_33 rfl rfl ?_
  refine g_goto dX12_isE_34 rfl ?_
  refine g_sub [0] rfl ?_
  exact hrec X7
theorem mo_isE_L9_g (q : Th) (C : Nat → St → Option (Int32 × St)) (Dg : Nat) (hDg : 2 ≤ Dg) (hC0 : ∀ X, Ct q nX12_isO Dg fiw [.ref (q.ad 102)] X (C 0 X)) (hC1 : ∀ X, Ct q nX12_isP Dg fiw [.ref (q.ad 102)] X (C 1 X)) (hC2 : ∀ X, Ct q nX12_isS Dg fiw [.ref (q.ad 102)] X (C 2 X)) (hC3 : ∀ X, Ct q nX12_isB Dg fiw [.ref (q.ad 102)] X (C 3 X)) (hC4 : ∀ X, Ct q nX12_isA Dg fiw [.ref (q.ad 102)] X (C 4 X)) (hC5 : ∀ X, Ct q nX12_isE Dg fiw [.ref (q.ad 102)] X (C 5 X)) (n : Nat) : ∀ (w : Nat) (X : St), G q (mF q nX12_isE RX12 (Dg + 1)) fiw 9 [(0, .ref (q.ad 102))] [] X (mo_isE_L9 C n w X) := by
  intro w
  induction w with
  | zero => intro X; exact g_none
  | succ w ih => intro X; exact mo_isE_L9_Bg q C Dg hDg hC0 hC1 hC2 hC3 hC4 hC5 n _ ih X
theorem mo_isE_gc (q : Th) (C : Nat → St → Option (Int32 × St)) (Dg : Nat) (hDg : 2 ≤ Dg) (hC0 : ∀ X, Ct q nX12_isO Dg fiw [.ref (q.ad 102)] X (C 0 X)) (hC1 : ∀ X, Ct q nX12_isP Dg fiw [.ref (q.ad 102)] X (C 1 X)) (hC2 : ∀ X, Ct q nX12_isS Dg fiw [.ref (q.ad 102)] X (C 2 X)) (hC3 : ∀ X, Ct q nX12_isB Dg fiw [.ref (q.ad 102)] X (C 3 X)) (hC4 : ∀ X, Ct q nX12_isA Dg fiw [.ref (q.ad 102)] X (C 4 X)) (hC5 : ∀ X, Ct q nX12_isE Dg fiw [.ref (q.ad 102)] X (C 5 X)) (n : Nat) (X : St) : Ct q nX12_isE (Dg + 1) fiw [.ref (q.ad 102)] X (mo_isE_G C n X) := by
  refine ct_of (by decide +kernel) (Nat.le_of_ble_eq_true rfl) ?_
  unfold mo_isE_G
  show G q _ _ 0 [(0, .ref (q.ad 102))] [] X _
  refine g_aload_n 0 dX12_isE_0 rfl rfl ?_
  refine g_cVIw (As := []) (st := []) 0 mF_wg rfl dX12_isE_1 rfl kkX12 (by decide) rfl vX12_isA lkX12_212 (rmS rfl) (hC4 X) rfl rfl (Nat.le_of_ble_eq_true rfl) (fun c2 X1 => ?_)
  refine g_if_ne dX12_isE_4 rfl rfl ?_ ?_
  · refine g_iconst dX12_isE_7 rfl kic_0 ?_
    exact g_zret dX12_isE_8 rfl rfl rfl
  refine g_sub [0] rfl ?_
  refine mo_isE_L9_g q C Dg hDg hC0 hC1 hC2 hC3 hC4 hC5 n n X1
theorem mo_isO_grp_c (q : Th) (n : Nat) : ∀ d, (∀ X, Ct q nX12_isO (2 + d) fiw [.ref (q.ad 102)] X (mo_isO_grp n d 0 X)) ∧ (∀ X, Ct q nX12_isP (2 + d) fiw [.ref (q.ad 102)] X (mo_isO_grp n d 1 X)) ∧ (∀ X, Ct q nX12_isS (2 + d) fiw [.ref (q.ad 102)] X (mo_isO_grp n d 2 X)) ∧ (∀ X, Ct q nX12_isB (2 + d) fiw [.ref (q.ad 102)] X (mo_isO_grp n d 3 X)) ∧ (∀ X, Ct q nX12_isA (2 + d) fiw [.ref (q.ad 102)] X (mo_isO_grp n d 4 X)) ∧ (∀ X, Ct q nX12_isE (2 + d) fiw [.ref (q.ad 102)] X (mo_isO_grp n d 5 X)) := by
  intro d
  induction d with
  | zero => exact ⟨(fun _ r h => by cases h), (fun _ r h => by cases h), (fun _ r h => by cases h), (fun _ r h => by cases h), (fun _ r h => by cases h), (fun _ r h => by cases h)⟩
  | succ d ih =>
    obtain ⟨h0, h1, h2, h3, h4, h5⟩ := ih
    exact ⟨fun  X => mo_isO_gc q (mo_isO_grp n d) (2 + d) (by omega) h0 h1 h2 h3 h4 h5 n X, fun  X => mo_isP_gc q (mo_isO_grp n d) (2 + d) (by omega) h0 h1 h2 h3 h4 h5 n X, fun  X => mo_isS_gc q (mo_isO_grp n d) (2 + d) (by omega) h0 h1 h2 h3 h4 h5 n X, fun  X => mo_isB_gc q (mo_isO_grp n d) (2 + d) (by omega) h0 h1 h2 h3 h4 h5 n X, fun  X => mo_isA_gc q (mo_isO_grp n d) (2 + d) (by omega) h0 h1 h2 h3 h4 h5 n X, fun  X => mo_isE_gc q (mo_isO_grp n d) (2 + d) (by omega) h0 h1 h2 h3 h4 h5 n X⟩
theorem mo_isO_c (q : Th) (n : Nat) (X : St) : Ct q nX12_isO (2 + DEP) fiw [.ref (q.ad 102)] X (mo_isO n X) := (mo_isO_grp_c q n DEP).1 X
theorem mo_isP_c (q : Th) (n : Nat) (X : St) : Ct q nX12_isP (2 + DEP) fiw [.ref (q.ad 102)] X (mo_isP n X) := (mo_isO_grp_c q n DEP).2.1 X
theorem mo_isS_c (q : Th) (n : Nat) (X : St) : Ct q nX12_isS (2 + DEP) fiw [.ref (q.ad 102)] X (mo_isS n X) := (mo_isO_grp_c q n DEP).2.2.1 X
theorem mo_isB_c (q : Th) (n : Nat) (X : St) : Ct q nX12_isB (2 + DEP) fiw [.ref (q.ad 102)] X (mo_isB n X) := (mo_isO_grp_c q n DEP).2.2.2.1 X
theorem mo_isA_c (q : Th) (n : Nat) (X : St) : Ct q nX12_isA (2 + DEP) fiw [.ref (q.ad 102)] X (mo_isA n X) := (mo_isO_grp_c q n DEP).2.2.2.2.1 X
theorem mo_isE_c (q : Th) (n : Nat) (X : St) : Ct q nX12_isE (2 + DEP) fiw [.ref (q.ad 102)] X (mo_isE n X) := (mo_isO_grp_c q n DEP).2.2.2.2.2 X
def mo_isLine_J71 (n : Nat) (X : St) : Option (Int32 × St) :=
(if inB (X.1 102 21) 61 then
((some (stI (stI X 102 21 ((X.1 102 21) + (1 : Int32))) 119 (nx (X.1 102 21)) ((stI X 102 21 ((X.1 102 21) + (1 : Int32))).1 102 20))).bind fun X6 =>
(some ((1 : Int32), X6))) else none)
def mo_isLine (n : Nat) (X : St) : Option (Int32 × St) :=
  (if inB (X.1 102 21) 61 then
  ((mo_isE n (stI X 117 (nx (X.1 102 21)) (X.1 102 20))).bind fun (c2, X1) =>
  (if c2 = 0 then
  (some ((0 : Int32), X1))
  else
  (if inB (X1.1 102 21) 61 then
  (if inB (X1.1 102 21) 61 then
  ((some (stI X1 118 (nx (X1.1 102 21)) (X1.1 117 (nx (X1.1 102 21))))).bind fun X3 =>
  ((mo_is (63 : Int32) X3).bind fun (c5, X4) =>
  (if c5 = 0 then
  (mo_isLine_J71 n X4)
  else
  (if inB (X4.1 102 21) 61 then
  ((mo_isE n (stI X4 118 (nx (X4.1 102 21)) (X4.1 102 20))).bind fun (c8, X7) =>
  (if c8 = 0 then
  (some ((0 : Int32), X7))
  else
  (mo_isLine_J71 n X7))) else none)))) else none) else none))) else none)
theorem mo_isLine_J71_g (q : Th) (n : Nat) (X : St) : G q (mF q nX12_isLine RX12 403) fiw 71 [(0, .ref (q.ad 102))] [] X (mo_isLine_J71 n X) := by
  unfold mo_isLine_J71
  refine g_aload_n 0 dX12_isLine_71 rfl rfl ?_
  refine g_getR 102 24 119 rfl dX12_isLine_72 rfl kkX12 flX12_60 (by decide) rfl rfl (by decide) rfl ?_
  refine g_aload_n 0 dX12_isLine_75 rfl rfl ?_
  refine g_dup dX12_isLine_76 rfl rfl ?_
  refine g_getI 102 21 rfl dX12_isLine_77 rfl kkX12 flX12_215 (by decide) rfl rfl (by decide) rfl ?_
  refine g_dup_x1 dX12_isLine_80 rfl rfl rfl ?_
  refine g_iconst dX12_isLine_81 rfl kic_1 ?_
  refine g_iadd dX12_isLine_82 rfl ?_
  refine g_putI 102 21 rfl dX12_isLine_83 rfl kkX12 flX12_215 (by decide) rfl rfl (by decide) rfl rfl rfl ?_
  refine g_aload_n 0 dX12_isLine_86 rfl rfl ?_
  refine g_getI 102 20 rfl dX12_isLine_87 rfl kkX12 flX12_177 (by decide) rfl rfl (by decide) rfl ?_
  refine g_iast dX12_isLine_90 rfl (by decide) rfl rfl ?_
  refine g_nmX (fun X6 => ?_)
  refine g_iconst dX12_isLine_91 rfl kic_1 ?_
  exact g_zret dX12_isLine_92 rfl rfl rfl
theorem mo_isLine_c (q : Th) (n : Nat) (X : St) : Ct q nX12_isLine 403 fiw [.ref (q.ad 102)] X (mo_isLine n X) := by
  refine ct_of (by decide +kernel) (Nat.le_of_ble_eq_true rfl) ?_
  unfold mo_isLine
  show G q _ _ 0 [(0, .ref (q.ad 102))] [] X _
  refine g_aload_n 0 dX12_isLine_0 rfl rfl ?_
  refine g_getR 102 22 117 rfl dX12_isLine_1 rfl kkX12 flX12_54 (by decide) rfl rfl (by decide) rfl ?_
  refine g_aload_n 0 dX12_isLine_4 rfl rfl ?_
  refine g_getI 102 21 rfl dX12_isLine_5 rfl kkX12 flX12_215 (by decide) rfl rfl (by decide) rfl ?_
  refine g_aload_n 0 dX12_isLine_8 rfl rfl ?_
  refine g_getI 102 20 rfl dX12_isLine_9 rfl kkX12 flX12_177 (by decide) rfl rfl (by decide) rfl ?_
  refine g_iast dX12_isLine_12 rfl (by decide) rfl rfl ?_
  refine g_aload_n 0 dX12_isLine_13 rfl rfl ?_
  refine g_cVIw (As := []) (st := []) 0 mF_wg rfl dX12_isLine_14 rfl kkX12 (by decide) rfl vX12_isE lkX12_200 (rmL rfl rfl) (mo_isE_c q n (stI X 117 (nx (X.1 102 21)) (X.1 102 20))) rfl rfl (Nat.le_of_ble_eq_true rfl) (fun c2 X1 => ?_)
  refine g_if_ne dX12_isLine_17 rfl rfl ?_ ?_
  · refine g_iconst dX12_isLine_20 rfl kic_0 ?_
    exact g_zret dX12_isLine_21 rfl rfl rfl
  refine g_aload_n 0 dX12_isLine_22 rfl rfl ?_
  refine g_getR 102 23 118 rfl dX12_isLine_23 rfl kkX12 flX12_57 (by decide) rfl rfl (by decide) rfl ?_
  refine g_aload_n 0 dX12_isLine_26 rfl rfl ?_
  refine g_getI 102 21 rfl dX12_isLine_27 rfl kkX12 flX12_215 (by decide) rfl rfl (by decide) rfl ?_
  refine g_aload_n 0 dX12_isLine_30 rfl rfl ?_
  refine g_getR 102 22 117 rfl dX12_isLine_31 rfl kkX12 flX12_54 (by decide) rfl rfl (by decide) rfl ?_
  refine g_aload_n 0 dX12_isLine_34 rfl rfl ?_
  refine g_getI 102 21 rfl dX12_isLine_35 rfl kkX12 flX12_215 (by decide) rfl rfl (by decide) rfl ?_
  refine g_iald dX12_isLine_38 rfl (by decide) rfl rfl ?_
  refine g_iast dX12_isLine_39 rfl (by decide) rfl rfl ?_
  refine g_nmX (fun X3 => ?_)
  refine g_aload_n 0 dX12_isLine_40 rfl rfl ?_
  refine g_bipush dX12_isLine_41 rfl kbi_63 ?_
  refine g_cVIw (As := [.int (63 : Int32)]) (st := []) 1 mF_wg rfl dX12_isLine_43 rfl kkX12 (by decide) rfl vX12_is lkX12_194 (rmL rfl rfl) (mo_is_c q (63 : Int32) X3) rfl rfl (Nat.le_of_ble_eq_true rfl) (fun c5 X4 => ?_)
  refine g_if_eq dX12_isLine_46 rfl rfl ?_ ?_
  · refine g_sub [0] rfl ?_
    exact mo_isLine_J71_g q n X4
  refine g_aload_n 0 dX12_isLine_49 rfl rfl ?_
  refine g_getR 102 23 118 rfl dX12_isLine_50 rfl kkX12 flX12_57 (by decide) rfl rfl (by decide) rfl ?_
  refine g_aload_n 0 dX12_isLine_53 rfl rfl ?_
  refine g_getI 102 21 rfl dX12_isLine_54 rfl kkX12 flX12_215 (by decide) rfl rfl (by decide) rfl ?_
  refine g_aload_n 0 dX12_isLine_57 rfl rfl ?_
  refine g_getI 102 20 rfl dX12_isLine_58 rfl kkX12 flX12_177 (by decide) rfl rfl (by decide) rfl ?_
  refine g_iast dX12_isLine_61 rfl (by decide) rfl rfl ?_
  refine g_aload_n 0 dX12_isLine_62 rfl rfl ?_
  refine g_cVIw (As := []) (st := []) 0 mF_wg rfl dX12_isLine_63 rfl kkX12 (by decide) rfl vX12_isE lkX12_200 (rmL rfl rfl) (mo_isE_c q n (stI X4 118 (nx (X4.1 102 21)) (X4.1 102 20))) rfl rfl (Nat.le_of_ble_eq_true rfl) (fun c8 X7 => ?_)
  refine g_if_ne dX12_isLine_66 rfl rfl ?_ ?_
  · refine g_iconst dX12_isLine_69 rfl kic_0 ?_
    exact g_zret dX12_isLine_70 rfl rfl rfl
  refine g_sub [0] rfl ?_
  exact mo_isLine_J71_g q n X7
def mo_law_L25_B (n : Nat) (k46 : Int32 → St → Option (Int32 × St)) (rec : Int32 → St → Option (Int32 × St)) (v1 : Int32) (X : St) : Option (Int32 × St) :=
(if v1 = 0 then
(k46 v1 X)
else
((mo_is (59 : Int32) X).bind fun (c5, X4) =>
(if c5 = 0 then
(k46 v1 X4)
else
((mo_isLine n X4).bind fun (c7, X6) =>
(rec c7 X6)))))
def mo_law_L25 (n : Nat) (k46 : Int32 → St → Option (Int32 × St)) : Nat → Int32 → St → Option (Int32 × St)
  | 0 => fun _ _ => none
  | w + 1 => mo_law_L25_B n k46 (mo_law_L25 n k46 w)
def mo_law_L99_B (n : Nat) (k149 : St → Option (Int32 × St)) (rec : Int32 → St → Option (Int32 × St)) (v3 : Int32) (X : St) : Option (Int32 × St) :=
(if v3 < (X.1 102 13) then
(if inB v3 61 then
(if inB v3 60 then
(if inB v3 61 then
(if inB v3 60 then
((some (stI (stI X 113 (nx v3) (X.1 117 (nx v3))) 114 (nx v3) ((stI X 113 (nx v3) (X.1 117 (nx v3))).1 118 (nx v3)))).bind fun X11 =>
(if inB v3 61 then
(if inB v3 60 then
(rec (v3 + (1 : Int32)) (stI X11 115 (nx v3) (X11.1 119 (nx v3)))) else none) else none)) else none) else none) else none) else none)
else
(k149 X))
def mo_law_L99 (n : Nat) (k149 : St → Option (Int32 × St)) : Nat → Int32 → St → Option (Int32 × St)
  | 0 => fun _ _ => none
  | w + 1 => mo_law_L99_B n k149 (mo_law_L99 n k149 w)
def mo_law_L151_B (n : Nat) (rec : Int32 → St → Option (Int32 × St)) (v3 : Int32) (X : St) : Option (Int32 × St) :=
(if v3 < (X.1 102 20) then
(if inB v3 200 then
(if inB v3 200 then
(rec (v3 + (1 : Int32)) (stI X 116 (nx v3) (X.1 120 (nx v3)))) else none) else none)
else
(some ((1 : Int32), X)))
def mo_law_L151 (n : Nat) : Nat → Int32 → St → Option (Int32 × St)
  | 0 => fun _ _ => none
  | w + 1 => mo_law_L151_B n (mo_law_L151 n w)
def mo_law_J66 (n : Nat) (s0 : Int32) (X : St) : Option (Int32 × St) :=
(if s0 = 0 then
(some (((-100 : Int32) - ((stI X 102 10 (0 : Int32)).1 102 18)), (stI X 102 10 (0 : Int32))))
else
((some (stI (stI (stI X 102 10 (0 : Int32)) 102 12 (1 : Int32)) 102 13 ((stI (stI X 102 10 (0 : Int32)) 102 12 (1 : Int32)).1 102 21))).bind fun X10 =>
(mo_law_L99 n (fun X12 =>
(mo_law_L151 n n (0 : Int32) X12)) n (0 : Int32) X10)))
def mo_law_J46 (n : Nat) (v1 : Int32) (X : St) : Option (Int32 × St) :=
(if v1 = 0 then
(mo_law_J66 n (0 : Int32) X)
else
(if (X.1 102 18) = (X.1 102 10) then
(mo_law_J66 n (1 : Int32) X)
else
(mo_law_J66 n (0 : Int32) X)))
def mo_law (n : Nat) (X : St) : Option (Int32 × St) :=
  ((some (stI (stI (stI X 102 18 (0 : Int32)) 102 19 (0 : Int32)) 102 20 (0 : Int32))).bind fun X1 =>
  ((mo_isLine n (stI X1 102 21 (0 : Int32))).bind fun (c3, X2) =>
  (mo_law_L25 n (fun v9 X8 =>
  (mo_law_J46 n v9 X8)) n c3 X2)))
theorem mo_law_L25_Bg (q : Th) (n : Nat) (k46 : Int32 → St → Option (Int32 × St)) (hk46 : ∀ v1 X, G q (mF q nX12_law RX12 404) fiw 46 [(0, .ref (q.ad 102)), (1, .int v1)] [] X (k46 v1 X)) (rec : Int32 → St → Option (Int32 × St)) (hrec : ∀ v1 X, G q (mF q nX12_law RX12 404) fiw 25 [(0, .ref (q.ad 102)), (1, .int v1)] [] X (rec v1 X)) (v1 : Int32) (X : St) : G q (mF q nX12_law RX12 404) fiw 25 [(0, .ref (q.ad 102)), (1, .int v1)] [] X (mo_law_L25_B n k46 rec v1 X) := by
  unfold mo_law_L25_B
  refine g_iload_n 1 dX12_law_25 rfl rfl ?_
  refine g_if_eq dX12_law_26 rfl rfl ?_ ?_
  · refine g_sub [0, 1] rfl ?_
    exact hk46 v1 X
  refine g_aload_n 0 dX12_law_29 rfl rfl ?_
  refine g_bipush dX12_law_30 rfl kbi_59 ?_
  refine g_cVIw (As := [.int (59 : Int32)]) (st := []) 1 mF_wg rfl dX12_law_32 rfl kkX12 (by decide) rfl vX12_is lkX12_194 (rmL rfl rfl) (mo_is_c q (59 : Int32) X) rfl rfl (Nat.le_of_ble_eq_true rfl) (fun c5 X4 => ?_)
  refine g_if_eq dX12_law_35 rfl rfl ?_ ?_
  · refine g_sub [0, 1] rfl ?_
    exact hk46 v1 X4
  refine g_aload_n 0 dX12_law_38 rfl rfl ?_
  refine g_cVIw (As := []) (st := []) 0 mF_wg rfl dX12_law_39 rfl kkX12 (by decide) rfl vX12_isLine lkX12_218 (rmL rfl rfl) (mo_isLine_c q n X4) rfl rfl (Nat.le_of_ble_eq_true rfl) (fun c7 X6 => ?_)
  refine g_istore_n (lv' := [(1, .int c7), (0, .ref (q.ad 102))]) dX12_law_42 rfl rfl (Nat.le_of_ble_eq_true rfl) rfl ?_
  refine g_goto dX12_law_43 rfl ?_
  refine g_sub [1, 0] rfl ?_
  exact hrec c7 X6
theorem mo_law_L25_g (q : Th) (n : Nat) (k46 : Int32 → St → Option (Int32 × St)) (hk46 : ∀ v1 X, G q (mF q nX12_law RX12 404) fiw 46 [(0, .ref (q.ad 102)), (1, .int v1)] [] X (k46 v1 X)) : ∀ (w : Nat) (v1 : Int32) (X : St), G q (mF q nX12_law RX12 404) fiw 25 [(0, .ref (q.ad 102)), (1, .int v1)] [] X (mo_law_L25 n k46 w v1 X) := by
  intro w
  induction w with
  | zero => intro v1 X; exact g_none
  | succ w ih => intro v1 X; exact mo_law_L25_Bg q n k46 hk46 _ ih v1 X
theorem mo_law_L99_Bg (q : Th) (n : Nat) (k149 : St → Option (Int32 × St)) (hk149 : ∀ X, G q (mF q nX12_law RX12 404) fiw 149 [(0, .ref (q.ad 102))] [] X (k149 X)) (rec : Int32 → St → Option (Int32 × St)) (hrec : ∀ v3 X, G q (mF q nX12_law RX12 404) fiw 99 [(0, .ref (q.ad 102)), (3, .int v3)] [] X (rec v3 X)) (v3 : Int32) (X : St) : G q (mF q nX12_law RX12 404) fiw 99 [(0, .ref (q.ad 102)), (3, .int v3)] [] X (mo_law_L99_B n k149 rec v3 X) := by
  unfold mo_law_L99_B
  refine g_iload_n 1 dX12_law_99 rfl rfl ?_
  refine g_aload_n 0 dX12_law_100 rfl rfl ?_
  refine g_getI 102 13 rfl dX12_law_101 rfl kkX12 flX12_225 (by decide) rfl rfl (by decide) rfl ?_
  refine g_icmp_ge dX12_law_104 rfl rfl ?_ ?_
  · refine g_aload_n 0 dX12_law_107 rfl rfl ?_
    refine g_getR 102 14 113 rfl dX12_law_108 rfl kkX12 flX12_42 (by decide) rfl rfl (by decide) rfl ?_
    refine g_iload_n 1 dX12_law_111 rfl rfl ?_
    refine g_aload_n 0 dX12_law_112 rfl rfl ?_
    refine g_getR 102 22 117 rfl dX12_law_113 rfl kkX12 flX12_54 (by decide) rfl rfl (by decide) rfl ?_
    refine g_iload_n 1 dX12_law_116 rfl rfl ?_
    refine g_iald dX12_law_117 rfl (by decide) rfl rfl ?_
    refine g_iast dX12_law_118 rfl (by decide) rfl rfl ?_
    refine g_aload_n 0 dX12_law_119 rfl rfl ?_
    refine g_getR 102 15 114 rfl dX12_law_120 rfl kkX12 flX12_45 (by decide) rfl rfl (by decide) rfl ?_
    refine g_iload_n 1 dX12_law_123 rfl rfl ?_
    refine g_aload_n 0 dX12_law_124 rfl rfl ?_
    refine g_getR 102 23 118 rfl dX12_law_125 rfl kkX12 flX12_57 (by decide) rfl rfl (by decide) rfl ?_
    refine g_iload_n 1 dX12_law_128 rfl rfl ?_
    refine g_iald dX12_law_129 rfl (by decide) rfl rfl ?_
    refine g_iast dX12_law_130 rfl (by decide) rfl rfl ?_
    refine g_nmX (fun X11 => ?_)
    refine g_aload_n 0 dX12_law_131 rfl rfl ?_
    refine g_getR 102 16 115 rfl dX12_law_132 rfl kkX12 flX12_48 (by decide) rfl rfl (by decide) rfl ?_
    refine g_iload_n 1 dX12_law_135 rfl rfl ?_
    refine g_aload_n 0 dX12_law_136 rfl rfl ?_
    refine g_getR 102 24 119 rfl dX12_law_137 rfl kkX12 flX12_60 (by decide) rfl rfl (by decide) rfl ?_
    refine g_iload_n 1 dX12_law_140 rfl rfl ?_
    refine g_iald dX12_law_141 rfl (by decide) rfl rfl ?_
    refine g_iast dX12_law_142 rfl (by decide) rfl rfl ?_
    refine g_inc (lv' := [(3, .int (v3 + (1 : Int32))), (0, .ref (q.ad 102))]) 1 dX12_law_143 rfl rfl kic_1 (Nat.le_of_ble_eq_true rfl) rfl ?_
    refine g_goto dX12_law_146 rfl ?_
    refine g_sub [1, 0] rfl ?_
    exact hrec (v3 + (1 : Int32)) (stI X11 115 (nx v3) (X11.1 119 (nx v3)))
  refine g_sub [0] rfl ?_
  exact hk149 X
theorem mo_law_L99_g (q : Th) (n : Nat) (k149 : St → Option (Int32 × St)) (hk149 : ∀ X, G q (mF q nX12_law RX12 404) fiw 149 [(0, .ref (q.ad 102))] [] X (k149 X)) : ∀ (w : Nat) (v3 : Int32) (X : St), G q (mF q nX12_law RX12 404) fiw 99 [(0, .ref (q.ad 102)), (3, .int v3)] [] X (mo_law_L99 n k149 w v3 X) := by
  intro w
  induction w with
  | zero => intro v3 X; exact g_none
  | succ w ih => intro v3 X; exact mo_law_L99_Bg q n k149 hk149 _ ih v3 X
theorem mo_law_L151_Bg (q : Th) (n : Nat) (rec : Int32 → St → Option (Int32 × St)) (hrec : ∀ v3 X, G q (mF q nX12_law RX12 404) fiw 151 [(0, .ref (q.ad 102)), (3, .int v3)] [] X (rec v3 X)) (v3 : Int32) (X : St) : G q (mF q nX12_law RX12 404) fiw 151 [(0, .ref (q.ad 102)), (3, .int v3)] [] X (mo_law_L151_B n rec v3 X) := by
  unfold mo_law_L151_B
  refine g_iload_n 1 dX12_law_151 rfl rfl ?_
  refine g_aload_n 0 dX12_law_152 rfl rfl ?_
  refine g_getI 102 20 rfl dX12_law_153 rfl kkX12 flX12_177 (by decide) rfl rfl (by decide) rfl ?_
  refine g_icmp_ge dX12_law_156 rfl rfl ?_ ?_
  · refine g_aload_n 0 dX12_law_159 rfl rfl ?_
    refine g_getR 102 17 116 rfl dX12_law_160 rfl kkX12 flX12_51 (by decide) rfl rfl (by decide) rfl ?_
    refine g_iload_n 1 dX12_law_163 rfl rfl ?_
    refine g_aload_n 0 dX12_law_164 rfl rfl ?_
    refine g_getR 102 25 120 rfl dX12_law_165 rfl kkX12 flX12_63 (by decide) rfl rfl (by decide) rfl ?_
    refine g_iload_n 1 dX12_law_168 rfl rfl ?_
    refine g_iald dX12_law_169 rfl (by decide) rfl rfl ?_
    refine g_iast dX12_law_170 rfl (by decide) rfl rfl ?_
    refine g_inc (lv' := [(3, .int (v3 + (1 : Int32))), (0, .ref (q.ad 102))]) 1 dX12_law_171 rfl rfl kic_1 (Nat.le_of_ble_eq_true rfl) rfl ?_
    refine g_goto dX12_law_174 rfl ?_
    refine g_sub [1, 0] rfl ?_
    exact hrec (v3 + (1 : Int32)) (stI X 116 (nx v3) (X.1 120 (nx v3)))
  refine g_iconst dX12_law_177 rfl kic_1 ?_
  exact g_iret dX12_law_178 rfl rfl
theorem mo_law_L151_g (q : Th) (n : Nat) : ∀ (w : Nat) (v3 : Int32) (X : St), G q (mF q nX12_law RX12 404) fiw 151 [(0, .ref (q.ad 102)), (3, .int v3)] [] X (mo_law_L151 n w v3 X) := by
  intro w
  induction w with
  | zero => intro v3 X; exact g_none
  | succ w ih => intro v3 X; exact mo_law_L151_Bg q n _ ih v3 X
theorem mo_law_J66_g (q : Th) (n : Nat) (s0 : Int32) (X : St) : G q (mF q nX12_law RX12 404) fiw 66 [(0, .ref (q.ad 102))] [.int s0] X (mo_law_J66 n s0 X) := by
  unfold mo_law_J66
  refine g_istore_n (lv' := [(2, .int s0), (0, .ref (q.ad 102))]) dX12_law_66 rfl rfl (Nat.le_of_ble_eq_true rfl) rfl ?_
  refine g_aload_n 1 dX12_law_67 rfl rfl ?_
  refine g_iconst dX12_law_68 rfl kic_0 ?_
  refine g_putI 102 10 rfl dX12_law_69 rfl kkX12 flX12_167 (by decide) rfl rfl (by decide) rfl rfl rfl ?_
  refine g_iload_n 0 dX12_law_72 rfl rfl ?_
  refine g_if_ne dX12_law_73 rfl rfl ?_ ?_
  · refine g_bipush dX12_law_76 rfl kbi_m100 ?_
    refine g_aload_n 1 dX12_law_78 rfl rfl ?_
    refine g_getI 102 18 rfl dX12_law_79 rfl kkX12 flX12_170 (by decide) rfl rfl (by decide) rfl ?_
    refine g_isub dX12_law_82 rfl ?_
    exact g_iret dX12_law_83 rfl rfl
  refine g_aload_n 1 dX12_law_84 rfl rfl ?_
  refine g_iconst dX12_law_85 rfl kic_1 ?_
  refine g_putC (t := .boolean) 102 12 rfl dX12_law_86 rfl kkX12 flX12_221 (by decide) rfl rfl (by decide) rfl rfl (by decide +kernel) rfl rfl ?_
  refine g_aload_n 1 dX12_law_89 rfl rfl ?_
  refine g_aload_n 1 dX12_law_90 rfl rfl ?_
  refine g_getI 102 21 rfl dX12_law_91 rfl kkX12 flX12_215 (by decide) rfl rfl (by decide) rfl ?_
  refine g_putI 102 13 rfl dX12_law_94 rfl kkX12 flX12_225 (by decide) rfl rfl (by decide) rfl rfl rfl ?_
  refine g_nmX (fun X10 => ?_)
  refine g_iconst dX12_law_97 rfl kic_0 ?_
  refine g_istore_n (lv' := [(3, .int (0 : Int32)), (2, .int s0), (0, .ref (q.ad 102))]) dX12_law_98 rfl rfl (Nat.le_of_ble_eq_true rfl) rfl ?_
  refine g_sub [2, 0] rfl ?_
  refine mo_law_L99_g q n _ (fun X12 => ?_) n (0 : Int32) X10
  refine g_iconst dX12_law_149 rfl kic_0 ?_
  refine g_istore_n (lv' := [(3, .int (0 : Int32)), (0, .ref (q.ad 102))]) dX12_law_150 rfl rfl (Nat.le_of_ble_eq_true rfl) rfl ?_
  refine g_sub [1, 0] rfl ?_
  refine mo_law_L151_g q n n (0 : Int32) X12
theorem mo_law_J46_g (q : Th) (n : Nat) (v1 : Int32) (X : St) : G q (mF q nX12_law RX12 404) fiw 46 [(0, .ref (q.ad 102)), (1, .int v1)] [] X (mo_law_J46 n v1 X) := by
  unfold mo_law_J46
  refine g_iload_n 1 dX12_law_46 rfl rfl ?_
  refine g_if_eq dX12_law_47 rfl rfl ?_ ?_
  · refine g_iconst dX12_law_65 rfl kic_0 ?_
    refine g_sub [0] rfl ?_
    exact mo_law_J66_g q n (0 : Int32) X
  refine g_aload_n 0 dX12_law_50 rfl rfl ?_
  refine g_getI 102 18 rfl dX12_law_51 rfl kkX12 flX12_170 (by decide) rfl rfl (by decide) rfl ?_
  refine g_aload_n 0 dX12_law_54 rfl rfl ?_
  refine g_getI 102 10 rfl dX12_law_55 rfl kkX12 flX12_167 (by decide) rfl rfl (by decide) rfl ?_
  refine g_icmp_ne dX12_law_58 rfl rfl ?_ ?_
  · refine g_iconst dX12_law_61 rfl kic_1 ?_
    refine g_goto dX12_law_62 rfl ?_
    refine g_sub [0] rfl ?_
    exact mo_law_J66_g q n (1 : Int32) X
  refine g_iconst dX12_law_65 rfl kic_0 ?_
  refine g_sub [0] rfl ?_
  exact mo_law_J66_g q n (0 : Int32) X
theorem mo_law_c (q : Th) (n : Nat) (X : St) : Ct q nX12_law 404 fiw [.ref (q.ad 102)] X (mo_law n X) := by
  refine ct_of (by decide +kernel) (Nat.le_of_ble_eq_true rfl) ?_
  unfold mo_law
  show G q _ _ 0 [(0, .ref (q.ad 102))] [] X _
  refine g_aload_n 0 dX12_law_0 rfl rfl ?_
  refine g_iconst dX12_law_1 rfl kic_0 ?_
  refine g_putI 102 18 rfl dX12_law_2 rfl kkX12 flX12_170 (by decide) rfl rfl (by decide) rfl rfl rfl ?_
  refine g_aload_n 0 dX12_law_5 rfl rfl ?_
  refine g_iconst dX12_law_6 rfl kic_0 ?_
  refine g_putI 102 19 rfl dX12_law_7 rfl kkX12 flX12_191 (by decide) rfl rfl (by decide) rfl rfl rfl ?_
  refine g_aload_n 0 dX12_law_10 rfl rfl ?_
  refine g_iconst dX12_law_11 rfl kic_0 ?_
  refine g_putI 102 20 rfl dX12_law_12 rfl kkX12 flX12_177 (by decide) rfl rfl (by decide) rfl rfl rfl ?_
  refine g_nmX (fun X1 => ?_)
  refine g_aload_n 0 dX12_law_15 rfl rfl ?_
  refine g_iconst dX12_law_16 rfl kic_0 ?_
  refine g_putI 102 21 rfl dX12_law_17 rfl kkX12 flX12_215 (by decide) rfl rfl (by decide) rfl rfl rfl ?_
  refine g_aload_n 0 dX12_law_20 rfl rfl ?_
  refine g_cVIw (As := []) (st := []) 0 mF_wg rfl dX12_law_21 rfl kkX12 (by decide) rfl vX12_isLine lkX12_218 (rmL rfl rfl) (mo_isLine_c q n (stI X1 102 21 (0 : Int32))) rfl rfl (Nat.le_of_ble_eq_true rfl) (fun c3 X2 => ?_)
  refine g_istore_n (lv' := [(1, .int c3), (0, .ref (q.ad 102))]) dX12_law_24 rfl rfl (Nat.le_of_ble_eq_true rfl) rfl ?_
  refine g_sub [1, 0] rfl ?_
  refine mo_law_L25_g q n _ (fun v9 X8 => ?_) n c3 X2
  refine g_sub [0, 1] rfl ?_
  exact mo_law_J46_g q n v9 X8
def mo_both (v0 : Int32) (v1 : Int32) (v2 : Int32) : Option (Int32) :=
  (if v0 = (6 : Int32) then
  (if v1 = 0 then
  (if v2 = 0 then
  (some (0 : Int32))
  else
  (some (1 : Int32)))
  else
  (some (1 : Int32)))
  else
  (if v0 = (7 : Int32) then
  (if v1 = 0 then
  (some (0 : Int32))
  else
  (if v2 = 0 then
  (some (0 : Int32))
  else
  (some (1 : Int32))))
  else
  (if v0 = (8 : Int32) then
  (if v1 < v2 then
  (some (1 : Int32))
  else
  (some (0 : Int32)))
  else
  (if v0 = (9 : Int32) then
  (if v1 = v2 then
  (some (1 : Int32))
  else
  (some (0 : Int32)))
  else
  (if v0 = (10 : Int32) then
  (if v2 < v1 then
  (some (1 : Int32))
  else
  (some (0 : Int32)))
  else
  (if v0 = (11 : Int32) then
  (some (v1 + v2))
  else
  (if v0 = (12 : Int32) then
  (some (v1 - v2))
  else
  (if v0 = (13 : Int32) then
  (some (v1 * v2))
  else
  (if v0 = (14 : Int32) then
  (if v2 = 0 then
  (some (0 : Int32))
  else
  (if v2 = 0 then none else
  (some (v1 / v2))))
  else
  (if v2 = 0 then
  (some (0 : Int32))
  else
  (if v2 = 0 then none else
  (some (irm v1 v2)))))))))))))
theorem mo_both_c (q : Th) (v0 : Int32) (v1 : Int32) (v2 : Int32) (X : St) : Ct q nX12_both 0 (fir X) [.int v0, .int v1, .int v2] X (mo_both v0 v1 v2) := by
  refine ct_of (by decide +kernel) (Nat.le_of_ble_eq_true rfl) ?_
  unfold mo_both
  show G q _ _ 0 [(0, .int v0), (1, .int v1), (2, .int v2)] [] X _
  refine g_iload_n 0 dX12_both_0 rfl rfl ?_
  refine g_case (z := (6 : Int32)) (fun hc => ?_) (fun hc0 => ?_)
  · refine g_tableIn hc dX12_both_1 (by decide) (by decide) rfl rfl ?_
    refine g_iload_n 1 dX12_both_52 rfl rfl ?_
    refine g_if_ne dX12_both_53 rfl rfl ?_ ?_
    · refine g_iload_n 2 dX12_both_56 rfl rfl ?_
      refine g_if_eq dX12_both_57 rfl rfl ?_ ?_
      · refine g_iconst dX12_both_64 rfl kic_0 ?_
        exact g_iret dX12_both_65 rfl rfl
      refine g_iconst dX12_both_60 rfl kic_1 ?_
      refine g_goto dX12_both_61 rfl ?_
      exact g_iret dX12_both_65 rfl rfl
    refine g_iconst dX12_both_60 rfl kic_1 ?_
    refine g_goto dX12_both_61 rfl ?_
    exact g_iret dX12_both_65 rfl rfl
  refine g_case (z := (7 : Int32)) (fun hc => ?_) (fun hc1 => ?_)
  · refine g_tableIn hc dX12_both_1 (by decide) (by decide) rfl rfl ?_
    refine g_iload_n 1 dX12_both_66 rfl rfl ?_
    refine g_if_eq dX12_both_67 rfl rfl ?_ ?_
    · refine g_iconst dX12_both_78 rfl kic_0 ?_
      exact g_iret dX12_both_79 rfl rfl
    refine g_iload_n 2 dX12_both_70 rfl rfl ?_
    refine g_if_eq dX12_both_71 rfl rfl ?_ ?_
    · refine g_iconst dX12_both_78 rfl kic_0 ?_
      exact g_iret dX12_both_79 rfl rfl
    refine g_iconst dX12_both_74 rfl kic_1 ?_
    refine g_goto dX12_both_75 rfl ?_
    exact g_iret dX12_both_79 rfl rfl
  refine g_case (z := (8 : Int32)) (fun hc => ?_) (fun hc2 => ?_)
  · refine g_tableIn hc dX12_both_1 (by decide) (by decide) rfl rfl ?_
    refine g_iload_n 1 dX12_both_80 rfl rfl ?_
    refine g_iload_n 2 dX12_both_81 rfl rfl ?_
    refine g_icmp_ge dX12_both_82 rfl rfl ?_ ?_
    · refine g_iconst dX12_both_85 rfl kic_1 ?_
      refine g_goto dX12_both_86 rfl ?_
      exact g_iret dX12_both_90 rfl rfl
    refine g_iconst dX12_both_89 rfl kic_0 ?_
    exact g_iret dX12_both_90 rfl rfl
  refine g_case (z := (9 : Int32)) (fun hc => ?_) (fun hc3 => ?_)
  · refine g_tableIn hc dX12_both_1 (by decide) (by decide) rfl rfl ?_
    refine g_iload_n 1 dX12_both_91 rfl rfl ?_
    refine g_iload_n 2 dX12_both_92 rfl rfl ?_
    refine g_icmp_ne dX12_both_93 rfl rfl ?_ ?_
    · refine g_iconst dX12_both_96 rfl kic_1 ?_
      refine g_goto dX12_both_97 rfl ?_
      exact g_iret dX12_both_101 rfl rfl
    refine g_iconst dX12_both_100 rfl kic_0 ?_
    exact g_iret dX12_both_101 rfl rfl
  refine g_case (z := (10 : Int32)) (fun hc => ?_) (fun hc4 => ?_)
  · refine g_tableIn hc dX12_both_1 (by decide) (by decide) rfl rfl ?_
    refine g_iload_n 1 dX12_both_102 rfl rfl ?_
    refine g_iload_n 2 dX12_both_103 rfl rfl ?_
    refine g_icmp_le dX12_both_104 rfl rfl ?_ ?_
    · refine g_iconst dX12_both_107 rfl kic_1 ?_
      refine g_goto dX12_both_108 rfl ?_
      exact g_iret dX12_both_112 rfl rfl
    refine g_iconst dX12_both_111 rfl kic_0 ?_
    exact g_iret dX12_both_112 rfl rfl
  refine g_case (z := (11 : Int32)) (fun hc => ?_) (fun hc5 => ?_)
  · refine g_tableIn hc dX12_both_1 (by decide) (by decide) rfl rfl ?_
    refine g_iload_n 1 dX12_both_113 rfl rfl ?_
    refine g_iload_n 2 dX12_both_114 rfl rfl ?_
    refine g_iadd dX12_both_115 rfl ?_
    exact g_iret dX12_both_116 rfl rfl
  refine g_case (z := (12 : Int32)) (fun hc => ?_) (fun hc6 => ?_)
  · refine g_tableIn hc dX12_both_1 (by decide) (by decide) rfl rfl ?_
    refine g_iload_n 1 dX12_both_117 rfl rfl ?_
    refine g_iload_n 2 dX12_both_118 rfl rfl ?_
    refine g_isub dX12_both_119 rfl ?_
    exact g_iret dX12_both_120 rfl rfl
  refine g_case (z := (13 : Int32)) (fun hc => ?_) (fun hc7 => ?_)
  · refine g_tableIn hc dX12_both_1 (by decide) (by decide) rfl rfl ?_
    refine g_iload_n 1 dX12_both_121 rfl rfl ?_
    refine g_iload_n 2 dX12_both_122 rfl rfl ?_
    refine g_imul dX12_both_123 rfl ?_
    exact g_iret dX12_both_124 rfl rfl
  refine g_case (z := (14 : Int32)) (fun hc => ?_) (fun hc8 => ?_)
  · refine g_tableIn hc dX12_both_1 (by decide) (by decide) rfl rfl ?_
    refine g_iload_n 2 dX12_both_125 rfl rfl ?_
    refine g_if_ne dX12_both_126 rfl rfl ?_ ?_
    · refine g_iconst dX12_both_129 rfl kic_0 ?_
      refine g_goto dX12_both_130 rfl ?_
      exact g_iret dX12_both_136 rfl rfl
    refine g_iload_n 1 dX12_both_133 rfl rfl ?_
    refine g_iload_n 2 dX12_both_134 rfl rfl ?_
    refine g_idiv dX12_both_135 rfl ?_
    exact g_iret dX12_both_136 rfl rfl
  refine g_tableOut dX12_both_1 (by have e0 := lv_neT (a := 6) hc0 (by decide); have e1 := lv_neT (a := 7) hc1 (by decide); have e2 := lv_neT (a := 8) hc2 (by decide); have e3 := lv_neT (a := 9) hc3 (by decide); have e4 := lv_neT (a := 10) hc4 (by decide); have e5 := lv_neT (a := 11) hc5 (by decide); have e6 := lv_neT (a := 12) hc6 (by decide); have e7 := lv_neT (a := 13) hc7 (by decide); have e8 := lv_neT (a := 14) hc8 (by decide); omega) rfl ?_
  refine g_iload_n 2 dX12_both_137 rfl rfl ?_
  refine g_if_ne dX12_both_138 rfl rfl ?_ ?_
  · refine g_iconst dX12_both_141 rfl kic_0 ?_
    refine g_goto dX12_both_142 rfl ?_
    exact g_iret dX12_both_148 rfl rfl
  refine g_iload_n 1 dX12_both_145 rfl rfl ?_
  refine g_iload_n 2 dX12_both_146 rfl rfl ?_
  refine g_irem dX12_both_147 rfl ?_
  exact g_iret dX12_both_148 rfl rfl
def mo_worked_J81 (n : Nat) (k5 : Int32 → Int32 → Int32 → St → Option (Int32 × St)) (v2 : Int32) (v3 : Int32) (v4 : Int32) (v5 : Int32) (X : St) : Option (Int32 × St) :=
(if v5 = (17 : Int32) then
(if inB (v3 - (1 : Int32)) 200 then
(if inB (v3 - (1 : Int32)) 200 then
((some (stI X 121 (nx (v3 - (1 : Int32))) (-(X.1 121 (nx (v3 - (1 : Int32))))))).bind fun X1 =>
(k5 v2 v3 (v4 + (1 : Int32)) X1)) else none) else none)
else
(if inB (v3 - (1 : Int32)) 200 then
(if (X.1 121 (nx (v3 - (1 : Int32)))) = 0 then
(if inB (v3 - (1 : Int32)) 200 then
(k5 v2 v3 (v4 + (1 : Int32)) (stI X 121 (nx (v3 - (1 : Int32))) (1 : Int32))) else none)
else
(if inB (v3 - (1 : Int32)) 200 then
(k5 v2 v3 (v4 + (1 : Int32)) (stI X 121 (nx (v3 - (1 : Int32))) (0 : Int32))) else none)) else none))
def mo_worked_J33 (n : Nat) (k5 : Int32 → Int32 → Int32 → St → Option (Int32 × St)) (v2 : Int32) (v3 : Int32) (v4 : Int32) (v5 : Int32) (X : St) : Option (Int32 × St) :=
(if v5 < (18 : Int32) then
(if inB v5 6 then
(if inB v3 200 then
(k5 v2 (v3 + (1 : Int32)) (v4 + (1 : Int32)) (stI X 121 (nx v3) (X.1 122 (nx v5)))) else none) else none)
else
(if inB v3 200 then
(k5 v2 (v3 + (1 : Int32)) (v4 + (1 : Int32)) (stI X 121 (nx v3) (v5 - (18 : Int32)))) else none))
def mo_worked_L5_B (n : Nat) (rec : Int32 → Int32 → Int32 → St → Option (Int32 × St)) (v2 : Int32) (v3 : Int32) (v4 : Int32) (X : St) : Option (Int32 × St) :=
(if v4 < v2 then
(if inB v4 200 then
(if (X.1 116 (nx v4)) < (18 : Int32) then
(if (5 : Int32) < (X.1 116 (nx v4)) then
(if (X.1 116 (nx v4)) = (16 : Int32) then
(mo_worked_J81 n rec v2 v3 v4 (X.1 116 (nx v4)) X)
else
(if (X.1 116 (nx v4)) = (17 : Int32) then
(mo_worked_J81 n rec v2 v3 v4 (X.1 116 (nx v4)) X)
else
(if inB ((v3 + (-1 : Int32)) - (1 : Int32)) 200 then
(if inB (v3 + (-1 : Int32)) 200 then
((mo_both (X.1 116 (nx v4)) (X.1 121 (nx ((v3 + (-1 : Int32)) - (1 : Int32)))) (X.1 121 (nx (v3 + (-1 : Int32))))).bind fun c2 =>
(if inB ((v3 + (-1 : Int32)) - (1 : Int32)) 200 then
(rec v2 (v3 + (-1 : Int32)) (v4 + (1 : Int32)) (stI X 121 (nx ((v3 + (-1 : Int32)) - (1 : Int32))) c2)) else none)) else none) else none)))
else
(mo_worked_J33 n rec v2 v3 v4 (X.1 116 (nx v4)) X))
else
(mo_worked_J33 n rec v2 v3 v4 (X.1 116 (nx v4)) X)) else none)
else
(some ((X.1 121 (nx (0 : Int32))), X)))
def mo_worked_L5 (n : Nat) : Nat → Int32 → Int32 → Int32 → St → Option (Int32 × St)
  | 0 => fun _ _ _ _ => none
  | w + 1 => mo_worked_L5_B n (mo_worked_L5 n w)
def mo_worked (n : Nat) (v1 : Int32) (v2 : Int32) (X : St) : Option (Int32 × St) :=
  (mo_worked_L5 n n v2 (0 : Int32) v1 X)
theorem mo_worked_J81_g (q : Th) (n : Nat) (k5 : Int32 → Int32 → Int32 → St → Option (Int32 × St)) (hk5 : ∀ v2 v3 v4 X, G q (mF q nX12_worked RX12 1) fiw 5 [(0, .ref (q.ad 102)), (2, .int v2), (3, .int v3), (4, .int v4)] [] X (k5 v2 v3 v4 X)) (v2 : Int32) (v3 : Int32) (v4 : Int32) (v5 : Int32) (X : St) : G q (mF q nX12_worked RX12 1) fiw 81 [(0, .ref (q.ad 102)), (2, .int v2), (3, .int v3), (4, .int v4), (5, .int v5)] [] X (mo_worked_J81 n k5 v2 v3 v4 v5 X) := by
  unfold mo_worked_J81
  refine g_aload_n 0 dX12_worked_81 rfl rfl ?_
  refine g_getR 102 26 121 rfl dX12_worked_82 rfl kkX12 flX12_66 (by decide) rfl rfl (by decide) rfl ?_
  refine g_iload_n 2 dX12_worked_85 rfl rfl ?_
  refine g_iconst dX12_worked_86 rfl kic_1 ?_
  refine g_isub dX12_worked_87 rfl ?_
  refine g_iload 4 dX12_worked_88 rfl rfl ?_
  refine g_bipush dX12_worked_90 rfl kbi_17 ?_
  refine g_icmp_ne dX12_worked_92 rfl rfl ?_ ?_
  · refine g_aload_n 0 dX12_worked_95 rfl rfl ?_
    refine g_getR 102 26 121 rfl dX12_worked_96 rfl kkX12 flX12_66 (by decide) rfl rfl (by decide) rfl ?_
    refine g_iload_n 2 dX12_worked_99 rfl rfl ?_
    refine g_iconst dX12_worked_100 rfl kic_1 ?_
    refine g_isub dX12_worked_101 rfl ?_
    refine g_iald dX12_worked_102 rfl (by decide) rfl rfl ?_
    refine g_ineg dX12_worked_103 rfl ?_
    refine g_goto dX12_worked_104 rfl ?_
    refine g_iast dX12_worked_123 rfl (by decide) rfl rfl ?_
    refine g_nmX (fun X1 => ?_)
    refine g_goto dX12_worked_124 rfl ?_
    refine g_inc (lv' := [(4, .int (v4 + (1 : Int32))), (0, .ref (q.ad 102)), (2, .int v2), (3, .int v3), (5, .int v5)]) 3 dX12_worked_157 rfl rfl kic_1 (Nat.le_of_ble_eq_true rfl) rfl ?_
    refine g_goto dX12_worked_160 rfl ?_
    refine g_sub [1, 2, 3, 0] rfl ?_
    exact hk5 v2 v3 (v4 + (1 : Int32)) X1
  refine g_aload_n 0 dX12_worked_107 rfl rfl ?_
  refine g_getR 102 26 121 rfl dX12_worked_108 rfl kkX12 flX12_66 (by decide) rfl rfl (by decide) rfl ?_
  refine g_iload_n 2 dX12_worked_111 rfl rfl ?_
  refine g_iconst dX12_worked_112 rfl kic_1 ?_
  refine g_isub dX12_worked_113 rfl ?_
  refine g_iald dX12_worked_114 rfl (by decide) rfl rfl ?_
  refine g_if_ne dX12_worked_115 rfl rfl ?_ ?_
  · refine g_iconst dX12_worked_118 rfl kic_1 ?_
    refine g_goto dX12_worked_119 rfl ?_
    refine g_iast dX12_worked_123 rfl (by decide) rfl rfl ?_
    refine g_goto dX12_worked_124 rfl ?_
    refine g_inc (lv' := [(4, .int (v4 + (1 : Int32))), (0, .ref (q.ad 102)), (2, .int v2), (3, .int v3), (5, .int v5)]) 3 dX12_worked_157 rfl rfl kic_1 (Nat.le_of_ble_eq_true rfl) rfl ?_
    refine g_goto dX12_worked_160 rfl ?_
    refine g_sub [1, 2, 3, 0] rfl ?_
    exact hk5 v2 v3 (v4 + (1 : Int32)) (stI X 121 (nx (v3 - (1 : Int32))) (1 : Int32))
  refine g_iconst dX12_worked_122 rfl kic_0 ?_
  refine g_iast dX12_worked_123 rfl (by decide) rfl rfl ?_
  refine g_goto dX12_worked_124 rfl ?_
  refine g_inc (lv' := [(4, .int (v4 + (1 : Int32))), (0, .ref (q.ad 102)), (2, .int v2), (3, .int v3), (5, .int v5)]) 3 dX12_worked_157 rfl rfl kic_1 (Nat.le_of_ble_eq_true rfl) rfl ?_
  refine g_goto dX12_worked_160 rfl ?_
  refine g_sub [1, 2, 3, 0] rfl ?_
  exact hk5 v2 v3 (v4 + (1 : Int32)) (stI X 121 (nx (v3 - (1 : Int32))) (0 : Int32))
theorem mo_worked_J33_g (q : Th) (n : Nat) (k5 : Int32 → Int32 → Int32 → St → Option (Int32 × St)) (hk5 : ∀ v2 v3 v4 X, G q (mF q nX12_worked RX12 1) fiw 5 [(0, .ref (q.ad 102)), (2, .int v2), (3, .int v3), (4, .int v4)] [] X (k5 v2 v3 v4 X)) (v2 : Int32) (v3 : Int32) (v4 : Int32) (v5 : Int32) (X : St) : G q (mF q nX12_worked RX12 1) fiw 33 [(0, .ref (q.ad 102)), (2, .int v2), (3, .int v3), (4, .int v4), (5, .int v5)] [] X (mo_worked_J33 n k5 v2 v3 v4 v5 X) := by
  unfold mo_worked_J33
  refine g_aload_n 0 dX12_worked_33 rfl rfl ?_
  refine g_getR 102 26 121 rfl dX12_worked_34 rfl kkX12 flX12_66 (by decide) rfl rfl (by decide) rfl ?_
  refine g_iload_n 2 dX12_worked_37 rfl rfl ?_
  refine g_inc (lv' := [(3, .int (v3 + (1 : Int32))), (0, .ref (q.ad 102)), (2, .int v2), (4, .int v4), (5, .int v5)]) 2 dX12_worked_38 rfl rfl kic_1 (Nat.le_of_ble_eq_true rfl) rfl ?_
  refine g_iload 4 dX12_worked_41 rfl rfl ?_
  refine g_bipush dX12_worked_43 rfl kbi_18 ?_
  refine g_icmp_lt dX12_worked_45 rfl rfl ?_ ?_
  · refine g_aload_n 1 dX12_worked_56 rfl rfl ?_
    refine g_getR 102 27 122 rfl dX12_worked_57 rfl kkX12 flX12_69 (by decide) rfl rfl (by decide) rfl ?_
    refine g_iload 4 dX12_worked_60 rfl rfl ?_
    refine g_iald dX12_worked_62 rfl (by decide) rfl rfl ?_
    refine g_iast dX12_worked_63 rfl (by decide) rfl rfl ?_
    refine g_goto dX12_worked_64 rfl ?_
    refine g_inc (lv' := [(4, .int (v4 + (1 : Int32))), (3, .int (v3 + (1 : Int32))), (0, .ref (q.ad 102)), (2, .int v2), (5, .int v5)]) 3 dX12_worked_157 rfl rfl kic_1 (Nat.le_of_ble_eq_true rfl) rfl ?_
    refine g_goto dX12_worked_160 rfl ?_
    refine g_sub [2, 3, 1, 0] rfl ?_
    exact hk5 v2 (v3 + (1 : Int32)) (v4 + (1 : Int32)) (stI X 121 (nx v3) (X.1 122 (nx v5)))
  refine g_iload 4 dX12_worked_48 rfl rfl ?_
  refine g_bipush dX12_worked_50 rfl kbi_18 ?_
  refine g_isub dX12_worked_52 rfl ?_
  refine g_goto dX12_worked_53 rfl ?_
  refine g_iast dX12_worked_63 rfl (by decide) rfl rfl ?_
  refine g_goto dX12_worked_64 rfl ?_
  refine g_inc (lv' := [(4, .int (v4 + (1 : Int32))), (3, .int (v3 + (1 : Int32))), (0, .ref (q.ad 102)), (2, .int v2), (5, .int v5)]) 3 dX12_worked_157 rfl rfl kic_1 (Nat.le_of_ble_eq_true rfl) rfl ?_
  refine g_goto dX12_worked_160 rfl ?_
  refine g_sub [2, 3, 1, 0] rfl ?_
  exact hk5 v2 (v3 + (1 : Int32)) (v4 + (1 : Int32)) (stI X 121 (nx v3) (v5 - (18 : Int32)))
theorem mo_worked_L5_Bg (q : Th) (n : Nat) (rec : Int32 → Int32 → Int32 → St → Option (Int32 × St)) (hrec : ∀ v2 v3 v4 X, G q (mF q nX12_worked RX12 1) fiw 5 [(0, .ref (q.ad 102)), (2, .int v2), (3, .int v3), (4, .int v4)] [] X (rec v2 v3 v4 X)) (v2 : Int32) (v3 : Int32) (v4 : Int32) (X : St) : G q (mF q nX12_worked RX12 1) fiw 5 [(0, .ref (q.ad 102)), (2, .int v2), (3, .int v3), (4, .int v4)] [] X (mo_worked_L5_B n rec v2 v3 v4 X) := by
  unfold mo_worked_L5_B
  refine g_iload 3 dX12_worked_5 rfl rfl ?_
  refine g_iload_n 1 dX12_worked_7 rfl rfl ?_
  refine g_icmp_ge dX12_worked_8 rfl rfl ?_ ?_
  · refine g_aload_n 0 dX12_worked_11 rfl rfl ?_
    refine g_getR 102 17 116 rfl dX12_worked_12 rfl kkX12 flX12_51 (by decide) rfl rfl (by decide) rfl ?_
    refine g_iload 3 dX12_worked_15 rfl rfl ?_
    refine g_iald dX12_worked_17 rfl (by decide) rfl rfl ?_
    refine g_istore (lv' := [(5, .int (X.1 116 (nx v4))), (0, .ref (q.ad 102)), (2, .int v2), (3, .int v3), (4, .int v4)]) dX12_worked_18 rfl (Nat.le_of_ble_eq_true rfl) rfl ?_
    refine g_iload 0 dX12_worked_20 rfl rfl ?_
    refine g_bipush dX12_worked_22 rfl kbi_18 ?_
    refine g_icmp_ge dX12_worked_24 rfl rfl ?_ ?_
    · refine g_iload 0 dX12_worked_27 rfl rfl ?_
      refine g_iconst dX12_worked_29 rfl kic_5 ?_
      refine g_icmp_gt dX12_worked_30 rfl rfl ?_ ?_
      · refine g_iload 0 dX12_worked_67 rfl rfl ?_
        refine g_bipush dX12_worked_69 rfl kbi_16 ?_
        refine g_icmp_eq dX12_worked_71 rfl rfl ?_ ?_
        · refine g_sub [1, 2, 3, 4, 0] rfl ?_
          exact mo_worked_J81_g q n _ hrec v2 v3 v4 (X.1 116 (nx v4)) X
        refine g_iload 0 dX12_worked_74 rfl rfl ?_
        refine g_bipush dX12_worked_76 rfl kbi_17 ?_
        refine g_icmp_ne dX12_worked_78 rfl rfl ?_ ?_
        · refine g_sub [1, 2, 3, 4, 0] rfl ?_
          exact mo_worked_J81_g q n _ hrec v2 v3 v4 (X.1 116 (nx v4)) X
        refine g_inc (lv' := [(3, .int (v3 + (-1 : Int32))), (5, .int (X.1 116 (nx v4))), (0, .ref (q.ad 102)), (2, .int v2), (4, .int v4)]) 3 dX12_worked_127 rfl rfl kic_m1 (Nat.le_of_ble_eq_true rfl) rfl ?_
        refine g_aload_n 2 dX12_worked_130 rfl rfl ?_
        refine g_getR 102 26 121 rfl dX12_worked_131 rfl kkX12 flX12_66 (by decide) rfl rfl (by decide) rfl ?_
        refine g_iload_n 0 dX12_worked_134 rfl rfl ?_
        refine g_iconst dX12_worked_135 rfl kic_1 ?_
        refine g_isub dX12_worked_136 rfl ?_
        refine g_iload 1 dX12_worked_137 rfl rfl ?_
        refine g_aload_n 2 dX12_worked_139 rfl rfl ?_
        refine g_getR 102 26 121 rfl dX12_worked_140 rfl kkX12 flX12_66 (by decide) rfl rfl (by decide) rfl ?_
        refine g_iload_n 0 dX12_worked_143 rfl rfl ?_
        refine g_iconst dX12_worked_144 rfl kic_1 ?_
        refine g_isub dX12_worked_145 rfl ?_
        refine g_iald dX12_worked_146 rfl (by decide) rfl rfl ?_
        refine g_aload_n 2 dX12_worked_147 rfl rfl ?_
        refine g_getR 102 26 121 rfl dX12_worked_148 rfl kkX12 flX12_66 (by decide) rfl rfl (by decide) rfl ?_
        refine g_iload_n 0 dX12_worked_151 rfl rfl ?_
        refine g_iald dX12_worked_152 rfl (by decide) rfl rfl ?_
        refine g_cSIr (As := [.int (X.1 116 (nx v4)), .int (X.1 121 (nx ((v3 + (-1 : Int32)) - (1 : Int32)))), .int (X.1 121 (nx (v3 + (-1 : Int32))))]) (st := [.int ((v3 + (-1 : Int32)) - (1 : Int32)), .ref (q.ad 121)]) 3 mF_wg rfl dX12_worked_153 rfl vX12_both lkX12_228 (rmL rfl rfl) (mo_both_c q (X.1 116 (nx v4)) (X.1 121 (nx ((v3 + (-1 : Int32)) - (1 : Int32)))) (X.1 121 (nx (v3 + (-1 : Int32)))) X) rfl rfl (Nat.le_of_ble_eq_true rfl) (fun c2 => ?_)
        refine g_iast dX12_worked_156 rfl (by decide) rfl rfl ?_
        refine g_inc (lv' := [(4, .int (v4 + (1 : Int32))), (3, .int (v3 + (-1 : Int32))), (5, .int (X.1 116 (nx v4))), (0, .ref (q.ad 102)), (2, .int v2)]) 4 dX12_worked_157 rfl rfl kic_1 (Nat.le_of_ble_eq_true rfl) rfl ?_
        refine g_goto dX12_worked_160 rfl ?_
        refine g_sub [3, 4, 1, 0] rfl ?_
        exact hrec v2 (v3 + (-1 : Int32)) (v4 + (1 : Int32)) (stI X 121 (nx ((v3 + (-1 : Int32)) - (1 : Int32))) c2)
      refine g_sub [1, 2, 3, 4, 0] rfl ?_
      exact mo_worked_J33_g q n _ hrec v2 v3 v4 (X.1 116 (nx v4)) X
    refine g_sub [1, 2, 3, 4, 0] rfl ?_
    exact mo_worked_J33_g q n _ hrec v2 v3 v4 (X.1 116 (nx v4)) X
  refine g_aload_n 0 dX12_worked_163 rfl rfl ?_
  refine g_getR 102 26 121 rfl dX12_worked_164 rfl kkX12 flX12_66 (by decide) rfl rfl (by decide) rfl ?_
  refine g_iconst dX12_worked_167 rfl kic_0 ?_
  refine g_iald0 dX12_worked_168 rfl (by decide) rfl rfl (by decide) ?_
  exact g_iret dX12_worked_169 rfl rfl
theorem mo_worked_L5_g (q : Th) (n : Nat) : ∀ (w : Nat) (v2 : Int32) (v3 : Int32) (v4 : Int32) (X : St), G q (mF q nX12_worked RX12 1) fiw 5 [(0, .ref (q.ad 102)), (2, .int v2), (3, .int v3), (4, .int v4)] [] X (mo_worked_L5 n w v2 v3 v4 X) := by
  intro w
  induction w with
  | zero => intro v2 v3 v4 X; exact g_none
  | succ w ih => intro v2 v3 v4 X; exact mo_worked_L5_Bg q n _ ih v2 v3 v4 X
theorem mo_worked_c (q : Th) (n : Nat) (v1 : Int32) (v2 : Int32) (X : St) : Ct q nX12_worked 1 fiw [.ref (q.ad 102), .int v1, .int v2] X (mo_worked n v1 v2 X) := by
  refine ct_of (by decide +kernel) (Nat.le_of_ble_eq_true rfl) ?_
  unfold mo_worked
  show G q _ _ 0 [(0, .ref (q.ad 102)), (1, .int v1), (2, .int v2)] [] X _
  refine g_iconst dX12_worked_0 rfl kic_0 ?_
  refine g_istore_n (lv' := [(3, .int (0 : Int32)), (0, .ref (q.ad 102)), (1, .int v1), (2, .int v2)]) dX12_worked_1 rfl rfl (Nat.le_of_ble_eq_true rfl) rfl ?_
  refine g_iload_n 2 dX12_worked_2 rfl rfl ?_
  refine g_istore (lv' := [(4, .int v1), (3, .int (0 : Int32)), (0, .ref (q.ad 102)), (1, .int v1), (2, .int v2)]) dX12_worked_3 rfl (Nat.le_of_ble_eq_true rfl) rfl ?_
  refine g_sub [2, 4, 1, 0] rfl ?_
  refine mo_worked_L5_g q n n v2 (0 : Int32) v1 X
def mo_loss_L132_B (n : Nat) (k182 : Int32 → St → Option (Int32 × St)) (rec : Int32 → St → Option (Int32 × St)) (v6 : Int32) (X : St) : Option (Int32 × St) :=
(if v6 < (X.1 102 13) then
(if inB v6 60 then
(if inB v6 60 then
(if (X.1 113 (nx v6)) < (X.1 114 (nx v6)) then
(if inB v6 60 then
(if inB v6 60 then
((mo_worked n (X.1 113 (nx v6)) (X.1 114 (nx v6)) X).bind fun (c6, X5) =>
(if c6 = 0 then
(rec (v6 + (1 : Int32)) X5)
else
(k182 v6 X5))) else none) else none)
else
(k182 v6 X)) else none) else none)
else
(some ((0 : Int32), X)))
def mo_loss_L132 (n : Nat) (k182 : Int32 → St → Option (Int32 × St)) : Nat → Int32 → St → Option (Int32 × St)
  | 0 => fun _ _ => none
  | w + 1 => mo_loss_L132_B n k182 (mo_loss_L132 n k182 w)
def mo_loss_J182 (n : Nat) (v6 : Int32) (X : St) : Option (Int32 × St) :=
(if inB v6 60 then
(if inB v6 60 then
((mo_worked n (X.1 114 (nx v6)) (X.1 115 (nx v6)) X).bind fun (c10, X9) =>
(some ((jmath_max (0 : Int32) (jmath_min (99 : Int32) c10)), X9))) else none) else none)
def mo_loss (n : Nat) (v1 : Int32) (v2 : Int32) (v3 : Int32) (v4 : Int32) (v5 : Int32) (X : St) : Option (Int32 × St) :=
  (if (X.1 102 12) = 0 then
  (if (X.1 109 (nx (1 : Int32))) = 0 then none else
  (if v4 = (2 : Int32) then
  (some ((jmath_min (99 : Int32) ((v3 / (X.1 109 (nx (1 : Int32)))) * (2 : Int32))), X))
  else
  (some ((jmath_min (99 : Int32) ((v3 / (X.1 109 (nx (1 : Int32)))) * (1 : Int32))), X))))
  else
  ((some (stI (stI X 122 (nx (0 : Int32)) v3) 122 (nx (1 : Int32)) v4)).bind fun X1 =>
  (if inB v1 8 then
  (if inB v2 8 then
  (if inB v1 8 then
  (if inB v2 8 then
  ((some (stI X1 122 (nx (2 : Int32)) ((jmath_abs ((X1.1 103 (nx v1)) - (X1.1 103 (nx v2)))) + (jmath_abs ((X1.1 104 (nx v1)) - (X1.1 104 (nx v2))))))).bind fun X2 =>
  (if inB v1 8 then
  (if inB v2 8 then
  ((some (stI X2 122 (nx (3 : Int32)) (jmath_abs ((X2.1 105 (nx v1)) - (X2.1 105 (nx v2)))))).bind fun X3 =>
  ((some (stI (stI X3 122 (nx (4 : Int32)) v5) 122 (nx (5 : Int32)) ((stI X3 122 (nx (4 : Int32)) v5).1 109 (nx (1 : Int32))))).bind fun X4 =>
  (mo_loss_L132 n (fun v8 X7 =>
  (mo_loss_J182 n v8 X7)) n (0 : Int32) X4))) else none) else none)) else none) else none) else none) else none)))
theorem mo_loss_L132_Bg (q : Th) (n : Nat) (k182 : Int32 → St → Option (Int32 × St)) (hk182 : ∀ v6 X, G q (mF q nX12_loss RX12 2) fiw 182 [(0, .ref (q.ad 102)), (6, .int v6)] [] X (k182 v6 X)) (rec : Int32 → St → Option (Int32 × St)) (hrec : ∀ v6 X, G q (mF q nX12_loss RX12 2) fiw 132 [(0, .ref (q.ad 102)), (6, .int v6)] [] X (rec v6 X)) (v6 : Int32) (X : St) : G q (mF q nX12_loss RX12 2) fiw 132 [(0, .ref (q.ad 102)), (6, .int v6)] [] X (mo_loss_L132_B n k182 rec v6 X) := by
  unfold mo_loss_L132_B
  refine g_iload 1 dX12_loss_132 rfl rfl ?_
  refine g_aload_n 0 dX12_loss_134 rfl rfl ?_
  refine g_getI 102 13 rfl dX12_loss_135 rfl kkX12 flX12_225 (by decide) rfl rfl (by decide) rfl ?_
  refine g_icmp_ge dX12_loss_138 rfl rfl ?_ ?_
  · refine g_aload_n 0 dX12_loss_141 rfl rfl ?_
    refine g_getR 102 15 114 rfl dX12_loss_142 rfl kkX12 flX12_45 (by decide) rfl rfl (by decide) rfl ?_
    refine g_iload 1 dX12_loss_145 rfl rfl ?_
    refine g_iald dX12_loss_147 rfl (by decide) rfl rfl ?_
    refine g_aload_n 0 dX12_loss_148 rfl rfl ?_
    refine g_getR 102 14 113 rfl dX12_loss_149 rfl kkX12 flX12_42 (by decide) rfl rfl (by decide) rfl ?_
    refine g_iload 1 dX12_loss_152 rfl rfl ?_
    refine g_iald dX12_loss_154 rfl (by decide) rfl rfl ?_
    refine g_icmp_le dX12_loss_155 rfl rfl ?_ ?_
    · refine g_aload_n 0 dX12_loss_158 rfl rfl ?_
      refine g_aload_n 0 dX12_loss_159 rfl rfl ?_
      refine g_getR 102 14 113 rfl dX12_loss_160 rfl kkX12 flX12_42 (by decide) rfl rfl (by decide) rfl ?_
      refine g_iload 1 dX12_loss_163 rfl rfl ?_
      refine g_iald dX12_loss_165 rfl (by decide) rfl rfl ?_
      refine g_aload_n 0 dX12_loss_166 rfl rfl ?_
      refine g_getR 102 15 114 rfl dX12_loss_167 rfl kkX12 flX12_45 (by decide) rfl rfl (by decide) rfl ?_
      refine g_iload 1 dX12_loss_170 rfl rfl ?_
      refine g_iald dX12_loss_172 rfl (by decide) rfl rfl ?_
      refine g_cVIw (As := [.int (X.1 113 (nx v6)), .int (X.1 114 (nx v6))]) (st := []) 2 mF_wg rfl dX12_loss_173 rfl kkX12 (by decide) rfl vX12_worked lkX12_240 (rmL rfl rfl) (mo_worked_c q n (X.1 113 (nx v6)) (X.1 114 (nx v6)) X) rfl rfl (Nat.le_of_ble_eq_true rfl) (fun c6 X5 => ?_)
      refine g_if_ne dX12_loss_176 rfl rfl ?_ ?_
      · refine g_goto dX12_loss_179 rfl ?_
        refine g_inc (lv' := [(6, .int (v6 + (1 : Int32))), (0, .ref (q.ad 102))]) 1 dX12_loss_210 rfl rfl kic_1 (Nat.le_of_ble_eq_true rfl) rfl ?_
        refine g_goto dX12_loss_213 rfl ?_
        refine g_sub [1, 0] rfl ?_
        exact hrec (v6 + (1 : Int32)) X5
      refine g_sub [0, 1] rfl ?_
      exact hk182 v6 X5
    refine g_sub [0, 1] rfl ?_
    exact hk182 v6 X
  refine g_iconst dX12_loss_216 rfl kic_0 ?_
  exact g_iret dX12_loss_217 rfl rfl
theorem mo_loss_L132_g (q : Th) (n : Nat) (k182 : Int32 → St → Option (Int32 × St)) (hk182 : ∀ v6 X, G q (mF q nX12_loss RX12 2) fiw 182 [(0, .ref (q.ad 102)), (6, .int v6)] [] X (k182 v6 X)) : ∀ (w : Nat) (v6 : Int32) (X : St), G q (mF q nX12_loss RX12 2) fiw 132 [(0, .ref (q.ad 102)), (6, .int v6)] [] X (mo_loss_L132 n k182 w v6 X) := by
  intro w
  induction w with
  | zero => intro v6 X; exact g_none
  | succ w ih => intro v6 X; exact mo_loss_L132_Bg q n k182 hk182 _ ih v6 X
theorem mo_loss_J182_g (q : Th) (n : Nat) (v6 : Int32) (X : St) : G q (mF q nX12_loss RX12 2) fiw 182 [(0, .ref (q.ad 102)), (6, .int v6)] [] X (mo_loss_J182 n v6 X) := by
  unfold mo_loss_J182
  refine g_iconst dX12_loss_182 rfl kic_0 ?_
  refine g_bipush dX12_loss_183 rfl kbi_99 ?_
  refine g_aload_n 0 dX12_loss_185 rfl rfl ?_
  refine g_aload_n 0 dX12_loss_186 rfl rfl ?_
  refine g_getR 102 15 114 rfl dX12_loss_187 rfl kkX12 flX12_45 (by decide) rfl rfl (by decide) rfl ?_
  refine g_iload 1 dX12_loss_190 rfl rfl ?_
  refine g_iald dX12_loss_192 rfl (by decide) rfl rfl ?_
  refine g_aload_n 0 dX12_loss_193 rfl rfl ?_
  refine g_getR 102 16 115 rfl dX12_loss_194 rfl kkX12 flX12_48 (by decide) rfl rfl (by decide) rfl ?_
  refine g_iload 1 dX12_loss_197 rfl rfl ?_
  refine g_iald dX12_loss_199 rfl (by decide) rfl rfl ?_
  refine g_cVIw (As := [.int (X.1 114 (nx v6)), .int (X.1 115 (nx v6))]) (st := [.int (99 : Int32), .int (0 : Int32)]) 2 mF_wg rfl dX12_loss_200 rfl kkX12 (by decide) rfl vX12_worked lkX12_240 (rmL rfl rfl) (mo_worked_c q n (X.1 114 (nx v6)) (X.1 115 (nx v6)) X) rfl rfl (Nat.le_of_ble_eq_true rfl) (fun c10 X9 => ?_)
  refine g_mmin (st := [.int (0 : Int32)]) rfl dX12_loss_203 rfl lkX12_232 (rmL rfl rfl) (Nat.le_of_ble_eq_true rfl) ?_
  refine g_mmax (st := []) rfl dX12_loss_206 rfl lkX12_243 (rmL rfl rfl) (Nat.le_of_ble_eq_true rfl) ?_
  exact g_iret dX12_loss_209 rfl rfl
theorem mo_loss_c (q : Th) (n : Nat) (v1 : Int32) (v2 : Int32) (v3 : Int32) (v4 : Int32) (v5 : Int32) (X : St) : Ct q nX12_loss 2 fiw [.ref (q.ad 102), .int v1, .int v2, .int v3, .int v4, .int v5] X (mo_loss n v1 v2 v3 v4 v5 X) := by
  refine ct_of (by decide +kernel) (Nat.le_of_ble_eq_true rfl) ?_
  unfold mo_loss
  show G q _ _ 0 [(0, .ref (q.ad 102)), (1, .int v1), (2, .int v2), (3, .int v3), (4, .int v4), (5, .int v5)] [] X _
  refine g_aload_n 0 dX12_loss_0 rfl rfl ?_
  refine g_getI 102 12 rfl dX12_loss_1 rfl kkX12 flX12_221 (by decide) rfl rfl (by decide) rfl ?_
  refine g_if_ne dX12_loss_4 rfl rfl ?_ ?_
  · refine g_bipush dX12_loss_7 rfl kbi_99 ?_
    refine g_iload_n 3 dX12_loss_9 rfl rfl ?_
    refine g_aload_n 0 dX12_loss_10 rfl rfl ?_
    refine g_getR 102 7 109 rfl dX12_loss_11 rfl kkX12 flX12_30 (by decide) rfl rfl (by decide) rfl ?_
    refine g_iconst dX12_loss_14 rfl kic_1 ?_
    refine g_iald0 dX12_loss_15 rfl (by decide) rfl rfl (by decide) ?_
    refine g_idiv dX12_loss_16 rfl ?_
    refine g_iload 4 dX12_loss_17 rfl rfl ?_
    refine g_iconst dX12_loss_19 rfl kic_2 ?_
    refine g_icmp_ne dX12_loss_20 rfl rfl ?_ ?_
    · refine g_iconst dX12_loss_23 rfl kic_2 ?_
      refine g_goto dX12_loss_24 rfl ?_
      refine g_imul dX12_loss_28 rfl ?_
      refine g_mmin (st := []) rfl dX12_loss_29 rfl lkX12_232 (rmL rfl rfl) (Nat.le_of_ble_eq_true rfl) ?_
      exact g_iret dX12_loss_32 rfl rfl
    refine g_iconst dX12_loss_27 rfl kic_1 ?_
    refine g_imul dX12_loss_28 rfl ?_
    refine g_mmin (st := []) rfl dX12_loss_29 rfl lkX12_232 (rmL rfl rfl) (Nat.le_of_ble_eq_true rfl) ?_
    exact g_iret dX12_loss_32 rfl rfl
  refine g_aload_n 0 dX12_loss_33 rfl rfl ?_
  refine g_getR 102 27 122 rfl dX12_loss_34 rfl kkX12 flX12_69 (by decide) rfl rfl (by decide) rfl ?_
  refine g_iconst dX12_loss_37 rfl kic_0 ?_
  refine g_iload_n 3 dX12_loss_38 rfl rfl ?_
  refine g_iast0 dX12_loss_39 rfl (by decide) rfl rfl (by decide) ?_
  refine g_aload_n 0 dX12_loss_40 rfl rfl ?_
  refine g_getR 102 27 122 rfl dX12_loss_41 rfl kkX12 flX12_69 (by decide) rfl rfl (by decide) rfl ?_
  refine g_iconst dX12_loss_44 rfl kic_1 ?_
  refine g_iload 4 dX12_loss_45 rfl rfl ?_
  refine g_iast0 dX12_loss_47 rfl (by decide) rfl rfl (by decide) ?_
  refine g_nmX (fun X1 => ?_)
  refine g_aload_n 0 dX12_loss_48 rfl rfl ?_
  refine g_getR 102 27 122 rfl dX12_loss_49 rfl kkX12 flX12_69 (by decide) rfl rfl (by decide) rfl ?_
  refine g_iconst dX12_loss_52 rfl kic_2 ?_
  refine g_aload_n 0 dX12_loss_53 rfl rfl ?_
  refine g_getR 102 1 103 rfl dX12_loss_54 rfl kkX12 flX12_9 (by decide) rfl rfl (by decide) rfl ?_
  refine g_iload_n 1 dX12_loss_57 rfl rfl ?_
  refine g_iald dX12_loss_58 rfl (by decide) rfl rfl ?_
  refine g_aload_n 0 dX12_loss_59 rfl rfl ?_
  refine g_getR 102 1 103 rfl dX12_loss_60 rfl kkX12 flX12_9 (by decide) rfl rfl (by decide) rfl ?_
  refine g_iload_n 2 dX12_loss_63 rfl rfl ?_
  refine g_iald dX12_loss_64 rfl (by decide) rfl rfl ?_
  refine g_isub dX12_loss_65 rfl ?_
  refine g_mabs (st := [.int (2 : Int32), .ref (q.ad 122)]) rfl dX12_loss_66 rfl lkX12_237 (rmL rfl rfl) (Nat.le_of_ble_eq_true rfl) ?_
  refine g_aload_n 0 dX12_loss_69 rfl rfl ?_
  refine g_getR 102 2 104 rfl dX12_loss_70 rfl kkX12 flX12_15 (by decide) rfl rfl (by decide) rfl ?_
  refine g_iload_n 1 dX12_loss_73 rfl rfl ?_
  refine g_iald dX12_loss_74 rfl (by decide) rfl rfl ?_
  refine g_aload_n 0 dX12_loss_75 rfl rfl ?_
  refine g_getR 102 2 104 rfl dX12_loss_76 rfl kkX12 flX12_15 (by decide) rfl rfl (by decide) rfl ?_
  refine g_iload_n 2 dX12_loss_79 rfl rfl ?_
  refine g_iald dX12_loss_80 rfl (by decide) rfl rfl ?_
  refine g_isub dX12_loss_81 rfl ?_
  refine g_mabs (st := [.int (jmath_abs ((X1.1 103 (nx v1)) - (X1.1 103 (nx v2)))), .int (2 : Int32), .ref (q.ad 122)]) rfl dX12_loss_82 rfl lkX12_237 (rmL rfl rfl) (Nat.le_of_ble_eq_true rfl) ?_
  refine g_iadd dX12_loss_85 rfl ?_
  refine g_iast0 dX12_loss_86 rfl (by decide) rfl rfl (by decide) ?_
  refine g_nmX (fun X2 => ?_)
  refine g_aload_n 0 dX12_loss_87 rfl rfl ?_
  refine g_getR 102 27 122 rfl dX12_loss_88 rfl kkX12 flX12_69 (by decide) rfl rfl (by decide) rfl ?_
  refine g_iconst dX12_loss_91 rfl kic_3 ?_
  refine g_aload_n 0 dX12_loss_92 rfl rfl ?_
  refine g_getR 102 3 105 rfl dX12_loss_93 rfl kkX12 flX12_18 (by decide) rfl rfl (by decide) rfl ?_
  refine g_iload_n 1 dX12_loss_96 rfl rfl ?_
  refine g_iald dX12_loss_97 rfl (by decide) rfl rfl ?_
  refine g_aload_n 0 dX12_loss_98 rfl rfl ?_
  refine g_getR 102 3 105 rfl dX12_loss_99 rfl kkX12 flX12_18 (by decide) rfl rfl (by decide) rfl ?_
  refine g_iload_n 2 dX12_loss_102 rfl rfl ?_
  refine g_iald dX12_loss_103 rfl (by decide) rfl rfl ?_
  refine g_isub dX12_loss_104 rfl ?_
  refine g_mabs (st := [.int (3 : Int32), .ref (q.ad 122)]) rfl dX12_loss_105 rfl lkX12_237 (rmL rfl rfl) (Nat.le_of_ble_eq_true rfl) ?_
  refine g_iast0 dX12_loss_108 rfl (by decide) rfl rfl (by decide) ?_
  refine g_nmX (fun X3 => ?_)
  refine g_aload_n 0 dX12_loss_109 rfl rfl ?_
  refine g_getR 102 27 122 rfl dX12_loss_110 rfl kkX12 flX12_69 (by decide) rfl rfl (by decide) rfl ?_
  refine g_iconst dX12_loss_113 rfl kic_4 ?_
  refine g_iload 5 dX12_loss_114 rfl rfl ?_
  refine g_iast0 dX12_loss_116 rfl (by decide) rfl rfl (by decide) ?_
  refine g_aload_n 0 dX12_loss_117 rfl rfl ?_
  refine g_getR 102 27 122 rfl dX12_loss_118 rfl kkX12 flX12_69 (by decide) rfl rfl (by decide) rfl ?_
  refine g_iconst dX12_loss_121 rfl kic_5 ?_
  refine g_aload_n 0 dX12_loss_122 rfl rfl ?_
  refine g_getR 102 7 109 rfl dX12_loss_123 rfl kkX12 flX12_30 (by decide) rfl rfl (by decide) rfl ?_
  refine g_iconst dX12_loss_126 rfl kic_1 ?_
  refine g_iald0 dX12_loss_127 rfl (by decide) rfl rfl (by decide) ?_
  refine g_iast0 dX12_loss_128 rfl (by decide) rfl rfl (by decide) ?_
  refine g_nmX (fun X4 => ?_)
  refine g_iconst dX12_loss_129 rfl kic_0 ?_
  refine g_istore (lv' := [(6, .int (0 : Int32)), (0, .ref (q.ad 102)), (1, .int v1), (2, .int v2), (3, .int v3), (4, .int v4), (5, .int v5)]) dX12_loss_130 rfl (Nat.le_of_ble_eq_true rfl) rfl ?_
  refine g_sub [1, 0] rfl ?_
  refine mo_loss_L132_g q n _ (fun v8 X7 => ?_) n (0 : Int32) X4
  refine g_sub [0, 1] rfl ?_
  exact mo_loss_J182_g q n v8 X7
def mo_loses (n : Nat) (v1 : Int32) (v2 : Int32) (v3 : Int32) (X : St) : Option (Int32 × St) :=
  (if (mo_areTwo v1 X) = 0 then
  (some ((-1 : Int32), X))
  else
  (if (mo_within v2 (0 : Int32) (9999 : Int32)) = 0 then
  (some ((-1 : Int32), X))
  else
  (if v3 < 0 then
  (some ((-1 : Int32), X))
  else
  (if (4 : Int32) < (v3 / (100 : Int32)) then
  (some ((-1 : Int32), X))
  else
  (if (59 : Int32) < (irm v3 (100 : Int32)) then
  (some ((-1 : Int32), X))
  else
  ((mo_loss n (v1 / (10 : Int32)) (irm v1 (10 : Int32)) v2 (v3 / (100 : Int32)) (irm v3 (100 : Int32)) X).bind fun (c2, X1) =>
  (some (c2, X1))))))))
theorem mo_loses_c (q : Th) (n : Nat) (v1 : Int32) (v2 : Int32) (v3 : Int32) (X : St) : Ct q nX12_loses 3 fiw [.ref (q.ad 102), .int v1, .int v2, .int v3] X (mo_loses n v1 v2 v3 X) := by
  refine ct_of (by decide +kernel) (Nat.le_of_ble_eq_true rfl) ?_
  unfold mo_loses
  show G q _ _ 0 [(0, .ref (q.ad 102)), (1, .int v1), (2, .int v2), (3, .int v3)] [] X _
  refine g_aload_n 0 dX12_loses_0 rfl rfl ?_
  refine g_iload_n 1 dX12_loses_1 rfl rfl ?_
  refine g_cVIt (As := [.int v1]) (st := []) 1 mF_wg rfl dX12_loses_2 rfl kkX12 (by decide) rfl vX12_areTwo lkX12_246 (rmL rfl rfl) (mo_areTwo_c q v1 X) rfl rfl (Nat.le_of_ble_eq_true rfl) ?_
  refine g_if_eq dX12_loses_5 rfl rfl ?_ ?_
  · refine g_iconst dX12_loses_40 rfl kic_m1 ?_
    exact g_iret dX12_loses_41 rfl rfl
  refine g_iload_n 2 dX12_loses_8 rfl rfl ?_
  refine g_iconst dX12_loses_9 rfl kic_0 ?_
  refine g_sipush dX12_loses_10 rfl ksi_9999 ?_
  refine g_cSIt (As := [.int v2, .int (0 : Int32), .int (9999 : Int32)]) (st := []) 3 mF_wg rfl dX12_loses_13 rfl vX12_within lkX12_128 (rmL rfl rfl) (mo_within_c q v2 (0 : Int32) (9999 : Int32) X) rfl rfl (Nat.le_of_ble_eq_true rfl) ?_
  refine g_if_eq dX12_loses_16 rfl rfl ?_ ?_
  · refine g_iconst dX12_loses_40 rfl kic_m1 ?_
    exact g_iret dX12_loses_41 rfl rfl
  refine g_iload_n 3 dX12_loses_19 rfl rfl ?_
  refine g_if_lt dX12_loses_20 rfl rfl ?_ ?_
  · refine g_iconst dX12_loses_40 rfl kic_m1 ?_
    exact g_iret dX12_loses_41 rfl rfl
  refine g_iload_n 3 dX12_loses_23 rfl rfl ?_
  refine g_bipush dX12_loses_24 rfl kbi_100 ?_
  refine g_idivC dX12_loses_26 rfl (by decide) ?_
  refine g_iconst dX12_loses_27 rfl kic_4 ?_
  refine g_icmp_gt dX12_loses_28 rfl rfl ?_ ?_
  · refine g_iconst dX12_loses_40 rfl kic_m1 ?_
    exact g_iret dX12_loses_41 rfl rfl
  refine g_iload_n 3 dX12_loses_31 rfl rfl ?_
  refine g_bipush dX12_loses_32 rfl kbi_100 ?_
  refine g_iremC dX12_loses_34 rfl (by decide) ?_
  refine g_bipush dX12_loses_35 rfl kbi_59 ?_
  refine g_icmp_le dX12_loses_37 rfl rfl ?_ ?_
  · refine g_iconst dX12_loses_40 rfl kic_m1 ?_
    exact g_iret dX12_loses_41 rfl rfl
  refine g_aload_n 0 dX12_loses_42 rfl rfl ?_
  refine g_iload_n 1 dX12_loses_43 rfl rfl ?_
  refine g_bipush dX12_loses_44 rfl kbi_10 ?_
  refine g_idivC dX12_loses_46 rfl (by decide) ?_
  refine g_iload_n 1 dX12_loses_47 rfl rfl ?_
  refine g_bipush dX12_loses_48 rfl kbi_10 ?_
  refine g_iremC dX12_loses_50 rfl (by decide) ?_
  refine g_iload_n 2 dX12_loses_51 rfl rfl ?_
  refine g_iload_n 3 dX12_loses_52 rfl rfl ?_
  refine g_bipush dX12_loses_53 rfl kbi_100 ?_
  refine g_idivC dX12_loses_55 rfl (by decide) ?_
  refine g_iload_n 3 dX12_loses_56 rfl rfl ?_
  refine g_bipush dX12_loses_57 rfl kbi_100 ?_
  refine g_iremC dX12_loses_59 rfl (by decide) ?_
  refine g_cVIw (As := [.int (v1 / (10 : Int32)), .int (irm v1 (10 : Int32)), .int v2, .int (v3 / (100 : Int32)), .int (irm v3 (100 : Int32))]) (st := []) 5 mF_wg rfl dX12_loses_60 rfl kkX12 (by decide) rfl vX12_loss lkX12_249 (rmL rfl rfl) (mo_loss_c q n (v1 / (10 : Int32)) (irm v1 (10 : Int32)) v2 (v3 / (100 : Int32)) (irm v3 (100 : Int32)) X) rfl rfl (Nat.le_of_ble_eq_true rfl) (fun c2 X1 => ?_)
  exact g_iret dX12_loses_63 rfl rfl
def mo_noRow (v1 : Int32) (v2 : Int32) (X : St) : Option (Int32) :=
  (if inB v1 6 then
  (if (X.1 130 (nx v1)) = (-1 : Int32) then
  (some (-11 : Int32))
  else
  (if inB v1 6 then
  (if (X.1 130 (nx v1)) = v2 then
  (some (0 : Int32))
  else
  (some (-12 : Int32))) else none)) else none)
theorem mo_noRow_c (q : Th) (v1 : Int32) (v2 : Int32) (X : St) : Ct q nX12_noRow 0 (fir X) [.ref (q.ad 102), .int v1, .int v2] X (mo_noRow v1 v2 X) := by
  refine ct_of (by decide +kernel) (Nat.le_of_ble_eq_true rfl) ?_
  unfold mo_noRow
  show G q _ _ 0 [(0, .ref (q.ad 102)), (1, .int v1), (2, .int v2)] [] X _
  refine g_aload_n 0 dX12_noRow_0 rfl rfl ?_
  refine g_getR 102 41 130 rfl dX12_noRow_1 rfl kkX12 flX12_93 (by decide) rfl rfl (by decide) rfl ?_
  refine g_iload_n 1 dX12_noRow_4 rfl rfl ?_
  refine g_iald dX12_noRow_5 rfl (by decide) rfl rfl ?_
  refine g_iconst dX12_noRow_6 rfl kic_m1 ?_
  refine g_icmp_ne dX12_noRow_7 rfl rfl ?_ ?_
  · refine g_bipush dX12_noRow_10 rfl kbi_m11 ?_
    refine g_goto dX12_noRow_12 rfl ?_
    exact g_iret dX12_noRow_31 rfl rfl
  refine g_aload_n 0 dX12_noRow_15 rfl rfl ?_
  refine g_getR 102 41 130 rfl dX12_noRow_16 rfl kkX12 flX12_93 (by decide) rfl rfl (by decide) rfl ?_
  refine g_iload_n 1 dX12_noRow_19 rfl rfl ?_
  refine g_iald dX12_noRow_20 rfl (by decide) rfl rfl ?_
  refine g_iload_n 2 dX12_noRow_21 rfl rfl ?_
  refine g_icmp_eq dX12_noRow_22 rfl rfl ?_ ?_
  · refine g_iconst dX12_noRow_30 rfl kic_0 ?_
    exact g_iret dX12_noRow_31 rfl rfl
  refine g_bipush dX12_noRow_25 rfl kbi_m12 ?_
  refine g_goto dX12_noRow_27 rfl ?_
  exact g_iret dX12_noRow_31 rfl rfl
def mo_reads_L5_B (n : Nat) (rec : Int32 → St → Option (St)) (v1 : Int32) (X : St) : Option (St) :=
(if inB v1 6 then
(if (X.1 102 44) < (X.1 131 (nx v1)) then
(if inB (((60 : Int32) * v1) + (X.1 102 44)) 360 then
(if (lg_cmp (X.2 132 (nx (((60 : Int32) * v1) + (X.1 102 44)))) (0 : Int64)) < 0 then
(some X)
else
(if inB (((60 : Int32) * v1) + (X.1 102 44)) 360 then
(if 0 < (lg_cmp (X.2 132 (nx (((60 : Int32) * v1) + (X.1 102 44)))) (4 : Int64)) then
(some X)
else
(if inB (((60 : Int32) * v1) + (X.1 102 44)) 360 then
(if inB (X.1 102 44) 60 then
((some (stI X 133 (nx (X.1 102 44)) ((X.2 132 (nx (((60 : Int32) * v1) + (X.1 102 44)))).toInt32))).bind fun X1 =>
(rec v1 (stI X1 102 44 ((X1.1 102 44) + (1 : Int32))))) else none) else none)) else none)) else none)
else
(some X)) else none)
def mo_reads_L5 (n : Nat) : Nat → Int32 → St → Option (St)
  | 0 => fun _ _ => none
  | w + 1 => mo_reads_L5_B n (mo_reads_L5 n w)
def mo_reads (n : Nat) (v1 : Int32) (X : St) : Option (St) :=
  (mo_reads_L5 n n v1 (stI X 102 44 (0 : Int32)))
theorem mo_reads_L5_Bg (q : Th) (n : Nat) (rec : Int32 → St → Option (St)) (hrec : ∀ v1 X, G q (mF q nX12_reads RX12 0) fvw 5 [(0, .ref (q.ad 102)), (1, .int v1)] [] X (rec v1 X)) (v1 : Int32) (X : St) : G q (mF q nX12_reads RX12 0) fvw 5 [(0, .ref (q.ad 102)), (1, .int v1)] [] X (mo_reads_L5_B n rec v1 X) := by
  unfold mo_reads_L5_B
  refine g_aload_n 0 dX12_reads_5 rfl rfl ?_
  refine g_getI 102 44 rfl dX12_reads_6 rfl kkX12 flX12_253 (by decide) rfl rfl (by decide) rfl ?_
  refine g_aload_n 0 dX12_reads_9 rfl rfl ?_
  refine g_getR 102 42 131 rfl dX12_reads_10 rfl kkX12 flX12_96 (by decide) rfl rfl (by decide) rfl ?_
  refine g_iload_n 1 dX12_reads_13 rfl rfl ?_
  refine g_iald dX12_reads_14 rfl (by decide) rfl rfl ?_
  refine g_icmp_ge dX12_reads_15 rfl rfl ?_ ?_
  · refine g_aload_n 0 dX12_reads_18 rfl rfl ?_
    refine g_getR 102 43 132 rfl dX12_reads_19 rfl kkX12 flX12_99 (by decide) rfl rfl (by decide) rfl ?_
    refine g_bipush dX12_reads_22 rfl kbi_60 ?_
    refine g_iload_n 1 dX12_reads_24 rfl rfl ?_
    refine g_imul dX12_reads_25 rfl ?_
    refine g_aload_n 0 dX12_reads_26 rfl rfl ?_
    refine g_getI 102 44 rfl dX12_reads_27 rfl kkX12 flX12_253 (by decide) rfl rfl (by decide) rfl ?_
    refine g_iadd dX12_reads_30 rfl ?_
    refine g_lald dX12_reads_31 rfl (by decide) rfl rfl ?_
    refine g_lconst dX12_reads_32 rfl k_l0 ?_
    refine g_lcmp dX12_reads_33 rfl ?_
    refine g_if_lt dX12_reads_34 rfl rfl ?_ ?_
    · exact g_vret dX12_reads_95 rfl rfl
    refine g_aload_n 0 dX12_reads_37 rfl rfl ?_
    refine g_getR 102 43 132 rfl dX12_reads_38 rfl kkX12 flX12_99 (by decide) rfl rfl (by decide) rfl ?_
    refine g_bipush dX12_reads_41 rfl kbi_60 ?_
    refine g_iload_n 1 dX12_reads_43 rfl rfl ?_
    refine g_imul dX12_reads_44 rfl ?_
    refine g_aload_n 0 dX12_reads_45 rfl rfl ?_
    refine g_getI 102 44 rfl dX12_reads_46 rfl kkX12 flX12_253 (by decide) rfl rfl (by decide) rfl ?_
    refine g_iadd dX12_reads_49 rfl ?_
    refine g_lald dX12_reads_50 rfl (by decide) rfl rfl ?_
    refine g_ldc2 rfl dX12_reads_51 rfl klX12_143 ?_
    refine g_lcmp dX12_reads_54 rfl ?_
    refine g_if_gt dX12_reads_55 rfl rfl ?_ ?_
    · exact g_vret dX12_reads_95 rfl rfl
    refine g_aload_n 0 dX12_reads_58 rfl rfl ?_
    refine g_getR 102 45 133 rfl dX12_reads_59 rfl kkX12 flX12_103 (by decide) rfl rfl (by decide) rfl ?_
    refine g_aload_n 0 dX12_reads_62 rfl rfl ?_
    refine g_getI 102 44 rfl dX12_reads_63 rfl kkX12 flX12_253 (by decide) rfl rfl (by decide) rfl ?_
    refine g_aload_n 0 dX12_reads_66 rfl rfl ?_
    refine g_getR 102 43 132 rfl dX12_reads_67 rfl kkX12 flX12_99 (by decide) rfl rfl (by decide) rfl ?_
    refine g_bipush dX12_reads_70 rfl kbi_60 ?_
    refine g_iload_n 1 dX12_reads_72 rfl rfl ?_
    refine g_imul dX12_reads_73 rfl ?_
    refine g_aload_n 0 dX12_reads_74 rfl rfl ?_
    refine g_getI 102 44 rfl dX12_reads_75 rfl kkX12 flX12_253 (by decide) rfl rfl (by decide) rfl ?_
    refine g_iadd dX12_reads_78 rfl ?_
    refine g_lald dX12_reads_79 rfl (by decide) rfl rfl ?_
    refine g_l2i dX12_reads_80 rfl ?_
    refine g_iast dX12_reads_81 rfl (by decide) rfl rfl ?_
    refine g_nmX (fun X1 => ?_)
    refine g_aload_n 0 dX12_reads_82 rfl rfl ?_
    refine g_dup dX12_reads_83 rfl rfl ?_
    refine g_getI 102 44 rfl dX12_reads_84 rfl kkX12 flX12_253 (by decide) rfl rfl (by decide) rfl ?_
    refine g_iconst dX12_reads_87 rfl kic_1 ?_
    refine g_iadd dX12_reads_88 rfl ?_
    refine g_putI 102 44 rfl dX12_reads_89 rfl kkX12 flX12_253 (by decide) rfl rfl (by decide) rfl rfl rfl ?_
    refine g_goto dX12_reads_92 rfl ?_
    refine g_sub [0, 1] rfl ?_
    exact hrec v1 (stI X1 102 44 ((X1.1 102 44) + (1 : Int32)))
  exact g_vret dX12_reads_95 rfl rfl
theorem mo_reads_L5_g (q : Th) (n : Nat) : ∀ (w : Nat) (v1 : Int32) (X : St), G q (mF q nX12_reads RX12 0) fvw 5 [(0, .ref (q.ad 102)), (1, .int v1)] [] X (mo_reads_L5 n w v1 X) := by
  intro w
  induction w with
  | zero => intro v1 X; exact g_none
  | succ w ih => intro v1 X; exact mo_reads_L5_Bg q n _ ih v1 X
theorem mo_reads_c (q : Th) (n : Nat) (v1 : Int32) (X : St) : Ct q nX12_reads 0 fvw [.ref (q.ad 102), .int v1] X (mo_reads n v1 X) := by
  refine ct_of (by decide +kernel) (Nat.le_of_ble_eq_true rfl) ?_
  unfold mo_reads
  show G q _ _ 0 [(0, .ref (q.ad 102)), (1, .int v1)] [] X _
  refine g_aload_n 0 dX12_reads_0 rfl rfl ?_
  refine g_iconst dX12_reads_1 rfl kic_0 ?_
  refine g_putI 102 44 rfl dX12_reads_2 rfl kkX12 flX12_253 (by decide) rfl rfl (by decide) rfl rfl rfl ?_
  refine g_sub [0, 1] rfl ?_
  refine mo_reads_L5_g q n n v1 (stI X 102 44 (0 : Int32))
def mo_drifts_L2_B (n : Nat) (k21 : Int32 → St → Option (St)) (rec : Int32 → Int32 → St → Option (St)) (v1 : Int32) (v2 : Int32) (X : St) : Option (St) :=
(if v2 < (8 : Int32) then
(if inB v2 488 then
(rec v1 (v2 + (1 : Int32)) (stI X 134 (nx v2) (0 : Int32))) else none)
else
(k21 v1 X))
def mo_drifts_L2 (n : Nat) (k21 : Int32 → St → Option (St)) : Nat → Int32 → Int32 → St → Option (St)
  | 0 => fun _ _ _ => none
  | w + 1 => mo_drifts_L2_B n k21 (mo_drifts_L2 n k21 w)
def mo_drifts_J89 (n : Nat) (k33 : Int32 → Int32 → Int32 → St → Option (St)) (v1 : Int32) (v2 : Int32) (v3 : Int32) (v4 : Int32) (X : St) : Option (St) :=
(if inB (((8 : Int32) * v2) + v3) 488 then
(if inB ((((8 : Int32) * v2) + (8 : Int32)) + v3) 488 then
((some (stI X 134 (nx ((((8 : Int32) * v2) + (8 : Int32)) + v3)) ((X.1 134 (nx (((8 : Int32) * v2) + v3))) + v4))).bind fun X3 =>
(k33 v1 v2 (v3 + (1 : Int32)) X3)) else none) else none)
def mo_drifts_L33_B (n : Nat) (k123 : Int32 → Int32 → St → Option (St)) (rec : Int32 → Int32 → Int32 → St → Option (St)) (v1 : Int32) (v2 : Int32) (v3 : Int32) (X : St) : Option (St) :=
(if v3 < (X.1 102 0) then
(if inB v3 8 then
(if v1 = 0 then
(mo_drifts_J89 n rec v1 v2 v3 (X.1 107 (nx v3)) X)
else
((some (stI X 102 51 (((X.1 102 51) * (1103515245 : Int32)) + (12345 : Int32)))).bind fun X4 =>
(if (irm (jus (X4.1 102 51) (8 : Int32)) (12 : Int32)) < (X4.1 102 52) then
(mo_drifts_J89 n rec v1 v2 v3 ((X.1 107 (nx v3)) + (1 : Int32)) X4)
else
(mo_drifts_J89 n rec v1 v2 v3 (X.1 107 (nx v3)) X4)))) else none)
else
(k123 v1 v2 X))
def mo_drifts_L33 (n : Nat) (k123 : Int32 → Int32 → St → Option (St)) : Nat → Int32 → Int32 → Int32 → St → Option (St)
  | 0 => fun _ _ _ _ => none
  | w + 1 => mo_drifts_L33_B n k123 (mo_drifts_L33 n k123 w)
def mo_drifts_L125_B (n : Nat) (k195 : Int32 → Int32 → St → Option (St)) (rec : Int32 → Int32 → Int32 → St → Option (St)) (v1 : Int32) (v2 : Int32) (v3 : Int32) (X : St) : Option (St) :=
(if v3 < (X.1 102 0) then
(if inB v2 60 then
(if (X.1 133 (nx v2)) = (4 : Int32) then
(if (mo_isOne (X.1 109 (nx (0 : Int32))) X) = 0 then
(k195 v1 v2 X)
else
(if inB ((((8 : Int32) * v2) + (8 : Int32)) + (X.1 109 (nx (0 : Int32)))) 488 then
(if inB ((((8 : Int32) * v2) + (8 : Int32)) + v3) 488 then
((some (stI X 134 (nx ((((8 : Int32) * v2) + (8 : Int32)) + v3)) (X.1 134 (nx ((((8 : Int32) * v2) + (8 : Int32)) + (X.1 109 (nx (0 : Int32)))))))).bind fun X8 =>
(rec v1 v2 (v3 + (1 : Int32)) X8)) else none) else none))
else
(k195 v1 v2 X)) else none)
else
(k195 v1 v2 X))
def mo_drifts_L125 (n : Nat) (k195 : Int32 → Int32 → St → Option (St)) : Nat → Int32 → Int32 → Int32 → St → Option (St)
  | 0 => fun _ _ _ _ => none
  | w + 1 => mo_drifts_L125_B n k195 (mo_drifts_L125 n k195 w)
def mo_drifts_J195 (n : Nat) (k23 : Int32 → Int32 → St → Option (St)) (v1 : Int32) (v2 : Int32) (X : St) : Option (St) :=
(if (X.1 102 48) = (-2 : Int32) then
(k23 v1 (v2 + (1 : Int32)) X)
else
(if (X.1 102 49) = v2 then
(if inB ((((8 : Int32) * v2) + (8 : Int32)) + (X.1 102 48)) 488 then
(if inB ((((8 : Int32) * v2) + (8 : Int32)) + (X.1 102 48)) 488 then
((some (stI X 134 (nx ((((8 : Int32) * v2) + (8 : Int32)) + (X.1 102 48))) ((X.1 134 (nx ((((8 : Int32) * v2) + (8 : Int32)) + (X.1 102 48)))) + (X.1 102 50)))).bind fun X12 =>
(k23 v1 (v2 + (1 : Int32)) X12)) else none) else none)
else
(k23 v1 (v2 + (1 : Int32)) X)))
def mo_drifts_L23_B (n : Nat) (rec : Int32 → Int32 → St → Option (St)) (v1 : Int32) (v2 : Int32) (X : St) : Option (St) :=
(if v2 < (X.1 102 44) then
(mo_drifts_L33 n (fun v6 v7 X5 =>
(mo_drifts_L125 n (fun v10 v11 X9 =>
(mo_drifts_J195 n rec v10 v11 X9)) n v6 v7 (0 : Int32) X5)) n v1 v2 (0 : Int32) X)
else
(some X))
def mo_drifts_L23 (n : Nat) : Nat → Int32 → Int32 → St → Option (St)
  | 0 => fun _ _ _ => none
  | w + 1 => mo_drifts_L23_B n (mo_drifts_L23 n w)
def mo_drifts (n : Nat) (v1 : Int32) (X : St) : Option (St) :=
  (mo_drifts_L2 n (fun v2 X1 =>
  (mo_drifts_L23 n n v2 (0 : Int32) X1)) n v1 (0 : Int32) X)
theorem mo_drifts_L2_Bg (q : Th) (n : Nat) (k21 : Int32 → St → Option (St)) (hk21 : ∀ v1 X, G q (mF q nX12_drifts RX12 2) fvw 21 [(0, .ref (q.ad 102)), (1, .int v1)] [] X (k21 v1 X)) (rec : Int32 → Int32 → St → Option (St)) (hrec : ∀ v1 v2 X, G q (mF q nX12_drifts RX12 2) fvw 2 [(0, .ref (q.ad 102)), (1, .int v1), (2, .int v2)] [] X (rec v1 v2 X)) (v1 : Int32) (v2 : Int32) (X : St) : G q (mF q nX12_drifts RX12 2) fvw 2 [(0, .ref (q.ad 102)), (1, .int v1), (2, .int v2)] [] X (mo_drifts_L2_B n k21 rec v1 v2 X) := by
  unfold mo_drifts_L2_B
  refine g_iload_n 2 dX12_drifts_2 rfl rfl ?_
  refine g_bipush dX12_drifts_3 rfl kbi_8 ?_
  refine g_icmp_ge dX12_drifts_5 rfl rfl ?_ ?_
  · refine g_aload_n 0 dX12_drifts_8 rfl rfl ?_
    refine g_getR 102 46 134 rfl dX12_drifts_9 rfl kkX12 flX12_106 (by decide) rfl rfl (by decide) rfl ?_
    refine g_iload_n 2 dX12_drifts_12 rfl rfl ?_
    refine g_iconst dX12_drifts_13 rfl kic_0 ?_
    refine g_iast dX12_drifts_14 rfl (by decide) rfl rfl ?_
    refine g_inc (lv' := [(2, .int (v2 + (1 : Int32))), (0, .ref (q.ad 102)), (1, .int v1)]) 2 dX12_drifts_15 rfl rfl kic_1 (Nat.le_of_ble_eq_true rfl) rfl ?_
    refine g_goto dX12_drifts_18 rfl ?_
    refine g_sub [1, 2, 0] rfl ?_
    exact hrec v1 (v2 + (1 : Int32)) (stI X 134 (nx v2) (0 : Int32))
  refine g_sub [0, 1] rfl ?_
  exact hk21 v1 X
theorem mo_drifts_L2_g (q : Th) (n : Nat) (k21 : Int32 → St → Option (St)) (hk21 : ∀ v1 X, G q (mF q nX12_drifts RX12 2) fvw 21 [(0, .ref (q.ad 102)), (1, .int v1)] [] X (k21 v1 X)) : ∀ (w : Nat) (v1 : Int32) (v2 : Int32) (X : St), G q (mF q nX12_drifts RX12 2) fvw 2 [(0, .ref (q.ad 102)), (1, .int v1), (2, .int v2)] [] X (mo_drifts_L2 n k21 w v1 v2 X) := by
  intro w
  induction w with
  | zero => intro v1 v2 X; exact g_none
  | succ w ih => intro v1 v2 X; exact mo_drifts_L2_Bg q n k21 hk21 _ ih v1 v2 X
theorem mo_drifts_J89_g (q : Th) (n : Nat) (k33 : Int32 → Int32 → Int32 → St → Option (St)) (hk33 : ∀ v1 v2 v3 X, G q (mF q nX12_drifts RX12 2) fvw 33 [(0, .ref (q.ad 102)), (1, .int v1), (2, .int v2), (3, .int v3)] [] X (k33 v1 v2 v3 X)) (v1 : Int32) (v2 : Int32) (v3 : Int32) (v4 : Int32) (X : St) : G q (mF q nX12_drifts RX12 2) fvw 89 [(0, .ref (q.ad 102)), (1, .int v1), (2, .int v2), (3, .int v3), (4, .int v4)] [] X (mo_drifts_J89 n k33 v1 v2 v3 v4 X) := by
  unfold mo_drifts_J89
  refine g_aload_n 0 dX12_drifts_89 rfl rfl ?_
  refine g_getR 102 46 134 rfl dX12_drifts_90 rfl kkX12 flX12_106 (by decide) rfl rfl (by decide) rfl ?_
  refine g_bipush dX12_drifts_93 rfl kbi_8 ?_
  refine g_iload_n 2 dX12_drifts_95 rfl rfl ?_
  refine g_imul dX12_drifts_96 rfl ?_
  refine g_bipush dX12_drifts_97 rfl kbi_8 ?_
  refine g_iadd dX12_drifts_99 rfl ?_
  refine g_iload_n 3 dX12_drifts_100 rfl rfl ?_
  refine g_iadd dX12_drifts_101 rfl ?_
  refine g_aload_n 0 dX12_drifts_102 rfl rfl ?_
  refine g_getR 102 46 134 rfl dX12_drifts_103 rfl kkX12 flX12_106 (by decide) rfl rfl (by decide) rfl ?_
  refine g_bipush dX12_drifts_106 rfl kbi_8 ?_
  refine g_iload_n 2 dX12_drifts_108 rfl rfl ?_
  refine g_imul dX12_drifts_109 rfl ?_
  refine g_iload_n 3 dX12_drifts_110 rfl rfl ?_
  refine g_iadd dX12_drifts_111 rfl ?_
  refine g_iald dX12_drifts_112 rfl (by decide) rfl rfl ?_
  refine g_iload 4 dX12_drifts_113 rfl rfl ?_
  refine g_iadd dX12_drifts_115 rfl ?_
  refine g_iast dX12_drifts_116 rfl (by decide) rfl rfl ?_
  refine g_nmX (fun X3 => ?_)
  refine g_inc (lv' := [(3, .int (v3 + (1 : Int32))), (0, .ref (q.ad 102)), (1, .int v1), (2, .int v2), (4, .int v4)]) 3 dX12_drifts_117 rfl rfl kic_1 (Nat.le_of_ble_eq_true rfl) rfl ?_
  refine g_goto dX12_drifts_120 rfl ?_
  refine g_sub [1, 2, 3, 0] rfl ?_
  exact hk33 v1 v2 (v3 + (1 : Int32)) X3
theorem mo_drifts_L33_Bg (q : Th) (n : Nat) (k123 : Int32 → Int32 → St → Option (St)) (hk123 : ∀ v1 v2 X, G q (mF q nX12_drifts RX12 2) fvw 123 [(0, .ref (q.ad 102)), (1, .int v1), (2, .int v2)] [] X (k123 v1 v2 X)) (rec : Int32 → Int32 → Int32 → St → Option (St)) (hrec : ∀ v1 v2 v3 X, G q (mF q nX12_drifts RX12 2) fvw 33 [(0, .ref (q.ad 102)), (1, .int v1), (2, .int v2), (3, .int v3)] [] X (rec v1 v2 v3 X)) (v1 : Int32) (v2 : Int32) (v3 : Int32) (X : St) : G q (mF q nX12_drifts RX12 2) fvw 33 [(0, .ref (q.ad 102)), (1, .int v1), (2, .int v2), (3, .int v3)] [] X (mo_drifts_L33_B n k123 rec v1 v2 v3 X) := by
  unfold mo_drifts_L33_B
  refine g_iload_n 3 dX12_drifts_33 rfl rfl ?_
  refine g_aload_n 0 dX12_drifts_34 rfl rfl ?_
  refine g_getI 102 0 rfl dX12_drifts_35 rfl kkX12 flX12_125 (by decide) rfl rfl (by decide) rfl ?_
  refine g_icmp_ge dX12_drifts_38 rfl rfl ?_ ?_
  · refine g_aload_n 0 dX12_drifts_41 rfl rfl ?_
    refine g_getR 102 5 107 rfl dX12_drifts_42 rfl kkX12 flX12_24 (by decide) rfl rfl (by decide) rfl ?_
    refine g_iload_n 3 dX12_drifts_45 rfl rfl ?_
    refine g_iald dX12_drifts_46 rfl (by decide) rfl rfl ?_
    refine g_istore (lv' := [(4, .int (X.1 107 (nx v3))), (0, .ref (q.ad 102)), (1, .int v1), (2, .int v2), (3, .int v3)]) dX12_drifts_47 rfl (Nat.le_of_ble_eq_true rfl) rfl ?_
    refine g_iload_n 2 dX12_drifts_49 rfl rfl ?_
    refine g_if_eq dX12_drifts_50 rfl rfl ?_ ?_
    · refine g_sub [1, 2, 3, 4, 0] rfl ?_
      exact mo_drifts_J89_g q n _ hrec v1 v2 v3 (X.1 107 (nx v3)) X
    refine g_aload_n 1 dX12_drifts_53 rfl rfl ?_
    refine g_aload_n 1 dX12_drifts_54 rfl rfl ?_
    refine g_getI 102 51 rfl dX12_drifts_55 rfl kkX12 flX12_256 (by decide) rfl rfl (by decide) rfl ?_
    refine g_ldcw rfl dX12_drifts_58 rfl kcX12_259 ?_
    refine g_imul dX12_drifts_61 rfl ?_
    refine g_sipush dX12_drifts_62 rfl ksi_12345 ?_
    refine g_iadd dX12_drifts_65 rfl ?_
    refine g_putI 102 51 rfl dX12_drifts_66 rfl kkX12 flX12_256 (by decide) rfl rfl (by decide) rfl rfl rfl ?_
    refine g_nmX (fun X4 => ?_)
    refine g_aload_n 1 dX12_drifts_69 rfl rfl ?_
    refine g_getI 102 51 rfl dX12_drifts_70 rfl kkX12 flX12_256 (by decide) rfl rfl (by decide) rfl ?_
    refine g_bipush dX12_drifts_73 rfl kbi_8 ?_
    refine g_iushr dX12_drifts_75 rfl ?_
    refine g_bipush dX12_drifts_76 rfl kbi_12 ?_
    refine g_iremC dX12_drifts_78 rfl (by decide) ?_
    refine g_aload_n 1 dX12_drifts_79 rfl rfl ?_
    refine g_getI 102 52 rfl dX12_drifts_80 rfl kkX12 flX12_260 (by decide) rfl rfl (by decide) rfl ?_
    refine g_icmp_ge dX12_drifts_83 rfl rfl ?_ ?_
    · refine g_inc (lv' := [(4, .int ((X.1 107 (nx v3)) + (1 : Int32))), (0, .ref (q.ad 102)), (1, .int v1), (2, .int v2), (3, .int v3)]) 0 dX12_drifts_86 rfl rfl kic_1 (Nat.le_of_ble_eq_true rfl) rfl ?_
      refine g_sub [1, 2, 3, 4, 0] rfl ?_
      exact mo_drifts_J89_g q n _ hrec v1 v2 v3 ((X.1 107 (nx v3)) + (1 : Int32)) X4
    refine g_sub [1, 2, 3, 4, 0] rfl ?_
    exact mo_drifts_J89_g q n _ hrec v1 v2 v3 (X.1 107 (nx v3)) X4
  refine g_sub [0, 1, 2] rfl ?_
  exact hk123 v1 v2 X
theorem mo_drifts_L33_g (q : Th) (n : Nat) (k123 : Int32 → Int32 → St → Option (St)) (hk123 : ∀ v1 v2 X, G q (mF q nX12_drifts RX12 2) fvw 123 [(0, .ref (q.ad 102)), (1, .int v1), (2, .int v2)] [] X (k123 v1 v2 X)) : ∀ (w : Nat) (v1 : Int32) (v2 : Int32) (v3 : Int32) (X : St), G q (mF q nX12_drifts RX12 2) fvw 33 [(0, .ref (q.ad 102)), (1, .int v1), (2, .int v2), (3, .int v3)] [] X (mo_drifts_L33 n k123 w v1 v2 v3 X) := by
  intro w
  induction w with
  | zero => intro v1 v2 v3 X; exact g_none
  | succ w ih => intro v1 v2 v3 X; exact mo_drifts_L33_Bg q n k123 hk123 _ ih v1 v2 v3 X
theorem mo_drifts_L125_Bg (q : Th) (n : Nat) (k195 : Int32 → Int32 → St → Option (St)) (hk195 : ∀ v1 v2 X, G q (mF q nX12_drifts RX12 2) fvw 195 [(0, .ref (q.ad 102)), (1, .int v1), (2, .int v2)] [] X (k195 v1 v2 X)) (rec : Int32 → Int32 → Int32 → St → Option (St)) (hrec : ∀ v1 v2 v3 X, G q (mF q nX12_drifts RX12 2) fvw 125 [(0, .ref (q.ad 102)), (1, .int v1), (2, .int v2), (3, .int v3)] [] X (rec v1 v2 v3 X)) (v1 : Int32) (v2 : Int32) (v3 : Int32) (X : St) : G q (mF q nX12_drifts RX12 2) fvw 125 [(0, .ref (q.ad 102)), (1, .int v1), (2, .int v2), (3, .int v3)] [] X (mo_drifts_L125_B n k195 rec v1 v2 v3 X) := by
  unfold mo_drifts_L125_B
  refine g_iload_n 3 dX12_drifts_125 rfl rfl ?_
  refine g_aload_n 0 dX12_drifts_126 rfl rfl ?_
  refine g_getI 102 0 rfl dX12_drifts_127 rfl kkX12 flX12_125 (by decide) rfl rfl (by decide) rfl ?_
  refine g_icmp_ge dX12_drifts_130 rfl rfl ?_ ?_
  · refine g_aload_n 0 dX12_drifts_133 rfl rfl ?_
    refine g_getR 102 45 133 rfl dX12_drifts_134 rfl kkX12 flX12_103 (by decide) rfl rfl (by decide) rfl ?_
    refine g_iload_n 2 dX12_drifts_137 rfl rfl ?_
    refine g_iald dX12_drifts_138 rfl (by decide) rfl rfl ?_
    refine g_iconst dX12_drifts_139 rfl kic_4 ?_
    refine g_icmp_ne dX12_drifts_140 rfl rfl ?_ ?_
    · refine g_aload_n 0 dX12_drifts_143 rfl rfl ?_
      refine g_aload_n 0 dX12_drifts_144 rfl rfl ?_
      refine g_getR 102 7 109 rfl dX12_drifts_145 rfl kkX12 flX12_30 (by decide) rfl rfl (by decide) rfl ?_
      refine g_iconst dX12_drifts_148 rfl kic_0 ?_
      refine g_iald0 dX12_drifts_149 rfl (by decide) rfl rfl (by decide) ?_
      refine g_cVIt (As := [.int (X.1 109 (nx (0 : Int32)))]) (st := []) 1 mF_wg rfl dX12_drifts_150 rfl kkX12 (by decide) rfl vX12_isOne lkX12_132 (rmL rfl rfl) (mo_isOne_c q (X.1 109 (nx (0 : Int32))) X) rfl rfl (Nat.le_of_ble_eq_true rfl) ?_
      refine g_if_eq dX12_drifts_153 rfl rfl ?_ ?_
      · refine g_sub [0, 1, 2] rfl ?_
        exact hk195 v1 v2 X
      refine g_aload_n 0 dX12_drifts_156 rfl rfl ?_
      refine g_getR 102 46 134 rfl dX12_drifts_157 rfl kkX12 flX12_106 (by decide) rfl rfl (by decide) rfl ?_
      refine g_bipush dX12_drifts_160 rfl kbi_8 ?_
      refine g_iload_n 2 dX12_drifts_162 rfl rfl ?_
      refine g_imul dX12_drifts_163 rfl ?_
      refine g_bipush dX12_drifts_164 rfl kbi_8 ?_
      refine g_iadd dX12_drifts_166 rfl ?_
      refine g_iload_n 3 dX12_drifts_167 rfl rfl ?_
      refine g_iadd dX12_drifts_168 rfl ?_
      refine g_aload_n 0 dX12_drifts_169 rfl rfl ?_
      refine g_getR 102 46 134 rfl dX12_drifts_170 rfl kkX12 flX12_106 (by decide) rfl rfl (by decide) rfl ?_
      refine g_bipush dX12_drifts_173 rfl kbi_8 ?_
      refine g_iload_n 2 dX12_drifts_175 rfl rfl ?_
      refine g_imul dX12_drifts_176 rfl ?_
      refine g_bipush dX12_drifts_177 rfl kbi_8 ?_
      refine g_iadd dX12_drifts_179 rfl ?_
      refine g_aload_n 0 dX12_drifts_180 rfl rfl ?_
      refine g_getR 102 7 109 rfl dX12_drifts_181 rfl kkX12 flX12_30 (by decide) rfl rfl (by decide) rfl ?_
      refine g_iconst dX12_drifts_184 rfl kic_0 ?_
      refine g_iald0 dX12_drifts_185 rfl (by decide) rfl rfl (by decide) ?_
      refine g_iadd dX12_drifts_186 rfl ?_
      refine g_iald dX12_drifts_187 rfl (by decide) rfl rfl ?_
      refine g_iast dX12_drifts_188 rfl (by decide) rfl rfl ?_
      refine g_nmX (fun X8 => ?_)
      refine g_inc (lv' := [(3, .int (v3 + (1 : Int32))), (0, .ref (q.ad 102)), (1, .int v1), (2, .int v2)]) 3 dX12_drifts_189 rfl rfl kic_1 (Nat.le_of_ble_eq_true rfl) rfl ?_
      refine g_goto dX12_drifts_192 rfl ?_
      refine g_sub [1, 2, 3, 0] rfl ?_
      exact hrec v1 v2 (v3 + (1 : Int32)) X8
    refine g_sub [0, 1, 2] rfl ?_
    exact hk195 v1 v2 X
  refine g_sub [0, 1, 2] rfl ?_
  exact hk195 v1 v2 X
theorem mo_drifts_L125_g (q : Th) (n : Nat) (k195 : Int32 → Int32 → St → Option (St)) (hk195 : ∀ v1 v2 X, G q (mF q nX12_drifts RX12 2) fvw 195 [(0, .ref (q.ad 102)), (1, .int v1), (2, .int v2)] [] X (k195 v1 v2 X)) : ∀ (w : Nat) (v1 : Int32) (v2 : Int32) (v3 : Int32) (X : St), G q (mF q nX12_drifts RX12 2) fvw 125 [(0, .ref (q.ad 102)), (1, .int v1), (2, .int v2), (3, .int v3)] [] X (mo_drifts_L125 n k195 w v1 v2 v3 X) := by
  intro w
  induction w with
  | zero => intro v1 v2 v3 X; exact g_none
  | succ w ih => intro v1 v2 v3 X; exact mo_drifts_L125_Bg q n k195 hk195 _ ih v1 v2 v3 X
theorem mo_drifts_J195_g (q : Th) (n : Nat) (k23 : Int32 → Int32 → St → Option (St)) (hk23 : ∀ v1 v2 X, G q (mF q nX12_drifts RX12 2) fvw 23 [(0, .ref (q.ad 102)), (1, .int v1), (2, .int v2)] [] X (k23 v1 v2 X)) (v1 : Int32) (v2 : Int32) (X : St) : G q (mF q nX12_drifts RX12 2) fvw 195 [(0, .ref (q.ad 102)), (1, .int v1), (2, .int v2)] [] X (mo_drifts_J195 n k23 v1 v2 X) := by
  unfold mo_drifts_J195
  refine g_aload_n 0 dX12_drifts_195 rfl rfl ?_
  refine g_getI 102 48 rfl dX12_drifts_196 rfl kkX12 flX12_121 (by decide) rfl rfl (by decide) rfl ?_
  refine g_bipush dX12_drifts_199 rfl kbi_m2 ?_
  refine g_icmp_eq dX12_drifts_201 rfl rfl ?_ ?_
  · refine g_inc (lv' := [(2, .int (v2 + (1 : Int32))), (0, .ref (q.ad 102)), (1, .int v1)]) 2 dX12_drifts_236 rfl rfl kic_1 (Nat.le_of_ble_eq_true rfl) rfl ?_
    refine g_goto dX12_drifts_239 rfl ?_
    refine g_sub [1, 2, 0] rfl ?_
    exact hk23 v1 (v2 + (1 : Int32)) X
  refine g_aload_n 0 dX12_drifts_204 rfl rfl ?_
  refine g_getI 102 49 rfl dX12_drifts_205 rfl kkX12 flX12_263 (by decide) rfl rfl (by decide) rfl ?_
  refine g_iload_n 2 dX12_drifts_208 rfl rfl ?_
  refine g_icmp_ne dX12_drifts_209 rfl rfl ?_ ?_
  · refine g_aload_n 0 dX12_drifts_212 rfl rfl ?_
    refine g_getR 102 46 134 rfl dX12_drifts_213 rfl kkX12 flX12_106 (by decide) rfl rfl (by decide) rfl ?_
    refine g_bipush dX12_drifts_216 rfl kbi_8 ?_
    refine g_iload_n 2 dX12_drifts_218 rfl rfl ?_
    refine g_imul dX12_drifts_219 rfl ?_
    refine g_bipush dX12_drifts_220 rfl kbi_8 ?_
    refine g_iadd dX12_drifts_222 rfl ?_
    refine g_aload_n 0 dX12_drifts_223 rfl rfl ?_
    refine g_getI 102 48 rfl dX12_drifts_224 rfl kkX12 flX12_121 (by decide) rfl rfl (by decide) rfl ?_
    refine g_iadd dX12_drifts_227 rfl ?_
    refine g_dup2 dX12_drifts_228 rfl rfl rfl ?_
    refine g_iald dX12_drifts_229 rfl (by decide) rfl rfl ?_
    refine g_aload_n 0 dX12_drifts_230 rfl rfl ?_
    refine g_getI 102 50 rfl dX12_drifts_231 rfl kkX12 flX12_266 (by decide) rfl rfl (by decide) rfl ?_
    refine g_iadd dX12_drifts_234 rfl ?_
    refine g_iast dX12_drifts_235 rfl (by decide) rfl rfl ?_
    refine g_nmX (fun X12 => ?_)
    refine g_inc (lv' := [(2, .int (v2 + (1 : Int32))), (0, .ref (q.ad 102)), (1, .int v1)]) 2 dX12_drifts_236 rfl rfl kic_1 (Nat.le_of_ble_eq_true rfl) rfl ?_
    refine g_goto dX12_drifts_239 rfl ?_
    refine g_sub [1, 2, 0] rfl ?_
    exact hk23 v1 (v2 + (1 : Int32)) X12
  refine g_inc (lv' := [(2, .int (v2 + (1 : Int32))), (0, .ref (q.ad 102)), (1, .int v1)]) 2 dX12_drifts_236 rfl rfl kic_1 (Nat.le_of_ble_eq_true rfl) rfl ?_
  refine g_goto dX12_drifts_239 rfl ?_
  refine g_sub [1, 2, 0] rfl ?_
  exact hk23 v1 (v2 + (1 : Int32)) X
theorem mo_drifts_L23_Bg (q : Th) (n : Nat) (rec : Int32 → Int32 → St → Option (St)) (hrec : ∀ v1 v2 X, G q (mF q nX12_drifts RX12 2) fvw 23 [(0, .ref (q.ad 102)), (1, .int v1), (2, .int v2)] [] X (rec v1 v2 X)) (v1 : Int32) (v2 : Int32) (X : St) : G q (mF q nX12_drifts RX12 2) fvw 23 [(0, .ref (q.ad 102)), (1, .int v1), (2, .int v2)] [] X (mo_drifts_L23_B n rec v1 v2 X) := by
  unfold mo_drifts_L23_B
  refine g_iload_n 2 dX12_drifts_23 rfl rfl ?_
  refine g_aload_n 0 dX12_drifts_24 rfl rfl ?_
  refine g_getI 102 44 rfl dX12_drifts_25 rfl kkX12 flX12_253 (by decide) rfl rfl (by decide) rfl ?_
  refine g_icmp_ge dX12_drifts_28 rfl rfl ?_ ?_
  · refine g_iconst dX12_drifts_31 rfl kic_0 ?_
    refine g_istore_n (lv' := [(3, .int (0 : Int32)), (0, .ref (q.ad 102)), (1, .int v1), (2, .int v2)]) dX12_drifts_32 rfl rfl (Nat.le_of_ble_eq_true rfl) rfl ?_
    refine g_sub [1, 2, 3, 0] rfl ?_
    refine mo_drifts_L33_g q n _ (fun v6 v7 X5 => ?_) n v1 v2 (0 : Int32) X
    refine g_iconst dX12_drifts_123 rfl kic_0 ?_
    refine g_istore_n (lv' := [(3, .int (0 : Int32)), (0, .ref (q.ad 102)), (1, .int v6), (2, .int v7)]) dX12_drifts_124 rfl rfl (Nat.le_of_ble_eq_true rfl) rfl ?_
    refine g_sub [1, 2, 3, 0] rfl ?_
    refine mo_drifts_L125_g q n _ (fun v10 v11 X9 => ?_) n v6 v7 (0 : Int32) X5
    refine g_sub [0, 1, 2] rfl ?_
    exact mo_drifts_J195_g q n _ hrec v10 v11 X9
  exact g_vret dX12_drifts_242 rfl rfl
theorem mo_drifts_L23_g (q : Th) (n : Nat) : ∀ (w : Nat) (v1 : Int32) (v2 : Int32) (X : St), G q (mF q nX12_drifts RX12 2) fvw 23 [(0, .ref (q.ad 102)), (1, .int v1), (2, .int v2)] [] X (mo_drifts_L23 n w v1 v2 X) := by
  intro w
  induction w with
  | zero => intro v1 v2 X; exact g_none
  | succ w ih => intro v1 v2 X; exact mo_drifts_L23_Bg q n _ ih v1 v2 X
theorem mo_drifts_c (q : Th) (n : Nat) (v1 : Int32) (X : St) : Ct q nX12_drifts 2 fvw [.ref (q.ad 102), .int v1] X (mo_drifts n v1 X) := by
  refine ct_of (by decide +kernel) (Nat.le_of_ble_eq_true rfl) ?_
  unfold mo_drifts
  show G q _ _ 0 [(0, .ref (q.ad 102)), (1, .int v1)] [] X _
  refine g_iconst dX12_drifts_0 rfl kic_0 ?_
  refine g_istore_n (lv' := [(2, .int (0 : Int32)), (0, .ref (q.ad 102)), (1, .int v1)]) dX12_drifts_1 rfl rfl (Nat.le_of_ble_eq_true rfl) rfl ?_
  refine g_sub [1, 2, 0] rfl ?_
  refine mo_drifts_L2_g q n _ (fun v2 X1 => ?_) n v1 (0 : Int32) X
  refine g_iconst dX12_drifts_21 rfl kic_0 ?_
  refine g_istore_n (lv' := [(2, .int (0 : Int32)), (0, .ref (q.ad 102)), (1, .int v2)]) dX12_drifts_22 rfl rfl (Nat.le_of_ble_eq_true rfl) rfl ?_
  refine g_sub [1, 2, 0] rfl ?_
  refine mo_drifts_L23_g q n n v2 (0 : Int32) X1
def mo_offOf (v1 : Int32) (v2 : Int32) (X : St) : Option (Int32) :=
  (if inB (((8 : Int32) * v2) + v1) 488 then
  (if inB v1 8 then
  (some ((X.1 134 (nx (((8 : Int32) * v2) + v1))) - (X.1 108 (nx v1)))) else none) else none)
theorem mo_offOf_c (q : Th) (v1 : Int32) (v2 : Int32) (X : St) : Ct q nX12_offOf 0 (fir X) [.ref (q.ad 102), .int v1, .int v2] X (mo_offOf v1 v2 X) := by
  refine ct_of (by decide +kernel) (Nat.le_of_ble_eq_true rfl) ?_
  unfold mo_offOf
  show G q _ _ 0 [(0, .ref (q.ad 102)), (1, .int v1), (2, .int v2)] [] X _
  refine g_aload_n 0 dX12_offOf_0 rfl rfl ?_
  refine g_getR 102 46 134 rfl dX12_offOf_1 rfl kkX12 flX12_106 (by decide) rfl rfl (by decide) rfl ?_
  refine g_bipush dX12_offOf_4 rfl kbi_8 ?_
  refine g_iload_n 2 dX12_offOf_6 rfl rfl ?_
  refine g_imul dX12_offOf_7 rfl ?_
  refine g_iload_n 1 dX12_offOf_8 rfl rfl ?_
  refine g_iadd dX12_offOf_9 rfl ?_
  refine g_iald dX12_offOf_10 rfl (by decide) rfl rfl ?_
  refine g_aload_n 0 dX12_offOf_11 rfl rfl ?_
  refine g_getR 102 6 108 rfl dX12_offOf_12 rfl kkX12 flX12_27 (by decide) rfl rfl (by decide) rfl ?_
  refine g_iload_n 1 dX12_offOf_15 rfl rfl ?_
  refine g_iald dX12_offOf_16 rfl (by decide) rfl rfl ?_
  refine g_isub dX12_offOf_17 rfl ?_
  exact g_iret dX12_offOf_18 rfl rfl
def mo_apartOf (v1 : Int32) (v2 : Int32) (v3 : Int32) (X : St) : Option (Int32) :=
  ((mo_offOf v1 v3 X).bind fun c1 =>
  ((mo_offOf v2 v3 X).bind fun c2 =>
  (some (jmath_abs (c1 - c2)))))
theorem mo_apartOf_c (q : Th) (v1 : Int32) (v2 : Int32) (v3 : Int32) (X : St) : Ct q nX12_apartOf 1 (fir X) [.ref (q.ad 102), .int v1, .int v2, .int v3] X (mo_apartOf v1 v2 v3 X) := by
  refine ct_of (by decide +kernel) (Nat.le_of_ble_eq_true rfl) ?_
  unfold mo_apartOf
  show G q _ _ 0 [(0, .ref (q.ad 102)), (1, .int v1), (2, .int v2), (3, .int v3)] [] X _
  refine g_aload_n 0 dX12_apartOf_0 rfl rfl ?_
  refine g_iload_n 1 dX12_apartOf_1 rfl rfl ?_
  refine g_iload_n 3 dX12_apartOf_2 rfl rfl ?_
  refine g_cVIr (As := [.int v1, .int v3]) (st := []) 2 mF_wg rfl dX12_apartOf_3 rfl kkX12 (by decide) rfl vX12_offOf lkX12_269 (rmL rfl rfl) (mo_offOf_c q v1 v3 X) rfl rfl (Nat.le_of_ble_eq_true rfl) (fun c1 => ?_)
  refine g_aload_n 0 dX12_apartOf_6 rfl rfl ?_
  refine g_iload_n 2 dX12_apartOf_7 rfl rfl ?_
  refine g_iload_n 3 dX12_apartOf_8 rfl rfl ?_
  refine g_cVIr (As := [.int v2, .int v3]) (st := [.int c1]) 2 mF_wg rfl dX12_apartOf_9 rfl kkX12 (by decide) rfl vX12_offOf lkX12_269 (rmL rfl rfl) (mo_offOf_c q v2 v3 X) rfl rfl (Nat.le_of_ble_eq_true rfl) (fun c2 => ?_)
  refine g_isub dX12_apartOf_12 rfl ?_
  refine g_mabs (st := []) rfl dX12_apartOf_13 rfl lkX12_237 (rmL rfl rfl) (Nat.le_of_ble_eq_true rfl) ?_
  exact g_iret dX12_apartOf_16 rfl rfl
def mo_farthest_L23_B (n : Nat) (X : St) (k73 : Int32 → Int32 → Int32 → Int32 → Option (Int32)) (rec : Int32 → Int32 → Int32 → Int32 → Int32 → Option (Int32)) (v1 : Int32) (v2 : Int32) (v3 : Int32) (v4 : Int32) (v5 : Int32) : Option (Int32) :=
(if v5 < (X.1 102 0) then
((mo_apartOf v4 v5 v1 X).bind fun c1 =>
(if v3 < c1 then
((mo_apartOf v4 v5 v1 X).bind fun c2 =>
(rec v1 (((10 : Int32) * v4) + v5) c2 v4 (v5 + (1 : Int32))))
else
(rec v1 v2 v3 v4 (v5 + (1 : Int32)))))
else
(k73 v1 v2 v3 v4))
def mo_farthest_L23 (n : Nat) (X : St) (k73 : Int32 → Int32 → Int32 → Int32 → Option (Int32)) : Nat → Int32 → Int32 → Int32 → Int32 → Int32 → Option (Int32)
  | 0 => fun _ _ _ _ _ => none
  | w + 1 => mo_farthest_L23_B n X k73 (mo_farthest_L23 n X k73 w)
def mo_farthest_L8_B (n : Nat) (X : St) (rec : Int32 → Int32 → Int32 → Int32 → Option (Int32)) (v1 : Int32) (v2 : Int32) (v3 : Int32) (v4 : Int32) : Option (Int32) :=
(if v4 < (X.1 102 0) then
(mo_farthest_L23 n X (fun v3 v4 v5 v6 =>
(rec v3 v4 v5 (v6 + (1 : Int32)))) n v1 v2 v3 v4 (v4 + (1 : Int32)))
else
(some v2))
def mo_farthest_L8 (n : Nat) (X : St) : Nat → Int32 → Int32 → Int32 → Int32 → Option (Int32)
  | 0 => fun _ _ _ _ => none
  | w + 1 => mo_farthest_L8_B n X (mo_farthest_L8 n X w)
def mo_farthest (n : Nat) (v1 : Int32) (X : St) : Option (Int32) :=
  (mo_farthest_L8 n X n v1 (-2 : Int32) (-1 : Int32) (0 : Int32))
theorem mo_farthest_L23_Bg (q : Th) (n : Nat) (X : St) (k73 : Int32 → Int32 → Int32 → Int32 → Option (Int32)) (hk73 : ∀ v1 v2 v3 v4, G q (mF q nX12_farthest RX12 2) (fir X) 73 [(0, .ref (q.ad 102)), (1, .int v1), (2, .int v2), (3, .int v3), (4, .int v4)] [] X (k73 v1 v2 v3 v4)) (rec : Int32 → Int32 → Int32 → Int32 → Int32 → Option (Int32)) (hrec : ∀ v1 v2 v3 v4 v5, G q (mF q nX12_farthest RX12 2) (fir X) 23 [(0, .ref (q.ad 102)), (1, .int v1), (2, .int v2), (3, .int v3), (4, .int v4), (5, .int v5)] [] X (rec v1 v2 v3 v4 v5)) (v1 : Int32) (v2 : Int32) (v3 : Int32) (v4 : Int32) (v5 : Int32) : G q (mF q nX12_farthest RX12 2) (fir X) 23 [(0, .ref (q.ad 102)), (1, .int v1), (2, .int v2), (3, .int v3), (4, .int v4), (5, .int v5)] [] X (mo_farthest_L23_B n X k73 rec v1 v2 v3 v4 v5) := by
  unfold mo_farthest_L23_B
  refine g_iload 5 dX12_farthest_23 rfl rfl ?_
  refine g_aload_n 0 dX12_farthest_25 rfl rfl ?_
  refine g_getI 102 0 rfl dX12_farthest_26 rfl kkX12 flX12_125 (by decide) rfl rfl (by decide) rfl ?_
  refine g_icmp_ge dX12_farthest_29 rfl rfl ?_ ?_
  · refine g_aload_n 0 dX12_farthest_32 rfl rfl ?_
    refine g_iload 4 dX12_farthest_33 rfl rfl ?_
    refine g_iload 5 dX12_farthest_35 rfl rfl ?_
    refine g_iload_n 1 dX12_farthest_37 rfl rfl ?_
    refine g_cVIr (As := [.int v4, .int v5, .int v1]) (st := []) 3 mF_wg rfl dX12_farthest_38 rfl kkX12 (by decide) rfl vX12_apartOf lkX12_272 (rmL rfl rfl) (mo_apartOf_c q v4 v5 v1 X) rfl rfl (Nat.le_of_ble_eq_true rfl) (fun c1 => ?_)
    refine g_iload_n 3 dX12_farthest_41 rfl rfl ?_
    refine g_icmp_gt dX12_farthest_42 rfl rfl ?_ ?_
    · refine g_aload_n 0 dX12_farthest_48 rfl rfl ?_
      refine g_iload 4 dX12_farthest_49 rfl rfl ?_
      refine g_iload 5 dX12_farthest_51 rfl rfl ?_
      refine g_iload_n 1 dX12_farthest_53 rfl rfl ?_
      refine g_cVIr (As := [.int v4, .int v5, .int v1]) (st := []) 3 mF_wg rfl dX12_farthest_54 rfl kkX12 (by decide) rfl vX12_apartOf lkX12_272 (rmL rfl rfl) (mo_apartOf_c q v4 v5 v1 X) rfl rfl (Nat.le_of_ble_eq_true rfl) (fun c2 => ?_)
      refine g_istore_n (lv' := [(3, .int c2), (0, .ref (q.ad 102)), (1, .int v1), (2, .int v2), (4, .int v4), (5, .int v5)]) dX12_farthest_57 rfl rfl (Nat.le_of_ble_eq_true rfl) rfl ?_
      refine g_bipush dX12_farthest_58 rfl kbi_10 ?_
      refine g_iload 4 dX12_farthest_60 rfl rfl ?_
      refine g_imul dX12_farthest_62 rfl ?_
      refine g_iload 5 dX12_farthest_63 rfl rfl ?_
      refine g_iadd dX12_farthest_65 rfl ?_
      refine g_istore_n (lv' := [(2, .int (((10 : Int32) * v4) + v5)), (3, .int c2), (0, .ref (q.ad 102)), (1, .int v1), (4, .int v4), (5, .int v5)]) dX12_farthest_66 rfl rfl (Nat.le_of_ble_eq_true rfl) rfl ?_
      refine g_inc (lv' := [(5, .int (v5 + (1 : Int32))), (2, .int (((10 : Int32) * v4) + v5)), (3, .int c2), (0, .ref (q.ad 102)), (1, .int v1), (4, .int v4)]) 5 dX12_farthest_67 rfl rfl kic_1 (Nat.le_of_ble_eq_true rfl) rfl ?_
      refine g_goto dX12_farthest_70 rfl ?_
      refine g_sub [3, 4, 1, 2, 5, 0] rfl ?_
      exact hrec v1 (((10 : Int32) * v4) + v5) c2 v4 (v5 + (1 : Int32))
    refine g_goto dX12_farthest_45 rfl ?_
    refine g_inc (lv' := [(5, .int (v5 + (1 : Int32))), (0, .ref (q.ad 102)), (1, .int v1), (2, .int v2), (3, .int v3), (4, .int v4)]) 5 dX12_farthest_67 rfl rfl kic_1 (Nat.le_of_ble_eq_true rfl) rfl ?_
    refine g_goto dX12_farthest_70 rfl ?_
    refine g_sub [1, 2, 3, 4, 5, 0] rfl ?_
    exact hrec v1 v2 v3 v4 (v5 + (1 : Int32))
  refine g_sub [0, 1, 2, 3, 4] rfl ?_
  exact hk73 v1 v2 v3 v4
theorem mo_farthest_L23_g (q : Th) (n : Nat) (X : St) (k73 : Int32 → Int32 → Int32 → Int32 → Option (Int32)) (hk73 : ∀ v1 v2 v3 v4, G q (mF q nX12_farthest RX12 2) (fir X) 73 [(0, .ref (q.ad 102)), (1, .int v1), (2, .int v2), (3, .int v3), (4, .int v4)] [] X (k73 v1 v2 v3 v4)) : ∀ (w : Nat) (v1 : Int32) (v2 : Int32) (v3 : Int32) (v4 : Int32) (v5 : Int32), G q (mF q nX12_farthest RX12 2) (fir X) 23 [(0, .ref (q.ad 102)), (1, .int v1), (2, .int v2), (3, .int v3), (4, .int v4), (5, .int v5)] [] X (mo_farthest_L23 n X k73 w v1 v2 v3 v4 v5) := by
  intro w
  induction w with
  | zero => intro v1 v2 v3 v4 v5; exact g_none
  | succ w ih => intro v1 v2 v3 v4 v5; exact mo_farthest_L23_Bg q n X k73 hk73 _ ih v1 v2 v3 v4 v5
theorem mo_farthest_L8_Bg (q : Th) (n : Nat) (X : St) (rec : Int32 → Int32 → Int32 → Int32 → Option (Int32)) (hrec : ∀ v1 v2 v3 v4, G q (mF q nX12_farthest RX12 2) (fir X) 8 [(0, .ref (q.ad 102)), (1, .int v1), (2, .int v2), (3, .int v3), (4, .int v4)] [] X (rec v1 v2 v3 v4)) (v1 : Int32) (v2 : Int32) (v3 : Int32) (v4 : Int32) : G q (mF q nX12_farthest RX12 2) (fir X) 8 [(0, .ref (q.ad 102)), (1, .int v1), (2, .int v2), (3, .int v3), (4, .int v4)] [] X (mo_farthest_L8_B n X rec v1 v2 v3 v4) := by
  unfold mo_farthest_L8_B
  refine g_iload 4 dX12_farthest_8 rfl rfl ?_
  refine g_aload_n 0 dX12_farthest_10 rfl rfl ?_
  refine g_getI 102 0 rfl dX12_farthest_11 rfl kkX12 flX12_125 (by decide) rfl rfl (by decide) rfl ?_
  refine g_icmp_ge dX12_farthest_14 rfl rfl ?_ ?_
  · refine g_iload 4 dX12_farthest_17 rfl rfl ?_
    refine g_iconst dX12_farthest_19 rfl kic_1 ?_
    refine g_iadd dX12_farthest_20 rfl ?_
    refine g_istore (lv' := [(5, .int (v4 + (1 : Int32))), (0, .ref (q.ad 102)), (1, .int v1), (2, .int v2), (3, .int v3), (4, .int v4)]) dX12_farthest_21 rfl (Nat.le_of_ble_eq_true rfl) rfl ?_
    refine g_sub [1, 2, 3, 4, 5, 0] rfl ?_
    refine mo_farthest_L23_g q n X _ (fun v3 v4 v5 v6 => ?_) n v1 v2 v3 v4 (v4 + (1 : Int32))
    refine g_inc (lv' := [(4, .int (v6 + (1 : Int32))), (0, .ref (q.ad 102)), (1, .int v3), (2, .int v4), (3, .int v5)]) 4 dX12_farthest_73 rfl rfl kic_1 (Nat.le_of_ble_eq_true rfl) rfl ?_
    refine g_goto dX12_farthest_76 rfl ?_
    refine g_sub [1, 2, 3, 4, 0] rfl ?_
    exact hrec v3 v4 v5 (v6 + (1 : Int32))
  refine g_iload_n 2 dX12_farthest_79 rfl rfl ?_
  exact g_iret dX12_farthest_80 rfl rfl
theorem mo_farthest_L8_g (q : Th) (n : Nat) (X : St) : ∀ (w : Nat) (v1 : Int32) (v2 : Int32) (v3 : Int32) (v4 : Int32), G q (mF q nX12_farthest RX12 2) (fir X) 8 [(0, .ref (q.ad 102)), (1, .int v1), (2, .int v2), (3, .int v3), (4, .int v4)] [] X (mo_farthest_L8 n X w v1 v2 v3 v4) := by
  intro w
  induction w with
  | zero => intro v1 v2 v3 v4; exact g_none
  | succ w ih => intro v1 v2 v3 v4; exact mo_farthest_L8_Bg q n X _ ih v1 v2 v3 v4
theorem mo_farthest_c (q : Th) (n : Nat) (v1 : Int32) (X : St) : Ct q nX12_farthest 2 (fir X) [.ref (q.ad 102), .int v1] X (mo_farthest n v1 X) := by
  refine ct_of (by decide +kernel) (Nat.le_of_ble_eq_true rfl) ?_
  unfold mo_farthest
  show G q _ _ 0 [(0, .ref (q.ad 102)), (1, .int v1)] [] X _
  refine g_bipush dX12_farthest_0 rfl kbi_m2 ?_
  refine g_istore_n (lv' := [(2, .int (-2 : Int32)), (0, .ref (q.ad 102)), (1, .int v1)]) dX12_farthest_2 rfl rfl (Nat.le_of_ble_eq_true rfl) rfl ?_
  refine g_iconst dX12_farthest_3 rfl kic_m1 ?_
  refine g_istore_n (lv' := [(3, .int (-1 : Int32)), (2, .int (-2 : Int32)), (0, .ref (q.ad 102)), (1, .int v1)]) dX12_farthest_4 rfl rfl (Nat.le_of_ble_eq_true rfl) rfl ?_
  refine g_iconst dX12_farthest_5 rfl kic_0 ?_
  refine g_istore (lv' := [(4, .int (0 : Int32)), (3, .int (-1 : Int32)), (2, .int (-2 : Int32)), (0, .ref (q.ad 102)), (1, .int v1)]) dX12_farthest_6 rfl (Nat.le_of_ble_eq_true rfl) rfl ?_
  refine g_sub [3, 4, 2, 1, 0] rfl ?_
  refine mo_farthest_L8_g q n X n v1 (-2 : Int32) (-1 : Int32) (0 : Int32)
def mo_greatest (n : Nat) (v1 : Int32) (X : St) : Option (Int32) :=
  ((mo_farthest n v1 X).bind fun c1 =>
  (if c1 = (-2 : Int32) then
  (some (0 : Int32))
  else
  ((mo_apartOf (c1 / (10 : Int32)) (irm c1 (10 : Int32)) v1 X).bind fun c2 =>
  (some c2))))
theorem mo_greatest_c (q : Th) (n : Nat) (v1 : Int32) (X : St) : Ct q nX12_greatest 3 (fir X) [.ref (q.ad 102), .int v1] X (mo_greatest n v1 X) := by
  refine ct_of (by decide +kernel) (Nat.le_of_ble_eq_true rfl) ?_
  unfold mo_greatest
  show G q _ _ 0 [(0, .ref (q.ad 102)), (1, .int v1)] [] X _
  refine g_aload_n 0 dX12_greatest_0 rfl rfl ?_
  refine g_iload_n 1 dX12_greatest_1 rfl rfl ?_
  refine g_cVIr (As := [.int v1]) (st := []) 1 mF_wg rfl dX12_greatest_2 rfl kkX12 (by decide) rfl vX12_farthest lkX12_275 (rmL rfl rfl) (mo_farthest_c q n v1 X) rfl rfl (Nat.le_of_ble_eq_true rfl) (fun c1 => ?_)
  refine g_istore_n (lv' := [(2, .int c1), (0, .ref (q.ad 102)), (1, .int v1)]) dX12_greatest_5 rfl rfl (Nat.le_of_ble_eq_true rfl) rfl ?_
  refine g_iload_n 0 dX12_greatest_6 rfl rfl ?_
  refine g_bipush dX12_greatest_7 rfl kbi_m2 ?_
  refine g_icmp_ne dX12_greatest_9 rfl rfl ?_ ?_
  · refine g_iconst dX12_greatest_12 rfl kic_0 ?_
    refine g_goto dX12_greatest_13 rfl ?_
    exact g_iret dX12_greatest_29 rfl rfl
  refine g_aload_n 1 dX12_greatest_16 rfl rfl ?_
  refine g_iload_n 0 dX12_greatest_17 rfl rfl ?_
  refine g_bipush dX12_greatest_18 rfl kbi_10 ?_
  refine g_idivC dX12_greatest_20 rfl (by decide) ?_
  refine g_iload_n 0 dX12_greatest_21 rfl rfl ?_
  refine g_bipush dX12_greatest_22 rfl kbi_10 ?_
  refine g_iremC dX12_greatest_24 rfl (by decide) ?_
  refine g_iload_n 2 dX12_greatest_25 rfl rfl ?_
  refine g_cVIr (As := [.int (c1 / (10 : Int32)), .int (irm c1 (10 : Int32)), .int v1]) (st := []) 3 mF_wg rfl dX12_greatest_26 rfl kkX12 (by decide) rfl vX12_apartOf lkX12_272 (rmL rfl rfl) (mo_apartOf_c q (c1 / (10 : Int32)) (irm c1 (10 : Int32)) v1 X) rfl rfl (Nat.le_of_ble_eq_true rfl) (fun c2 => ?_)
  exact g_iret dX12_greatest_29 rfl rfl
def mo_marks_L39_B (n : Nat) (k93 : Int32 → Int32 → Int32 → St → Option (Int32 × St)) (rec : Int32 → Int32 → Int32 → Int32 → St → Option (Int32 × St)) (v1 : Int32) (v2 : Int32) (v3 : Int32) (v4 : Int32) (X : St) : Option (Int32 × St) :=
(if v4 < (X.1 102 44) then
(if inB (((10 : Int32) * v2) + v3) 80 then
((mo_apartOf v2 v3 (v4 + (1 : Int32)) X).bind fun c1 =>
(if inB v4 60 then
((mo_loss n v2 v3 c1 (X.1 133 (nx v4)) v4 X).bind fun (c3, X2) =>
(if inB (((10 : Int32) * v2) + v3) 80 then
((some (stI X2 135 (nx (((10 : Int32) * v2) + v3)) ((X.1 135 (nx (((10 : Int32) * v2) + v3))) + c3))).bind fun X4 =>
(rec v1 v2 v3 (v4 + (1 : Int32)) X4)) else none)) else none)) else none)
else
(k93 v1 v2 v3 X))
def mo_marks_L39 (n : Nat) (k93 : Int32 → Int32 → Int32 → St → Option (Int32 × St)) : Nat → Int32 → Int32 → Int32 → Int32 → St → Option (Int32 × St)
  | 0 => fun _ _ _ _ _ => none
  | w + 1 => mo_marks_L39_B n k93 (mo_marks_L39 n k93 w)
def mo_marks_L16_B (n : Nat) (k113 : Int32 → Int32 → St → Option (Int32 × St)) (rec : Int32 → Int32 → Int32 → St → Option (Int32 × St)) (v1 : Int32) (v2 : Int32) (v3 : Int32) (X : St) : Option (Int32 × St) :=
(if v3 < (X.1 102 0) then
(if inB (((10 : Int32) * v2) + v3) 80 then
(mo_marks_L39 n (fun v6 v7 v8 X5 =>
(if inB (((10 : Int32) * v7) + v8) 80 then
((some (v6 + (X5.1 135 (nx (((10 : Int32) * v7) + v8))))).bind fun t9 =>
(rec t9 v7 (v8 + (1 : Int32)) X5)) else none)) n v1 v2 v3 (0 : Int32) (stI X 135 (nx (((10 : Int32) * v2) + v3)) (0 : Int32))) else none)
else
(k113 v1 v2 X))
def mo_marks_L16 (n : Nat) (k113 : Int32 → Int32 → St → Option (Int32 × St)) : Nat → Int32 → Int32 → Int32 → St → Option (Int32 × St)
  | 0 => fun _ _ _ _ => none
  | w + 1 => mo_marks_L16_B n k113 (mo_marks_L16 n k113 w)
def mo_marks_L4_B (n : Nat) (rec : Int32 → Int32 → St → Option (Int32 × St)) (v1 : Int32) (v2 : Int32) (X : St) : Option (Int32 × St) :=
(if v2 < (X.1 102 0) then
(mo_marks_L16 n (fun v11 v12 X10 =>
(rec v11 (v12 + (1 : Int32)) X10)) n v1 v2 (v2 + (1 : Int32)) X)
else
(some (v1, X)))
def mo_marks_L4 (n : Nat) : Nat → Int32 → Int32 → St → Option (Int32 × St)
  | 0 => fun _ _ _ => none
  | w + 1 => mo_marks_L4_B n (mo_marks_L4 n w)
def mo_marks (n : Nat) (X : St) : Option (Int32 × St) :=
  (mo_marks_L4 n n (0 : Int32) (0 : Int32) X)
theorem mo_marks_L39_Bg (q : Th) (n : Nat) (k93 : Int32 → Int32 → Int32 → St → Option (Int32 × St)) (hk93 : ∀ v1 v2 v3 X, G q (mF q nX12_marks RX12 3) fiw 93 [(0, .ref (q.ad 102)), (1, .int v1), (2, .int v2), (3, .int v3)] [] X (k93 v1 v2 v3 X)) (rec : Int32 → Int32 → Int32 → Int32 → St → Option (Int32 × St)) (hrec : ∀ v1 v2 v3 v4 X, G q (mF q nX12_marks RX12 3) fiw 39 [(0, .ref (q.ad 102)), (1, .int v1), (2, .int v2), (3, .int v3), (4, .int v4)] [] X (rec v1 v2 v3 v4 X)) (v1 : Int32) (v2 : Int32) (v3 : Int32) (v4 : Int32) (X : St) : G q (mF q nX12_marks RX12 3) fiw 39 [(0, .ref (q.ad 102)), (1, .int v1), (2, .int v2), (3, .int v3), (4, .int v4)] [] X (mo_marks_L39_B n k93 rec v1 v2 v3 v4 X) := by
  unfold mo_marks_L39_B
  refine g_iload 4 dX12_marks_39 rfl rfl ?_
  refine g_aload_n 0 dX12_marks_41 rfl rfl ?_
  refine g_getI 102 44 rfl dX12_marks_42 rfl kkX12 flX12_253 (by decide) rfl rfl (by decide) rfl ?_
  refine g_icmp_ge dX12_marks_45 rfl rfl ?_ ?_
  · refine g_aload_n 0 dX12_marks_48 rfl rfl ?_
    refine g_getR 102 47 135 rfl dX12_marks_49 rfl kkX12 flX12_109 (by decide) rfl rfl (by decide) rfl ?_
    refine g_bipush dX12_marks_52 rfl kbi_10 ?_
    refine g_iload_n 2 dX12_marks_54 rfl rfl ?_
    refine g_imul dX12_marks_55 rfl ?_
    refine g_iload_n 3 dX12_marks_56 rfl rfl ?_
    refine g_iadd dX12_marks_57 rfl ?_
    refine g_dup2 dX12_marks_58 rfl rfl rfl ?_
    refine g_iald dX12_marks_59 rfl (by decide) rfl rfl ?_
    refine g_aload_n 0 dX12_marks_60 rfl rfl ?_
    refine g_iload_n 2 dX12_marks_61 rfl rfl ?_
    refine g_iload_n 3 dX12_marks_62 rfl rfl ?_
    refine g_aload_n 0 dX12_marks_63 rfl rfl ?_
    refine g_iload_n 2 dX12_marks_64 rfl rfl ?_
    refine g_iload_n 3 dX12_marks_65 rfl rfl ?_
    refine g_iload 4 dX12_marks_66 rfl rfl ?_
    refine g_iconst dX12_marks_68 rfl kic_1 ?_
    refine g_iadd dX12_marks_69 rfl ?_
    refine g_cVIr (As := [.int v2, .int v3, .int (v4 + (1 : Int32))]) (st := [.int v3, .int v2, .ref (q.ad 102), .int (X.1 135 (nx (((10 : Int32) * v2) + v3))), .int (((10 : Int32) * v2) + v3), .ref (q.ad 135)]) 3 mF_wg rfl dX12_marks_70 rfl kkX12 (by decide) rfl vX12_apartOf lkX12_272 (rmL rfl rfl) (mo_apartOf_c q v2 v3 (v4 + (1 : Int32)) X) rfl rfl (Nat.le_of_ble_eq_true rfl) (fun c1 => ?_)
    refine g_aload_n 0 dX12_marks_73 rfl rfl ?_
    refine g_getR 102 45 133 rfl dX12_marks_74 rfl kkX12 flX12_103 (by decide) rfl rfl (by decide) rfl ?_
    refine g_iload 4 dX12_marks_77 rfl rfl ?_
    refine g_iald dX12_marks_79 rfl (by decide) rfl rfl ?_
    refine g_iload 4 dX12_marks_80 rfl rfl ?_
    refine g_cVIw (As := [.int v2, .int v3, .int c1, .int (X.1 133 (nx v4)), .int v4]) (st := [.int (X.1 135 (nx (((10 : Int32) * v2) + v3))), .int (((10 : Int32) * v2) + v3), .ref (q.ad 135)]) 5 mF_wg rfl dX12_marks_82 rfl kkX12 (by decide) rfl vX12_loss lkX12_249 (rmL rfl rfl) (mo_loss_c q n v2 v3 c1 (X.1 133 (nx v4)) v4 X) rfl rfl (Nat.le_of_ble_eq_true rfl) (fun c3 X2 => ?_)
    refine g_iadd dX12_marks_85 rfl ?_
    refine g_iast dX12_marks_86 rfl (by decide) rfl rfl ?_
    refine g_nmX (fun X4 => ?_)
    refine g_inc (lv' := [(4, .int (v4 + (1 : Int32))), (0, .ref (q.ad 102)), (1, .int v1), (2, .int v2), (3, .int v3)]) 4 dX12_marks_87 rfl rfl kic_1 (Nat.le_of_ble_eq_true rfl) rfl ?_
    refine g_goto dX12_marks_90 rfl ?_
    refine g_sub [1, 2, 3, 4, 0] rfl ?_
    exact hrec v1 v2 v3 (v4 + (1 : Int32)) X4
  refine g_sub [0, 1, 2, 3] rfl ?_
  exact hk93 v1 v2 v3 X
theorem mo_marks_L39_g (q : Th) (n : Nat) (k93 : Int32 → Int32 → Int32 → St → Option (Int32 × St)) (hk93 : ∀ v1 v2 v3 X, G q (mF q nX12_marks RX12 3) fiw 93 [(0, .ref (q.ad 102)), (1, .int v1), (2, .int v2), (3, .int v3)] [] X (k93 v1 v2 v3 X)) : ∀ (w : Nat) (v1 : Int32) (v2 : Int32) (v3 : Int32) (v4 : Int32) (X : St), G q (mF q nX12_marks RX12 3) fiw 39 [(0, .ref (q.ad 102)), (1, .int v1), (2, .int v2), (3, .int v3), (4, .int v4)] [] X (mo_marks_L39 n k93 w v1 v2 v3 v4 X) := by
  intro w
  induction w with
  | zero => intro v1 v2 v3 v4 X; exact g_none
  | succ w ih => intro v1 v2 v3 v4 X; exact mo_marks_L39_Bg q n k93 hk93 _ ih v1 v2 v3 v4 X
theorem mo_marks_L16_Bg (q : Th) (n : Nat) (k113 : Int32 → Int32 → St → Option (Int32 × St)) (hk113 : ∀ v1 v2 X, G q (mF q nX12_marks RX12 3) fiw 113 [(0, .ref (q.ad 102)), (1, .int v1), (2, .int v2)] [] X (k113 v1 v2 X)) (rec : Int32 → Int32 → Int32 → St → Option (Int32 × St)) (hrec : ∀ v1 v2 v3 X, G q (mF q nX12_marks RX12 3) fiw 16 [(0, .ref (q.ad 102)), (1, .int v1), (2, .int v2), (3, .int v3)] [] X (rec v1 v2 v3 X)) (v1 : Int32) (v2 : Int32) (v3 : Int32) (X : St) : G q (mF q nX12_marks RX12 3) fiw 16 [(0, .ref (q.ad 102)), (1, .int v1), (2, .int v2), (3, .int v3)] [] X (mo_marks_L16_B n k113 rec v1 v2 v3 X) := by
  unfold mo_marks_L16_B
  refine g_iload_n 3 dX12_marks_16 rfl rfl ?_
  refine g_aload_n 0 dX12_marks_17 rfl rfl ?_
  refine g_getI 102 0 rfl dX12_marks_18 rfl kkX12 flX12_125 (by decide) rfl rfl (by decide) rfl ?_
  refine g_icmp_ge dX12_marks_21 rfl rfl ?_ ?_
  · refine g_aload_n 0 dX12_marks_24 rfl rfl ?_
    refine g_getR 102 47 135 rfl dX12_marks_25 rfl kkX12 flX12_109 (by decide) rfl rfl (by decide) rfl ?_
    refine g_bipush dX12_marks_28 rfl kbi_10 ?_
    refine g_iload_n 2 dX12_marks_30 rfl rfl ?_
    refine g_imul dX12_marks_31 rfl ?_
    refine g_iload_n 3 dX12_marks_32 rfl rfl ?_
    refine g_iadd dX12_marks_33 rfl ?_
    refine g_iconst dX12_marks_34 rfl kic_0 ?_
    refine g_iast dX12_marks_35 rfl (by decide) rfl rfl ?_
    refine g_iconst dX12_marks_36 rfl kic_0 ?_
    refine g_istore (lv' := [(4, .int (0 : Int32)), (0, .ref (q.ad 102)), (1, .int v1), (2, .int v2), (3, .int v3)]) dX12_marks_37 rfl (Nat.le_of_ble_eq_true rfl) rfl ?_
    refine g_sub [1, 2, 3, 4, 0] rfl ?_
    refine mo_marks_L39_g q n _ (fun v6 v7 v8 X5 => ?_) n v1 v2 v3 (0 : Int32) (stI X 135 (nx (((10 : Int32) * v2) + v3)) (0 : Int32))
    refine g_iload_n 1 dX12_marks_93 rfl rfl ?_
    refine g_aload_n 0 dX12_marks_94 rfl rfl ?_
    refine g_getR 102 47 135 rfl dX12_marks_95 rfl kkX12 flX12_109 (by decide) rfl rfl (by decide) rfl ?_
    refine g_bipush dX12_marks_98 rfl kbi_10 ?_
    refine g_iload_n 2 dX12_marks_100 rfl rfl ?_
    refine g_imul dX12_marks_101 rfl ?_
    refine g_iload_n 3 dX12_marks_102 rfl rfl ?_
    refine g_iadd dX12_marks_103 rfl ?_
    refine g_iald dX12_marks_104 rfl (by decide) rfl rfl ?_
    refine g_iadd dX12_marks_105 rfl ?_
    refine g_nmI (fun t9 => ?_)
    refine g_istore_n (lv' := [(1, .int t9), (0, .ref (q.ad 102)), (2, .int v7), (3, .int v8)]) dX12_marks_106 rfl rfl (Nat.le_of_ble_eq_true rfl) rfl ?_
    refine g_inc (lv' := [(3, .int (v8 + (1 : Int32))), (1, .int t9), (0, .ref (q.ad 102)), (2, .int v7)]) 3 dX12_marks_107 rfl rfl kic_1 (Nat.le_of_ble_eq_true rfl) rfl ?_
    refine g_goto dX12_marks_110 rfl ?_
    refine g_sub [2, 1, 3, 0] rfl ?_
    exact hrec t9 v7 (v8 + (1 : Int32)) X5
  refine g_sub [0, 1, 2] rfl ?_
  exact hk113 v1 v2 X
theorem mo_marks_L16_g (q : Th) (n : Nat) (k113 : Int32 → Int32 → St → Option (Int32 × St)) (hk113 : ∀ v1 v2 X, G q (mF q nX12_marks RX12 3) fiw 113 [(0, .ref (q.ad 102)), (1, .int v1), (2, .int v2)] [] X (k113 v1 v2 X)) : ∀ (w : Nat) (v1 : Int32) (v2 : Int32) (v3 : Int32) (X : St), G q (mF q nX12_marks RX12 3) fiw 16 [(0, .ref (q.ad 102)), (1, .int v1), (2, .int v2), (3, .int v3)] [] X (mo_marks_L16 n k113 w v1 v2 v3 X) := by
  intro w
  induction w with
  | zero => intro v1 v2 v3 X; exact g_none
  | succ w ih => intro v1 v2 v3 X; exact mo_marks_L16_Bg q n k113 hk113 _ ih v1 v2 v3 X
theorem mo_marks_L4_Bg (q : Th) (n : Nat) (rec : Int32 → Int32 → St → Option (Int32 × St)) (hrec : ∀ v1 v2 X, G q (mF q nX12_marks RX12 3) fiw 4 [(0, .ref (q.ad 102)), (1, .int v1), (2, .int v2)] [] X (rec v1 v2 X)) (v1 : Int32) (v2 : Int32) (X : St) : G q (mF q nX12_marks RX12 3) fiw 4 [(0, .ref (q.ad 102)), (1, .int v1), (2, .int v2)] [] X (mo_marks_L4_B n rec v1 v2 X) := by
  unfold mo_marks_L4_B
  refine g_iload_n 2 dX12_marks_4 rfl rfl ?_
  refine g_aload_n 0 dX12_marks_5 rfl rfl ?_
  refine g_getI 102 0 rfl dX12_marks_6 rfl kkX12 flX12_125 (by decide) rfl rfl (by decide) rfl ?_
  refine g_icmp_ge dX12_marks_9 rfl rfl ?_ ?_
  · refine g_iload_n 2 dX12_marks_12 rfl rfl ?_
    refine g_iconst dX12_marks_13 rfl kic_1 ?_
    refine g_iadd dX12_marks_14 rfl ?_
    refine g_istore_n (lv' := [(3, .int (v2 + (1 : Int32))), (0, .ref (q.ad 102)), (1, .int v1), (2, .int v2)]) dX12_marks_15 rfl rfl (Nat.le_of_ble_eq_true rfl) rfl ?_
    refine g_sub [1, 2, 3, 0] rfl ?_
    refine mo_marks_L16_g q n _ (fun v11 v12 X10 => ?_) n v1 v2 (v2 + (1 : Int32)) X
    refine g_inc (lv' := [(2, .int (v12 + (1 : Int32))), (0, .ref (q.ad 102)), (1, .int v11)]) 2 dX12_marks_113 rfl rfl kic_1 (Nat.le_of_ble_eq_true rfl) rfl ?_
    refine g_goto dX12_marks_116 rfl ?_
    refine g_sub [1, 2, 0] rfl ?_
    exact hrec v11 (v12 + (1 : Int32)) X10
  refine g_iload_n 1 dX12_marks_119 rfl rfl ?_
  exact g_iret dX12_marks_120 rfl rfl
theorem mo_marks_L4_g (q : Th) (n : Nat) : ∀ (w : Nat) (v1 : Int32) (v2 : Int32) (X : St), G q (mF q nX12_marks RX12 3) fiw 4 [(0, .ref (q.ad 102)), (1, .int v1), (2, .int v2)] [] X (mo_marks_L4 n w v1 v2 X) := by
  intro w
  induction w with
  | zero => intro v1 v2 X; exact g_none
  | succ w ih => intro v1 v2 X; exact mo_marks_L4_Bg q n _ ih v1 v2 X
theorem mo_marks_c (q : Th) (n : Nat) (X : St) : Ct q nX12_marks 3 fiw [.ref (q.ad 102)] X (mo_marks n X) := by
  refine ct_of (by decide +kernel) (Nat.le_of_ble_eq_true rfl) ?_
  unfold mo_marks
  show G q _ _ 0 [(0, .ref (q.ad 102))] [] X _
  refine g_iconst dX12_marks_0 rfl kic_0 ?_
  refine g_istore_n (lv' := [(1, .int (0 : Int32)), (0, .ref (q.ad 102))]) dX12_marks_1 rfl rfl (Nat.le_of_ble_eq_true rfl) rfl ?_
  refine g_iconst dX12_marks_2 rfl kic_0 ?_
  refine g_istore_n (lv' := [(2, .int (0 : Int32)), (1, .int (0 : Int32)), (0, .ref (q.ad 102))]) dX12_marks_3 rfl rfl (Nat.le_of_ble_eq_true rfl) rfl ?_
  refine g_sub [2, 1, 0] rfl ?_
  refine mo_marks_L4_g q n n (0 : Int32) (0 : Int32) X
def mo_marksNow (n : Nat) (X : St) : Option (Int32 × St) :=
  ((mo_drifts n (0 : Int32) X).bind fun X1 =>
  ((mo_marks n X1).bind fun (c3, X2) =>
  (some (c3, X2))))
theorem mo_marksNow_c (q : Th) (n : Nat) (X : St) : Ct q nX12_marksNow 4 fiw [.ref (q.ad 102)] X (mo_marksNow n X) := by
  refine ct_of (by decide +kernel) (Nat.le_of_ble_eq_true rfl) ?_
  unfold mo_marksNow
  show G q _ _ 0 [(0, .ref (q.ad 102))] [] X _
  refine g_aload_n 0 dX12_marksNow_0 rfl rfl ?_
  refine g_iconst dX12_marksNow_1 rfl kic_0 ?_
  refine g_cVVw (As := [.int (0 : Int32)]) (st := []) 1 mF_wg rfl dX12_marksNow_2 rfl kkX12 (by decide) rfl vX12_drifts lkX12_278 (rmL rfl rfl) (mo_drifts_c q n (0 : Int32) X) rfl rfl (Nat.le_of_ble_eq_true rfl) (fun X1 => ?_)
  refine g_aload_n 0 dX12_marksNow_5 rfl rfl ?_
  refine g_cVIw (As := []) (st := []) 0 mF_wg rfl dX12_marksNow_6 rfl kkX12 (by decide) rfl vX12_marks lkX12_282 (rmL rfl rfl) (mo_marks_c q n X1) rfl rfl (Nat.le_of_ble_eq_true rfl) (fun c3 X2 => ?_)
  exact g_iret dX12_marksNow_9 rfl rfl
def mo_firstApart_L2_B (n : Nat) (X : St) (rec : Int32 → Option (Int32)) (v1 : Int32) : Option (Int32) :=
(if v1 < (X.1 102 44) then
(if (1 : Int32) < (X.1 102 0) then
((mo_greatest n (v1 + (1 : Int32)) X).bind fun c1 =>
(if c1 < (X.1 109 (nx (1 : Int32))) then
(rec (v1 + (1 : Int32)))
else
(some v1)))
else
(rec (v1 + (1 : Int32))))
else
(some (-2 : Int32)))
def mo_firstApart_L2 (n : Nat) (X : St) : Nat → Int32 → Option (Int32)
  | 0 => fun _ => none
  | w + 1 => mo_firstApart_L2_B n X (mo_firstApart_L2 n X w)
def mo_firstApart (n : Nat) (X : St) : Option (Int32) :=
  (mo_firstApart_L2 n X n (0 : Int32))
theorem mo_firstApart_L2_Bg (q : Th) (n : Nat) (X : St) (rec : Int32 → Option (Int32)) (hrec : ∀ v1, G q (mF q nX12_firstApart RX12 4) (fir X) 2 [(0, .ref (q.ad 102)), (1, .int v1)] [] X (rec v1)) (v1 : Int32) : G q (mF q nX12_firstApart RX12 4) (fir X) 2 [(0, .ref (q.ad 102)), (1, .int v1)] [] X (mo_firstApart_L2_B n X rec v1) := by
  unfold mo_firstApart_L2_B
  refine g_iload_n 1 dX12_firstApart_2 rfl rfl ?_
  refine g_aload_n 0 dX12_firstApart_3 rfl rfl ?_
  refine g_getI 102 44 rfl dX12_firstApart_4 rfl kkX12 flX12_253 (by decide) rfl rfl (by decide) rfl ?_
  refine g_icmp_ge dX12_firstApart_7 rfl rfl ?_ ?_
  · refine g_aload_n 0 dX12_firstApart_10 rfl rfl ?_
    refine g_getI 102 0 rfl dX12_firstApart_11 rfl kkX12 flX12_125 (by decide) rfl rfl (by decide) rfl ?_
    refine g_iconst dX12_firstApart_14 rfl kic_1 ?_
    refine g_icmp_le dX12_firstApart_15 rfl rfl ?_ ?_
    · refine g_aload_n 0 dX12_firstApart_18 rfl rfl ?_
      refine g_iload_n 1 dX12_firstApart_19 rfl rfl ?_
      refine g_iconst dX12_firstApart_20 rfl kic_1 ?_
      refine g_iadd dX12_firstApart_21 rfl ?_
      refine g_cVIr (As := [.int (v1 + (1 : Int32))]) (st := []) 1 mF_wg rfl dX12_firstApart_22 rfl kkX12 (by decide) rfl vX12_greatest lkX12_285 (rmL rfl rfl) (mo_greatest_c q n (v1 + (1 : Int32)) X) rfl rfl (Nat.le_of_ble_eq_true rfl) (fun c1 => ?_)
      refine g_aload_n 0 dX12_firstApart_25 rfl rfl ?_
      refine g_getR 102 7 109 rfl dX12_firstApart_26 rfl kkX12 flX12_30 (by decide) rfl rfl (by decide) rfl ?_
      refine g_iconst dX12_firstApart_29 rfl kic_1 ?_
      refine g_iald0 dX12_firstApart_30 rfl (by decide) rfl rfl (by decide) ?_
      refine g_icmp_lt dX12_firstApart_31 rfl rfl ?_ ?_
      · refine g_inc (lv' := [(1, .int (v1 + (1 : Int32))), (0, .ref (q.ad 102))]) 1 dX12_firstApart_36 rfl rfl kic_1 (Nat.le_of_ble_eq_true rfl) rfl ?_
        refine g_goto dX12_firstApart_39 rfl ?_
        refine g_sub [1, 0] rfl ?_
        exact hrec (v1 + (1 : Int32))
      refine g_iload_n 1 dX12_firstApart_34 rfl rfl ?_
      exact g_iret dX12_firstApart_35 rfl rfl
    refine g_inc (lv' := [(1, .int (v1 + (1 : Int32))), (0, .ref (q.ad 102))]) 1 dX12_firstApart_36 rfl rfl kic_1 (Nat.le_of_ble_eq_true rfl) rfl ?_
    refine g_goto dX12_firstApart_39 rfl ?_
    refine g_sub [1, 0] rfl ?_
    exact hrec (v1 + (1 : Int32))
  refine g_bipush dX12_firstApart_42 rfl kbi_m2 ?_
  exact g_iret dX12_firstApart_44 rfl rfl
theorem mo_firstApart_L2_g (q : Th) (n : Nat) (X : St) : ∀ (w : Nat) (v1 : Int32), G q (mF q nX12_firstApart RX12 4) (fir X) 2 [(0, .ref (q.ad 102)), (1, .int v1)] [] X (mo_firstApart_L2 n X w v1) := by
  intro w
  induction w with
  | zero => intro v1; exact g_none
  | succ w ih => intro v1; exact mo_firstApart_L2_Bg q n X _ ih v1
theorem mo_firstApart_c (q : Th) (n : Nat) (X : St) : Ct q nX12_firstApart 4 (fir X) [.ref (q.ad 102)] X (mo_firstApart n X) := by
  refine ct_of (by decide +kernel) (Nat.le_of_ble_eq_true rfl) ?_
  unfold mo_firstApart
  show G q _ _ 0 [(0, .ref (q.ad 102))] [] X _
  refine g_iconst dX12_firstApart_0 rfl kic_0 ?_
  refine g_istore_n (lv' := [(1, .int (0 : Int32)), (0, .ref (q.ad 102))]) dX12_firstApart_1 rfl rfl (Nat.le_of_ble_eq_true rfl) rfl ?_
  refine g_sub [1, 0] rfl ?_
  refine mo_firstApart_L2_g q n X n (0 : Int32)
def mo_losers_L20_B (n : Nat) (X : St) (k75 : Int32 → Int32 → Int32 → Option (Int32)) (rec : Int32 → Int32 → Int32 → Int32 → Option (Int32)) (v1 : Int32) (v2 : Int32) (v3 : Int32) (v4 : Int32) : Option (Int32) :=
(if v4 < (X.1 102 0) then
(if inB (((10 : Int32) * v3) + v4) 80 then
(if v2 < (X.1 135 (nx (((10 : Int32) * v3) + v4))) then
(if inB (((10 : Int32) * v3) + v4) 80 then
((some (X.1 135 (nx (((10 : Int32) * v3) + v4)))).bind fun t1 =>
(rec (((10 : Int32) * v3) + v4) t1 v3 (v4 + (1 : Int32)))) else none)
else
(rec v1 v2 v3 (v4 + (1 : Int32)))) else none)
else
(k75 v1 v2 v3))
def mo_losers_L20 (n : Nat) (X : St) (k75 : Int32 → Int32 → Int32 → Option (Int32)) : Nat → Int32 → Int32 → Int32 → Int32 → Option (Int32)
  | 0 => fun _ _ _ _ => none
  | w + 1 => mo_losers_L20_B n X k75 (mo_losers_L20 n X k75 w)
def mo_losers_L7_B (n : Nat) (X : St) (rec : Int32 → Int32 → Int32 → Option (Int32)) (v1 : Int32) (v2 : Int32) (v3 : Int32) : Option (Int32) :=
(if v3 < (X.1 102 0) then
(mo_losers_L20 n X (fun v2 v3 v4 =>
(rec v2 v3 (v4 + (1 : Int32)))) n v1 v2 v3 (v3 + (1 : Int32)))
else
(some v1))
def mo_losers_L7 (n : Nat) (X : St) : Nat → Int32 → Int32 → Int32 → Option (Int32)
  | 0 => fun _ _ _ => none
  | w + 1 => mo_losers_L7_B n X (mo_losers_L7 n X w)
def mo_losers (n : Nat) (X : St) : Option (Int32) :=
  (mo_losers_L7 n X n (-2 : Int32) (0 : Int32) (0 : Int32))
theorem mo_losers_L20_Bg (q : Th) (n : Nat) (X : St) (k75 : Int32 → Int32 → Int32 → Option (Int32)) (hk75 : ∀ v1 v2 v3, G q (mF q nX12_losers RX12 0) (fir X) 75 [(0, .ref (q.ad 102)), (1, .int v1), (2, .int v2), (3, .int v3)] [] X (k75 v1 v2 v3)) (rec : Int32 → Int32 → Int32 → Int32 → Option (Int32)) (hrec : ∀ v1 v2 v3 v4, G q (mF q nX12_losers RX12 0) (fir X) 20 [(0, .ref (q.ad 102)), (1, .int v1), (2, .int v2), (3, .int v3), (4, .int v4)] [] X (rec v1 v2 v3 v4)) (v1 : Int32) (v2 : Int32) (v3 : Int32) (v4 : Int32) : G q (mF q nX12_losers RX12 0) (fir X) 20 [(0, .ref (q.ad 102)), (1, .int v1), (2, .int v2), (3, .int v3), (4, .int v4)] [] X (mo_losers_L20_B n X k75 rec v1 v2 v3 v4) := by
  unfold mo_losers_L20_B
  refine g_iload 4 dX12_losers_20 rfl rfl ?_
  refine g_aload_n 0 dX12_losers_22 rfl rfl ?_
  refine g_getI 102 0 rfl dX12_losers_23 rfl kkX12 flX12_125 (by decide) rfl rfl (by decide) rfl ?_
  refine g_icmp_ge dX12_losers_26 rfl rfl ?_ ?_
  · refine g_aload_n 0 dX12_losers_29 rfl rfl ?_
    refine g_getR 102 47 135 rfl dX12_losers_30 rfl kkX12 flX12_109 (by decide) rfl rfl (by decide) rfl ?_
    refine g_bipush dX12_losers_33 rfl kbi_10 ?_
    refine g_iload_n 3 dX12_losers_35 rfl rfl ?_
    refine g_imul dX12_losers_36 rfl ?_
    refine g_iload 4 dX12_losers_37 rfl rfl ?_
    refine g_iadd dX12_losers_39 rfl ?_
    refine g_iald dX12_losers_40 rfl (by decide) rfl rfl ?_
    refine g_iload_n 2 dX12_losers_41 rfl rfl ?_
    refine g_icmp_gt dX12_losers_42 rfl rfl ?_ ?_
    · refine g_aload_n 0 dX12_losers_48 rfl rfl ?_
      refine g_getR 102 47 135 rfl dX12_losers_49 rfl kkX12 flX12_109 (by decide) rfl rfl (by decide) rfl ?_
      refine g_bipush dX12_losers_52 rfl kbi_10 ?_
      refine g_iload_n 3 dX12_losers_54 rfl rfl ?_
      refine g_imul dX12_losers_55 rfl ?_
      refine g_iload 4 dX12_losers_56 rfl rfl ?_
      refine g_iadd dX12_losers_58 rfl ?_
      refine g_iald dX12_losers_59 rfl (by decide) rfl rfl ?_
      refine g_nmI (fun t1 => ?_)
      refine g_istore_n (lv' := [(2, .int t1), (0, .ref (q.ad 102)), (1, .int v1), (3, .int v3), (4, .int v4)]) dX12_losers_60 rfl rfl (Nat.le_of_ble_eq_true rfl) rfl ?_
      refine g_bipush dX12_losers_61 rfl kbi_10 ?_
      refine g_iload_n 3 dX12_losers_63 rfl rfl ?_
      refine g_imul dX12_losers_64 rfl ?_
      refine g_iload 4 dX12_losers_65 rfl rfl ?_
      refine g_iadd dX12_losers_67 rfl ?_
      refine g_istore_n (lv' := [(1, .int (((10 : Int32) * v3) + v4)), (2, .int t1), (0, .ref (q.ad 102)), (3, .int v3), (4, .int v4)]) dX12_losers_68 rfl rfl (Nat.le_of_ble_eq_true rfl) rfl ?_
      refine g_inc (lv' := [(4, .int (v4 + (1 : Int32))), (1, .int (((10 : Int32) * v3) + v4)), (2, .int t1), (0, .ref (q.ad 102)), (3, .int v3)]) 4 dX12_losers_69 rfl rfl kic_1 (Nat.le_of_ble_eq_true rfl) rfl ?_
      refine g_goto dX12_losers_72 rfl ?_
      refine g_sub [3, 1, 2, 4, 0] rfl ?_
      exact hrec (((10 : Int32) * v3) + v4) t1 v3 (v4 + (1 : Int32))
    refine g_goto dX12_losers_45 rfl ?_
    refine g_inc (lv' := [(4, .int (v4 + (1 : Int32))), (0, .ref (q.ad 102)), (1, .int v1), (2, .int v2), (3, .int v3)]) 4 dX12_losers_69 rfl rfl kic_1 (Nat.le_of_ble_eq_true rfl) rfl ?_
    refine g_goto dX12_losers_72 rfl ?_
    refine g_sub [1, 2, 3, 4, 0] rfl ?_
    exact hrec v1 v2 v3 (v4 + (1 : Int32))
  refine g_sub [0, 1, 2, 3] rfl ?_
  exact hk75 v1 v2 v3
theorem mo_losers_L20_g (q : Th) (n : Nat) (X : St) (k75 : Int32 → Int32 → Int32 → Option (Int32)) (hk75 : ∀ v1 v2 v3, G q (mF q nX12_losers RX12 0) (fir X) 75 [(0, .ref (q.ad 102)), (1, .int v1), (2, .int v2), (3, .int v3)] [] X (k75 v1 v2 v3)) : ∀ (w : Nat) (v1 : Int32) (v2 : Int32) (v3 : Int32) (v4 : Int32), G q (mF q nX12_losers RX12 0) (fir X) 20 [(0, .ref (q.ad 102)), (1, .int v1), (2, .int v2), (3, .int v3), (4, .int v4)] [] X (mo_losers_L20 n X k75 w v1 v2 v3 v4) := by
  intro w
  induction w with
  | zero => intro v1 v2 v3 v4; exact g_none
  | succ w ih => intro v1 v2 v3 v4; exact mo_losers_L20_Bg q n X k75 hk75 _ ih v1 v2 v3 v4
theorem mo_losers_L7_Bg (q : Th) (n : Nat) (X : St) (rec : Int32 → Int32 → Int32 → Option (Int32)) (hrec : ∀ v1 v2 v3, G q (mF q nX12_losers RX12 0) (fir X) 7 [(0, .ref (q.ad 102)), (1, .int v1), (2, .int v2), (3, .int v3)] [] X (rec v1 v2 v3)) (v1 : Int32) (v2 : Int32) (v3 : Int32) : G q (mF q nX12_losers RX12 0) (fir X) 7 [(0, .ref (q.ad 102)), (1, .int v1), (2, .int v2), (3, .int v3)] [] X (mo_losers_L7_B n X rec v1 v2 v3) := by
  unfold mo_losers_L7_B
  refine g_iload_n 3 dX12_losers_7 rfl rfl ?_
  refine g_aload_n 0 dX12_losers_8 rfl rfl ?_
  refine g_getI 102 0 rfl dX12_losers_9 rfl kkX12 flX12_125 (by decide) rfl rfl (by decide) rfl ?_
  refine g_icmp_ge dX12_losers_12 rfl rfl ?_ ?_
  · refine g_iload_n 3 dX12_losers_15 rfl rfl ?_
    refine g_iconst dX12_losers_16 rfl kic_1 ?_
    refine g_iadd dX12_losers_17 rfl ?_
    refine g_istore (lv' := [(4, .int (v3 + (1 : Int32))), (0, .ref (q.ad 102)), (1, .int v1), (2, .int v2), (3, .int v3)]) dX12_losers_18 rfl (Nat.le_of_ble_eq_true rfl) rfl ?_
    refine g_sub [1, 2, 3, 4, 0] rfl ?_
    refine mo_losers_L20_g q n X _ (fun v2 v3 v4 => ?_) n v1 v2 v3 (v3 + (1 : Int32))
    refine g_inc (lv' := [(3, .int (v4 + (1 : Int32))), (0, .ref (q.ad 102)), (1, .int v2), (2, .int v3)]) 3 dX12_losers_75 rfl rfl kic_1 (Nat.le_of_ble_eq_true rfl) rfl ?_
    refine g_goto dX12_losers_78 rfl ?_
    refine g_sub [1, 2, 3, 0] rfl ?_
    exact hrec v2 v3 (v4 + (1 : Int32))
  refine g_iload_n 1 dX12_losers_81 rfl rfl ?_
  exact g_iret dX12_losers_82 rfl rfl
theorem mo_losers_L7_g (q : Th) (n : Nat) (X : St) : ∀ (w : Nat) (v1 : Int32) (v2 : Int32) (v3 : Int32), G q (mF q nX12_losers RX12 0) (fir X) 7 [(0, .ref (q.ad 102)), (1, .int v1), (2, .int v2), (3, .int v3)] [] X (mo_losers_L7 n X w v1 v2 v3) := by
  intro w
  induction w with
  | zero => intro v1 v2 v3; exact g_none
  | succ w ih => intro v1 v2 v3; exact mo_losers_L7_Bg q n X _ ih v1 v2 v3
theorem mo_losers_c (q : Th) (n : Nat) (X : St) : Ct q nX12_losers 0 (fir X) [.ref (q.ad 102)] X (mo_losers n X) := by
  refine ct_of (by decide +kernel) (Nat.le_of_ble_eq_true rfl) ?_
  unfold mo_losers
  show G q _ _ 0 [(0, .ref (q.ad 102))] [] X _
  refine g_bipush dX12_losers_0 rfl kbi_m2 ?_
  refine g_istore_n (lv' := [(1, .int (-2 : Int32)), (0, .ref (q.ad 102))]) dX12_losers_2 rfl rfl (Nat.le_of_ble_eq_true rfl) rfl ?_
  refine g_iconst dX12_losers_3 rfl kic_0 ?_
  refine g_istore_n (lv' := [(2, .int (0 : Int32)), (1, .int (-2 : Int32)), (0, .ref (q.ad 102))]) dX12_losers_4 rfl rfl (Nat.le_of_ble_eq_true rfl) rfl ?_
  refine g_iconst dX12_losers_5 rfl kic_0 ?_
  refine g_istore_n (lv' := [(3, .int (0 : Int32)), (2, .int (0 : Int32)), (1, .int (-2 : Int32)), (0, .ref (q.ad 102))]) dX12_losers_6 rfl rfl (Nat.le_of_ble_eq_true rfl) rfl ?_
  refine g_sub [3, 2, 1, 0] rfl ?_
  refine mo_losers_L7_g q n X n (-2 : Int32) (0 : Int32) (0 : Int32)
def mo_routine (n : Nat) (v1 : Int32) (v2 : Int32) (X : St) : Option (Int32 × St) :=
  (if (mo_isShelf v1) = 0 then
  (some ((-1 : Int32), X))
  else
  (if (mo_within v2 (0 : Int32) (3 : Int32)) = 0 then
  (some ((-1 : Int32), X))
  else
  ((mo_noRow v1 (0 : Int32) X).bind fun c1 =>
  (if c1 < 0 then
  (some (c1, X))
  else
  ((mo_reads n v1 X).bind fun X2 =>
  ((mo_marksNow n X2).bind fun (c4, X3) =>
  (if v2 = 0 then
  (some ((X3.1 102 44), X3))
  else
  (if v2 = (1 : Int32) then
  (some (c4, X3))
  else
  (if v2 = (2 : Int32) then
  ((mo_firstApart n X3).bind fun c5 =>
  (some (c5, X3)))
  else
  ((mo_losers n X3).bind fun c6 =>
  (some (c6, X3))))))))))))
theorem mo_routine_c (q : Th) (n : Nat) (v1 : Int32) (v2 : Int32) (X : St) : Ct q nX12_routine 5 fiw [.ref (q.ad 102), .int v1, .int v2] X (mo_routine n v1 v2 X) := by
  refine ct_of (by decide +kernel) (Nat.le_of_ble_eq_true rfl) ?_
  unfold mo_routine
  show G q _ _ 0 [(0, .ref (q.ad 102)), (1, .int v1), (2, .int v2)] [] X _
  refine g_iload_n 1 dX12_routine_0 rfl rfl ?_
  refine g_cSIt (As := [.int v1]) (st := []) 1 mF_wg rfl dX12_routine_1 rfl vX12_isShelf lkX12_140 (rmL rfl rfl) (mo_isShelf_c q v1 X) rfl rfl (Nat.le_of_ble_eq_true rfl) ?_
  refine g_if_eq dX12_routine_4 rfl rfl ?_ ?_
  · refine g_iconst dX12_routine_16 rfl kic_m1 ?_
    exact g_iret dX12_routine_17 rfl rfl
  refine g_iload_n 2 dX12_routine_7 rfl rfl ?_
  refine g_iconst dX12_routine_8 rfl kic_0 ?_
  refine g_iconst dX12_routine_9 rfl kic_3 ?_
  refine g_cSIt (As := [.int v2, .int (0 : Int32), .int (3 : Int32)]) (st := []) 3 mF_wg rfl dX12_routine_10 rfl vX12_within lkX12_128 (rmL rfl rfl) (mo_within_c q v2 (0 : Int32) (3 : Int32) X) rfl rfl (Nat.le_of_ble_eq_true rfl) ?_
  refine g_if_ne dX12_routine_13 rfl rfl ?_ ?_
  · refine g_iconst dX12_routine_16 rfl kic_m1 ?_
    exact g_iret dX12_routine_17 rfl rfl
  refine g_aload_n 0 dX12_routine_18 rfl rfl ?_
  refine g_iload_n 1 dX12_routine_19 rfl rfl ?_
  refine g_iconst dX12_routine_20 rfl kic_0 ?_
  refine g_cVIr (As := [.int v1, .int (0 : Int32)]) (st := []) 2 mF_wg rfl dX12_routine_21 rfl kkX12 (by decide) rfl vX12_noRow lkX12_288 (rmL rfl rfl) (mo_noRow_c q v1 (0 : Int32) X) rfl rfl (Nat.le_of_ble_eq_true rfl) (fun c1 => ?_)
  refine g_istore_n (lv' := [(3, .int c1), (0, .ref (q.ad 102)), (1, .int v1), (2, .int v2)]) dX12_routine_24 rfl rfl (Nat.le_of_ble_eq_true rfl) rfl ?_
  refine g_iload_n 0 dX12_routine_25 rfl rfl ?_
  refine g_if_ge dX12_routine_26 rfl rfl ?_ ?_
  · refine g_iload_n 0 dX12_routine_29 rfl rfl ?_
    exact g_iret dX12_routine_30 rfl rfl
  refine g_aload_n 1 dX12_routine_31 rfl rfl ?_
  refine g_iload_n 2 dX12_routine_32 rfl rfl ?_
  refine g_cVVw (As := [.int v1]) (st := []) 1 mF_wg rfl dX12_routine_33 rfl kkX12 (by decide) rfl vX12_reads lkX12_291 (rmL rfl rfl) (mo_reads_c q n v1 X) rfl rfl (Nat.le_of_ble_eq_true rfl) (fun X2 => ?_)
  refine g_aload_n 1 dX12_routine_36 rfl rfl ?_
  refine g_cVIw (As := []) (st := []) 0 mF_wg rfl dX12_routine_37 rfl kkX12 (by decide) rfl vX12_marksNow lkX12_295 (rmL rfl rfl) (mo_marksNow_c q n X2) rfl rfl (Nat.le_of_ble_eq_true rfl) (fun c4 X3 => ?_)
  refine g_istore (lv' := [(4, .int c4), (3, .int c1), (0, .ref (q.ad 102)), (1, .int v1), (2, .int v2)]) dX12_routine_40 rfl (Nat.le_of_ble_eq_true rfl) rfl ?_
  refine g_iload_n 4 dX12_routine_42 rfl rfl ?_
  refine g_if_ne dX12_routine_43 rfl rfl ?_ ?_
  · refine g_aload_n 2 dX12_routine_46 rfl rfl ?_
    refine g_getI 102 44 rfl dX12_routine_47 rfl kkX12 flX12_253 (by decide) rfl rfl (by decide) rfl ?_
    refine g_goto dX12_routine_50 rfl ?_
    exact g_iret dX12_routine_79 rfl rfl
  refine g_iload_n 4 dX12_routine_53 rfl rfl ?_
  refine g_iconst dX12_routine_54 rfl kic_1 ?_
  refine g_icmp_ne dX12_routine_55 rfl rfl ?_ ?_
  · refine g_iload 0 dX12_routine_58 rfl rfl ?_
    refine g_goto dX12_routine_60 rfl ?_
    exact g_iret dX12_routine_79 rfl rfl
  refine g_iload_n 4 dX12_routine_63 rfl rfl ?_
  refine g_iconst dX12_routine_64 rfl kic_2 ?_
  refine g_icmp_ne dX12_routine_65 rfl rfl ?_ ?_
  · refine g_aload_n 2 dX12_routine_68 rfl rfl ?_
    refine g_cVIr (As := []) (st := []) 0 mF_wg rfl dX12_routine_69 rfl kkX12 (by decide) rfl vX12_firstApart lkX12_298 (rmL rfl rfl) (mo_firstApart_c q n X3) rfl rfl (Nat.le_of_ble_eq_true rfl) (fun c5 => ?_)
    refine g_goto dX12_routine_72 rfl ?_
    exact g_iret dX12_routine_79 rfl rfl
  refine g_aload_n 2 dX12_routine_75 rfl rfl ?_
  refine g_cVIr (As := []) (st := []) 0 mF_wg rfl dX12_routine_76 rfl kkX12 (by decide) rfl vX12_losers lkX12_301 (rmL rfl rfl) (mo_losers_c q n X3) rfl rfl (Nat.le_of_ble_eq_true rfl) (fun c6 => ?_)
  exact g_iret dX12_routine_79 rfl rfl
def mo_off (n : Nat) (v1 : Int32) (v2 : Int32) (v3 : Int32) (X : St) : Option (Int32 × St) :=
  (if (mo_isShelf v1) = 0 then
  (some ((-2000000000 : Int32), X))
  else
  (if (mo_within v2 (0 : Int32) (60 : Int32)) = 0 then
  (some ((-2000000000 : Int32), X))
  else
  (if (mo_isOne v3 X) = 0 then
  (some ((-2000000000 : Int32), X))
  else
  ((mo_noRow v1 (0 : Int32) X).bind fun c1 =>
  (if c1 < 0 then
  (some ((-2000000000 : Int32), X))
  else
  ((mo_reads n v1 X).bind fun X2 =>
  ((mo_drifts n (0 : Int32) X2).bind fun X3 =>
  ((mo_offOf v3 (jmath_min v2 (X3.1 102 44)) X3).bind fun c4 =>
  (some (c4, X3))))))))))
theorem mo_off_c (q : Th) (n : Nat) (v1 : Int32) (v2 : Int32) (v3 : Int32) (X : St) : Ct q nX12_off 3 fiw [.ref (q.ad 102), .int v1, .int v2, .int v3] X (mo_off n v1 v2 v3 X) := by
  refine ct_of (by decide +kernel) (Nat.le_of_ble_eq_true rfl) ?_
  unfold mo_off
  show G q _ _ 0 [(0, .ref (q.ad 102)), (1, .int v1), (2, .int v2), (3, .int v3)] [] X _
  refine g_iload_n 1 dX12_off_0 rfl rfl ?_
  refine g_cSIt (As := [.int v1]) (st := []) 1 mF_wg rfl dX12_off_1 rfl vX12_isShelf lkX12_140 (rmL rfl rfl) (mo_isShelf_c q v1 X) rfl rfl (Nat.le_of_ble_eq_true rfl) ?_
  refine g_if_eq dX12_off_4 rfl rfl ?_ ?_
  · refine g_ldc rfl dX12_off_34 rfl kcX12_152 ?_
    exact g_iret dX12_off_36 rfl rfl
  refine g_iload_n 2 dX12_off_7 rfl rfl ?_
  refine g_iconst dX12_off_8 rfl kic_0 ?_
  refine g_bipush dX12_off_9 rfl kbi_60 ?_
  refine g_cSIt (As := [.int v2, .int (0 : Int32), .int (60 : Int32)]) (st := []) 3 mF_wg rfl dX12_off_11 rfl vX12_within lkX12_128 (rmL rfl rfl) (mo_within_c q v2 (0 : Int32) (60 : Int32) X) rfl rfl (Nat.le_of_ble_eq_true rfl) ?_
  refine g_if_eq dX12_off_14 rfl rfl ?_ ?_
  · refine g_ldc rfl dX12_off_34 rfl kcX12_152 ?_
    exact g_iret dX12_off_36 rfl rfl
  refine g_aload_n 0 dX12_off_17 rfl rfl ?_
  refine g_iload_n 3 dX12_off_18 rfl rfl ?_
  refine g_cVIt (As := [.int v3]) (st := []) 1 mF_wg rfl dX12_off_19 rfl kkX12 (by decide) rfl vX12_isOne lkX12_132 (rmL rfl rfl) (mo_isOne_c q v3 X) rfl rfl (Nat.le_of_ble_eq_true rfl) ?_
  refine g_if_eq dX12_off_22 rfl rfl ?_ ?_
  · refine g_ldc rfl dX12_off_34 rfl kcX12_152 ?_
    exact g_iret dX12_off_36 rfl rfl
  refine g_aload_n 0 dX12_off_25 rfl rfl ?_
  refine g_iload_n 1 dX12_off_26 rfl rfl ?_
  refine g_iconst dX12_off_27 rfl kic_0 ?_
  refine g_cVIr (As := [.int v1, .int (0 : Int32)]) (st := []) 2 mF_wg rfl dX12_off_28 rfl kkX12 (by decide) rfl vX12_noRow lkX12_288 (rmL rfl rfl) (mo_noRow_c q v1 (0 : Int32) X) rfl rfl (Nat.le_of_ble_eq_true rfl) (fun c1 => ?_)
  refine g_if_ge dX12_off_31 rfl rfl ?_ ?_
  · refine g_ldc rfl dX12_off_34 rfl kcX12_152 ?_
    exact g_iret dX12_off_36 rfl rfl
  refine g_aload_n 0 dX12_off_37 rfl rfl ?_
  refine g_iload_n 1 dX12_off_38 rfl rfl ?_
  refine g_cVVw (As := [.int v1]) (st := []) 1 mF_wg rfl dX12_off_39 rfl kkX12 (by decide) rfl vX12_reads lkX12_291 (rmL rfl rfl) (mo_reads_c q n v1 X) rfl rfl (Nat.le_of_ble_eq_true rfl) (fun X2 => ?_)
  refine g_aload_n 0 dX12_off_42 rfl rfl ?_
  refine g_iconst dX12_off_43 rfl kic_0 ?_
  refine g_cVVw (As := [.int (0 : Int32)]) (st := []) 1 mF_wg rfl dX12_off_44 rfl kkX12 (by decide) rfl vX12_drifts lkX12_278 (rmL rfl rfl) (mo_drifts_c q n (0 : Int32) X2) rfl rfl (Nat.le_of_ble_eq_true rfl) (fun X3 => ?_)
  refine g_aload_n 0 dX12_off_47 rfl rfl ?_
  refine g_iload_n 3 dX12_off_48 rfl rfl ?_
  refine g_iload_n 2 dX12_off_49 rfl rfl ?_
  refine g_aload_n 0 dX12_off_50 rfl rfl ?_
  refine g_getI 102 44 rfl dX12_off_51 rfl kkX12 flX12_253 (by decide) rfl rfl (by decide) rfl ?_
  refine g_mmin (st := [.int v3, .ref (q.ad 102)]) rfl dX12_off_54 rfl lkX12_232 (rmL rfl rfl) (Nat.le_of_ble_eq_true rfl) ?_
  refine g_cVIr (As := [.int v3, .int (jmath_min v2 (X3.1 102 44))]) (st := []) 2 mF_wg rfl dX12_off_57 rfl kkX12 (by decide) rfl vX12_offOf lkX12_269 (rmL rfl rfl) (mo_offOf_c q v3 (jmath_min v2 (X3.1 102 44)) X3) rfl rfl (Nat.le_of_ble_eq_true rfl) (fun c4 => ?_)
  exact g_iret dX12_off_60 rfl rfl
def mo_apart (n : Nat) (v1 : Int32) (v2 : Int32) (v3 : Int32) (X : St) : Option (Int32 × St) :=
  (if (mo_isShelf v1) = 0 then
  (some ((-1 : Int32), X))
  else
  (if (mo_within v2 (0 : Int32) (60 : Int32)) = 0 then
  (some ((-1 : Int32), X))
  else
  (if (mo_within v3 (0 : Int32) (1 : Int32)) = 0 then
  (some ((-1 : Int32), X))
  else
  ((mo_noRow v1 (0 : Int32) X).bind fun c1 =>
  (if c1 < 0 then
  (some (c1, X))
  else
  ((mo_reads n v1 X).bind fun X2 =>
  ((mo_drifts n (0 : Int32) X2).bind fun X3 =>
  (if v3 = 0 then
  ((mo_greatest n (jmath_min v2 (X3.1 102 44)) X3).bind fun c4 =>
  (some (c4, X3)))
  else
  ((mo_farthest n (jmath_min v2 (X3.1 102 44)) X3).bind fun c5 =>
  (some (c5, X3)))))))))))
theorem mo_apart_c (q : Th) (n : Nat) (v1 : Int32) (v2 : Int32) (v3 : Int32) (X : St) : Ct q nX12_apart 4 fiw [.ref (q.ad 102), .int v1, .int v2, .int v3] X (mo_apart n v1 v2 v3 X) := by
  refine ct_of (by decide +kernel) (Nat.le_of_ble_eq_true rfl) ?_
  unfold mo_apart
  show G q _ _ 0 [(0, .ref (q.ad 102)), (1, .int v1), (2, .int v2), (3, .int v3)] [] X _
  refine g_iload_n 1 dX12_apart_0 rfl rfl ?_
  refine g_cSIt (As := [.int v1]) (st := []) 1 mF_wg rfl dX12_apart_1 rfl vX12_isShelf lkX12_140 (rmL rfl rfl) (mo_isShelf_c q v1 X) rfl rfl (Nat.le_of_ble_eq_true rfl) ?_
  refine g_if_eq dX12_apart_4 rfl rfl ?_ ?_
  · refine g_iconst dX12_apart_26 rfl kic_m1 ?_
    exact g_iret dX12_apart_27 rfl rfl
  refine g_iload_n 2 dX12_apart_7 rfl rfl ?_
  refine g_iconst dX12_apart_8 rfl kic_0 ?_
  refine g_bipush dX12_apart_9 rfl kbi_60 ?_
  refine g_cSIt (As := [.int v2, .int (0 : Int32), .int (60 : Int32)]) (st := []) 3 mF_wg rfl dX12_apart_11 rfl vX12_within lkX12_128 (rmL rfl rfl) (mo_within_c q v2 (0 : Int32) (60 : Int32) X) rfl rfl (Nat.le_of_ble_eq_true rfl) ?_
  refine g_if_eq dX12_apart_14 rfl rfl ?_ ?_
  · refine g_iconst dX12_apart_26 rfl kic_m1 ?_
    exact g_iret dX12_apart_27 rfl rfl
  refine g_iload_n 3 dX12_apart_17 rfl rfl ?_
  refine g_iconst dX12_apart_18 rfl kic_0 ?_
  refine g_iconst dX12_apart_19 rfl kic_1 ?_
  refine g_cSIt (As := [.int v3, .int (0 : Int32), .int (1 : Int32)]) (st := []) 3 mF_wg rfl dX12_apart_20 rfl vX12_within lkX12_128 (rmL rfl rfl) (mo_within_c q v3 (0 : Int32) (1 : Int32) X) rfl rfl (Nat.le_of_ble_eq_true rfl) ?_
  refine g_if_ne dX12_apart_23 rfl rfl ?_ ?_
  · refine g_iconst dX12_apart_26 rfl kic_m1 ?_
    exact g_iret dX12_apart_27 rfl rfl
  refine g_aload_n 0 dX12_apart_28 rfl rfl ?_
  refine g_iload_n 1 dX12_apart_29 rfl rfl ?_
  refine g_iconst dX12_apart_30 rfl kic_0 ?_
  refine g_cVIr (As := [.int v1, .int (0 : Int32)]) (st := []) 2 mF_wg rfl dX12_apart_31 rfl kkX12 (by decide) rfl vX12_noRow lkX12_288 (rmL rfl rfl) (mo_noRow_c q v1 (0 : Int32) X) rfl rfl (Nat.le_of_ble_eq_true rfl) (fun c1 => ?_)
  refine g_istore (lv' := [(4, .int c1), (0, .ref (q.ad 102)), (1, .int v1), (2, .int v2), (3, .int v3)]) dX12_apart_34 rfl (Nat.le_of_ble_eq_true rfl) rfl ?_
  refine g_iload 0 dX12_apart_36 rfl rfl ?_
  refine g_if_ge dX12_apart_38 rfl rfl ?_ ?_
  · refine g_iload 0 dX12_apart_41 rfl rfl ?_
    exact g_iret dX12_apart_43 rfl rfl
  refine g_aload_n 1 dX12_apart_44 rfl rfl ?_
  refine g_iload_n 2 dX12_apart_45 rfl rfl ?_
  refine g_cVVw (As := [.int v1]) (st := []) 1 mF_wg rfl dX12_apart_46 rfl kkX12 (by decide) rfl vX12_reads lkX12_291 (rmL rfl rfl) (mo_reads_c q n v1 X) rfl rfl (Nat.le_of_ble_eq_true rfl) (fun X2 => ?_)
  refine g_aload_n 1 dX12_apart_49 rfl rfl ?_
  refine g_iconst dX12_apart_50 rfl kic_0 ?_
  refine g_cVVw (As := [.int (0 : Int32)]) (st := []) 1 mF_wg rfl dX12_apart_51 rfl kkX12 (by decide) rfl vX12_drifts lkX12_278 (rmL rfl rfl) (mo_drifts_c q n (0 : Int32) X2) rfl rfl (Nat.le_of_ble_eq_true rfl) (fun X3 => ?_)
  refine g_iload_n 4 dX12_apart_54 rfl rfl ?_
  refine g_if_ne dX12_apart_55 rfl rfl ?_ ?_
  · refine g_aload_n 1 dX12_apart_58 rfl rfl ?_
    refine g_iload_n 3 dX12_apart_59 rfl rfl ?_
    refine g_aload_n 1 dX12_apart_60 rfl rfl ?_
    refine g_getI 102 44 rfl dX12_apart_61 rfl kkX12 flX12_253 (by decide) rfl rfl (by decide) rfl ?_
    refine g_mmin (st := [.ref (q.ad 102)]) rfl dX12_apart_64 rfl lkX12_232 (rmL rfl rfl) (Nat.le_of_ble_eq_true rfl) ?_
    refine g_cVIr (As := [.int (jmath_min v2 (X3.1 102 44))]) (st := []) 1 mF_wg rfl dX12_apart_67 rfl kkX12 (by decide) rfl vX12_greatest lkX12_285 (rmL rfl rfl) (mo_greatest_c q n (jmath_min v2 (X3.1 102 44)) X3) rfl rfl (Nat.le_of_ble_eq_true rfl) (fun c4 => ?_)
    refine g_goto dX12_apart_70 rfl ?_
    exact g_iret dX12_apart_85 rfl rfl
  refine g_aload_n 1 dX12_apart_73 rfl rfl ?_
  refine g_iload_n 3 dX12_apart_74 rfl rfl ?_
  refine g_aload_n 1 dX12_apart_75 rfl rfl ?_
  refine g_getI 102 44 rfl dX12_apart_76 rfl kkX12 flX12_253 (by decide) rfl rfl (by decide) rfl ?_
  refine g_mmin (st := [.ref (q.ad 102)]) rfl dX12_apart_79 rfl lkX12_232 (rmL rfl rfl) (Nat.le_of_ble_eq_true rfl) ?_
  refine g_cVIr (As := [.int (jmath_min v2 (X3.1 102 44))]) (st := []) 1 mF_wg rfl dX12_apart_82 rfl kkX12 (by decide) rfl vX12_farthest lkX12_275 (rmL rfl rfl) (mo_farthest_c q n (jmath_min v2 (X3.1 102 44)) X3) rfl rfl (Nat.le_of_ble_eq_true rfl) (fun c5 => ?_)
  exact g_iret dX12_apart_85 rfl rfl
def mo_isUnder (v0 : Int32) : Int32 :=
  (if v0 = (1 : Int32) then
  ((1 : Int32))
  else
  (if v0 = (2 : Int32) then
  ((1 : Int32))
  else
  ((0 : Int32))))
def mo_isUnder_o (v0 : Int32) : Option Int32 :=
  (if v0 = (1 : Int32) then
  (some (1 : Int32))
  else
  (if v0 = (2 : Int32) then
  (some (1 : Int32))
  else
  (some (0 : Int32))))
theorem mo_isUnder_e (v0 : Int32) : mo_isUnder_o v0 = some (mo_isUnder v0) := by
  unfold mo_isUnder_o mo_isUnder
  simp only [apply_ite some]
theorem z_mo_isUnder (v0 : Int32) : isZ (mo_isUnder v0) = true := by
  unfold mo_isUnder
  (repeat' split) <;> first | rfl
theorem mo_isUnder_c (q : Th) (v0 : Int32) (X : St) : Ct q nX12_isUnder 0 (fir X) [.int v0] X (some (mo_isUnder v0)) := by
  refine ct_of (by decide +kernel) (Nat.le_of_ble_eq_true rfl) ?_
  rw [← mo_isUnder_e]
  unfold mo_isUnder_o
  show G q _ _ 0 [(0, .int v0)] [] X _
  refine g_iload_n 0 dX12_isUnder_0 rfl rfl ?_
  refine g_iconst dX12_isUnder_1 rfl kic_1 ?_
  refine g_icmp_eq dX12_isUnder_2 rfl rfl ?_ ?_
  · refine g_iconst dX12_isUnder_10 rfl kic_1 ?_
    refine g_goto dX12_isUnder_11 rfl ?_
    exact g_zret dX12_isUnder_15 rfl rfl rfl
  refine g_iload_n 0 dX12_isUnder_5 rfl rfl ?_
  refine g_iconst dX12_isUnder_6 rfl kic_2 ?_
  refine g_icmp_ne dX12_isUnder_7 rfl rfl ?_ ?_
  · refine g_iconst dX12_isUnder_10 rfl kic_1 ?_
    refine g_goto dX12_isUnder_11 rfl ?_
    exact g_zret dX12_isUnder_15 rfl rfl rfl
  refine g_iconst dX12_isUnder_14 rfl kic_0 ?_
  exact g_zret dX12_isUnder_15 rfl rfl rfl
def mo_goneAt_L7_B (n : Nat) (X : St) (rec : Int32 → Int32 → Int32 → Int32 → Option (Int32)) (v1 : Int32) (v2 : Int32) (v3 : Int32) (v4 : Int32) : Option (Int32) :=
(if v4 < (X.1 102 44) then
(if inB v4 60 then
(if (mo_isUnder (X.1 133 (nx v4))) = 0 then
(if (v3 + (1 : Int32)) < (X.1 109 (nx (2 : Int32))) then
(rec v1 v2 (v3 + (1 : Int32)) (v4 + (1 : Int32)))
else
(rec v1 (0 : Int32) (v3 + (1 : Int32)) (v4 + (1 : Int32))))
else
(if v1 < (v2 + (1 : Int32)) then
(some v4)
else
(rec v1 (v2 + (1 : Int32)) (0 : Int32) (v4 + (1 : Int32))))) else none)
else
(some (-2 : Int32)))
def mo_goneAt_L7 (n : Nat) (X : St) : Nat → Int32 → Int32 → Int32 → Int32 → Option (Int32)
  | 0 => fun _ _ _ _ => none
  | w + 1 => mo_goneAt_L7_B n X (mo_goneAt_L7 n X w)
def mo_goneAt (n : Nat) (v1 : Int32) (X : St) : Option (Int32) :=
  (mo_goneAt_L7 n X n v1 (0 : Int32) (0 : Int32) (0 : Int32))
theorem mo_goneAt_L7_Bg (q : Th) (n : Nat) (X : St) (rec : Int32 → Int32 → Int32 → Int32 → Option (Int32)) (hrec : ∀ v1 v2 v3 v4, G q (mF q nX12_goneAt RX12 1) (fir X) 7 [(0, .ref (q.ad 102)), (1, .int v1), (2, .int v2), (3, .int v3), (4, .int v4)] [] X (rec v1 v2 v3 v4)) (v1 : Int32) (v2 : Int32) (v3 : Int32) (v4 : Int32) : G q (mF q nX12_goneAt RX12 1) (fir X) 7 [(0, .ref (q.ad 102)), (1, .int v1), (2, .int v2), (3, .int v3), (4, .int v4)] [] X (mo_goneAt_L7_B n X rec v1 v2 v3 v4) := by
  unfold mo_goneAt_L7_B
  refine g_iload 4 dX12_goneAt_7 rfl rfl ?_
  refine g_aload_n 0 dX12_goneAt_9 rfl rfl ?_
  refine g_getI 102 44 rfl dX12_goneAt_10 rfl kkX12 flX12_253 (by decide) rfl rfl (by decide) rfl ?_
  refine g_icmp_ge dX12_goneAt_13 rfl rfl ?_ ?_
  · refine g_aload_n 0 dX12_goneAt_16 rfl rfl ?_
    refine g_getR 102 45 133 rfl dX12_goneAt_17 rfl kkX12 flX12_103 (by decide) rfl rfl (by decide) rfl ?_
    refine g_iload 4 dX12_goneAt_20 rfl rfl ?_
    refine g_iald dX12_goneAt_22 rfl (by decide) rfl rfl ?_
    refine g_cSIt (As := [.int (X.1 133 (nx v4))]) (st := []) 1 mF_wg rfl dX12_goneAt_23 rfl vX12_isUnder lkX12_304 (rmL rfl rfl) (mo_isUnder_c q (X.1 133 (nx v4)) X) rfl rfl (Nat.le_of_ble_eq_true rfl) ?_
    refine g_if_eq dX12_goneAt_26 rfl rfl ?_ ?_
    · refine g_inc (lv' := [(3, .int (v3 + (1 : Int32))), (0, .ref (q.ad 102)), (1, .int v1), (2, .int v2), (4, .int v4)]) 3 dX12_goneAt_42 rfl rfl kic_1 (Nat.le_of_ble_eq_true rfl) rfl ?_
      refine g_iload_n 0 dX12_goneAt_45 rfl rfl ?_
      refine g_aload_n 1 dX12_goneAt_46 rfl rfl ?_
      refine g_getR 102 7 109 rfl dX12_goneAt_47 rfl kkX12 flX12_30 (by decide) rfl rfl (by decide) rfl ?_
      refine g_iconst dX12_goneAt_50 rfl kic_2 ?_
      refine g_iald0 dX12_goneAt_51 rfl (by decide) rfl rfl (by decide) ?_
      refine g_icmp_lt dX12_goneAt_52 rfl rfl ?_ ?_
      · refine g_inc (lv' := [(4, .int (v4 + (1 : Int32))), (3, .int (v3 + (1 : Int32))), (0, .ref (q.ad 102)), (1, .int v1), (2, .int v2)]) 4 dX12_goneAt_57 rfl rfl kic_1 (Nat.le_of_ble_eq_true rfl) rfl ?_
        refine g_goto dX12_goneAt_60 rfl ?_
        refine g_sub [2, 3, 4, 1, 0] rfl ?_
        exact hrec v1 v2 (v3 + (1 : Int32)) (v4 + (1 : Int32))
      refine g_iconst dX12_goneAt_55 rfl kic_0 ?_
      refine g_istore_n (lv' := [(2, .int (0 : Int32)), (3, .int (v3 + (1 : Int32))), (0, .ref (q.ad 102)), (1, .int v1), (4, .int v4)]) dX12_goneAt_56 rfl rfl (Nat.le_of_ble_eq_true rfl) rfl ?_
      refine g_inc (lv' := [(4, .int (v4 + (1 : Int32))), (2, .int (0 : Int32)), (3, .int (v3 + (1 : Int32))), (0, .ref (q.ad 102)), (1, .int v1)]) 4 dX12_goneAt_57 rfl rfl kic_1 (Nat.le_of_ble_eq_true rfl) rfl ?_
      refine g_goto dX12_goneAt_60 rfl ?_
      refine g_sub [3, 4, 1, 2, 0] rfl ?_
      exact hrec v1 (0 : Int32) (v3 + (1 : Int32)) (v4 + (1 : Int32))
    refine g_iconst dX12_goneAt_29 rfl kic_0 ?_
    refine g_istore_n (lv' := [(3, .int (0 : Int32)), (0, .ref (q.ad 102)), (1, .int v1), (2, .int v2), (4, .int v4)]) dX12_goneAt_30 rfl rfl (Nat.le_of_ble_eq_true rfl) rfl ?_
    refine g_inc (lv' := [(2, .int (v2 + (1 : Int32))), (3, .int (0 : Int32)), (0, .ref (q.ad 102)), (1, .int v1), (4, .int v4)]) 3 dX12_goneAt_31 rfl rfl kic_1 (Nat.le_of_ble_eq_true rfl) rfl ?_
    refine g_iload_n 0 dX12_goneAt_34 rfl rfl ?_
    refine g_iload_n 3 dX12_goneAt_35 rfl rfl ?_
    refine g_icmp_le dX12_goneAt_36 rfl rfl ?_ ?_
    · refine g_iload 4 dX12_goneAt_39 rfl rfl ?_
      exact g_iret dX12_goneAt_41 rfl rfl
    refine g_inc (lv' := [(4, .int (v4 + (1 : Int32))), (2, .int (v2 + (1 : Int32))), (3, .int (0 : Int32)), (0, .ref (q.ad 102)), (1, .int v1)]) 4 dX12_goneAt_57 rfl rfl kic_1 (Nat.le_of_ble_eq_true rfl) rfl ?_
    refine g_goto dX12_goneAt_60 rfl ?_
    refine g_sub [3, 4, 1, 2, 0] rfl ?_
    exact hrec v1 (v2 + (1 : Int32)) (0 : Int32) (v4 + (1 : Int32))
  refine g_bipush dX12_goneAt_63 rfl kbi_m2 ?_
  exact g_iret dX12_goneAt_65 rfl rfl
theorem mo_goneAt_L7_g (q : Th) (n : Nat) (X : St) : ∀ (w : Nat) (v1 : Int32) (v2 : Int32) (v3 : Int32) (v4 : Int32), G q (mF q nX12_goneAt RX12 1) (fir X) 7 [(0, .ref (q.ad 102)), (1, .int v1), (2, .int v2), (3, .int v3), (4, .int v4)] [] X (mo_goneAt_L7 n X w v1 v2 v3 v4) := by
  intro w
  induction w with
  | zero => intro v1 v2 v3 v4; exact g_none
  | succ w ih => intro v1 v2 v3 v4; exact mo_goneAt_L7_Bg q n X _ ih v1 v2 v3 v4
theorem mo_goneAt_c (q : Th) (n : Nat) (v1 : Int32) (X : St) : Ct q nX12_goneAt 1 (fir X) [.ref (q.ad 102), .int v1] X (mo_goneAt n v1 X) := by
  refine ct_of (by decide +kernel) (Nat.le_of_ble_eq_true rfl) ?_
  unfold mo_goneAt
  show G q _ _ 0 [(0, .ref (q.ad 102)), (1, .int v1)] [] X _
  refine g_iconst dX12_goneAt_0 rfl kic_0 ?_
  refine g_istore_n (lv' := [(2, .int (0 : Int32)), (0, .ref (q.ad 102)), (1, .int v1)]) dX12_goneAt_1 rfl rfl (Nat.le_of_ble_eq_true rfl) rfl ?_
  refine g_iconst dX12_goneAt_2 rfl kic_0 ?_
  refine g_istore_n (lv' := [(3, .int (0 : Int32)), (2, .int (0 : Int32)), (0, .ref (q.ad 102)), (1, .int v1)]) dX12_goneAt_3 rfl rfl (Nat.le_of_ble_eq_true rfl) rfl ?_
  refine g_iconst dX12_goneAt_4 rfl kic_0 ?_
  refine g_istore (lv' := [(4, .int (0 : Int32)), (3, .int (0 : Int32)), (2, .int (0 : Int32)), (0, .ref (q.ad 102)), (1, .int v1)]) dX12_goneAt_5 rfl (Nat.le_of_ble_eq_true rfl) rfl ?_
  refine g_sub [3, 4, 2, 1, 0] rfl ?_
  refine mo_goneAt_L7_g q n X n v1 (0 : Int32) (0 : Int32) (0 : Int32)
def mo_goneBits_L4_B (n : Nat) (X : St) (rec : Int32 → Int32 → Option (Int32)) (v1 : Int32) (v2 : Int32) : Option (Int32) :=
(if v2 < (X.1 102 0) then
(if inB v2 8 then
((mo_goneAt n (X.1 106 (nx v2)) X).bind fun c1 =>
(if c1 = (-2 : Int32) then
(rec v1 (v2 + (1 : Int32)))
else
((some (v1 ||| ((1 : Int32) <<< (v2 &&& 31)))).bind fun t2 =>
(rec t2 (v2 + (1 : Int32)))))) else none)
else
(some v1))
def mo_goneBits_L4 (n : Nat) (X : St) : Nat → Int32 → Int32 → Option (Int32)
  | 0 => fun _ _ => none
  | w + 1 => mo_goneBits_L4_B n X (mo_goneBits_L4 n X w)
def mo_goneBits (n : Nat) (X : St) : Option (Int32) :=
  (mo_goneBits_L4 n X n (0 : Int32) (0 : Int32))
theorem mo_goneBits_L4_Bg (q : Th) (n : Nat) (X : St) (rec : Int32 → Int32 → Option (Int32)) (hrec : ∀ v1 v2, G q (mF q nX12_goneBits RX12 2) (fir X) 4 [(0, .ref (q.ad 102)), (1, .int v1), (2, .int v2)] [] X (rec v1 v2)) (v1 : Int32) (v2 : Int32) : G q (mF q nX12_goneBits RX12 2) (fir X) 4 [(0, .ref (q.ad 102)), (1, .int v1), (2, .int v2)] [] X (mo_goneBits_L4_B n X rec v1 v2) := by
  unfold mo_goneBits_L4_B
  refine g_iload_n 2 dX12_goneBits_4 rfl rfl ?_
  refine g_aload_n 0 dX12_goneBits_5 rfl rfl ?_
  refine g_getI 102 0 rfl dX12_goneBits_6 rfl kkX12 flX12_125 (by decide) rfl rfl (by decide) rfl ?_
  refine g_icmp_ge dX12_goneBits_9 rfl rfl ?_ ?_
  · refine g_aload_n 0 dX12_goneBits_12 rfl rfl ?_
    refine g_aload_n 0 dX12_goneBits_13 rfl rfl ?_
    refine g_getR 102 4 106 rfl dX12_goneBits_14 rfl kkX12 flX12_21 (by decide) rfl rfl (by decide) rfl ?_
    refine g_iload_n 2 dX12_goneBits_17 rfl rfl ?_
    refine g_iald dX12_goneBits_18 rfl (by decide) rfl rfl ?_
    refine g_cVIr (As := [.int (X.1 106 (nx v2))]) (st := []) 1 mF_wg rfl dX12_goneBits_19 rfl kkX12 (by decide) rfl vX12_goneAt lkX12_307 (rmL rfl rfl) (mo_goneAt_c q n (X.1 106 (nx v2)) X) rfl rfl (Nat.le_of_ble_eq_true rfl) (fun c1 => ?_)
    refine g_bipush dX12_goneBits_22 rfl kbi_m2 ?_
    refine g_icmp_eq dX12_goneBits_24 rfl rfl ?_ ?_
    · refine g_inc (lv' := [(2, .int (v2 + (1 : Int32))), (0, .ref (q.ad 102)), (1, .int v1)]) 2 dX12_goneBits_33 rfl rfl kic_1 (Nat.le_of_ble_eq_true rfl) rfl ?_
      refine g_goto dX12_goneBits_36 rfl ?_
      refine g_sub [1, 2, 0] rfl ?_
      exact hrec v1 (v2 + (1 : Int32))
    refine g_iload_n 1 dX12_goneBits_27 rfl rfl ?_
    refine g_iconst dX12_goneBits_28 rfl kic_1 ?_
    refine g_iload_n 2 dX12_goneBits_29 rfl rfl ?_
    refine g_ishl dX12_goneBits_30 rfl ?_
    refine g_ior dX12_goneBits_31 rfl ?_
    refine g_nmI (fun t2 => ?_)
    refine g_istore_n (lv' := [(1, .int t2), (0, .ref (q.ad 102)), (2, .int v2)]) dX12_goneBits_32 rfl rfl (Nat.le_of_ble_eq_true rfl) rfl ?_
    refine g_inc (lv' := [(2, .int (v2 + (1 : Int32))), (1, .int t2), (0, .ref (q.ad 102))]) 2 dX12_goneBits_33 rfl rfl kic_1 (Nat.le_of_ble_eq_true rfl) rfl ?_
    refine g_goto dX12_goneBits_36 rfl ?_
    refine g_sub [2, 1, 0] rfl ?_
    exact hrec t2 (v2 + (1 : Int32))
  refine g_iload_n 1 dX12_goneBits_39 rfl rfl ?_
  exact g_iret dX12_goneBits_40 rfl rfl
theorem mo_goneBits_L4_g (q : Th) (n : Nat) (X : St) : ∀ (w : Nat) (v1 : Int32) (v2 : Int32), G q (mF q nX12_goneBits RX12 2) (fir X) 4 [(0, .ref (q.ad 102)), (1, .int v1), (2, .int v2)] [] X (mo_goneBits_L4 n X w v1 v2) := by
  intro w
  induction w with
  | zero => intro v1 v2; exact g_none
  | succ w ih => intro v1 v2; exact mo_goneBits_L4_Bg q n X _ ih v1 v2
theorem mo_goneBits_c (q : Th) (n : Nat) (X : St) : Ct q nX12_goneBits 2 (fir X) [.ref (q.ad 102)] X (mo_goneBits n X) := by
  refine ct_of (by decide +kernel) (Nat.le_of_ble_eq_true rfl) ?_
  unfold mo_goneBits
  show G q _ _ 0 [(0, .ref (q.ad 102))] [] X _
  refine g_iconst dX12_goneBits_0 rfl kic_0 ?_
  refine g_istore_n (lv' := [(1, .int (0 : Int32)), (0, .ref (q.ad 102))]) dX12_goneBits_1 rfl rfl (Nat.le_of_ble_eq_true rfl) rfl ?_
  refine g_iconst dX12_goneBits_2 rfl kic_0 ?_
  refine g_istore_n (lv' := [(2, .int (0 : Int32)), (1, .int (0 : Int32)), (0, .ref (q.ad 102))]) dX12_goneBits_3 rfl rfl (Nat.le_of_ble_eq_true rfl) rfl ?_
  refine g_sub [2, 1, 0] rfl ?_
  refine mo_goneBits_L4_g q n X n (0 : Int32) (0 : Int32)
def mo_gone_J22 (n : Nat) (v1 : Int32) (v2 : Int32) (X : St) : Option (Int32 × St) :=
((mo_noRow v1 (0 : Int32) X).bind fun c1 =>
(if c1 < 0 then
(some (c1, X))
else
((mo_reads n v1 X).bind fun X2 =>
(if v2 = (-1 : Int32) then
((mo_goneBits n X2).bind fun c3 =>
(some (c3, X2)))
else
(if inB v2 8 then
((mo_goneAt n (X2.1 106 (nx v2)) X2).bind fun c4 =>
(some (c4, X2))) else none)))))
def mo_gone (n : Nat) (v1 : Int32) (v2 : Int32) (X : St) : Option (Int32 × St) :=
  (if (mo_isShelf v1) = 0 then
  (some ((-1 : Int32), X))
  else
  (if v2 = (-1 : Int32) then
  (mo_gone_J22 n v1 v2 X)
  else
  (if (mo_isOne v2 X) = 0 then
  (some ((-1 : Int32), X))
  else
  (mo_gone_J22 n v1 v2 X))))
theorem mo_gone_J22_g (q : Th) (n : Nat) (v1 : Int32) (v2 : Int32) (X : St) : G q (mF q nX12_gone RX12 3) fiw 22 [(0, .ref (q.ad 102)), (1, .int v1), (2, .int v2)] [] X (mo_gone_J22 n v1 v2 X) := by
  unfold mo_gone_J22
  refine g_aload_n 0 dX12_gone_22 rfl rfl ?_
  refine g_iload_n 1 dX12_gone_23 rfl rfl ?_
  refine g_iconst dX12_gone_24 rfl kic_0 ?_
  refine g_cVIr (As := [.int v1, .int (0 : Int32)]) (st := []) 2 mF_wg rfl dX12_gone_25 rfl kkX12 (by decide) rfl vX12_noRow lkX12_288 (rmL rfl rfl) (mo_noRow_c q v1 (0 : Int32) X) rfl rfl (Nat.le_of_ble_eq_true rfl) (fun c1 => ?_)
  refine g_istore_n (lv' := [(3, .int c1), (0, .ref (q.ad 102)), (1, .int v1), (2, .int v2)]) dX12_gone_28 rfl rfl (Nat.le_of_ble_eq_true rfl) rfl ?_
  refine g_iload_n 0 dX12_gone_29 rfl rfl ?_
  refine g_if_ge dX12_gone_30 rfl rfl ?_ ?_
  · refine g_iload_n 0 dX12_gone_33 rfl rfl ?_
    exact g_iret dX12_gone_34 rfl rfl
  refine g_aload_n 1 dX12_gone_35 rfl rfl ?_
  refine g_iload_n 2 dX12_gone_36 rfl rfl ?_
  refine g_cVVw (As := [.int v1]) (st := []) 1 mF_wg rfl dX12_gone_37 rfl kkX12 (by decide) rfl vX12_reads lkX12_291 (rmL rfl rfl) (mo_reads_c q n v1 X) rfl rfl (Nat.le_of_ble_eq_true rfl) (fun X2 => ?_)
  refine g_iload_n 3 dX12_gone_40 rfl rfl ?_
  refine g_iconst dX12_gone_41 rfl kic_m1 ?_
  refine g_icmp_ne dX12_gone_42 rfl rfl ?_ ?_
  · refine g_aload_n 1 dX12_gone_45 rfl rfl ?_
    refine g_cVIr (As := []) (st := []) 0 mF_wg rfl dX12_gone_46 rfl kkX12 (by decide) rfl vX12_goneBits lkX12_310 (rmL rfl rfl) (mo_goneBits_c q n X2) rfl rfl (Nat.le_of_ble_eq_true rfl) (fun c3 => ?_)
    refine g_goto dX12_gone_49 rfl ?_
    exact g_iret dX12_gone_62 rfl rfl
  refine g_aload_n 1 dX12_gone_52 rfl rfl ?_
  refine g_aload_n 1 dX12_gone_53 rfl rfl ?_
  refine g_getR 102 4 106 rfl dX12_gone_54 rfl kkX12 flX12_21 (by decide) rfl rfl (by decide) rfl ?_
  refine g_iload_n 3 dX12_gone_57 rfl rfl ?_
  refine g_iald dX12_gone_58 rfl (by decide) rfl rfl ?_
  refine g_cVIr (As := [.int (X2.1 106 (nx v2))]) (st := []) 1 mF_wg rfl dX12_gone_59 rfl kkX12 (by decide) rfl vX12_goneAt lkX12_307 (rmL rfl rfl) (mo_goneAt_c q n (X2.1 106 (nx v2)) X2) rfl rfl (Nat.le_of_ble_eq_true rfl) (fun c4 => ?_)
  exact g_iret dX12_gone_62 rfl rfl
theorem mo_gone_c (q : Th) (n : Nat) (v1 : Int32) (v2 : Int32) (X : St) : Ct q nX12_gone 3 fiw [.ref (q.ad 102), .int v1, .int v2] X (mo_gone n v1 v2 X) := by
  refine ct_of (by decide +kernel) (Nat.le_of_ble_eq_true rfl) ?_
  unfold mo_gone
  show G q _ _ 0 [(0, .ref (q.ad 102)), (1, .int v1), (2, .int v2)] [] X _
  refine g_iload_n 1 dX12_gone_0 rfl rfl ?_
  refine g_cSIt (As := [.int v1]) (st := []) 1 mF_wg rfl dX12_gone_1 rfl vX12_isShelf lkX12_140 (rmL rfl rfl) (mo_isShelf_c q v1 X) rfl rfl (Nat.le_of_ble_eq_true rfl) ?_
  refine g_if_eq dX12_gone_4 rfl rfl ?_ ?_
  · refine g_iconst dX12_gone_20 rfl kic_m1 ?_
    exact g_iret dX12_gone_21 rfl rfl
  refine g_iload_n 2 dX12_gone_7 rfl rfl ?_
  refine g_iconst dX12_gone_8 rfl kic_m1 ?_
  refine g_icmp_eq dX12_gone_9 rfl rfl ?_ ?_
  · refine g_sub [0, 1, 2] rfl ?_
    exact mo_gone_J22_g q n v1 v2 X
  refine g_aload_n 0 dX12_gone_12 rfl rfl ?_
  refine g_iload_n 2 dX12_gone_13 rfl rfl ?_
  refine g_cVIt (As := [.int v2]) (st := []) 1 mF_wg rfl dX12_gone_14 rfl kkX12 (by decide) rfl vX12_isOne lkX12_132 (rmL rfl rfl) (mo_isOne_c q v2 X) rfl rfl (Nat.le_of_ble_eq_true rfl) ?_
  refine g_if_ne dX12_gone_17 rfl rfl ?_ ?_
  · refine g_iconst dX12_gone_20 rfl kic_m1 ?_
    exact g_iret dX12_gone_21 rfl rfl
  refine g_sub [0, 1, 2] rfl ?_
  exact mo_gone_J22_g q n v1 v2 X
def mo_least_L38_B (n : Nat) (rec : Int32 → St → Option (Int32 × St)) (v4 : Int32) (X : St) : Option (Int32 × St) :=
((mo_goneAt n v4 X).bind fun c3 =>
(if c3 = (-2 : Int32) then
(some (v4, X))
else
(rec (v4 + (1 : Int32)) X)))
def mo_least_L38 (n : Nat) : Nat → Int32 → St → Option (Int32 × St)
  | 0 => fun _ _ => none
  | w + 1 => mo_least_L38_B n (mo_least_L38 n w)
def mo_least (n : Nat) (v1 : Int32) (v2 : Int32) (X : St) : Option (Int32 × St) :=
  (if (mo_isShelf v1) = 0 then
  (some ((-1 : Int32), X))
  else
  (if (mo_isOne v2 X) = 0 then
  (some ((-1 : Int32), X))
  else
  ((mo_noRow v1 (0 : Int32) X).bind fun c1 =>
  (if c1 < 0 then
  (some (c1, X))
  else
  ((mo_reads n v1 X).bind fun X2 =>
  (mo_least_L38 n n (1 : Int32) X2))))))
theorem mo_least_L38_Bg (q : Th) (n : Nat) (rec : Int32 → St → Option (Int32 × St)) (hrec : ∀ v4 X, G q (mF q nX12_least RX12 2) fiw 38 [(0, .ref (q.ad 102)), (4, .int v4)] [] X (rec v4 X)) (v4 : Int32) (X : St) : G q (mF q nX12_least RX12 2) fiw 38 [(0, .ref (q.ad 102)), (4, .int v4)] [] X (mo_least_L38_B n rec v4 X) := by
  unfold mo_least_L38_B
  refine g_aload_n 0 dX12_least_38 rfl rfl ?_
  refine g_iload 1 dX12_least_39 rfl rfl ?_
  refine g_cVIr (As := [.int v4]) (st := []) 1 mF_wg rfl dX12_least_41 rfl kkX12 (by decide) rfl vX12_goneAt lkX12_307 (rmL rfl rfl) (mo_goneAt_c q n v4 X) rfl rfl (Nat.le_of_ble_eq_true rfl) (fun c3 => ?_)
  refine g_bipush dX12_least_44 rfl kbi_m2 ?_
  refine g_icmp_eq dX12_least_46 rfl rfl ?_ ?_
  · refine g_iload 1 dX12_least_55 rfl rfl ?_
    exact g_iret dX12_least_57 rfl rfl
  refine g_inc (lv' := [(4, .int (v4 + (1 : Int32))), (0, .ref (q.ad 102))]) 1 dX12_least_49 rfl rfl kic_1 (Nat.le_of_ble_eq_true rfl) rfl ?_
  refine g_goto dX12_least_52 rfl ?_
  refine g_sub [1, 0] rfl ?_
  exact hrec (v4 + (1 : Int32)) X
theorem mo_least_L38_g (q : Th) (n : Nat) : ∀ (w : Nat) (v4 : Int32) (X : St), G q (mF q nX12_least RX12 2) fiw 38 [(0, .ref (q.ad 102)), (4, .int v4)] [] X (mo_least_L38 n w v4 X) := by
  intro w
  induction w with
  | zero => intro v4 X; exact g_none
  | succ w ih => intro v4 X; exact mo_least_L38_Bg q n _ ih v4 X
theorem mo_least_c (q : Th) (n : Nat) (v1 : Int32) (v2 : Int32) (X : St) : Ct q nX12_least 2 fiw [.ref (q.ad 102), .int v1, .int v2] X (mo_least n v1 v2 X) := by
  refine ct_of (by decide +kernel) (Nat.le_of_ble_eq_true rfl) ?_
  unfold mo_least
  show G q _ _ 0 [(0, .ref (q.ad 102)), (1, .int v1), (2, .int v2)] [] X _
  refine g_iload_n 1 dX12_least_0 rfl rfl ?_
  refine g_cSIt (As := [.int v1]) (st := []) 1 mF_wg rfl dX12_least_1 rfl vX12_isShelf lkX12_140 (rmL rfl rfl) (mo_isShelf_c q v1 X) rfl rfl (Nat.le_of_ble_eq_true rfl) ?_
  refine g_if_eq dX12_least_4 rfl rfl ?_ ?_
  · refine g_iconst dX12_least_15 rfl kic_m1 ?_
    exact g_iret dX12_least_16 rfl rfl
  refine g_aload_n 0 dX12_least_7 rfl rfl ?_
  refine g_iload_n 2 dX12_least_8 rfl rfl ?_
  refine g_cVIt (As := [.int v2]) (st := []) 1 mF_wg rfl dX12_least_9 rfl kkX12 (by decide) rfl vX12_isOne lkX12_132 (rmL rfl rfl) (mo_isOne_c q v2 X) rfl rfl (Nat.le_of_ble_eq_true rfl) ?_
  refine g_if_ne dX12_least_12 rfl rfl ?_ ?_
  · refine g_iconst dX12_least_15 rfl kic_m1 ?_
    exact g_iret dX12_least_16 rfl rfl
  refine g_aload_n 0 dX12_least_17 rfl rfl ?_
  refine g_iload_n 1 dX12_least_18 rfl rfl ?_
  refine g_iconst dX12_least_19 rfl kic_0 ?_
  refine g_cVIr (As := [.int v1, .int (0 : Int32)]) (st := []) 2 mF_wg rfl dX12_least_20 rfl kkX12 (by decide) rfl vX12_noRow lkX12_288 (rmL rfl rfl) (mo_noRow_c q v1 (0 : Int32) X) rfl rfl (Nat.le_of_ble_eq_true rfl) (fun c1 => ?_)
  refine g_istore_n (lv' := [(3, .int c1), (0, .ref (q.ad 102)), (1, .int v1), (2, .int v2)]) dX12_least_23 rfl rfl (Nat.le_of_ble_eq_true rfl) rfl ?_
  refine g_iload_n 0 dX12_least_24 rfl rfl ?_
  refine g_if_ge dX12_least_25 rfl rfl ?_ ?_
  · refine g_iload_n 0 dX12_least_28 rfl rfl ?_
    exact g_iret dX12_least_29 rfl rfl
  refine g_aload_n 1 dX12_least_30 rfl rfl ?_
  refine g_iload_n 2 dX12_least_31 rfl rfl ?_
  refine g_cVVw (As := [.int v1]) (st := []) 1 mF_wg rfl dX12_least_32 rfl kkX12 (by decide) rfl vX12_reads lkX12_291 (rmL rfl rfl) (mo_reads_c q n v1 X) rfl rfl (Nat.le_of_ble_eq_true rfl) (fun X2 => ?_)
  refine g_iconst dX12_least_35 rfl kic_1 ?_
  refine g_istore (lv' := [(4, .int (1 : Int32)), (3, .int c1), (0, .ref (q.ad 102)), (1, .int v1), (2, .int v2)]) dX12_least_36 rfl (Nat.le_of_ble_eq_true rfl) rfl ?_
  refine g_sub [2, 0] rfl ?_
  refine mo_least_L38_g q n n (1 : Int32) X2
def mo_isNeverApart (n : Nat) (X : St) : Option (Int32 × St) :=
  ((mo_drifts n (0 : Int32) X).bind fun X1 =>
  ((mo_firstApart n X1).bind fun c2 =>
  (if c2 = (-2 : Int32) then
  (some ((1 : Int32), X1))
  else
  (some ((0 : Int32), X1)))))
theorem mo_isNeverApart_c (q : Th) (n : Nat) (X : St) : Ct q nX12_isNeverApart 5 fiw [.ref (q.ad 102)] X (mo_isNeverApart n X) := by
  refine ct_of (by decide +kernel) (Nat.le_of_ble_eq_true rfl) ?_
  unfold mo_isNeverApart
  show G q _ _ 0 [(0, .ref (q.ad 102))] [] X _
  refine g_aload_n 0 dX12_isNeverApart_0 rfl rfl ?_
  refine g_iconst dX12_isNeverApart_1 rfl kic_0 ?_
  refine g_cVVw (As := [.int (0 : Int32)]) (st := []) 1 mF_wg rfl dX12_isNeverApart_2 rfl kkX12 (by decide) rfl vX12_drifts lkX12_278 (rmL rfl rfl) (mo_drifts_c q n (0 : Int32) X) rfl rfl (Nat.le_of_ble_eq_true rfl) (fun X1 => ?_)
  refine g_aload_n 0 dX12_isNeverApart_5 rfl rfl ?_
  refine g_cVIr (As := []) (st := []) 0 mF_wg rfl dX12_isNeverApart_6 rfl kkX12 (by decide) rfl vX12_firstApart lkX12_298 (rmL rfl rfl) (mo_firstApart_c q n X1) rfl rfl (Nat.le_of_ble_eq_true rfl) (fun c2 => ?_)
  refine g_bipush dX12_isNeverApart_9 rfl kbi_m2 ?_
  refine g_icmp_ne dX12_isNeverApart_11 rfl rfl ?_ ?_
  · refine g_iconst dX12_isNeverApart_14 rfl kic_1 ?_
    refine g_goto dX12_isNeverApart_15 rfl ?_
    exact g_zret dX12_isNeverApart_19 rfl rfl rfl
  refine g_iconst dX12_isNeverApart_18 rfl kic_0 ?_
  exact g_zret dX12_isNeverApart_19 rfl rfl rfl
def mo_picks_L34_B (C : Nat → Int32 → Int32 → Int32 → Int32 → Int32 → St → Option (Int32 × St)) (n : Nat) (rec : Int32 → Int32 → Int32 → Int32 → Int32 → St → Option (Int32 × St)) (v1 : Int32) (v2 : Int32) (v4 : Int32) (v5 : Int32) (v6 : Int32) (X : St) : Option (Int32 × St) :=
(if v6 < (X.1 102 44) then
(if inB v6 60 then
(if (X.1 133 (nx v6)) = v4 then
(if inB v6 60 then
(if inB v1 10 then
((C 0 (v1 + (1 : Int32)) v2 (v6 + (1 : Int32)) v4 v5 (stI (stI X 133 (nx v6) v5) 136 (nx v1) v6)).bind fun (c5, X4) =>
(if inB v6 60 then
(if c5 = 0 then
(rec v1 v2 v4 v5 (v6 + (1 : Int32)) (stI X4 133 (nx v6) v4))
else
(some ((1 : Int32), (stI X4 133 (nx v6) v4)))) else none)) else none) else none)
else
(rec v1 v2 v4 v5 (v6 + (1 : Int32)) X)) else none)
else
(some ((0 : Int32), X)))
def mo_picks_L34 (C : Nat → Int32 → Int32 → Int32 → Int32 → Int32 → St → Option (Int32 × St)) (n : Nat) : Nat → Int32 → Int32 → Int32 → Int32 → Int32 → St → Option (Int32 × St)
  | 0 => fun _ _ _ _ _ _ => none
  | w + 1 => mo_picks_L34_B C n (mo_picks_L34 C n w)
def mo_picks_G (C : Nat → Int32 → Int32 → Int32 → Int32 → Int32 → St → Option (Int32 × St)) (n : Nat) (v1 : Int32) (v2 : Int32) (v3 : Int32) (v4 : Int32) (v5 : Int32) (X : St) : Option (Int32 × St) :=
  (if v1 = v2 then
  (if v4 = (1 : Int32) then
  ((mo_goneBits n X).bind fun c1 =>
  (if c1 = 0 then
  (some ((1 : Int32), X))
  else
  (some ((0 : Int32), X))))
  else
  ((mo_isNeverApart n X).bind fun (c3, X2) =>
  (if isZ c3 then (some (c3, X2)) else none)))
  else
  (mo_picks_L34 C n n v1 v2 v4 v5 v3 X))
def mo_picks_grp (n : Nat) : Nat → Nat → Int32 → Int32 → Int32 → Int32 → Int32 → St → Option (Int32 × St)
  | 0 => fun _ _ _ _ _ _ _ => none
  | d + 1 => fun j a0 a1 a2 a3 a4 X => mo_picks_G (mo_picks_grp n d) n a0 a1 a2 a3 a4 X
def mo_picks (n : Nat) (v1 : Int32) (v2 : Int32) (v3 : Int32) (v4 : Int32) (v5 : Int32) (X : St) : Option (Int32 × St) := mo_picks_grp n DEP 0 v1 v2 v3 v4 v5 X
theorem mo_picks_L34_Bg (q : Th) (C : Nat → Int32 → Int32 → Int32 → Int32 → Int32 → St → Option (Int32 × St)) (Dg : Nat) (hDg : 6 ≤ Dg) (hC0 : ∀ a0 a1 a2 a3 a4 X, Ct q nX12_picks Dg fiw [.ref (q.ad 102), .int a0, .int a1, .int a2, .int a3, .int a4] X (C 0 a0 a1 a2 a3 a4 X)) (n : Nat) (rec : Int32 → Int32 → Int32 → Int32 → Int32 → St → Option (Int32 × St)) (hrec : ∀ v1 v2 v4 v5 v6 X, G q (mF q nX12_picks RX12 (Dg + 1)) fiw 34 [(0, .ref (q.ad 102)), (1, .int v1), (2, .int v2), (4, .int v4), (5, .int v5), (6, .int v6)] [] X (rec v1 v2 v4 v5 v6 X)) (v1 : Int32) (v2 : Int32) (v4 : Int32) (v5 : Int32) (v6 : Int32) (X : St) : G q (mF q nX12_picks RX12 (Dg + 1)) fiw 34 [(0, .ref (q.ad 102)), (1, .int v1), (2, .int v2), (4, .int v4), (5, .int v5), (6, .int v6)] [] X (mo_picks_L34_B C n rec v1 v2 v4 v5 v6 X) := by
  unfold mo_picks_L34_B
  refine g_iload 5 dX12_picks_34 rfl rfl ?_
  refine g_aload_n 0 dX12_picks_36 rfl rfl ?_
  refine g_getI 102 44 rfl dX12_picks_37 rfl kkX12 flX12_253 (by decide) rfl rfl (by decide) rfl ?_
  refine g_icmp_ge dX12_picks_40 rfl rfl ?_ ?_
  · refine g_aload_n 0 dX12_picks_43 rfl rfl ?_
    refine g_getR 102 45 133 rfl dX12_picks_44 rfl kkX12 flX12_103 (by decide) rfl rfl (by decide) rfl ?_
    refine g_iload 5 dX12_picks_47 rfl rfl ?_
    refine g_iald dX12_picks_49 rfl (by decide) rfl rfl ?_
    refine g_iload 3 dX12_picks_50 rfl rfl ?_
    refine g_icmp_eq dX12_picks_52 rfl rfl ?_ ?_
    · refine g_aload_n 0 dX12_picks_58 rfl rfl ?_
      refine g_getR 102 45 133 rfl dX12_picks_59 rfl kkX12 flX12_103 (by decide) rfl rfl (by decide) rfl ?_
      refine g_iload 5 dX12_picks_62 rfl rfl ?_
      refine g_iload 4 dX12_picks_64 rfl rfl ?_
      refine g_iast dX12_picks_66 rfl (by decide) rfl rfl ?_
      refine g_aload_n 0 dX12_picks_67 rfl rfl ?_
      refine g_getR 102 53 136 rfl dX12_picks_68 rfl kkX12 flX12_112 (by decide) rfl rfl (by decide) rfl ?_
      refine g_iload_n 1 dX12_picks_71 rfl rfl ?_
      refine g_iload 5 dX12_picks_72 rfl rfl ?_
      refine g_iast dX12_picks_74 rfl (by decide) rfl rfl ?_
      refine g_aload_n 0 dX12_picks_75 rfl rfl ?_
      refine g_iload_n 1 dX12_picks_76 rfl rfl ?_
      refine g_iconst dX12_picks_77 rfl kic_1 ?_
      refine g_iadd dX12_picks_78 rfl ?_
      refine g_iload_n 2 dX12_picks_79 rfl rfl ?_
      refine g_iload 5 dX12_picks_80 rfl rfl ?_
      refine g_iconst dX12_picks_82 rfl kic_1 ?_
      refine g_iadd dX12_picks_83 rfl ?_
      refine g_iload 3 dX12_picks_84 rfl rfl ?_
      refine g_iload 4 dX12_picks_86 rfl rfl ?_
      refine g_cVIw (As := [.int (v1 + (1 : Int32)), .int v2, .int (v6 + (1 : Int32)), .int v4, .int v5]) (st := []) 5 mF_wg rfl dX12_picks_88 rfl kkX12 (by decide) rfl vX12_picks lkX12_316 (rmS rfl) (hC0 (v1 + (1 : Int32)) v2 (v6 + (1 : Int32)) v4 v5 (stI (stI X 133 (nx v6) v5) 136 (nx v1) v6)) rfl rfl (Nat.le_of_ble_eq_true rfl) (fun c5 X4 => ?_)
      refine g_istore (lv' := [(7, .int c5), (0, .ref (q.ad 102)), (1, .int v1), (2, .int v2), (4, .int v4), (5, .int v5), (6, .int v6)]) dX12_picks_91 rfl (Nat.le_of_ble_eq_true rfl) rfl ?_
      refine g_aload_n 1 dX12_picks_93 rfl rfl ?_
      refine g_getR 102 45 133 rfl dX12_picks_94 rfl kkX12 flX12_103 (by decide) rfl rfl (by decide) rfl ?_
      refine g_iload 6 dX12_picks_97 rfl rfl ?_
      refine g_iload 4 dX12_picks_99 rfl rfl ?_
      refine g_iast dX12_picks_101 rfl (by decide) rfl rfl ?_
      refine g_iload 0 dX12_picks_102 rfl rfl ?_
      refine g_if_eq dX12_picks_104 rfl rfl ?_ ?_
      · refine g_inc (lv' := [(6, .int (v6 + (1 : Int32))), (7, .int c5), (0, .ref (q.ad 102)), (1, .int v1), (2, .int v2), (4, .int v4), (5, .int v5)]) 6 dX12_picks_109 rfl rfl kic_1 (Nat.le_of_ble_eq_true rfl) rfl ?_
        refine g_goto dX12_picks_112 rfl ?_
        refine g_sub [2, 3, 4, 5, 6, 0] rfl ?_
        exact hrec v1 v2 v4 v5 (v6 + (1 : Int32)) (stI X4 133 (nx v6) v4)
      refine g_iconst dX12_picks_107 rfl kic_1 ?_
      exact g_zret dX12_picks_108 rfl rfl rfl
    refine g_goto dX12_picks_55 rfl ?_
    refine g_inc (lv' := [(6, .int (v6 + (1 : Int32))), (0, .ref (q.ad 102)), (1, .int v1), (2, .int v2), (4, .int v4), (5, .int v5)]) 5 dX12_picks_109 rfl rfl kic_1 (Nat.le_of_ble_eq_true rfl) rfl ?_
    refine g_goto dX12_picks_112 rfl ?_
    refine g_sub [1, 2, 3, 4, 5, 0] rfl ?_
    exact hrec v1 v2 v4 v5 (v6 + (1 : Int32)) X
  refine g_iconst dX12_picks_115 rfl kic_0 ?_
  exact g_zret dX12_picks_116 rfl rfl rfl
theorem mo_picks_L34_g (q : Th) (C : Nat → Int32 → Int32 → Int32 → Int32 → Int32 → St → Option (Int32 × St)) (Dg : Nat) (hDg : 6 ≤ Dg) (hC0 : ∀ a0 a1 a2 a3 a4 X, Ct q nX12_picks Dg fiw [.ref (q.ad 102), .int a0, .int a1, .int a2, .int a3, .int a4] X (C 0 a0 a1 a2 a3 a4 X)) (n : Nat) : ∀ (w : Nat) (v1 : Int32) (v2 : Int32) (v4 : Int32) (v5 : Int32) (v6 : Int32) (X : St), G q (mF q nX12_picks RX12 (Dg + 1)) fiw 34 [(0, .ref (q.ad 102)), (1, .int v1), (2, .int v2), (4, .int v4), (5, .int v5), (6, .int v6)] [] X (mo_picks_L34 C n w v1 v2 v4 v5 v6 X) := by
  intro w
  induction w with
  | zero => intro v1 v2 v4 v5 v6 X; exact g_none
  | succ w ih => intro v1 v2 v4 v5 v6 X; exact mo_picks_L34_Bg q C Dg hDg hC0 n _ ih v1 v2 v4 v5 v6 X
theorem mo_picks_gc (q : Th) (C : Nat → Int32 → Int32 → Int32 → Int32 → Int32 → St → Option (Int32 × St)) (Dg : Nat) (hDg : 6 ≤ Dg) (hC0 : ∀ a0 a1 a2 a3 a4 X, Ct q nX12_picks Dg fiw [.ref (q.ad 102), .int a0, .int a1, .int a2, .int a3, .int a4] X (C 0 a0 a1 a2 a3 a4 X)) (n : Nat) (v1 : Int32) (v2 : Int32) (v3 : Int32) (v4 : Int32) (v5 : Int32) (X : St) : Ct q nX12_picks (Dg + 1) fiw [.ref (q.ad 102), .int v1, .int v2, .int v3, .int v4, .int v5] X (mo_picks_G C n v1 v2 v3 v4 v5 X) := by
  refine ct_of (by decide +kernel) (Nat.le_of_ble_eq_true rfl) ?_
  unfold mo_picks_G
  show G q _ _ 0 [(0, .ref (q.ad 102)), (1, .int v1), (2, .int v2), (3, .int v3), (4, .int v4), (5, .int v5)] [] X _
  refine g_iload_n 1 dX12_picks_0 rfl rfl ?_
  refine g_iload_n 2 dX12_picks_1 rfl rfl ?_
  refine g_icmp_ne dX12_picks_2 rfl rfl ?_ ?_
  · refine g_iload 4 dX12_picks_5 rfl rfl ?_
    refine g_iconst dX12_picks_7 rfl kic_1 ?_
    refine g_icmp_ne dX12_picks_8 rfl rfl ?_ ?_
    · refine g_aload_n 0 dX12_picks_11 rfl rfl ?_
      refine g_cVIr (As := []) (st := []) 0 mF_wg rfl dX12_picks_12 rfl kkX12 (by decide) rfl vX12_goneBits lkX12_310 (rmB (b := 6) (by decide) (by decide) (by omega)) (mo_goneBits_c q n X) rfl rfl (Nat.le_of_ble_eq_true rfl) (fun c1 => ?_)
      refine g_if_ne dX12_picks_15 rfl rfl ?_ ?_
      · refine g_iconst dX12_picks_18 rfl kic_1 ?_
        refine g_goto dX12_picks_19 rfl ?_
        exact g_zret dX12_picks_30 rfl rfl rfl
      refine g_iconst dX12_picks_22 rfl kic_0 ?_
      refine g_goto dX12_picks_23 rfl ?_
      exact g_zret dX12_picks_30 rfl rfl rfl
    refine g_aload_n 0 dX12_picks_26 rfl rfl ?_
    refine g_cVIw (As := []) (st := []) 0 mF_wg rfl dX12_picks_27 rfl kkX12 (by decide) rfl vX12_isNeverApart lkX12_313 (rmB (b := 6) (by decide) (by decide) (by omega)) (mo_isNeverApart_c q n X) rfl rfl (Nat.le_of_ble_eq_true rfl) (fun c3 X2 => ?_)
    exact g_zretD dX12_picks_30 rfl rfl
  refine g_iload_n 3 dX12_picks_31 rfl rfl ?_
  refine g_istore (lv' := [(6, .int v3), (0, .ref (q.ad 102)), (1, .int v1), (2, .int v2), (3, .int v3), (4, .int v4), (5, .int v5)]) dX12_picks_32 rfl (Nat.le_of_ble_eq_true rfl) rfl ?_
  refine g_sub [1, 2, 3, 5, 6, 0] rfl ?_
  refine mo_picks_L34_g q C Dg hDg hC0 n n v1 v2 v4 v5 v3 X
theorem mo_picks_grp_c (q : Th) (n : Nat) : ∀ d, (∀ (v1 : Int32) (v2 : Int32) (v3 : Int32) (v4 : Int32) (v5 : Int32) X, Ct q nX12_picks (6 + d) fiw [.ref (q.ad 102), .int v1, .int v2, .int v3, .int v4, .int v5] X (mo_picks_grp n d 0 v1 v2 v3 v4 v5 X)) := by
  intro d
  induction d with
  | zero => exact fun _ _ _ _ _ _ r h => by cases h
  | succ d ih =>
    have h0 := ih
    exact fun v1 v2 v3 v4 v5 X => mo_picks_gc q (mo_picks_grp n d) (6 + d) (by omega) h0 n v1 v2 v3 v4 v5 X
theorem mo_picks_c (q : Th) (n : Nat) (v1 : Int32) (v2 : Int32) (v3 : Int32) (v4 : Int32) (v5 : Int32) (X : St) : Ct q nX12_picks (6 + DEP) fiw [.ref (q.ad 102), .int v1, .int v2, .int v3, .int v4, .int v5] X (mo_picks n v1 v2 v3 v4 v5 X) := (mo_picks_grp_c q n DEP) v1 v2 v3 v4 v5 X
def mo_fewest_L50_B (n : Nat) (k77 : Int32 → Int32 → St → Option (Int32 × St)) (rec : Int32 → Int32 → Int32 → Int32 → St → Option (Int32 × St)) (v2 : Int32) (v3 : Int32) (v4 : Int32) (v6 : Int32) (X : St) : Option (Int32 × St) :=
(if v6 < (11 : Int32) then
((mo_picks n (0 : Int32) v6 (0 : Int32) v3 v4 X).bind fun (c4, X3) =>
(if c4 = 0 then
(rec v2 v3 v4 (v6 + (1 : Int32)) X3)
else
(k77 v2 v6 X3)))
else
(k77 v2 v6 X))
def mo_fewest_L50 (n : Nat) (k77 : Int32 → Int32 → St → Option (Int32 × St)) : Nat → Int32 → Int32 → Int32 → Int32 → St → Option (Int32 × St)
  | 0 => fun _ _ _ _ _ => none
  | w + 1 => mo_fewest_L50_B n k77 (mo_fewest_L50 n k77 w)
def mo_fewest_J77 (n : Nat) (v2 : Int32) (v6 : Int32) (X : St) : Option (Int32 × St) :=
(if v6 = (11 : Int32) then
(some ((-2 : Int32), X))
else
(if v2 = (-1 : Int32) then
(some (v6, X))
else
(if v2 < v6 then
(if inB v2 10 then
(some ((X.1 136 (nx v2)), X)) else none)
else
(some ((-2 : Int32), X)))))
def mo_fewest (n : Nat) (v1 : Int32) (v2 : Int32) (v3 : Int32) (v4 : Int32) (X : St) : Option (Int32 × St) :=
  (if (mo_isShelf v1) = 0 then
  (some ((-1 : Int32), X))
  else
  (if v2 < (-1 : Int32) then
  (some ((-1 : Int32), X))
  else
  ((mo_noRow v1 (0 : Int32) X).bind fun c1 =>
  (if c1 < 0 then
  (some (c1, X))
  else
  ((mo_reads n v1 X).bind fun X2 =>
  (if (16 : Int32) < (X2.1 102 44) then
  (some ((-5 : Int32), X2))
  else
  (mo_fewest_L50 n (fun v6 v7 X5 =>
  (mo_fewest_J77 n v6 v7 X5)) n v2 v3 v4 (0 : Int32) X2)))))))
theorem mo_fewest_L50_Bg (q : Th) (n : Nat) (k77 : Int32 → Int32 → St → Option (Int32 × St)) (hk77 : ∀ v2 v6 X, G q (mF q nX12_fewest RX12 407) fiw 77 [(0, .ref (q.ad 102)), (2, .int v2), (6, .int v6)] [] X (k77 v2 v6 X)) (rec : Int32 → Int32 → Int32 → Int32 → St → Option (Int32 × St)) (hrec : ∀ v2 v3 v4 v6 X, G q (mF q nX12_fewest RX12 407) fiw 50 [(0, .ref (q.ad 102)), (2, .int v2), (3, .int v3), (4, .int v4), (6, .int v6)] [] X (rec v2 v3 v4 v6 X)) (v2 : Int32) (v3 : Int32) (v4 : Int32) (v6 : Int32) (X : St) : G q (mF q nX12_fewest RX12 407) fiw 50 [(0, .ref (q.ad 102)), (2, .int v2), (3, .int v3), (4, .int v4), (6, .int v6)] [] X (mo_fewest_L50_B n k77 rec v2 v3 v4 v6 X) := by
  unfold mo_fewest_L50_B
  refine g_iload 4 dX12_fewest_50 rfl rfl ?_
  refine g_bipush dX12_fewest_52 rfl kbi_11 ?_
  refine g_icmp_ge dX12_fewest_54 rfl rfl ?_ ?_
  · refine g_aload_n 0 dX12_fewest_57 rfl rfl ?_
    refine g_iconst dX12_fewest_58 rfl kic_0 ?_
    refine g_iload 4 dX12_fewest_59 rfl rfl ?_
    refine g_iconst dX12_fewest_61 rfl kic_0 ?_
    refine g_iload_n 2 dX12_fewest_62 rfl rfl ?_
    refine g_iload 3 dX12_fewest_63 rfl rfl ?_
    refine g_cVIw (As := [.int (0 : Int32), .int v6, .int (0 : Int32), .int v3, .int v4]) (st := []) 5 mF_wg rfl dX12_fewest_65 rfl kkX12 (by decide) rfl vX12_picks lkX12_316 (rmL rfl rfl) (mo_picks_c q n (0 : Int32) v6 (0 : Int32) v3 v4 X) rfl rfl (Nat.le_of_ble_eq_true rfl) (fun c4 X3 => ?_)
    refine g_if_ne dX12_fewest_68 rfl rfl ?_ ?_
    · refine g_inc (lv' := [(6, .int (v6 + (1 : Int32))), (0, .ref (q.ad 102)), (2, .int v2), (3, .int v3), (4, .int v4)]) 4 dX12_fewest_71 rfl rfl kic_1 (Nat.le_of_ble_eq_true rfl) rfl ?_
      refine g_goto dX12_fewest_74 rfl ?_
      refine g_sub [1, 2, 3, 4, 0] rfl ?_
      exact hrec v2 v3 v4 (v6 + (1 : Int32)) X3
    refine g_sub [0, 1, 4] rfl ?_
    exact hk77 v2 v6 X3
  refine g_sub [0, 1, 4] rfl ?_
  exact hk77 v2 v6 X
theorem mo_fewest_L50_g (q : Th) (n : Nat) (k77 : Int32 → Int32 → St → Option (Int32 × St)) (hk77 : ∀ v2 v6 X, G q (mF q nX12_fewest RX12 407) fiw 77 [(0, .ref (q.ad 102)), (2, .int v2), (6, .int v6)] [] X (k77 v2 v6 X)) : ∀ (w : Nat) (v2 : Int32) (v3 : Int32) (v4 : Int32) (v6 : Int32) (X : St), G q (mF q nX12_fewest RX12 407) fiw 50 [(0, .ref (q.ad 102)), (2, .int v2), (3, .int v3), (4, .int v4), (6, .int v6)] [] X (mo_fewest_L50 n k77 w v2 v3 v4 v6 X) := by
  intro w
  induction w with
  | zero => intro v2 v3 v4 v6 X; exact g_none
  | succ w ih => intro v2 v3 v4 v6 X; exact mo_fewest_L50_Bg q n k77 hk77 _ ih v2 v3 v4 v6 X
theorem mo_fewest_J77_g (q : Th) (n : Nat) (v2 : Int32) (v6 : Int32) (X : St) : G q (mF q nX12_fewest RX12 407) fiw 77 [(0, .ref (q.ad 102)), (2, .int v2), (6, .int v6)] [] X (mo_fewest_J77 n v2 v6 X) := by
  unfold mo_fewest_J77
  refine g_iload 2 dX12_fewest_77 rfl rfl ?_
  refine g_bipush dX12_fewest_79 rfl kbi_11 ?_
  refine g_icmp_ne dX12_fewest_81 rfl rfl ?_ ?_
  · refine g_bipush dX12_fewest_84 rfl kbi_m2 ?_
    exact g_iret dX12_fewest_86 rfl rfl
  refine g_iload_n 1 dX12_fewest_87 rfl rfl ?_
  refine g_iconst dX12_fewest_88 rfl kic_m1 ?_
  refine g_icmp_ne dX12_fewest_89 rfl rfl ?_ ?_
  · refine g_iload 2 dX12_fewest_92 rfl rfl ?_
    refine g_goto dX12_fewest_94 rfl ?_
    exact g_iret dX12_fewest_114 rfl rfl
  refine g_iload_n 1 dX12_fewest_97 rfl rfl ?_
  refine g_iload 2 dX12_fewest_98 rfl rfl ?_
  refine g_icmp_ge dX12_fewest_100 rfl rfl ?_ ?_
  · refine g_aload_n 0 dX12_fewest_103 rfl rfl ?_
    refine g_getR 102 53 136 rfl dX12_fewest_104 rfl kkX12 flX12_112 (by decide) rfl rfl (by decide) rfl ?_
    refine g_iload_n 1 dX12_fewest_107 rfl rfl ?_
    refine g_iald dX12_fewest_108 rfl (by decide) rfl rfl ?_
    refine g_goto dX12_fewest_109 rfl ?_
    exact g_iret dX12_fewest_114 rfl rfl
  refine g_bipush dX12_fewest_112 rfl kbi_m2 ?_
  exact g_iret dX12_fewest_114 rfl rfl
theorem mo_fewest_c (q : Th) (n : Nat) (v1 : Int32) (v2 : Int32) (v3 : Int32) (v4 : Int32) (X : St) : Ct q nX12_fewest 407 fiw [.ref (q.ad 102), .int v1, .int v2, .int v3, .int v4] X (mo_fewest n v1 v2 v3 v4 X) := by
  refine ct_of (by decide +kernel) (Nat.le_of_ble_eq_true rfl) ?_
  unfold mo_fewest
  show G q _ _ 0 [(0, .ref (q.ad 102)), (1, .int v1), (2, .int v2), (3, .int v3), (4, .int v4)] [] X _
  refine g_iload_n 1 dX12_fewest_0 rfl rfl ?_
  refine g_cSIt (As := [.int v1]) (st := []) 1 mF_wg rfl dX12_fewest_1 rfl vX12_isShelf lkX12_140 (rmL rfl rfl) (mo_isShelf_c q v1 X) rfl rfl (Nat.le_of_ble_eq_true rfl) ?_
  refine g_if_eq dX12_fewest_4 rfl rfl ?_ ?_
  · refine g_iconst dX12_fewest_12 rfl kic_m1 ?_
    exact g_iret dX12_fewest_13 rfl rfl
  refine g_iload_n 2 dX12_fewest_7 rfl rfl ?_
  refine g_iconst dX12_fewest_8 rfl kic_m1 ?_
  refine g_icmp_ge dX12_fewest_9 rfl rfl ?_ ?_
  · refine g_iconst dX12_fewest_12 rfl kic_m1 ?_
    exact g_iret dX12_fewest_13 rfl rfl
  refine g_aload_n 0 dX12_fewest_14 rfl rfl ?_
  refine g_iload_n 1 dX12_fewest_15 rfl rfl ?_
  refine g_iconst dX12_fewest_16 rfl kic_0 ?_
  refine g_cVIr (As := [.int v1, .int (0 : Int32)]) (st := []) 2 mF_wg rfl dX12_fewest_17 rfl kkX12 (by decide) rfl vX12_noRow lkX12_288 (rmL rfl rfl) (mo_noRow_c q v1 (0 : Int32) X) rfl rfl (Nat.le_of_ble_eq_true rfl) (fun c1 => ?_)
  refine g_istore (lv' := [(5, .int c1), (0, .ref (q.ad 102)), (1, .int v1), (2, .int v2), (3, .int v3), (4, .int v4)]) dX12_fewest_20 rfl (Nat.le_of_ble_eq_true rfl) rfl ?_
  refine g_iload 0 dX12_fewest_22 rfl rfl ?_
  refine g_if_ge dX12_fewest_24 rfl rfl ?_ ?_
  · refine g_iload 0 dX12_fewest_27 rfl rfl ?_
    exact g_iret dX12_fewest_29 rfl rfl
  refine g_aload_n 1 dX12_fewest_30 rfl rfl ?_
  refine g_iload_n 2 dX12_fewest_31 rfl rfl ?_
  refine g_cVVw (As := [.int v1]) (st := []) 1 mF_wg rfl dX12_fewest_32 rfl kkX12 (by decide) rfl vX12_reads lkX12_291 (rmL rfl rfl) (mo_reads_c q n v1 X) rfl rfl (Nat.le_of_ble_eq_true rfl) (fun X2 => ?_)
  refine g_aload_n 1 dX12_fewest_35 rfl rfl ?_
  refine g_getI 102 44 rfl dX12_fewest_36 rfl kkX12 flX12_253 (by decide) rfl rfl (by decide) rfl ?_
  refine g_bipush dX12_fewest_39 rfl kbi_16 ?_
  refine g_icmp_le dX12_fewest_41 rfl rfl ?_ ?_
  · refine g_bipush dX12_fewest_44 rfl kbi_m5 ?_
    exact g_iret dX12_fewest_46 rfl rfl
  refine g_iconst dX12_fewest_47 rfl kic_0 ?_
  refine g_istore (lv' := [(6, .int (0 : Int32)), (5, .int c1), (0, .ref (q.ad 102)), (1, .int v1), (2, .int v2), (3, .int v3), (4, .int v4)]) dX12_fewest_48 rfl (Nat.le_of_ble_eq_true rfl) rfl ?_
  refine g_sub [2, 4, 5, 6, 0] rfl ?_
  refine mo_fewest_L50_g q n _ (fun v6 v7 X5 => ?_) n v2 v3 v4 (0 : Int32) X2
  refine g_sub [0, 1, 2] rfl ?_
  exact mo_fewest_J77_g q n v6 v7 X5
def mo_gasps (n : Nat) (v1 : Int32) (v2 : Int32) (X : St) : Option (Int32 × St) :=
  ((mo_fewest n v1 v2 (1 : Int32) (0 : Int32) X).bind fun (c2, X1) =>
  (some (c2, X1)))
theorem mo_gasps_c (q : Th) (n : Nat) (v1 : Int32) (v2 : Int32) (X : St) : Ct q nX12_gasps 408 fiw [.ref (q.ad 102), .int v1, .int v2] X (mo_gasps n v1 v2 X) := by
  refine ct_of (by decide +kernel) (Nat.le_of_ble_eq_true rfl) ?_
  unfold mo_gasps
  show G q _ _ 0 [(0, .ref (q.ad 102)), (1, .int v1), (2, .int v2)] [] X _
  refine g_aload_n 0 dX12_gasps_0 rfl rfl ?_
  refine g_iload_n 1 dX12_gasps_1 rfl rfl ?_
  refine g_iload_n 2 dX12_gasps_2 rfl rfl ?_
  refine g_iconst dX12_gasps_3 rfl kic_1 ?_
  refine g_iconst dX12_gasps_4 rfl kic_0 ?_
  refine g_cVIw (As := [.int v1, .int v2, .int (1 : Int32), .int (0 : Int32)]) (st := []) 4 mF_wg rfl dX12_gasps_5 rfl kkX12 (by decide) rfl vX12_fewest lkX12_320 (rmL rfl rfl) (mo_fewest_c q n v1 v2 (1 : Int32) (0 : Int32) X) rfl rfl (Nat.le_of_ble_eq_true rfl) (fun c2 X1 => ?_)
  exact g_iret dX12_gasps_8 rfl rfl
def mo_looks (n : Nat) (v1 : Int32) (v2 : Int32) (X : St) : Option (Int32 × St) :=
  ((mo_fewest n v1 v2 (0 : Int32) (4 : Int32) X).bind fun (c2, X1) =>
  (some (c2, X1)))
theorem mo_looks_c (q : Th) (n : Nat) (v1 : Int32) (v2 : Int32) (X : St) : Ct q nX12_looks 408 fiw [.ref (q.ad 102), .int v1, .int v2] X (mo_looks n v1 v2 X) := by
  refine ct_of (by decide +kernel) (Nat.le_of_ble_eq_true rfl) ?_
  unfold mo_looks
  show G q _ _ 0 [(0, .ref (q.ad 102)), (1, .int v1), (2, .int v2)] [] X _
  refine g_aload_n 0 dX12_looks_0 rfl rfl ?_
  refine g_iload_n 1 dX12_looks_1 rfl rfl ?_
  refine g_iload_n 2 dX12_looks_2 rfl rfl ?_
  refine g_iconst dX12_looks_3 rfl kic_0 ?_
  refine g_iconst dX12_looks_4 rfl kic_4 ?_
  refine g_cVIw (As := [.int v1, .int v2, .int (0 : Int32), .int (4 : Int32)]) (st := []) 4 mF_wg rfl dX12_looks_5 rfl kkX12 (by decide) rfl vX12_fewest lkX12_320 (rmL rfl rfl) (mo_fewest_c q n v1 v2 (0 : Int32) (4 : Int32) X) rfl rfl (Nat.le_of_ble_eq_true rfl) (fun c2 X1 => ?_)
  exact g_iret dX12_looks_8 rfl rfl
def mo_whose_L55_B (n : Nat) (k109 : Int32 → Int32 → Int32 → Int32 → St → Option (Int32 × St)) (rec : Int32 → Int32 → Int32 → Int32 → Int32 → St → Option (Int32 × St)) (v2 : Int32) (v4 : Int32) (v5 : Int32) (v6 : Int32) (v7 : Int32) (X : St) : Option (Int32 × St) :=
(if v7 < (X.1 102 0) then
((mo_marksNow n (stI X 109 (nx (0 : Int32)) v7)).bind fun (c4, X3) =>
(if v5 = (-2 : Int32) then
(rec v2 v4 v7 c4 (v7 + (1 : Int32)) X3)
else
(if c4 < v6 then
(rec v2 v4 v7 c4 (v7 + (1 : Int32)) X3)
else
(rec v2 v4 v5 v6 (v7 + (1 : Int32)) X3))))
else
(k109 v2 v4 v5 v6 X))
def mo_whose_L55 (n : Nat) (k109 : Int32 → Int32 → Int32 → Int32 → St → Option (Int32 × St)) : Nat → Int32 → Int32 → Int32 → Int32 → Int32 → St → Option (Int32 × St)
  | 0 => fun _ _ _ _ _ _ => none
  | w + 1 => mo_whose_L55_B n k109 (mo_whose_L55 n k109 w)
def mo_whose (n : Nat) (v1 : Int32) (v2 : Int32) (X : St) : Option (Int32 × St) :=
  (if (mo_isShelf v1) = 0 then
  (some ((-1 : Int32), X))
  else
  (if (mo_within v2 (0 : Int32) (1 : Int32)) = 0 then
  (some ((-1 : Int32), X))
  else
  ((mo_noRow v1 (0 : Int32) X).bind fun c1 =>
  (if c1 < 0 then
  (some (c1, X))
  else
  ((mo_reads n v1 X).bind fun X2 =>
  (mo_whose_L55 n (fun v6 v7 v8 v9 X5 =>
  (if v6 = 0 then
  (some (v8, (stI X5 109 (nx (0 : Int32)) v7)))
  else
  (some (v9, (stI X5 109 (nx (0 : Int32)) v7))))) n v2 (X2.1 109 (nx (0 : Int32))) (-2 : Int32) (-2 : Int32) (0 : Int32) X2))))))
theorem mo_whose_L55_Bg (q : Th) (n : Nat) (k109 : Int32 → Int32 → Int32 → Int32 → St → Option (Int32 × St)) (hk109 : ∀ v2 v4 v5 v6 X, G q (mF q nX12_whose RX12 5) fiw 109 [(0, .ref (q.ad 102)), (2, .int v2), (4, .int v4), (5, .int v5), (6, .int v6)] [] X (k109 v2 v4 v5 v6 X)) (rec : Int32 → Int32 → Int32 → Int32 → Int32 → St → Option (Int32 × St)) (hrec : ∀ v2 v4 v5 v6 v7 X, G q (mF q nX12_whose RX12 5) fiw 55 [(0, .ref (q.ad 102)), (2, .int v2), (4, .int v4), (5, .int v5), (6, .int v6), (7, .int v7)] [] X (rec v2 v4 v5 v6 v7 X)) (v2 : Int32) (v4 : Int32) (v5 : Int32) (v6 : Int32) (v7 : Int32) (X : St) : G q (mF q nX12_whose RX12 5) fiw 55 [(0, .ref (q.ad 102)), (2, .int v2), (4, .int v4), (5, .int v5), (6, .int v6), (7, .int v7)] [] X (mo_whose_L55_B n k109 rec v2 v4 v5 v6 v7 X) := by
  unfold mo_whose_L55_B
  refine g_iload 5 dX12_whose_55 rfl rfl ?_
  refine g_aload_n 0 dX12_whose_57 rfl rfl ?_
  refine g_getI 102 0 rfl dX12_whose_58 rfl kkX12 flX12_125 (by decide) rfl rfl (by decide) rfl ?_
  refine g_icmp_ge dX12_whose_61 rfl rfl ?_ ?_
  · refine g_aload_n 0 dX12_whose_64 rfl rfl ?_
    refine g_getR 102 7 109 rfl dX12_whose_65 rfl kkX12 flX12_30 (by decide) rfl rfl (by decide) rfl ?_
    refine g_iconst dX12_whose_68 rfl kic_0 ?_
    refine g_iload 5 dX12_whose_69 rfl rfl ?_
    refine g_iast0 dX12_whose_71 rfl (by decide) rfl rfl (by decide) ?_
    refine g_aload_n 0 dX12_whose_72 rfl rfl ?_
    refine g_cVIw (As := []) (st := []) 0 mF_wg rfl dX12_whose_73 rfl kkX12 (by decide) rfl vX12_marksNow lkX12_295 (rmL rfl rfl) (mo_marksNow_c q n (stI X 109 (nx (0 : Int32)) v7)) rfl rfl (Nat.le_of_ble_eq_true rfl) (fun c4 X3 => ?_)
    refine g_istore (lv' := [(8, .int c4), (0, .ref (q.ad 102)), (2, .int v2), (4, .int v4), (5, .int v5), (6, .int v6), (7, .int v7)]) dX12_whose_76 rfl (Nat.le_of_ble_eq_true rfl) rfl ?_
    refine g_iload 4 dX12_whose_78 rfl rfl ?_
    refine g_bipush dX12_whose_80 rfl kbi_m2 ?_
    refine g_icmp_eq dX12_whose_82 rfl rfl ?_ ?_
    · refine g_iload 0 dX12_whose_95 rfl rfl ?_
      refine g_istore (lv' := [(6, .int c4), (8, .int c4), (0, .ref (q.ad 102)), (2, .int v2), (4, .int v4), (5, .int v5), (7, .int v7)]) dX12_whose_97 rfl (Nat.le_of_ble_eq_true rfl) rfl ?_
      refine g_iload 6 dX12_whose_99 rfl rfl ?_
      refine g_istore (lv' := [(5, .int v7), (6, .int c4), (8, .int c4), (0, .ref (q.ad 102)), (2, .int v2), (4, .int v4), (7, .int v7)]) dX12_whose_101 rfl (Nat.le_of_ble_eq_true rfl) rfl ?_
      refine g_inc (lv' := [(7, .int (v7 + (1 : Int32))), (5, .int v7), (6, .int c4), (8, .int c4), (0, .ref (q.ad 102)), (2, .int v2), (4, .int v4)]) 6 dX12_whose_103 rfl rfl kic_1 (Nat.le_of_ble_eq_true rfl) rfl ?_
      refine g_goto dX12_whose_106 rfl ?_
      refine g_sub [4, 5, 6, 1, 2, 0] rfl ?_
      exact hrec v2 v4 v7 c4 (v7 + (1 : Int32)) X3
    refine g_iload 0 dX12_whose_85 rfl rfl ?_
    refine g_iload 5 dX12_whose_87 rfl rfl ?_
    refine g_icmp_lt dX12_whose_89 rfl rfl ?_ ?_
    · refine g_iload 0 dX12_whose_95 rfl rfl ?_
      refine g_istore (lv' := [(6, .int c4), (8, .int c4), (0, .ref (q.ad 102)), (2, .int v2), (4, .int v4), (5, .int v5), (7, .int v7)]) dX12_whose_97 rfl (Nat.le_of_ble_eq_true rfl) rfl ?_
      refine g_iload 6 dX12_whose_99 rfl rfl ?_
      refine g_istore (lv' := [(5, .int v7), (6, .int c4), (8, .int c4), (0, .ref (q.ad 102)), (2, .int v2), (4, .int v4), (7, .int v7)]) dX12_whose_101 rfl (Nat.le_of_ble_eq_true rfl) rfl ?_
      refine g_inc (lv' := [(7, .int (v7 + (1 : Int32))), (5, .int v7), (6, .int c4), (8, .int c4), (0, .ref (q.ad 102)), (2, .int v2), (4, .int v4)]) 6 dX12_whose_103 rfl rfl kic_1 (Nat.le_of_ble_eq_true rfl) rfl ?_
      refine g_goto dX12_whose_106 rfl ?_
      refine g_sub [4, 5, 6, 1, 2, 0] rfl ?_
      exact hrec v2 v4 v7 c4 (v7 + (1 : Int32)) X3
    refine g_goto dX12_whose_92 rfl ?_
    refine g_inc (lv' := [(7, .int (v7 + (1 : Int32))), (8, .int c4), (0, .ref (q.ad 102)), (2, .int v2), (4, .int v4), (5, .int v5), (6, .int v6)]) 6 dX12_whose_103 rfl rfl kic_1 (Nat.le_of_ble_eq_true rfl) rfl ?_
    refine g_goto dX12_whose_106 rfl ?_
    refine g_sub [2, 3, 4, 5, 6, 0] rfl ?_
    exact hrec v2 v4 v5 v6 (v7 + (1 : Int32)) X3
  refine g_sub [0, 1, 2, 3, 4] rfl ?_
  exact hk109 v2 v4 v5 v6 X
theorem mo_whose_L55_g (q : Th) (n : Nat) (k109 : Int32 → Int32 → Int32 → Int32 → St → Option (Int32 × St)) (hk109 : ∀ v2 v4 v5 v6 X, G q (mF q nX12_whose RX12 5) fiw 109 [(0, .ref (q.ad 102)), (2, .int v2), (4, .int v4), (5, .int v5), (6, .int v6)] [] X (k109 v2 v4 v5 v6 X)) : ∀ (w : Nat) (v2 : Int32) (v4 : Int32) (v5 : Int32) (v6 : Int32) (v7 : Int32) (X : St), G q (mF q nX12_whose RX12 5) fiw 55 [(0, .ref (q.ad 102)), (2, .int v2), (4, .int v4), (5, .int v5), (6, .int v6), (7, .int v7)] [] X (mo_whose_L55 n k109 w v2 v4 v5 v6 v7 X) := by
  intro w
  induction w with
  | zero => intro v2 v4 v5 v6 v7 X; exact g_none
  | succ w ih => intro v2 v4 v5 v6 v7 X; exact mo_whose_L55_Bg q n k109 hk109 _ ih v2 v4 v5 v6 v7 X
theorem mo_whose_c (q : Th) (n : Nat) (v1 : Int32) (v2 : Int32) (X : St) : Ct q nX12_whose 5 fiw [.ref (q.ad 102), .int v1, .int v2] X (mo_whose n v1 v2 X) := by
  refine ct_of (by decide +kernel) (Nat.le_of_ble_eq_true rfl) ?_
  unfold mo_whose
  show G q _ _ 0 [(0, .ref (q.ad 102)), (1, .int v1), (2, .int v2)] [] X _
  refine g_iload_n 1 dX12_whose_0 rfl rfl ?_
  refine g_cSIt (As := [.int v1]) (st := []) 1 mF_wg rfl dX12_whose_1 rfl vX12_isShelf lkX12_140 (rmL rfl rfl) (mo_isShelf_c q v1 X) rfl rfl (Nat.le_of_ble_eq_true rfl) ?_
  refine g_if_eq dX12_whose_4 rfl rfl ?_ ?_
  · refine g_iconst dX12_whose_16 rfl kic_m1 ?_
    exact g_iret dX12_whose_17 rfl rfl
  refine g_iload_n 2 dX12_whose_7 rfl rfl ?_
  refine g_iconst dX12_whose_8 rfl kic_0 ?_
  refine g_iconst dX12_whose_9 rfl kic_1 ?_
  refine g_cSIt (As := [.int v2, .int (0 : Int32), .int (1 : Int32)]) (st := []) 3 mF_wg rfl dX12_whose_10 rfl vX12_within lkX12_128 (rmL rfl rfl) (mo_within_c q v2 (0 : Int32) (1 : Int32) X) rfl rfl (Nat.le_of_ble_eq_true rfl) ?_
  refine g_if_ne dX12_whose_13 rfl rfl ?_ ?_
  · refine g_iconst dX12_whose_16 rfl kic_m1 ?_
    exact g_iret dX12_whose_17 rfl rfl
  refine g_aload_n 0 dX12_whose_18 rfl rfl ?_
  refine g_iload_n 1 dX12_whose_19 rfl rfl ?_
  refine g_iconst dX12_whose_20 rfl kic_0 ?_
  refine g_cVIr (As := [.int v1, .int (0 : Int32)]) (st := []) 2 mF_wg rfl dX12_whose_21 rfl kkX12 (by decide) rfl vX12_noRow lkX12_288 (rmL rfl rfl) (mo_noRow_c q v1 (0 : Int32) X) rfl rfl (Nat.le_of_ble_eq_true rfl) (fun c1 => ?_)
  refine g_istore_n (lv' := [(3, .int c1), (0, .ref (q.ad 102)), (1, .int v1), (2, .int v2)]) dX12_whose_24 rfl rfl (Nat.le_of_ble_eq_true rfl) rfl ?_
  refine g_iload_n 0 dX12_whose_25 rfl rfl ?_
  refine g_if_ge dX12_whose_26 rfl rfl ?_ ?_
  · refine g_iload_n 0 dX12_whose_29 rfl rfl ?_
    exact g_iret dX12_whose_30 rfl rfl
  refine g_aload_n 1 dX12_whose_31 rfl rfl ?_
  refine g_iload_n 2 dX12_whose_32 rfl rfl ?_
  refine g_cVVw (As := [.int v1]) (st := []) 1 mF_wg rfl dX12_whose_33 rfl kkX12 (by decide) rfl vX12_reads lkX12_291 (rmL rfl rfl) (mo_reads_c q n v1 X) rfl rfl (Nat.le_of_ble_eq_true rfl) (fun X2 => ?_)
  refine g_aload_n 1 dX12_whose_36 rfl rfl ?_
  refine g_getR 102 7 109 rfl dX12_whose_37 rfl kkX12 flX12_30 (by decide) rfl rfl (by decide) rfl ?_
  refine g_iconst dX12_whose_40 rfl kic_0 ?_
  refine g_iald0 dX12_whose_41 rfl (by decide) rfl rfl (by decide) ?_
  refine g_istore (lv' := [(4, .int (X2.1 109 (nx (0 : Int32)))), (3, .int c1), (0, .ref (q.ad 102)), (1, .int v1), (2, .int v2)]) dX12_whose_42 rfl (Nat.le_of_ble_eq_true rfl) rfl ?_
  refine g_bipush dX12_whose_44 rfl kbi_m2 ?_
  refine g_istore (lv' := [(5, .int (-2 : Int32)), (4, .int (X2.1 109 (nx (0 : Int32)))), (3, .int c1), (0, .ref (q.ad 102)), (1, .int v1), (2, .int v2)]) dX12_whose_46 rfl (Nat.le_of_ble_eq_true rfl) rfl ?_
  refine g_bipush dX12_whose_48 rfl kbi_m2 ?_
  refine g_istore (lv' := [(6, .int (-2 : Int32)), (5, .int (-2 : Int32)), (4, .int (X2.1 109 (nx (0 : Int32)))), (3, .int c1), (0, .ref (q.ad 102)), (1, .int v1), (2, .int v2)]) dX12_whose_50 rfl (Nat.le_of_ble_eq_true rfl) rfl ?_
  refine g_iconst dX12_whose_52 rfl kic_0 ?_
  refine g_istore (lv' := [(7, .int (0 : Int32)), (6, .int (-2 : Int32)), (5, .int (-2 : Int32)), (4, .int (X2.1 109 (nx (0 : Int32)))), (3, .int c1), (0, .ref (q.ad 102)), (1, .int v1), (2, .int v2)]) dX12_whose_53 rfl (Nat.le_of_ble_eq_true rfl) rfl ?_
  refine g_sub [5, 7, 3, 2, 1, 0] rfl ?_
  refine mo_whose_L55_g q n _ (fun v6 v7 v8 v9 X5 => ?_) n v2 (X2.1 109 (nx (0 : Int32))) (-2 : Int32) (-2 : Int32) (0 : Int32) X2
  refine g_aload_n 0 dX12_whose_109 rfl rfl ?_
  refine g_getR 102 7 109 rfl dX12_whose_110 rfl kkX12 flX12_30 (by decide) rfl rfl (by decide) rfl ?_
  refine g_iconst dX12_whose_113 rfl kic_0 ?_
  refine g_iload 2 dX12_whose_114 rfl rfl ?_
  refine g_iast0 dX12_whose_116 rfl (by decide) rfl rfl (by decide) ?_
  refine g_iload_n 1 dX12_whose_117 rfl rfl ?_
  refine g_if_ne dX12_whose_118 rfl rfl ?_ ?_
  · refine g_iload 3 dX12_whose_121 rfl rfl ?_
    refine g_goto dX12_whose_123 rfl ?_
    exact g_iret dX12_whose_128 rfl rfl
  refine g_iload 4 dX12_whose_126 rfl rfl ?_
  exact g_iret dX12_whose_128 rfl rfl
def mo_first_L47_B (n : Nat) (rec : Int32 → Int32 → Int32 → Int32 → St → Option (Int32 × St)) (v2 : Int32) (v4 : Int32) (v5 : Int32) (v6 : Int32) (X : St) : Option (Int32 × St) :=
(if v6 < (X.1 102 0) then
(if inB v6 8 then
(if inB v6 8 then
((mo_marksNow n (stI X 107 (nx v6) (0 : Int32))).bind fun (c4, X3) =>
(if inB v6 8 then
(if v4 = (-2 : Int32) then
(rec v2 v6 c4 (v6 + (1 : Int32)) (stI X3 107 (nx v6) (X.1 107 (nx v6))))
else
(if c4 < v5 then
(rec v2 v6 c4 (v6 + (1 : Int32)) (stI X3 107 (nx v6) (X.1 107 (nx v6))))
else
(rec v2 v4 v5 (v6 + (1 : Int32)) (stI X3 107 (nx v6) (X.1 107 (nx v6)))))) else none)) else none) else none)
else
(if v2 = 0 then
(some (v4, X))
else
(some (v5, X))))
def mo_first_L47 (n : Nat) : Nat → Int32 → Int32 → Int32 → Int32 → St → Option (Int32 × St)
  | 0 => fun _ _ _ _ _ => none
  | w + 1 => mo_first_L47_B n (mo_first_L47 n w)
def mo_first (n : Nat) (v1 : Int32) (v2 : Int32) (X : St) : Option (Int32 × St) :=
  (if (mo_isShelf v1) = 0 then
  (some ((-1 : Int32), X))
  else
  (if (mo_within v2 (0 : Int32) (1 : Int32)) = 0 then
  (some ((-1 : Int32), X))
  else
  ((mo_noRow v1 (0 : Int32) X).bind fun c1 =>
  (if c1 < 0 then
  (some (c1, X))
  else
  ((mo_reads n v1 X).bind fun X2 =>
  (mo_first_L47 n n v2 (-2 : Int32) (-2 : Int32) (0 : Int32) X2))))))
theorem mo_first_L47_Bg (q : Th) (n : Nat) (rec : Int32 → Int32 → Int32 → Int32 → St → Option (Int32 × St)) (hrec : ∀ v2 v4 v5 v6 X, G q (mF q nX12_first RX12 5) fiw 47 [(0, .ref (q.ad 102)), (2, .int v2), (4, .int v4), (5, .int v5), (6, .int v6)] [] X (rec v2 v4 v5 v6 X)) (v2 : Int32) (v4 : Int32) (v5 : Int32) (v6 : Int32) (X : St) : G q (mF q nX12_first RX12 5) fiw 47 [(0, .ref (q.ad 102)), (2, .int v2), (4, .int v4), (5, .int v5), (6, .int v6)] [] X (mo_first_L47_B n rec v2 v4 v5 v6 X) := by
  unfold mo_first_L47_B
  refine g_iload 4 dX12_first_47 rfl rfl ?_
  refine g_aload_n 0 dX12_first_49 rfl rfl ?_
  refine g_getI 102 0 rfl dX12_first_50 rfl kkX12 flX12_125 (by decide) rfl rfl (by decide) rfl ?_
  refine g_icmp_ge dX12_first_53 rfl rfl ?_ ?_
  · refine g_aload_n 0 dX12_first_56 rfl rfl ?_
    refine g_getR 102 5 107 rfl dX12_first_57 rfl kkX12 flX12_24 (by decide) rfl rfl (by decide) rfl ?_
    refine g_iload 4 dX12_first_60 rfl rfl ?_
    refine g_iald dX12_first_62 rfl (by decide) rfl rfl ?_
    refine g_istore (lv' := [(7, .int (X.1 107 (nx v6))), (0, .ref (q.ad 102)), (2, .int v2), (4, .int v4), (5, .int v5), (6, .int v6)]) dX12_first_63 rfl (Nat.le_of_ble_eq_true rfl) rfl ?_
    refine g_aload_n 1 dX12_first_65 rfl rfl ?_
    refine g_getR 102 5 107 rfl dX12_first_66 rfl kkX12 flX12_24 (by decide) rfl rfl (by decide) rfl ?_
    refine g_iload 5 dX12_first_69 rfl rfl ?_
    refine g_iconst dX12_first_71 rfl kic_0 ?_
    refine g_iast dX12_first_72 rfl (by decide) rfl rfl ?_
    refine g_aload_n 1 dX12_first_73 rfl rfl ?_
    refine g_cVIw (As := []) (st := []) 0 mF_wg rfl dX12_first_74 rfl kkX12 (by decide) rfl vX12_marksNow lkX12_295 (rmL rfl rfl) (mo_marksNow_c q n (stI X 107 (nx v6) (0 : Int32))) rfl rfl (Nat.le_of_ble_eq_true rfl) (fun c4 X3 => ?_)
    refine g_istore (lv' := [(8, .int c4), (7, .int (X.1 107 (nx v6))), (0, .ref (q.ad 102)), (2, .int v2), (4, .int v4), (5, .int v5), (6, .int v6)]) dX12_first_77 rfl (Nat.le_of_ble_eq_true rfl) rfl ?_
    refine g_aload_n 2 dX12_first_79 rfl rfl ?_
    refine g_getR 102 5 107 rfl dX12_first_80 rfl kkX12 flX12_24 (by decide) rfl rfl (by decide) rfl ?_
    refine g_iload 6 dX12_first_83 rfl rfl ?_
    refine g_iload 1 dX12_first_85 rfl rfl ?_
    refine g_iast dX12_first_87 rfl (by decide) rfl rfl ?_
    refine g_iload 4 dX12_first_88 rfl rfl ?_
    refine g_bipush dX12_first_90 rfl kbi_m2 ?_
    refine g_icmp_eq dX12_first_92 rfl rfl ?_ ?_
    · refine g_iload 0 dX12_first_105 rfl rfl ?_
      refine g_istore (lv' := [(5, .int c4), (8, .int c4), (7, .int (X.1 107 (nx v6))), (0, .ref (q.ad 102)), (2, .int v2), (4, .int v4), (6, .int v6)]) dX12_first_107 rfl (Nat.le_of_ble_eq_true rfl) rfl ?_
      refine g_iload 6 dX12_first_109 rfl rfl ?_
      refine g_istore (lv' := [(4, .int v6), (5, .int c4), (8, .int c4), (7, .int (X.1 107 (nx v6))), (0, .ref (q.ad 102)), (2, .int v2), (6, .int v6)]) dX12_first_111 rfl (Nat.le_of_ble_eq_true rfl) rfl ?_
      refine g_inc (lv' := [(6, .int (v6 + (1 : Int32))), (4, .int v6), (5, .int c4), (8, .int c4), (7, .int (X.1 107 (nx v6))), (0, .ref (q.ad 102)), (2, .int v2)]) 6 dX12_first_113 rfl rfl kic_1 (Nat.le_of_ble_eq_true rfl) rfl ?_
      refine g_goto dX12_first_116 rfl ?_
      refine g_sub [5, 6, 1, 2, 0] rfl ?_
      exact hrec v2 v6 c4 (v6 + (1 : Int32)) (stI X3 107 (nx v6) (X.1 107 (nx v6)))
    refine g_iload 0 dX12_first_95 rfl rfl ?_
    refine g_iload 5 dX12_first_97 rfl rfl ?_
    refine g_icmp_lt dX12_first_99 rfl rfl ?_ ?_
    · refine g_iload 0 dX12_first_105 rfl rfl ?_
      refine g_istore (lv' := [(5, .int c4), (8, .int c4), (7, .int (X.1 107 (nx v6))), (0, .ref (q.ad 102)), (2, .int v2), (4, .int v4), (6, .int v6)]) dX12_first_107 rfl (Nat.le_of_ble_eq_true rfl) rfl ?_
      refine g_iload 6 dX12_first_109 rfl rfl ?_
      refine g_istore (lv' := [(4, .int v6), (5, .int c4), (8, .int c4), (7, .int (X.1 107 (nx v6))), (0, .ref (q.ad 102)), (2, .int v2), (6, .int v6)]) dX12_first_111 rfl (Nat.le_of_ble_eq_true rfl) rfl ?_
      refine g_inc (lv' := [(6, .int (v6 + (1 : Int32))), (4, .int v6), (5, .int c4), (8, .int c4), (7, .int (X.1 107 (nx v6))), (0, .ref (q.ad 102)), (2, .int v2)]) 6 dX12_first_113 rfl rfl kic_1 (Nat.le_of_ble_eq_true rfl) rfl ?_
      refine g_goto dX12_first_116 rfl ?_
      refine g_sub [5, 6, 1, 2, 0] rfl ?_
      exact hrec v2 v6 c4 (v6 + (1 : Int32)) (stI X3 107 (nx v6) (X.1 107 (nx v6)))
    refine g_goto dX12_first_102 rfl ?_
    refine g_inc (lv' := [(6, .int (v6 + (1 : Int32))), (8, .int c4), (7, .int (X.1 107 (nx v6))), (0, .ref (q.ad 102)), (2, .int v2), (4, .int v4), (5, .int v5)]) 6 dX12_first_113 rfl rfl kic_1 (Nat.le_of_ble_eq_true rfl) rfl ?_
    refine g_goto dX12_first_116 rfl ?_
    refine g_sub [3, 4, 5, 6, 0] rfl ?_
    exact hrec v2 v4 v5 (v6 + (1 : Int32)) (stI X3 107 (nx v6) (X.1 107 (nx v6)))
  refine g_iload_n 1 dX12_first_119 rfl rfl ?_
  refine g_if_ne dX12_first_120 rfl rfl ?_ ?_
  · refine g_iload 2 dX12_first_123 rfl rfl ?_
    refine g_goto dX12_first_125 rfl ?_
    exact g_iret dX12_first_130 rfl rfl
  refine g_iload 3 dX12_first_128 rfl rfl ?_
  exact g_iret dX12_first_130 rfl rfl
theorem mo_first_L47_g (q : Th) (n : Nat) : ∀ (w : Nat) (v2 : Int32) (v4 : Int32) (v5 : Int32) (v6 : Int32) (X : St), G q (mF q nX12_first RX12 5) fiw 47 [(0, .ref (q.ad 102)), (2, .int v2), (4, .int v4), (5, .int v5), (6, .int v6)] [] X (mo_first_L47 n w v2 v4 v5 v6 X) := by
  intro w
  induction w with
  | zero => intro v2 v4 v5 v6 X; exact g_none
  | succ w ih => intro v2 v4 v5 v6 X; exact mo_first_L47_Bg q n _ ih v2 v4 v5 v6 X
theorem mo_first_c (q : Th) (n : Nat) (v1 : Int32) (v2 : Int32) (X : St) : Ct q nX12_first 5 fiw [.ref (q.ad 102), .int v1, .int v2] X (mo_first n v1 v2 X) := by
  refine ct_of (by decide +kernel) (Nat.le_of_ble_eq_true rfl) ?_
  unfold mo_first
  show G q _ _ 0 [(0, .ref (q.ad 102)), (1, .int v1), (2, .int v2)] [] X _
  refine g_iload_n 1 dX12_first_0 rfl rfl ?_
  refine g_cSIt (As := [.int v1]) (st := []) 1 mF_wg rfl dX12_first_1 rfl vX12_isShelf lkX12_140 (rmL rfl rfl) (mo_isShelf_c q v1 X) rfl rfl (Nat.le_of_ble_eq_true rfl) ?_
  refine g_if_eq dX12_first_4 rfl rfl ?_ ?_
  · refine g_iconst dX12_first_16 rfl kic_m1 ?_
    exact g_iret dX12_first_17 rfl rfl
  refine g_iload_n 2 dX12_first_7 rfl rfl ?_
  refine g_iconst dX12_first_8 rfl kic_0 ?_
  refine g_iconst dX12_first_9 rfl kic_1 ?_
  refine g_cSIt (As := [.int v2, .int (0 : Int32), .int (1 : Int32)]) (st := []) 3 mF_wg rfl dX12_first_10 rfl vX12_within lkX12_128 (rmL rfl rfl) (mo_within_c q v2 (0 : Int32) (1 : Int32) X) rfl rfl (Nat.le_of_ble_eq_true rfl) ?_
  refine g_if_ne dX12_first_13 rfl rfl ?_ ?_
  · refine g_iconst dX12_first_16 rfl kic_m1 ?_
    exact g_iret dX12_first_17 rfl rfl
  refine g_aload_n 0 dX12_first_18 rfl rfl ?_
  refine g_iload_n 1 dX12_first_19 rfl rfl ?_
  refine g_iconst dX12_first_20 rfl kic_0 ?_
  refine g_cVIr (As := [.int v1, .int (0 : Int32)]) (st := []) 2 mF_wg rfl dX12_first_21 rfl kkX12 (by decide) rfl vX12_noRow lkX12_288 (rmL rfl rfl) (mo_noRow_c q v1 (0 : Int32) X) rfl rfl (Nat.le_of_ble_eq_true rfl) (fun c1 => ?_)
  refine g_istore_n (lv' := [(3, .int c1), (0, .ref (q.ad 102)), (1, .int v1), (2, .int v2)]) dX12_first_24 rfl rfl (Nat.le_of_ble_eq_true rfl) rfl ?_
  refine g_iload_n 0 dX12_first_25 rfl rfl ?_
  refine g_if_ge dX12_first_26 rfl rfl ?_ ?_
  · refine g_iload_n 0 dX12_first_29 rfl rfl ?_
    exact g_iret dX12_first_30 rfl rfl
  refine g_aload_n 1 dX12_first_31 rfl rfl ?_
  refine g_iload_n 2 dX12_first_32 rfl rfl ?_
  refine g_cVVw (As := [.int v1]) (st := []) 1 mF_wg rfl dX12_first_33 rfl kkX12 (by decide) rfl vX12_reads lkX12_291 (rmL rfl rfl) (mo_reads_c q n v1 X) rfl rfl (Nat.le_of_ble_eq_true rfl) (fun X2 => ?_)
  refine g_bipush dX12_first_36 rfl kbi_m2 ?_
  refine g_istore (lv' := [(4, .int (-2 : Int32)), (3, .int c1), (0, .ref (q.ad 102)), (1, .int v1), (2, .int v2)]) dX12_first_38 rfl (Nat.le_of_ble_eq_true rfl) rfl ?_
  refine g_bipush dX12_first_40 rfl kbi_m2 ?_
  refine g_istore (lv' := [(5, .int (-2 : Int32)), (4, .int (-2 : Int32)), (3, .int c1), (0, .ref (q.ad 102)), (1, .int v1), (2, .int v2)]) dX12_first_42 rfl (Nat.le_of_ble_eq_true rfl) rfl ?_
  refine g_iconst dX12_first_44 rfl kic_0 ?_
  refine g_istore (lv' := [(6, .int (0 : Int32)), (5, .int (-2 : Int32)), (4, .int (-2 : Int32)), (3, .int c1), (0, .ref (q.ad 102)), (1, .int v1), (2, .int v2)]) dX12_first_45 rfl (Nat.le_of_ble_eq_true rfl) rfl ?_
  refine g_sub [4, 6, 2, 1, 0] rfl ?_
  refine mo_first_L47_g q n n v2 (-2 : Int32) (-2 : Int32) (0 : Int32) X2
def mo_slip (n : Nat) (v1 : Int32) (v2 : Int32) (v3 : Int32) (X : St) : Option (Int32 × St) :=
  (if (mo_isShelf v1) = 0 then
  (some ((-1 : Int32), X))
  else
  (if v2 < 0 then
  (some ((-1 : Int32), X))
  else
  (if (mo_isOne (v2 / (100 : Int32)) X) = 0 then
  (some ((-1 : Int32), X))
  else
  (if (59 : Int32) < (irm v2 (100 : Int32)) then
  (some ((-1 : Int32), X))
  else
  (if (mo_within v3 (-99 : Int32) (99 : Int32)) = 0 then
  (some ((-1 : Int32), X))
  else
  ((mo_noRow v1 (0 : Int32) X).bind fun c1 =>
  (if c1 < 0 then
  (some (c1, X))
  else
  ((mo_reads n v1 X).bind fun X2 =>
  ((some (stI (stI X2 102 48 (v2 / (100 : Int32))) 102 49 (irm v2 (100 : Int32)))).bind fun X3 =>
  ((mo_marksNow n (stI X3 102 50 v3)).bind fun (c5, X4) =>
  (some (c5, (stI X4 102 48 (-2 : Int32))))))))))))))
theorem mo_slip_c (q : Th) (n : Nat) (v1 : Int32) (v2 : Int32) (v3 : Int32) (X : St) : Ct q nX12_slip 5 fiw [.ref (q.ad 102), .int v1, .int v2, .int v3] X (mo_slip n v1 v2 v3 X) := by
  refine ct_of (by decide +kernel) (Nat.le_of_ble_eq_true rfl) ?_
  unfold mo_slip
  show G q _ _ 0 [(0, .ref (q.ad 102)), (1, .int v1), (2, .int v2), (3, .int v3)] [] X _
  refine g_iload_n 1 dX12_slip_0 rfl rfl ?_
  refine g_cSIt (As := [.int v1]) (st := []) 1 mF_wg rfl dX12_slip_1 rfl vX12_isShelf lkX12_140 (rmL rfl rfl) (mo_isShelf_c q v1 X) rfl rfl (Nat.le_of_ble_eq_true rfl) ?_
  refine g_if_eq dX12_slip_4 rfl rfl ?_ ?_
  · refine g_iconst dX12_slip_42 rfl kic_m1 ?_
    exact g_iret dX12_slip_43 rfl rfl
  refine g_iload_n 2 dX12_slip_7 rfl rfl ?_
  refine g_if_lt dX12_slip_8 rfl rfl ?_ ?_
  · refine g_iconst dX12_slip_42 rfl kic_m1 ?_
    exact g_iret dX12_slip_43 rfl rfl
  refine g_aload_n 0 dX12_slip_11 rfl rfl ?_
  refine g_iload_n 2 dX12_slip_12 rfl rfl ?_
  refine g_bipush dX12_slip_13 rfl kbi_100 ?_
  refine g_idivC dX12_slip_15 rfl (by decide) ?_
  refine g_cVIt (As := [.int (v2 / (100 : Int32))]) (st := []) 1 mF_wg rfl dX12_slip_16 rfl kkX12 (by decide) rfl vX12_isOne lkX12_132 (rmL rfl rfl) (mo_isOne_c q (v2 / (100 : Int32)) X) rfl rfl (Nat.le_of_ble_eq_true rfl) ?_
  refine g_if_eq dX12_slip_19 rfl rfl ?_ ?_
  · refine g_iconst dX12_slip_42 rfl kic_m1 ?_
    exact g_iret dX12_slip_43 rfl rfl
  refine g_iload_n 2 dX12_slip_22 rfl rfl ?_
  refine g_bipush dX12_slip_23 rfl kbi_100 ?_
  refine g_iremC dX12_slip_25 rfl (by decide) ?_
  refine g_bipush dX12_slip_26 rfl kbi_59 ?_
  refine g_icmp_gt dX12_slip_28 rfl rfl ?_ ?_
  · refine g_iconst dX12_slip_42 rfl kic_m1 ?_
    exact g_iret dX12_slip_43 rfl rfl
  refine g_iload_n 3 dX12_slip_31 rfl rfl ?_
  refine g_bipush dX12_slip_32 rfl kbi_m99 ?_
  refine g_bipush dX12_slip_34 rfl kbi_99 ?_
  refine g_cSIt (As := [.int v3, .int (-99 : Int32), .int (99 : Int32)]) (st := []) 3 mF_wg rfl dX12_slip_36 rfl vX12_within lkX12_128 (rmL rfl rfl) (mo_within_c q v3 (-99 : Int32) (99 : Int32) X) rfl rfl (Nat.le_of_ble_eq_true rfl) ?_
  refine g_if_ne dX12_slip_39 rfl rfl ?_ ?_
  · refine g_iconst dX12_slip_42 rfl kic_m1 ?_
    exact g_iret dX12_slip_43 rfl rfl
  refine g_aload_n 0 dX12_slip_44 rfl rfl ?_
  refine g_iload_n 1 dX12_slip_45 rfl rfl ?_
  refine g_iconst dX12_slip_46 rfl kic_0 ?_
  refine g_cVIr (As := [.int v1, .int (0 : Int32)]) (st := []) 2 mF_wg rfl dX12_slip_47 rfl kkX12 (by decide) rfl vX12_noRow lkX12_288 (rmL rfl rfl) (mo_noRow_c q v1 (0 : Int32) X) rfl rfl (Nat.le_of_ble_eq_true rfl) (fun c1 => ?_)
  refine g_istore (lv' := [(4, .int c1), (0, .ref (q.ad 102)), (1, .int v1), (2, .int v2), (3, .int v3)]) dX12_slip_50 rfl (Nat.le_of_ble_eq_true rfl) rfl ?_
  refine g_iload 0 dX12_slip_52 rfl rfl ?_
  refine g_if_ge dX12_slip_54 rfl rfl ?_ ?_
  · refine g_iload 0 dX12_slip_57 rfl rfl ?_
    exact g_iret dX12_slip_59 rfl rfl
  refine g_aload_n 1 dX12_slip_60 rfl rfl ?_
  refine g_iload_n 2 dX12_slip_61 rfl rfl ?_
  refine g_cVVw (As := [.int v1]) (st := []) 1 mF_wg rfl dX12_slip_62 rfl kkX12 (by decide) rfl vX12_reads lkX12_291 (rmL rfl rfl) (mo_reads_c q n v1 X) rfl rfl (Nat.le_of_ble_eq_true rfl) (fun X2 => ?_)
  refine g_aload_n 1 dX12_slip_65 rfl rfl ?_
  refine g_iload_n 3 dX12_slip_66 rfl rfl ?_
  refine g_bipush dX12_slip_67 rfl kbi_100 ?_
  refine g_idivC dX12_slip_69 rfl (by decide) ?_
  refine g_putI 102 48 rfl dX12_slip_70 rfl kkX12 flX12_121 (by decide) rfl rfl (by decide) rfl rfl rfl ?_
  refine g_aload_n 1 dX12_slip_73 rfl rfl ?_
  refine g_iload_n 3 dX12_slip_74 rfl rfl ?_
  refine g_bipush dX12_slip_75 rfl kbi_100 ?_
  refine g_iremC dX12_slip_77 rfl (by decide) ?_
  refine g_putI 102 49 rfl dX12_slip_78 rfl kkX12 flX12_263 (by decide) rfl rfl (by decide) rfl rfl rfl ?_
  refine g_nmX (fun X3 => ?_)
  refine g_aload_n 1 dX12_slip_81 rfl rfl ?_
  refine g_iload_n 4 dX12_slip_82 rfl rfl ?_
  refine g_putI 102 50 rfl dX12_slip_83 rfl kkX12 flX12_266 (by decide) rfl rfl (by decide) rfl rfl rfl ?_
  refine g_aload_n 1 dX12_slip_86 rfl rfl ?_
  refine g_cVIw (As := []) (st := []) 0 mF_wg rfl dX12_slip_87 rfl kkX12 (by decide) rfl vX12_marksNow lkX12_295 (rmL rfl rfl) (mo_marksNow_c q n (stI X3 102 50 v3)) rfl rfl (Nat.le_of_ble_eq_true rfl) (fun c5 X4 => ?_)
  refine g_istore (lv' := [(5, .int c5), (4, .int c1), (0, .ref (q.ad 102)), (1, .int v1), (2, .int v2), (3, .int v3)]) dX12_slip_90 rfl (Nat.le_of_ble_eq_true rfl) rfl ?_
  refine g_aload_n 2 dX12_slip_92 rfl rfl ?_
  refine g_bipush dX12_slip_93 rfl kbi_m2 ?_
  refine g_putI 102 48 rfl dX12_slip_95 rfl kkX12 flX12_121 (by decide) rfl rfl (by decide) rfl rfl rfl ?_
  refine g_iload 0 dX12_slip_98 rfl rfl ?_
  exact g_iret dX12_slip_100 rfl rfl
def mo_unlike_J49 (n : Nat) (X : St) (k7 : Int32 → Int32 → Int32 → Int32 → Option (Int32)) (v1 : Int32) (v2 : Int32) (v3 : Int32) (v4 : Int32) (v5 : Int32) : Option (Int32) :=
(if v4 = 0 then
(k7 v1 v2 v5 (v4 + (1 : Int32)))
else
(if v5 < v3 then
(k7 v1 v2 v5 (v4 + (1 : Int32)))
else
(k7 v1 v2 v3 (v4 + (1 : Int32)))))
def mo_unlike_L7_B (n : Nat) (X : St) (rec : Int32 → Int32 → Int32 → Int32 → Option (Int32)) (v1 : Int32) (v2 : Int32) (v3 : Int32) (v4 : Int32) : Option (Int32) :=
(if v4 < (X.1 102 0) then
(if inB v4 6 then
(if inB (X.1 137 (nx v4)) 8 then
((some ((X.1 105 (nx (X.1 137 (nx v4)))) - (v1 * v4))).bind fun t1 =>
(if v4 = 0 then
(mo_unlike_J49 n X rec v1 t1 v3 v4 t1)
else
(if v2 < t1 then
(mo_unlike_J49 n X rec v1 t1 v3 v4 t1)
else
(mo_unlike_J49 n X rec v1 v2 v3 v4 t1)))) else none) else none)
else
(some (v2 - v3)))
def mo_unlike_L7 (n : Nat) (X : St) : Nat → Int32 → Int32 → Int32 → Int32 → Option (Int32)
  | 0 => fun _ _ _ _ => none
  | w + 1 => mo_unlike_L7_B n X (mo_unlike_L7 n X w)
def mo_unlike (n : Nat) (v1 : Int32) (X : St) : Option (Int32) :=
  (mo_unlike_L7 n X n v1 (0 : Int32) (0 : Int32) (0 : Int32))
theorem mo_unlike_J49_g (q : Th) (n : Nat) (X : St) (k7 : Int32 → Int32 → Int32 → Int32 → Option (Int32)) (hk7 : ∀ v1 v2 v3 v4, G q (mF q nX12_unlike RX12 0) (fir X) 7 [(0, .ref (q.ad 102)), (1, .int v1), (2, .int v2), (3, .int v3), (4, .int v4)] [] X (k7 v1 v2 v3 v4)) (v1 : Int32) (v2 : Int32) (v3 : Int32) (v4 : Int32) (v5 : Int32) : G q (mF q nX12_unlike RX12 0) (fir X) 49 [(0, .ref (q.ad 102)), (1, .int v1), (2, .int v2), (3, .int v3), (4, .int v4), (5, .int v5)] [] X (mo_unlike_J49 n X k7 v1 v2 v3 v4 v5) := by
  unfold mo_unlike_J49
  refine g_iload 4 dX12_unlike_49 rfl rfl ?_
  refine g_if_eq dX12_unlike_51 rfl rfl ?_ ?_
  · refine g_iload 5 dX12_unlike_60 rfl rfl ?_
    refine g_istore_n (lv' := [(3, .int v5), (0, .ref (q.ad 102)), (1, .int v1), (2, .int v2), (4, .int v4), (5, .int v5)]) dX12_unlike_62 rfl rfl (Nat.le_of_ble_eq_true rfl) rfl ?_
    refine g_inc (lv' := [(4, .int (v4 + (1 : Int32))), (3, .int v5), (0, .ref (q.ad 102)), (1, .int v1), (2, .int v2), (5, .int v5)]) 4 dX12_unlike_63 rfl rfl kic_1 (Nat.le_of_ble_eq_true rfl) rfl ?_
    refine g_goto dX12_unlike_66 rfl ?_
    refine g_sub [2, 3, 4, 1, 0] rfl ?_
    exact hk7 v1 v2 v5 (v4 + (1 : Int32))
  refine g_iload 5 dX12_unlike_54 rfl rfl ?_
  refine g_iload_n 3 dX12_unlike_56 rfl rfl ?_
  refine g_icmp_ge dX12_unlike_57 rfl rfl ?_ ?_
  · refine g_iload 5 dX12_unlike_60 rfl rfl ?_
    refine g_istore_n (lv' := [(3, .int v5), (0, .ref (q.ad 102)), (1, .int v1), (2, .int v2), (4, .int v4), (5, .int v5)]) dX12_unlike_62 rfl rfl (Nat.le_of_ble_eq_true rfl) rfl ?_
    refine g_inc (lv' := [(4, .int (v4 + (1 : Int32))), (3, .int v5), (0, .ref (q.ad 102)), (1, .int v1), (2, .int v2), (5, .int v5)]) 4 dX12_unlike_63 rfl rfl kic_1 (Nat.le_of_ble_eq_true rfl) rfl ?_
    refine g_goto dX12_unlike_66 rfl ?_
    refine g_sub [2, 3, 4, 1, 0] rfl ?_
    exact hk7 v1 v2 v5 (v4 + (1 : Int32))
  refine g_inc (lv' := [(4, .int (v4 + (1 : Int32))), (0, .ref (q.ad 102)), (1, .int v1), (2, .int v2), (3, .int v3), (5, .int v5)]) 4 dX12_unlike_63 rfl rfl kic_1 (Nat.le_of_ble_eq_true rfl) rfl ?_
  refine g_goto dX12_unlike_66 rfl ?_
  refine g_sub [1, 2, 3, 4, 0] rfl ?_
  exact hk7 v1 v2 v3 (v4 + (1 : Int32))
theorem mo_unlike_L7_Bg (q : Th) (n : Nat) (X : St) (rec : Int32 → Int32 → Int32 → Int32 → Option (Int32)) (hrec : ∀ v1 v2 v3 v4, G q (mF q nX12_unlike RX12 0) (fir X) 7 [(0, .ref (q.ad 102)), (1, .int v1), (2, .int v2), (3, .int v3), (4, .int v4)] [] X (rec v1 v2 v3 v4)) (v1 : Int32) (v2 : Int32) (v3 : Int32) (v4 : Int32) : G q (mF q nX12_unlike RX12 0) (fir X) 7 [(0, .ref (q.ad 102)), (1, .int v1), (2, .int v2), (3, .int v3), (4, .int v4)] [] X (mo_unlike_L7_B n X rec v1 v2 v3 v4) := by
  unfold mo_unlike_L7_B
  refine g_iload 4 dX12_unlike_7 rfl rfl ?_
  refine g_aload_n 0 dX12_unlike_9 rfl rfl ?_
  refine g_getI 102 0 rfl dX12_unlike_10 rfl kkX12 flX12_125 (by decide) rfl rfl (by decide) rfl ?_
  refine g_icmp_ge dX12_unlike_13 rfl rfl ?_ ?_
  · refine g_aload_n 0 dX12_unlike_16 rfl rfl ?_
    refine g_getR 102 3 105 rfl dX12_unlike_17 rfl kkX12 flX12_18 (by decide) rfl rfl (by decide) rfl ?_
    refine g_aload_n 0 dX12_unlike_20 rfl rfl ?_
    refine g_getR 102 54 137 rfl dX12_unlike_21 rfl kkX12 flX12_115 (by decide) rfl rfl (by decide) rfl ?_
    refine g_iload 4 dX12_unlike_24 rfl rfl ?_
    refine g_iald dX12_unlike_26 rfl (by decide) rfl rfl ?_
    refine g_iald dX12_unlike_27 rfl (by decide) rfl rfl ?_
    refine g_iload_n 1 dX12_unlike_28 rfl rfl ?_
    refine g_iload 4 dX12_unlike_29 rfl rfl ?_
    refine g_imul dX12_unlike_31 rfl ?_
    refine g_isub dX12_unlike_32 rfl ?_
    refine g_nmI (fun t1 => ?_)
    refine g_istore (lv' := [(5, .int t1), (0, .ref (q.ad 102)), (1, .int v1), (2, .int v2), (3, .int v3), (4, .int v4)]) dX12_unlike_33 rfl (Nat.le_of_ble_eq_true rfl) rfl ?_
    refine g_iload 5 dX12_unlike_35 rfl rfl ?_
    refine g_if_eq dX12_unlike_37 rfl rfl ?_ ?_
    · refine g_iload 0 dX12_unlike_46 rfl rfl ?_
      refine g_istore_n (lv' := [(2, .int t1), (5, .int t1), (0, .ref (q.ad 102)), (1, .int v1), (3, .int v3), (4, .int v4)]) dX12_unlike_48 rfl rfl (Nat.le_of_ble_eq_true rfl) rfl ?_
      refine g_sub [2, 3, 0, 4, 5, 1] rfl ?_
      exact mo_unlike_J49_g q n X _ hrec v1 t1 v3 v4 t1
    refine g_iload 0 dX12_unlike_40 rfl rfl ?_
    refine g_iload_n 3 dX12_unlike_42 rfl rfl ?_
    refine g_icmp_le dX12_unlike_43 rfl rfl ?_ ?_
    · refine g_iload 0 dX12_unlike_46 rfl rfl ?_
      refine g_istore_n (lv' := [(2, .int t1), (5, .int t1), (0, .ref (q.ad 102)), (1, .int v1), (3, .int v3), (4, .int v4)]) dX12_unlike_48 rfl rfl (Nat.le_of_ble_eq_true rfl) rfl ?_
      refine g_sub [2, 3, 0, 4, 5, 1] rfl ?_
      exact mo_unlike_J49_g q n X _ hrec v1 t1 v3 v4 t1
    refine g_sub [1, 2, 3, 4, 5, 0] rfl ?_
    exact mo_unlike_J49_g q n X _ hrec v1 v2 v3 v4 t1
  refine g_iload_n 2 dX12_unlike_69 rfl rfl ?_
  refine g_iload_n 3 dX12_unlike_70 rfl rfl ?_
  refine g_isub dX12_unlike_71 rfl ?_
  exact g_iret dX12_unlike_72 rfl rfl
theorem mo_unlike_L7_g (q : Th) (n : Nat) (X : St) : ∀ (w : Nat) (v1 : Int32) (v2 : Int32) (v3 : Int32) (v4 : Int32), G q (mF q nX12_unlike RX12 0) (fir X) 7 [(0, .ref (q.ad 102)), (1, .int v1), (2, .int v2), (3, .int v3), (4, .int v4)] [] X (mo_unlike_L7 n X w v1 v2 v3 v4) := by
  intro w
  induction w with
  | zero => intro v1 v2 v3 v4; exact g_none
  | succ w ih => intro v1 v2 v3 v4; exact mo_unlike_L7_Bg q n X _ ih v1 v2 v3 v4
theorem mo_unlike_c (q : Th) (n : Nat) (v1 : Int32) (X : St) : Ct q nX12_unlike 0 (fir X) [.ref (q.ad 102), .int v1] X (mo_unlike n v1 X) := by
  refine ct_of (by decide +kernel) (Nat.le_of_ble_eq_true rfl) ?_
  unfold mo_unlike
  show G q _ _ 0 [(0, .ref (q.ad 102)), (1, .int v1)] [] X _
  refine g_iconst dX12_unlike_0 rfl kic_0 ?_
  refine g_istore_n (lv' := [(2, .int (0 : Int32)), (0, .ref (q.ad 102)), (1, .int v1)]) dX12_unlike_1 rfl rfl (Nat.le_of_ble_eq_true rfl) rfl ?_
  refine g_iconst dX12_unlike_2 rfl kic_0 ?_
  refine g_istore_n (lv' := [(3, .int (0 : Int32)), (2, .int (0 : Int32)), (0, .ref (q.ad 102)), (1, .int v1)]) dX12_unlike_3 rfl rfl (Nat.le_of_ble_eq_true rfl) rfl ?_
  refine g_iconst dX12_unlike_4 rfl kic_0 ?_
  refine g_istore (lv' := [(4, .int (0 : Int32)), (3, .int (0 : Int32)), (2, .int (0 : Int32)), (0, .ref (q.ad 102)), (1, .int v1)]) dX12_unlike_5 rfl (Nat.le_of_ble_eq_true rfl) rfl ?_
  refine g_sub [3, 4, 2, 1, 0] rfl ?_
  refine mo_unlike_L7_g q n X n v1 (0 : Int32) (0 : Int32) (0 : Int32)
def mo_exchange (v1 : Int32) (v2 : Int32) (X : St) : Option (St) :=
  (if inB v1 6 then
  (if inB v2 6 then
  (if inB v1 6 then
  (if inB v2 6 then
  ((some (stI (stI X 137 (nx v1) (X.1 137 (nx v2))) 137 (nx v2) (X.1 137 (nx v1)))).bind fun X1 =>
  (some X1)) else none) else none) else none) else none)
theorem mo_exchange_c (q : Th) (v1 : Int32) (v2 : Int32) (X : St) : Ct q nX12_exchange 0 fvw [.ref (q.ad 102), .int v1, .int v2] X (mo_exchange v1 v2 X) := by
  refine ct_of (by decide +kernel) (Nat.le_of_ble_eq_true rfl) ?_
  unfold mo_exchange
  show G q _ _ 0 [(0, .ref (q.ad 102)), (1, .int v1), (2, .int v2)] [] X _
  refine g_aload_n 0 dX12_exchange_0 rfl rfl ?_
  refine g_getR 102 54 137 rfl dX12_exchange_1 rfl kkX12 flX12_115 (by decide) rfl rfl (by decide) rfl ?_
  refine g_iload_n 1 dX12_exchange_4 rfl rfl ?_
  refine g_iald dX12_exchange_5 rfl (by decide) rfl rfl ?_
  refine g_istore_n (lv' := [(3, .int (X.1 137 (nx v1))), (0, .ref (q.ad 102)), (1, .int v1), (2, .int v2)]) dX12_exchange_6 rfl rfl (Nat.le_of_ble_eq_true rfl) rfl ?_
  refine g_aload_n 1 dX12_exchange_7 rfl rfl ?_
  refine g_getR 102 54 137 rfl dX12_exchange_8 rfl kkX12 flX12_115 (by decide) rfl rfl (by decide) rfl ?_
  refine g_iload_n 2 dX12_exchange_11 rfl rfl ?_
  refine g_aload_n 1 dX12_exchange_12 rfl rfl ?_
  refine g_getR 102 54 137 rfl dX12_exchange_13 rfl kkX12 flX12_115 (by decide) rfl rfl (by decide) rfl ?_
  refine g_iload_n 3 dX12_exchange_16 rfl rfl ?_
  refine g_iald dX12_exchange_17 rfl (by decide) rfl rfl ?_
  refine g_iast dX12_exchange_18 rfl (by decide) rfl rfl ?_
  refine g_aload_n 1 dX12_exchange_19 rfl rfl ?_
  refine g_getR 102 54 137 rfl dX12_exchange_20 rfl kkX12 flX12_115 (by decide) rfl rfl (by decide) rfl ?_
  refine g_iload_n 3 dX12_exchange_23 rfl rfl ?_
  refine g_iload_n 0 dX12_exchange_24 rfl rfl ?_
  refine g_iast dX12_exchange_25 rfl (by decide) rfl rfl ?_
  refine g_nmX (fun X1 => ?_)
  exact g_vret dX12_exchange_26 rfl rfl
def mo_nextOrder_L7_B (n : Nat) (k34 : Int32 → St → Option (Int32 × St)) (rec : Int32 → St → Option (Int32 × St)) (v1 : Int32) (X : St) : Option (Int32 × St) :=
(if v1 < 0 then
(k34 v1 X)
else
(if inB v1 6 then
(if inB (v1 + (1 : Int32)) 6 then
(if (X.1 137 (nx (v1 + (1 : Int32)))) < (X.1 137 (nx v1)) then
(rec (v1 + (-1 : Int32)) X)
else
(k34 v1 X)) else none) else none))
def mo_nextOrder_L7 (n : Nat) (k34 : Int32 → St → Option (Int32 × St)) : Nat → Int32 → St → Option (Int32 × St)
  | 0 => fun _ _ => none
  | w + 1 => mo_nextOrder_L7_B n k34 (mo_nextOrder_L7 n k34 w)
def mo_nextOrder_L47_B (n : Nat) (k68 : Int32 → Int32 → St → Option (Int32 × St)) (rec : Int32 → Int32 → St → Option (Int32 × St)) (v1 : Int32) (v2 : Int32) (X : St) : Option (Int32 × St) :=
(if inB v2 6 then
(if inB v1 6 then
(if (X.1 137 (nx v2)) < (X.1 137 (nx v1)) then
(rec v1 (v2 + (-1 : Int32)) X)
else
(k68 v1 v2 X)) else none) else none)
def mo_nextOrder_L47 (n : Nat) (k68 : Int32 → Int32 → St → Option (Int32 × St)) : Nat → Int32 → Int32 → St → Option (Int32 × St)
  | 0 => fun _ _ _ => none
  | w + 1 => mo_nextOrder_L47_B n k68 (mo_nextOrder_L47 n k68 w)
def mo_nextOrder_L86_B (n : Nat) (rec : Int32 → Int32 → St → Option (Int32 × St)) (v3 : Int32) (v4 : Int32) (X : St) : Option (Int32 × St) :=
(if v3 < v4 then
((mo_exchange v3 v4 X).bind fun X7 =>
(rec (v3 + (1 : Int32)) (v4 + (-1 : Int32)) X7))
else
(some ((1 : Int32), X)))
def mo_nextOrder_L86 (n : Nat) : Nat → Int32 → Int32 → St → Option (Int32 × St)
  | 0 => fun _ _ _ => none
  | w + 1 => mo_nextOrder_L86_B n (mo_nextOrder_L86 n w)
def mo_nextOrder_J34 (n : Nat) (v1 : Int32) (X : St) : Option (Int32 × St) :=
(if v1 < 0 then
(some ((0 : Int32), X))
else
(mo_nextOrder_L47 n (fun v4 v5 X3 =>
((mo_exchange v4 v5 X3).bind fun X6 =>
(mo_nextOrder_L86 n n (v4 + (1 : Int32)) ((X6.1 102 0) - (1 : Int32)) X6))) n v1 ((X.1 102 0) - (1 : Int32)) X))
def mo_nextOrder (n : Nat) (X : St) : Option (Int32 × St) :=
  (mo_nextOrder_L7 n (fun v2 X1 =>
  (mo_nextOrder_J34 n v2 X1)) n ((X.1 102 0) - (2 : Int32)) X)
theorem mo_nextOrder_L7_Bg (q : Th) (n : Nat) (k34 : Int32 → St → Option (Int32 × St)) (hk34 : ∀ v1 X, G q (mF q nX12_nextOrder RX12 1) fiw 34 [(0, .ref (q.ad 102)), (1, .int v1)] [] X (k34 v1 X)) (rec : Int32 → St → Option (Int32 × St)) (hrec : ∀ v1 X, G q (mF q nX12_nextOrder RX12 1) fiw 7 [(0, .ref (q.ad 102)), (1, .int v1)] [] X (rec v1 X)) (v1 : Int32) (X : St) : G q (mF q nX12_nextOrder RX12 1) fiw 7 [(0, .ref (q.ad 102)), (1, .int v1)] [] X (mo_nextOrder_L7_B n k34 rec v1 X) := by
  unfold mo_nextOrder_L7_B
  refine g_iload_n 1 dX12_nextOrder_7 rfl rfl ?_
  refine g_if_lt dX12_nextOrder_8 rfl rfl ?_ ?_
  · refine g_sub [0, 1] rfl ?_
    exact hk34 v1 X
  refine g_aload_n 0 dX12_nextOrder_11 rfl rfl ?_
  refine g_getR 102 54 137 rfl dX12_nextOrder_12 rfl kkX12 flX12_115 (by decide) rfl rfl (by decide) rfl ?_
  refine g_iload_n 1 dX12_nextOrder_15 rfl rfl ?_
  refine g_iald dX12_nextOrder_16 rfl (by decide) rfl rfl ?_
  refine g_aload_n 0 dX12_nextOrder_17 rfl rfl ?_
  refine g_getR 102 54 137 rfl dX12_nextOrder_18 rfl kkX12 flX12_115 (by decide) rfl rfl (by decide) rfl ?_
  refine g_iload_n 1 dX12_nextOrder_21 rfl rfl ?_
  refine g_iconst dX12_nextOrder_22 rfl kic_1 ?_
  refine g_iadd dX12_nextOrder_23 rfl ?_
  refine g_iald dX12_nextOrder_24 rfl (by decide) rfl rfl ?_
  refine g_icmp_le dX12_nextOrder_25 rfl rfl ?_ ?_
  · refine g_inc (lv' := [(1, .int (v1 + (-1 : Int32))), (0, .ref (q.ad 102))]) 1 dX12_nextOrder_28 rfl rfl kic_m1 (Nat.le_of_ble_eq_true rfl) rfl ?_
    refine g_goto dX12_nextOrder_31 rfl ?_
    refine g_sub [1, 0] rfl ?_
    exact hrec (v1 + (-1 : Int32)) X
  refine g_sub [0, 1] rfl ?_
  exact hk34 v1 X
theorem mo_nextOrder_L7_g (q : Th) (n : Nat) (k34 : Int32 → St → Option (Int32 × St)) (hk34 : ∀ v1 X, G q (mF q nX12_nextOrder RX12 1) fiw 34 [(0, .ref (q.ad 102)), (1, .int v1)] [] X (k34 v1 X)) : ∀ (w : Nat) (v1 : Int32) (X : St), G q (mF q nX12_nextOrder RX12 1) fiw 7 [(0, .ref (q.ad 102)), (1, .int v1)] [] X (mo_nextOrder_L7 n k34 w v1 X) := by
  intro w
  induction w with
  | zero => intro v1 X; exact g_none
  | succ w ih => intro v1 X; exact mo_nextOrder_L7_Bg q n k34 hk34 _ ih v1 X
theorem mo_nextOrder_L47_Bg (q : Th) (n : Nat) (k68 : Int32 → Int32 → St → Option (Int32 × St)) (hk68 : ∀ v1 v2 X, G q (mF q nX12_nextOrder RX12 1) fiw 68 [(0, .ref (q.ad 102)), (1, .int v1), (2, .int v2)] [] X (k68 v1 v2 X)) (rec : Int32 → Int32 → St → Option (Int32 × St)) (hrec : ∀ v1 v2 X, G q (mF q nX12_nextOrder RX12 1) fiw 47 [(0, .ref (q.ad 102)), (1, .int v1), (2, .int v2)] [] X (rec v1 v2 X)) (v1 : Int32) (v2 : Int32) (X : St) : G q (mF q nX12_nextOrder RX12 1) fiw 47 [(0, .ref (q.ad 102)), (1, .int v1), (2, .int v2)] [] X (mo_nextOrder_L47_B n k68 rec v1 v2 X) := by
  unfold mo_nextOrder_L47_B
  refine g_aload_n 0 dX12_nextOrder_47 rfl rfl ?_
  refine g_getR 102 54 137 rfl dX12_nextOrder_48 rfl kkX12 flX12_115 (by decide) rfl rfl (by decide) rfl ?_
  refine g_iload_n 2 dX12_nextOrder_51 rfl rfl ?_
  refine g_iald dX12_nextOrder_52 rfl (by decide) rfl rfl ?_
  refine g_aload_n 0 dX12_nextOrder_53 rfl rfl ?_
  refine g_getR 102 54 137 rfl dX12_nextOrder_54 rfl kkX12 flX12_115 (by decide) rfl rfl (by decide) rfl ?_
  refine g_iload_n 1 dX12_nextOrder_57 rfl rfl ?_
  refine g_iald dX12_nextOrder_58 rfl (by decide) rfl rfl ?_
  refine g_icmp_ge dX12_nextOrder_59 rfl rfl ?_ ?_
  · refine g_inc (lv' := [(2, .int (v2 + (-1 : Int32))), (0, .ref (q.ad 102)), (1, .int v1)]) 2 dX12_nextOrder_62 rfl rfl kic_m1 (Nat.le_of_ble_eq_true rfl) rfl ?_
    refine g_goto dX12_nextOrder_65 rfl ?_
    refine g_sub [1, 2, 0] rfl ?_
    exact hrec v1 (v2 + (-1 : Int32)) X
  refine g_sub [0, 1, 2] rfl ?_
  exact hk68 v1 v2 X
theorem mo_nextOrder_L47_g (q : Th) (n : Nat) (k68 : Int32 → Int32 → St → Option (Int32 × St)) (hk68 : ∀ v1 v2 X, G q (mF q nX12_nextOrder RX12 1) fiw 68 [(0, .ref (q.ad 102)), (1, .int v1), (2, .int v2)] [] X (k68 v1 v2 X)) : ∀ (w : Nat) (v1 : Int32) (v2 : Int32) (X : St), G q (mF q nX12_nextOrder RX12 1) fiw 47 [(0, .ref (q.ad 102)), (1, .int v1), (2, .int v2)] [] X (mo_nextOrder_L47 n k68 w v1 v2 X) := by
  intro w
  induction w with
  | zero => intro v1 v2 X; exact g_none
  | succ w ih => intro v1 v2 X; exact mo_nextOrder_L47_Bg q n k68 hk68 _ ih v1 v2 X
theorem mo_nextOrder_L86_Bg (q : Th) (n : Nat) (rec : Int32 → Int32 → St → Option (Int32 × St)) (hrec : ∀ v3 v4 X, G q (mF q nX12_nextOrder RX12 1) fiw 86 [(0, .ref (q.ad 102)), (3, .int v3), (4, .int v4)] [] X (rec v3 v4 X)) (v3 : Int32) (v4 : Int32) (X : St) : G q (mF q nX12_nextOrder RX12 1) fiw 86 [(0, .ref (q.ad 102)), (3, .int v3), (4, .int v4)] [] X (mo_nextOrder_L86_B n rec v3 v4 X) := by
  unfold mo_nextOrder_L86_B
  refine g_iload_n 1 dX12_nextOrder_86 rfl rfl ?_
  refine g_iload 2 dX12_nextOrder_87 rfl rfl ?_
  refine g_icmp_ge dX12_nextOrder_89 rfl rfl ?_ ?_
  · refine g_aload_n 0 dX12_nextOrder_92 rfl rfl ?_
    refine g_iload_n 1 dX12_nextOrder_93 rfl rfl ?_
    refine g_iload 2 dX12_nextOrder_94 rfl rfl ?_
    refine g_cVVw (As := [.int v3, .int v4]) (st := []) 2 mF_wg rfl dX12_nextOrder_96 rfl kkX12 (by decide) rfl vX12_exchange lkX12_323 (rmL rfl rfl) (mo_exchange_c q v3 v4 X) rfl rfl (Nat.le_of_ble_eq_true rfl) (fun X7 => ?_)
    refine g_inc (lv' := [(3, .int (v3 + (1 : Int32))), (0, .ref (q.ad 102)), (4, .int v4)]) 1 dX12_nextOrder_99 rfl rfl kic_1 (Nat.le_of_ble_eq_true rfl) rfl ?_
    refine g_inc (lv' := [(4, .int (v4 + (-1 : Int32))), (3, .int (v3 + (1 : Int32))), (0, .ref (q.ad 102))]) 2 dX12_nextOrder_102 rfl rfl kic_m1 (Nat.le_of_ble_eq_true rfl) rfl ?_
    refine g_goto dX12_nextOrder_105 rfl ?_
    refine g_sub [2, 1, 0] rfl ?_
    exact hrec (v3 + (1 : Int32)) (v4 + (-1 : Int32)) X7
  refine g_iconst dX12_nextOrder_108 rfl kic_1 ?_
  exact g_zret dX12_nextOrder_109 rfl rfl rfl
theorem mo_nextOrder_L86_g (q : Th) (n : Nat) : ∀ (w : Nat) (v3 : Int32) (v4 : Int32) (X : St), G q (mF q nX12_nextOrder RX12 1) fiw 86 [(0, .ref (q.ad 102)), (3, .int v3), (4, .int v4)] [] X (mo_nextOrder_L86 n w v3 v4 X) := by
  intro w
  induction w with
  | zero => intro v3 v4 X; exact g_none
  | succ w ih => intro v3 v4 X; exact mo_nextOrder_L86_Bg q n _ ih v3 v4 X
theorem mo_nextOrder_J34_g (q : Th) (n : Nat) (v1 : Int32) (X : St) : G q (mF q nX12_nextOrder RX12 1) fiw 34 [(0, .ref (q.ad 102)), (1, .int v1)] [] X (mo_nextOrder_J34 n v1 X) := by
  unfold mo_nextOrder_J34
  refine g_iload_n 1 dX12_nextOrder_34 rfl rfl ?_
  refine g_if_ge dX12_nextOrder_35 rfl rfl ?_ ?_
  · refine g_iconst dX12_nextOrder_38 rfl kic_0 ?_
    exact g_zret dX12_nextOrder_39 rfl rfl rfl
  refine g_aload_n 0 dX12_nextOrder_40 rfl rfl ?_
  refine g_getI 102 0 rfl dX12_nextOrder_41 rfl kkX12 flX12_125 (by decide) rfl rfl (by decide) rfl ?_
  refine g_iconst dX12_nextOrder_44 rfl kic_1 ?_
  refine g_isub dX12_nextOrder_45 rfl ?_
  refine g_istore_n (lv' := [(2, .int ((X.1 102 0) - (1 : Int32))), (0, .ref (q.ad 102)), (1, .int v1)]) dX12_nextOrder_46 rfl rfl (Nat.le_of_ble_eq_true rfl) rfl ?_
  refine g_sub [1, 2, 0] rfl ?_
  refine mo_nextOrder_L47_g q n _ (fun v4 v5 X3 => ?_) n v1 ((X.1 102 0) - (1 : Int32)) X
  refine g_aload_n 0 dX12_nextOrder_68 rfl rfl ?_
  refine g_iload_n 1 dX12_nextOrder_69 rfl rfl ?_
  refine g_iload_n 2 dX12_nextOrder_70 rfl rfl ?_
  refine g_cVVw (As := [.int v4, .int v5]) (st := []) 2 mF_wg rfl dX12_nextOrder_71 rfl kkX12 (by decide) rfl vX12_exchange lkX12_323 (rmL rfl rfl) (mo_exchange_c q v4 v5 X3) rfl rfl (Nat.le_of_ble_eq_true rfl) (fun X6 => ?_)
  refine g_iload_n 1 dX12_nextOrder_74 rfl rfl ?_
  refine g_iconst dX12_nextOrder_75 rfl kic_1 ?_
  refine g_iadd dX12_nextOrder_76 rfl ?_
  refine g_istore_n (lv' := [(3, .int (v4 + (1 : Int32))), (0, .ref (q.ad 102)), (1, .int v4), (2, .int v5)]) dX12_nextOrder_77 rfl rfl (Nat.le_of_ble_eq_true rfl) rfl ?_
  refine g_aload_n 1 dX12_nextOrder_78 rfl rfl ?_
  refine g_getI 102 0 rfl dX12_nextOrder_79 rfl kkX12 flX12_125 (by decide) rfl rfl (by decide) rfl ?_
  refine g_iconst dX12_nextOrder_82 rfl kic_1 ?_
  refine g_isub dX12_nextOrder_83 rfl ?_
  refine g_istore (lv' := [(4, .int ((X6.1 102 0) - (1 : Int32))), (3, .int (v4 + (1 : Int32))), (0, .ref (q.ad 102)), (1, .int v4), (2, .int v5)]) dX12_nextOrder_84 rfl (Nat.le_of_ble_eq_true rfl) rfl ?_
  refine g_sub [2, 1, 0] rfl ?_
  refine mo_nextOrder_L86_g q n n (v4 + (1 : Int32)) ((X6.1 102 0) - (1 : Int32)) X6
theorem mo_nextOrder_c (q : Th) (n : Nat) (X : St) : Ct q nX12_nextOrder 1 fiw [.ref (q.ad 102)] X (mo_nextOrder n X) := by
  refine ct_of (by decide +kernel) (Nat.le_of_ble_eq_true rfl) ?_
  unfold mo_nextOrder
  show G q _ _ 0 [(0, .ref (q.ad 102))] [] X _
  refine g_aload_n 0 dX12_nextOrder_0 rfl rfl ?_
  refine g_getI 102 0 rfl dX12_nextOrder_1 rfl kkX12 flX12_125 (by decide) rfl rfl (by decide) rfl ?_
  refine g_iconst dX12_nextOrder_4 rfl kic_2 ?_
  refine g_isub dX12_nextOrder_5 rfl ?_
  refine g_istore_n (lv' := [(1, .int ((X.1 102 0) - (2 : Int32))), (0, .ref (q.ad 102))]) dX12_nextOrder_6 rfl rfl (Nat.le_of_ble_eq_true rfl) rfl ?_
  refine g_sub [1, 0] rfl ?_
  refine mo_nextOrder_L7_g q n _ (fun v2 X1 => ?_) n ((X.1 102 0) - (2 : Int32)) X
  refine g_sub [0, 1] rfl ?_
  exact mo_nextOrder_J34_g q n v2 X1
def mo_line_L42_B (n : Nat) (k61 : Int32 → Int32 → St → Option (Int32 × St)) (rec : Int32 → Int32 → Int32 → St → Option (Int32 × St)) (v1 : Int32) (v2 : Int32) (v3 : Int32) (X : St) : Option (Int32 × St) :=
(if v3 < (6 : Int32) then
(if inB v3 6 then
(rec v1 v2 (v3 + (1 : Int32)) (stI X 137 (nx v3) v3)) else none)
else
(k61 v1 v2 X))
def mo_line_L42 (n : Nat) (k61 : Int32 → Int32 → St → Option (Int32 × St)) : Nat → Int32 → Int32 → Int32 → St → Option (Int32 × St)
  | 0 => fun _ _ _ _ => none
  | w + 1 => mo_line_L42_B n k61 (mo_line_L42 n k61 w)
def mo_line_L94_B (n : Nat) (k121 : Int32 → Int32 → Int32 → St → Option (Int32 × St)) (rec : Int32 → Int32 → Int32 → Int32 → St → Option (Int32 × St)) (v1 : Int32) (v2 : Int32) (v3 : Int32) (v6 : Int32) (X : St) : Option (Int32 × St) :=
(if v6 < (6 : Int32) then
(if inB v6 6 then
(if inB v6 6 then
(rec v1 v2 v3 (v6 + (1 : Int32)) (stI X 138 (nx v6) (X.1 137 (nx v6)))) else none) else none)
else
(k121 v1 v2 v3 X))
def mo_line_L94 (n : Nat) (k121 : Int32 → Int32 → Int32 → St → Option (Int32 × St)) : Nat → Int32 → Int32 → Int32 → Int32 → St → Option (Int32 × St)
  | 0 => fun _ _ _ _ _ => none
  | w + 1 => mo_line_L94_B n k121 (mo_line_L94 n k121 w)
def mo_line_L66_B (n : Nat) (k130 : Int32 → Int32 → St → Option (Int32 × St)) (rec : Int32 → Int32 → Int32 → Int32 → St → Option (Int32 × St)) (v1 : Int32) (v2 : Int32) (v3 : Int32) (v4 : Int32) (X : St) : Option (Int32 × St) :=
(if v4 = 0 then
(k130 v2 v3 X)
else
((mo_unlike n v1 X).bind fun c4 =>
(if v3 < 0 then
(mo_line_L94 n (fun v6 v7 v8 X5 =>
((mo_nextOrder n X5).bind fun (c10, X9) =>
(rec v6 v7 v8 c10 X9))) n v1 v2 c4 (0 : Int32) X)
else
(if c4 < v3 then
(mo_line_L94 n (fun v12 v13 v14 X11 =>
((mo_nextOrder n X11).bind fun (c16, X15) =>
(rec v12 v13 v14 c16 X15))) n v1 v2 c4 (0 : Int32) X)
else
((mo_nextOrder n X).bind fun (c18, X17) =>
(rec v1 v2 v3 c18 X17))))))
def mo_line_L66 (n : Nat) (k130 : Int32 → Int32 → St → Option (Int32 × St)) : Nat → Int32 → Int32 → Int32 → Int32 → St → Option (Int32 × St)
  | 0 => fun _ _ _ _ _ => none
  | w + 1 => mo_line_L66_B n k130 (mo_line_L66 n k130 w)
def mo_line (n : Nat) (v1 : Int32) (v2 : Int32) (X : St) : Option (Int32 × St) :=
  (if (mo_within v1 (0 : Int32) (9 : Int32)) = 0 then
  (some ((-1 : Int32), X))
  else
  (if v2 < (-1 : Int32) then
  (some ((-1 : Int32), X))
  else
  (if (6 : Int32) < (X.1 102 0) then
  (some ((-5 : Int32), X))
  else
  (if v2 < (X.1 102 0) then
  (mo_line_L42 n (fun v2 v3 X1 =>
  (mo_line_L66 n (fun v20 v21 X19 =>
  (if v20 = (-1 : Int32) then
  (some (v21, X19))
  else
  (if inB v20 6 then
  (some ((X19.1 138 (nx v20)), X19)) else none))) n v2 v3 (-1 : Int32) (1 : Int32) X1)) n v1 v2 (0 : Int32) X)
  else
  (some ((-2 : Int32), X))))))
theorem mo_line_L42_Bg (q : Th) (n : Nat) (k61 : Int32 → Int32 → St → Option (Int32 × St)) (hk61 : ∀ v1 v2 X, G q (mF q nX12_line RX12 2) fiw 61 [(0, .ref (q.ad 102)), (1, .int v1), (2, .int v2)] [] X (k61 v1 v2 X)) (rec : Int32 → Int32 → Int32 → St → Option (Int32 × St)) (hrec : ∀ v1 v2 v3 X, G q (mF q nX12_line RX12 2) fiw 42 [(0, .ref (q.ad 102)), (1, .int v1), (2, .int v2), (3, .int v3)] [] X (rec v1 v2 v3 X)) (v1 : Int32) (v2 : Int32) (v3 : Int32) (X : St) : G q (mF q nX12_line RX12 2) fiw 42 [(0, .ref (q.ad 102)), (1, .int v1), (2, .int v2), (3, .int v3)] [] X (mo_line_L42_B n k61 rec v1 v2 v3 X) := by
  unfold mo_line_L42_B
  refine g_iload_n 3 dX12_line_42 rfl rfl ?_
  refine g_bipush dX12_line_43 rfl kbi_6 ?_
  refine g_icmp_ge dX12_line_45 rfl rfl ?_ ?_
  · refine g_aload_n 0 dX12_line_48 rfl rfl ?_
    refine g_getR 102 54 137 rfl dX12_line_49 rfl kkX12 flX12_115 (by decide) rfl rfl (by decide) rfl ?_
    refine g_iload_n 3 dX12_line_52 rfl rfl ?_
    refine g_iload_n 3 dX12_line_53 rfl rfl ?_
    refine g_iast dX12_line_54 rfl (by decide) rfl rfl ?_
    refine g_inc (lv' := [(3, .int (v3 + (1 : Int32))), (0, .ref (q.ad 102)), (1, .int v1), (2, .int v2)]) 3 dX12_line_55 rfl rfl kic_1 (Nat.le_of_ble_eq_true rfl) rfl ?_
    refine g_goto dX12_line_58 rfl ?_
    refine g_sub [1, 2, 3, 0] rfl ?_
    exact hrec v1 v2 (v3 + (1 : Int32)) (stI X 137 (nx v3) v3)
  refine g_sub [0, 1, 2] rfl ?_
  exact hk61 v1 v2 X
theorem mo_line_L42_g (q : Th) (n : Nat) (k61 : Int32 → Int32 → St → Option (Int32 × St)) (hk61 : ∀ v1 v2 X, G q (mF q nX12_line RX12 2) fiw 61 [(0, .ref (q.ad 102)), (1, .int v1), (2, .int v2)] [] X (k61 v1 v2 X)) : ∀ (w : Nat) (v1 : Int32) (v2 : Int32) (v3 : Int32) (X : St), G q (mF q nX12_line RX12 2) fiw 42 [(0, .ref (q.ad 102)), (1, .int v1), (2, .int v2), (3, .int v3)] [] X (mo_line_L42 n k61 w v1 v2 v3 X) := by
  intro w
  induction w with
  | zero => intro v1 v2 v3 X; exact g_none
  | succ w ih => intro v1 v2 v3 X; exact mo_line_L42_Bg q n k61 hk61 _ ih v1 v2 v3 X
theorem mo_line_L94_Bg (q : Th) (n : Nat) (k121 : Int32 → Int32 → Int32 → St → Option (Int32 × St)) (hk121 : ∀ v1 v2 v3 X, G q (mF q nX12_line RX12 2) fiw 121 [(0, .ref (q.ad 102)), (1, .int v1), (2, .int v2), (3, .int v3)] [] X (k121 v1 v2 v3 X)) (rec : Int32 → Int32 → Int32 → Int32 → St → Option (Int32 × St)) (hrec : ∀ v1 v2 v3 v6 X, G q (mF q nX12_line RX12 2) fiw 94 [(0, .ref (q.ad 102)), (1, .int v1), (2, .int v2), (3, .int v3), (6, .int v6)] [] X (rec v1 v2 v3 v6 X)) (v1 : Int32) (v2 : Int32) (v3 : Int32) (v6 : Int32) (X : St) : G q (mF q nX12_line RX12 2) fiw 94 [(0, .ref (q.ad 102)), (1, .int v1), (2, .int v2), (3, .int v3), (6, .int v6)] [] X (mo_line_L94_B n k121 rec v1 v2 v3 v6 X) := by
  unfold mo_line_L94_B
  refine g_iload 4 dX12_line_94 rfl rfl ?_
  refine g_bipush dX12_line_96 rfl kbi_6 ?_
  refine g_icmp_ge dX12_line_98 rfl rfl ?_ ?_
  · refine g_aload_n 0 dX12_line_101 rfl rfl ?_
    refine g_getR 102 55 138 rfl dX12_line_102 rfl kkX12 flX12_118 (by decide) rfl rfl (by decide) rfl ?_
    refine g_iload 4 dX12_line_105 rfl rfl ?_
    refine g_aload_n 0 dX12_line_107 rfl rfl ?_
    refine g_getR 102 54 137 rfl dX12_line_108 rfl kkX12 flX12_115 (by decide) rfl rfl (by decide) rfl ?_
    refine g_iload 4 dX12_line_111 rfl rfl ?_
    refine g_iald dX12_line_113 rfl (by decide) rfl rfl ?_
    refine g_iast dX12_line_114 rfl (by decide) rfl rfl ?_
    refine g_inc (lv' := [(6, .int (v6 + (1 : Int32))), (0, .ref (q.ad 102)), (1, .int v1), (2, .int v2), (3, .int v3)]) 4 dX12_line_115 rfl rfl kic_1 (Nat.le_of_ble_eq_true rfl) rfl ?_
    refine g_goto dX12_line_118 rfl ?_
    refine g_sub [1, 2, 3, 4, 0] rfl ?_
    exact hrec v1 v2 v3 (v6 + (1 : Int32)) (stI X 138 (nx v6) (X.1 137 (nx v6)))
  refine g_sub [0, 1, 2, 3] rfl ?_
  exact hk121 v1 v2 v3 X
theorem mo_line_L94_g (q : Th) (n : Nat) (k121 : Int32 → Int32 → Int32 → St → Option (Int32 × St)) (hk121 : ∀ v1 v2 v3 X, G q (mF q nX12_line RX12 2) fiw 121 [(0, .ref (q.ad 102)), (1, .int v1), (2, .int v2), (3, .int v3)] [] X (k121 v1 v2 v3 X)) : ∀ (w : Nat) (v1 : Int32) (v2 : Int32) (v3 : Int32) (v6 : Int32) (X : St), G q (mF q nX12_line RX12 2) fiw 94 [(0, .ref (q.ad 102)), (1, .int v1), (2, .int v2), (3, .int v3), (6, .int v6)] [] X (mo_line_L94 n k121 w v1 v2 v3 v6 X) := by
  intro w
  induction w with
  | zero => intro v1 v2 v3 v6 X; exact g_none
  | succ w ih => intro v1 v2 v3 v6 X; exact mo_line_L94_Bg q n k121 hk121 _ ih v1 v2 v3 v6 X
theorem mo_line_L66_Bg (q : Th) (n : Nat) (k130 : Int32 → Int32 → St → Option (Int32 × St)) (hk130 : ∀ v2 v3 X, G q (mF q nX12_line RX12 2) fiw 130 [(0, .ref (q.ad 102)), (2, .int v2), (3, .int v3)] [] X (k130 v2 v3 X)) (rec : Int32 → Int32 → Int32 → Int32 → St → Option (Int32 × St)) (hrec : ∀ v1 v2 v3 v4 X, G q (mF q nX12_line RX12 2) fiw 66 [(0, .ref (q.ad 102)), (1, .int v1), (2, .int v2), (3, .int v3), (4, .int v4)] [] X (rec v1 v2 v3 v4 X)) (v1 : Int32) (v2 : Int32) (v3 : Int32) (v4 : Int32) (X : St) : G q (mF q nX12_line RX12 2) fiw 66 [(0, .ref (q.ad 102)), (1, .int v1), (2, .int v2), (3, .int v3), (4, .int v4)] [] X (mo_line_L66_B n k130 rec v1 v2 v3 v4 X) := by
  unfold mo_line_L66_B
  refine g_iload 4 dX12_line_66 rfl rfl ?_
  refine g_if_eq dX12_line_68 rfl rfl ?_ ?_
  · refine g_sub [0, 2, 3] rfl ?_
    exact hk130 v2 v3 X
  refine g_aload_n 0 dX12_line_71 rfl rfl ?_
  refine g_iload_n 1 dX12_line_72 rfl rfl ?_
  refine g_cVIr (As := [.int v1]) (st := []) 1 mF_wg rfl dX12_line_73 rfl kkX12 (by decide) rfl vX12_unlike lkX12_327 (rmL rfl rfl) (mo_unlike_c q n v1 X) rfl rfl (Nat.le_of_ble_eq_true rfl) (fun c4 => ?_)
  refine g_istore (lv' := [(5, .int c4), (0, .ref (q.ad 102)), (1, .int v1), (2, .int v2), (3, .int v3), (4, .int v4)]) dX12_line_76 rfl (Nat.le_of_ble_eq_true rfl) rfl ?_
  refine g_iload_n 4 dX12_line_78 rfl rfl ?_
  refine g_if_lt dX12_line_79 rfl rfl ?_ ?_
  · refine g_iload 0 dX12_line_88 rfl rfl ?_
    refine g_istore_n (lv' := [(3, .int c4), (5, .int c4), (0, .ref (q.ad 102)), (1, .int v1), (2, .int v2), (4, .int v4)]) dX12_line_90 rfl rfl (Nat.le_of_ble_eq_true rfl) rfl ?_
    refine g_iconst dX12_line_91 rfl kic_0 ?_
    refine g_istore (lv' := [(6, .int (0 : Int32)), (3, .int c4), (5, .int c4), (0, .ref (q.ad 102)), (1, .int v1), (2, .int v2), (4, .int v4)]) dX12_line_92 rfl (Nat.le_of_ble_eq_true rfl) rfl ?_
    refine g_sub [3, 4, 5, 1, 0] rfl ?_
    refine mo_line_L94_g q n _ (fun v6 v7 v8 X5 => ?_) n v1 v2 c4 (0 : Int32) X
    refine g_aload_n 0 dX12_line_121 rfl rfl ?_
    refine g_cVIw (As := []) (st := []) 0 mF_wg rfl dX12_line_122 rfl kkX12 (by decide) rfl vX12_nextOrder lkX12_330 (rmL rfl rfl) (mo_nextOrder_c q n X5) rfl rfl (Nat.le_of_ble_eq_true rfl) (fun c10 X9 => ?_)
    refine g_istore (lv' := [(4, .int c10), (0, .ref (q.ad 102)), (1, .int v6), (2, .int v7), (3, .int v8)]) dX12_line_125 rfl (Nat.le_of_ble_eq_true rfl) rfl ?_
    refine g_goto dX12_line_127 rfl ?_
    refine g_sub [1, 2, 3, 4, 0] rfl ?_
    exact hrec v6 v7 v8 c10 X9
  refine g_iload 0 dX12_line_82 rfl rfl ?_
  refine g_iload_n 4 dX12_line_84 rfl rfl ?_
  refine g_icmp_ge dX12_line_85 rfl rfl ?_ ?_
  · refine g_iload 0 dX12_line_88 rfl rfl ?_
    refine g_istore_n (lv' := [(3, .int c4), (5, .int c4), (0, .ref (q.ad 102)), (1, .int v1), (2, .int v2), (4, .int v4)]) dX12_line_90 rfl rfl (Nat.le_of_ble_eq_true rfl) rfl ?_
    refine g_iconst dX12_line_91 rfl kic_0 ?_
    refine g_istore (lv' := [(6, .int (0 : Int32)), (3, .int c4), (5, .int c4), (0, .ref (q.ad 102)), (1, .int v1), (2, .int v2), (4, .int v4)]) dX12_line_92 rfl (Nat.le_of_ble_eq_true rfl) rfl ?_
    refine g_sub [3, 4, 5, 1, 0] rfl ?_
    refine mo_line_L94_g q n _ (fun v12 v13 v14 X11 => ?_) n v1 v2 c4 (0 : Int32) X
    refine g_aload_n 0 dX12_line_121 rfl rfl ?_
    refine g_cVIw (As := []) (st := []) 0 mF_wg rfl dX12_line_122 rfl kkX12 (by decide) rfl vX12_nextOrder lkX12_330 (rmL rfl rfl) (mo_nextOrder_c q n X11) rfl rfl (Nat.le_of_ble_eq_true rfl) (fun c16 X15 => ?_)
    refine g_istore (lv' := [(4, .int c16), (0, .ref (q.ad 102)), (1, .int v12), (2, .int v13), (3, .int v14)]) dX12_line_125 rfl (Nat.le_of_ble_eq_true rfl) rfl ?_
    refine g_goto dX12_line_127 rfl ?_
    refine g_sub [1, 2, 3, 4, 0] rfl ?_
    exact hrec v12 v13 v14 c16 X15
  refine g_aload_n 1 dX12_line_121 rfl rfl ?_
  refine g_cVIw (As := []) (st := []) 0 mF_wg rfl dX12_line_122 rfl kkX12 (by decide) rfl vX12_nextOrder lkX12_330 (rmL rfl rfl) (mo_nextOrder_c q n X) rfl rfl (Nat.le_of_ble_eq_true rfl) (fun c18 X17 => ?_)
  refine g_istore (lv' := [(4, .int c18), (5, .int c4), (0, .ref (q.ad 102)), (1, .int v1), (2, .int v2), (3, .int v3)]) dX12_line_125 rfl (Nat.le_of_ble_eq_true rfl) rfl ?_
  refine g_goto dX12_line_127 rfl ?_
  refine g_sub [2, 3, 4, 5, 0] rfl ?_
  exact hrec v1 v2 v3 c18 X17
theorem mo_line_L66_g (q : Th) (n : Nat) (k130 : Int32 → Int32 → St → Option (Int32 × St)) (hk130 : ∀ v2 v3 X, G q (mF q nX12_line RX12 2) fiw 130 [(0, .ref (q.ad 102)), (2, .int v2), (3, .int v3)] [] X (k130 v2 v3 X)) : ∀ (w : Nat) (v1 : Int32) (v2 : Int32) (v3 : Int32) (v4 : Int32) (X : St), G q (mF q nX12_line RX12 2) fiw 66 [(0, .ref (q.ad 102)), (1, .int v1), (2, .int v2), (3, .int v3), (4, .int v4)] [] X (mo_line_L66 n k130 w v1 v2 v3 v4 X) := by
  intro w
  induction w with
  | zero => intro v1 v2 v3 v4 X; exact g_none
  | succ w ih => intro v1 v2 v3 v4 X; exact mo_line_L66_Bg q n k130 hk130 _ ih v1 v2 v3 v4 X
theorem mo_line_c (q : Th) (n : Nat) (v1 : Int32) (v2 : Int32) (X : St) : Ct q nX12_line 2 fiw [.ref (q.ad 102), .int v1, .int v2] X (mo_line n v1 v2 X) := by
  refine ct_of (by decide +kernel) (Nat.le_of_ble_eq_true rfl) ?_
  unfold mo_line
  show G q _ _ 0 [(0, .ref (q.ad 102)), (1, .int v1), (2, .int v2)] [] X _
  refine g_iload_n 1 dX12_line_0 rfl rfl ?_
  refine g_iconst dX12_line_1 rfl kic_0 ?_
  refine g_bipush dX12_line_2 rfl kbi_9 ?_
  refine g_cSIt (As := [.int v1, .int (0 : Int32), .int (9 : Int32)]) (st := []) 3 mF_wg rfl dX12_line_4 rfl vX12_within lkX12_128 (rmL rfl rfl) (mo_within_c q v1 (0 : Int32) (9 : Int32) X) rfl rfl (Nat.le_of_ble_eq_true rfl) ?_
  refine g_if_eq dX12_line_7 rfl rfl ?_ ?_
  · refine g_iconst dX12_line_15 rfl kic_m1 ?_
    exact g_iret dX12_line_16 rfl rfl
  refine g_iload_n 2 dX12_line_10 rfl rfl ?_
  refine g_iconst dX12_line_11 rfl kic_m1 ?_
  refine g_icmp_ge dX12_line_12 rfl rfl ?_ ?_
  · refine g_iconst dX12_line_15 rfl kic_m1 ?_
    exact g_iret dX12_line_16 rfl rfl
  refine g_aload_n 0 dX12_line_17 rfl rfl ?_
  refine g_getI 102 0 rfl dX12_line_18 rfl kkX12 flX12_125 (by decide) rfl rfl (by decide) rfl ?_
  refine g_bipush dX12_line_21 rfl kbi_6 ?_
  refine g_icmp_le dX12_line_23 rfl rfl ?_ ?_
  · refine g_bipush dX12_line_26 rfl kbi_m5 ?_
    exact g_iret dX12_line_28 rfl rfl
  refine g_iload_n 2 dX12_line_29 rfl rfl ?_
  refine g_aload_n 0 dX12_line_30 rfl rfl ?_
  refine g_getI 102 0 rfl dX12_line_31 rfl kkX12 flX12_125 (by decide) rfl rfl (by decide) rfl ?_
  refine g_icmp_lt dX12_line_34 rfl rfl ?_ ?_
  · refine g_iconst dX12_line_40 rfl kic_0 ?_
    refine g_istore_n (lv' := [(3, .int (0 : Int32)), (0, .ref (q.ad 102)), (1, .int v1), (2, .int v2)]) dX12_line_41 rfl rfl (Nat.le_of_ble_eq_true rfl) rfl ?_
    refine g_sub [1, 2, 3, 0] rfl ?_
    refine mo_line_L42_g q n _ (fun v2 v3 X1 => ?_) n v1 v2 (0 : Int32) X
    refine g_iconst dX12_line_61 rfl kic_m1 ?_
    refine g_istore_n (lv' := [(3, .int (-1 : Int32)), (0, .ref (q.ad 102)), (1, .int v2), (2, .int v3)]) dX12_line_62 rfl rfl (Nat.le_of_ble_eq_true rfl) rfl ?_
    refine g_iconst dX12_line_63 rfl kic_1 ?_
    refine g_istore (lv' := [(4, .int (1 : Int32)), (3, .int (-1 : Int32)), (0, .ref (q.ad 102)), (1, .int v2), (2, .int v3)]) dX12_line_64 rfl (Nat.le_of_ble_eq_true rfl) rfl ?_
    refine g_sub [2, 3, 4, 1, 0] rfl ?_
    refine mo_line_L66_g q n _ (fun v20 v21 X19 => ?_) n v2 v3 (-1 : Int32) (1 : Int32) X1
    refine g_iload_n 1 dX12_line_130 rfl rfl ?_
    refine g_iconst dX12_line_131 rfl kic_m1 ?_
    refine g_icmp_ne dX12_line_132 rfl rfl ?_ ?_
    · refine g_iload_n 2 dX12_line_135 rfl rfl ?_
      refine g_goto dX12_line_136 rfl ?_
      exact g_iret dX12_line_145 rfl rfl
    refine g_aload_n 0 dX12_line_139 rfl rfl ?_
    refine g_getR 102 55 138 rfl dX12_line_140 rfl kkX12 flX12_118 (by decide) rfl rfl (by decide) rfl ?_
    refine g_iload_n 1 dX12_line_143 rfl rfl ?_
    refine g_iald dX12_line_144 rfl (by decide) rfl rfl ?_
    exact g_iret dX12_line_145 rfl rfl
  refine g_bipush dX12_line_37 rfl kbi_m2 ?_
  exact g_iret dX12_line_39 rfl rfl
def mo_lift_L84_B (n : Nat) (X : St) (k122 : Int32 → Int32 → Int32 → Int32 → Int32 → Int32 → Int32 → Option (Int32)) (rec : Int32 → Int32 → Int32 → Int32 → Int32 → Int32 → Int32 → Int32 → Option (Int32)) (v1 : Int32) (v2 : Int32) (v3 : Int32) (v4 : Int32) (v5 : Int32) (v6 : Int32) (v7 : Int32) (v8 : Int32) : Option (Int32) :=
(if v8 < (X.1 102 0) then
(if ((v6 >>> (v8 &&& 31)) &&& (1 : Int32)) = (1 : Int32) then
(if inB v8 8 then
(rec v1 v2 v3 v4 v5 v6 (v7 + (X.1 105 (nx v8))) (v8 + (1 : Int32))) else none)
else
(rec v1 v2 v3 v4 v5 v6 v7 (v8 + (1 : Int32))))
else
(k122 v1 v2 v3 v4 v5 v6 v7))
def mo_lift_L84 (n : Nat) (X : St) (k122 : Int32 → Int32 → Int32 → Int32 → Int32 → Int32 → Int32 → Option (Int32)) : Nat → Int32 → Int32 → Int32 → Int32 → Int32 → Int32 → Int32 → Int32 → Option (Int32)
  | 0 => fun _ _ _ _ _ _ _ _ => none
  | w + 1 => mo_lift_L84_B n X k122 (mo_lift_L84 n X k122 w)
def mo_lift_L35_B (n : Nat) (X : St) (k159 : Int32 → Int32 → Int32 → Int32 → Int32 → Option (Int32)) (rec : Int32 → Int32 → Int32 → Int32 → Int32 → Int32 → Option (Int32)) (v1 : Int32) (v2 : Int32) (v3 : Int32) (v4 : Int32) (v5 : Int32) (v6 : Int32) : Option (Int32) :=
(if v6 < ((1 : Int32) <<< ((X.1 102 0) &&& 31)) then
(if (jint_bitCount v6) = (3 : Int32) then
(if ((v6 >>> (v5 &&& 31)) &&& (1 : Int32)) = (1 : Int32) then
(rec v1 v2 v3 v4 v5 (v6 + (1 : Int32)))
else
(if inB v5 8 then
(mo_lift_L84 n X (fun v1 v2 v3 v4 v5 v6 v7 =>
(if v7 < 0 then
(rec v1 v2 v3 v4 v5 (v6 + (1 : Int32)))
else
(if v2 = (-2 : Int32) then
(rec v1 v5 v6 v7 v5 (v6 + (1 : Int32)))
else
(if v7 < v4 then
(rec v1 v5 v6 v7 v5 (v6 + (1 : Int32)))
else
(rec v1 v2 v3 v4 v5 (v6 + (1 : Int32))))))) n v1 v2 v3 v4 v5 v6 ((-3 : Int32) * (X.1 105 (nx v5))) (0 : Int32)) else none))
else
(rec v1 v2 v3 v4 v5 (v6 + (1 : Int32))))
else
(k159 v1 v2 v3 v4 v5))
def mo_lift_L35 (n : Nat) (X : St) (k159 : Int32 → Int32 → Int32 → Int32 → Int32 → Option (Int32)) : Nat → Int32 → Int32 → Int32 → Int32 → Int32 → Int32 → Option (Int32)
  | 0 => fun _ _ _ _ _ _ => none
  | w + 1 => mo_lift_L35_B n X k159 (mo_lift_L35 n X k159 w)
def mo_lift_L23_B (n : Nat) (X : St) (rec : Int32 → Int32 → Int32 → Int32 → Int32 → Option (Int32)) (v1 : Int32) (v2 : Int32) (v3 : Int32) (v4 : Int32) (v5 : Int32) : Option (Int32) :=
(if v5 < (X.1 102 0) then
(mo_lift_L35 n X (fun v8 v9 v10 v11 v12 =>
(rec v8 v9 v10 v11 (v12 + (1 : Int32)))) n v1 v2 v3 v4 v5 (0 : Int32))
else
(if v1 = 0 then
(some v2)
else
(some v3)))
def mo_lift_L23 (n : Nat) (X : St) : Nat → Int32 → Int32 → Int32 → Int32 → Int32 → Option (Int32)
  | 0 => fun _ _ _ _ _ => none
  | w + 1 => mo_lift_L23_B n X (mo_lift_L23 n X w)
def mo_lift (n : Nat) (v1 : Int32) (X : St) : Option (Int32) :=
  (if (mo_within v1 (0 : Int32) (1 : Int32)) = 0 then
  (some (-1 : Int32))
  else
  (mo_lift_L23 n X n v1 (-2 : Int32) (-2 : Int32) (0 : Int32) (0 : Int32)))
theorem mo_lift_L84_Bg (q : Th) (n : Nat) (X : St) (k122 : Int32 → Int32 → Int32 → Int32 → Int32 → Int32 → Int32 → Option (Int32)) (hk122 : ∀ v1 v2 v3 v4 v5 v6 v7, G q (mF q nX12_lift RX12 1) (fir X) 122 [(0, .ref (q.ad 102)), (1, .int v1), (2, .int v2), (3, .int v3), (4, .int v4), (5, .int v5), (6, .int v6), (7, .int v7)] [] X (k122 v1 v2 v3 v4 v5 v6 v7)) (rec : Int32 → Int32 → Int32 → Int32 → Int32 → Int32 → Int32 → Int32 → Option (Int32)) (hrec : ∀ v1 v2 v3 v4 v5 v6 v7 v8, G q (mF q nX12_lift RX12 1) (fir X) 84 [(0, .ref (q.ad 102)), (1, .int v1), (2, .int v2), (3, .int v3), (4, .int v4), (5, .int v5), (6, .int v6), (7, .int v7), (8, .int v8)] [] X (rec v1 v2 v3 v4 v5 v6 v7 v8)) (v1 : Int32) (v2 : Int32) (v3 : Int32) (v4 : Int32) (v5 : Int32) (v6 : Int32) (v7 : Int32) (v8 : Int32) : G q (mF q nX12_lift RX12 1) (fir X) 84 [(0, .ref (q.ad 102)), (1, .int v1), (2, .int v2), (3, .int v3), (4, .int v4), (5, .int v5), (6, .int v6), (7, .int v7), (8, .int v8)] [] X (mo_lift_L84_B n X k122 rec v1 v2 v3 v4 v5 v6 v7 v8) := by
  unfold mo_lift_L84_B
  refine g_iload 8 dX12_lift_84 rfl rfl ?_
  refine g_aload_n 0 dX12_lift_86 rfl rfl ?_
  refine g_getI 102 0 rfl dX12_lift_87 rfl kkX12 flX12_125 (by decide) rfl rfl (by decide) rfl ?_
  refine g_icmp_ge dX12_lift_90 rfl rfl ?_ ?_
  · refine g_iload 6 dX12_lift_93 rfl rfl ?_
    refine g_iload 8 dX12_lift_95 rfl rfl ?_
    refine g_ishr dX12_lift_97 rfl ?_
    refine g_iconst dX12_lift_98 rfl kic_1 ?_
    refine g_iand dX12_lift_99 rfl ?_
    refine g_iconst dX12_lift_100 rfl kic_1 ?_
    refine g_icmp_ne dX12_lift_101 rfl rfl ?_ ?_
    · refine g_iload 7 dX12_lift_104 rfl rfl ?_
      refine g_aload_n 0 dX12_lift_106 rfl rfl ?_
      refine g_getR 102 3 105 rfl dX12_lift_107 rfl kkX12 flX12_18 (by decide) rfl rfl (by decide) rfl ?_
      refine g_iload 8 dX12_lift_110 rfl rfl ?_
      refine g_iald dX12_lift_112 rfl (by decide) rfl rfl ?_
      refine g_iadd dX12_lift_113 rfl ?_
      refine g_istore (lv' := [(7, .int (v7 + (X.1 105 (nx v8)))), (0, .ref (q.ad 102)), (1, .int v1), (2, .int v2), (3, .int v3), (4, .int v4), (5, .int v5), (6, .int v6), (8, .int v8)]) dX12_lift_114 rfl (Nat.le_of_ble_eq_true rfl) rfl ?_
      refine g_inc (lv' := [(8, .int (v8 + (1 : Int32))), (7, .int (v7 + (X.1 105 (nx v8)))), (0, .ref (q.ad 102)), (1, .int v1), (2, .int v2), (3, .int v3), (4, .int v4), (5, .int v5), (6, .int v6)]) 8 dX12_lift_116 rfl rfl kic_1 (Nat.le_of_ble_eq_true rfl) rfl ?_
      refine g_goto dX12_lift_119 rfl ?_
      refine g_sub [2, 3, 4, 5, 6, 7, 8, 1, 0] rfl ?_
      exact hrec v1 v2 v3 v4 v5 v6 (v7 + (X.1 105 (nx v8))) (v8 + (1 : Int32))
    refine g_inc (lv' := [(8, .int (v8 + (1 : Int32))), (0, .ref (q.ad 102)), (1, .int v1), (2, .int v2), (3, .int v3), (4, .int v4), (5, .int v5), (6, .int v6), (7, .int v7)]) 8 dX12_lift_116 rfl rfl kic_1 (Nat.le_of_ble_eq_true rfl) rfl ?_
    refine g_goto dX12_lift_119 rfl ?_
    refine g_sub [1, 2, 3, 4, 5, 6, 7, 8, 0] rfl ?_
    exact hrec v1 v2 v3 v4 v5 v6 v7 (v8 + (1 : Int32))
  refine g_sub [0, 1, 2, 3, 4, 5, 6, 7] rfl ?_
  exact hk122 v1 v2 v3 v4 v5 v6 v7
theorem mo_lift_L84_g (q : Th) (n : Nat) (X : St) (k122 : Int32 → Int32 → Int32 → Int32 → Int32 → Int32 → Int32 → Option (Int32)) (hk122 : ∀ v1 v2 v3 v4 v5 v6 v7, G q (mF q nX12_lift RX12 1) (fir X) 122 [(0, .ref (q.ad 102)), (1, .int v1), (2, .int v2), (3, .int v3), (4, .int v4), (5, .int v5), (6, .int v6), (7, .int v7)] [] X (k122 v1 v2 v3 v4 v5 v6 v7)) : ∀ (w : Nat) (v1 : Int32) (v2 : Int32) (v3 : Int32) (v4 : Int32) (v5 : Int32) (v6 : Int32) (v7 : Int32) (v8 : Int32), G q (mF q nX12_lift RX12 1) (fir X) 84 [(0, .ref (q.ad 102)), (1, .int v1), (2, .int v2), (3, .int v3), (4, .int v4), (5, .int v5), (6, .int v6), (7, .int v7), (8, .int v8)] [] X (mo_lift_L84 n X k122 w v1 v2 v3 v4 v5 v6 v7 v8) := by
  intro w
  induction w with
  | zero => intro v1 v2 v3 v4 v5 v6 v7 v8; exact g_none
  | succ w ih => intro v1 v2 v3 v4 v5 v6 v7 v8; exact mo_lift_L84_Bg q n X k122 hk122 _ ih v1 v2 v3 v4 v5 v6 v7 v8
theorem mo_lift_L35_Bg (q : Th) (n : Nat) (X : St) (k159 : Int32 → Int32 → Int32 → Int32 → Int32 → Option (Int32)) (hk159 : ∀ v1 v2 v3 v4 v5, G q (mF q nX12_lift RX12 1) (fir X) 159 [(0, .ref (q.ad 102)), (1, .int v1), (2, .int v2), (3, .int v3), (4, .int v4), (5, .int v5)] [] X (k159 v1 v2 v3 v4 v5)) (rec : Int32 → Int32 → Int32 → Int32 → Int32 → Int32 → Option (Int32)) (hrec : ∀ v1 v2 v3 v4 v5 v6, G q (mF q nX12_lift RX12 1) (fir X) 35 [(0, .ref (q.ad 102)), (1, .int v1), (2, .int v2), (3, .int v3), (4, .int v4), (5, .int v5), (6, .int v6)] [] X (rec v1 v2 v3 v4 v5 v6)) (v1 : Int32) (v2 : Int32) (v3 : Int32) (v4 : Int32) (v5 : Int32) (v6 : Int32) : G q (mF q nX12_lift RX12 1) (fir X) 35 [(0, .ref (q.ad 102)), (1, .int v1), (2, .int v2), (3, .int v3), (4, .int v4), (5, .int v5), (6, .int v6)] [] X (mo_lift_L35_B n X k159 rec v1 v2 v3 v4 v5 v6) := by
  unfold mo_lift_L35_B
  refine g_iload 6 dX12_lift_35 rfl rfl ?_
  refine g_iconst dX12_lift_37 rfl kic_1 ?_
  refine g_aload_n 0 dX12_lift_38 rfl rfl ?_
  refine g_getI 102 0 rfl dX12_lift_39 rfl kkX12 flX12_125 (by decide) rfl rfl (by decide) rfl ?_
  refine g_ishl dX12_lift_42 rfl ?_
  refine g_icmp_ge dX12_lift_43 rfl rfl ?_ ?_
  · refine g_iload 6 dX12_lift_46 rfl rfl ?_
    refine g_cSIt (As := [.int v6]) (st := []) 1 mF_wg rfl dX12_lift_48 rfl vJ6_bitCount_0f7a4 lkX12_333 (rmL rfl rfl) (jint_bitCount_c q v6 X) rfl rfl (Nat.le_of_ble_eq_true rfl) ?_
    refine g_iconst dX12_lift_51 rfl kic_3 ?_
    refine g_icmp_ne dX12_lift_52 rfl rfl ?_ ?_
    · refine g_iload 6 dX12_lift_55 rfl rfl ?_
      refine g_iload 5 dX12_lift_57 rfl rfl ?_
      refine g_ishr dX12_lift_59 rfl ?_
      refine g_iconst dX12_lift_60 rfl kic_1 ?_
      refine g_iand dX12_lift_61 rfl ?_
      refine g_iconst dX12_lift_62 rfl kic_1 ?_
      refine g_icmp_ne dX12_lift_63 rfl rfl ?_ ?_
      · refine g_goto dX12_lift_66 rfl ?_
        refine g_inc (lv' := [(6, .int (v6 + (1 : Int32))), (0, .ref (q.ad 102)), (1, .int v1), (2, .int v2), (3, .int v3), (4, .int v4), (5, .int v5)]) 6 dX12_lift_153 rfl rfl kic_1 (Nat.le_of_ble_eq_true rfl) rfl ?_
        refine g_goto dX12_lift_156 rfl ?_
        refine g_sub [1, 2, 3, 4, 5, 6, 0] rfl ?_
        exact hrec v1 v2 v3 v4 v5 (v6 + (1 : Int32))
      refine g_bipush dX12_lift_69 rfl kbi_m3 ?_
      refine g_aload_n 0 dX12_lift_71 rfl rfl ?_
      refine g_getR 102 3 105 rfl dX12_lift_72 rfl kkX12 flX12_18 (by decide) rfl rfl (by decide) rfl ?_
      refine g_iload 5 dX12_lift_75 rfl rfl ?_
      refine g_iald dX12_lift_77 rfl (by decide) rfl rfl ?_
      refine g_imul dX12_lift_78 rfl ?_
      refine g_istore (lv' := [(7, .int ((-3 : Int32) * (X.1 105 (nx v5)))), (0, .ref (q.ad 102)), (1, .int v1), (2, .int v2), (3, .int v3), (4, .int v4), (5, .int v5), (6, .int v6)]) dX12_lift_79 rfl (Nat.le_of_ble_eq_true rfl) rfl ?_
      refine g_iconst dX12_lift_81 rfl kic_0 ?_
      refine g_istore (lv' := [(8, .int (0 : Int32)), (7, .int ((-3 : Int32) * (X.1 105 (nx v5)))), (0, .ref (q.ad 102)), (1, .int v1), (2, .int v2), (3, .int v3), (4, .int v4), (5, .int v5), (6, .int v6)]) dX12_lift_82 rfl (Nat.le_of_ble_eq_true rfl) rfl ?_
      refine g_sub [2, 3, 4, 5, 6, 7, 8, 1, 0] rfl ?_
      refine mo_lift_L84_g q n X _ (fun v1 v2 v3 v4 v5 v6 v7 => ?_) n v1 v2 v3 v4 v5 v6 ((-3 : Int32) * (X.1 105 (nx v5))) (0 : Int32)
      refine g_iload 7 dX12_lift_122 rfl rfl ?_
      refine g_if_lt dX12_lift_124 rfl rfl ?_ ?_
      · refine g_inc (lv' := [(6, .int (v6 + (1 : Int32))), (0, .ref (q.ad 102)), (1, .int v1), (2, .int v2), (3, .int v3), (4, .int v4), (5, .int v5), (7, .int v7)]) 6 dX12_lift_153 rfl rfl kic_1 (Nat.le_of_ble_eq_true rfl) rfl ?_
        refine g_goto dX12_lift_156 rfl ?_
        refine g_sub [1, 2, 3, 4, 5, 6, 0] rfl ?_
        exact hrec v1 v2 v3 v4 v5 (v6 + (1 : Int32))
      refine g_iload_n 2 dX12_lift_127 rfl rfl ?_
      refine g_bipush dX12_lift_128 rfl kbi_m2 ?_
      refine g_icmp_eq dX12_lift_130 rfl rfl ?_ ?_
      · refine g_iload 7 dX12_lift_143 rfl rfl ?_
        refine g_istore (lv' := [(4, .int v7), (0, .ref (q.ad 102)), (1, .int v1), (2, .int v2), (3, .int v3), (5, .int v5), (6, .int v6), (7, .int v7)]) dX12_lift_145 rfl (Nat.le_of_ble_eq_true rfl) rfl ?_
        refine g_iload 5 dX12_lift_147 rfl rfl ?_
        refine g_istore_n (lv' := [(2, .int v5), (4, .int v7), (0, .ref (q.ad 102)), (1, .int v1), (3, .int v3), (5, .int v5), (6, .int v6), (7, .int v7)]) dX12_lift_149 rfl rfl (Nat.le_of_ble_eq_true rfl) rfl ?_
        refine g_iload 6 dX12_lift_150 rfl rfl ?_
        refine g_istore_n (lv' := [(3, .int v6), (2, .int v5), (4, .int v7), (0, .ref (q.ad 102)), (1, .int v1), (5, .int v5), (6, .int v6), (7, .int v7)]) dX12_lift_152 rfl rfl (Nat.le_of_ble_eq_true rfl) rfl ?_
        refine g_inc (lv' := [(6, .int (v6 + (1 : Int32))), (3, .int v6), (2, .int v5), (4, .int v7), (0, .ref (q.ad 102)), (1, .int v1), (5, .int v5), (7, .int v7)]) 6 dX12_lift_153 rfl rfl kic_1 (Nat.le_of_ble_eq_true rfl) rfl ?_
        refine g_goto dX12_lift_156 rfl ?_
        refine g_sub [4, 5, 2, 1, 3, 6, 0] rfl ?_
        exact hrec v1 v5 v6 v7 v5 (v6 + (1 : Int32))
      refine g_iload 7 dX12_lift_133 rfl rfl ?_
      refine g_iload 4 dX12_lift_135 rfl rfl ?_
      refine g_icmp_lt dX12_lift_137 rfl rfl ?_ ?_
      · refine g_iload 7 dX12_lift_143 rfl rfl ?_
        refine g_istore (lv' := [(4, .int v7), (0, .ref (q.ad 102)), (1, .int v1), (2, .int v2), (3, .int v3), (5, .int v5), (6, .int v6), (7, .int v7)]) dX12_lift_145 rfl (Nat.le_of_ble_eq_true rfl) rfl ?_
        refine g_iload 5 dX12_lift_147 rfl rfl ?_
        refine g_istore_n (lv' := [(2, .int v5), (4, .int v7), (0, .ref (q.ad 102)), (1, .int v1), (3, .int v3), (5, .int v5), (6, .int v6), (7, .int v7)]) dX12_lift_149 rfl rfl (Nat.le_of_ble_eq_true rfl) rfl ?_
        refine g_iload 6 dX12_lift_150 rfl rfl ?_
        refine g_istore_n (lv' := [(3, .int v6), (2, .int v5), (4, .int v7), (0, .ref (q.ad 102)), (1, .int v1), (5, .int v5), (6, .int v6), (7, .int v7)]) dX12_lift_152 rfl rfl (Nat.le_of_ble_eq_true rfl) rfl ?_
        refine g_inc (lv' := [(6, .int (v6 + (1 : Int32))), (3, .int v6), (2, .int v5), (4, .int v7), (0, .ref (q.ad 102)), (1, .int v1), (5, .int v5), (7, .int v7)]) 6 dX12_lift_153 rfl rfl kic_1 (Nat.le_of_ble_eq_true rfl) rfl ?_
        refine g_goto dX12_lift_156 rfl ?_
        refine g_sub [4, 5, 2, 1, 3, 6, 0] rfl ?_
        exact hrec v1 v5 v6 v7 v5 (v6 + (1 : Int32))
      refine g_goto dX12_lift_140 rfl ?_
      refine g_inc (lv' := [(6, .int (v6 + (1 : Int32))), (0, .ref (q.ad 102)), (1, .int v1), (2, .int v2), (3, .int v3), (4, .int v4), (5, .int v5), (7, .int v7)]) 6 dX12_lift_153 rfl rfl kic_1 (Nat.le_of_ble_eq_true rfl) rfl ?_
      refine g_goto dX12_lift_156 rfl ?_
      refine g_sub [1, 2, 3, 4, 5, 6, 0] rfl ?_
      exact hrec v1 v2 v3 v4 v5 (v6 + (1 : Int32))
    refine g_inc (lv' := [(6, .int (v6 + (1 : Int32))), (0, .ref (q.ad 102)), (1, .int v1), (2, .int v2), (3, .int v3), (4, .int v4), (5, .int v5)]) 6 dX12_lift_153 rfl rfl kic_1 (Nat.le_of_ble_eq_true rfl) rfl ?_
    refine g_goto dX12_lift_156 rfl ?_
    refine g_sub [1, 2, 3, 4, 5, 6, 0] rfl ?_
    exact hrec v1 v2 v3 v4 v5 (v6 + (1 : Int32))
  refine g_sub [0, 1, 2, 3, 4, 5] rfl ?_
  exact hk159 v1 v2 v3 v4 v5
theorem mo_lift_L35_g (q : Th) (n : Nat) (X : St) (k159 : Int32 → Int32 → Int32 → Int32 → Int32 → Option (Int32)) (hk159 : ∀ v1 v2 v3 v4 v5, G q (mF q nX12_lift RX12 1) (fir X) 159 [(0, .ref (q.ad 102)), (1, .int v1), (2, .int v2), (3, .int v3), (4, .int v4), (5, .int v5)] [] X (k159 v1 v2 v3 v4 v5)) : ∀ (w : Nat) (v1 : Int32) (v2 : Int32) (v3 : Int32) (v4 : Int32) (v5 : Int32) (v6 : Int32), G q (mF q nX12_lift RX12 1) (fir X) 35 [(0, .ref (q.ad 102)), (1, .int v1), (2, .int v2), (3, .int v3), (4, .int v4), (5, .int v5), (6, .int v6)] [] X (mo_lift_L35 n X k159 w v1 v2 v3 v4 v5 v6) := by
  intro w
  induction w with
  | zero => intro v1 v2 v3 v4 v5 v6; exact g_none
  | succ w ih => intro v1 v2 v3 v4 v5 v6; exact mo_lift_L35_Bg q n X k159 hk159 _ ih v1 v2 v3 v4 v5 v6
theorem mo_lift_L23_Bg (q : Th) (n : Nat) (X : St) (rec : Int32 → Int32 → Int32 → Int32 → Int32 → Option (Int32)) (hrec : ∀ v1 v2 v3 v4 v5, G q (mF q nX12_lift RX12 1) (fir X) 23 [(0, .ref (q.ad 102)), (1, .int v1), (2, .int v2), (3, .int v3), (4, .int v4), (5, .int v5)] [] X (rec v1 v2 v3 v4 v5)) (v1 : Int32) (v2 : Int32) (v3 : Int32) (v4 : Int32) (v5 : Int32) : G q (mF q nX12_lift RX12 1) (fir X) 23 [(0, .ref (q.ad 102)), (1, .int v1), (2, .int v2), (3, .int v3), (4, .int v4), (5, .int v5)] [] X (mo_lift_L23_B n X rec v1 v2 v3 v4 v5) := by
  unfold mo_lift_L23_B
  refine g_iload 5 dX12_lift_23 rfl rfl ?_
  refine g_aload_n 0 dX12_lift_25 rfl rfl ?_
  refine g_getI 102 0 rfl dX12_lift_26 rfl kkX12 flX12_125 (by decide) rfl rfl (by decide) rfl ?_
  refine g_icmp_ge dX12_lift_29 rfl rfl ?_ ?_
  · refine g_iconst dX12_lift_32 rfl kic_0 ?_
    refine g_istore (lv' := [(6, .int (0 : Int32)), (0, .ref (q.ad 102)), (1, .int v1), (2, .int v2), (3, .int v3), (4, .int v4), (5, .int v5)]) dX12_lift_33 rfl (Nat.le_of_ble_eq_true rfl) rfl ?_
    refine g_sub [1, 2, 3, 4, 5, 6, 0] rfl ?_
    refine mo_lift_L35_g q n X _ (fun v8 v9 v10 v11 v12 => ?_) n v1 v2 v3 v4 v5 (0 : Int32)
    refine g_inc (lv' := [(5, .int (v12 + (1 : Int32))), (0, .ref (q.ad 102)), (1, .int v8), (2, .int v9), (3, .int v10), (4, .int v11)]) 5 dX12_lift_159 rfl rfl kic_1 (Nat.le_of_ble_eq_true rfl) rfl ?_
    refine g_goto dX12_lift_162 rfl ?_
    refine g_sub [1, 2, 3, 4, 5, 0] rfl ?_
    exact hrec v8 v9 v10 v11 (v12 + (1 : Int32))
  refine g_iload_n 1 dX12_lift_165 rfl rfl ?_
  refine g_if_ne dX12_lift_166 rfl rfl ?_ ?_
  · refine g_iload_n 2 dX12_lift_169 rfl rfl ?_
    refine g_goto dX12_lift_170 rfl ?_
    exact g_iret dX12_lift_174 rfl rfl
  refine g_iload_n 3 dX12_lift_173 rfl rfl ?_
  exact g_iret dX12_lift_174 rfl rfl
theorem mo_lift_L23_g (q : Th) (n : Nat) (X : St) : ∀ (w : Nat) (v1 : Int32) (v2 : Int32) (v3 : Int32) (v4 : Int32) (v5 : Int32), G q (mF q nX12_lift RX12 1) (fir X) 23 [(0, .ref (q.ad 102)), (1, .int v1), (2, .int v2), (3, .int v3), (4, .int v4), (5, .int v5)] [] X (mo_lift_L23 n X w v1 v2 v3 v4 v5) := by
  intro w
  induction w with
  | zero => intro v1 v2 v3 v4 v5; exact g_none
  | succ w ih => intro v1 v2 v3 v4 v5; exact mo_lift_L23_Bg q n X _ ih v1 v2 v3 v4 v5
theorem mo_lift_c (q : Th) (n : Nat) (v1 : Int32) (X : St) : Ct q nX12_lift 1 (fir X) [.ref (q.ad 102), .int v1] X (mo_lift n v1 X) := by
  refine ct_of (by decide +kernel) (Nat.le_of_ble_eq_true rfl) ?_
  unfold mo_lift
  show G q _ _ 0 [(0, .ref (q.ad 102)), (1, .int v1)] [] X _
  refine g_iload_n 1 dX12_lift_0 rfl rfl ?_
  refine g_iconst dX12_lift_1 rfl kic_0 ?_
  refine g_iconst dX12_lift_2 rfl kic_1 ?_
  refine g_cSIt (As := [.int v1, .int (0 : Int32), .int (1 : Int32)]) (st := []) 3 mF_wg rfl dX12_lift_3 rfl vX12_within lkX12_128 (rmL rfl rfl) (mo_within_c q v1 (0 : Int32) (1 : Int32) X) rfl rfl (Nat.le_of_ble_eq_true rfl) ?_
  refine g_if_ne dX12_lift_6 rfl rfl ?_ ?_
  · refine g_iconst dX12_lift_9 rfl kic_m1 ?_
    exact g_iret dX12_lift_10 rfl rfl
  refine g_bipush dX12_lift_11 rfl kbi_m2 ?_
  refine g_istore_n (lv' := [(2, .int (-2 : Int32)), (0, .ref (q.ad 102)), (1, .int v1)]) dX12_lift_13 rfl rfl (Nat.le_of_ble_eq_true rfl) rfl ?_
  refine g_bipush dX12_lift_14 rfl kbi_m2 ?_
  refine g_istore_n (lv' := [(3, .int (-2 : Int32)), (2, .int (-2 : Int32)), (0, .ref (q.ad 102)), (1, .int v1)]) dX12_lift_16 rfl rfl (Nat.le_of_ble_eq_true rfl) rfl ?_
  refine g_iconst dX12_lift_17 rfl kic_0 ?_
  refine g_istore (lv' := [(4, .int (0 : Int32)), (3, .int (-2 : Int32)), (2, .int (-2 : Int32)), (0, .ref (q.ad 102)), (1, .int v1)]) dX12_lift_18 rfl (Nat.le_of_ble_eq_true rfl) rfl ?_
  refine g_iconst dX12_lift_20 rfl kic_0 ?_
  refine g_istore (lv' := [(5, .int (0 : Int32)), (4, .int (0 : Int32)), (3, .int (-2 : Int32)), (2, .int (-2 : Int32)), (0, .ref (q.ad 102)), (1, .int v1)]) dX12_lift_21 rfl (Nat.le_of_ble_eq_true rfl) rfl ?_
  refine g_sub [4, 5, 3, 2, 1, 0] rfl ?_
  refine mo_lift_L23_g q n X n v1 (-2 : Int32) (-2 : Int32) (0 : Int32) (0 : Int32)
def mo_span_L11_B (n : Nat) (X : St) (rec : Nat → Int32 → Int32 → Int32 → Int32 → Option (Int32)) (r0 : Nat) (v1 : Int32) (v2 : Int32) (v3 : Int32) (v4 : Int32) : Option (Int32) :=
(if v4 < v1 then
(if okI r0 v4 then
(if okI r0 v4 then
(rec r0 v1 (jmath_min v2 (X.1 r0 (nx v4))) (jmath_max v3 (X.1 r0 (nx v4))) (v4 + (1 : Int32))) else none) else none)
else
(some ((v3 - v2) + (1 : Int32))))
def mo_span_L11 (n : Nat) (X : St) : Nat → Nat → Int32 → Int32 → Int32 → Int32 → Option (Int32)
  | 0 => fun _ _ _ _ _ => none
  | w + 1 => mo_span_L11_B n X (mo_span_L11 n X w)
def mo_span (n : Nat) (r0 : Nat) (v1 : Int32) (X : St) : Option (Int32) :=
  (if okI r0 (0 : Int32) then
  (if okI r0 (0 : Int32) then
  (mo_span_L11 n X n r0 v1 (X.1 r0 (nx (0 : Int32))) (X.1 r0 (nx (0 : Int32))) (1 : Int32)) else none) else none)
theorem mo_span_L11_Bg (q : Th) (n : Nat) (X : St) (rec : Nat → Int32 → Int32 → Int32 → Int32 → Option (Int32)) (hrec : ∀ r0 v1 v2 v3 v4, G q (mF q nX12_span RX12 1) (fir X) 11 [(0, .ref (q.ad r0)), (1, .int v1), (2, .int v2), (3, .int v3), (4, .int v4)] [] X (rec r0 v1 v2 v3 v4)) (r0 : Nat) (v1 : Int32) (v2 : Int32) (v3 : Int32) (v4 : Int32) : G q (mF q nX12_span RX12 1) (fir X) 11 [(0, .ref (q.ad r0)), (1, .int v1), (2, .int v2), (3, .int v3), (4, .int v4)] [] X (mo_span_L11_B n X rec r0 v1 v2 v3 v4) := by
  unfold mo_span_L11_B
  refine g_iload 4 dX12_span_11 rfl rfl ?_
  refine g_iload_n 1 dX12_span_13 rfl rfl ?_
  refine g_icmp_ge dX12_span_14 rfl rfl ?_ ?_
  · refine g_iload_n 2 dX12_span_17 rfl rfl ?_
    refine g_aload_n 0 dX12_span_18 rfl rfl ?_
    refine g_iload 4 dX12_span_19 rfl rfl ?_
    refine g_ialdD dX12_span_21 rfl ?_
    refine g_mmin (st := []) rfl dX12_span_22 rfl lkX12_232 (rmL rfl rfl) (Nat.le_of_ble_eq_true rfl) ?_
    refine g_istore_n (lv' := [(2, .int (jmath_min v2 (X.1 r0 (nx v4)))), (0, .ref (q.ad r0)), (1, .int v1), (3, .int v3), (4, .int v4)]) dX12_span_25 rfl rfl (Nat.le_of_ble_eq_true rfl) rfl ?_
    refine g_iload_n 3 dX12_span_26 rfl rfl ?_
    refine g_aload_n 1 dX12_span_27 rfl rfl ?_
    refine g_iload 4 dX12_span_28 rfl rfl ?_
    refine g_ialdD dX12_span_30 rfl ?_
    refine g_mmax (st := []) rfl dX12_span_31 rfl lkX12_243 (rmL rfl rfl) (Nat.le_of_ble_eq_true rfl) ?_
    refine g_istore_n (lv' := [(3, .int (jmath_max v3 (X.1 r0 (nx v4)))), (2, .int (jmath_min v2 (X.1 r0 (nx v4)))), (0, .ref (q.ad r0)), (1, .int v1), (4, .int v4)]) dX12_span_34 rfl rfl (Nat.le_of_ble_eq_true rfl) rfl ?_
    refine g_inc (lv' := [(4, .int (v4 + (1 : Int32))), (3, .int (jmath_max v3 (X.1 r0 (nx v4)))), (2, .int (jmath_min v2 (X.1 r0 (nx v4)))), (0, .ref (q.ad r0)), (1, .int v1)]) 4 dX12_span_35 rfl rfl kic_1 (Nat.le_of_ble_eq_true rfl) rfl ?_
    refine g_goto dX12_span_38 rfl ?_
    refine g_sub [3, 4, 2, 1, 0] rfl ?_
    exact hrec r0 v1 (jmath_min v2 (X.1 r0 (nx v4))) (jmath_max v3 (X.1 r0 (nx v4))) (v4 + (1 : Int32))
  refine g_iload_n 3 dX12_span_41 rfl rfl ?_
  refine g_iload_n 2 dX12_span_42 rfl rfl ?_
  refine g_isub dX12_span_43 rfl ?_
  refine g_iconst dX12_span_44 rfl kic_1 ?_
  refine g_iadd dX12_span_45 rfl ?_
  exact g_iret dX12_span_46 rfl rfl
theorem mo_span_L11_g (q : Th) (n : Nat) (X : St) : ∀ (w : Nat) (r0 : Nat) (v1 : Int32) (v2 : Int32) (v3 : Int32) (v4 : Int32), G q (mF q nX12_span RX12 1) (fir X) 11 [(0, .ref (q.ad r0)), (1, .int v1), (2, .int v2), (3, .int v3), (4, .int v4)] [] X (mo_span_L11 n X w r0 v1 v2 v3 v4) := by
  intro w
  induction w with
  | zero => intro r0 v1 v2 v3 v4; exact g_none
  | succ w ih => intro r0 v1 v2 v3 v4; exact mo_span_L11_Bg q n X _ ih r0 v1 v2 v3 v4
theorem mo_span_c (q : Th) (n : Nat) (r0 : Nat) (v1 : Int32) (X : St) : Ct q nX12_span 1 (fir X) [.ref (q.ad r0), .int v1] X (mo_span n r0 v1 X) := by
  refine ct_of (by decide +kernel) (Nat.le_of_ble_eq_true rfl) ?_
  unfold mo_span
  show G q _ _ 0 [(0, .ref (q.ad r0)), (1, .int v1)] [] X _
  refine g_aload_n 0 dX12_span_0 rfl rfl ?_
  refine g_iconst dX12_span_1 rfl kic_0 ?_
  refine g_ialdD dX12_span_2 rfl ?_
  refine g_istore_n (lv' := [(2, .int (X.1 r0 (nx (0 : Int32)))), (0, .ref (q.ad r0)), (1, .int v1)]) dX12_span_3 rfl rfl (Nat.le_of_ble_eq_true rfl) rfl ?_
  refine g_aload_n 1 dX12_span_4 rfl rfl ?_
  refine g_iconst dX12_span_5 rfl kic_0 ?_
  refine g_ialdD dX12_span_6 rfl ?_
  refine g_istore_n (lv' := [(3, .int (X.1 r0 (nx (0 : Int32)))), (2, .int (X.1 r0 (nx (0 : Int32)))), (0, .ref (q.ad r0)), (1, .int v1)]) dX12_span_7 rfl rfl (Nat.le_of_ble_eq_true rfl) rfl ?_
  refine g_iconst dX12_span_8 rfl kic_1 ?_
  refine g_istore (lv' := [(4, .int (1 : Int32)), (3, .int (X.1 r0 (nx (0 : Int32)))), (2, .int (X.1 r0 (nx (0 : Int32)))), (0, .ref (q.ad r0)), (1, .int v1)]) dX12_span_9 rfl (Nat.le_of_ble_eq_true rfl) rfl ?_
  refine g_sub [3, 4, 2, 1, 0] rfl ?_
  refine mo_span_L11_g q n X n r0 v1 (X.1 r0 (nx (0 : Int32))) (X.1 r0 (nx (0 : Int32))) (1 : Int32)
def mo_isAt_L3_B (n : Nat) (X : St) (rec : Int32 → Int32 → Int32 → Int32 → Option (Int32)) (v1 : Int32) (v2 : Int32) (v3 : Int32) (v4 : Int32) : Option (Int32) :=
(if v4 < (X.1 102 0) then
(if v4 = v3 then
(rec v1 v2 v3 (v4 + (1 : Int32)))
else
(if inB v4 8 then
(if (X.1 103 (nx v4)) = v1 then
(if inB v4 8 then
(if (X.1 104 (nx v4)) = v2 then
(some (1 : Int32))
else
(rec v1 v2 v3 (v4 + (1 : Int32)))) else none)
else
(rec v1 v2 v3 (v4 + (1 : Int32)))) else none))
else
(some (0 : Int32)))
def mo_isAt_L3 (n : Nat) (X : St) : Nat → Int32 → Int32 → Int32 → Int32 → Option (Int32)
  | 0 => fun _ _ _ _ => none
  | w + 1 => mo_isAt_L3_B n X (mo_isAt_L3 n X w)
def mo_isAt (n : Nat) (v1 : Int32) (v2 : Int32) (v3 : Int32) (X : St) : Option (Int32) :=
  (mo_isAt_L3 n X n v1 v2 v3 (0 : Int32))
theorem mo_isAt_L3_Bg (q : Th) (n : Nat) (X : St) (rec : Int32 → Int32 → Int32 → Int32 → Option (Int32)) (hrec : ∀ v1 v2 v3 v4, G q (mF q nX12_isAt RX12 0) (fir X) 3 [(0, .ref (q.ad 102)), (1, .int v1), (2, .int v2), (3, .int v3), (4, .int v4)] [] X (rec v1 v2 v3 v4)) (v1 : Int32) (v2 : Int32) (v3 : Int32) (v4 : Int32) : G q (mF q nX12_isAt RX12 0) (fir X) 3 [(0, .ref (q.ad 102)), (1, .int v1), (2, .int v2), (3, .int v3), (4, .int v4)] [] X (mo_isAt_L3_B n X rec v1 v2 v3 v4) := by
  unfold mo_isAt_L3_B
  refine g_iload 4 dX12_isAt_3 rfl rfl ?_
  refine g_aload_n 0 dX12_isAt_5 rfl rfl ?_
  refine g_getI 102 0 rfl dX12_isAt_6 rfl kkX12 flX12_125 (by decide) rfl rfl (by decide) rfl ?_
  refine g_icmp_ge dX12_isAt_9 rfl rfl ?_ ?_
  · refine g_iload 4 dX12_isAt_12 rfl rfl ?_
    refine g_iload_n 3 dX12_isAt_14 rfl rfl ?_
    refine g_icmp_eq dX12_isAt_15 rfl rfl ?_ ?_
    · refine g_inc (lv' := [(4, .int (v4 + (1 : Int32))), (0, .ref (q.ad 102)), (1, .int v1), (2, .int v2), (3, .int v3)]) 4 dX12_isAt_42 rfl rfl kic_1 (Nat.le_of_ble_eq_true rfl) rfl ?_
      refine g_goto dX12_isAt_45 rfl ?_
      refine g_sub [1, 2, 3, 4, 0] rfl ?_
      exact hrec v1 v2 v3 (v4 + (1 : Int32))
    refine g_aload_n 0 dX12_isAt_18 rfl rfl ?_
    refine g_getR 102 1 103 rfl dX12_isAt_19 rfl kkX12 flX12_9 (by decide) rfl rfl (by decide) rfl ?_
    refine g_iload 4 dX12_isAt_22 rfl rfl ?_
    refine g_iald dX12_isAt_24 rfl (by decide) rfl rfl ?_
    refine g_iload_n 1 dX12_isAt_25 rfl rfl ?_
    refine g_icmp_ne dX12_isAt_26 rfl rfl ?_ ?_
    · refine g_aload_n 0 dX12_isAt_29 rfl rfl ?_
      refine g_getR 102 2 104 rfl dX12_isAt_30 rfl kkX12 flX12_15 (by decide) rfl rfl (by decide) rfl ?_
      refine g_iload 4 dX12_isAt_33 rfl rfl ?_
      refine g_iald dX12_isAt_35 rfl (by decide) rfl rfl ?_
      refine g_iload_n 2 dX12_isAt_36 rfl rfl ?_
      refine g_icmp_ne dX12_isAt_37 rfl rfl ?_ ?_
      · refine g_iconst dX12_isAt_40 rfl kic_1 ?_
        exact g_zret dX12_isAt_41 rfl rfl rfl
      refine g_inc (lv' := [(4, .int (v4 + (1 : Int32))), (0, .ref (q.ad 102)), (1, .int v1), (2, .int v2), (3, .int v3)]) 4 dX12_isAt_42 rfl rfl kic_1 (Nat.le_of_ble_eq_true rfl) rfl ?_
      refine g_goto dX12_isAt_45 rfl ?_
      refine g_sub [1, 2, 3, 4, 0] rfl ?_
      exact hrec v1 v2 v3 (v4 + (1 : Int32))
    refine g_inc (lv' := [(4, .int (v4 + (1 : Int32))), (0, .ref (q.ad 102)), (1, .int v1), (2, .int v2), (3, .int v3)]) 4 dX12_isAt_42 rfl rfl kic_1 (Nat.le_of_ble_eq_true rfl) rfl ?_
    refine g_goto dX12_isAt_45 rfl ?_
    refine g_sub [1, 2, 3, 4, 0] rfl ?_
    exact hrec v1 v2 v3 (v4 + (1 : Int32))
  refine g_iconst dX12_isAt_48 rfl kic_0 ?_
  exact g_zret dX12_isAt_49 rfl rfl rfl
theorem mo_isAt_L3_g (q : Th) (n : Nat) (X : St) : ∀ (w : Nat) (v1 : Int32) (v2 : Int32) (v3 : Int32) (v4 : Int32), G q (mF q nX12_isAt RX12 0) (fir X) 3 [(0, .ref (q.ad 102)), (1, .int v1), (2, .int v2), (3, .int v3), (4, .int v4)] [] X (mo_isAt_L3 n X w v1 v2 v3 v4) := by
  intro w
  induction w with
  | zero => intro v1 v2 v3 v4; exact g_none
  | succ w ih => intro v1 v2 v3 v4; exact mo_isAt_L3_Bg q n X _ ih v1 v2 v3 v4
theorem mo_isAt_c (q : Th) (n : Nat) (v1 : Int32) (v2 : Int32) (v3 : Int32) (X : St) : Ct q nX12_isAt 0 (fir X) [.ref (q.ad 102), .int v1, .int v2, .int v3] X (mo_isAt n v1 v2 v3 X) := by
  refine ct_of (by decide +kernel) (Nat.le_of_ble_eq_true rfl) ?_
  unfold mo_isAt
  show G q _ _ 0 [(0, .ref (q.ad 102)), (1, .int v1), (2, .int v2), (3, .int v3)] [] X _
  refine g_iconst dX12_isAt_0 rfl kic_0 ?_
  refine g_istore (lv' := [(4, .int (0 : Int32)), (0, .ref (q.ad 102)), (1, .int v1), (2, .int v2), (3, .int v3)]) dX12_isAt_1 rfl (Nat.le_of_ble_eq_true rfl) rfl ?_
  refine g_sub [1, 2, 3, 4, 0] rfl ?_
  refine mo_isAt_L3_g q n X n v1 v2 v3 (0 : Int32)
def mo_star_J98 (n : Nat) (X : St) (k59 : Int32 → Int32 → Int32 → Int32 → Option (Int32)) (v1 : Int32) (v2 : Int32) (v3 : Int32) (v4 : Int32) : Option (Int32) :=
(if inB v4 8 then
(if inB v4 8 then
((mo_isAt n ((15 : Int32) - (X.1 103 (nx v4))) (X.1 104 (nx v4)) (-2 : Int32) X).bind fun c4 =>
(if c4 = 0 then
(k59 v1 v2 (0 : Int32) (v4 + (1 : Int32)))
else
(k59 v1 v2 v3 (v4 + (1 : Int32))))) else none) else none)
def mo_star_L59_B (n : Nat) (X : St) (k132 : Int32 → Int32 → Int32 → Option (Int32)) (rec : Int32 → Int32 → Int32 → Int32 → Option (Int32)) (v1 : Int32) (v2 : Int32) (v3 : Int32) (v4 : Int32) : Option (Int32) :=
(if v4 < (X.1 102 0) then
(if inB v4 8 then
(if inB v4 8 then
((mo_isAt n (X.1 103 (nx v4)) (X.1 104 (nx v4)) v4 X).bind fun c3 =>
(if c3 = 0 then
(mo_star_J98 n X rec v1 v2 v3 v4)
else
((some (v2 ||| ((1 : Int32) <<< (v4 &&& 31)))).bind fun t5 =>
(mo_star_J98 n X rec v1 t5 v3 v4)))) else none) else none)
else
(k132 v1 v2 v3))
def mo_star_L59 (n : Nat) (X : St) (k132 : Int32 → Int32 → Int32 → Option (Int32)) : Nat → Int32 → Int32 → Int32 → Int32 → Option (Int32)
  | 0 => fun _ _ _ _ => none
  | w + 1 => mo_star_L59_B n X k132 (mo_star_L59 n X k132 w)
def mo_star (n : Nat) (v1 : Int32) (X : St) : Option (Int32) :=
  (if (mo_within v1 (0 : Int32) (2 : Int32)) = 0 then
  (some (-1 : Int32))
  else
  (if v1 = 0 then
  (if (X.1 102 0) = 0 then
  (some (0 : Int32))
  else
  ((mo_span n 103 (X.1 102 0) X).bind fun c1 =>
  ((mo_span n 104 (X.1 102 0) X).bind fun c2 =>
  (some (jmath_max c1 c2)))))
  else
  (mo_star_L59 n X (fun v6 v7 v8 =>
  (if v6 = (1 : Int32) then
  (some v7)
  else
  (if v8 = 0 then
  (some (0 : Int32))
  else
  (some (1 : Int32))))) n v1 (0 : Int32) (1 : Int32) (0 : Int32))))
theorem mo_star_J98_g (q : Th) (n : Nat) (X : St) (k59 : Int32 → Int32 → Int32 → Int32 → Option (Int32)) (hk59 : ∀ v1 v2 v3 v4, G q (mF q nX12_star RX12 2) (fir X) 59 [(0, .ref (q.ad 102)), (1, .int v1), (2, .int v2), (3, .int v3), (4, .int v4)] [] X (k59 v1 v2 v3 v4)) (v1 : Int32) (v2 : Int32) (v3 : Int32) (v4 : Int32) : G q (mF q nX12_star RX12 2) (fir X) 98 [(0, .ref (q.ad 102)), (1, .int v1), (2, .int v2), (3, .int v3), (4, .int v4)] [] X (mo_star_J98 n X k59 v1 v2 v3 v4) := by
  unfold mo_star_J98
  refine g_aload_n 0 dX12_star_98 rfl rfl ?_
  refine g_bipush dX12_star_99 rfl kbi_15 ?_
  refine g_aload_n 0 dX12_star_101 rfl rfl ?_
  refine g_getR 102 1 103 rfl dX12_star_102 rfl kkX12 flX12_9 (by decide) rfl rfl (by decide) rfl ?_
  refine g_iload 4 dX12_star_105 rfl rfl ?_
  refine g_iald dX12_star_107 rfl (by decide) rfl rfl ?_
  refine g_isub dX12_star_108 rfl ?_
  refine g_aload_n 0 dX12_star_109 rfl rfl ?_
  refine g_getR 102 2 104 rfl dX12_star_110 rfl kkX12 flX12_15 (by decide) rfl rfl (by decide) rfl ?_
  refine g_iload 4 dX12_star_113 rfl rfl ?_
  refine g_iald dX12_star_115 rfl (by decide) rfl rfl ?_
  refine g_bipush dX12_star_116 rfl kbi_m2 ?_
  refine g_cVIr (As := [.int ((15 : Int32) - (X.1 103 (nx v4))), .int (X.1 104 (nx v4)), .int (-2 : Int32)]) (st := []) 3 mF_wg rfl dX12_star_118 rfl kkX12 (by decide) rfl vX12_isAt lkX12_342 (rmL rfl rfl) (mo_isAt_c q n ((15 : Int32) - (X.1 103 (nx v4))) (X.1 104 (nx v4)) (-2 : Int32) X) rfl rfl (Nat.le_of_ble_eq_true rfl) (fun c4 => ?_)
  refine g_if_ne dX12_star_121 rfl rfl ?_ ?_
  · refine g_iconst dX12_star_124 rfl kic_0 ?_
    refine g_istore_n (lv' := [(3, .int (0 : Int32)), (0, .ref (q.ad 102)), (1, .int v1), (2, .int v2), (4, .int v4)]) dX12_star_125 rfl rfl (Nat.le_of_ble_eq_true rfl) rfl ?_
    refine g_inc (lv' := [(4, .int (v4 + (1 : Int32))), (3, .int (0 : Int32)), (0, .ref (q.ad 102)), (1, .int v1), (2, .int v2)]) 4 dX12_star_126 rfl rfl kic_1 (Nat.le_of_ble_eq_true rfl) rfl ?_
    refine g_goto dX12_star_129 rfl ?_
    refine g_sub [2, 3, 4, 1, 0] rfl ?_
    exact hk59 v1 v2 (0 : Int32) (v4 + (1 : Int32))
  refine g_inc (lv' := [(4, .int (v4 + (1 : Int32))), (0, .ref (q.ad 102)), (1, .int v1), (2, .int v2), (3, .int v3)]) 4 dX12_star_126 rfl rfl kic_1 (Nat.le_of_ble_eq_true rfl) rfl ?_
  refine g_goto dX12_star_129 rfl ?_
  refine g_sub [1, 2, 3, 4, 0] rfl ?_
  exact hk59 v1 v2 v3 (v4 + (1 : Int32))
theorem mo_star_L59_Bg (q : Th) (n : Nat) (X : St) (k132 : Int32 → Int32 → Int32 → Option (Int32)) (hk132 : ∀ v1 v2 v3, G q (mF q nX12_star RX12 2) (fir X) 132 [(1, .int v1), (2, .int v2), (3, .int v3)] [] X (k132 v1 v2 v3)) (rec : Int32 → Int32 → Int32 → Int32 → Option (Int32)) (hrec : ∀ v1 v2 v3 v4, G q (mF q nX12_star RX12 2) (fir X) 59 [(0, .ref (q.ad 102)), (1, .int v1), (2, .int v2), (3, .int v3), (4, .int v4)] [] X (rec v1 v2 v3 v4)) (v1 : Int32) (v2 : Int32) (v3 : Int32) (v4 : Int32) : G q (mF q nX12_star RX12 2) (fir X) 59 [(0, .ref (q.ad 102)), (1, .int v1), (2, .int v2), (3, .int v3), (4, .int v4)] [] X (mo_star_L59_B n X k132 rec v1 v2 v3 v4) := by
  unfold mo_star_L59_B
  refine g_iload 4 dX12_star_59 rfl rfl ?_
  refine g_aload_n 0 dX12_star_61 rfl rfl ?_
  refine g_getI 102 0 rfl dX12_star_62 rfl kkX12 flX12_125 (by decide) rfl rfl (by decide) rfl ?_
  refine g_icmp_ge dX12_star_65 rfl rfl ?_ ?_
  · refine g_aload_n 0 dX12_star_68 rfl rfl ?_
    refine g_aload_n 0 dX12_star_69 rfl rfl ?_
    refine g_getR 102 1 103 rfl dX12_star_70 rfl kkX12 flX12_9 (by decide) rfl rfl (by decide) rfl ?_
    refine g_iload 4 dX12_star_73 rfl rfl ?_
    refine g_iald dX12_star_75 rfl (by decide) rfl rfl ?_
    refine g_aload_n 0 dX12_star_76 rfl rfl ?_
    refine g_getR 102 2 104 rfl dX12_star_77 rfl kkX12 flX12_15 (by decide) rfl rfl (by decide) rfl ?_
    refine g_iload 4 dX12_star_80 rfl rfl ?_
    refine g_iald dX12_star_82 rfl (by decide) rfl rfl ?_
    refine g_iload 4 dX12_star_83 rfl rfl ?_
    refine g_cVIr (As := [.int (X.1 103 (nx v4)), .int (X.1 104 (nx v4)), .int v4]) (st := []) 3 mF_wg rfl dX12_star_85 rfl kkX12 (by decide) rfl vX12_isAt lkX12_342 (rmL rfl rfl) (mo_isAt_c q n (X.1 103 (nx v4)) (X.1 104 (nx v4)) v4 X) rfl rfl (Nat.le_of_ble_eq_true rfl) (fun c3 => ?_)
    refine g_if_eq dX12_star_88 rfl rfl ?_ ?_
    · refine g_sub [0, 1, 2, 3, 4] rfl ?_
      exact mo_star_J98_g q n X _ hrec v1 v2 v3 v4
    refine g_iload_n 2 dX12_star_91 rfl rfl ?_
    refine g_iconst dX12_star_92 rfl kic_1 ?_
    refine g_iload 4 dX12_star_93 rfl rfl ?_
    refine g_ishl dX12_star_95 rfl ?_
    refine g_ior dX12_star_96 rfl ?_
    refine g_nmI (fun t5 => ?_)
    refine g_istore_n (lv' := [(2, .int t5), (0, .ref (q.ad 102)), (1, .int v1), (3, .int v3), (4, .int v4)]) dX12_star_97 rfl rfl (Nat.le_of_ble_eq_true rfl) rfl ?_
    refine g_sub [1, 2, 0, 3, 4] rfl ?_
    exact mo_star_J98_g q n X _ hrec v1 t5 v3 v4
  refine g_sub [1, 2, 3] rfl ?_
  exact hk132 v1 v2 v3
theorem mo_star_L59_g (q : Th) (n : Nat) (X : St) (k132 : Int32 → Int32 → Int32 → Option (Int32)) (hk132 : ∀ v1 v2 v3, G q (mF q nX12_star RX12 2) (fir X) 132 [(1, .int v1), (2, .int v2), (3, .int v3)] [] X (k132 v1 v2 v3)) : ∀ (w : Nat) (v1 : Int32) (v2 : Int32) (v3 : Int32) (v4 : Int32), G q (mF q nX12_star RX12 2) (fir X) 59 [(0, .ref (q.ad 102)), (1, .int v1), (2, .int v2), (3, .int v3), (4, .int v4)] [] X (mo_star_L59 n X k132 w v1 v2 v3 v4) := by
  intro w
  induction w with
  | zero => intro v1 v2 v3 v4; exact g_none
  | succ w ih => intro v1 v2 v3 v4; exact mo_star_L59_Bg q n X k132 hk132 _ ih v1 v2 v3 v4
theorem mo_star_c (q : Th) (n : Nat) (v1 : Int32) (X : St) : Ct q nX12_star 2 (fir X) [.ref (q.ad 102), .int v1] X (mo_star n v1 X) := by
  refine ct_of (by decide +kernel) (Nat.le_of_ble_eq_true rfl) ?_
  unfold mo_star
  show G q _ _ 0 [(0, .ref (q.ad 102)), (1, .int v1)] [] X _
  refine g_iload_n 1 dX12_star_0 rfl rfl ?_
  refine g_iconst dX12_star_1 rfl kic_0 ?_
  refine g_iconst dX12_star_2 rfl kic_2 ?_
  refine g_cSIt (As := [.int v1, .int (0 : Int32), .int (2 : Int32)]) (st := []) 3 mF_wg rfl dX12_star_3 rfl vX12_within lkX12_128 (rmL rfl rfl) (mo_within_c q v1 (0 : Int32) (2 : Int32) X) rfl rfl (Nat.le_of_ble_eq_true rfl) ?_
  refine g_if_ne dX12_star_6 rfl rfl ?_ ?_
  · refine g_iconst dX12_star_9 rfl kic_m1 ?_
    exact g_iret dX12_star_10 rfl rfl
  refine g_iload_n 1 dX12_star_11 rfl rfl ?_
  refine g_if_ne dX12_star_12 rfl rfl ?_ ?_
  · refine g_aload_n 0 dX12_star_15 rfl rfl ?_
    refine g_getI 102 0 rfl dX12_star_16 rfl kkX12 flX12_125 (by decide) rfl rfl (by decide) rfl ?_
    refine g_if_ne dX12_star_19 rfl rfl ?_ ?_
    · refine g_iconst dX12_star_22 rfl kic_0 ?_
      refine g_goto dX12_star_23 rfl ?_
      exact g_iret dX12_star_51 rfl rfl
    refine g_aload_n 0 dX12_star_26 rfl rfl ?_
    refine g_getR 102 1 103 rfl dX12_star_27 rfl kkX12 flX12_9 (by decide) rfl rfl (by decide) rfl ?_
    refine g_aload_n 0 dX12_star_30 rfl rfl ?_
    refine g_getI 102 0 rfl dX12_star_31 rfl kkX12 flX12_125 (by decide) rfl rfl (by decide) rfl ?_
    refine g_cSIr (As := [.ref (q.ad 103), .int (X.1 102 0)]) (st := []) 2 mF_wg rfl dX12_star_34 rfl vX12_span lkX12_338 (rmL rfl rfl) (mo_span_c q n 103 (X.1 102 0) X) rfl rfl (Nat.le_of_ble_eq_true rfl) (fun c1 => ?_)
    refine g_aload_n 0 dX12_star_37 rfl rfl ?_
    refine g_getR 102 2 104 rfl dX12_star_38 rfl kkX12 flX12_15 (by decide) rfl rfl (by decide) rfl ?_
    refine g_aload_n 0 dX12_star_41 rfl rfl ?_
    refine g_getI 102 0 rfl dX12_star_42 rfl kkX12 flX12_125 (by decide) rfl rfl (by decide) rfl ?_
    refine g_cSIr (As := [.ref (q.ad 104), .int (X.1 102 0)]) (st := [.int c1]) 2 mF_wg rfl dX12_star_45 rfl vX12_span lkX12_338 (rmL rfl rfl) (mo_span_c q n 104 (X.1 102 0) X) rfl rfl (Nat.le_of_ble_eq_true rfl) (fun c2 => ?_)
    refine g_mmax (st := []) rfl dX12_star_48 rfl lkX12_243 (rmL rfl rfl) (Nat.le_of_ble_eq_true rfl) ?_
    exact g_iret dX12_star_51 rfl rfl
  refine g_iconst dX12_star_52 rfl kic_0 ?_
  refine g_istore_n (lv' := [(2, .int (0 : Int32)), (0, .ref (q.ad 102)), (1, .int v1)]) dX12_star_53 rfl rfl (Nat.le_of_ble_eq_true rfl) rfl ?_
  refine g_iconst dX12_star_54 rfl kic_1 ?_
  refine g_istore_n (lv' := [(3, .int (1 : Int32)), (2, .int (0 : Int32)), (0, .ref (q.ad 102)), (1, .int v1)]) dX12_star_55 rfl rfl (Nat.le_of_ble_eq_true rfl) rfl ?_
  refine g_iconst dX12_star_56 rfl kic_0 ?_
  refine g_istore (lv' := [(4, .int (0 : Int32)), (3, .int (1 : Int32)), (2, .int (0 : Int32)), (0, .ref (q.ad 102)), (1, .int v1)]) dX12_star_57 rfl (Nat.le_of_ble_eq_true rfl) rfl ?_
  refine g_sub [3, 4, 2, 1, 0] rfl ?_
  refine mo_star_L59_g q n X _ (fun v6 v7 v8 => ?_) n v1 (0 : Int32) (1 : Int32) (0 : Int32)
  refine g_iload_n 0 dX12_star_132 rfl rfl ?_
  refine g_iconst dX12_star_133 rfl kic_1 ?_
  refine g_icmp_ne dX12_star_134 rfl rfl ?_ ?_
  · refine g_iload_n 1 dX12_star_137 rfl rfl ?_
    refine g_goto dX12_star_138 rfl ?_
    exact g_iret dX12_star_150 rfl rfl
  refine g_iload_n 2 dX12_star_141 rfl rfl ?_
  refine g_if_eq dX12_star_142 rfl rfl ?_ ?_
  · refine g_iconst dX12_star_149 rfl kic_0 ?_
    exact g_iret dX12_star_150 rfl rfl
  refine g_iconst dX12_star_145 rfl kic_1 ?_
  refine g_goto dX12_star_146 rfl ?_
  exact g_iret dX12_star_150 rfl rfl
def mo_areShelves (v0 : Int32) : Int32 :=
  (if v0 < 0 then
  ((0 : Int32))
  else
  (if (mo_isShelf (v0 / (10 : Int32))) = 0 then
  ((0 : Int32))
  else
  (if (mo_isShelf (irm v0 (10 : Int32))) = 0 then
  ((0 : Int32))
  else
  ((1 : Int32)))))
def mo_areShelves_o (v0 : Int32) : Option Int32 :=
  (if v0 < 0 then
  (some (0 : Int32))
  else
  (if (mo_isShelf (v0 / (10 : Int32))) = 0 then
  (some (0 : Int32))
  else
  (if (mo_isShelf (irm v0 (10 : Int32))) = 0 then
  (some (0 : Int32))
  else
  (some (1 : Int32)))))
theorem mo_areShelves_e (v0 : Int32) : mo_areShelves_o v0 = some (mo_areShelves v0) := by
  unfold mo_areShelves_o mo_areShelves
  simp only [apply_ite some]
theorem z_mo_areShelves (v0 : Int32) : isZ (mo_areShelves v0) = true := by
  unfold mo_areShelves
  (repeat' split) <;> first | rfl
theorem mo_areShelves_c (q : Th) (v0 : Int32) (X : St) : Ct q nX12_areShelves 2 (fir X) [.int v0] X (some (mo_areShelves v0)) := by
  refine ct_of (by decide +kernel) (Nat.le_of_ble_eq_true rfl) ?_
  rw [← mo_areShelves_e]
  unfold mo_areShelves_o
  show G q _ _ 0 [(0, .int v0)] [] X _
  refine g_iload_n 0 dX12_areShelves_0 rfl rfl ?_
  refine g_if_lt dX12_areShelves_1 rfl rfl ?_ ?_
  · refine g_iconst dX12_areShelves_28 rfl kic_0 ?_
    exact g_zret dX12_areShelves_29 rfl rfl rfl
  refine g_iload_n 0 dX12_areShelves_4 rfl rfl ?_
  refine g_bipush dX12_areShelves_5 rfl kbi_10 ?_
  refine g_idivC dX12_areShelves_7 rfl (by decide) ?_
  refine g_cSIt (As := [.int (v0 / (10 : Int32))]) (st := []) 1 mF_wg rfl dX12_areShelves_8 rfl vX12_isShelf lkX12_140 (rmL rfl rfl) (mo_isShelf_c q (v0 / (10 : Int32)) X) rfl rfl (Nat.le_of_ble_eq_true rfl) ?_
  refine g_if_eq dX12_areShelves_11 rfl rfl ?_ ?_
  · refine g_iconst dX12_areShelves_28 rfl kic_0 ?_
    exact g_zret dX12_areShelves_29 rfl rfl rfl
  refine g_iload_n 0 dX12_areShelves_14 rfl rfl ?_
  refine g_bipush dX12_areShelves_15 rfl kbi_10 ?_
  refine g_iremC dX12_areShelves_17 rfl (by decide) ?_
  refine g_cSIt (As := [.int (irm v0 (10 : Int32))]) (st := []) 1 mF_wg rfl dX12_areShelves_18 rfl vX12_isShelf lkX12_140 (rmL rfl rfl) (mo_isShelf_c q (irm v0 (10 : Int32)) X) rfl rfl (Nat.le_of_ble_eq_true rfl) ?_
  refine g_if_eq dX12_areShelves_21 rfl rfl ?_ ?_
  · refine g_iconst dX12_areShelves_28 rfl kic_0 ?_
    exact g_zret dX12_areShelves_29 rfl rfl rfl
  refine g_iconst dX12_areShelves_24 rfl kic_1 ?_
  refine g_goto dX12_areShelves_25 rfl ?_
  exact g_zret dX12_areShelves_29 rfl rfl rfl
def mo_noRipples (v1 : Int32) (X : St) : Option (Int32) :=
  (if inB (v1 / (10 : Int32)) 6 then
  (if (X.1 130 (nx (v1 / (10 : Int32)))) = (-1 : Int32) then
  (some (-11 : Int32))
  else
  (if inB (irm v1 (10 : Int32)) 6 then
  (if (X.1 130 (nx (irm v1 (10 : Int32)))) = (-1 : Int32) then
  (some (-11 : Int32))
  else
  (if inB (v1 / (10 : Int32)) 6 then
  (if (X.1 130 (nx (v1 / (10 : Int32)))) = 0 then
  (if inB (irm v1 (10 : Int32)) 6 then
  (if (X.1 130 (nx (irm v1 (10 : Int32)))) = (1 : Int32) then
  (some (0 : Int32))
  else
  (some (-12 : Int32))) else none)
  else
  (some (-12 : Int32))) else none)) else none)) else none)
theorem mo_noRipples_c (q : Th) (v1 : Int32) (X : St) : Ct q nX12_noRipples 0 (fir X) [.ref (q.ad 102), .int v1] X (mo_noRipples v1 X) := by
  refine ct_of (by decide +kernel) (Nat.le_of_ble_eq_true rfl) ?_
  unfold mo_noRipples
  show G q _ _ 0 [(0, .ref (q.ad 102)), (1, .int v1)] [] X _
  refine g_aload_n 0 dX12_noRipples_0 rfl rfl ?_
  refine g_getR 102 41 130 rfl dX12_noRipples_1 rfl kkX12 flX12_93 (by decide) rfl rfl (by decide) rfl ?_
  refine g_iload_n 1 dX12_noRipples_4 rfl rfl ?_
  refine g_bipush dX12_noRipples_5 rfl kbi_10 ?_
  refine g_idivC dX12_noRipples_7 rfl (by decide) ?_
  refine g_iald dX12_noRipples_8 rfl (by decide) rfl rfl ?_
  refine g_iconst dX12_noRipples_9 rfl kic_m1 ?_
  refine g_icmp_eq dX12_noRipples_10 rfl rfl ?_ ?_
  · refine g_bipush dX12_noRipples_26 rfl kbi_m11 ?_
    exact g_iret dX12_noRipples_28 rfl rfl
  refine g_aload_n 0 dX12_noRipples_13 rfl rfl ?_
  refine g_getR 102 41 130 rfl dX12_noRipples_14 rfl kkX12 flX12_93 (by decide) rfl rfl (by decide) rfl ?_
  refine g_iload_n 1 dX12_noRipples_17 rfl rfl ?_
  refine g_bipush dX12_noRipples_18 rfl kbi_10 ?_
  refine g_iremC dX12_noRipples_20 rfl (by decide) ?_
  refine g_iald dX12_noRipples_21 rfl (by decide) rfl rfl ?_
  refine g_iconst dX12_noRipples_22 rfl kic_m1 ?_
  refine g_icmp_ne dX12_noRipples_23 rfl rfl ?_ ?_
  · refine g_bipush dX12_noRipples_26 rfl kbi_m11 ?_
    exact g_iret dX12_noRipples_28 rfl rfl
  refine g_aload_n 0 dX12_noRipples_29 rfl rfl ?_
  refine g_getR 102 41 130 rfl dX12_noRipples_30 rfl kkX12 flX12_93 (by decide) rfl rfl (by decide) rfl ?_
  refine g_iload_n 1 dX12_noRipples_33 rfl rfl ?_
  refine g_bipush dX12_noRipples_34 rfl kbi_10 ?_
  refine g_idivC dX12_noRipples_36 rfl (by decide) ?_
  refine g_iald dX12_noRipples_37 rfl (by decide) rfl rfl ?_
  refine g_if_ne dX12_noRipples_38 rfl rfl ?_ ?_
  · refine g_aload_n 0 dX12_noRipples_41 rfl rfl ?_
    refine g_getR 102 41 130 rfl dX12_noRipples_42 rfl kkX12 flX12_93 (by decide) rfl rfl (by decide) rfl ?_
    refine g_iload_n 1 dX12_noRipples_45 rfl rfl ?_
    refine g_bipush dX12_noRipples_46 rfl kbi_10 ?_
    refine g_iremC dX12_noRipples_48 rfl (by decide) ?_
    refine g_iald dX12_noRipples_49 rfl (by decide) rfl rfl ?_
    refine g_iconst dX12_noRipples_50 rfl kic_1 ?_
    refine g_icmp_eq dX12_noRipples_51 rfl rfl ?_ ?_
    · refine g_iconst dX12_noRipples_59 rfl kic_0 ?_
      exact g_iret dX12_noRipples_60 rfl rfl
    refine g_bipush dX12_noRipples_54 rfl kbi_m12 ?_
    refine g_goto dX12_noRipples_56 rfl ?_
    exact g_iret dX12_noRipples_60 rfl rfl
  refine g_bipush dX12_noRipples_54 rfl kbi_m12 ?_
  refine g_goto dX12_noRipples_56 rfl ?_
  exact g_iret dX12_noRipples_60 rfl rfl
def mo_wrong_L7_B (n : Nat) (rec : Int32 → Int32 → St → Option (Int32 × St)) (v1 : Int32) (v2 : Int32) (X : St) : Option (Int32 × St) :=
(if v2 < (X.1 102 44) then
(if inB (irm v1 (10 : Int32)) 6 then
(if v2 < (X.1 131 (nx (irm v1 (10 : Int32)))) then
(if inB (((60 : Int32) * (irm v1 (10 : Int32))) + v2) 360 then
((mo_greatest n (v2 + (1 : Int32)) X).bind fun c2 =>
(if (lg_cmp (X.2 132 (nx (((60 : Int32) * (irm v1 (10 : Int32))) + v2))) (c2.toInt64)) = 0 then
(rec v1 (v2 + (1 : Int32)) X)
else
(some (v2, X)))) else none)
else
(some ((-2 : Int32), X))) else none)
else
(some ((-2 : Int32), X)))
def mo_wrong_L7 (n : Nat) : Nat → Int32 → Int32 → St → Option (Int32 × St)
  | 0 => fun _ _ _ => none
  | w + 1 => mo_wrong_L7_B n (mo_wrong_L7 n w)
def mo_wrong (n : Nat) (v1 : Int32) (X : St) : Option (Int32 × St) :=
  ((mo_drifts n (0 : Int32) X).bind fun X1 =>
  (mo_wrong_L7 n n v1 (0 : Int32) X1))
theorem mo_wrong_L7_Bg (q : Th) (n : Nat) (rec : Int32 → Int32 → St → Option (Int32 × St)) (hrec : ∀ v1 v2 X, G q (mF q nX12_wrong RX12 4) fiw 7 [(0, .ref (q.ad 102)), (1, .int v1), (2, .int v2)] [] X (rec v1 v2 X)) (v1 : Int32) (v2 : Int32) (X : St) : G q (mF q nX12_wrong RX12 4) fiw 7 [(0, .ref (q.ad 102)), (1, .int v1), (2, .int v2)] [] X (mo_wrong_L7_B n rec v1 v2 X) := by
  unfold mo_wrong_L7_B
  refine g_iload_n 2 dX12_wrong_7 rfl rfl ?_
  refine g_aload_n 0 dX12_wrong_8 rfl rfl ?_
  refine g_getI 102 44 rfl dX12_wrong_9 rfl kkX12 flX12_253 (by decide) rfl rfl (by decide) rfl ?_
  refine g_icmp_ge dX12_wrong_12 rfl rfl ?_ ?_
  · refine g_iload_n 2 dX12_wrong_15 rfl rfl ?_
    refine g_aload_n 0 dX12_wrong_16 rfl rfl ?_
    refine g_getR 102 42 131 rfl dX12_wrong_17 rfl kkX12 flX12_96 (by decide) rfl rfl (by decide) rfl ?_
    refine g_iload_n 1 dX12_wrong_20 rfl rfl ?_
    refine g_bipush dX12_wrong_21 rfl kbi_10 ?_
    refine g_iremC dX12_wrong_23 rfl (by decide) ?_
    refine g_iald dX12_wrong_24 rfl (by decide) rfl rfl ?_
    refine g_icmp_ge dX12_wrong_25 rfl rfl ?_ ?_
    · refine g_aload_n 0 dX12_wrong_28 rfl rfl ?_
      refine g_getR 102 43 132 rfl dX12_wrong_29 rfl kkX12 flX12_99 (by decide) rfl rfl (by decide) rfl ?_
      refine g_bipush dX12_wrong_32 rfl kbi_60 ?_
      refine g_iload_n 1 dX12_wrong_34 rfl rfl ?_
      refine g_bipush dX12_wrong_35 rfl kbi_10 ?_
      refine g_iremC dX12_wrong_37 rfl (by decide) ?_
      refine g_imul dX12_wrong_38 rfl ?_
      refine g_iload_n 2 dX12_wrong_39 rfl rfl ?_
      refine g_iadd dX12_wrong_40 rfl ?_
      refine g_lald dX12_wrong_41 rfl (by decide) rfl rfl ?_
      refine g_aload_n 0 dX12_wrong_42 rfl rfl ?_
      refine g_iload_n 2 dX12_wrong_43 rfl rfl ?_
      refine g_iconst dX12_wrong_44 rfl kic_1 ?_
      refine g_iadd dX12_wrong_45 rfl ?_
      refine g_cVIr (As := [.int (v2 + (1 : Int32))]) (st := [.long (X.2 132 (nx (((60 : Int32) * (irm v1 (10 : Int32))) + v2)))]) 1 mF_wg rfl dX12_wrong_46 rfl kkX12 (by decide) rfl vX12_greatest lkX12_285 (rmL rfl rfl) (mo_greatest_c q n (v2 + (1 : Int32)) X) rfl rfl (Nat.le_of_ble_eq_true rfl) (fun c2 => ?_)
      refine g_i2l dX12_wrong_49 rfl ?_
      refine g_lcmp dX12_wrong_50 rfl ?_
      refine g_if_eq dX12_wrong_51 rfl rfl ?_ ?_
      · refine g_inc (lv' := [(2, .int (v2 + (1 : Int32))), (0, .ref (q.ad 102)), (1, .int v1)]) 2 dX12_wrong_56 rfl rfl kic_1 (Nat.le_of_ble_eq_true rfl) rfl ?_
        refine g_goto dX12_wrong_59 rfl ?_
        refine g_sub [1, 2, 0] rfl ?_
        exact hrec v1 (v2 + (1 : Int32)) X
      refine g_iload_n 2 dX12_wrong_54 rfl rfl ?_
      exact g_iret dX12_wrong_55 rfl rfl
    refine g_bipush dX12_wrong_62 rfl kbi_m2 ?_
    exact g_iret dX12_wrong_64 rfl rfl
  refine g_bipush dX12_wrong_62 rfl kbi_m2 ?_
  exact g_iret dX12_wrong_64 rfl rfl
theorem mo_wrong_L7_g (q : Th) (n : Nat) : ∀ (w : Nat) (v1 : Int32) (v2 : Int32) (X : St), G q (mF q nX12_wrong RX12 4) fiw 7 [(0, .ref (q.ad 102)), (1, .int v1), (2, .int v2)] [] X (mo_wrong_L7 n w v1 v2 X) := by
  intro w
  induction w with
  | zero => intro v1 v2 X; exact g_none
  | succ w ih => intro v1 v2 X; exact mo_wrong_L7_Bg q n _ ih v1 v2 X
theorem mo_wrong_c (q : Th) (n : Nat) (v1 : Int32) (X : St) : Ct q nX12_wrong 4 fiw [.ref (q.ad 102), .int v1] X (mo_wrong n v1 X) := by
  refine ct_of (by decide +kernel) (Nat.le_of_ble_eq_true rfl) ?_
  unfold mo_wrong
  show G q _ _ 0 [(0, .ref (q.ad 102)), (1, .int v1)] [] X _
  refine g_aload_n 0 dX12_wrong_0 rfl rfl ?_
  refine g_iconst dX12_wrong_1 rfl kic_0 ?_
  refine g_cVVw (As := [.int (0 : Int32)]) (st := []) 1 mF_wg rfl dX12_wrong_2 rfl kkX12 (by decide) rfl vX12_drifts lkX12_278 (rmL rfl rfl) (mo_drifts_c q n (0 : Int32) X) rfl rfl (Nat.le_of_ble_eq_true rfl) (fun X1 => ?_)
  refine g_iconst dX12_wrong_5 rfl kic_0 ?_
  refine g_istore_n (lv' := [(2, .int (0 : Int32)), (0, .ref (q.ad 102)), (1, .int v1)]) dX12_wrong_6 rfl rfl (Nat.le_of_ble_eq_true rfl) rfl ?_
  refine g_sub [1, 2, 0] rfl ?_
  refine mo_wrong_L7_g q n n v1 (0 : Int32) X1
def mo_judge (n : Nat) (v1 : Int32) (X : St) : Option (Int32 × St) :=
  (if (mo_areShelves v1) = 0 then
  (some ((-1 : Int32), X))
  else
  ((mo_noRipples v1 X).bind fun c1 =>
  (if c1 < 0 then
  (some (c1, X))
  else
  ((mo_reads n (v1 / (10 : Int32)) X).bind fun X2 =>
  ((mo_wrong n v1 X2).bind fun (c4, X3) =>
  (some (c4, X3)))))))
theorem mo_judge_c (q : Th) (n : Nat) (v1 : Int32) (X : St) : Ct q nX12_judge 5 fiw [.ref (q.ad 102), .int v1] X (mo_judge n v1 X) := by
  refine ct_of (by decide +kernel) (Nat.le_of_ble_eq_true rfl) ?_
  unfold mo_judge
  show G q _ _ 0 [(0, .ref (q.ad 102)), (1, .int v1)] [] X _
  refine g_iload_n 1 dX12_judge_0 rfl rfl ?_
  refine g_cSIt (As := [.int v1]) (st := []) 1 mF_wg rfl dX12_judge_1 rfl vX12_areShelves lkX12_345 (rmL rfl rfl) (mo_areShelves_c q v1 X) rfl rfl (Nat.le_of_ble_eq_true rfl) ?_
  refine g_if_ne dX12_judge_4 rfl rfl ?_ ?_
  · refine g_iconst dX12_judge_7 rfl kic_m1 ?_
    exact g_iret dX12_judge_8 rfl rfl
  refine g_aload_n 0 dX12_judge_9 rfl rfl ?_
  refine g_iload_n 1 dX12_judge_10 rfl rfl ?_
  refine g_cVIr (As := [.int v1]) (st := []) 1 mF_wg rfl dX12_judge_11 rfl kkX12 (by decide) rfl vX12_noRipples lkX12_348 (rmL rfl rfl) (mo_noRipples_c q v1 X) rfl rfl (Nat.le_of_ble_eq_true rfl) (fun c1 => ?_)
  refine g_istore_n (lv' := [(2, .int c1), (0, .ref (q.ad 102)), (1, .int v1)]) dX12_judge_14 rfl rfl (Nat.le_of_ble_eq_true rfl) rfl ?_
  refine g_iload_n 0 dX12_judge_15 rfl rfl ?_
  refine g_if_ge dX12_judge_16 rfl rfl ?_ ?_
  · refine g_iload_n 0 dX12_judge_19 rfl rfl ?_
    exact g_iret dX12_judge_20 rfl rfl
  refine g_aload_n 1 dX12_judge_21 rfl rfl ?_
  refine g_iload_n 2 dX12_judge_22 rfl rfl ?_
  refine g_bipush dX12_judge_23 rfl kbi_10 ?_
  refine g_idivC dX12_judge_25 rfl (by decide) ?_
  refine g_cVVw (As := [.int (v1 / (10 : Int32))]) (st := []) 1 mF_wg rfl dX12_judge_26 rfl kkX12 (by decide) rfl vX12_reads lkX12_291 (rmL rfl rfl) (mo_reads_c q n (v1 / (10 : Int32)) X) rfl rfl (Nat.le_of_ble_eq_true rfl) (fun X2 => ?_)
  refine g_aload_n 1 dX12_judge_29 rfl rfl ?_
  refine g_iload_n 2 dX12_judge_30 rfl rfl ?_
  refine g_cVIw (As := [.int v1]) (st := []) 1 mF_wg rfl dX12_judge_31 rfl kkX12 (by decide) rfl vX12_wrong lkX12_351 (rmL rfl rfl) (mo_wrong_c q n v1 X2) rfl rfl (Nat.le_of_ble_eq_true rfl) (fun c4 X3 => ?_)
  exact g_iret dX12_judge_34 rfl rfl
def mo_whoLed_L42_B (n : Nat) (rec : Int32 → Int32 → Int32 → Int32 → St → Option (Int32 × St)) (v1 : Int32) (v3 : Int32) (v4 : Int32) (v5 : Int32) (X : St) : Option (Int32 × St) :=
(if v5 < (X.1 102 0) then
((mo_wrong n v1 (stI X 109 (nx (0 : Int32)) v5)).bind fun (c4, X3) =>
(if c4 = (-2 : Int32) then
((some (v4 ||| ((1 : Int32) <<< (v5 &&& 31)))).bind fun t5 =>
(rec v1 v3 t5 (v5 + (1 : Int32)) X3))
else
(rec v1 v3 v4 (v5 + (1 : Int32)) X3)))
else
(some (v4, (stI X 109 (nx (0 : Int32)) v3))))
def mo_whoLed_L42 (n : Nat) : Nat → Int32 → Int32 → Int32 → Int32 → St → Option (Int32 × St)
  | 0 => fun _ _ _ _ _ => none
  | w + 1 => mo_whoLed_L42_B n (mo_whoLed_L42 n w)
def mo_whoLed (n : Nat) (v1 : Int32) (X : St) : Option (Int32 × St) :=
  (if (mo_areShelves v1) = 0 then
  (some ((-1 : Int32), X))
  else
  ((mo_noRipples v1 X).bind fun c1 =>
  (if c1 < 0 then
  (some (c1, X))
  else
  ((mo_reads n (v1 / (10 : Int32)) X).bind fun X2 =>
  (mo_whoLed_L42 n n v1 (X2.1 109 (nx (0 : Int32))) (0 : Int32) (0 : Int32) X2)))))
theorem mo_whoLed_L42_Bg (q : Th) (n : Nat) (rec : Int32 → Int32 → Int32 → Int32 → St → Option (Int32 × St)) (hrec : ∀ v1 v3 v4 v5 X, G q (mF q nX12_whoLed RX12 5) fiw 42 [(0, .ref (q.ad 102)), (1, .int v1), (3, .int v3), (4, .int v4), (5, .int v5)] [] X (rec v1 v3 v4 v5 X)) (v1 : Int32) (v3 : Int32) (v4 : Int32) (v5 : Int32) (X : St) : G q (mF q nX12_whoLed RX12 5) fiw 42 [(0, .ref (q.ad 102)), (1, .int v1), (3, .int v3), (4, .int v4), (5, .int v5)] [] X (mo_whoLed_L42_B n rec v1 v3 v4 v5 X) := by
  unfold mo_whoLed_L42_B
  refine g_iload 4 dX12_whoLed_42 rfl rfl ?_
  refine g_aload_n 0 dX12_whoLed_44 rfl rfl ?_
  refine g_getI 102 0 rfl dX12_whoLed_45 rfl kkX12 flX12_125 (by decide) rfl rfl (by decide) rfl ?_
  refine g_icmp_ge dX12_whoLed_48 rfl rfl ?_ ?_
  · refine g_aload_n 0 dX12_whoLed_51 rfl rfl ?_
    refine g_getR 102 7 109 rfl dX12_whoLed_52 rfl kkX12 flX12_30 (by decide) rfl rfl (by decide) rfl ?_
    refine g_iconst dX12_whoLed_55 rfl kic_0 ?_
    refine g_iload 4 dX12_whoLed_56 rfl rfl ?_
    refine g_iast0 dX12_whoLed_58 rfl (by decide) rfl rfl (by decide) ?_
    refine g_aload_n 0 dX12_whoLed_59 rfl rfl ?_
    refine g_iload_n 1 dX12_whoLed_60 rfl rfl ?_
    refine g_cVIw (As := [.int v1]) (st := []) 1 mF_wg rfl dX12_whoLed_61 rfl kkX12 (by decide) rfl vX12_wrong lkX12_351 (rmL rfl rfl) (mo_wrong_c q n v1 (stI X 109 (nx (0 : Int32)) v5)) rfl rfl (Nat.le_of_ble_eq_true rfl) (fun c4 X3 => ?_)
    refine g_bipush dX12_whoLed_64 rfl kbi_m2 ?_
    refine g_icmp_ne dX12_whoLed_66 rfl rfl ?_ ?_
    · refine g_iload 3 dX12_whoLed_69 rfl rfl ?_
      refine g_iconst dX12_whoLed_71 rfl kic_1 ?_
      refine g_iload 4 dX12_whoLed_72 rfl rfl ?_
      refine g_ishl dX12_whoLed_74 rfl ?_
      refine g_ior dX12_whoLed_75 rfl ?_
      refine g_nmI (fun t5 => ?_)
      refine g_istore (lv' := [(4, .int t5), (0, .ref (q.ad 102)), (1, .int v1), (3, .int v3), (5, .int v5)]) dX12_whoLed_76 rfl (Nat.le_of_ble_eq_true rfl) rfl ?_
      refine g_inc (lv' := [(5, .int (v5 + (1 : Int32))), (4, .int t5), (0, .ref (q.ad 102)), (1, .int v1), (3, .int v3)]) 4 dX12_whoLed_78 rfl rfl kic_1 (Nat.le_of_ble_eq_true rfl) rfl ?_
      refine g_goto dX12_whoLed_81 rfl ?_
      refine g_sub [2, 3, 4, 1, 0] rfl ?_
      exact hrec v1 v3 t5 (v5 + (1 : Int32)) X3
    refine g_inc (lv' := [(5, .int (v5 + (1 : Int32))), (0, .ref (q.ad 102)), (1, .int v1), (3, .int v3), (4, .int v4)]) 4 dX12_whoLed_78 rfl rfl kic_1 (Nat.le_of_ble_eq_true rfl) rfl ?_
    refine g_goto dX12_whoLed_81 rfl ?_
    refine g_sub [1, 2, 3, 4, 0] rfl ?_
    exact hrec v1 v3 v4 (v5 + (1 : Int32)) X3
  refine g_aload_n 0 dX12_whoLed_84 rfl rfl ?_
  refine g_getR 102 7 109 rfl dX12_whoLed_85 rfl kkX12 flX12_30 (by decide) rfl rfl (by decide) rfl ?_
  refine g_iconst dX12_whoLed_88 rfl kic_0 ?_
  refine g_iload_n 2 dX12_whoLed_89 rfl rfl ?_
  refine g_iast0 dX12_whoLed_90 rfl (by decide) rfl rfl (by decide) ?_
  refine g_iload 3 dX12_whoLed_91 rfl rfl ?_
  exact g_iret dX12_whoLed_93 rfl rfl
theorem mo_whoLed_L42_g (q : Th) (n : Nat) : ∀ (w : Nat) (v1 : Int32) (v3 : Int32) (v4 : Int32) (v5 : Int32) (X : St), G q (mF q nX12_whoLed RX12 5) fiw 42 [(0, .ref (q.ad 102)), (1, .int v1), (3, .int v3), (4, .int v4), (5, .int v5)] [] X (mo_whoLed_L42 n w v1 v3 v4 v5 X) := by
  intro w
  induction w with
  | zero => intro v1 v3 v4 v5 X; exact g_none
  | succ w ih => intro v1 v3 v4 v5 X; exact mo_whoLed_L42_Bg q n _ ih v1 v3 v4 v5 X
theorem mo_whoLed_c (q : Th) (n : Nat) (v1 : Int32) (X : St) : Ct q nX12_whoLed 5 fiw [.ref (q.ad 102), .int v1] X (mo_whoLed n v1 X) := by
  refine ct_of (by decide +kernel) (Nat.le_of_ble_eq_true rfl) ?_
  unfold mo_whoLed
  show G q _ _ 0 [(0, .ref (q.ad 102)), (1, .int v1)] [] X _
  refine g_iload_n 1 dX12_whoLed_0 rfl rfl ?_
  refine g_cSIt (As := [.int v1]) (st := []) 1 mF_wg rfl dX12_whoLed_1 rfl vX12_areShelves lkX12_345 (rmL rfl rfl) (mo_areShelves_c q v1 X) rfl rfl (Nat.le_of_ble_eq_true rfl) ?_
  refine g_if_ne dX12_whoLed_4 rfl rfl ?_ ?_
  · refine g_iconst dX12_whoLed_7 rfl kic_m1 ?_
    exact g_iret dX12_whoLed_8 rfl rfl
  refine g_aload_n 0 dX12_whoLed_9 rfl rfl ?_
  refine g_iload_n 1 dX12_whoLed_10 rfl rfl ?_
  refine g_cVIr (As := [.int v1]) (st := []) 1 mF_wg rfl dX12_whoLed_11 rfl kkX12 (by decide) rfl vX12_noRipples lkX12_348 (rmL rfl rfl) (mo_noRipples_c q v1 X) rfl rfl (Nat.le_of_ble_eq_true rfl) (fun c1 => ?_)
  refine g_istore_n (lv' := [(2, .int c1), (0, .ref (q.ad 102)), (1, .int v1)]) dX12_whoLed_14 rfl rfl (Nat.le_of_ble_eq_true rfl) rfl ?_
  refine g_iload_n 0 dX12_whoLed_15 rfl rfl ?_
  refine g_if_ge dX12_whoLed_16 rfl rfl ?_ ?_
  · refine g_iload_n 0 dX12_whoLed_19 rfl rfl ?_
    exact g_iret dX12_whoLed_20 rfl rfl
  refine g_aload_n 1 dX12_whoLed_21 rfl rfl ?_
  refine g_iload_n 2 dX12_whoLed_22 rfl rfl ?_
  refine g_bipush dX12_whoLed_23 rfl kbi_10 ?_
  refine g_idivC dX12_whoLed_25 rfl (by decide) ?_
  refine g_cVVw (As := [.int (v1 / (10 : Int32))]) (st := []) 1 mF_wg rfl dX12_whoLed_26 rfl kkX12 (by decide) rfl vX12_reads lkX12_291 (rmL rfl rfl) (mo_reads_c q n (v1 / (10 : Int32)) X) rfl rfl (Nat.le_of_ble_eq_true rfl) (fun X2 => ?_)
  refine g_aload_n 1 dX12_whoLed_29 rfl rfl ?_
  refine g_getR 102 7 109 rfl dX12_whoLed_30 rfl kkX12 flX12_30 (by decide) rfl rfl (by decide) rfl ?_
  refine g_iconst dX12_whoLed_33 rfl kic_0 ?_
  refine g_iald0 dX12_whoLed_34 rfl (by decide) rfl rfl (by decide) ?_
  refine g_istore_n (lv' := [(3, .int (X2.1 109 (nx (0 : Int32)))), (2, .int c1), (0, .ref (q.ad 102)), (1, .int v1)]) dX12_whoLed_35 rfl rfl (Nat.le_of_ble_eq_true rfl) rfl ?_
  refine g_iconst dX12_whoLed_36 rfl kic_0 ?_
  refine g_istore (lv' := [(4, .int (0 : Int32)), (3, .int (X2.1 109 (nx (0 : Int32)))), (2, .int c1), (0, .ref (q.ad 102)), (1, .int v1)]) dX12_whoLed_37 rfl (Nat.le_of_ble_eq_true rfl) rfl ?_
  refine g_iconst dX12_whoLed_39 rfl kic_0 ?_
  refine g_istore (lv' := [(5, .int (0 : Int32)), (4, .int (0 : Int32)), (3, .int (X2.1 109 (nx (0 : Int32)))), (2, .int c1), (0, .ref (q.ad 102)), (1, .int v1)]) dX12_whoLed_40 rfl (Nat.le_of_ble_eq_true rfl) rfl ?_
  refine g_sub [4, 5, 2, 1, 0] rfl ?_
  refine mo_whoLed_L42_g q n n v1 (X2.1 109 (nx (0 : Int32))) (0 : Int32) (0 : Int32) X2
def mo_later_L53_B (n : Nat) (rec : Int32 → Int32 → Int32 → Int32 → Int32 → St → Option (Int32 × St)) (v1 : Int32) (v2 : Int32) (v4 : Int32) (v5 : Int32) (v6 : Int32) (X : St) : Option (Int32 × St) :=
(if v6 < 0 then
(if inB v2 8 then
(some (v5, (stI X 108 (nx v2) v4))) else none)
else
(if inB v2 8 then
((mo_wrong n v1 (stI X 108 (nx v2) v6)).bind fun (c4, X3) =>
(if c4 = (-2 : Int32) then
(rec v1 v2 v4 v6 (v6 + (-1 : Int32)) X3)
else
(rec v1 v2 v4 v5 (v6 + (-1 : Int32)) X3))) else none))
def mo_later_L53 (n : Nat) : Nat → Int32 → Int32 → Int32 → Int32 → Int32 → St → Option (Int32 × St)
  | 0 => fun _ _ _ _ _ _ => none
  | w + 1 => mo_later_L53_B n (mo_later_L53 n w)
def mo_later (n : Nat) (v1 : Int32) (v2 : Int32) (X : St) : Option (Int32 × St) :=
  (if (mo_areShelves v1) = 0 then
  (some ((-1 : Int32), X))
  else
  (if (mo_isOne v2 X) = 0 then
  (some ((-1 : Int32), X))
  else
  ((mo_noRipples v1 X).bind fun c1 =>
  (if c1 < 0 then
  (some (c1, X))
  else
  ((mo_reads n (v1 / (10 : Int32)) X).bind fun X2 =>
  (if inB v2 8 then
  (mo_later_L53 n n v1 v2 (X2.1 108 (nx v2)) (-2 : Int32) (99 : Int32) X2) else none))))))
theorem mo_later_L53_Bg (q : Th) (n : Nat) (rec : Int32 → Int32 → Int32 → Int32 → Int32 → St → Option (Int32 × St)) (hrec : ∀ v1 v2 v4 v5 v6 X, G q (mF q nX12_later RX12 5) fiw 53 [(0, .ref (q.ad 102)), (1, .int v1), (2, .int v2), (4, .int v4), (5, .int v5), (6, .int v6)] [] X (rec v1 v2 v4 v5 v6 X)) (v1 : Int32) (v2 : Int32) (v4 : Int32) (v5 : Int32) (v6 : Int32) (X : St) : G q (mF q nX12_later RX12 5) fiw 53 [(0, .ref (q.ad 102)), (1, .int v1), (2, .int v2), (4, .int v4), (5, .int v5), (6, .int v6)] [] X (mo_later_L53_B n rec v1 v2 v4 v5 v6 X) := by
  unfold mo_later_L53_B
  refine g_iload 5 dX12_later_53 rfl rfl ?_
  refine g_if_lt dX12_later_55 rfl rfl ?_ ?_
  · refine g_aload_n 0 dX12_later_86 rfl rfl ?_
    refine g_getR 102 6 108 rfl dX12_later_87 rfl kkX12 flX12_27 (by decide) rfl rfl (by decide) rfl ?_
    refine g_iload_n 2 dX12_later_90 rfl rfl ?_
    refine g_iload 3 dX12_later_91 rfl rfl ?_
    refine g_iast dX12_later_93 rfl (by decide) rfl rfl ?_
    refine g_iload 4 dX12_later_94 rfl rfl ?_
    exact g_iret dX12_later_96 rfl rfl
  refine g_aload_n 0 dX12_later_58 rfl rfl ?_
  refine g_getR 102 6 108 rfl dX12_later_59 rfl kkX12 flX12_27 (by decide) rfl rfl (by decide) rfl ?_
  refine g_iload_n 2 dX12_later_62 rfl rfl ?_
  refine g_iload 5 dX12_later_63 rfl rfl ?_
  refine g_iast dX12_later_65 rfl (by decide) rfl rfl ?_
  refine g_aload_n 0 dX12_later_66 rfl rfl ?_
  refine g_iload_n 1 dX12_later_67 rfl rfl ?_
  refine g_cVIw (As := [.int v1]) (st := []) 1 mF_wg rfl dX12_later_68 rfl kkX12 (by decide) rfl vX12_wrong lkX12_351 (rmL rfl rfl) (mo_wrong_c q n v1 (stI X 108 (nx v2) v6)) rfl rfl (Nat.le_of_ble_eq_true rfl) (fun c4 X3 => ?_)
  refine g_bipush dX12_later_71 rfl kbi_m2 ?_
  refine g_icmp_ne dX12_later_73 rfl rfl ?_ ?_
  · refine g_iload 5 dX12_later_76 rfl rfl ?_
    refine g_istore (lv' := [(5, .int v6), (0, .ref (q.ad 102)), (1, .int v1), (2, .int v2), (4, .int v4), (6, .int v6)]) dX12_later_78 rfl (Nat.le_of_ble_eq_true rfl) rfl ?_
    refine g_inc (lv' := [(6, .int (v6 + (-1 : Int32))), (5, .int v6), (0, .ref (q.ad 102)), (1, .int v1), (2, .int v2), (4, .int v4)]) 5 dX12_later_80 rfl rfl kic_m1 (Nat.le_of_ble_eq_true rfl) rfl ?_
    refine g_goto dX12_later_83 rfl ?_
    refine g_sub [2, 3, 4, 5, 1, 0] rfl ?_
    exact hrec v1 v2 v4 v6 (v6 + (-1 : Int32)) X3
  refine g_inc (lv' := [(6, .int (v6 + (-1 : Int32))), (0, .ref (q.ad 102)), (1, .int v1), (2, .int v2), (4, .int v4), (5, .int v5)]) 5 dX12_later_80 rfl rfl kic_m1 (Nat.le_of_ble_eq_true rfl) rfl ?_
  refine g_goto dX12_later_83 rfl ?_
  refine g_sub [1, 2, 3, 4, 5, 0] rfl ?_
  exact hrec v1 v2 v4 v5 (v6 + (-1 : Int32)) X3
theorem mo_later_L53_g (q : Th) (n : Nat) : ∀ (w : Nat) (v1 : Int32) (v2 : Int32) (v4 : Int32) (v5 : Int32) (v6 : Int32) (X : St), G q (mF q nX12_later RX12 5) fiw 53 [(0, .ref (q.ad 102)), (1, .int v1), (2, .int v2), (4, .int v4), (5, .int v5), (6, .int v6)] [] X (mo_later_L53 n w v1 v2 v4 v5 v6 X) := by
  intro w
  induction w with
  | zero => intro v1 v2 v4 v5 v6 X; exact g_none
  | succ w ih => intro v1 v2 v4 v5 v6 X; exact mo_later_L53_Bg q n _ ih v1 v2 v4 v5 v6 X
theorem mo_later_c (q : Th) (n : Nat) (v1 : Int32) (v2 : Int32) (X : St) : Ct q nX12_later 5 fiw [.ref (q.ad 102), .int v1, .int v2] X (mo_later n v1 v2 X) := by
  refine ct_of (by decide +kernel) (Nat.le_of_ble_eq_true rfl) ?_
  unfold mo_later
  show G q _ _ 0 [(0, .ref (q.ad 102)), (1, .int v1), (2, .int v2)] [] X _
  refine g_iload_n 1 dX12_later_0 rfl rfl ?_
  refine g_cSIt (As := [.int v1]) (st := []) 1 mF_wg rfl dX12_later_1 rfl vX12_areShelves lkX12_345 (rmL rfl rfl) (mo_areShelves_c q v1 X) rfl rfl (Nat.le_of_ble_eq_true rfl) ?_
  refine g_if_eq dX12_later_4 rfl rfl ?_ ?_
  · refine g_iconst dX12_later_15 rfl kic_m1 ?_
    exact g_iret dX12_later_16 rfl rfl
  refine g_aload_n 0 dX12_later_7 rfl rfl ?_
  refine g_iload_n 2 dX12_later_8 rfl rfl ?_
  refine g_cVIt (As := [.int v2]) (st := []) 1 mF_wg rfl dX12_later_9 rfl kkX12 (by decide) rfl vX12_isOne lkX12_132 (rmL rfl rfl) (mo_isOne_c q v2 X) rfl rfl (Nat.le_of_ble_eq_true rfl) ?_
  refine g_if_ne dX12_later_12 rfl rfl ?_ ?_
  · refine g_iconst dX12_later_15 rfl kic_m1 ?_
    exact g_iret dX12_later_16 rfl rfl
  refine g_aload_n 0 dX12_later_17 rfl rfl ?_
  refine g_iload_n 1 dX12_later_18 rfl rfl ?_
  refine g_cVIr (As := [.int v1]) (st := []) 1 mF_wg rfl dX12_later_19 rfl kkX12 (by decide) rfl vX12_noRipples lkX12_348 (rmL rfl rfl) (mo_noRipples_c q v1 X) rfl rfl (Nat.le_of_ble_eq_true rfl) (fun c1 => ?_)
  refine g_istore_n (lv' := [(3, .int c1), (0, .ref (q.ad 102)), (1, .int v1), (2, .int v2)]) dX12_later_22 rfl rfl (Nat.le_of_ble_eq_true rfl) rfl ?_
  refine g_iload_n 0 dX12_later_23 rfl rfl ?_
  refine g_if_ge dX12_later_24 rfl rfl ?_ ?_
  · refine g_iload_n 0 dX12_later_27 rfl rfl ?_
    exact g_iret dX12_later_28 rfl rfl
  refine g_aload_n 1 dX12_later_29 rfl rfl ?_
  refine g_iload_n 2 dX12_later_30 rfl rfl ?_
  refine g_bipush dX12_later_31 rfl kbi_10 ?_
  refine g_idivC dX12_later_33 rfl (by decide) ?_
  refine g_cVVw (As := [.int (v1 / (10 : Int32))]) (st := []) 1 mF_wg rfl dX12_later_34 rfl kkX12 (by decide) rfl vX12_reads lkX12_291 (rmL rfl rfl) (mo_reads_c q n (v1 / (10 : Int32)) X) rfl rfl (Nat.le_of_ble_eq_true rfl) (fun X2 => ?_)
  refine g_aload_n 1 dX12_later_37 rfl rfl ?_
  refine g_getR 102 6 108 rfl dX12_later_38 rfl kkX12 flX12_27 (by decide) rfl rfl (by decide) rfl ?_
  refine g_iload_n 3 dX12_later_41 rfl rfl ?_
  refine g_iald dX12_later_42 rfl (by decide) rfl rfl ?_
  refine g_istore (lv' := [(4, .int (X2.1 108 (nx v2))), (3, .int c1), (0, .ref (q.ad 102)), (1, .int v1), (2, .int v2)]) dX12_later_43 rfl (Nat.le_of_ble_eq_true rfl) rfl ?_
  refine g_bipush dX12_later_45 rfl kbi_m2 ?_
  refine g_istore (lv' := [(5, .int (-2 : Int32)), (4, .int (X2.1 108 (nx v2))), (3, .int c1), (0, .ref (q.ad 102)), (1, .int v1), (2, .int v2)]) dX12_later_47 rfl (Nat.le_of_ble_eq_true rfl) rfl ?_
  refine g_bipush dX12_later_49 rfl kbi_99 ?_
  refine g_istore (lv' := [(6, .int (99 : Int32)), (5, .int (-2 : Int32)), (4, .int (X2.1 108 (nx v2))), (3, .int c1), (0, .ref (q.ad 102)), (1, .int v1), (2, .int v2)]) dX12_later_51 rfl (Nat.le_of_ble_eq_true rfl) rfl ?_
  refine g_sub [4, 5, 6, 2, 1, 0] rfl ?_
  refine mo_later_L53_g q n n v1 v2 (X2.1 108 (nx v2)) (-2 : Int32) (99 : Int32) X2
def mo_quicker_L54_B (n : Nat) (rec : Int32 → Int32 → Int32 → Int32 → Int32 → St → Option (Int32 × St)) (v1 : Int32) (v2 : Int32) (v4 : Int32) (v5 : Int32) (v6 : Int32) (X : St) : Option (Int32 × St) :=
(if v6 < (-9 : Int32) then
(if inB v2 8 then
(some (v5, (stI X 107 (nx v2) v4))) else none)
else
(if inB v2 8 then
((mo_wrong n v1 (stI X 107 (nx v2) v6)).bind fun (c4, X3) =>
(if c4 = (-2 : Int32) then
(rec v1 v2 v4 v6 (v6 + (-1 : Int32)) X3)
else
(rec v1 v2 v4 v5 (v6 + (-1 : Int32)) X3))) else none))
def mo_quicker_L54 (n : Nat) : Nat → Int32 → Int32 → Int32 → Int32 → Int32 → St → Option (Int32 × St)
  | 0 => fun _ _ _ _ _ _ => none
  | w + 1 => mo_quicker_L54_B n (mo_quicker_L54 n w)
def mo_quicker (n : Nat) (v1 : Int32) (v2 : Int32) (X : St) : Option (Int32 × St) :=
  (if (mo_areShelves v1) = 0 then
  (some ((-2000000000 : Int32), X))
  else
  (if (mo_isOne v2 X) = 0 then
  (some ((-2000000000 : Int32), X))
  else
  ((mo_noRipples v1 X).bind fun c1 =>
  (if c1 < 0 then
  (some (c1, X))
  else
  ((mo_reads n (v1 / (10 : Int32)) X).bind fun X2 =>
  (if inB v2 8 then
  (mo_quicker_L54 n n v1 v2 (X2.1 107 (nx v2)) (-99 : Int32) (9 : Int32) X2) else none))))))
theorem mo_quicker_L54_Bg (q : Th) (n : Nat) (rec : Int32 → Int32 → Int32 → Int32 → Int32 → St → Option (Int32 × St)) (hrec : ∀ v1 v2 v4 v5 v6 X, G q (mF q nX12_quicker RX12 5) fiw 54 [(0, .ref (q.ad 102)), (1, .int v1), (2, .int v2), (4, .int v4), (5, .int v5), (6, .int v6)] [] X (rec v1 v2 v4 v5 v6 X)) (v1 : Int32) (v2 : Int32) (v4 : Int32) (v5 : Int32) (v6 : Int32) (X : St) : G q (mF q nX12_quicker RX12 5) fiw 54 [(0, .ref (q.ad 102)), (1, .int v1), (2, .int v2), (4, .int v4), (5, .int v5), (6, .int v6)] [] X (mo_quicker_L54_B n rec v1 v2 v4 v5 v6 X) := by
  unfold mo_quicker_L54_B
  refine g_iload 5 dX12_quicker_54 rfl rfl ?_
  refine g_bipush dX12_quicker_56 rfl kbi_m9 ?_
  refine g_icmp_lt dX12_quicker_58 rfl rfl ?_ ?_
  · refine g_aload_n 0 dX12_quicker_89 rfl rfl ?_
    refine g_getR 102 5 107 rfl dX12_quicker_90 rfl kkX12 flX12_24 (by decide) rfl rfl (by decide) rfl ?_
    refine g_iload_n 2 dX12_quicker_93 rfl rfl ?_
    refine g_iload 3 dX12_quicker_94 rfl rfl ?_
    refine g_iast dX12_quicker_96 rfl (by decide) rfl rfl ?_
    refine g_iload 4 dX12_quicker_97 rfl rfl ?_
    exact g_iret dX12_quicker_99 rfl rfl
  refine g_aload_n 0 dX12_quicker_61 rfl rfl ?_
  refine g_getR 102 5 107 rfl dX12_quicker_62 rfl kkX12 flX12_24 (by decide) rfl rfl (by decide) rfl ?_
  refine g_iload_n 2 dX12_quicker_65 rfl rfl ?_
  refine g_iload 5 dX12_quicker_66 rfl rfl ?_
  refine g_iast dX12_quicker_68 rfl (by decide) rfl rfl ?_
  refine g_aload_n 0 dX12_quicker_69 rfl rfl ?_
  refine g_iload_n 1 dX12_quicker_70 rfl rfl ?_
  refine g_cVIw (As := [.int v1]) (st := []) 1 mF_wg rfl dX12_quicker_71 rfl kkX12 (by decide) rfl vX12_wrong lkX12_351 (rmL rfl rfl) (mo_wrong_c q n v1 (stI X 107 (nx v2) v6)) rfl rfl (Nat.le_of_ble_eq_true rfl) (fun c4 X3 => ?_)
  refine g_bipush dX12_quicker_74 rfl kbi_m2 ?_
  refine g_icmp_ne dX12_quicker_76 rfl rfl ?_ ?_
  · refine g_iload 5 dX12_quicker_79 rfl rfl ?_
    refine g_istore (lv' := [(5, .int v6), (0, .ref (q.ad 102)), (1, .int v1), (2, .int v2), (4, .int v4), (6, .int v6)]) dX12_quicker_81 rfl (Nat.le_of_ble_eq_true rfl) rfl ?_
    refine g_inc (lv' := [(6, .int (v6 + (-1 : Int32))), (5, .int v6), (0, .ref (q.ad 102)), (1, .int v1), (2, .int v2), (4, .int v4)]) 5 dX12_quicker_83 rfl rfl kic_m1 (Nat.le_of_ble_eq_true rfl) rfl ?_
    refine g_goto dX12_quicker_86 rfl ?_
    refine g_sub [2, 3, 4, 5, 1, 0] rfl ?_
    exact hrec v1 v2 v4 v6 (v6 + (-1 : Int32)) X3
  refine g_inc (lv' := [(6, .int (v6 + (-1 : Int32))), (0, .ref (q.ad 102)), (1, .int v1), (2, .int v2), (4, .int v4), (5, .int v5)]) 5 dX12_quicker_83 rfl rfl kic_m1 (Nat.le_of_ble_eq_true rfl) rfl ?_
  refine g_goto dX12_quicker_86 rfl ?_
  refine g_sub [1, 2, 3, 4, 5, 0] rfl ?_
  exact hrec v1 v2 v4 v5 (v6 + (-1 : Int32)) X3
theorem mo_quicker_L54_g (q : Th) (n : Nat) : ∀ (w : Nat) (v1 : Int32) (v2 : Int32) (v4 : Int32) (v5 : Int32) (v6 : Int32) (X : St), G q (mF q nX12_quicker RX12 5) fiw 54 [(0, .ref (q.ad 102)), (1, .int v1), (2, .int v2), (4, .int v4), (5, .int v5), (6, .int v6)] [] X (mo_quicker_L54 n w v1 v2 v4 v5 v6 X) := by
  intro w
  induction w with
  | zero => intro v1 v2 v4 v5 v6 X; exact g_none
  | succ w ih => intro v1 v2 v4 v5 v6 X; exact mo_quicker_L54_Bg q n _ ih v1 v2 v4 v5 v6 X
theorem mo_quicker_c (q : Th) (n : Nat) (v1 : Int32) (v2 : Int32) (X : St) : Ct q nX12_quicker 5 fiw [.ref (q.ad 102), .int v1, .int v2] X (mo_quicker n v1 v2 X) := by
  refine ct_of (by decide +kernel) (Nat.le_of_ble_eq_true rfl) ?_
  unfold mo_quicker
  show G q _ _ 0 [(0, .ref (q.ad 102)), (1, .int v1), (2, .int v2)] [] X _
  refine g_iload_n 1 dX12_quicker_0 rfl rfl ?_
  refine g_cSIt (As := [.int v1]) (st := []) 1 mF_wg rfl dX12_quicker_1 rfl vX12_areShelves lkX12_345 (rmL rfl rfl) (mo_areShelves_c q v1 X) rfl rfl (Nat.le_of_ble_eq_true rfl) ?_
  refine g_if_eq dX12_quicker_4 rfl rfl ?_ ?_
  · refine g_ldc rfl dX12_quicker_15 rfl kcX12_152 ?_
    exact g_iret dX12_quicker_17 rfl rfl
  refine g_aload_n 0 dX12_quicker_7 rfl rfl ?_
  refine g_iload_n 2 dX12_quicker_8 rfl rfl ?_
  refine g_cVIt (As := [.int v2]) (st := []) 1 mF_wg rfl dX12_quicker_9 rfl kkX12 (by decide) rfl vX12_isOne lkX12_132 (rmL rfl rfl) (mo_isOne_c q v2 X) rfl rfl (Nat.le_of_ble_eq_true rfl) ?_
  refine g_if_ne dX12_quicker_12 rfl rfl ?_ ?_
  · refine g_ldc rfl dX12_quicker_15 rfl kcX12_152 ?_
    exact g_iret dX12_quicker_17 rfl rfl
  refine g_aload_n 0 dX12_quicker_18 rfl rfl ?_
  refine g_iload_n 1 dX12_quicker_19 rfl rfl ?_
  refine g_cVIr (As := [.int v1]) (st := []) 1 mF_wg rfl dX12_quicker_20 rfl kkX12 (by decide) rfl vX12_noRipples lkX12_348 (rmL rfl rfl) (mo_noRipples_c q v1 X) rfl rfl (Nat.le_of_ble_eq_true rfl) (fun c1 => ?_)
  refine g_istore_n (lv' := [(3, .int c1), (0, .ref (q.ad 102)), (1, .int v1), (2, .int v2)]) dX12_quicker_23 rfl rfl (Nat.le_of_ble_eq_true rfl) rfl ?_
  refine g_iload_n 0 dX12_quicker_24 rfl rfl ?_
  refine g_if_ge dX12_quicker_25 rfl rfl ?_ ?_
  · refine g_iload_n 0 dX12_quicker_28 rfl rfl ?_
    exact g_iret dX12_quicker_29 rfl rfl
  refine g_aload_n 1 dX12_quicker_30 rfl rfl ?_
  refine g_iload_n 2 dX12_quicker_31 rfl rfl ?_
  refine g_bipush dX12_quicker_32 rfl kbi_10 ?_
  refine g_idivC dX12_quicker_34 rfl (by decide) ?_
  refine g_cVVw (As := [.int (v1 / (10 : Int32))]) (st := []) 1 mF_wg rfl dX12_quicker_35 rfl kkX12 (by decide) rfl vX12_reads lkX12_291 (rmL rfl rfl) (mo_reads_c q n (v1 / (10 : Int32)) X) rfl rfl (Nat.le_of_ble_eq_true rfl) (fun X2 => ?_)
  refine g_aload_n 1 dX12_quicker_38 rfl rfl ?_
  refine g_getR 102 5 107 rfl dX12_quicker_39 rfl kkX12 flX12_24 (by decide) rfl rfl (by decide) rfl ?_
  refine g_iload_n 3 dX12_quicker_42 rfl rfl ?_
  refine g_iald dX12_quicker_43 rfl (by decide) rfl rfl ?_
  refine g_istore (lv' := [(4, .int (X2.1 107 (nx v2))), (3, .int c1), (0, .ref (q.ad 102)), (1, .int v1), (2, .int v2)]) dX12_quicker_44 rfl (Nat.le_of_ble_eq_true rfl) rfl ?_
  refine g_bipush dX12_quicker_46 rfl kbi_m99 ?_
  refine g_istore (lv' := [(5, .int (-99 : Int32)), (4, .int (X2.1 107 (nx v2))), (3, .int c1), (0, .ref (q.ad 102)), (1, .int v1), (2, .int v2)]) dX12_quicker_48 rfl (Nat.le_of_ble_eq_true rfl) rfl ?_
  refine g_bipush dX12_quicker_50 rfl kbi_9 ?_
  refine g_istore (lv' := [(6, .int (9 : Int32)), (5, .int (-99 : Int32)), (4, .int (X2.1 107 (nx v2))), (3, .int c1), (0, .ref (q.ad 102)), (1, .int v1), (2, .int v2)]) dX12_quicker_52 rfl (Nat.le_of_ble_eq_true rfl) rfl ?_
  refine g_sub [4, 5, 6, 2, 1, 0] rfl ?_
  refine mo_quicker_L54_g q n n v1 v2 (X2.1 107 (nx v2)) (-99 : Int32) (9 : Int32) X2
def mo_drawn_L88_B (n : Nat) (rec : Int32 → Int32 → Int32 → Int32 → Int32 → St → Option (Int32 × St)) (v3 : Int32) (v4 : Int32) (v6 : Int32) (v7 : Int32) (v8 : Int32) (X : St) : Option (Int32 × St) :=
(if v8 < (v3 / (100 : Int32)) then
((mo_drifts n (1 : Int32) X).bind fun X3 =>
((mo_marks n X3).bind fun (c5, X4) =>
(if c5 = 0 then
(rec v3 v4 (v6 + c5) (v7 + (1 : Int32)) (v8 + (1 : Int32)) X4)
else
(rec v3 v4 (v6 + c5) v7 (v8 + (1 : Int32)) X4))))
else
(if v4 = 0 then
(some (v6, X))
else
(some (v7, X))))
def mo_drawn_L88 (n : Nat) : Nat → Int32 → Int32 → Int32 → Int32 → Int32 → St → Option (Int32 × St)
  | 0 => fun _ _ _ _ _ _ => none
  | w + 1 => mo_drawn_L88_B n (mo_drawn_L88 n w)
def mo_drawn (n : Nat) (v1 : Int32) (v2 : Int32) (v3 : Int32) (v4 : Int32) (X : St) : Option (Int32 × St) :=
  (if (mo_isShelf v1) = 0 then
  (some ((-1 : Int32), X))
  else
  (if v3 < 0 then
  (some ((-1 : Int32), X))
  else
  (if (mo_within (v3 / (100 : Int32)) (1 : Int32) (30 : Int32)) = 0 then
  (some ((-1 : Int32), X))
  else
  (if (12 : Int32) < (irm v3 (100 : Int32)) then
  (some ((-1 : Int32), X))
  else
  (if (mo_within v4 (0 : Int32) (1 : Int32)) = 0 then
  (some ((-1 : Int32), X))
  else
  ((mo_noRow v1 (0 : Int32) X).bind fun c1 =>
  (if c1 < 0 then
  (some (c1, X))
  else
  ((mo_reads n v1 X).bind fun X2 =>
  (mo_drawn_L88 n n v3 v4 (0 : Int32) (0 : Int32) (0 : Int32) (stI (stI X2 102 51 v2) 102 52 (irm v3 (100 : Int32))))))))))))
theorem mo_drawn_L88_Bg (q : Th) (n : Nat) (rec : Int32 → Int32 → Int32 → Int32 → Int32 → St → Option (Int32 × St)) (hrec : ∀ v3 v4 v6 v7 v8 X, G q (mF q nX12_drawn RX12 4) fiw 88 [(0, .ref (q.ad 102)), (3, .int v3), (4, .int v4), (6, .int v6), (7, .int v7), (8, .int v8)] [] X (rec v3 v4 v6 v7 v8 X)) (v3 : Int32) (v4 : Int32) (v6 : Int32) (v7 : Int32) (v8 : Int32) (X : St) : G q (mF q nX12_drawn RX12 4) fiw 88 [(0, .ref (q.ad 102)), (3, .int v3), (4, .int v4), (6, .int v6), (7, .int v7), (8, .int v8)] [] X (mo_drawn_L88_B n rec v3 v4 v6 v7 v8 X) := by
  unfold mo_drawn_L88_B
  refine g_iload 5 dX12_drawn_88 rfl rfl ?_
  refine g_iload_n 1 dX12_drawn_90 rfl rfl ?_
  refine g_bipush dX12_drawn_91 rfl kbi_100 ?_
  refine g_idivC dX12_drawn_93 rfl (by decide) ?_
  refine g_icmp_ge dX12_drawn_94 rfl rfl ?_ ?_
  · refine g_aload_n 0 dX12_drawn_97 rfl rfl ?_
    refine g_iconst dX12_drawn_98 rfl kic_1 ?_
    refine g_cVVw (As := [.int (1 : Int32)]) (st := []) 1 mF_wg rfl dX12_drawn_99 rfl kkX12 (by decide) rfl vX12_drifts lkX12_278 (rmL rfl rfl) (mo_drifts_c q n (1 : Int32) X) rfl rfl (Nat.le_of_ble_eq_true rfl) (fun X3 => ?_)
    refine g_aload_n 0 dX12_drawn_102 rfl rfl ?_
    refine g_cVIw (As := []) (st := []) 0 mF_wg rfl dX12_drawn_103 rfl kkX12 (by decide) rfl vX12_marks lkX12_282 (rmL rfl rfl) (mo_marks_c q n X3) rfl rfl (Nat.le_of_ble_eq_true rfl) (fun c5 X4 => ?_)
    refine g_istore (lv' := [(9, .int c5), (0, .ref (q.ad 102)), (3, .int v3), (4, .int v4), (6, .int v6), (7, .int v7), (8, .int v8)]) dX12_drawn_106 rfl (Nat.le_of_ble_eq_true rfl) rfl ?_
    refine g_iload 4 dX12_drawn_108 rfl rfl ?_
    refine g_iload 0 dX12_drawn_110 rfl rfl ?_
    refine g_iadd dX12_drawn_112 rfl ?_
    refine g_istore (lv' := [(6, .int (v6 + c5)), (9, .int c5), (0, .ref (q.ad 102)), (3, .int v3), (4, .int v4), (7, .int v7), (8, .int v8)]) dX12_drawn_113 rfl (Nat.le_of_ble_eq_true rfl) rfl ?_
    refine g_iload 1 dX12_drawn_115 rfl rfl ?_
    refine g_if_ne dX12_drawn_117 rfl rfl ?_ ?_
    · refine g_inc (lv' := [(7, .int (v7 + (1 : Int32))), (6, .int (v6 + c5)), (9, .int c5), (0, .ref (q.ad 102)), (3, .int v3), (4, .int v4), (8, .int v8)]) 5 dX12_drawn_120 rfl rfl kic_1 (Nat.le_of_ble_eq_true rfl) rfl ?_
      refine g_inc (lv' := [(8, .int (v8 + (1 : Int32))), (7, .int (v7 + (1 : Int32))), (6, .int (v6 + c5)), (9, .int c5), (0, .ref (q.ad 102)), (3, .int v3), (4, .int v4)]) 6 dX12_drawn_123 rfl rfl kic_1 (Nat.le_of_ble_eq_true rfl) rfl ?_
      refine g_goto dX12_drawn_126 rfl ?_
      refine g_sub [4, 5, 6, 2, 1, 0] rfl ?_
      exact hrec v3 v4 (v6 + c5) (v7 + (1 : Int32)) (v8 + (1 : Int32)) X4
    refine g_inc (lv' := [(8, .int (v8 + (1 : Int32))), (6, .int (v6 + c5)), (9, .int c5), (0, .ref (q.ad 102)), (3, .int v3), (4, .int v4), (7, .int v7)]) 6 dX12_drawn_123 rfl rfl kic_1 (Nat.le_of_ble_eq_true rfl) rfl ?_
    refine g_goto dX12_drawn_126 rfl ?_
    refine g_sub [3, 4, 5, 1, 6, 0] rfl ?_
    exact hrec v3 v4 (v6 + c5) v7 (v8 + (1 : Int32)) X4
  refine g_iload 2 dX12_drawn_129 rfl rfl ?_
  refine g_if_ne dX12_drawn_131 rfl rfl ?_ ?_
  · refine g_iload 3 dX12_drawn_134 rfl rfl ?_
    refine g_goto dX12_drawn_136 rfl ?_
    exact g_iret dX12_drawn_141 rfl rfl
  refine g_iload 4 dX12_drawn_139 rfl rfl ?_
  exact g_iret dX12_drawn_141 rfl rfl
theorem mo_drawn_L88_g (q : Th) (n : Nat) : ∀ (w : Nat) (v3 : Int32) (v4 : Int32) (v6 : Int32) (v7 : Int32) (v8 : Int32) (X : St), G q (mF q nX12_drawn RX12 4) fiw 88 [(0, .ref (q.ad 102)), (3, .int v3), (4, .int v4), (6, .int v6), (7, .int v7), (8, .int v8)] [] X (mo_drawn_L88 n w v3 v4 v6 v7 v8 X) := by
  intro w
  induction w with
  | zero => intro v3 v4 v6 v7 v8 X; exact g_none
  | succ w ih => intro v3 v4 v6 v7 v8 X; exact mo_drawn_L88_Bg q n _ ih v3 v4 v6 v7 v8 X
theorem mo_drawn_c (q : Th) (n : Nat) (v1 : Int32) (v2 : Int32) (v3 : Int32) (v4 : Int32) (X : St) : Ct q nX12_drawn 4 fiw [.ref (q.ad 102), .int v1, .int v2, .int v3, .int v4] X (mo_drawn n v1 v2 v3 v4 X) := by
  refine ct_of (by decide +kernel) (Nat.le_of_ble_eq_true rfl) ?_
  unfold mo_drawn
  show G q _ _ 0 [(0, .ref (q.ad 102)), (1, .int v1), (2, .int v2), (3, .int v3), (4, .int v4)] [] X _
  refine g_iload_n 1 dX12_drawn_0 rfl rfl ?_
  refine g_cSIt (As := [.int v1]) (st := []) 1 mF_wg rfl dX12_drawn_1 rfl vX12_isShelf lkX12_140 (rmL rfl rfl) (mo_isShelf_c q v1 X) rfl rfl (Nat.le_of_ble_eq_true rfl) ?_
  refine g_if_eq dX12_drawn_4 rfl rfl ?_ ?_
  · refine g_iconst dX12_drawn_43 rfl kic_m1 ?_
    exact g_iret dX12_drawn_44 rfl rfl
  refine g_iload_n 3 dX12_drawn_7 rfl rfl ?_
  refine g_if_lt dX12_drawn_8 rfl rfl ?_ ?_
  · refine g_iconst dX12_drawn_43 rfl kic_m1 ?_
    exact g_iret dX12_drawn_44 rfl rfl
  refine g_iload_n 3 dX12_drawn_11 rfl rfl ?_
  refine g_bipush dX12_drawn_12 rfl kbi_100 ?_
  refine g_idivC dX12_drawn_14 rfl (by decide) ?_
  refine g_iconst dX12_drawn_15 rfl kic_1 ?_
  refine g_bipush dX12_drawn_16 rfl kbi_30 ?_
  refine g_cSIt (As := [.int (v3 / (100 : Int32)), .int (1 : Int32), .int (30 : Int32)]) (st := []) 3 mF_wg rfl dX12_drawn_18 rfl vX12_within lkX12_128 (rmL rfl rfl) (mo_within_c q (v3 / (100 : Int32)) (1 : Int32) (30 : Int32) X) rfl rfl (Nat.le_of_ble_eq_true rfl) ?_
  refine g_if_eq dX12_drawn_21 rfl rfl ?_ ?_
  · refine g_iconst dX12_drawn_43 rfl kic_m1 ?_
    exact g_iret dX12_drawn_44 rfl rfl
  refine g_iload_n 3 dX12_drawn_24 rfl rfl ?_
  refine g_bipush dX12_drawn_25 rfl kbi_100 ?_
  refine g_iremC dX12_drawn_27 rfl (by decide) ?_
  refine g_bipush dX12_drawn_28 rfl kbi_12 ?_
  refine g_icmp_gt dX12_drawn_30 rfl rfl ?_ ?_
  · refine g_iconst dX12_drawn_43 rfl kic_m1 ?_
    exact g_iret dX12_drawn_44 rfl rfl
  refine g_iload 4 dX12_drawn_33 rfl rfl ?_
  refine g_iconst dX12_drawn_35 rfl kic_0 ?_
  refine g_iconst dX12_drawn_36 rfl kic_1 ?_
  refine g_cSIt (As := [.int v4, .int (0 : Int32), .int (1 : Int32)]) (st := []) 3 mF_wg rfl dX12_drawn_37 rfl vX12_within lkX12_128 (rmL rfl rfl) (mo_within_c q v4 (0 : Int32) (1 : Int32) X) rfl rfl (Nat.le_of_ble_eq_true rfl) ?_
  refine g_if_ne dX12_drawn_40 rfl rfl ?_ ?_
  · refine g_iconst dX12_drawn_43 rfl kic_m1 ?_
    exact g_iret dX12_drawn_44 rfl rfl
  refine g_aload_n 0 dX12_drawn_45 rfl rfl ?_
  refine g_iload_n 1 dX12_drawn_46 rfl rfl ?_
  refine g_iconst dX12_drawn_47 rfl kic_0 ?_
  refine g_cVIr (As := [.int v1, .int (0 : Int32)]) (st := []) 2 mF_wg rfl dX12_drawn_48 rfl kkX12 (by decide) rfl vX12_noRow lkX12_288 (rmL rfl rfl) (mo_noRow_c q v1 (0 : Int32) X) rfl rfl (Nat.le_of_ble_eq_true rfl) (fun c1 => ?_)
  refine g_istore (lv' := [(5, .int c1), (0, .ref (q.ad 102)), (1, .int v1), (2, .int v2), (3, .int v3), (4, .int v4)]) dX12_drawn_51 rfl (Nat.le_of_ble_eq_true rfl) rfl ?_
  refine g_iload 0 dX12_drawn_53 rfl rfl ?_
  refine g_if_ge dX12_drawn_55 rfl rfl ?_ ?_
  · refine g_iload 0 dX12_drawn_58 rfl rfl ?_
    exact g_iret dX12_drawn_60 rfl rfl
  refine g_aload_n 1 dX12_drawn_61 rfl rfl ?_
  refine g_iload_n 2 dX12_drawn_62 rfl rfl ?_
  refine g_cVVw (As := [.int v1]) (st := []) 1 mF_wg rfl dX12_drawn_63 rfl kkX12 (by decide) rfl vX12_reads lkX12_291 (rmL rfl rfl) (mo_reads_c q n v1 X) rfl rfl (Nat.le_of_ble_eq_true rfl) (fun X2 => ?_)
  refine g_aload_n 1 dX12_drawn_66 rfl rfl ?_
  refine g_iload_n 3 dX12_drawn_67 rfl rfl ?_
  refine g_putI 102 51 rfl dX12_drawn_68 rfl kkX12 flX12_256 (by decide) rfl rfl (by decide) rfl rfl rfl ?_
  refine g_aload_n 1 dX12_drawn_71 rfl rfl ?_
  refine g_iload_n 4 dX12_drawn_72 rfl rfl ?_
  refine g_bipush dX12_drawn_73 rfl kbi_100 ?_
  refine g_iremC dX12_drawn_75 rfl (by decide) ?_
  refine g_putI 102 52 rfl dX12_drawn_76 rfl kkX12 flX12_260 (by decide) rfl rfl (by decide) rfl rfl rfl ?_
  refine g_iconst dX12_drawn_79 rfl kic_0 ?_
  refine g_istore (lv' := [(6, .int (0 : Int32)), (5, .int c1), (0, .ref (q.ad 102)), (1, .int v1), (2, .int v2), (3, .int v3), (4, .int v4)]) dX12_drawn_80 rfl (Nat.le_of_ble_eq_true rfl) rfl ?_
  refine g_iconst dX12_drawn_82 rfl kic_0 ?_
  refine g_istore (lv' := [(7, .int (0 : Int32)), (6, .int (0 : Int32)), (5, .int c1), (0, .ref (q.ad 102)), (1, .int v1), (2, .int v2), (3, .int v3), (4, .int v4)]) dX12_drawn_83 rfl (Nat.le_of_ble_eq_true rfl) rfl ?_
  refine g_iconst dX12_drawn_85 rfl kic_0 ?_
  refine g_istore (lv' := [(8, .int (0 : Int32)), (7, .int (0 : Int32)), (6, .int (0 : Int32)), (5, .int c1), (0, .ref (q.ad 102)), (1, .int v1), (2, .int v2), (3, .int v3), (4, .int v4)]) dX12_drawn_86 rfl (Nat.le_of_ble_eq_true rfl) rfl ?_
  refine g_sub [4, 7, 8, 2, 1, 0] rfl ?_
  refine mo_drawn_L88_g q n n v3 v4 (0 : Int32) (0 : Int32) (0 : Int32) (stI (stI X2 102 51 v2) 102 52 (irm v3 (100 : Int32)))
def mo_swim_L38_B (n : Nat) (k69 : Int32 → Int32 → St → Option (Int32 × St)) (rec : Int32 → Int32 → Int32 → St → Option (Int32 × St)) (v3 : Int32) (v4 : Int32) (v5 : Int32) (X : St) : Option (Int32 × St) :=
(if v5 < (X.1 102 44) then
(if inB v5 60 then
(if (mo_isUnder (X.1 133 (nx v5))) = 0 then
(rec v3 v4 (v5 + (1 : Int32)) X)
else
(rec v3 (v4 + (1 : Int32)) (v5 + (1 : Int32)) X)) else none)
else
(k69 v3 v4 X))
def mo_swim_L38 (n : Nat) (k69 : Int32 → Int32 → St → Option (Int32 × St)) : Nat → Int32 → Int32 → Int32 → St → Option (Int32 × St)
  | 0 => fun _ _ _ _ => none
  | w + 1 => mo_swim_L38_B n k69 (mo_swim_L38 n k69 w)
def mo_swim_J151 (n : Nat) (k105 : Int32 → Int32 → Int32 → St → Option (Int32 × St)) (v3 : Int32) (v4 : Int32) (v5 : Int32) (X : St) : Option (Int32 × St) :=
(if inB v5 8 then
(if inB v5 8 then
(if inB v5 8 then
(if ((stI X 110 (nx v5) ((X.1 110 (nx v5)) + v4)).1 110 (nx v5)) < (100 : Int32) then
(k105 v3 v4 (v5 + (1 : Int32)) (stI X 110 (nx v5) ((X.1 110 (nx v5)) + v4)))
else
(if inB v5 8 then
((some (stI (stI X 110 (nx v5) ((X.1 110 (nx v5)) + v4)) 110 (nx v5) (0 : Int32))).bind fun X12 =>
((some (stI X12 123 (nx (4 : Int32)) ((X12.1 123 (nx (4 : Int32))) + (1 : Int32)))).bind fun X13 =>
(k105 v3 v4 (v5 + (1 : Int32)) X13))) else none)) else none) else none) else none)
def mo_swim_L105_B (n : Nat) (rec : Int32 → Int32 → Int32 → St → Option (Int32 × St)) (v3 : Int32) (v4 : Int32) (v5 : Int32) (X : St) : Option (Int32 × St) :=
(if v5 < (X.1 102 0) then
(if inB v5 8 then
((mo_goneAt n (X.1 106 (nx v5)) X).bind fun c11 =>
(if c11 = (-2 : Int32) then
(mo_swim_J151 n rec v3 v4 v5 X)
else
(if inB v5 8 then
(if inB v5 8 then
((some (stI (stI X 111 (nx v5) ((X.1 111 (nx v5)) + (1 : Int32))) 123 (nx (3 : Int32)) (((stI X 111 (nx v5) ((X.1 111 (nx v5)) + (1 : Int32))).1 123 (nx (3 : Int32))) + (1 : Int32)))).bind fun X14 =>
(mo_swim_J151 n rec v3 v4 v5 X14)) else none) else none))) else none)
else
(some (v3, X)))
def mo_swim_L105 (n : Nat) : Nat → Int32 → Int32 → Int32 → St → Option (Int32 × St)
  | 0 => fun _ _ _ _ => none
  | w + 1 => mo_swim_L105_B n (mo_swim_L105 n w)
def mo_swim (n : Nat) (v1 : Int32) (X : St) : Option (Int32 × St) :=
  (if (mo_isShelf v1) = 0 then
  (some ((-1 : Int32), X))
  else
  ((mo_noRow v1 (0 : Int32) X).bind fun c1 =>
  (if c1 < 0 then
  (some (c1, X))
  else
  ((mo_reads n v1 X).bind fun X2 =>
  ((mo_marksNow n X2).bind fun (c4, X3) =>
  (mo_swim_L38 n (fun v6 v7 X5 =>
  ((some (stI X5 123 (nx (0 : Int32)) ((X5.1 123 (nx (0 : Int32))) + (1 : Int32)))).bind fun X8 =>
  ((some (stI X8 123 (nx (1 : Int32)) ((X8.1 123 (nx (1 : Int32))) + (X8.1 102 44)))).bind fun X9 =>
  ((some (stI X9 123 (nx (2 : Int32)) ((X9.1 123 (nx (2 : Int32))) + v6))).bind fun X10 =>
  (mo_swim_L105 n n v6 v7 (0 : Int32) X10))))) n c4 (0 : Int32) (0 : Int32) X3))))))
theorem mo_swim_L38_Bg (q : Th) (n : Nat) (k69 : Int32 → Int32 → St → Option (Int32 × St)) (hk69 : ∀ v3 v4 X, G q (mF q nX12_swim RX12 5) fiw 69 [(0, .ref (q.ad 102)), (3, .int v3), (4, .int v4)] [] X (k69 v3 v4 X)) (rec : Int32 → Int32 → Int32 → St → Option (Int32 × St)) (hrec : ∀ v3 v4 v5 X, G q (mF q nX12_swim RX12 5) fiw 38 [(0, .ref (q.ad 102)), (3, .int v3), (4, .int v4), (5, .int v5)] [] X (rec v3 v4 v5 X)) (v3 : Int32) (v4 : Int32) (v5 : Int32) (X : St) : G q (mF q nX12_swim RX12 5) fiw 38 [(0, .ref (q.ad 102)), (3, .int v3), (4, .int v4), (5, .int v5)] [] X (mo_swim_L38_B n k69 rec v3 v4 v5 X) := by
  unfold mo_swim_L38_B
  refine g_iload 3 dX12_swim_38 rfl rfl ?_
  refine g_aload_n 0 dX12_swim_40 rfl rfl ?_
  refine g_getI 102 44 rfl dX12_swim_41 rfl kkX12 flX12_253 (by decide) rfl rfl (by decide) rfl ?_
  refine g_icmp_ge dX12_swim_44 rfl rfl ?_ ?_
  · refine g_aload_n 0 dX12_swim_47 rfl rfl ?_
    refine g_getR 102 45 133 rfl dX12_swim_48 rfl kkX12 flX12_103 (by decide) rfl rfl (by decide) rfl ?_
    refine g_iload 3 dX12_swim_51 rfl rfl ?_
    refine g_iald dX12_swim_53 rfl (by decide) rfl rfl ?_
    refine g_cSIt (As := [.int (X.1 133 (nx v5))]) (st := []) 1 mF_wg rfl dX12_swim_54 rfl vX12_isUnder lkX12_304 (rmL rfl rfl) (mo_isUnder_c q (X.1 133 (nx v5)) X) rfl rfl (Nat.le_of_ble_eq_true rfl) ?_
    refine g_if_eq dX12_swim_57 rfl rfl ?_ ?_
    · refine g_inc (lv' := [(5, .int (v5 + (1 : Int32))), (0, .ref (q.ad 102)), (3, .int v3), (4, .int v4)]) 3 dX12_swim_63 rfl rfl kic_1 (Nat.le_of_ble_eq_true rfl) rfl ?_
      refine g_goto dX12_swim_66 rfl ?_
      refine g_sub [1, 2, 3, 0] rfl ?_
      exact hrec v3 v4 (v5 + (1 : Int32)) X
    refine g_inc (lv' := [(4, .int (v4 + (1 : Int32))), (0, .ref (q.ad 102)), (3, .int v3), (5, .int v5)]) 2 dX12_swim_60 rfl rfl kic_1 (Nat.le_of_ble_eq_true rfl) rfl ?_
    refine g_inc (lv' := [(5, .int (v5 + (1 : Int32))), (4, .int (v4 + (1 : Int32))), (0, .ref (q.ad 102)), (3, .int v3)]) 3 dX12_swim_63 rfl rfl kic_1 (Nat.le_of_ble_eq_true rfl) rfl ?_
    refine g_goto dX12_swim_66 rfl ?_
    refine g_sub [2, 3, 1, 0] rfl ?_
    exact hrec v3 (v4 + (1 : Int32)) (v5 + (1 : Int32)) X
  refine g_sub [0, 1, 2] rfl ?_
  exact hk69 v3 v4 X
theorem mo_swim_L38_g (q : Th) (n : Nat) (k69 : Int32 → Int32 → St → Option (Int32 × St)) (hk69 : ∀ v3 v4 X, G q (mF q nX12_swim RX12 5) fiw 69 [(0, .ref (q.ad 102)), (3, .int v3), (4, .int v4)] [] X (k69 v3 v4 X)) : ∀ (w : Nat) (v3 : Int32) (v4 : Int32) (v5 : Int32) (X : St), G q (mF q nX12_swim RX12 5) fiw 38 [(0, .ref (q.ad 102)), (3, .int v3), (4, .int v4), (5, .int v5)] [] X (mo_swim_L38 n k69 w v3 v4 v5 X) := by
  intro w
  induction w with
  | zero => intro v3 v4 v5 X; exact g_none
  | succ w ih => intro v3 v4 v5 X; exact mo_swim_L38_Bg q n k69 hk69 _ ih v3 v4 v5 X
theorem mo_swim_J151_g (q : Th) (n : Nat) (k105 : Int32 → Int32 → Int32 → St → Option (Int32 × St)) (hk105 : ∀ v3 v4 v5 X, G q (mF q nX12_swim RX12 5) fiw 105 [(0, .ref (q.ad 102)), (3, .int v3), (4, .int v4), (5, .int v5)] [] X (k105 v3 v4 v5 X)) (v3 : Int32) (v4 : Int32) (v5 : Int32) (X : St) : G q (mF q nX12_swim RX12 5) fiw 151 [(0, .ref (q.ad 102)), (3, .int v3), (4, .int v4), (5, .int v5)] [] X (mo_swim_J151 n k105 v3 v4 v5 X) := by
  unfold mo_swim_J151
  refine g_aload_n 0 dX12_swim_151 rfl rfl ?_
  refine g_getR 102 8 110 rfl dX12_swim_152 rfl kkX12 flX12_33 (by decide) rfl rfl (by decide) rfl ?_
  refine g_iload 3 dX12_swim_155 rfl rfl ?_
  refine g_dup2 dX12_swim_157 rfl rfl rfl ?_
  refine g_iald dX12_swim_158 rfl (by decide) rfl rfl ?_
  refine g_iload 2 dX12_swim_159 rfl rfl ?_
  refine g_iadd dX12_swim_161 rfl ?_
  refine g_iast dX12_swim_162 rfl (by decide) rfl rfl ?_
  refine g_aload_n 0 dX12_swim_163 rfl rfl ?_
  refine g_getR 102 8 110 rfl dX12_swim_164 rfl kkX12 flX12_33 (by decide) rfl rfl (by decide) rfl ?_
  refine g_iload 3 dX12_swim_167 rfl rfl ?_
  refine g_iald dX12_swim_169 rfl (by decide) rfl rfl ?_
  refine g_bipush dX12_swim_170 rfl kbi_100 ?_
  refine g_icmp_ge dX12_swim_172 rfl rfl ?_ ?_
  · refine g_goto dX12_swim_175 rfl ?_
    refine g_inc (lv' := [(5, .int (v5 + (1 : Int32))), (0, .ref (q.ad 102)), (3, .int v3), (4, .int v4)]) 3 dX12_swim_196 rfl rfl kic_1 (Nat.le_of_ble_eq_true rfl) rfl ?_
    refine g_goto dX12_swim_199 rfl ?_
    refine g_sub [1, 2, 3, 0] rfl ?_
    exact hk105 v3 v4 (v5 + (1 : Int32)) (stI X 110 (nx v5) ((X.1 110 (nx v5)) + v4))
  refine g_aload_n 0 dX12_swim_178 rfl rfl ?_
  refine g_getR 102 8 110 rfl dX12_swim_179 rfl kkX12 flX12_33 (by decide) rfl rfl (by decide) rfl ?_
  refine g_iload 3 dX12_swim_182 rfl rfl ?_
  refine g_iconst dX12_swim_184 rfl kic_0 ?_
  refine g_iast dX12_swim_185 rfl (by decide) rfl rfl ?_
  refine g_nmX (fun X12 => ?_)
  refine g_aload_n 0 dX12_swim_186 rfl rfl ?_
  refine g_getR 102 28 123 rfl dX12_swim_187 rfl kkX12 flX12_72 (by decide) rfl rfl (by decide) rfl ?_
  refine g_iconst dX12_swim_190 rfl kic_4 ?_
  refine g_dup2 dX12_swim_191 rfl rfl rfl ?_
  refine g_iald0 dX12_swim_192 rfl (by decide) rfl rfl (by decide) ?_
  refine g_iconst dX12_swim_193 rfl kic_1 ?_
  refine g_iadd dX12_swim_194 rfl ?_
  refine g_iast0 dX12_swim_195 rfl (by decide) rfl rfl (by decide) ?_
  refine g_nmX (fun X13 => ?_)
  refine g_inc (lv' := [(5, .int (v5 + (1 : Int32))), (0, .ref (q.ad 102)), (3, .int v3), (4, .int v4)]) 3 dX12_swim_196 rfl rfl kic_1 (Nat.le_of_ble_eq_true rfl) rfl ?_
  refine g_goto dX12_swim_199 rfl ?_
  refine g_sub [1, 2, 3, 0] rfl ?_
  exact hk105 v3 v4 (v5 + (1 : Int32)) X13
theorem mo_swim_L105_Bg (q : Th) (n : Nat) (rec : Int32 → Int32 → Int32 → St → Option (Int32 × St)) (hrec : ∀ v3 v4 v5 X, G q (mF q nX12_swim RX12 5) fiw 105 [(0, .ref (q.ad 102)), (3, .int v3), (4, .int v4), (5, .int v5)] [] X (rec v3 v4 v5 X)) (v3 : Int32) (v4 : Int32) (v5 : Int32) (X : St) : G q (mF q nX12_swim RX12 5) fiw 105 [(0, .ref (q.ad 102)), (3, .int v3), (4, .int v4), (5, .int v5)] [] X (mo_swim_L105_B n rec v3 v4 v5 X) := by
  unfold mo_swim_L105_B
  refine g_iload 3 dX12_swim_105 rfl rfl ?_
  refine g_aload_n 0 dX12_swim_107 rfl rfl ?_
  refine g_getI 102 0 rfl dX12_swim_108 rfl kkX12 flX12_125 (by decide) rfl rfl (by decide) rfl ?_
  refine g_icmp_ge dX12_swim_111 rfl rfl ?_ ?_
  · refine g_aload_n 0 dX12_swim_114 rfl rfl ?_
    refine g_aload_n 0 dX12_swim_115 rfl rfl ?_
    refine g_getR 102 4 106 rfl dX12_swim_116 rfl kkX12 flX12_21 (by decide) rfl rfl (by decide) rfl ?_
    refine g_iload 3 dX12_swim_119 rfl rfl ?_
    refine g_iald dX12_swim_121 rfl (by decide) rfl rfl ?_
    refine g_cVIr (As := [.int (X.1 106 (nx v5))]) (st := []) 1 mF_wg rfl dX12_swim_122 rfl kkX12 (by decide) rfl vX12_goneAt lkX12_307 (rmL rfl rfl) (mo_goneAt_c q n (X.1 106 (nx v5)) X) rfl rfl (Nat.le_of_ble_eq_true rfl) (fun c11 => ?_)
    refine g_bipush dX12_swim_125 rfl kbi_m2 ?_
    refine g_icmp_eq dX12_swim_127 rfl rfl ?_ ?_
    · refine g_sub [0, 1, 2, 3] rfl ?_
      exact mo_swim_J151_g q n _ hrec v3 v4 v5 X
    refine g_aload_n 0 dX12_swim_130 rfl rfl ?_
    refine g_getR 102 9 111 rfl dX12_swim_131 rfl kkX12 flX12_36 (by decide) rfl rfl (by decide) rfl ?_
    refine g_iload 3 dX12_swim_134 rfl rfl ?_
    refine g_dup2 dX12_swim_136 rfl rfl rfl ?_
    refine g_iald dX12_swim_137 rfl (by decide) rfl rfl ?_
    refine g_iconst dX12_swim_138 rfl kic_1 ?_
    refine g_iadd dX12_swim_139 rfl ?_
    refine g_iast dX12_swim_140 rfl (by decide) rfl rfl ?_
    refine g_aload_n 0 dX12_swim_141 rfl rfl ?_
    refine g_getR 102 28 123 rfl dX12_swim_142 rfl kkX12 flX12_72 (by decide) rfl rfl (by decide) rfl ?_
    refine g_iconst dX12_swim_145 rfl kic_3 ?_
    refine g_dup2 dX12_swim_146 rfl rfl rfl ?_
    refine g_iald0 dX12_swim_147 rfl (by decide) rfl rfl (by decide) ?_
    refine g_iconst dX12_swim_148 rfl kic_1 ?_
    refine g_iadd dX12_swim_149 rfl ?_
    refine g_iast0 dX12_swim_150 rfl (by decide) rfl rfl (by decide) ?_
    refine g_nmX (fun X14 => ?_)
    refine g_sub [0, 1, 2, 3] rfl ?_
    exact mo_swim_J151_g q n _ hrec v3 v4 v5 X14
  refine g_iload_n 1 dX12_swim_202 rfl rfl ?_
  exact g_iret dX12_swim_203 rfl rfl
theorem mo_swim_L105_g (q : Th) (n : Nat) : ∀ (w : Nat) (v3 : Int32) (v4 : Int32) (v5 : Int32) (X : St), G q (mF q nX12_swim RX12 5) fiw 105 [(0, .ref (q.ad 102)), (3, .int v3), (4, .int v4), (5, .int v5)] [] X (mo_swim_L105 n w v3 v4 v5 X) := by
  intro w
  induction w with
  | zero => intro v3 v4 v5 X; exact g_none
  | succ w ih => intro v3 v4 v5 X; exact mo_swim_L105_Bg q n _ ih v3 v4 v5 X
theorem mo_swim_c (q : Th) (n : Nat) (v1 : Int32) (X : St) : Ct q nX12_swim 5 fiw [.ref (q.ad 102), .int v1] X (mo_swim n v1 X) := by
  refine ct_of (by decide +kernel) (Nat.le_of_ble_eq_true rfl) ?_
  unfold mo_swim
  show G q _ _ 0 [(0, .ref (q.ad 102)), (1, .int v1)] [] X _
  refine g_iload_n 1 dX12_swim_0 rfl rfl ?_
  refine g_cSIt (As := [.int v1]) (st := []) 1 mF_wg rfl dX12_swim_1 rfl vX12_isShelf lkX12_140 (rmL rfl rfl) (mo_isShelf_c q v1 X) rfl rfl (Nat.le_of_ble_eq_true rfl) ?_
  refine g_if_ne dX12_swim_4 rfl rfl ?_ ?_
  · refine g_iconst dX12_swim_7 rfl kic_m1 ?_
    exact g_iret dX12_swim_8 rfl rfl
  refine g_aload_n 0 dX12_swim_9 rfl rfl ?_
  refine g_iload_n 1 dX12_swim_10 rfl rfl ?_
  refine g_iconst dX12_swim_11 rfl kic_0 ?_
  refine g_cVIr (As := [.int v1, .int (0 : Int32)]) (st := []) 2 mF_wg rfl dX12_swim_12 rfl kkX12 (by decide) rfl vX12_noRow lkX12_288 (rmL rfl rfl) (mo_noRow_c q v1 (0 : Int32) X) rfl rfl (Nat.le_of_ble_eq_true rfl) (fun c1 => ?_)
  refine g_istore_n (lv' := [(2, .int c1), (0, .ref (q.ad 102)), (1, .int v1)]) dX12_swim_15 rfl rfl (Nat.le_of_ble_eq_true rfl) rfl ?_
  refine g_iload_n 0 dX12_swim_16 rfl rfl ?_
  refine g_if_ge dX12_swim_17 rfl rfl ?_ ?_
  · refine g_iload_n 0 dX12_swim_20 rfl rfl ?_
    exact g_iret dX12_swim_21 rfl rfl
  refine g_aload_n 1 dX12_swim_22 rfl rfl ?_
  refine g_iload_n 2 dX12_swim_23 rfl rfl ?_
  refine g_cVVw (As := [.int v1]) (st := []) 1 mF_wg rfl dX12_swim_24 rfl kkX12 (by decide) rfl vX12_reads lkX12_291 (rmL rfl rfl) (mo_reads_c q n v1 X) rfl rfl (Nat.le_of_ble_eq_true rfl) (fun X2 => ?_)
  refine g_aload_n 1 dX12_swim_27 rfl rfl ?_
  refine g_cVIw (As := []) (st := []) 0 mF_wg rfl dX12_swim_28 rfl kkX12 (by decide) rfl vX12_marksNow lkX12_295 (rmL rfl rfl) (mo_marksNow_c q n X2) rfl rfl (Nat.le_of_ble_eq_true rfl) (fun c4 X3 => ?_)
  refine g_istore_n (lv' := [(3, .int c4), (2, .int c1), (0, .ref (q.ad 102)), (1, .int v1)]) dX12_swim_31 rfl rfl (Nat.le_of_ble_eq_true rfl) rfl ?_
  refine g_iconst dX12_swim_32 rfl kic_0 ?_
  refine g_istore (lv' := [(4, .int (0 : Int32)), (3, .int c4), (2, .int c1), (0, .ref (q.ad 102)), (1, .int v1)]) dX12_swim_33 rfl (Nat.le_of_ble_eq_true rfl) rfl ?_
  refine g_iconst dX12_swim_35 rfl kic_0 ?_
  refine g_istore (lv' := [(5, .int (0 : Int32)), (4, .int (0 : Int32)), (3, .int c4), (2, .int c1), (0, .ref (q.ad 102)), (1, .int v1)]) dX12_swim_36 rfl (Nat.le_of_ble_eq_true rfl) rfl ?_
  refine g_sub [4, 2, 1, 0] rfl ?_
  refine mo_swim_L38_g q n _ (fun v6 v7 X5 => ?_) n c4 (0 : Int32) (0 : Int32) X3
  refine g_aload_n 0 dX12_swim_69 rfl rfl ?_
  refine g_getR 102 28 123 rfl dX12_swim_70 rfl kkX12 flX12_72 (by decide) rfl rfl (by decide) rfl ?_
  refine g_iconst dX12_swim_73 rfl kic_0 ?_
  refine g_dup2 dX12_swim_74 rfl rfl rfl ?_
  refine g_iald0 dX12_swim_75 rfl (by decide) rfl rfl (by decide) ?_
  refine g_iconst dX12_swim_76 rfl kic_1 ?_
  refine g_iadd dX12_swim_77 rfl ?_
  refine g_iast0 dX12_swim_78 rfl (by decide) rfl rfl (by decide) ?_
  refine g_nmX (fun X8 => ?_)
  refine g_aload_n 0 dX12_swim_79 rfl rfl ?_
  refine g_getR 102 28 123 rfl dX12_swim_80 rfl kkX12 flX12_72 (by decide) rfl rfl (by decide) rfl ?_
  refine g_iconst dX12_swim_83 rfl kic_1 ?_
  refine g_dup2 dX12_swim_84 rfl rfl rfl ?_
  refine g_iald0 dX12_swim_85 rfl (by decide) rfl rfl (by decide) ?_
  refine g_aload_n 0 dX12_swim_86 rfl rfl ?_
  refine g_getI 102 44 rfl dX12_swim_87 rfl kkX12 flX12_253 (by decide) rfl rfl (by decide) rfl ?_
  refine g_iadd dX12_swim_90 rfl ?_
  refine g_iast0 dX12_swim_91 rfl (by decide) rfl rfl (by decide) ?_
  refine g_nmX (fun X9 => ?_)
  refine g_aload_n 0 dX12_swim_92 rfl rfl ?_
  refine g_getR 102 28 123 rfl dX12_swim_93 rfl kkX12 flX12_72 (by decide) rfl rfl (by decide) rfl ?_
  refine g_iconst dX12_swim_96 rfl kic_2 ?_
  refine g_dup2 dX12_swim_97 rfl rfl rfl ?_
  refine g_iald0 dX12_swim_98 rfl (by decide) rfl rfl (by decide) ?_
  refine g_iload_n 1 dX12_swim_99 rfl rfl ?_
  refine g_iadd dX12_swim_100 rfl ?_
  refine g_iast0 dX12_swim_101 rfl (by decide) rfl rfl (by decide) ?_
  refine g_nmX (fun X10 => ?_)
  refine g_iconst dX12_swim_102 rfl kic_0 ?_
  refine g_istore (lv' := [(5, .int (0 : Int32)), (0, .ref (q.ad 102)), (3, .int v6), (4, .int v7)]) dX12_swim_103 rfl (Nat.le_of_ble_eq_true rfl) rfl ?_
  refine g_sub [1, 2, 3, 0] rfl ?_
  refine mo_swim_L105_g q n n v6 v7 (0 : Int32) X10
def mo_led (v1 : Int32) (X : St) : Option (Int32) :=
  (if (mo_within v1 (0 : Int32) (4 : Int32)) = 0 then
  (some (-1 : Int32))
  else
  (if inB v1 5 then
  (some (X.1 123 (nx v1))) else none))
theorem mo_led_c (q : Th) (v1 : Int32) (X : St) : Ct q nX12_led 1 (fir X) [.ref (q.ad 102), .int v1] X (mo_led v1 X) := by
  refine ct_of (by decide +kernel) (Nat.le_of_ble_eq_true rfl) ?_
  unfold mo_led
  show G q _ _ 0 [(0, .ref (q.ad 102)), (1, .int v1)] [] X _
  refine g_iload_n 1 dX12_led_0 rfl rfl ?_
  refine g_iconst dX12_led_1 rfl kic_0 ?_
  refine g_iconst dX12_led_2 rfl kic_4 ?_
  refine g_cSIt (As := [.int v1, .int (0 : Int32), .int (4 : Int32)]) (st := []) 3 mF_wg rfl dX12_led_3 rfl vX12_within lkX12_128 (rmL rfl rfl) (mo_within_c q v1 (0 : Int32) (4 : Int32) X) rfl rfl (Nat.le_of_ble_eq_true rfl) ?_
  refine g_if_eq dX12_led_6 rfl rfl ?_ ?_
  · refine g_iconst dX12_led_18 rfl kic_m1 ?_
    exact g_iret dX12_led_19 rfl rfl
  refine g_aload_n 0 dX12_led_9 rfl rfl ?_
  refine g_getR 102 28 123 rfl dX12_led_10 rfl kkX12 flX12_72 (by decide) rfl rfl (by decide) rfl ?_
  refine g_iload_n 1 dX12_led_13 rfl rfl ?_
  refine g_iald dX12_led_14 rfl (by decide) rfl rfl ?_
  refine g_goto dX12_led_15 rfl ?_
  exact g_iret dX12_led_19 rfl rfl
def mo_image_L15_B (n : Nat) (k51 : St → Option (Int32 × St)) (rec : Int32 → St → Option (Int32 × St)) (v1 : Int32) (X : St) : Option (Int32 × St) :=
(if v1 < (8 : Int32) then
(if inB v1 8 then
(if inB v1 8 then
(if inB v1 8 then
(if inB v1 8 then
((some (stI (stI X 124 (nx v1) (X.1 110 (nx v1))) 125 (nx v1) ((stI X 124 (nx v1) (X.1 110 (nx v1))).1 111 (nx v1)))).bind fun X2 =>
(rec (v1 + (1 : Int32)) X2)) else none) else none) else none) else none)
else
(k51 X))
def mo_image_L15 (n : Nat) (k51 : St → Option (Int32 × St)) : Nat → Int32 → St → Option (Int32 × St)
  | 0 => fun _ _ => none
  | w + 1 => mo_image_L15_B n k51 (mo_image_L15 n k51 w)
def mo_image_L53_B (n : Nat) (rec : Int32 → St → Option (Int32 × St)) (v1 : Int32) (X : St) : Option (Int32 × St) :=
(if v1 < (5 : Int32) then
(if inB v1 5 then
(if inB v1 5 then
(rec (v1 + (1 : Int32)) (stI X 126 (nx v1) (X.1 123 (nx v1)))) else none) else none)
else
(some ((X.1 123 (nx (0 : Int32))), X)))
def mo_image_L53 (n : Nat) : Nat → Int32 → St → Option (Int32 × St)
  | 0 => fun _ _ => none
  | w + 1 => mo_image_L53_B n (mo_image_L53 n w)
def mo_image (n : Nat) (X : St) : Option (Int32 × St) :=
  ((some (stI (stI X 102 29 (1 : Int32)) 102 30 ((stI X 102 29 (1 : Int32)).1 102 0))).bind fun X1 =>
  (mo_image_L15 n (fun X3 =>
  (mo_image_L53 n n (0 : Int32) X3)) n (0 : Int32) X1))
theorem mo_image_L15_Bg (q : Th) (n : Nat) (k51 : St → Option (Int32 × St)) (hk51 : ∀ X, G q (mF q nX12_image RX12 0) fiw 51 [(0, .ref (q.ad 102))] [] X (k51 X)) (rec : Int32 → St → Option (Int32 × St)) (hrec : ∀ v1 X, G q (mF q nX12_image RX12 0) fiw 15 [(0, .ref (q.ad 102)), (1, .int v1)] [] X (rec v1 X)) (v1 : Int32) (X : St) : G q (mF q nX12_image RX12 0) fiw 15 [(0, .ref (q.ad 102)), (1, .int v1)] [] X (mo_image_L15_B n k51 rec v1 X) := by
  unfold mo_image_L15_B
  refine g_iload_n 1 dX12_image_15 rfl rfl ?_
  refine g_bipush dX12_image_16 rfl kbi_8 ?_
  refine g_icmp_ge dX12_image_18 rfl rfl ?_ ?_
  · refine g_aload_n 0 dX12_image_21 rfl rfl ?_
    refine g_getR 102 31 124 rfl dX12_image_22 rfl kkX12 flX12_75 (by decide) rfl rfl (by decide) rfl ?_
    refine g_iload_n 1 dX12_image_25 rfl rfl ?_
    refine g_aload_n 0 dX12_image_26 rfl rfl ?_
    refine g_getR 102 8 110 rfl dX12_image_27 rfl kkX12 flX12_33 (by decide) rfl rfl (by decide) rfl ?_
    refine g_iload_n 1 dX12_image_30 rfl rfl ?_
    refine g_iald dX12_image_31 rfl (by decide) rfl rfl ?_
    refine g_iast dX12_image_32 rfl (by decide) rfl rfl ?_
    refine g_aload_n 0 dX12_image_33 rfl rfl ?_
    refine g_getR 102 32 125 rfl dX12_image_34 rfl kkX12 flX12_78 (by decide) rfl rfl (by decide) rfl ?_
    refine g_iload_n 1 dX12_image_37 rfl rfl ?_
    refine g_aload_n 0 dX12_image_38 rfl rfl ?_
    refine g_getR 102 9 111 rfl dX12_image_39 rfl kkX12 flX12_36 (by decide) rfl rfl (by decide) rfl ?_
    refine g_iload_n 1 dX12_image_42 rfl rfl ?_
    refine g_iald dX12_image_43 rfl (by decide) rfl rfl ?_
    refine g_iast dX12_image_44 rfl (by decide) rfl rfl ?_
    refine g_nmX (fun X2 => ?_)
    refine g_inc (lv' := [(1, .int (v1 + (1 : Int32))), (0, .ref (q.ad 102))]) 1 dX12_image_45 rfl rfl kic_1 (Nat.le_of_ble_eq_true rfl) rfl ?_
    refine g_goto dX12_image_48 rfl ?_
    refine g_sub [1, 0] rfl ?_
    exact hrec (v1 + (1 : Int32)) X2
  refine g_sub [0] rfl ?_
  exact hk51 X
theorem mo_image_L15_g (q : Th) (n : Nat) (k51 : St → Option (Int32 × St)) (hk51 : ∀ X, G q (mF q nX12_image RX12 0) fiw 51 [(0, .ref (q.ad 102))] [] X (k51 X)) : ∀ (w : Nat) (v1 : Int32) (X : St), G q (mF q nX12_image RX12 0) fiw 15 [(0, .ref (q.ad 102)), (1, .int v1)] [] X (mo_image_L15 n k51 w v1 X) := by
  intro w
  induction w with
  | zero => intro v1 X; exact g_none
  | succ w ih => intro v1 X; exact mo_image_L15_Bg q n k51 hk51 _ ih v1 X
theorem mo_image_L53_Bg (q : Th) (n : Nat) (rec : Int32 → St → Option (Int32 × St)) (hrec : ∀ v1 X, G q (mF q nX12_image RX12 0) fiw 53 [(0, .ref (q.ad 102)), (1, .int v1)] [] X (rec v1 X)) (v1 : Int32) (X : St) : G q (mF q nX12_image RX12 0) fiw 53 [(0, .ref (q.ad 102)), (1, .int v1)] [] X (mo_image_L53_B n rec v1 X) := by
  unfold mo_image_L53_B
  refine g_iload_n 1 dX12_image_53 rfl rfl ?_
  refine g_iconst dX12_image_54 rfl kic_5 ?_
  refine g_icmp_ge dX12_image_55 rfl rfl ?_ ?_
  · refine g_aload_n 0 dX12_image_58 rfl rfl ?_
    refine g_getR 102 33 126 rfl dX12_image_59 rfl kkX12 flX12_81 (by decide) rfl rfl (by decide) rfl ?_
    refine g_iload_n 1 dX12_image_62 rfl rfl ?_
    refine g_aload_n 0 dX12_image_63 rfl rfl ?_
    refine g_getR 102 28 123 rfl dX12_image_64 rfl kkX12 flX12_72 (by decide) rfl rfl (by decide) rfl ?_
    refine g_iload_n 1 dX12_image_67 rfl rfl ?_
    refine g_iald dX12_image_68 rfl (by decide) rfl rfl ?_
    refine g_iast dX12_image_69 rfl (by decide) rfl rfl ?_
    refine g_inc (lv' := [(1, .int (v1 + (1 : Int32))), (0, .ref (q.ad 102))]) 1 dX12_image_70 rfl rfl kic_1 (Nat.le_of_ble_eq_true rfl) rfl ?_
    refine g_goto dX12_image_73 rfl ?_
    refine g_sub [1, 0] rfl ?_
    exact hrec (v1 + (1 : Int32)) (stI X 126 (nx v1) (X.1 123 (nx v1)))
  refine g_aload_n 0 dX12_image_76 rfl rfl ?_
  refine g_getR 102 28 123 rfl dX12_image_77 rfl kkX12 flX12_72 (by decide) rfl rfl (by decide) rfl ?_
  refine g_iconst dX12_image_80 rfl kic_0 ?_
  refine g_iald0 dX12_image_81 rfl (by decide) rfl rfl (by decide) ?_
  exact g_iret dX12_image_82 rfl rfl
theorem mo_image_L53_g (q : Th) (n : Nat) : ∀ (w : Nat) (v1 : Int32) (X : St), G q (mF q nX12_image RX12 0) fiw 53 [(0, .ref (q.ad 102)), (1, .int v1)] [] X (mo_image_L53 n w v1 X) := by
  intro w
  induction w with
  | zero => intro v1 X; exact g_none
  | succ w ih => intro v1 X; exact mo_image_L53_Bg q n _ ih v1 X
theorem mo_image_c (q : Th) (n : Nat) (X : St) : Ct q nX12_image 0 fiw [.ref (q.ad 102)] X (mo_image n X) := by
  refine ct_of (by decide +kernel) (Nat.le_of_ble_eq_true rfl) ?_
  unfold mo_image
  show G q _ _ 0 [(0, .ref (q.ad 102))] [] X _
  refine g_aload_n 0 dX12_image_0 rfl rfl ?_
  refine g_iconst dX12_image_1 rfl kic_1 ?_
  refine g_putC (t := .boolean) 102 29 rfl dX12_image_2 rfl kkX12 flX12_354 (by decide) rfl rfl (by decide) rfl rfl (by decide +kernel) rfl rfl ?_
  refine g_aload_n 0 dX12_image_5 rfl rfl ?_
  refine g_aload_n 0 dX12_image_6 rfl rfl ?_
  refine g_getI 102 0 rfl dX12_image_7 rfl kkX12 flX12_125 (by decide) rfl rfl (by decide) rfl ?_
  refine g_putI 102 30 rfl dX12_image_10 rfl kkX12 flX12_357 (by decide) rfl rfl (by decide) rfl rfl rfl ?_
  refine g_nmX (fun X1 => ?_)
  refine g_iconst dX12_image_13 rfl kic_0 ?_
  refine g_istore_n (lv' := [(1, .int (0 : Int32)), (0, .ref (q.ad 102))]) dX12_image_14 rfl rfl (Nat.le_of_ble_eq_true rfl) rfl ?_
  refine g_sub [1, 0] rfl ?_
  refine mo_image_L15_g q n _ (fun X3 => ?_) n (0 : Int32) X1
  refine g_iconst dX12_image_51 rfl kic_0 ?_
  refine g_istore_n (lv' := [(1, .int (0 : Int32)), (0, .ref (q.ad 102))]) dX12_image_52 rfl rfl (Nat.le_of_ble_eq_true rfl) rfl ?_
  refine g_sub [1, 0] rfl ?_
  refine mo_image_L53_g q n n (0 : Int32) X3
def mo_back_J41 (n : Nat) (k12 : Int32 → St → Option (Int32 × St)) (v1 : Int32) (s0 : Int32) (s1 : Int32) (X : St) : Option (Int32 × St) :=
(if inB s1 8 then
(if v1 < ((stI X 110 (nx s1) s0).1 102 30) then
(if inB v1 8 then
(if inB v1 8 then
((some (stI (stI X 110 (nx s1) s0) 111 (nx v1) ((stI X 110 (nx s1) s0).1 125 (nx v1)))).bind fun X1 =>
(k12 (v1 + (1 : Int32)) X1)) else none) else none)
else
(if inB v1 8 then
(k12 (v1 + (1 : Int32)) (stI (stI X 110 (nx s1) s0) 111 (nx v1) (0 : Int32))) else none)) else none)
def mo_back_L12_B (n : Nat) (k72 : St → Option (Int32 × St)) (rec : Int32 → St → Option (Int32 × St)) (v1 : Int32) (X : St) : Option (Int32 × St) :=
(if v1 < (8 : Int32) then
(if v1 < (X.1 102 30) then
(if inB v1 8 then
(mo_back_J41 n rec v1 (X.1 124 (nx v1)) v1 X) else none)
else
(mo_back_J41 n rec v1 (0 : Int32) v1 X))
else
(k72 X))
def mo_back_L12 (n : Nat) (k72 : St → Option (Int32 × St)) : Nat → Int32 → St → Option (Int32 × St)
  | 0 => fun _ _ => none
  | w + 1 => mo_back_L12_B n k72 (mo_back_L12 n k72 w)
def mo_back_L74_B (n : Nat) (rec : Int32 → St → Option (Int32 × St)) (v1 : Int32) (X : St) : Option (Int32 × St) :=
(if v1 < (5 : Int32) then
(if inB v1 5 then
(if inB v1 5 then
(rec (v1 + (1 : Int32)) (stI X 123 (nx v1) (X.1 126 (nx v1)))) else none) else none)
else
(some ((X.1 123 (nx (0 : Int32))), X)))
def mo_back_L74 (n : Nat) : Nat → Int32 → St → Option (Int32 × St)
  | 0 => fun _ _ => none
  | w + 1 => mo_back_L74_B n (mo_back_L74 n w)
def mo_back (n : Nat) (X : St) : Option (Int32 × St) :=
  (if (X.1 102 29) = 0 then
  (some ((-5 : Int32), X))
  else
  (mo_back_L12 n (fun X2 =>
  (mo_back_L74 n n (0 : Int32) X2)) n (0 : Int32) X))
theorem mo_back_J41_g (q : Th) (n : Nat) (k12 : Int32 → St → Option (Int32 × St)) (hk12 : ∀ v1 X, G q (mF q nX12_back RX12 0) fiw 12 [(0, .ref (q.ad 102)), (1, .int v1)] [] X (k12 v1 X)) (v1 : Int32) (s0 : Int32) (s1 : Int32) (X : St) : G q (mF q nX12_back RX12 0) fiw 41 [(0, .ref (q.ad 102)), (1, .int v1)] [.int s0, .int s1, .ref (q.ad 110)] X (mo_back_J41 n k12 v1 s0 s1 X) := by
  unfold mo_back_J41
  refine g_iast dX12_back_41 rfl (by decide) rfl rfl ?_
  refine g_aload_n 0 dX12_back_42 rfl rfl ?_
  refine g_getR 102 9 111 rfl dX12_back_43 rfl kkX12 flX12_36 (by decide) rfl rfl (by decide) rfl ?_
  refine g_iload_n 1 dX12_back_46 rfl rfl ?_
  refine g_iload_n 1 dX12_back_47 rfl rfl ?_
  refine g_aload_n 0 dX12_back_48 rfl rfl ?_
  refine g_getI 102 30 rfl dX12_back_49 rfl kkX12 flX12_357 (by decide) rfl rfl (by decide) rfl ?_
  refine g_icmp_ge dX12_back_52 rfl rfl ?_ ?_
  · refine g_aload_n 0 dX12_back_55 rfl rfl ?_
    refine g_getR 102 32 125 rfl dX12_back_56 rfl kkX12 flX12_78 (by decide) rfl rfl (by decide) rfl ?_
    refine g_iload_n 1 dX12_back_59 rfl rfl ?_
    refine g_iald dX12_back_60 rfl (by decide) rfl rfl ?_
    refine g_goto dX12_back_61 rfl ?_
    refine g_iast dX12_back_65 rfl (by decide) rfl rfl ?_
    refine g_nmX (fun X1 => ?_)
    refine g_inc (lv' := [(1, .int (v1 + (1 : Int32))), (0, .ref (q.ad 102))]) 1 dX12_back_66 rfl rfl kic_1 (Nat.le_of_ble_eq_true rfl) rfl ?_
    refine g_goto dX12_back_69 rfl ?_
    refine g_sub [1, 0] rfl ?_
    exact hk12 (v1 + (1 : Int32)) X1
  refine g_iconst dX12_back_64 rfl kic_0 ?_
  refine g_iast dX12_back_65 rfl (by decide) rfl rfl ?_
  refine g_inc (lv' := [(1, .int (v1 + (1 : Int32))), (0, .ref (q.ad 102))]) 1 dX12_back_66 rfl rfl kic_1 (Nat.le_of_ble_eq_true rfl) rfl ?_
  refine g_goto dX12_back_69 rfl ?_
  refine g_sub [1, 0] rfl ?_
  exact hk12 (v1 + (1 : Int32)) (stI (stI X 110 (nx s1) s0) 111 (nx v1) (0 : Int32))
theorem mo_back_L12_Bg (q : Th) (n : Nat) (k72 : St → Option (Int32 × St)) (hk72 : ∀ X, G q (mF q nX12_back RX12 0) fiw 72 [(0, .ref (q.ad 102))] [] X (k72 X)) (rec : Int32 → St → Option (Int32 × St)) (hrec : ∀ v1 X, G q (mF q nX12_back RX12 0) fiw 12 [(0, .ref (q.ad 102)), (1, .int v1)] [] X (rec v1 X)) (v1 : Int32) (X : St) : G q (mF q nX12_back RX12 0) fiw 12 [(0, .ref (q.ad 102)), (1, .int v1)] [] X (mo_back_L12_B n k72 rec v1 X) := by
  unfold mo_back_L12_B
  refine g_iload_n 1 dX12_back_12 rfl rfl ?_
  refine g_bipush dX12_back_13 rfl kbi_8 ?_
  refine g_icmp_ge dX12_back_15 rfl rfl ?_ ?_
  · refine g_aload_n 0 dX12_back_18 rfl rfl ?_
    refine g_getR 102 8 110 rfl dX12_back_19 rfl kkX12 flX12_33 (by decide) rfl rfl (by decide) rfl ?_
    refine g_iload_n 1 dX12_back_22 rfl rfl ?_
    refine g_iload_n 1 dX12_back_23 rfl rfl ?_
    refine g_aload_n 0 dX12_back_24 rfl rfl ?_
    refine g_getI 102 30 rfl dX12_back_25 rfl kkX12 flX12_357 (by decide) rfl rfl (by decide) rfl ?_
    refine g_icmp_ge dX12_back_28 rfl rfl ?_ ?_
    · refine g_aload_n 0 dX12_back_31 rfl rfl ?_
      refine g_getR 102 31 124 rfl dX12_back_32 rfl kkX12 flX12_75 (by decide) rfl rfl (by decide) rfl ?_
      refine g_iload_n 1 dX12_back_35 rfl rfl ?_
      refine g_iald dX12_back_36 rfl (by decide) rfl rfl ?_
      refine g_goto dX12_back_37 rfl ?_
      refine g_sub [0, 1] rfl ?_
      exact mo_back_J41_g q n _ hrec v1 (X.1 124 (nx v1)) v1 X
    refine g_iconst dX12_back_40 rfl kic_0 ?_
    refine g_sub [0, 1] rfl ?_
    exact mo_back_J41_g q n _ hrec v1 (0 : Int32) v1 X
  refine g_sub [0] rfl ?_
  exact hk72 X
theorem mo_back_L12_g (q : Th) (n : Nat) (k72 : St → Option (Int32 × St)) (hk72 : ∀ X, G q (mF q nX12_back RX12 0) fiw 72 [(0, .ref (q.ad 102))] [] X (k72 X)) : ∀ (w : Nat) (v1 : Int32) (X : St), G q (mF q nX12_back RX12 0) fiw 12 [(0, .ref (q.ad 102)), (1, .int v1)] [] X (mo_back_L12 n k72 w v1 X) := by
  intro w
  induction w with
  | zero => intro v1 X; exact g_none
  | succ w ih => intro v1 X; exact mo_back_L12_Bg q n k72 hk72 _ ih v1 X
theorem mo_back_L74_Bg (q : Th) (n : Nat) (rec : Int32 → St → Option (Int32 × St)) (hrec : ∀ v1 X, G q (mF q nX12_back RX12 0) fiw 74 [(0, .ref (q.ad 102)), (1, .int v1)] [] X (rec v1 X)) (v1 : Int32) (X : St) : G q (mF q nX12_back RX12 0) fiw 74 [(0, .ref (q.ad 102)), (1, .int v1)] [] X (mo_back_L74_B n rec v1 X) := by
  unfold mo_back_L74_B
  refine g_iload_n 1 dX12_back_74 rfl rfl ?_
  refine g_iconst dX12_back_75 rfl kic_5 ?_
  refine g_icmp_ge dX12_back_76 rfl rfl ?_ ?_
  · refine g_aload_n 0 dX12_back_79 rfl rfl ?_
    refine g_getR 102 28 123 rfl dX12_back_80 rfl kkX12 flX12_72 (by decide) rfl rfl (by decide) rfl ?_
    refine g_iload_n 1 dX12_back_83 rfl rfl ?_
    refine g_aload_n 0 dX12_back_84 rfl rfl ?_
    refine g_getR 102 33 126 rfl dX12_back_85 rfl kkX12 flX12_81 (by decide) rfl rfl (by decide) rfl ?_
    refine g_iload_n 1 dX12_back_88 rfl rfl ?_
    refine g_iald dX12_back_89 rfl (by decide) rfl rfl ?_
    refine g_iast dX12_back_90 rfl (by decide) rfl rfl ?_
    refine g_inc (lv' := [(1, .int (v1 + (1 : Int32))), (0, .ref (q.ad 102))]) 1 dX12_back_91 rfl rfl kic_1 (Nat.le_of_ble_eq_true rfl) rfl ?_
    refine g_goto dX12_back_94 rfl ?_
    refine g_sub [1, 0] rfl ?_
    exact hrec (v1 + (1 : Int32)) (stI X 123 (nx v1) (X.1 126 (nx v1)))
  refine g_aload_n 0 dX12_back_97 rfl rfl ?_
  refine g_getR 102 28 123 rfl dX12_back_98 rfl kkX12 flX12_72 (by decide) rfl rfl (by decide) rfl ?_
  refine g_iconst dX12_back_101 rfl kic_0 ?_
  refine g_iald0 dX12_back_102 rfl (by decide) rfl rfl (by decide) ?_
  exact g_iret dX12_back_103 rfl rfl
theorem mo_back_L74_g (q : Th) (n : Nat) : ∀ (w : Nat) (v1 : Int32) (X : St), G q (mF q nX12_back RX12 0) fiw 74 [(0, .ref (q.ad 102)), (1, .int v1)] [] X (mo_back_L74 n w v1 X) := by
  intro w
  induction w with
  | zero => intro v1 X; exact g_none
  | succ w ih => intro v1 X; exact mo_back_L74_Bg q n _ ih v1 X
theorem mo_back_c (q : Th) (n : Nat) (X : St) : Ct q nX12_back 0 fiw [.ref (q.ad 102)] X (mo_back n X) := by
  refine ct_of (by decide +kernel) (Nat.le_of_ble_eq_true rfl) ?_
  unfold mo_back
  show G q _ _ 0 [(0, .ref (q.ad 102))] [] X _
  refine g_aload_n 0 dX12_back_0 rfl rfl ?_
  refine g_getI 102 29 rfl dX12_back_1 rfl kkX12 flX12_354 (by decide) rfl rfl (by decide) rfl ?_
  refine g_if_ne dX12_back_4 rfl rfl ?_ ?_
  · refine g_bipush dX12_back_7 rfl kbi_m5 ?_
    exact g_iret dX12_back_9 rfl rfl
  refine g_iconst dX12_back_10 rfl kic_0 ?_
  refine g_istore_n (lv' := [(1, .int (0 : Int32)), (0, .ref (q.ad 102))]) dX12_back_11 rfl rfl (Nat.le_of_ble_eq_true rfl) rfl ?_
  refine g_sub [1, 0] rfl ?_
  refine mo_back_L12_g q n _ (fun X2 => ?_) n (0 : Int32) X
  refine g_iconst dX12_back_72 rfl kic_0 ?_
  refine g_istore_n (lv' := [(1, .int (0 : Int32)), (0, .ref (q.ad 102))]) dX12_back_73 rfl rfl (Nat.le_of_ble_eq_true rfl) rfl ?_
  refine g_sub [1, 0] rfl ?_
  refine mo_back_L74_g q n n (0 : Int32) X2
def mo_above (v0 : Int32) : Int32 :=
  (if v0 = (3 : Int32) then
  ((2 : Int32))
  else
  (if v0 = (4 : Int32) then
  ((1 : Int32))
  else
  (if v0 = (5 : Int32) then
  ((3 : Int32))
  else
  (if v0 = (6 : Int32) then
  ((0 : Int32))
  else
  (if v0 = (7 : Int32) then
  ((4 : Int32))
  else
  ((0 : Int32)))))))
def mo_above_o (v0 : Int32) : Option Int32 :=
  (if v0 = (3 : Int32) then
  (some (2 : Int32))
  else
  (if v0 = (4 : Int32) then
  (some (1 : Int32))
  else
  (if v0 = (5 : Int32) then
  (some (3 : Int32))
  else
  (if v0 = (6 : Int32) then
  (some (0 : Int32))
  else
  (if v0 = (7 : Int32) then
  (some (4 : Int32))
  else
  (some (0 : Int32)))))))
theorem mo_above_e (v0 : Int32) : mo_above_o v0 = some (mo_above v0) := by
  unfold mo_above_o mo_above
  simp only [apply_ite some]
theorem mo_above_c (q : Th) (v0 : Int32) (X : St) : Ct q nX12_above 0 (fir X) [.int v0] X (some (mo_above v0)) := by
  refine ct_of (by decide +kernel) (Nat.le_of_ble_eq_true rfl) ?_
  rw [← mo_above_e]
  unfold mo_above_o
  show G q _ _ 0 [(0, .int v0)] [] X _
  refine g_iload_n 0 dX12_above_0 rfl rfl ?_
  refine g_case (z := (3 : Int32)) (fun hc => ?_) (fun hc0 => ?_)
  · refine g_tableIn hc dX12_above_1 (by decide) (by decide) rfl rfl ?_
    refine g_iconst dX12_above_36 rfl kic_2 ?_
    exact g_iret dX12_above_37 rfl rfl
  refine g_case (z := (4 : Int32)) (fun hc => ?_) (fun hc1 => ?_)
  · refine g_tableIn hc dX12_above_1 (by decide) (by decide) rfl rfl ?_
    refine g_iconst dX12_above_38 rfl kic_1 ?_
    exact g_iret dX12_above_39 rfl rfl
  refine g_case (z := (5 : Int32)) (fun hc => ?_) (fun hc2 => ?_)
  · refine g_tableIn hc dX12_above_1 (by decide) (by decide) rfl rfl ?_
    refine g_iconst dX12_above_40 rfl kic_3 ?_
    exact g_iret dX12_above_41 rfl rfl
  refine g_case (z := (6 : Int32)) (fun hc => ?_) (fun hc3 => ?_)
  · refine g_tableIn hc dX12_above_1 (by decide) (by decide) rfl rfl ?_
    refine g_iconst dX12_above_44 rfl kic_0 ?_
    exact g_iret dX12_above_45 rfl rfl
  refine g_case (z := (7 : Int32)) (fun hc => ?_) (fun hc4 => ?_)
  · refine g_tableIn hc dX12_above_1 (by decide) (by decide) rfl rfl ?_
    refine g_iconst dX12_above_42 rfl kic_4 ?_
    exact g_iret dX12_above_43 rfl rfl
  refine g_tableOut dX12_above_1 (by have e0 := lv_neT (a := 3) hc0 (by decide); have e1 := lv_neT (a := 4) hc1 (by decide); have e2 := lv_neT (a := 5) hc2 (by decide); have e3 := lv_neT (a := 6) hc3 (by decide); have e4 := lv_neT (a := 7) hc4 (by decide); omega) rfl ?_
  refine g_iconst dX12_above_44 rfl kic_0 ?_
  exact g_iret dX12_above_45 rfl rfl
def mo_ran (v1 : Int32) (X : St) : Option (St) :=
  (if (X.1 102 39) < (24 : Int32) then
  (if inB (X.1 102 39) 24 then
  ((some (stI (stI X 129 (nx (X.1 102 39)) v1) 102 39 (((stI X 129 (nx (X.1 102 39)) v1).1 102 39) + (1 : Int32)))).bind fun X1 =>
  (some X1)) else none)
  else
  (some (stI X 102 39 ((X.1 102 39) + (1 : Int32)))))
theorem mo_ran_c (q : Th) (v1 : Int32) (X : St) : Ct q nX12_ran 0 fvw [.ref (q.ad 102), .int v1] X (mo_ran v1 X) := by
  refine ct_of (by decide +kernel) (Nat.le_of_ble_eq_true rfl) ?_
  unfold mo_ran
  show G q _ _ 0 [(0, .ref (q.ad 102)), (1, .int v1)] [] X _
  refine g_aload_n 0 dX12_ran_0 rfl rfl ?_
  refine g_getI 102 39 rfl dX12_ran_1 rfl kkX12 flX12_360 (by decide) rfl rfl (by decide) rfl ?_
  refine g_bipush dX12_ran_4 rfl kbi_24 ?_
  refine g_icmp_ge dX12_ran_6 rfl rfl ?_ ?_
  · refine g_aload_n 0 dX12_ran_9 rfl rfl ?_
    refine g_getR 102 40 129 rfl dX12_ran_10 rfl kkX12 flX12_90 (by decide) rfl rfl (by decide) rfl ?_
    refine g_aload_n 0 dX12_ran_13 rfl rfl ?_
    refine g_getI 102 39 rfl dX12_ran_14 rfl kkX12 flX12_360 (by decide) rfl rfl (by decide) rfl ?_
    refine g_iload_n 1 dX12_ran_17 rfl rfl ?_
    refine g_iast dX12_ran_18 rfl (by decide) rfl rfl ?_
    refine g_aload_n 0 dX12_ran_19 rfl rfl ?_
    refine g_dup dX12_ran_20 rfl rfl ?_
    refine g_getI 102 39 rfl dX12_ran_21 rfl kkX12 flX12_360 (by decide) rfl rfl (by decide) rfl ?_
    refine g_iconst dX12_ran_24 rfl kic_1 ?_
    refine g_iadd dX12_ran_25 rfl ?_
    refine g_putI 102 39 rfl dX12_ran_26 rfl kkX12 flX12_360 (by decide) rfl rfl (by decide) rfl rfl rfl ?_
    refine g_nmX (fun X1 => ?_)
    exact g_vret dX12_ran_29 rfl rfl
  refine g_aload_n 0 dX12_ran_19 rfl rfl ?_
  refine g_dup dX12_ran_20 rfl rfl ?_
  refine g_getI 102 39 rfl dX12_ran_21 rfl kkX12 flX12_360 (by decide) rfl rfl (by decide) rfl ?_
  refine g_iconst dX12_ran_24 rfl kic_1 ?_
  refine g_iadd dX12_ran_25 rfl ?_
  refine g_putI 102 39 rfl dX12_ran_26 rfl kkX12 flX12_360 (by decide) rfl rfl (by decide) rfl rfl rfl ?_
  exact g_vret dX12_ran_29 rfl rfl
def mo_countsBy_G (C : Nat → Int32 → Int32 → Int32 → St → Option (Int32 × St)) (v1 : Int32) (v2 : Int32) (v3 : Int32) (X : St) : Option (Int32 × St) :=
  (if v2 = (0 : Int32) then
  ((mo_ran (1 : Int32) X).bind fun X1 =>
  (some ((v3 + v1), X1)))
  else
  (if v2 = (1 : Int32) then
  ((mo_ran (20 : Int32) X).bind fun X2 =>
  ((C 0 v1 (0 : Int32) v3 X2).bind fun (c4, X3) =>
  (some ((c4 + (3 : Int32)), X3))))
  else
  (if v2 = (6 : Int32) then
  ((mo_ran (70 : Int32) X).bind fun X5 =>
  ((C 0 v1 (0 : Int32) v3 X5).bind fun (c7, X6) =>
  (some ((c7 * (2 : Int32)), X6))))
  else
  ((C 0 v1 (mo_above v2) v3 X).bind fun (c9, X8) =>
  (some (c9, X8))))))
def mo_countsBy_grp : Nat → Nat → Int32 → Int32 → Int32 → St → Option (Int32 × St)
  | 0 => fun _ _ _ _ _ => none
  | d + 1 => fun j a0 a1 a2 X => mo_countsBy_G (mo_countsBy_grp d) a0 a1 a2 X
def mo_countsBy (v1 : Int32) (v2 : Int32) (v3 : Int32) (X : St) : Option (Int32 × St) := mo_countsBy_grp DEP 0 v1 v2 v3 X
theorem mo_countsBy_gc (q : Th) (C : Nat → Int32 → Int32 → Int32 → St → Option (Int32 × St)) (Dg : Nat) (hDg : 1 ≤ Dg) (hC0 : ∀ a0 a1 a2 X, Ct q nX12_countsBy Dg fiw [.ref (q.ad 102), .int a0, .int a1, .int a2] X (C 0 a0 a1 a2 X)) (v1 : Int32) (v2 : Int32) (v3 : Int32) (X : St) : Ct q nX12_countsBy (Dg + 1) fiw [.ref (q.ad 102), .int v1, .int v2, .int v3] X (mo_countsBy_G C v1 v2 v3 X) := by
  refine ct_of (by decide +kernel) (Nat.le_of_ble_eq_true rfl) ?_
  unfold mo_countsBy_G
  show G q _ _ 0 [(0, .ref (q.ad 102)), (1, .int v1), (2, .int v2), (3, .int v3)] [] X _
  refine g_iload_n 2 dX12_countsBy_0 rfl rfl ?_
  refine g_case (z := (0 : Int32)) (fun hc => ?_) (fun hc0 => ?_)
  · refine g_lookup dX12_countsBy_1 (by decide) (by rw [hc] <;> rfl) rfl ?_
    refine g_aload_n 0 dX12_countsBy_36 rfl rfl ?_
    refine g_iconst dX12_countsBy_37 rfl kic_1 ?_
    refine g_cVVw (As := [.int (1 : Int32)]) (st := []) 1 mF_wg rfl dX12_countsBy_38 rfl kkX12 (by decide) rfl vX12_ran lkX12_363 (rmB (b := 1) (by decide) (by decide) (by omega)) (mo_ran_c q (1 : Int32) X) rfl rfl (Nat.le_of_ble_eq_true rfl) (fun X1 => ?_)
    refine g_iload_n 3 dX12_countsBy_41 rfl rfl ?_
    refine g_iload_n 1 dX12_countsBy_42 rfl rfl ?_
    refine g_iadd dX12_countsBy_43 rfl ?_
    exact g_iret dX12_countsBy_44 rfl rfl
  refine g_case (z := (1 : Int32)) (fun hc => ?_) (fun hc1 => ?_)
  · refine g_lookup dX12_countsBy_1 (by decide) (by rw [hc] <;> rfl) rfl ?_
    refine g_aload_n 0 dX12_countsBy_45 rfl rfl ?_
    refine g_bipush dX12_countsBy_46 rfl kbi_20 ?_
    refine g_cVVw (As := [.int (20 : Int32)]) (st := []) 1 mF_wg rfl dX12_countsBy_48 rfl kkX12 (by decide) rfl vX12_ran lkX12_363 (rmB (b := 1) (by decide) (by decide) (by omega)) (mo_ran_c q (20 : Int32) X) rfl rfl (Nat.le_of_ble_eq_true rfl) (fun X2 => ?_)
    refine g_aload_n 0 dX12_countsBy_51 rfl rfl ?_
    refine g_iload_n 1 dX12_countsBy_52 rfl rfl ?_
    refine g_iconst dX12_countsBy_53 rfl kic_0 ?_
    refine g_iload_n 3 dX12_countsBy_54 rfl rfl ?_
    refine g_cVIw (As := [.int v1, .int (0 : Int32), .int v3]) (st := []) 3 mF_wg rfl dX12_countsBy_55 rfl kkX12 (by decide) rfl vX12_countsBy lkX12_366 (rmS rfl) (hC0 v1 (0 : Int32) v3 X2) rfl rfl (Nat.le_of_ble_eq_true rfl) (fun c4 X3 => ?_)
    refine g_iconst dX12_countsBy_58 rfl kic_3 ?_
    refine g_iadd dX12_countsBy_59 rfl ?_
    exact g_iret dX12_countsBy_60 rfl rfl
  refine g_case (z := (6 : Int32)) (fun hc => ?_) (fun hc2 => ?_)
  · refine g_lookup dX12_countsBy_1 (by decide) (by rw [hc] <;> rfl) rfl ?_
    refine g_aload_n 0 dX12_countsBy_61 rfl rfl ?_
    refine g_bipush dX12_countsBy_62 rfl kbi_70 ?_
    refine g_cVVw (As := [.int (70 : Int32)]) (st := []) 1 mF_wg rfl dX12_countsBy_64 rfl kkX12 (by decide) rfl vX12_ran lkX12_363 (rmB (b := 1) (by decide) (by decide) (by omega)) (mo_ran_c q (70 : Int32) X) rfl rfl (Nat.le_of_ble_eq_true rfl) (fun X5 => ?_)
    refine g_aload_n 0 dX12_countsBy_67 rfl rfl ?_
    refine g_iload_n 1 dX12_countsBy_68 rfl rfl ?_
    refine g_iconst dX12_countsBy_69 rfl kic_0 ?_
    refine g_iload_n 3 dX12_countsBy_70 rfl rfl ?_
    refine g_cVIw (As := [.int v1, .int (0 : Int32), .int v3]) (st := []) 3 mF_wg rfl dX12_countsBy_71 rfl kkX12 (by decide) rfl vX12_countsBy lkX12_366 (rmS rfl) (hC0 v1 (0 : Int32) v3 X5) rfl rfl (Nat.le_of_ble_eq_true rfl) (fun c7 X6 => ?_)
    refine g_iconst dX12_countsBy_74 rfl kic_2 ?_
    refine g_imul dX12_countsBy_75 rfl ?_
    exact g_iret dX12_countsBy_76 rfl rfl
  refine g_lookup dX12_countsBy_1 (by decide) (by show Op.lookupswitch.offset [(0, 35), (1, 44), (6, 60)] (76) _ = 76; rw [lv_osw hc0 (by decide), lv_osw hc1 (by decide), lv_osw hc2 (by decide)]; rfl) rfl ?_
  refine g_aload_n 0 dX12_countsBy_77 rfl rfl ?_
  refine g_iload_n 1 dX12_countsBy_78 rfl rfl ?_
  refine g_iload_n 2 dX12_countsBy_79 rfl rfl ?_
  refine g_cSIt (As := [.int v2]) (st := [.int v1, .ref (q.ad 102)]) 1 mF_wg rfl dX12_countsBy_80 rfl vX12_above lkX12_369 (rmB (b := 1) (by decide) (by decide) (by omega)) (mo_above_c q v2 X) rfl rfl (Nat.le_of_ble_eq_true rfl) ?_
  refine g_iload_n 3 dX12_countsBy_83 rfl rfl ?_
  refine g_cVIw (As := [.int v1, .int (mo_above v2), .int v3]) (st := []) 3 mF_wg rfl dX12_countsBy_84 rfl kkX12 (by decide) rfl vX12_countsBy lkX12_366 (rmS rfl) (hC0 v1 (mo_above v2) v3 X) rfl rfl (Nat.le_of_ble_eq_true rfl) (fun c9 X8 => ?_)
  exact g_iret dX12_countsBy_87 rfl rfl
theorem mo_countsBy_grp_c (q : Th) : ∀ d, (∀ (v1 : Int32) (v2 : Int32) (v3 : Int32) X, Ct q nX12_countsBy (1 + d) fiw [.ref (q.ad 102), .int v1, .int v2, .int v3] X (mo_countsBy_grp d 0 v1 v2 v3 X)) := by
  intro d
  induction d with
  | zero => exact fun _ _ _ _ r h => by cases h
  | succ d ih =>
    have h0 := ih
    exact fun v1 v2 v3 X => mo_countsBy_gc q (mo_countsBy_grp d) (1 + d) (by omega) h0 v1 v2 v3 X
theorem mo_countsBy_c (q : Th) (v1 : Int32) (v2 : Int32) (v3 : Int32) (X : St) : Ct q nX12_countsBy (1 + DEP) fiw [.ref (q.ad 102), .int v1, .int v2, .int v3] X (mo_countsBy v1 v2 v3 X) := (mo_countsBy_grp_c q DEP) v1 v2 v3 X
def mo_sinksBy_G (C : Nat → Int32 → Int32 → Int32 → St → Option (Int32 × St)) (v1 : Int32) (v2 : Int32) (v3 : Int32) (X : St) : Option (Int32 × St) :=
  (if v2 = (0 : Int32) then
  ((mo_ran (11 : Int32) X).bind fun X1 =>
  (some ((v3 ^^^ v1), X1)))
  else
  (if v2 = (1 : Int32) then
  ((C 0 v1 (mo_above v2) v3 X).bind fun (c3, X2) =>
  (some (c3, X2)))
  else
  (if v2 = (2 : Int32) then
  ((C 0 v1 (mo_above v2) v3 X).bind fun (c5, X4) =>
  (some (c5, X4)))
  else
  (if v2 = (3 : Int32) then
  ((mo_ran (40 : Int32) X).bind fun X6 =>
  ((C 0 v1 (2 : Int32) v3 X6).bind fun (c8, X7) =>
  (some ((c8 * (3 : Int32)), X7))))
  else
  (if v2 = (4 : Int32) then
  ((mo_ran (50 : Int32) X).bind fun X9 =>
  ((C 0 v1 (1 : Int32) v3 X9).bind fun (c11, X10) =>
  (if inB v1 50 then
  ((mo_countsBy v1 (X10.1 128 (nx v1)) (2 : Int32) X10).bind fun (c13, X12) =>
  (some ((c11 - c13), X12))) else none)))
  else
  ((C 0 v1 (mo_above v2) v3 X).bind fun (c15, X14) =>
  (some (c15, X14))))))))
def mo_sinksBy_grp : Nat → Nat → Int32 → Int32 → Int32 → St → Option (Int32 × St)
  | 0 => fun _ _ _ _ _ => none
  | d + 1 => fun j a0 a1 a2 X => mo_sinksBy_G (mo_sinksBy_grp d) a0 a1 a2 X
def mo_sinksBy (v1 : Int32) (v2 : Int32) (v3 : Int32) (X : St) : Option (Int32 × St) := mo_sinksBy_grp DEP 0 v1 v2 v3 X
theorem mo_sinksBy_gc (q : Th) (C : Nat → Int32 → Int32 → Int32 → St → Option (Int32 × St)) (Dg : Nat) (hDg : 402 ≤ Dg) (hC0 : ∀ a0 a1 a2 X, Ct q nX12_sinksBy Dg fiw [.ref (q.ad 102), .int a0, .int a1, .int a2] X (C 0 a0 a1 a2 X)) (v1 : Int32) (v2 : Int32) (v3 : Int32) (X : St) : Ct q nX12_sinksBy (Dg + 1) fiw [.ref (q.ad 102), .int v1, .int v2, .int v3] X (mo_sinksBy_G C v1 v2 v3 X) := by
  refine ct_of (by decide +kernel) (Nat.le_of_ble_eq_true rfl) ?_
  unfold mo_sinksBy_G
  show G q _ _ 0 [(0, .ref (q.ad 102)), (1, .int v1), (2, .int v2), (3, .int v3)] [] X _
  refine g_iload_n 2 dX12_sinksBy_0 rfl rfl ?_
  refine g_case (z := (0 : Int32)) (fun hc => ?_) (fun hc0 => ?_)
  · refine g_tableIn hc dX12_sinksBy_1 (by decide) (by decide) rfl rfl ?_
    refine g_aload_n 0 dX12_sinksBy_36 rfl rfl ?_
    refine g_bipush dX12_sinksBy_37 rfl kbi_11 ?_
    refine g_cVVw (As := [.int (11 : Int32)]) (st := []) 1 mF_wg rfl dX12_sinksBy_39 rfl kkX12 (by decide) rfl vX12_ran lkX12_363 (rmB (b := 402) (by decide) (by decide) (by omega)) (mo_ran_c q (11 : Int32) X) rfl rfl (Nat.le_of_ble_eq_true rfl) (fun X1 => ?_)
    refine g_iload_n 3 dX12_sinksBy_42 rfl rfl ?_
    refine g_iload_n 1 dX12_sinksBy_43 rfl rfl ?_
    refine g_ixor dX12_sinksBy_44 rfl ?_
    exact g_iret dX12_sinksBy_45 rfl rfl
  refine g_case (z := (1 : Int32)) (fun hc => ?_) (fun hc1 => ?_)
  · refine g_tableIn hc dX12_sinksBy_1 (by decide) (by decide) rfl rfl ?_
    refine g_aload_n 0 dX12_sinksBy_93 rfl rfl ?_
    refine g_iload_n 1 dX12_sinksBy_94 rfl rfl ?_
    refine g_iload_n 2 dX12_sinksBy_95 rfl rfl ?_
    refine g_cSIt (As := [.int v2]) (st := [.int v1, .ref (q.ad 102)]) 1 mF_wg rfl dX12_sinksBy_96 rfl vX12_above lkX12_369 (rmB (b := 402) (by decide) (by decide) (by omega)) (mo_above_c q v2 X) rfl rfl (Nat.le_of_ble_eq_true rfl) ?_
    refine g_iload_n 3 dX12_sinksBy_99 rfl rfl ?_
    refine g_cVIw (As := [.int v1, .int (mo_above v2), .int v3]) (st := []) 3 mF_wg rfl dX12_sinksBy_100 rfl kkX12 (by decide) rfl vX12_sinksBy lkX12_375 (rmS rfl) (hC0 v1 (mo_above v2) v3 X) rfl rfl (Nat.le_of_ble_eq_true rfl) (fun c3 X2 => ?_)
    exact g_iret dX12_sinksBy_103 rfl rfl
  refine g_case (z := (2 : Int32)) (fun hc => ?_) (fun hc2 => ?_)
  · refine g_tableIn hc dX12_sinksBy_1 (by decide) (by decide) rfl rfl ?_
    refine g_aload_n 0 dX12_sinksBy_93 rfl rfl ?_
    refine g_iload_n 1 dX12_sinksBy_94 rfl rfl ?_
    refine g_iload_n 2 dX12_sinksBy_95 rfl rfl ?_
    refine g_cSIt (As := [.int v2]) (st := [.int v1, .ref (q.ad 102)]) 1 mF_wg rfl dX12_sinksBy_96 rfl vX12_above lkX12_369 (rmB (b := 402) (by decide) (by decide) (by omega)) (mo_above_c q v2 X) rfl rfl (Nat.le_of_ble_eq_true rfl) ?_
    refine g_iload_n 3 dX12_sinksBy_99 rfl rfl ?_
    refine g_cVIw (As := [.int v1, .int (mo_above v2), .int v3]) (st := []) 3 mF_wg rfl dX12_sinksBy_100 rfl kkX12 (by decide) rfl vX12_sinksBy lkX12_375 (rmS rfl) (hC0 v1 (mo_above v2) v3 X) rfl rfl (Nat.le_of_ble_eq_true rfl) (fun c5 X4 => ?_)
    exact g_iret dX12_sinksBy_103 rfl rfl
  refine g_case (z := (3 : Int32)) (fun hc => ?_) (fun hc3 => ?_)
  · refine g_tableIn hc dX12_sinksBy_1 (by decide) (by decide) rfl rfl ?_
    refine g_aload_n 0 dX12_sinksBy_46 rfl rfl ?_
    refine g_bipush dX12_sinksBy_47 rfl kbi_40 ?_
    refine g_cVVw (As := [.int (40 : Int32)]) (st := []) 1 mF_wg rfl dX12_sinksBy_49 rfl kkX12 (by decide) rfl vX12_ran lkX12_363 (rmB (b := 402) (by decide) (by decide) (by omega)) (mo_ran_c q (40 : Int32) X) rfl rfl (Nat.le_of_ble_eq_true rfl) (fun X6 => ?_)
    refine g_aload_n 0 dX12_sinksBy_52 rfl rfl ?_
    refine g_iload_n 1 dX12_sinksBy_53 rfl rfl ?_
    refine g_iconst dX12_sinksBy_54 rfl kic_2 ?_
    refine g_iload_n 3 dX12_sinksBy_55 rfl rfl ?_
    refine g_cVIw (As := [.int v1, .int (2 : Int32), .int v3]) (st := []) 3 mF_wg rfl dX12_sinksBy_56 rfl kkX12 (by decide) rfl vX12_sinksBy lkX12_375 (rmS rfl) (hC0 v1 (2 : Int32) v3 X6) rfl rfl (Nat.le_of_ble_eq_true rfl) (fun c8 X7 => ?_)
    refine g_iconst dX12_sinksBy_59 rfl kic_3 ?_
    refine g_imul dX12_sinksBy_60 rfl ?_
    exact g_iret dX12_sinksBy_61 rfl rfl
  refine g_case (z := (4 : Int32)) (fun hc => ?_) (fun hc4 => ?_)
  · refine g_tableIn hc dX12_sinksBy_1 (by decide) (by decide) rfl rfl ?_
    refine g_aload_n 0 dX12_sinksBy_62 rfl rfl ?_
    refine g_bipush dX12_sinksBy_63 rfl kbi_50 ?_
    refine g_cVVw (As := [.int (50 : Int32)]) (st := []) 1 mF_wg rfl dX12_sinksBy_65 rfl kkX12 (by decide) rfl vX12_ran lkX12_363 (rmB (b := 402) (by decide) (by decide) (by omega)) (mo_ran_c q (50 : Int32) X) rfl rfl (Nat.le_of_ble_eq_true rfl) (fun X9 => ?_)
    refine g_aload_n 0 dX12_sinksBy_68 rfl rfl ?_
    refine g_iload_n 1 dX12_sinksBy_69 rfl rfl ?_
    refine g_iconst dX12_sinksBy_70 rfl kic_1 ?_
    refine g_iload_n 3 dX12_sinksBy_71 rfl rfl ?_
    refine g_cVIw (As := [.int v1, .int (1 : Int32), .int v3]) (st := []) 3 mF_wg rfl dX12_sinksBy_72 rfl kkX12 (by decide) rfl vX12_sinksBy lkX12_375 (rmS rfl) (hC0 v1 (1 : Int32) v3 X9) rfl rfl (Nat.le_of_ble_eq_true rfl) (fun c11 X10 => ?_)
    refine g_istore (lv' := [(4, .int c11), (0, .ref (q.ad 102)), (1, .int v1), (2, .int v2), (3, .int v3)]) dX12_sinksBy_75 rfl (Nat.le_of_ble_eq_true rfl) rfl ?_
    refine g_iload 0 dX12_sinksBy_77 rfl rfl ?_
    refine g_aload_n 1 dX12_sinksBy_79 rfl rfl ?_
    refine g_iload_n 2 dX12_sinksBy_80 rfl rfl ?_
    refine g_aload_n 1 dX12_sinksBy_81 rfl rfl ?_
    refine g_getR 102 38 128 rfl dX12_sinksBy_82 rfl kkX12 flX12_87 (by decide) rfl rfl (by decide) rfl ?_
    refine g_iload_n 2 dX12_sinksBy_85 rfl rfl ?_
    refine g_iald dX12_sinksBy_86 rfl (by decide) rfl rfl ?_
    refine g_iconst dX12_sinksBy_87 rfl kic_2 ?_
    refine g_cVIw (As := [.int v1, .int (X10.1 128 (nx v1)), .int (2 : Int32)]) (st := [.int c11]) 3 mF_wg rfl dX12_sinksBy_88 rfl kkX12 (by decide) rfl vX12_countsBy lkX12_366 (rmB (b := 402) (by decide) (by decide) (by omega)) (mo_countsBy_c q v1 (X10.1 128 (nx v1)) (2 : Int32) X10) rfl rfl (Nat.le_of_ble_eq_true rfl) (fun c13 X12 => ?_)
    refine g_isub dX12_sinksBy_91 rfl ?_
    exact g_iret dX12_sinksBy_92 rfl rfl
  refine g_tableOut dX12_sinksBy_1 (by have e0 := lv_neT (a := 0) hc0 (by decide); have e1 := lv_neT (a := 1) hc1 (by decide); have e2 := lv_neT (a := 2) hc2 (by decide); have e3 := lv_neT (a := 3) hc3 (by decide); have e4 := lv_neT (a := 4) hc4 (by decide); omega) rfl ?_
  refine g_aload_n 0 dX12_sinksBy_93 rfl rfl ?_
  refine g_iload_n 1 dX12_sinksBy_94 rfl rfl ?_
  refine g_iload_n 2 dX12_sinksBy_95 rfl rfl ?_
  refine g_cSIt (As := [.int v2]) (st := [.int v1, .ref (q.ad 102)]) 1 mF_wg rfl dX12_sinksBy_96 rfl vX12_above lkX12_369 (rmB (b := 402) (by decide) (by decide) (by omega)) (mo_above_c q v2 X) rfl rfl (Nat.le_of_ble_eq_true rfl) ?_
  refine g_iload_n 3 dX12_sinksBy_99 rfl rfl ?_
  refine g_cVIw (As := [.int v1, .int (mo_above v2), .int v3]) (st := []) 3 mF_wg rfl dX12_sinksBy_100 rfl kkX12 (by decide) rfl vX12_sinksBy lkX12_375 (rmS rfl) (hC0 v1 (mo_above v2) v3 X) rfl rfl (Nat.le_of_ble_eq_true rfl) (fun c15 X14 => ?_)
  exact g_iret dX12_sinksBy_103 rfl rfl
theorem mo_sinksBy_grp_c (q : Th) : ∀ d, (∀ (v1 : Int32) (v2 : Int32) (v3 : Int32) X, Ct q nX12_sinksBy (402 + d) fiw [.ref (q.ad 102), .int v1, .int v2, .int v3] X (mo_sinksBy_grp d 0 v1 v2 v3 X)) := by
  intro d
  induction d with
  | zero => exact fun _ _ _ _ r h => by cases h
  | succ d ih =>
    have h0 := ih
    exact fun v1 v2 v3 X => mo_sinksBy_gc q (mo_sinksBy_grp d) (402 + d) (by omega) h0 v1 v2 v3 X
theorem mo_sinksBy_c (q : Th) (v1 : Int32) (v2 : Int32) (v3 : Int32) (X : St) : Ct q nX12_sinksBy (402 + DEP) fiw [.ref (q.ad 102), .int v1, .int v2, .int v3] X (mo_sinksBy v1 v2 v3 X) := (mo_sinksBy_grp_c q DEP) v1 v2 v3 X
def mo_turnsBy_G (C : Nat → Int32 → Int32 → Int32 → St → Option (Int32 × St)) (v1 : Int32) (v2 : Int32) (v3 : Int32) (X : St) : Option (Int32 × St) :=
  (if v2 = (0 : Int32) then
  ((mo_ran (10 : Int32) X).bind fun X1 =>
  (if inB v1 50 then
  ((mo_countsBy v1 (X1.1 128 (nx v1)) v3 X1).bind fun (c3, X2) =>
  (some ((c3 * (2 : Int32)), X2))) else none))
  else
  (if v2 = (1 : Int32) then
  ((C 0 v1 (mo_above v2) v3 X).bind fun (c5, X4) =>
  (some (c5, X4)))
  else
  (if v2 = (2 : Int32) then
  ((mo_ran (30 : Int32) X).bind fun X6 =>
  ((C 0 v1 (0 : Int32) v3 X6).bind fun (c8, X7) =>
  (some ((-c8), X7))))
  else
  (if v2 = (3 : Int32) then
  ((mo_ran (41 : Int32) X).bind fun X9 =>
  ((C 0 v1 (2 : Int32) (v3 + (1 : Int32)) X9).bind fun (c11, X10) =>
  (some (c11, X10))))
  else
  (if v2 = (4 : Int32) then
  ((C 0 v1 (mo_above v2) v3 X).bind fun (c13, X12) =>
  (some (c13, X12)))
  else
  (if v2 = (5 : Int32) then
  ((C 0 v1 (mo_above v2) v3 X).bind fun (c15, X14) =>
  (some (c15, X14)))
  else
  (if v2 = (6 : Int32) then
  ((C 0 v1 (mo_above v2) v3 X).bind fun (c17, X16) =>
  (some (c17, X16)))
  else
  (if v2 = (7 : Int32) then
  ((mo_ran (80 : Int32) X).bind fun X18 =>
  ((C 0 v1 (4 : Int32) v3 X18).bind fun (c20, X19) =>
  (if inB v1 50 then
  ((mo_sinksBy v1 (X19.1 128 (nx v1)) (2 : Int32) X19).bind fun (c22, X21) =>
  (some ((c20 + c22), X21))) else none)))
  else
  ((C 0 v1 (mo_above v2) v3 X).bind fun (c24, X23) =>
  (some (c24, X23)))))))))))
def mo_turnsBy_grp : Nat → Nat → Int32 → Int32 → Int32 → St → Option (Int32 × St)
  | 0 => fun _ _ _ _ _ => none
  | d + 1 => fun j a0 a1 a2 X => mo_turnsBy_G (mo_turnsBy_grp d) a0 a1 a2 X
def mo_turnsBy (v1 : Int32) (v2 : Int32) (v3 : Int32) (X : St) : Option (Int32 × St) := mo_turnsBy_grp DEP 0 v1 v2 v3 X
theorem mo_turnsBy_gc (q : Th) (C : Nat → Int32 → Int32 → Int32 → St → Option (Int32 × St)) (Dg : Nat) (hDg : 803 ≤ Dg) (hC0 : ∀ a0 a1 a2 X, Ct q nX12_turnsBy Dg fiw [.ref (q.ad 102), .int a0, .int a1, .int a2] X (C 0 a0 a1 a2 X)) (v1 : Int32) (v2 : Int32) (v3 : Int32) (X : St) : Ct q nX12_turnsBy (Dg + 1) fiw [.ref (q.ad 102), .int v1, .int v2, .int v3] X (mo_turnsBy_G C v1 v2 v3 X) := by
  refine ct_of (by decide +kernel) (Nat.le_of_ble_eq_true rfl) ?_
  unfold mo_turnsBy_G
  show G q _ _ 0 [(0, .ref (q.ad 102)), (1, .int v1), (2, .int v2), (3, .int v3)] [] X _
  refine g_iload_n 2 dX12_turnsBy_0 rfl rfl ?_
  refine g_case (z := (0 : Int32)) (fun hc => ?_) (fun hc0 => ?_)
  · refine g_tableIn hc dX12_turnsBy_1 (by decide) (by decide) rfl rfl ?_
    refine g_aload_n 0 dX12_turnsBy_48 rfl rfl ?_
    refine g_bipush dX12_turnsBy_49 rfl kbi_10 ?_
    refine g_cVVw (As := [.int (10 : Int32)]) (st := []) 1 mF_wg rfl dX12_turnsBy_51 rfl kkX12 (by decide) rfl vX12_ran lkX12_363 (rmB (b := 803) (by decide) (by decide) (by omega)) (mo_ran_c q (10 : Int32) X) rfl rfl (Nat.le_of_ble_eq_true rfl) (fun X1 => ?_)
    refine g_aload_n 0 dX12_turnsBy_54 rfl rfl ?_
    refine g_iload_n 1 dX12_turnsBy_55 rfl rfl ?_
    refine g_aload_n 0 dX12_turnsBy_56 rfl rfl ?_
    refine g_getR 102 38 128 rfl dX12_turnsBy_57 rfl kkX12 flX12_87 (by decide) rfl rfl (by decide) rfl ?_
    refine g_iload_n 1 dX12_turnsBy_60 rfl rfl ?_
    refine g_iald dX12_turnsBy_61 rfl (by decide) rfl rfl ?_
    refine g_iload_n 3 dX12_turnsBy_62 rfl rfl ?_
    refine g_cVIw (As := [.int v1, .int (X1.1 128 (nx v1)), .int v3]) (st := []) 3 mF_wg rfl dX12_turnsBy_63 rfl kkX12 (by decide) rfl vX12_countsBy lkX12_366 (rmB (b := 803) (by decide) (by decide) (by omega)) (mo_countsBy_c q v1 (X1.1 128 (nx v1)) v3 X1) rfl rfl (Nat.le_of_ble_eq_true rfl) (fun c3 X2 => ?_)
    refine g_iconst dX12_turnsBy_66 rfl kic_2 ?_
    refine g_imul dX12_turnsBy_67 rfl ?_
    exact g_iret dX12_turnsBy_68 rfl rfl
  refine g_case (z := (1 : Int32)) (fun hc => ?_) (fun hc1 => ?_)
  · refine g_tableIn hc dX12_turnsBy_1 (by decide) (by decide) rfl rfl ?_
    refine g_aload_n 0 dX12_turnsBy_131 rfl rfl ?_
    refine g_iload_n 1 dX12_turnsBy_132 rfl rfl ?_
    refine g_iload_n 2 dX12_turnsBy_133 rfl rfl ?_
    refine g_cSIt (As := [.int v2]) (st := [.int v1, .ref (q.ad 102)]) 1 mF_wg rfl dX12_turnsBy_134 rfl vX12_above lkX12_369 (rmB (b := 803) (by decide) (by decide) (by omega)) (mo_above_c q v2 X) rfl rfl (Nat.le_of_ble_eq_true rfl) ?_
    refine g_iload_n 3 dX12_turnsBy_137 rfl rfl ?_
    refine g_cVIw (As := [.int v1, .int (mo_above v2), .int v3]) (st := []) 3 mF_wg rfl dX12_turnsBy_138 rfl kkX12 (by decide) rfl vX12_turnsBy lkX12_372 (rmS rfl) (hC0 v1 (mo_above v2) v3 X) rfl rfl (Nat.le_of_ble_eq_true rfl) (fun c5 X4 => ?_)
    exact g_iret dX12_turnsBy_141 rfl rfl
  refine g_case (z := (2 : Int32)) (fun hc => ?_) (fun hc2 => ?_)
  · refine g_tableIn hc dX12_turnsBy_1 (by decide) (by decide) rfl rfl ?_
    refine g_aload_n 0 dX12_turnsBy_69 rfl rfl ?_
    refine g_bipush dX12_turnsBy_70 rfl kbi_30 ?_
    refine g_cVVw (As := [.int (30 : Int32)]) (st := []) 1 mF_wg rfl dX12_turnsBy_72 rfl kkX12 (by decide) rfl vX12_ran lkX12_363 (rmB (b := 803) (by decide) (by decide) (by omega)) (mo_ran_c q (30 : Int32) X) rfl rfl (Nat.le_of_ble_eq_true rfl) (fun X6 => ?_)
    refine g_aload_n 0 dX12_turnsBy_75 rfl rfl ?_
    refine g_iload_n 1 dX12_turnsBy_76 rfl rfl ?_
    refine g_iconst dX12_turnsBy_77 rfl kic_0 ?_
    refine g_iload_n 3 dX12_turnsBy_78 rfl rfl ?_
    refine g_cVIw (As := [.int v1, .int (0 : Int32), .int v3]) (st := []) 3 mF_wg rfl dX12_turnsBy_79 rfl kkX12 (by decide) rfl vX12_turnsBy lkX12_372 (rmS rfl) (hC0 v1 (0 : Int32) v3 X6) rfl rfl (Nat.le_of_ble_eq_true rfl) (fun c8 X7 => ?_)
    refine g_ineg dX12_turnsBy_82 rfl ?_
    exact g_iret dX12_turnsBy_83 rfl rfl
  refine g_case (z := (3 : Int32)) (fun hc => ?_) (fun hc3 => ?_)
  · refine g_tableIn hc dX12_turnsBy_1 (by decide) (by decide) rfl rfl ?_
    refine g_aload_n 0 dX12_turnsBy_84 rfl rfl ?_
    refine g_bipush dX12_turnsBy_85 rfl kbi_41 ?_
    refine g_cVVw (As := [.int (41 : Int32)]) (st := []) 1 mF_wg rfl dX12_turnsBy_87 rfl kkX12 (by decide) rfl vX12_ran lkX12_363 (rmB (b := 803) (by decide) (by decide) (by omega)) (mo_ran_c q (41 : Int32) X) rfl rfl (Nat.le_of_ble_eq_true rfl) (fun X9 => ?_)
    refine g_aload_n 0 dX12_turnsBy_90 rfl rfl ?_
    refine g_iload_n 1 dX12_turnsBy_91 rfl rfl ?_
    refine g_iconst dX12_turnsBy_92 rfl kic_2 ?_
    refine g_iload_n 3 dX12_turnsBy_93 rfl rfl ?_
    refine g_iconst dX12_turnsBy_94 rfl kic_1 ?_
    refine g_iadd dX12_turnsBy_95 rfl ?_
    refine g_cVIw (As := [.int v1, .int (2 : Int32), .int (v3 + (1 : Int32))]) (st := []) 3 mF_wg rfl dX12_turnsBy_96 rfl kkX12 (by decide) rfl vX12_turnsBy lkX12_372 (rmS rfl) (hC0 v1 (2 : Int32) (v3 + (1 : Int32)) X9) rfl rfl (Nat.le_of_ble_eq_true rfl) (fun c11 X10 => ?_)
    exact g_iret dX12_turnsBy_99 rfl rfl
  refine g_case (z := (4 : Int32)) (fun hc => ?_) (fun hc4 => ?_)
  · refine g_tableIn hc dX12_turnsBy_1 (by decide) (by decide) rfl rfl ?_
    refine g_aload_n 0 dX12_turnsBy_131 rfl rfl ?_
    refine g_iload_n 1 dX12_turnsBy_132 rfl rfl ?_
    refine g_iload_n 2 dX12_turnsBy_133 rfl rfl ?_
    refine g_cSIt (As := [.int v2]) (st := [.int v1, .ref (q.ad 102)]) 1 mF_wg rfl dX12_turnsBy_134 rfl vX12_above lkX12_369 (rmB (b := 803) (by decide) (by decide) (by omega)) (mo_above_c q v2 X) rfl rfl (Nat.le_of_ble_eq_true rfl) ?_
    refine g_iload_n 3 dX12_turnsBy_137 rfl rfl ?_
    refine g_cVIw (As := [.int v1, .int (mo_above v2), .int v3]) (st := []) 3 mF_wg rfl dX12_turnsBy_138 rfl kkX12 (by decide) rfl vX12_turnsBy lkX12_372 (rmS rfl) (hC0 v1 (mo_above v2) v3 X) rfl rfl (Nat.le_of_ble_eq_true rfl) (fun c13 X12 => ?_)
    exact g_iret dX12_turnsBy_141 rfl rfl
  refine g_case (z := (5 : Int32)) (fun hc => ?_) (fun hc5 => ?_)
  · refine g_tableIn hc dX12_turnsBy_1 (by decide) (by decide) rfl rfl ?_
    refine g_aload_n 0 dX12_turnsBy_131 rfl rfl ?_
    refine g_iload_n 1 dX12_turnsBy_132 rfl rfl ?_
    refine g_iload_n 2 dX12_turnsBy_133 rfl rfl ?_
    refine g_cSIt (As := [.int v2]) (st := [.int v1, .ref (q.ad 102)]) 1 mF_wg rfl dX12_turnsBy_134 rfl vX12_above lkX12_369 (rmB (b := 803) (by decide) (by decide) (by omega)) (mo_above_c q v2 X) rfl rfl (Nat.le_of_ble_eq_true rfl) ?_
    refine g_iload_n 3 dX12_turnsBy_137 rfl rfl ?_
    refine g_cVIw (As := [.int v1, .int (mo_above v2), .int v3]) (st := []) 3 mF_wg rfl dX12_turnsBy_138 rfl kkX12 (by decide) rfl vX12_turnsBy lkX12_372 (rmS rfl) (hC0 v1 (mo_above v2) v3 X) rfl rfl (Nat.le_of_ble_eq_true rfl) (fun c15 X14 => ?_)
    exact g_iret dX12_turnsBy_141 rfl rfl
  refine g_case (z := (6 : Int32)) (fun hc => ?_) (fun hc6 => ?_)
  · refine g_tableIn hc dX12_turnsBy_1 (by decide) (by decide) rfl rfl ?_
    refine g_aload_n 0 dX12_turnsBy_131 rfl rfl ?_
    refine g_iload_n 1 dX12_turnsBy_132 rfl rfl ?_
    refine g_iload_n 2 dX12_turnsBy_133 rfl rfl ?_
    refine g_cSIt (As := [.int v2]) (st := [.int v1, .ref (q.ad 102)]) 1 mF_wg rfl dX12_turnsBy_134 rfl vX12_above lkX12_369 (rmB (b := 803) (by decide) (by decide) (by omega)) (mo_above_c q v2 X) rfl rfl (Nat.le_of_ble_eq_true rfl) ?_
    refine g_iload_n 3 dX12_turnsBy_137 rfl rfl ?_
    refine g_cVIw (As := [.int v1, .int (mo_above v2), .int v3]) (st := []) 3 mF_wg rfl dX12_turnsBy_138 rfl kkX12 (by decide) rfl vX12_turnsBy lkX12_372 (rmS rfl) (hC0 v1 (mo_above v2) v3 X) rfl rfl (Nat.le_of_ble_eq_true rfl) (fun c17 X16 => ?_)
    exact g_iret dX12_turnsBy_141 rfl rfl
  refine g_case (z := (7 : Int32)) (fun hc => ?_) (fun hc7 => ?_)
  · refine g_tableIn hc dX12_turnsBy_1 (by decide) (by decide) rfl rfl ?_
    refine g_aload_n 0 dX12_turnsBy_100 rfl rfl ?_
    refine g_bipush dX12_turnsBy_101 rfl kbi_80 ?_
    refine g_cVVw (As := [.int (80 : Int32)]) (st := []) 1 mF_wg rfl dX12_turnsBy_103 rfl kkX12 (by decide) rfl vX12_ran lkX12_363 (rmB (b := 803) (by decide) (by decide) (by omega)) (mo_ran_c q (80 : Int32) X) rfl rfl (Nat.le_of_ble_eq_true rfl) (fun X18 => ?_)
    refine g_aload_n 0 dX12_turnsBy_106 rfl rfl ?_
    refine g_iload_n 1 dX12_turnsBy_107 rfl rfl ?_
    refine g_iconst dX12_turnsBy_108 rfl kic_4 ?_
    refine g_iload_n 3 dX12_turnsBy_109 rfl rfl ?_
    refine g_cVIw (As := [.int v1, .int (4 : Int32), .int v3]) (st := []) 3 mF_wg rfl dX12_turnsBy_110 rfl kkX12 (by decide) rfl vX12_turnsBy lkX12_372 (rmS rfl) (hC0 v1 (4 : Int32) v3 X18) rfl rfl (Nat.le_of_ble_eq_true rfl) (fun c20 X19 => ?_)
    refine g_istore (lv' := [(4, .int c20), (0, .ref (q.ad 102)), (1, .int v1), (2, .int v2), (3, .int v3)]) dX12_turnsBy_113 rfl (Nat.le_of_ble_eq_true rfl) rfl ?_
    refine g_iload 0 dX12_turnsBy_115 rfl rfl ?_
    refine g_aload_n 1 dX12_turnsBy_117 rfl rfl ?_
    refine g_iload_n 2 dX12_turnsBy_118 rfl rfl ?_
    refine g_aload_n 1 dX12_turnsBy_119 rfl rfl ?_
    refine g_getR 102 38 128 rfl dX12_turnsBy_120 rfl kkX12 flX12_87 (by decide) rfl rfl (by decide) rfl ?_
    refine g_iload_n 2 dX12_turnsBy_123 rfl rfl ?_
    refine g_iald dX12_turnsBy_124 rfl (by decide) rfl rfl ?_
    refine g_iconst dX12_turnsBy_125 rfl kic_2 ?_
    refine g_cVIw (As := [.int v1, .int (X19.1 128 (nx v1)), .int (2 : Int32)]) (st := [.int c20]) 3 mF_wg rfl dX12_turnsBy_126 rfl kkX12 (by decide) rfl vX12_sinksBy lkX12_375 (rmB (b := 803) (by decide) (by decide) (by omega)) (mo_sinksBy_c q v1 (X19.1 128 (nx v1)) (2 : Int32) X19) rfl rfl (Nat.le_of_ble_eq_true rfl) (fun c22 X21 => ?_)
    refine g_iadd dX12_turnsBy_129 rfl ?_
    exact g_iret dX12_turnsBy_130 rfl rfl
  refine g_tableOut dX12_turnsBy_1 (by have e0 := lv_neT (a := 0) hc0 (by decide); have e1 := lv_neT (a := 1) hc1 (by decide); have e2 := lv_neT (a := 2) hc2 (by decide); have e3 := lv_neT (a := 3) hc3 (by decide); have e4 := lv_neT (a := 4) hc4 (by decide); have e5 := lv_neT (a := 5) hc5 (by decide); have e6 := lv_neT (a := 6) hc6 (by decide); have e7 := lv_neT (a := 7) hc7 (by decide); omega) rfl ?_
  refine g_aload_n 0 dX12_turnsBy_131 rfl rfl ?_
  refine g_iload_n 1 dX12_turnsBy_132 rfl rfl ?_
  refine g_iload_n 2 dX12_turnsBy_133 rfl rfl ?_
  refine g_cSIt (As := [.int v2]) (st := [.int v1, .ref (q.ad 102)]) 1 mF_wg rfl dX12_turnsBy_134 rfl vX12_above lkX12_369 (rmB (b := 803) (by decide) (by decide) (by omega)) (mo_above_c q v2 X) rfl rfl (Nat.le_of_ble_eq_true rfl) ?_
  refine g_iload_n 3 dX12_turnsBy_137 rfl rfl ?_
  refine g_cVIw (As := [.int v1, .int (mo_above v2), .int v3]) (st := []) 3 mF_wg rfl dX12_turnsBy_138 rfl kkX12 (by decide) rfl vX12_turnsBy lkX12_372 (rmS rfl) (hC0 v1 (mo_above v2) v3 X) rfl rfl (Nat.le_of_ble_eq_true rfl) (fun c24 X23 => ?_)
  exact g_iret dX12_turnsBy_141 rfl rfl
theorem mo_turnsBy_grp_c (q : Th) : ∀ d, (∀ (v1 : Int32) (v2 : Int32) (v3 : Int32) X, Ct q nX12_turnsBy (803 + d) fiw [.ref (q.ad 102), .int v1, .int v2, .int v3] X (mo_turnsBy_grp d 0 v1 v2 v3 X)) := by
  intro d
  induction d with
  | zero => exact fun _ _ _ _ r h => by cases h
  | succ d ih =>
    have h0 := ih
    exact fun v1 v2 v3 X => mo_turnsBy_gc q (mo_turnsBy_grp d) (803 + d) (by omega) h0 v1 v2 v3 X
theorem mo_turnsBy_c (q : Th) (v1 : Int32) (v2 : Int32) (v3 : Int32) (X : St) : Ct q nX12_turnsBy (803 + DEP) fiw [.ref (q.ad 102), .int v1, .int v2, .int v3] X (mo_turnsBy v1 v2 v3 X) := (mo_turnsBy_grp_c q DEP) v1 v2 v3 X
def mo_tells_G (C : Nat → Int32 → Int32 → Int32 → St → Option (Int32 × St)) (v1 : Int32) (v2 : Int32) (v3 : Int32) (X : St) : Option (Int32 × St) :=
  (if v2 = (0 : Int32) then
  ((mo_ran (2 : Int32) X).bind fun X1 =>
  (if inB v1 50 then
  ((mo_turnsBy v1 (X1.1 128 (nx v1)) v3 X1).bind fun (c3, X2) =>
  (if inB v1 50 then
  ((mo_sinksBy v1 (X2.1 128 (nx v1)) (1 : Int32) X2).bind fun (c5, X4) =>
  (some ((c3 - c5), X4))) else none)) else none))
  else
  (if v2 = (5 : Int32) then
  ((mo_ran (60 : Int32) X).bind fun X6 =>
  ((C 0 v1 (3 : Int32) v3 X6).bind fun (c8, X7) =>
  (some ((c8 ^^^ (5 : Int32)), X7))))
  else
  (if v2 = (7 : Int32) then
  ((mo_ran (81 : Int32) X).bind fun X9 =>
  ((C 0 v1 (4 : Int32) v3 X9).bind fun (c11, X10) =>
  (some ((c11 - (1 : Int32)), X10))))
  else
  ((C 0 v1 (mo_above v2) v3 X).bind fun (c13, X12) =>
  (some (c13, X12))))))
def mo_tells_grp : Nat → Nat → Int32 → Int32 → Int32 → St → Option (Int32 × St)
  | 0 => fun _ _ _ _ _ => none
  | d + 1 => fun j a0 a1 a2 X => mo_tells_G (mo_tells_grp d) a0 a1 a2 X
def mo_tells (v1 : Int32) (v2 : Int32) (v3 : Int32) (X : St) : Option (Int32 × St) := mo_tells_grp DEP 0 v1 v2 v3 X
theorem mo_tells_gc (q : Th) (C : Nat → Int32 → Int32 → Int32 → St → Option (Int32 × St)) (Dg : Nat) (hDg : 1204 ≤ Dg) (hC0 : ∀ a0 a1 a2 X, Ct q nX12_tells Dg fiw [.ref (q.ad 102), .int a0, .int a1, .int a2] X (C 0 a0 a1 a2 X)) (v1 : Int32) (v2 : Int32) (v3 : Int32) (X : St) : Ct q nX12_tells (Dg + 1) fiw [.ref (q.ad 102), .int v1, .int v2, .int v3] X (mo_tells_G C v1 v2 v3 X) := by
  refine ct_of (by decide +kernel) (Nat.le_of_ble_eq_true rfl) ?_
  unfold mo_tells_G
  show G q _ _ 0 [(0, .ref (q.ad 102)), (1, .int v1), (2, .int v2), (3, .int v3)] [] X _
  refine g_iload_n 2 dX12_tells_0 rfl rfl ?_
  refine g_case (z := (0 : Int32)) (fun hc => ?_) (fun hc0 => ?_)
  · refine g_lookup dX12_tells_1 (by decide) (by rw [hc] <;> rfl) rfl ?_
    refine g_aload_n 0 dX12_tells_36 rfl rfl ?_
    refine g_iconst dX12_tells_37 rfl kic_2 ?_
    refine g_cVVw (As := [.int (2 : Int32)]) (st := []) 1 mF_wg rfl dX12_tells_38 rfl kkX12 (by decide) rfl vX12_ran lkX12_363 (rmB (b := 1204) (by decide) (by decide) (by omega)) (mo_ran_c q (2 : Int32) X) rfl rfl (Nat.le_of_ble_eq_true rfl) (fun X1 => ?_)
    refine g_aload_n 0 dX12_tells_41 rfl rfl ?_
    refine g_iload_n 1 dX12_tells_42 rfl rfl ?_
    refine g_aload_n 0 dX12_tells_43 rfl rfl ?_
    refine g_getR 102 38 128 rfl dX12_tells_44 rfl kkX12 flX12_87 (by decide) rfl rfl (by decide) rfl ?_
    refine g_iload_n 1 dX12_tells_47 rfl rfl ?_
    refine g_iald dX12_tells_48 rfl (by decide) rfl rfl ?_
    refine g_iload_n 3 dX12_tells_49 rfl rfl ?_
    refine g_cVIw (As := [.int v1, .int (X1.1 128 (nx v1)), .int v3]) (st := []) 3 mF_wg rfl dX12_tells_50 rfl kkX12 (by decide) rfl vX12_turnsBy lkX12_372 (rmB (b := 1204) (by decide) (by decide) (by omega)) (mo_turnsBy_c q v1 (X1.1 128 (nx v1)) v3 X1) rfl rfl (Nat.le_of_ble_eq_true rfl) (fun c3 X2 => ?_)
    refine g_istore (lv' := [(4, .int c3), (0, .ref (q.ad 102)), (1, .int v1), (2, .int v2), (3, .int v3)]) dX12_tells_53 rfl (Nat.le_of_ble_eq_true rfl) rfl ?_
    refine g_iload 0 dX12_tells_55 rfl rfl ?_
    refine g_aload_n 1 dX12_tells_57 rfl rfl ?_
    refine g_iload_n 2 dX12_tells_58 rfl rfl ?_
    refine g_aload_n 1 dX12_tells_59 rfl rfl ?_
    refine g_getR 102 38 128 rfl dX12_tells_60 rfl kkX12 flX12_87 (by decide) rfl rfl (by decide) rfl ?_
    refine g_iload_n 2 dX12_tells_63 rfl rfl ?_
    refine g_iald dX12_tells_64 rfl (by decide) rfl rfl ?_
    refine g_iconst dX12_tells_65 rfl kic_1 ?_
    refine g_cVIw (As := [.int v1, .int (X2.1 128 (nx v1)), .int (1 : Int32)]) (st := [.int c3]) 3 mF_wg rfl dX12_tells_66 rfl kkX12 (by decide) rfl vX12_sinksBy lkX12_375 (rmB (b := 1204) (by decide) (by decide) (by omega)) (mo_sinksBy_c q v1 (X2.1 128 (nx v1)) (1 : Int32) X2) rfl rfl (Nat.le_of_ble_eq_true rfl) (fun c5 X4 => ?_)
    refine g_isub dX12_tells_69 rfl ?_
    exact g_iret dX12_tells_70 rfl rfl
  refine g_case (z := (5 : Int32)) (fun hc => ?_) (fun hc1 => ?_)
  · refine g_lookup dX12_tells_1 (by decide) (by rw [hc] <;> rfl) rfl ?_
    refine g_aload_n 0 dX12_tells_71 rfl rfl ?_
    refine g_bipush dX12_tells_72 rfl kbi_60 ?_
    refine g_cVVw (As := [.int (60 : Int32)]) (st := []) 1 mF_wg rfl dX12_tells_74 rfl kkX12 (by decide) rfl vX12_ran lkX12_363 (rmB (b := 1204) (by decide) (by decide) (by omega)) (mo_ran_c q (60 : Int32) X) rfl rfl (Nat.le_of_ble_eq_true rfl) (fun X6 => ?_)
    refine g_aload_n 0 dX12_tells_77 rfl rfl ?_
    refine g_iload_n 1 dX12_tells_78 rfl rfl ?_
    refine g_iconst dX12_tells_79 rfl kic_3 ?_
    refine g_iload_n 3 dX12_tells_80 rfl rfl ?_
    refine g_cVIw (As := [.int v1, .int (3 : Int32), .int v3]) (st := []) 3 mF_wg rfl dX12_tells_81 rfl kkX12 (by decide) rfl vX12_tells lkX12_378 (rmS rfl) (hC0 v1 (3 : Int32) v3 X6) rfl rfl (Nat.le_of_ble_eq_true rfl) (fun c8 X7 => ?_)
    refine g_iconst dX12_tells_84 rfl kic_5 ?_
    refine g_ixor dX12_tells_85 rfl ?_
    exact g_iret dX12_tells_86 rfl rfl
  refine g_case (z := (7 : Int32)) (fun hc => ?_) (fun hc2 => ?_)
  · refine g_lookup dX12_tells_1 (by decide) (by rw [hc] <;> rfl) rfl ?_
    refine g_aload_n 0 dX12_tells_87 rfl rfl ?_
    refine g_bipush dX12_tells_88 rfl kbi_81 ?_
    refine g_cVVw (As := [.int (81 : Int32)]) (st := []) 1 mF_wg rfl dX12_tells_90 rfl kkX12 (by decide) rfl vX12_ran lkX12_363 (rmB (b := 1204) (by decide) (by decide) (by omega)) (mo_ran_c q (81 : Int32) X) rfl rfl (Nat.le_of_ble_eq_true rfl) (fun X9 => ?_)
    refine g_aload_n 0 dX12_tells_93 rfl rfl ?_
    refine g_iload_n 1 dX12_tells_94 rfl rfl ?_
    refine g_iconst dX12_tells_95 rfl kic_4 ?_
    refine g_iload_n 3 dX12_tells_96 rfl rfl ?_
    refine g_cVIw (As := [.int v1, .int (4 : Int32), .int v3]) (st := []) 3 mF_wg rfl dX12_tells_97 rfl kkX12 (by decide) rfl vX12_tells lkX12_378 (rmS rfl) (hC0 v1 (4 : Int32) v3 X9) rfl rfl (Nat.le_of_ble_eq_true rfl) (fun c11 X10 => ?_)
    refine g_iconst dX12_tells_100 rfl kic_1 ?_
    refine g_isub dX12_tells_101 rfl ?_
    exact g_iret dX12_tells_102 rfl rfl
  refine g_lookup dX12_tells_1 (by decide) (by show Op.lookupswitch.offset [(0, 35), (5, 70), (7, 86)] (102) _ = 102; rw [lv_osw hc0 (by decide), lv_osw hc1 (by decide), lv_osw hc2 (by decide)]; rfl) rfl ?_
  refine g_aload_n 0 dX12_tells_103 rfl rfl ?_
  refine g_iload_n 1 dX12_tells_104 rfl rfl ?_
  refine g_iload_n 2 dX12_tells_105 rfl rfl ?_
  refine g_cSIt (As := [.int v2]) (st := [.int v1, .ref (q.ad 102)]) 1 mF_wg rfl dX12_tells_106 rfl vX12_above lkX12_369 (rmB (b := 1204) (by decide) (by decide) (by omega)) (mo_above_c q v2 X) rfl rfl (Nat.le_of_ble_eq_true rfl) ?_
  refine g_iload_n 3 dX12_tells_109 rfl rfl ?_
  refine g_cVIw (As := [.int v1, .int (mo_above v2), .int v3]) (st := []) 3 mF_wg rfl dX12_tells_110 rfl kkX12 (by decide) rfl vX12_tells lkX12_378 (rmS rfl) (hC0 v1 (mo_above v2) v3 X) rfl rfl (Nat.le_of_ble_eq_true rfl) (fun c13 X12 => ?_)
  exact g_iret dX12_tells_113 rfl rfl
theorem mo_tells_grp_c (q : Th) : ∀ d, (∀ (v1 : Int32) (v2 : Int32) (v3 : Int32) X, Ct q nX12_tells (1204 + d) fiw [.ref (q.ad 102), .int v1, .int v2, .int v3] X (mo_tells_grp d 0 v1 v2 v3 X)) := by
  intro d
  induction d with
  | zero => exact fun _ _ _ _ r h => by cases h
  | succ d ih =>
    have h0 := ih
    exact fun v1 v2 v3 X => mo_tells_gc q (mo_tells_grp d) (1204 + d) (by omega) h0 v1 v2 v3 X
theorem mo_tells_c (q : Th) (v1 : Int32) (v2 : Int32) (v3 : Int32) (X : St) : Ct q nX12_tells (1204 + DEP) fiw [.ref (q.ad 102), .int v1, .int v2, .int v3] X (mo_tells v1 v2 v3 X) := (mo_tells_grp_c q DEP) v1 v2 v3 X
def mo_body (v1 : Int32) (X : St) : Option (Int32 × St) :=
  (if (mo_within v1 (0 : Int32) (7 : Int32)) = 0 then
  (some ((-1 : Int32), X))
  else
  (if (X.1 102 37) = (50 : Int32) then
  (some ((-3 : Int32), X))
  else
  (if inB (X.1 102 37) 50 then
  ((some (stI (stI X 128 (nx (X.1 102 37)) v1) 102 37 (((stI X 128 (nx (X.1 102 37)) v1).1 102 37) + (1 : Int32)))).bind fun X1 =>
  (some (((stI X 128 (nx (X.1 102 37)) v1).1 102 37), X1))) else none)))
theorem mo_body_c (q : Th) (v1 : Int32) (X : St) : Ct q nX12_body 1 fiw [.ref (q.ad 102), .int v1] X (mo_body v1 X) := by
  refine ct_of (by decide +kernel) (Nat.le_of_ble_eq_true rfl) ?_
  unfold mo_body
  show G q _ _ 0 [(0, .ref (q.ad 102)), (1, .int v1)] [] X _
  refine g_iload_n 1 dX12_body_0 rfl rfl ?_
  refine g_iconst dX12_body_1 rfl kic_0 ?_
  refine g_bipush dX12_body_2 rfl kbi_7 ?_
  refine g_cSIt (As := [.int v1, .int (0 : Int32), .int (7 : Int32)]) (st := []) 3 mF_wg rfl dX12_body_4 rfl vX12_within lkX12_128 (rmL rfl rfl) (mo_within_c q v1 (0 : Int32) (7 : Int32) X) rfl rfl (Nat.le_of_ble_eq_true rfl) ?_
  refine g_if_ne dX12_body_7 rfl rfl ?_ ?_
  · refine g_iconst dX12_body_10 rfl kic_m1 ?_
    exact g_iret dX12_body_11 rfl rfl
  refine g_aload_n 0 dX12_body_12 rfl rfl ?_
  refine g_getI 102 37 rfl dX12_body_13 rfl kkX12 flX12_381 (by decide) rfl rfl (by decide) rfl ?_
  refine g_bipush dX12_body_16 rfl kbi_50 ?_
  refine g_icmp_ne dX12_body_18 rfl rfl ?_ ?_
  · refine g_bipush dX12_body_21 rfl kbi_m3 ?_
    exact g_iret dX12_body_23 rfl rfl
  refine g_aload_n 0 dX12_body_24 rfl rfl ?_
  refine g_getR 102 38 128 rfl dX12_body_25 rfl kkX12 flX12_87 (by decide) rfl rfl (by decide) rfl ?_
  refine g_aload_n 0 dX12_body_28 rfl rfl ?_
  refine g_getI 102 37 rfl dX12_body_29 rfl kkX12 flX12_381 (by decide) rfl rfl (by decide) rfl ?_
  refine g_iload_n 1 dX12_body_32 rfl rfl ?_
  refine g_iast dX12_body_33 rfl (by decide) rfl rfl ?_
  refine g_aload_n 0 dX12_body_34 rfl rfl ?_
  refine g_dup dX12_body_35 rfl rfl ?_
  refine g_getI 102 37 rfl dX12_body_36 rfl kkX12 flX12_381 (by decide) rfl rfl (by decide) rfl ?_
  refine g_dup_x1 dX12_body_39 rfl rfl rfl ?_
  refine g_iconst dX12_body_40 rfl kic_1 ?_
  refine g_iadd dX12_body_41 rfl ?_
  refine g_putI 102 37 rfl dX12_body_42 rfl kkX12 flX12_381 (by decide) rfl rfl (by decide) rfl rfl rfl ?_
  refine g_nmX (fun X1 => ?_)
  exact g_iret dX12_body_45 rfl rfl
def mo_act (v1 : Int32) (v2 : Int32) (v3 : Int32) (X : St) : Option (Int32 × St) :=
  (if (mo_within v1 (0 : Int32) (((stI X 102 39 (0 : Int32)).1 102 37) - (1 : Int32))) = 0 then
  (some ((0 : Int32), (stI X 102 39 (0 : Int32))))
  else
  (if (mo_within v2 (0 : Int32) (3 : Int32)) = 0 then
  (some ((0 : Int32), (stI X 102 39 (0 : Int32))))
  else
  (if inB v1 50 then
  ((some ((stI X 102 39 (0 : Int32)).1 128 (nx v1))).bind fun t1 =>
  (if v2 = 0 then
  ((mo_countsBy v1 t1 v3 (stI X 102 39 (0 : Int32))).bind fun (c3, X2) =>
  (some (c3, X2)))
  else
  (if v2 = (1 : Int32) then
  ((mo_turnsBy v1 t1 v3 (stI X 102 39 (0 : Int32))).bind fun (c5, X4) =>
  (some (c5, X4)))
  else
  (if v2 = (2 : Int32) then
  ((mo_sinksBy v1 t1 v3 (stI X 102 39 (0 : Int32))).bind fun (c7, X6) =>
  (some (c7, X6)))
  else
  ((mo_tells v1 t1 v3 (stI X 102 39 (0 : Int32))).bind fun (c9, X8) =>
  (some (c9, X8))))))) else none)))
theorem mo_act_c (q : Th) (v1 : Int32) (v2 : Int32) (v3 : Int32) (X : St) : Ct q nX12_act 1605 fiw [.ref (q.ad 102), .int v1, .int v2, .int v3] X (mo_act v1 v2 v3 X) := by
  refine ct_of (by decide +kernel) (Nat.le_of_ble_eq_true rfl) ?_
  unfold mo_act
  show G q _ _ 0 [(0, .ref (q.ad 102)), (1, .int v1), (2, .int v2), (3, .int v3)] [] X _
  refine g_aload_n 0 dX12_act_0 rfl rfl ?_
  refine g_iconst dX12_act_1 rfl kic_0 ?_
  refine g_putI 102 39 rfl dX12_act_2 rfl kkX12 flX12_360 (by decide) rfl rfl (by decide) rfl rfl rfl ?_
  refine g_iload_n 1 dX12_act_5 rfl rfl ?_
  refine g_iconst dX12_act_6 rfl kic_0 ?_
  refine g_aload_n 0 dX12_act_7 rfl rfl ?_
  refine g_getI 102 37 rfl dX12_act_8 rfl kkX12 flX12_381 (by decide) rfl rfl (by decide) rfl ?_
  refine g_iconst dX12_act_11 rfl kic_1 ?_
  refine g_isub dX12_act_12 rfl ?_
  refine g_cSIt (As := [.int v1, .int (0 : Int32), .int (((stI X 102 39 (0 : Int32)).1 102 37) - (1 : Int32))]) (st := []) 3 mF_wg rfl dX12_act_13 rfl vX12_within lkX12_128 (rmL rfl rfl) (mo_within_c q v1 (0 : Int32) (((stI X 102 39 (0 : Int32)).1 102 37) - (1 : Int32)) (stI X 102 39 (0 : Int32))) rfl rfl (Nat.le_of_ble_eq_true rfl) ?_
  refine g_if_eq dX12_act_16 rfl rfl ?_ ?_
  · refine g_iconst dX12_act_28 rfl kic_0 ?_
    exact g_iret dX12_act_29 rfl rfl
  refine g_iload_n 2 dX12_act_19 rfl rfl ?_
  refine g_iconst dX12_act_20 rfl kic_0 ?_
  refine g_iconst dX12_act_21 rfl kic_3 ?_
  refine g_cSIt (As := [.int v2, .int (0 : Int32), .int (3 : Int32)]) (st := []) 3 mF_wg rfl dX12_act_22 rfl vX12_within lkX12_128 (rmL rfl rfl) (mo_within_c q v2 (0 : Int32) (3 : Int32) (stI X 102 39 (0 : Int32))) rfl rfl (Nat.le_of_ble_eq_true rfl) ?_
  refine g_if_ne dX12_act_25 rfl rfl ?_ ?_
  · refine g_iconst dX12_act_28 rfl kic_0 ?_
    exact g_iret dX12_act_29 rfl rfl
  refine g_aload_n 0 dX12_act_30 rfl rfl ?_
  refine g_getR 102 38 128 rfl dX12_act_31 rfl kkX12 flX12_87 (by decide) rfl rfl (by decide) rfl ?_
  refine g_iload_n 1 dX12_act_34 rfl rfl ?_
  refine g_iald dX12_act_35 rfl (by decide) rfl rfl ?_
  refine g_nmI (fun t1 => ?_)
  refine g_istore (lv' := [(4, .int t1), (0, .ref (q.ad 102)), (1, .int v1), (2, .int v2), (3, .int v3)]) dX12_act_36 rfl (Nat.le_of_ble_eq_true rfl) rfl ?_
  refine g_iload_n 3 dX12_act_38 rfl rfl ?_
  refine g_if_ne dX12_act_39 rfl rfl ?_ ?_
  · refine g_aload_n 1 dX12_act_42 rfl rfl ?_
    refine g_iload_n 2 dX12_act_43 rfl rfl ?_
    refine g_iload 0 dX12_act_44 rfl rfl ?_
    refine g_iload_n 4 dX12_act_46 rfl rfl ?_
    refine g_cVIw (As := [.int v1, .int t1, .int v3]) (st := []) 3 mF_wg rfl dX12_act_47 rfl kkX12 (by decide) rfl vX12_countsBy lkX12_366 (rmL rfl rfl) (mo_countsBy_c q v1 t1 v3 (stI X 102 39 (0 : Int32))) rfl rfl (Nat.le_of_ble_eq_true rfl) (fun c3 X2 => ?_)
    refine g_goto dX12_act_50 rfl ?_
    exact g_iret dX12_act_93 rfl rfl
  refine g_iload_n 3 dX12_act_53 rfl rfl ?_
  refine g_iconst dX12_act_54 rfl kic_1 ?_
  refine g_icmp_ne dX12_act_55 rfl rfl ?_ ?_
  · refine g_aload_n 1 dX12_act_58 rfl rfl ?_
    refine g_iload_n 2 dX12_act_59 rfl rfl ?_
    refine g_iload 0 dX12_act_60 rfl rfl ?_
    refine g_iload_n 4 dX12_act_62 rfl rfl ?_
    refine g_cVIw (As := [.int v1, .int t1, .int v3]) (st := []) 3 mF_wg rfl dX12_act_63 rfl kkX12 (by decide) rfl vX12_turnsBy lkX12_372 (rmL rfl rfl) (mo_turnsBy_c q v1 t1 v3 (stI X 102 39 (0 : Int32))) rfl rfl (Nat.le_of_ble_eq_true rfl) (fun c5 X4 => ?_)
    refine g_goto dX12_act_66 rfl ?_
    exact g_iret dX12_act_93 rfl rfl
  refine g_iload_n 3 dX12_act_69 rfl rfl ?_
  refine g_iconst dX12_act_70 rfl kic_2 ?_
  refine g_icmp_ne dX12_act_71 rfl rfl ?_ ?_
  · refine g_aload_n 1 dX12_act_74 rfl rfl ?_
    refine g_iload_n 2 dX12_act_75 rfl rfl ?_
    refine g_iload 0 dX12_act_76 rfl rfl ?_
    refine g_iload_n 4 dX12_act_78 rfl rfl ?_
    refine g_cVIw (As := [.int v1, .int t1, .int v3]) (st := []) 3 mF_wg rfl dX12_act_79 rfl kkX12 (by decide) rfl vX12_sinksBy lkX12_375 (rmL rfl rfl) (mo_sinksBy_c q v1 t1 v3 (stI X 102 39 (0 : Int32))) rfl rfl (Nat.le_of_ble_eq_true rfl) (fun c7 X6 => ?_)
    refine g_goto dX12_act_82 rfl ?_
    exact g_iret dX12_act_93 rfl rfl
  refine g_aload_n 1 dX12_act_85 rfl rfl ?_
  refine g_iload_n 2 dX12_act_86 rfl rfl ?_
  refine g_iload 0 dX12_act_87 rfl rfl ?_
  refine g_iload_n 4 dX12_act_89 rfl rfl ?_
  refine g_cVIw (As := [.int v1, .int t1, .int v3]) (st := []) 3 mF_wg rfl dX12_act_90 rfl kkX12 (by decide) rfl vX12_tells lkX12_378 (rmL rfl rfl) (mo_tells_c q v1 t1 v3 (stI X 102 39 (0 : Int32))) rfl rfl (Nat.le_of_ble_eq_true rfl) (fun c9 X8 => ?_)
  exact g_iret dX12_act_93 rfl rfl
def mo_trace (v1 : Int32) (X : St) : Option (Int32) :=
  (if (mo_within v1 (0 : Int32) ((jmath_min (24 : Int32) (X.1 102 39)) - (1 : Int32))) = 0 then
  (some (-1 : Int32))
  else
  (if inB v1 24 then
  (some (X.1 129 (nx v1))) else none))
theorem mo_trace_c (q : Th) (v1 : Int32) (X : St) : Ct q nX12_trace 1 (fir X) [.ref (q.ad 102), .int v1] X (mo_trace v1 X) := by
  refine ct_of (by decide +kernel) (Nat.le_of_ble_eq_true rfl) ?_
  unfold mo_trace
  show G q _ _ 0 [(0, .ref (q.ad 102)), (1, .int v1)] [] X _
  refine g_iload_n 1 dX12_trace_0 rfl rfl ?_
  refine g_iconst dX12_trace_1 rfl kic_0 ?_
  refine g_bipush dX12_trace_2 rfl kbi_24 ?_
  refine g_aload_n 0 dX12_trace_4 rfl rfl ?_
  refine g_getI 102 39 rfl dX12_trace_5 rfl kkX12 flX12_360 (by decide) rfl rfl (by decide) rfl ?_
  refine g_mmin (st := [.int (0 : Int32), .int v1]) rfl dX12_trace_8 rfl lkX12_232 (rmL rfl rfl) (Nat.le_of_ble_eq_true rfl) ?_
  refine g_iconst dX12_trace_11 rfl kic_1 ?_
  refine g_isub dX12_trace_12 rfl ?_
  refine g_cSIt (As := [.int v1, .int (0 : Int32), .int ((jmath_min (24 : Int32) (X.1 102 39)) - (1 : Int32))]) (st := []) 3 mF_wg rfl dX12_trace_13 rfl vX12_within lkX12_128 (rmL rfl rfl) (mo_within_c q v1 (0 : Int32) ((jmath_min (24 : Int32) (X.1 102 39)) - (1 : Int32)) X) rfl rfl (Nat.le_of_ble_eq_true rfl) ?_
  refine g_if_eq dX12_trace_16 rfl rfl ?_ ?_
  · refine g_iconst dX12_trace_28 rfl kic_m1 ?_
    exact g_iret dX12_trace_29 rfl rfl
  refine g_aload_n 0 dX12_trace_19 rfl rfl ?_
  refine g_getR 102 40 129 rfl dX12_trace_20 rfl kkX12 flX12_90 (by decide) rfl rfl (by decide) rfl ?_
  refine g_iload_n 1 dX12_trace_23 rfl rfl ?_
  refine g_iald dX12_trace_24 rfl (by decide) rfl rfl ?_
  refine g_goto dX12_trace_25 rfl ?_
  exact g_iret dX12_trace_29 rfl rfl
def mo_keep (v1 : Int32) (v2 : Int32) (X : St) : Option (Int32 × St) :=
  (if (mo_isShelf v1) = 0 then
  (some ((-1 : Int32), X))
  else
  (if (mo_within v2 (-1 : Int32) ((X.1 102 37) - (1 : Int32))) = 0 then
  (some ((-1 : Int32), X))
  else
  (if v2 < 0 then
  (if inB v1 6 then
  (if inB v1 6 then
  ((some (stI (stI X 130 (nx v1) (-1 : Int32)) 131 (nx v1) (0 : Int32))).bind fun X1 =>
  (some ((1 : Int32), X1))) else none) else none)
  else
  (if inB v1 6 then
  (if inB v1 6 then
  ((some (stI (stI X 130 (nx v1) ((10 : Int32) + v2)) 131 (nx v1) (0 : Int32))).bind fun X2 =>
  (some ((1 : Int32), X2))) else none) else none))))
theorem mo_keep_c (q : Th) (v1 : Int32) (v2 : Int32) (X : St) : Ct q nX12_keep 2 fiw [.ref (q.ad 102), .int v1, .int v2] X (mo_keep v1 v2 X) := by
  refine ct_of (by decide +kernel) (Nat.le_of_ble_eq_true rfl) ?_
  unfold mo_keep
  show G q _ _ 0 [(0, .ref (q.ad 102)), (1, .int v1), (2, .int v2)] [] X _
  refine g_iload_n 1 dX12_keep_0 rfl rfl ?_
  refine g_cSIt (As := [.int v1]) (st := []) 1 mF_wg rfl dX12_keep_1 rfl vX12_isShelf lkX12_140 (rmL rfl rfl) (mo_isShelf_c q v1 X) rfl rfl (Nat.le_of_ble_eq_true rfl) ?_
  refine g_if_eq dX12_keep_4 rfl rfl ?_ ?_
  · refine g_iconst dX12_keep_21 rfl kic_m1 ?_
    exact g_iret dX12_keep_22 rfl rfl
  refine g_iload_n 2 dX12_keep_7 rfl rfl ?_
  refine g_iconst dX12_keep_8 rfl kic_m1 ?_
  refine g_aload_n 0 dX12_keep_9 rfl rfl ?_
  refine g_getI 102 37 rfl dX12_keep_10 rfl kkX12 flX12_381 (by decide) rfl rfl (by decide) rfl ?_
  refine g_iconst dX12_keep_13 rfl kic_1 ?_
  refine g_isub dX12_keep_14 rfl ?_
  refine g_cSIt (As := [.int v2, .int (-1 : Int32), .int ((X.1 102 37) - (1 : Int32))]) (st := []) 3 mF_wg rfl dX12_keep_15 rfl vX12_within lkX12_128 (rmL rfl rfl) (mo_within_c q v2 (-1 : Int32) ((X.1 102 37) - (1 : Int32)) X) rfl rfl (Nat.le_of_ble_eq_true rfl) ?_
  refine g_if_ne dX12_keep_18 rfl rfl ?_ ?_
  · refine g_iconst dX12_keep_21 rfl kic_m1 ?_
    exact g_iret dX12_keep_22 rfl rfl
  refine g_aload_n 0 dX12_keep_23 rfl rfl ?_
  refine g_getR 102 41 130 rfl dX12_keep_24 rfl kkX12 flX12_93 (by decide) rfl rfl (by decide) rfl ?_
  refine g_iload_n 1 dX12_keep_27 rfl rfl ?_
  refine g_iload_n 2 dX12_keep_28 rfl rfl ?_
  refine g_if_ge dX12_keep_29 rfl rfl ?_ ?_
  · refine g_iconst dX12_keep_32 rfl kic_m1 ?_
    refine g_goto dX12_keep_33 rfl ?_
    refine g_iast dX12_keep_40 rfl (by decide) rfl rfl ?_
    refine g_aload_n 0 dX12_keep_41 rfl rfl ?_
    refine g_getR 102 42 131 rfl dX12_keep_42 rfl kkX12 flX12_96 (by decide) rfl rfl (by decide) rfl ?_
    refine g_iload_n 1 dX12_keep_45 rfl rfl ?_
    refine g_iconst dX12_keep_46 rfl kic_0 ?_
    refine g_iast dX12_keep_47 rfl (by decide) rfl rfl ?_
    refine g_nmX (fun X1 => ?_)
    refine g_iconst dX12_keep_48 rfl kic_1 ?_
    exact g_iret dX12_keep_49 rfl rfl
  refine g_bipush dX12_keep_36 rfl kbi_10 ?_
  refine g_iload_n 2 dX12_keep_38 rfl rfl ?_
  refine g_iadd dX12_keep_39 rfl ?_
  refine g_iast dX12_keep_40 rfl (by decide) rfl rfl ?_
  refine g_aload_n 0 dX12_keep_41 rfl rfl ?_
  refine g_getR 102 42 131 rfl dX12_keep_42 rfl kkX12 flX12_96 (by decide) rfl rfl (by decide) rfl ?_
  refine g_iload_n 1 dX12_keep_45 rfl rfl ?_
  refine g_iconst dX12_keep_46 rfl kic_0 ?_
  refine g_iast dX12_keep_47 rfl (by decide) rfl rfl ?_
  refine g_nmX (fun X2 => ?_)
  refine g_iconst dX12_keep_48 rfl kic_1 ?_
  exact g_iret dX12_keep_49 rfl rfl
def mo_row_L48_B (n : Nat) (rec : Int32 → Int32 → St → Option (Int32 × St)) (v1 : Int32) (v4 : Int32) (X : St) : Option (Int32 × St) :=
(if v4 < (60 : Int32) then
(if inB (((60 : Int32) * v1) + v4) 360 then
(rec v1 (v4 + (1 : Int32)) (stL X 132 (nx (((60 : Int32) * v1) + v4)) (0 : Int64))) else none)
else
(some ((1 : Int32), X)))
def mo_row_L48 (n : Nat) : Nat → Int32 → Int32 → St → Option (Int32 × St)
  | 0 => fun _ _ _ => none
  | w + 1 => mo_row_L48_B n (mo_row_L48 n w)
def mo_row (n : Nat) (v1 : Int32) (v2 : Int32) (v3 : Int32) (X : St) : Option (Int32 × St) :=
  (if (mo_isShelf v1) = 0 then
  (some ((-1 : Int32), X))
  else
  (if (mo_within v2 (0 : Int32) (4 : Int32)) = 0 then
  (some ((-1 : Int32), X))
  else
  (if (60 : Int32) < v3 then
  (some ((-1 : Int32), X))
  else
  (if v3 < 0 then
  (some ((-14 : Int32), X))
  else
  (if inB v1 6 then
  (if inB v1 6 then
  (mo_row_L48 n n v1 (0 : Int32) (stI (stI X 130 (nx v1) v2) 131 (nx v1) v3)) else none) else none)))))
theorem mo_row_L48_Bg (q : Th) (n : Nat) (rec : Int32 → Int32 → St → Option (Int32 × St)) (hrec : ∀ v1 v4 X, G q (mF q nX12_row RX12 2) fiw 48 [(0, .ref (q.ad 102)), (1, .int v1), (4, .int v4)] [] X (rec v1 v4 X)) (v1 : Int32) (v4 : Int32) (X : St) : G q (mF q nX12_row RX12 2) fiw 48 [(0, .ref (q.ad 102)), (1, .int v1), (4, .int v4)] [] X (mo_row_L48_B n rec v1 v4 X) := by
  unfold mo_row_L48_B
  refine g_iload 2 dX12_row_48 rfl rfl ?_
  refine g_bipush dX12_row_50 rfl kbi_60 ?_
  refine g_icmp_ge dX12_row_52 rfl rfl ?_ ?_
  · refine g_aload_n 0 dX12_row_55 rfl rfl ?_
    refine g_getR 102 43 132 rfl dX12_row_56 rfl kkX12 flX12_99 (by decide) rfl rfl (by decide) rfl ?_
    refine g_bipush dX12_row_59 rfl kbi_60 ?_
    refine g_iload_n 1 dX12_row_61 rfl rfl ?_
    refine g_imul dX12_row_62 rfl ?_
    refine g_iload 2 dX12_row_63 rfl rfl ?_
    refine g_iadd dX12_row_65 rfl ?_
    refine g_lconst dX12_row_66 rfl k_l0 ?_
    refine g_last dX12_row_67 rfl (by decide) rfl rfl ?_
    refine g_inc (lv' := [(4, .int (v4 + (1 : Int32))), (0, .ref (q.ad 102)), (1, .int v1)]) 2 dX12_row_68 rfl rfl kic_1 (Nat.le_of_ble_eq_true rfl) rfl ?_
    refine g_goto dX12_row_71 rfl ?_
    refine g_sub [1, 2, 0] rfl ?_
    exact hrec v1 (v4 + (1 : Int32)) (stL X 132 (nx (((60 : Int32) * v1) + v4)) (0 : Int64))
  refine g_iconst dX12_row_74 rfl kic_1 ?_
  exact g_iret dX12_row_75 rfl rfl
theorem mo_row_L48_g (q : Th) (n : Nat) : ∀ (w : Nat) (v1 : Int32) (v4 : Int32) (X : St), G q (mF q nX12_row RX12 2) fiw 48 [(0, .ref (q.ad 102)), (1, .int v1), (4, .int v4)] [] X (mo_row_L48 n w v1 v4 X) := by
  intro w
  induction w with
  | zero => intro v1 v4 X; exact g_none
  | succ w ih => intro v1 v4 X; exact mo_row_L48_Bg q n _ ih v1 v4 X
theorem mo_row_c (q : Th) (n : Nat) (v1 : Int32) (v2 : Int32) (v3 : Int32) (X : St) : Ct q nX12_row 2 fiw [.ref (q.ad 102), .int v1, .int v2, .int v3] X (mo_row n v1 v2 v3 X) := by
  refine ct_of (by decide +kernel) (Nat.le_of_ble_eq_true rfl) ?_
  unfold mo_row
  show G q _ _ 0 [(0, .ref (q.ad 102)), (1, .int v1), (2, .int v2), (3, .int v3)] [] X _
  refine g_iload_n 1 dX12_row_0 rfl rfl ?_
  refine g_cSIt (As := [.int v1]) (st := []) 1 mF_wg rfl dX12_row_1 rfl vX12_isShelf lkX12_140 (rmL rfl rfl) (mo_isShelf_c q v1 X) rfl rfl (Nat.le_of_ble_eq_true rfl) ?_
  refine g_if_eq dX12_row_4 rfl rfl ?_ ?_
  · refine g_iconst dX12_row_22 rfl kic_m1 ?_
    exact g_iret dX12_row_23 rfl rfl
  refine g_iload_n 2 dX12_row_7 rfl rfl ?_
  refine g_iconst dX12_row_8 rfl kic_0 ?_
  refine g_iconst dX12_row_9 rfl kic_4 ?_
  refine g_cSIt (As := [.int v2, .int (0 : Int32), .int (4 : Int32)]) (st := []) 3 mF_wg rfl dX12_row_10 rfl vX12_within lkX12_128 (rmL rfl rfl) (mo_within_c q v2 (0 : Int32) (4 : Int32) X) rfl rfl (Nat.le_of_ble_eq_true rfl) ?_
  refine g_if_eq dX12_row_13 rfl rfl ?_ ?_
  · refine g_iconst dX12_row_22 rfl kic_m1 ?_
    exact g_iret dX12_row_23 rfl rfl
  refine g_iload_n 3 dX12_row_16 rfl rfl ?_
  refine g_bipush dX12_row_17 rfl kbi_60 ?_
  refine g_icmp_le dX12_row_19 rfl rfl ?_ ?_
  · refine g_iconst dX12_row_22 rfl kic_m1 ?_
    exact g_iret dX12_row_23 rfl rfl
  refine g_iload_n 3 dX12_row_24 rfl rfl ?_
  refine g_if_ge dX12_row_25 rfl rfl ?_ ?_
  · refine g_bipush dX12_row_28 rfl kbi_m14 ?_
    exact g_iret dX12_row_30 rfl rfl
  refine g_aload_n 0 dX12_row_31 rfl rfl ?_
  refine g_getR 102 41 130 rfl dX12_row_32 rfl kkX12 flX12_93 (by decide) rfl rfl (by decide) rfl ?_
  refine g_iload_n 1 dX12_row_35 rfl rfl ?_
  refine g_iload_n 2 dX12_row_36 rfl rfl ?_
  refine g_iast dX12_row_37 rfl (by decide) rfl rfl ?_
  refine g_aload_n 0 dX12_row_38 rfl rfl ?_
  refine g_getR 102 42 131 rfl dX12_row_39 rfl kkX12 flX12_96 (by decide) rfl rfl (by decide) rfl ?_
  refine g_iload_n 1 dX12_row_42 rfl rfl ?_
  refine g_iload_n 3 dX12_row_43 rfl rfl ?_
  refine g_iast dX12_row_44 rfl (by decide) rfl rfl ?_
  refine g_iconst dX12_row_45 rfl kic_0 ?_
  refine g_istore (lv' := [(4, .int (0 : Int32)), (0, .ref (q.ad 102)), (1, .int v1), (2, .int v2), (3, .int v3)]) dX12_row_46 rfl (Nat.le_of_ble_eq_true rfl) rfl ?_
  refine g_sub [1, 2, 0] rfl ?_
  refine mo_row_L48_g q n n v1 (0 : Int32) (stI (stI X 130 (nx v1) v2) 131 (nx v1) v3)
def mo_isRow (v1 : Int32) (X : St) : Option (Int32) :=
  (if inB v1 6 then
  (some (mo_within (X.1 130 (nx v1)) (0 : Int32) (4 : Int32))) else none)
theorem mo_isRow_c (q : Th) (v1 : Int32) (X : St) : Ct q nX12_isRow 1 (fir X) [.ref (q.ad 102), .int v1] X (mo_isRow v1 X) := by
  refine ct_of (by decide +kernel) (Nat.le_of_ble_eq_true rfl) ?_
  unfold mo_isRow
  show G q _ _ 0 [(0, .ref (q.ad 102)), (1, .int v1)] [] X _
  refine g_aload_n 0 dX12_isRow_0 rfl rfl ?_
  refine g_getR 102 41 130 rfl dX12_isRow_1 rfl kkX12 flX12_93 (by decide) rfl rfl (by decide) rfl ?_
  refine g_iload_n 1 dX12_isRow_4 rfl rfl ?_
  refine g_iald dX12_isRow_5 rfl (by decide) rfl rfl ?_
  refine g_iconst dX12_isRow_6 rfl kic_0 ?_
  refine g_iconst dX12_isRow_7 rfl kic_4 ?_
  refine g_cSIt (As := [.int (X.1 130 (nx v1)), .int (0 : Int32), .int (4 : Int32)]) (st := []) 3 mF_wg rfl dX12_isRow_8 rfl vX12_within lkX12_128 (rmL rfl rfl) (mo_within_c q (X.1 130 (nx v1)) (0 : Int32) (4 : Int32) X) rfl rfl (Nat.le_of_ble_eq_true rfl) ?_
  exact g_zret dX12_isRow_11 rfl (z_mo_within (X.1 130 (nx v1)) (0 : Int32) (4 : Int32)) rfl
def mo_kept (v0 : Int32) (w1 : Int64) : Int64 :=
  (if v0 = (0 : Int32) then
  ((((w1.toInt32).toInt8.toInt32).toInt64))
  else
  (if v0 = (1 : Int32) then
  ((((w1.toInt32).toInt16.toInt32).toInt64))
  else
  (if v0 = (2 : Int32) then
  (((w1.toInt32).toInt64))
  else
  (if v0 = (3 : Int32) then
  (w1)
  else
  (if (lg_cmp w1 (0 : Int64)) = 0 then
  ((0 : Int64))
  else
  ((1 : Int64)))))))
def mo_kept_o (v0 : Int32) (w1 : Int64) : Option Int64 :=
  (if v0 = (0 : Int32) then
  (some (((w1.toInt32).toInt8.toInt32).toInt64))
  else
  (if v0 = (1 : Int32) then
  (some (((w1.toInt32).toInt16.toInt32).toInt64))
  else
  (if v0 = (2 : Int32) then
  (some ((w1.toInt32).toInt64))
  else
  (if v0 = (3 : Int32) then
  (some w1)
  else
  (if (lg_cmp w1 (0 : Int64)) = 0 then
  (some (0 : Int64))
  else
  (some (1 : Int64)))))))
theorem mo_kept_e (v0 : Int32) (w1 : Int64) : mo_kept_o v0 w1 = some (mo_kept v0 w1) := by
  unfold mo_kept_o mo_kept
  simp only [apply_ite some]
theorem mo_kept_c (q : Th) (v0 : Int32) (w1 : Int64) (X : St) : Ct q nX12_kept 0 (flr X) [.int v0, .long w1] X (some (mo_kept v0 w1)) := by
  refine ct_of (by decide +kernel) (Nat.le_of_ble_eq_true rfl) ?_
  rw [← mo_kept_e]
  unfold mo_kept_o
  show G q _ _ 0 [(0, .int v0), (1, .long w1)] [] X _
  refine g_iload_n 0 dX12_kept_0 rfl rfl ?_
  refine g_case (z := (0 : Int32)) (fun hc => ?_) (fun hc0 => ?_)
  · refine g_tableIn hc dX12_kept_1 (by decide) (by decide) rfl rfl ?_
    refine g_lload_n 1 dX12_kept_32 rfl rfl ?_
    refine g_l2i dX12_kept_33 rfl ?_
    refine g_i2b dX12_kept_34 rfl ?_
    refine g_i2l dX12_kept_35 rfl ?_
    exact g_lret dX12_kept_36 rfl rfl
  refine g_case (z := (1 : Int32)) (fun hc => ?_) (fun hc1 => ?_)
  · refine g_tableIn hc dX12_kept_1 (by decide) (by decide) rfl rfl ?_
    refine g_lload_n 1 dX12_kept_37 rfl rfl ?_
    refine g_l2i dX12_kept_38 rfl ?_
    refine g_i2s dX12_kept_39 rfl ?_
    refine g_i2l dX12_kept_40 rfl ?_
    exact g_lret dX12_kept_41 rfl rfl
  refine g_case (z := (2 : Int32)) (fun hc => ?_) (fun hc2 => ?_)
  · refine g_tableIn hc dX12_kept_1 (by decide) (by decide) rfl rfl ?_
    refine g_lload_n 1 dX12_kept_42 rfl rfl ?_
    refine g_l2i dX12_kept_43 rfl ?_
    refine g_i2l dX12_kept_44 rfl ?_
    exact g_lret dX12_kept_45 rfl rfl
  refine g_case (z := (3 : Int32)) (fun hc => ?_) (fun hc3 => ?_)
  · refine g_tableIn hc dX12_kept_1 (by decide) (by decide) rfl rfl ?_
    refine g_lload_n 1 dX12_kept_46 rfl rfl ?_
    exact g_lret dX12_kept_47 rfl rfl
  refine g_tableOut dX12_kept_1 (by have e0 := lv_neT (a := 0) hc0 (by decide); have e1 := lv_neT (a := 1) hc1 (by decide); have e2 := lv_neT (a := 2) hc2 (by decide); have e3 := lv_neT (a := 3) hc3 (by decide); omega) rfl ?_
  refine g_lload_n 1 dX12_kept_48 rfl rfl ?_
  refine g_lconst dX12_kept_49 rfl k_l0 ?_
  refine g_lcmp dX12_kept_50 rfl ?_
  refine g_if_eq dX12_kept_51 rfl rfl ?_ ?_
  · refine g_lconst dX12_kept_58 rfl k_l0 ?_
    exact g_lret dX12_kept_59 rfl rfl
  refine g_lconst dX12_kept_54 rfl k_l1 ?_
  refine g_goto dX12_kept_55 rfl ?_
  exact g_lret dX12_kept_59 rfl rfl
def mo_put (v1 : Int32) (v2 : Int32) (w3 : Int64) (X : St) : Option (Int32 × St) :=
  (if (mo_isShelf v1) = 0 then
  (some ((-1 : Int32), X))
  else
  (if inB v1 6 then
  (if (X.1 130 (nx v1)) = (-1 : Int32) then
  (some ((-11 : Int32), X))
  else
  ((mo_isRow v1 X).bind fun c1 =>
  (if c1 = 0 then
  (some ((-12 : Int32), X))
  else
  (if inB v1 6 then
  (if (mo_within v2 (0 : Int32) ((X.1 131 (nx v1)) - (1 : Int32))) = 0 then
  (some ((-13 : Int32), X))
  else
  (if inB v1 6 then
  (if inB (((60 : Int32) * v1) + v2) 360 then
  ((some (stL X 132 (nx (((60 : Int32) * v1) + v2)) (mo_kept (X.1 130 (nx v1)) w3))).bind fun X2 =>
  (some ((1 : Int32), X2))) else none) else none)) else none)))) else none))
theorem mo_put_c (q : Th) (v1 : Int32) (v2 : Int32) (w3 : Int64) (X : St) : Ct q nX12_put 2 fiw [.ref (q.ad 102), .int v1, .int v2, .long w3] X (mo_put v1 v2 w3 X) := by
  refine ct_of (by decide +kernel) (Nat.le_of_ble_eq_true rfl) ?_
  unfold mo_put
  show G q _ _ 0 [(0, .ref (q.ad 102)), (1, .int v1), (2, .int v2), (3, .long w3)] [] X _
  refine g_iload_n 1 dX12_put_0 rfl rfl ?_
  refine g_cSIt (As := [.int v1]) (st := []) 1 mF_wg rfl dX12_put_1 rfl vX12_isShelf lkX12_140 (rmL rfl rfl) (mo_isShelf_c q v1 X) rfl rfl (Nat.le_of_ble_eq_true rfl) ?_
  refine g_if_ne dX12_put_4 rfl rfl ?_ ?_
  · refine g_iconst dX12_put_7 rfl kic_m1 ?_
    exact g_iret dX12_put_8 rfl rfl
  refine g_aload_n 0 dX12_put_9 rfl rfl ?_
  refine g_getR 102 41 130 rfl dX12_put_10 rfl kkX12 flX12_93 (by decide) rfl rfl (by decide) rfl ?_
  refine g_iload_n 1 dX12_put_13 rfl rfl ?_
  refine g_iald dX12_put_14 rfl (by decide) rfl rfl ?_
  refine g_iconst dX12_put_15 rfl kic_m1 ?_
  refine g_icmp_ne dX12_put_16 rfl rfl ?_ ?_
  · refine g_bipush dX12_put_19 rfl kbi_m11 ?_
    exact g_iret dX12_put_21 rfl rfl
  refine g_aload_n 0 dX12_put_22 rfl rfl ?_
  refine g_iload_n 1 dX12_put_23 rfl rfl ?_
  refine g_cVIr (As := [.int v1]) (st := []) 1 mF_wg rfl dX12_put_24 rfl kkX12 (by decide) rfl vX12_isRow lkX12_384 (rmL rfl rfl) (mo_isRow_c q v1 X) rfl rfl (Nat.le_of_ble_eq_true rfl) (fun c1 => ?_)
  refine g_if_ne dX12_put_27 rfl rfl ?_ ?_
  · refine g_bipush dX12_put_30 rfl kbi_m12 ?_
    exact g_iret dX12_put_32 rfl rfl
  refine g_iload_n 2 dX12_put_33 rfl rfl ?_
  refine g_iconst dX12_put_34 rfl kic_0 ?_
  refine g_aload_n 0 dX12_put_35 rfl rfl ?_
  refine g_getR 102 42 131 rfl dX12_put_36 rfl kkX12 flX12_96 (by decide) rfl rfl (by decide) rfl ?_
  refine g_iload_n 1 dX12_put_39 rfl rfl ?_
  refine g_iald dX12_put_40 rfl (by decide) rfl rfl ?_
  refine g_iconst dX12_put_41 rfl kic_1 ?_
  refine g_isub dX12_put_42 rfl ?_
  refine g_cSIt (As := [.int v2, .int (0 : Int32), .int ((X.1 131 (nx v1)) - (1 : Int32))]) (st := []) 3 mF_wg rfl dX12_put_43 rfl vX12_within lkX12_128 (rmL rfl rfl) (mo_within_c q v2 (0 : Int32) ((X.1 131 (nx v1)) - (1 : Int32)) X) rfl rfl (Nat.le_of_ble_eq_true rfl) ?_
  refine g_if_ne dX12_put_46 rfl rfl ?_ ?_
  · refine g_bipush dX12_put_49 rfl kbi_m13 ?_
    exact g_iret dX12_put_51 rfl rfl
  refine g_aload_n 0 dX12_put_52 rfl rfl ?_
  refine g_getR 102 43 132 rfl dX12_put_53 rfl kkX12 flX12_99 (by decide) rfl rfl (by decide) rfl ?_
  refine g_bipush dX12_put_56 rfl kbi_60 ?_
  refine g_iload_n 1 dX12_put_58 rfl rfl ?_
  refine g_imul dX12_put_59 rfl ?_
  refine g_iload_n 2 dX12_put_60 rfl rfl ?_
  refine g_iadd dX12_put_61 rfl ?_
  refine g_aload_n 0 dX12_put_62 rfl rfl ?_
  refine g_getR 102 41 130 rfl dX12_put_63 rfl kkX12 flX12_93 (by decide) rfl rfl (by decide) rfl ?_
  refine g_iload_n 1 dX12_put_66 rfl rfl ?_
  refine g_iald dX12_put_67 rfl (by decide) rfl rfl ?_
  refine g_lload_n 3 dX12_put_68 rfl rfl ?_
  refine g_cSLt (As := [.int (X.1 130 (nx v1)), .long w3]) (st := [.int (((60 : Int32) * v1) + v2), .ref (q.ad 132)]) 2 mF_wg rfl dX12_put_69 rfl vX12_kept lkX12_387 (rmL rfl rfl) (mo_kept_c q (X.1 130 (nx v1)) w3 X) rfl rfl (Nat.le_of_ble_eq_true rfl) ?_
  refine g_last dX12_put_72 rfl (by decide) rfl rfl ?_
  refine g_nmX (fun X2 => ?_)
  refine g_iconst dX12_put_73 rfl kic_1 ?_
  exact g_iret dX12_put_74 rfl rfl
def mo_element (v1 : Int32) (v2 : Int32) (X : St) : Option (Int64) :=
  (if (mo_isShelf v1) = 0 then
  (some (-9223372036854775808 : Int64))
  else
  ((mo_isRow v1 X).bind fun c1 =>
  (if c1 = 0 then
  (some (-9223372036854775808 : Int64))
  else
  (if inB v1 6 then
  (if (mo_within v2 (0 : Int32) ((X.1 131 (nx v1)) - (1 : Int32))) = 0 then
  (some (-9223372036854775808 : Int64))
  else
  (if inB (((60 : Int32) * v1) + v2) 360 then
  (some (X.2 132 (nx (((60 : Int32) * v1) + v2)))) else none)) else none))))
theorem mo_element_c (q : Th) (v1 : Int32) (v2 : Int32) (X : St) : Ct q nX12_element 2 (flr X) [.ref (q.ad 102), .int v1, .int v2] X (mo_element v1 v2 X) := by
  refine ct_of (by decide +kernel) (Nat.le_of_ble_eq_true rfl) ?_
  unfold mo_element
  show G q _ _ 0 [(0, .ref (q.ad 102)), (1, .int v1), (2, .int v2)] [] X _
  refine g_iload_n 1 dX12_element_0 rfl rfl ?_
  refine g_cSIt (As := [.int v1]) (st := []) 1 mF_wg rfl dX12_element_1 rfl vX12_isShelf lkX12_140 (rmL rfl rfl) (mo_isShelf_c q v1 X) rfl rfl (Nat.le_of_ble_eq_true rfl) ?_
  refine g_if_eq dX12_element_4 rfl rfl ?_ ?_
  · refine g_ldc2 rfl dX12_element_45 rfl klX12_391 ?_
    exact g_lret dX12_element_48 rfl rfl
  refine g_aload_n 0 dX12_element_7 rfl rfl ?_
  refine g_iload_n 1 dX12_element_8 rfl rfl ?_
  refine g_cVIr (As := [.int v1]) (st := []) 1 mF_wg rfl dX12_element_9 rfl kkX12 (by decide) rfl vX12_isRow lkX12_384 (rmL rfl rfl) (mo_isRow_c q v1 X) rfl rfl (Nat.le_of_ble_eq_true rfl) (fun c1 => ?_)
  refine g_if_eq dX12_element_12 rfl rfl ?_ ?_
  · refine g_ldc2 rfl dX12_element_45 rfl klX12_391 ?_
    exact g_lret dX12_element_48 rfl rfl
  refine g_iload_n 2 dX12_element_15 rfl rfl ?_
  refine g_iconst dX12_element_16 rfl kic_0 ?_
  refine g_aload_n 0 dX12_element_17 rfl rfl ?_
  refine g_getR 102 42 131 rfl dX12_element_18 rfl kkX12 flX12_96 (by decide) rfl rfl (by decide) rfl ?_
  refine g_iload_n 1 dX12_element_21 rfl rfl ?_
  refine g_iald dX12_element_22 rfl (by decide) rfl rfl ?_
  refine g_iconst dX12_element_23 rfl kic_1 ?_
  refine g_isub dX12_element_24 rfl ?_
  refine g_cSIt (As := [.int v2, .int (0 : Int32), .int ((X.1 131 (nx v1)) - (1 : Int32))]) (st := []) 3 mF_wg rfl dX12_element_25 rfl vX12_within lkX12_128 (rmL rfl rfl) (mo_within_c q v2 (0 : Int32) ((X.1 131 (nx v1)) - (1 : Int32)) X) rfl rfl (Nat.le_of_ble_eq_true rfl) ?_
  refine g_if_eq dX12_element_28 rfl rfl ?_ ?_
  · refine g_ldc2 rfl dX12_element_45 rfl klX12_391 ?_
    exact g_lret dX12_element_48 rfl rfl
  refine g_aload_n 0 dX12_element_31 rfl rfl ?_
  refine g_getR 102 43 132 rfl dX12_element_32 rfl kkX12 flX12_99 (by decide) rfl rfl (by decide) rfl ?_
  refine g_bipush dX12_element_35 rfl kbi_60 ?_
  refine g_iload_n 1 dX12_element_37 rfl rfl ?_
  refine g_imul dX12_element_38 rfl ?_
  refine g_iload_n 2 dX12_element_39 rfl rfl ?_
  refine g_iadd dX12_element_40 rfl ?_
  refine g_lald dX12_element_41 rfl (by decide) rfl rfl ?_
  refine g_goto dX12_element_42 rfl ?_
  exact g_lret dX12_element_48 rfl rfl
def mo_shift_L142_B (n : Nat) (rec : Int32 → Int32 → Int32 → Int32 → Int32 → Int32 → St → Option (Int32 × St)) (v1 : Int32) (v2 : Int32) (v3 : Int32) (v4 : Int32) (v5 : Int32) (v6 : Int32) (X : St) : Option (Int32 × St) :=
(if v6 < 0 then
(some (v5, X))
else
(if inB ((((60 : Int32) * v1) + v2) + v6) 360 then
(if inB ((((60 : Int32) * v3) + v4) + v6) 360 then
((some (stL X 132 (nx ((((60 : Int32) * v3) + v4) + v6)) (X.2 132 (nx ((((60 : Int32) * v1) + v2) + v6))))).bind fun X3 =>
(rec v1 v2 v3 v4 v5 (v6 + (-1 : Int32)) X3)) else none) else none))
def mo_shift_L142 (n : Nat) : Nat → Int32 → Int32 → Int32 → Int32 → Int32 → Int32 → St → Option (Int32 × St)
  | 0 => fun _ _ _ _ _ _ _ => none
  | w + 1 => mo_shift_L142_B n (mo_shift_L142 n w)
def mo_shift_L188_B (n : Nat) (rec : Int32 → Int32 → Int32 → Int32 → Int32 → Int32 → St → Option (Int32 × St)) (v1 : Int32) (v2 : Int32) (v3 : Int32) (v4 : Int32) (v5 : Int32) (v6 : Int32) (X : St) : Option (Int32 × St) :=
(if v6 < v5 then
(if inB ((((60 : Int32) * v1) + v2) + v6) 360 then
(if inB ((((60 : Int32) * v3) + v4) + v6) 360 then
((some (stL X 132 (nx ((((60 : Int32) * v3) + v4) + v6)) (X.2 132 (nx ((((60 : Int32) * v1) + v2) + v6))))).bind fun X4 =>
(rec v1 v2 v3 v4 v5 (v6 + (1 : Int32)) X4)) else none) else none)
else
(some (v5, X)))
def mo_shift_L188 (n : Nat) : Nat → Int32 → Int32 → Int32 → Int32 → Int32 → Int32 → St → Option (Int32 × St)
  | 0 => fun _ _ _ _ _ _ _ => none
  | w + 1 => mo_shift_L188_B n (mo_shift_L188 n w)
def mo_shift (n : Nat) (v1 : Int32) (v2 : Int32) (v3 : Int32) (v4 : Int32) (v5 : Int32) (X : St) : Option (Int32 × St) :=
  (if (mo_isShelf v1) = 0 then
  (some ((-1 : Int32), X))
  else
  (if (mo_isShelf v3) = 0 then
  (some ((-1 : Int32), X))
  else
  (if inB v1 6 then
  (if (X.1 130 (nx v1)) = (-1 : Int32) then
  (some ((-11 : Int32), X))
  else
  (if inB v3 6 then
  (if (X.1 130 (nx v3)) = (-1 : Int32) then
  (some ((-11 : Int32), X))
  else
  ((mo_isRow v1 X).bind fun c1 =>
  (if c1 = 0 then
  (some ((-12 : Int32), X))
  else
  ((mo_isRow v3 X).bind fun c2 =>
  (if c2 = 0 then
  (some ((-12 : Int32), X))
  else
  (if inB v1 6 then
  (if inB v3 6 then
  (if (X.1 130 (nx v1)) = (X.1 130 (nx v3)) then
  (if v5 < 0 then
  (some ((-13 : Int32), X))
  else
  (if v2 < 0 then
  (some ((-13 : Int32), X))
  else
  (if v4 < 0 then
  (some ((-13 : Int32), X))
  else
  (if inB v1 6 then
  (if 0 < (lg_cmp ((v2.toInt64) + (v5.toInt64)) ((X.1 131 (nx v1)).toInt64)) then
  (some ((-13 : Int32), X))
  else
  (if inB v3 6 then
  (if 0 < (lg_cmp ((v4.toInt64) + (v5.toInt64)) ((X.1 131 (nx v3)).toInt64)) then
  (some ((-13 : Int32), X))
  else
  (if v1 = v3 then
  (if v2 < v4 then
  (mo_shift_L142 n n v1 v2 v3 v4 v5 (v5 - (1 : Int32)) X)
  else
  (mo_shift_L188 n n v1 v2 v3 v4 v5 (0 : Int32) X))
  else
  (mo_shift_L188 n n v1 v2 v3 v4 v5 (0 : Int32) X))) else none)) else none))))
  else
  (some ((-12 : Int32), X))) else none) else none)))))) else none)) else none)))
theorem mo_shift_L142_Bg (q : Th) (n : Nat) (rec : Int32 → Int32 → Int32 → Int32 → Int32 → Int32 → St → Option (Int32 × St)) (hrec : ∀ v1 v2 v3 v4 v5 v6 X, G q (mF q nX12_shift RX12 2) fiw 142 [(0, .ref (q.ad 102)), (1, .int v1), (2, .int v2), (3, .int v3), (4, .int v4), (5, .int v5), (6, .int v6)] [] X (rec v1 v2 v3 v4 v5 v6 X)) (v1 : Int32) (v2 : Int32) (v3 : Int32) (v4 : Int32) (v5 : Int32) (v6 : Int32) (X : St) : G q (mF q nX12_shift RX12 2) fiw 142 [(0, .ref (q.ad 102)), (1, .int v1), (2, .int v2), (3, .int v3), (4, .int v4), (5, .int v5), (6, .int v6)] [] X (mo_shift_L142_B n rec v1 v2 v3 v4 v5 v6 X) := by
  unfold mo_shift_L142_B
  refine g_iload 6 dX12_shift_142 rfl rfl ?_
  refine g_if_lt dX12_shift_144 rfl rfl ?_ ?_
  · refine g_goto dX12_shift_182 rfl ?_
    refine g_iload 5 dX12_shift_230 rfl rfl ?_
    exact g_iret dX12_shift_232 rfl rfl
  refine g_aload_n 0 dX12_shift_147 rfl rfl ?_
  refine g_getR 102 43 132 rfl dX12_shift_148 rfl kkX12 flX12_99 (by decide) rfl rfl (by decide) rfl ?_
  refine g_bipush dX12_shift_151 rfl kbi_60 ?_
  refine g_iload_n 3 dX12_shift_153 rfl rfl ?_
  refine g_imul dX12_shift_154 rfl ?_
  refine g_iload 4 dX12_shift_155 rfl rfl ?_
  refine g_iadd dX12_shift_157 rfl ?_
  refine g_iload 6 dX12_shift_158 rfl rfl ?_
  refine g_iadd dX12_shift_160 rfl ?_
  refine g_aload_n 0 dX12_shift_161 rfl rfl ?_
  refine g_getR 102 43 132 rfl dX12_shift_162 rfl kkX12 flX12_99 (by decide) rfl rfl (by decide) rfl ?_
  refine g_bipush dX12_shift_165 rfl kbi_60 ?_
  refine g_iload_n 1 dX12_shift_167 rfl rfl ?_
  refine g_imul dX12_shift_168 rfl ?_
  refine g_iload_n 2 dX12_shift_169 rfl rfl ?_
  refine g_iadd dX12_shift_170 rfl ?_
  refine g_iload 6 dX12_shift_171 rfl rfl ?_
  refine g_iadd dX12_shift_173 rfl ?_
  refine g_lald dX12_shift_174 rfl (by decide) rfl rfl ?_
  refine g_last dX12_shift_175 rfl (by decide) rfl rfl ?_
  refine g_nmX (fun X3 => ?_)
  refine g_inc (lv' := [(6, .int (v6 + (-1 : Int32))), (0, .ref (q.ad 102)), (1, .int v1), (2, .int v2), (3, .int v3), (4, .int v4), (5, .int v5)]) 6 dX12_shift_176 rfl rfl kic_m1 (Nat.le_of_ble_eq_true rfl) rfl ?_
  refine g_goto dX12_shift_179 rfl ?_
  refine g_sub [1, 2, 3, 4, 5, 6, 0] rfl ?_
  exact hrec v1 v2 v3 v4 v5 (v6 + (-1 : Int32)) X3
theorem mo_shift_L142_g (q : Th) (n : Nat) : ∀ (w : Nat) (v1 : Int32) (v2 : Int32) (v3 : Int32) (v4 : Int32) (v5 : Int32) (v6 : Int32) (X : St), G q (mF q nX12_shift RX12 2) fiw 142 [(0, .ref (q.ad 102)), (1, .int v1), (2, .int v2), (3, .int v3), (4, .int v4), (5, .int v5), (6, .int v6)] [] X (mo_shift_L142 n w v1 v2 v3 v4 v5 v6 X) := by
  intro w
  induction w with
  | zero => intro v1 v2 v3 v4 v5 v6 X; exact g_none
  | succ w ih => intro v1 v2 v3 v4 v5 v6 X; exact mo_shift_L142_Bg q n _ ih v1 v2 v3 v4 v5 v6 X
theorem mo_shift_L188_Bg (q : Th) (n : Nat) (rec : Int32 → Int32 → Int32 → Int32 → Int32 → Int32 → St → Option (Int32 × St)) (hrec : ∀ v1 v2 v3 v4 v5 v6 X, G q (mF q nX12_shift RX12 2) fiw 188 [(0, .ref (q.ad 102)), (1, .int v1), (2, .int v2), (3, .int v3), (4, .int v4), (5, .int v5), (6, .int v6)] [] X (rec v1 v2 v3 v4 v5 v6 X)) (v1 : Int32) (v2 : Int32) (v3 : Int32) (v4 : Int32) (v5 : Int32) (v6 : Int32) (X : St) : G q (mF q nX12_shift RX12 2) fiw 188 [(0, .ref (q.ad 102)), (1, .int v1), (2, .int v2), (3, .int v3), (4, .int v4), (5, .int v5), (6, .int v6)] [] X (mo_shift_L188_B n rec v1 v2 v3 v4 v5 v6 X) := by
  unfold mo_shift_L188_B
  refine g_iload 6 dX12_shift_188 rfl rfl ?_
  refine g_iload 5 dX12_shift_190 rfl rfl ?_
  refine g_icmp_ge dX12_shift_192 rfl rfl ?_ ?_
  · refine g_aload_n 0 dX12_shift_195 rfl rfl ?_
    refine g_getR 102 43 132 rfl dX12_shift_196 rfl kkX12 flX12_99 (by decide) rfl rfl (by decide) rfl ?_
    refine g_bipush dX12_shift_199 rfl kbi_60 ?_
    refine g_iload_n 3 dX12_shift_201 rfl rfl ?_
    refine g_imul dX12_shift_202 rfl ?_
    refine g_iload 4 dX12_shift_203 rfl rfl ?_
    refine g_iadd dX12_shift_205 rfl ?_
    refine g_iload 6 dX12_shift_206 rfl rfl ?_
    refine g_iadd dX12_shift_208 rfl ?_
    refine g_aload_n 0 dX12_shift_209 rfl rfl ?_
    refine g_getR 102 43 132 rfl dX12_shift_210 rfl kkX12 flX12_99 (by decide) rfl rfl (by decide) rfl ?_
    refine g_bipush dX12_shift_213 rfl kbi_60 ?_
    refine g_iload_n 1 dX12_shift_215 rfl rfl ?_
    refine g_imul dX12_shift_216 rfl ?_
    refine g_iload_n 2 dX12_shift_217 rfl rfl ?_
    refine g_iadd dX12_shift_218 rfl ?_
    refine g_iload 6 dX12_shift_219 rfl rfl ?_
    refine g_iadd dX12_shift_221 rfl ?_
    refine g_lald dX12_shift_222 rfl (by decide) rfl rfl ?_
    refine g_last dX12_shift_223 rfl (by decide) rfl rfl ?_
    refine g_nmX (fun X4 => ?_)
    refine g_inc (lv' := [(6, .int (v6 + (1 : Int32))), (0, .ref (q.ad 102)), (1, .int v1), (2, .int v2), (3, .int v3), (4, .int v4), (5, .int v5)]) 6 dX12_shift_224 rfl rfl kic_1 (Nat.le_of_ble_eq_true rfl) rfl ?_
    refine g_goto dX12_shift_227 rfl ?_
    refine g_sub [1, 2, 3, 4, 5, 6, 0] rfl ?_
    exact hrec v1 v2 v3 v4 v5 (v6 + (1 : Int32)) X4
  refine g_iload 5 dX12_shift_230 rfl rfl ?_
  exact g_iret dX12_shift_232 rfl rfl
theorem mo_shift_L188_g (q : Th) (n : Nat) : ∀ (w : Nat) (v1 : Int32) (v2 : Int32) (v3 : Int32) (v4 : Int32) (v5 : Int32) (v6 : Int32) (X : St), G q (mF q nX12_shift RX12 2) fiw 188 [(0, .ref (q.ad 102)), (1, .int v1), (2, .int v2), (3, .int v3), (4, .int v4), (5, .int v5), (6, .int v6)] [] X (mo_shift_L188 n w v1 v2 v3 v4 v5 v6 X) := by
  intro w
  induction w with
  | zero => intro v1 v2 v3 v4 v5 v6 X; exact g_none
  | succ w ih => intro v1 v2 v3 v4 v5 v6 X; exact mo_shift_L188_Bg q n _ ih v1 v2 v3 v4 v5 v6 X
theorem mo_shift_c (q : Th) (n : Nat) (v1 : Int32) (v2 : Int32) (v3 : Int32) (v4 : Int32) (v5 : Int32) (X : St) : Ct q nX12_shift 2 fiw [.ref (q.ad 102), .int v1, .int v2, .int v3, .int v4, .int v5] X (mo_shift n v1 v2 v3 v4 v5 X) := by
  refine ct_of (by decide +kernel) (Nat.le_of_ble_eq_true rfl) ?_
  unfold mo_shift
  show G q _ _ 0 [(0, .ref (q.ad 102)), (1, .int v1), (2, .int v2), (3, .int v3), (4, .int v4), (5, .int v5)] [] X _
  refine g_iload_n 1 dX12_shift_0 rfl rfl ?_
  refine g_cSIt (As := [.int v1]) (st := []) 1 mF_wg rfl dX12_shift_1 rfl vX12_isShelf lkX12_140 (rmL rfl rfl) (mo_isShelf_c q v1 X) rfl rfl (Nat.le_of_ble_eq_true rfl) ?_
  refine g_if_eq dX12_shift_4 rfl rfl ?_ ?_
  · refine g_iconst dX12_shift_14 rfl kic_m1 ?_
    exact g_iret dX12_shift_15 rfl rfl
  refine g_iload_n 3 dX12_shift_7 rfl rfl ?_
  refine g_cSIt (As := [.int v3]) (st := []) 1 mF_wg rfl dX12_shift_8 rfl vX12_isShelf lkX12_140 (rmL rfl rfl) (mo_isShelf_c q v3 X) rfl rfl (Nat.le_of_ble_eq_true rfl) ?_
  refine g_if_ne dX12_shift_11 rfl rfl ?_ ?_
  · refine g_iconst dX12_shift_14 rfl kic_m1 ?_
    exact g_iret dX12_shift_15 rfl rfl
  refine g_aload_n 0 dX12_shift_16 rfl rfl ?_
  refine g_getR 102 41 130 rfl dX12_shift_17 rfl kkX12 flX12_93 (by decide) rfl rfl (by decide) rfl ?_
  refine g_iload_n 1 dX12_shift_20 rfl rfl ?_
  refine g_iald dX12_shift_21 rfl (by decide) rfl rfl ?_
  refine g_iconst dX12_shift_22 rfl kic_m1 ?_
  refine g_icmp_eq dX12_shift_23 rfl rfl ?_ ?_
  · refine g_bipush dX12_shift_36 rfl kbi_m11 ?_
    exact g_iret dX12_shift_38 rfl rfl
  refine g_aload_n 0 dX12_shift_26 rfl rfl ?_
  refine g_getR 102 41 130 rfl dX12_shift_27 rfl kkX12 flX12_93 (by decide) rfl rfl (by decide) rfl ?_
  refine g_iload_n 3 dX12_shift_30 rfl rfl ?_
  refine g_iald dX12_shift_31 rfl (by decide) rfl rfl ?_
  refine g_iconst dX12_shift_32 rfl kic_m1 ?_
  refine g_icmp_ne dX12_shift_33 rfl rfl ?_ ?_
  · refine g_bipush dX12_shift_36 rfl kbi_m11 ?_
    exact g_iret dX12_shift_38 rfl rfl
  refine g_aload_n 0 dX12_shift_39 rfl rfl ?_
  refine g_iload_n 1 dX12_shift_40 rfl rfl ?_
  refine g_cVIr (As := [.int v1]) (st := []) 1 mF_wg rfl dX12_shift_41 rfl kkX12 (by decide) rfl vX12_isRow lkX12_384 (rmL rfl rfl) (mo_isRow_c q v1 X) rfl rfl (Nat.le_of_ble_eq_true rfl) (fun c1 => ?_)
  refine g_if_eq dX12_shift_44 rfl rfl ?_ ?_
  · refine g_bipush dX12_shift_70 rfl kbi_m12 ?_
    exact g_iret dX12_shift_72 rfl rfl
  refine g_aload_n 0 dX12_shift_47 rfl rfl ?_
  refine g_iload_n 3 dX12_shift_48 rfl rfl ?_
  refine g_cVIr (As := [.int v3]) (st := []) 1 mF_wg rfl dX12_shift_49 rfl kkX12 (by decide) rfl vX12_isRow lkX12_384 (rmL rfl rfl) (mo_isRow_c q v3 X) rfl rfl (Nat.le_of_ble_eq_true rfl) (fun c2 => ?_)
  refine g_if_eq dX12_shift_52 rfl rfl ?_ ?_
  · refine g_bipush dX12_shift_70 rfl kbi_m12 ?_
    exact g_iret dX12_shift_72 rfl rfl
  refine g_aload_n 0 dX12_shift_55 rfl rfl ?_
  refine g_getR 102 41 130 rfl dX12_shift_56 rfl kkX12 flX12_93 (by decide) rfl rfl (by decide) rfl ?_
  refine g_iload_n 1 dX12_shift_59 rfl rfl ?_
  refine g_iald dX12_shift_60 rfl (by decide) rfl rfl ?_
  refine g_aload_n 0 dX12_shift_61 rfl rfl ?_
  refine g_getR 102 41 130 rfl dX12_shift_62 rfl kkX12 flX12_93 (by decide) rfl rfl (by decide) rfl ?_
  refine g_iload_n 3 dX12_shift_65 rfl rfl ?_
  refine g_iald dX12_shift_66 rfl (by decide) rfl rfl ?_
  refine g_icmp_eq dX12_shift_67 rfl rfl ?_ ?_
  · refine g_iload 5 dX12_shift_73 rfl rfl ?_
    refine g_if_lt dX12_shift_75 rfl rfl ?_ ?_
    · refine g_bipush dX12_shift_122 rfl kbi_m13 ?_
      exact g_iret dX12_shift_124 rfl rfl
    refine g_iload_n 2 dX12_shift_78 rfl rfl ?_
    refine g_if_lt dX12_shift_79 rfl rfl ?_ ?_
    · refine g_bipush dX12_shift_122 rfl kbi_m13 ?_
      exact g_iret dX12_shift_124 rfl rfl
    refine g_iload 4 dX12_shift_82 rfl rfl ?_
    refine g_if_lt dX12_shift_84 rfl rfl ?_ ?_
    · refine g_bipush dX12_shift_122 rfl kbi_m13 ?_
      exact g_iret dX12_shift_124 rfl rfl
    refine g_iload_n 2 dX12_shift_87 rfl rfl ?_
    refine g_i2l dX12_shift_88 rfl ?_
    refine g_iload 5 dX12_shift_89 rfl rfl ?_
    refine g_i2l dX12_shift_91 rfl ?_
    refine g_ladd dX12_shift_92 rfl ?_
    refine g_aload_n 0 dX12_shift_93 rfl rfl ?_
    refine g_getR 102 42 131 rfl dX12_shift_94 rfl kkX12 flX12_96 (by decide) rfl rfl (by decide) rfl ?_
    refine g_iload_n 1 dX12_shift_97 rfl rfl ?_
    refine g_iald dX12_shift_98 rfl (by decide) rfl rfl ?_
    refine g_i2l dX12_shift_99 rfl ?_
    refine g_lcmp dX12_shift_100 rfl ?_
    refine g_if_gt dX12_shift_101 rfl rfl ?_ ?_
    · refine g_bipush dX12_shift_122 rfl kbi_m13 ?_
      exact g_iret dX12_shift_124 rfl rfl
    refine g_iload 4 dX12_shift_104 rfl rfl ?_
    refine g_i2l dX12_shift_106 rfl ?_
    refine g_iload 5 dX12_shift_107 rfl rfl ?_
    refine g_i2l dX12_shift_109 rfl ?_
    refine g_ladd dX12_shift_110 rfl ?_
    refine g_aload_n 0 dX12_shift_111 rfl rfl ?_
    refine g_getR 102 42 131 rfl dX12_shift_112 rfl kkX12 flX12_96 (by decide) rfl rfl (by decide) rfl ?_
    refine g_iload_n 3 dX12_shift_115 rfl rfl ?_
    refine g_iald dX12_shift_116 rfl (by decide) rfl rfl ?_
    refine g_i2l dX12_shift_117 rfl ?_
    refine g_lcmp dX12_shift_118 rfl ?_
    refine g_if_le dX12_shift_119 rfl rfl ?_ ?_
    · refine g_bipush dX12_shift_122 rfl kbi_m13 ?_
      exact g_iret dX12_shift_124 rfl rfl
    refine g_iload_n 1 dX12_shift_125 rfl rfl ?_
    refine g_iload_n 3 dX12_shift_126 rfl rfl ?_
    refine g_icmp_ne dX12_shift_127 rfl rfl ?_ ?_
    · refine g_iload_n 2 dX12_shift_130 rfl rfl ?_
      refine g_iload 4 dX12_shift_131 rfl rfl ?_
      refine g_icmp_ge dX12_shift_133 rfl rfl ?_ ?_
      · refine g_iload 5 dX12_shift_136 rfl rfl ?_
        refine g_iconst dX12_shift_138 rfl kic_1 ?_
        refine g_isub dX12_shift_139 rfl ?_
        refine g_istore (lv' := [(6, .int (v5 - (1 : Int32))), (0, .ref (q.ad 102)), (1, .int v1), (2, .int v2), (3, .int v3), (4, .int v4), (5, .int v5)]) dX12_shift_140 rfl (Nat.le_of_ble_eq_true rfl) rfl ?_
        refine g_sub [1, 2, 3, 4, 5, 6, 0] rfl ?_
        refine mo_shift_L142_g q n n v1 v2 v3 v4 v5 (v5 - (1 : Int32)) X
      refine g_iconst dX12_shift_185 rfl kic_0 ?_
      refine g_istore (lv' := [(6, .int (0 : Int32)), (0, .ref (q.ad 102)), (1, .int v1), (2, .int v2), (3, .int v3), (4, .int v4), (5, .int v5)]) dX12_shift_186 rfl (Nat.le_of_ble_eq_true rfl) rfl ?_
      refine g_sub [1, 2, 3, 4, 5, 6, 0] rfl ?_
      refine mo_shift_L188_g q n n v1 v2 v3 v4 v5 (0 : Int32) X
    refine g_iconst dX12_shift_185 rfl kic_0 ?_
    refine g_istore (lv' := [(6, .int (0 : Int32)), (0, .ref (q.ad 102)), (1, .int v1), (2, .int v2), (3, .int v3), (4, .int v4), (5, .int v5)]) dX12_shift_186 rfl (Nat.le_of_ble_eq_true rfl) rfl ?_
    refine g_sub [1, 2, 3, 4, 5, 6, 0] rfl ?_
    refine mo_shift_L188_g q n n v1 v2 v3 v4 v5 (0 : Int32) X
  refine g_bipush dX12_shift_70 rfl kbi_m12 ?_
  exact g_iret dX12_shift_72 rfl rfl
def mo_taken_L61_B (n : Nat) (X : St) (k82 : Int32 → Int32 → Int32 → Option (Int32)) (rec : Int32 → Int32 → Int32 → Option (Int32)) (v2 : Int32) (v3 : Int32) (v4 : Int32) : Option (Int32) :=
(if v4 = v2 then
(k82 v2 v3 v4)
else
(if 0 < v4 then
(rec v2 v3 (mo_above v4))
else
(k82 v2 v3 v4)))
def mo_taken_L61 (n : Nat) (X : St) (k82 : Int32 → Int32 → Int32 → Option (Int32)) : Nat → Int32 → Int32 → Int32 → Option (Int32)
  | 0 => fun _ _ _ => none
  | w + 1 => mo_taken_L61_B n X k82 (mo_taken_L61 n X k82 w)
def mo_taken (n : Nat) (v1 : Int32) (v2 : Int32) (X : St) : Option (Int32) :=
  (if (mo_isShelf v1) = 0 then
  (some (-1 : Int32))
  else
  (if (mo_within v2 (0 : Int32) (7 : Int32)) = 0 then
  (some (-1 : Int32))
  else
  (if inB v1 6 then
  (if (X.1 130 (nx v1)) = (-1 : Int32) then
  (some (-11 : Int32))
  else
  ((mo_isRow v1 X).bind fun c1 =>
  (if c1 = 0 then
  (if inB v1 6 then
  (if inB ((X.1 130 (nx v1)) - (10 : Int32)) 50 then
  ((some (X.1 128 (nx ((X.1 130 (nx v1)) - (10 : Int32))))).bind fun t2 =>
  (mo_taken_L61 n X (fun v3 v4 v5 =>
  (if v5 = v3 then
  (some v4)
  else
  (some (-12 : Int32)))) n v2 t2 t2)) else none) else none)
  else
  (some (-12 : Int32))))) else none)))
theorem mo_taken_L61_Bg (q : Th) (n : Nat) (X : St) (k82 : Int32 → Int32 → Int32 → Option (Int32)) (hk82 : ∀ v2 v3 v4, G q (mF q nX12_taken RX12 2) (fir X) 82 [(2, .int v2), (3, .int v3), (4, .int v4)] [] X (k82 v2 v3 v4)) (rec : Int32 → Int32 → Int32 → Option (Int32)) (hrec : ∀ v2 v3 v4, G q (mF q nX12_taken RX12 2) (fir X) 61 [(2, .int v2), (3, .int v3), (4, .int v4)] [] X (rec v2 v3 v4)) (v2 : Int32) (v3 : Int32) (v4 : Int32) : G q (mF q nX12_taken RX12 2) (fir X) 61 [(2, .int v2), (3, .int v3), (4, .int v4)] [] X (mo_taken_L61_B n X k82 rec v2 v3 v4) := by
  unfold mo_taken_L61_B
  refine g_iload 2 dX12_taken_61 rfl rfl ?_
  refine g_iload_n 0 dX12_taken_63 rfl rfl ?_
  refine g_icmp_eq dX12_taken_64 rfl rfl ?_ ?_
  · refine g_sub [0, 1, 2] rfl ?_
    exact hk82 v2 v3 v4
  refine g_iload 2 dX12_taken_67 rfl rfl ?_
  refine g_if_le dX12_taken_69 rfl rfl ?_ ?_
  · refine g_iload 2 dX12_taken_72 rfl rfl ?_
    refine g_cSIt (As := [.int v4]) (st := []) 1 mF_wg rfl dX12_taken_74 rfl vX12_above lkX12_369 (rmL rfl rfl) (mo_above_c q v4 X) rfl rfl (Nat.le_of_ble_eq_true rfl) ?_
    refine g_istore (lv' := [(4, .int (mo_above v4)), (2, .int v2), (3, .int v3)]) dX12_taken_77 rfl (Nat.le_of_ble_eq_true rfl) rfl ?_
    refine g_goto dX12_taken_79 rfl ?_
    refine g_sub [1, 2, 0] rfl ?_
    exact hrec v2 v3 (mo_above v4)
  refine g_sub [0, 1, 2] rfl ?_
  exact hk82 v2 v3 v4
theorem mo_taken_L61_g (q : Th) (n : Nat) (X : St) (k82 : Int32 → Int32 → Int32 → Option (Int32)) (hk82 : ∀ v2 v3 v4, G q (mF q nX12_taken RX12 2) (fir X) 82 [(2, .int v2), (3, .int v3), (4, .int v4)] [] X (k82 v2 v3 v4)) : ∀ (w : Nat) (v2 : Int32) (v3 : Int32) (v4 : Int32), G q (mF q nX12_taken RX12 2) (fir X) 61 [(2, .int v2), (3, .int v3), (4, .int v4)] [] X (mo_taken_L61 n X k82 w v2 v3 v4) := by
  intro w
  induction w with
  | zero => intro v2 v3 v4; exact g_none
  | succ w ih => intro v2 v3 v4; exact mo_taken_L61_Bg q n X k82 hk82 _ ih v2 v3 v4
theorem mo_taken_c (q : Th) (n : Nat) (v1 : Int32) (v2 : Int32) (X : St) : Ct q nX12_taken 2 (fir X) [.ref (q.ad 102), .int v1, .int v2] X (mo_taken n v1 v2 X) := by
  refine ct_of (by decide +kernel) (Nat.le_of_ble_eq_true rfl) ?_
  unfold mo_taken
  show G q _ _ 0 [(0, .ref (q.ad 102)), (1, .int v1), (2, .int v2)] [] X _
  refine g_iload_n 1 dX12_taken_0 rfl rfl ?_
  refine g_cSIt (As := [.int v1]) (st := []) 1 mF_wg rfl dX12_taken_1 rfl vX12_isShelf lkX12_140 (rmL rfl rfl) (mo_isShelf_c q v1 X) rfl rfl (Nat.le_of_ble_eq_true rfl) ?_
  refine g_if_eq dX12_taken_4 rfl rfl ?_ ?_
  · refine g_iconst dX12_taken_17 rfl kic_m1 ?_
    exact g_iret dX12_taken_18 rfl rfl
  refine g_iload_n 2 dX12_taken_7 rfl rfl ?_
  refine g_iconst dX12_taken_8 rfl kic_0 ?_
  refine g_bipush dX12_taken_9 rfl kbi_7 ?_
  refine g_cSIt (As := [.int v2, .int (0 : Int32), .int (7 : Int32)]) (st := []) 3 mF_wg rfl dX12_taken_11 rfl vX12_within lkX12_128 (rmL rfl rfl) (mo_within_c q v2 (0 : Int32) (7 : Int32) X) rfl rfl (Nat.le_of_ble_eq_true rfl) ?_
  refine g_if_ne dX12_taken_14 rfl rfl ?_ ?_
  · refine g_iconst dX12_taken_17 rfl kic_m1 ?_
    exact g_iret dX12_taken_18 rfl rfl
  refine g_aload_n 0 dX12_taken_19 rfl rfl ?_
  refine g_getR 102 41 130 rfl dX12_taken_20 rfl kkX12 flX12_93 (by decide) rfl rfl (by decide) rfl ?_
  refine g_iload_n 1 dX12_taken_23 rfl rfl ?_
  refine g_iald dX12_taken_24 rfl (by decide) rfl rfl ?_
  refine g_iconst dX12_taken_25 rfl kic_m1 ?_
  refine g_icmp_ne dX12_taken_26 rfl rfl ?_ ?_
  · refine g_bipush dX12_taken_29 rfl kbi_m11 ?_
    exact g_iret dX12_taken_31 rfl rfl
  refine g_aload_n 0 dX12_taken_32 rfl rfl ?_
  refine g_iload_n 1 dX12_taken_33 rfl rfl ?_
  refine g_cVIr (As := [.int v1]) (st := []) 1 mF_wg rfl dX12_taken_34 rfl kkX12 (by decide) rfl vX12_isRow lkX12_384 (rmL rfl rfl) (mo_isRow_c q v1 X) rfl rfl (Nat.le_of_ble_eq_true rfl) (fun c1 => ?_)
  refine g_if_eq dX12_taken_37 rfl rfl ?_ ?_
  · refine g_aload_n 0 dX12_taken_43 rfl rfl ?_
    refine g_getR 102 38 128 rfl dX12_taken_44 rfl kkX12 flX12_87 (by decide) rfl rfl (by decide) rfl ?_
    refine g_aload_n 0 dX12_taken_47 rfl rfl ?_
    refine g_getR 102 41 130 rfl dX12_taken_48 rfl kkX12 flX12_93 (by decide) rfl rfl (by decide) rfl ?_
    refine g_iload_n 1 dX12_taken_51 rfl rfl ?_
    refine g_iald dX12_taken_52 rfl (by decide) rfl rfl ?_
    refine g_bipush dX12_taken_53 rfl kbi_10 ?_
    refine g_isub dX12_taken_55 rfl ?_
    refine g_iald dX12_taken_56 rfl (by decide) rfl rfl ?_
    refine g_nmI (fun t2 => ?_)
    refine g_istore_n (lv' := [(3, .int t2), (0, .ref (q.ad 102)), (1, .int v1), (2, .int v2)]) dX12_taken_57 rfl rfl (Nat.le_of_ble_eq_true rfl) rfl ?_
    refine g_iload_n 0 dX12_taken_58 rfl rfl ?_
    refine g_istore (lv' := [(4, .int t2), (3, .int t2), (0, .ref (q.ad 102)), (1, .int v1), (2, .int v2)]) dX12_taken_59 rfl (Nat.le_of_ble_eq_true rfl) rfl ?_
    refine g_sub [4, 1, 0] rfl ?_
    refine mo_taken_L61_g q n X _ (fun v3 v4 v5 => ?_) n v2 t2 t2
    refine g_iload 2 dX12_taken_82 rfl rfl ?_
    refine g_iload_n 0 dX12_taken_84 rfl rfl ?_
    refine g_icmp_ne dX12_taken_85 rfl rfl ?_ ?_
    · refine g_iload_n 1 dX12_taken_88 rfl rfl ?_
      refine g_goto dX12_taken_89 rfl ?_
      exact g_iret dX12_taken_94 rfl rfl
    refine g_bipush dX12_taken_92 rfl kbi_m12 ?_
    exact g_iret dX12_taken_94 rfl rfl
  refine g_bipush dX12_taken_40 rfl kbi_m12 ?_
  exact g_iret dX12_taken_42 rfl rfl
def mo_count (v1 : Int32) (X : St) : Int32 :=
  (if v1 = (0 : Int32) then
  ((X.1 102 0))
  else
  (if v1 = (1 : Int32) then
  ((X.1 102 10))
  else
  (if v1 = (2 : Int32) then
  ((X.1 102 35))
  else
  (if v1 = (3 : Int32) then
  ((X.1 102 37))
  else
  (if v1 = (4 : Int32) then
  ((X.1 102 39))
  else
  ((-1 : Int32)))))))
def mo_count_o (v1 : Int32) (X : St) : Option Int32 :=
  (if v1 = (0 : Int32) then
  (some (X.1 102 0))
  else
  (if v1 = (1 : Int32) then
  (some (X.1 102 10))
  else
  (if v1 = (2 : Int32) then
  (some (X.1 102 35))
  else
  (if v1 = (3 : Int32) then
  (some (X.1 102 37))
  else
  (if v1 = (4 : Int32) then
  (some (X.1 102 39))
  else
  (some (-1 : Int32)))))))
theorem mo_count_e (v1 : Int32) (X : St) : mo_count_o v1 X = some (mo_count v1 X) := by
  unfold mo_count_o mo_count
  simp only [apply_ite some]
theorem mo_count_c (q : Th) (v1 : Int32) (X : St) : Ct q nX12_count 0 (fir X) [.ref (q.ad 102), .int v1] X (some (mo_count v1 X)) := by
  refine ct_of (by decide +kernel) (Nat.le_of_ble_eq_true rfl) ?_
  rw [← mo_count_e]
  unfold mo_count_o
  show G q _ _ 0 [(0, .ref (q.ad 102)), (1, .int v1)] [] X _
  refine g_iload_n 1 dX12_count_0 rfl rfl ?_
  refine g_case (z := (0 : Int32)) (fun hc => ?_) (fun hc0 => ?_)
  · refine g_tableIn hc dX12_count_1 (by decide) (by decide) rfl rfl ?_
    refine g_aload_n 0 dX12_count_36 rfl rfl ?_
    refine g_getI 102 0 rfl dX12_count_37 rfl kkX12 flX12_125 (by decide) rfl rfl (by decide) rfl ?_
    exact g_iret dX12_count_40 rfl rfl
  refine g_case (z := (1 : Int32)) (fun hc => ?_) (fun hc1 => ?_)
  · refine g_tableIn hc dX12_count_1 (by decide) (by decide) rfl rfl ?_
    refine g_aload_n 0 dX12_count_41 rfl rfl ?_
    refine g_getI 102 10 rfl dX12_count_42 rfl kkX12 flX12_167 (by decide) rfl rfl (by decide) rfl ?_
    exact g_iret dX12_count_45 rfl rfl
  refine g_case (z := (2 : Int32)) (fun hc => ?_) (fun hc2 => ?_)
  · refine g_tableIn hc dX12_count_1 (by decide) (by decide) rfl rfl ?_
    refine g_aload_n 0 dX12_count_46 rfl rfl ?_
    refine g_getI 102 35 rfl dX12_count_47 rfl kkX12 flX12_161 (by decide) rfl rfl (by decide) rfl ?_
    exact g_iret dX12_count_50 rfl rfl
  refine g_case (z := (3 : Int32)) (fun hc => ?_) (fun hc3 => ?_)
  · refine g_tableIn hc dX12_count_1 (by decide) (by decide) rfl rfl ?_
    refine g_aload_n 0 dX12_count_51 rfl rfl ?_
    refine g_getI 102 37 rfl dX12_count_52 rfl kkX12 flX12_381 (by decide) rfl rfl (by decide) rfl ?_
    exact g_iret dX12_count_55 rfl rfl
  refine g_case (z := (4 : Int32)) (fun hc => ?_) (fun hc4 => ?_)
  · refine g_tableIn hc dX12_count_1 (by decide) (by decide) rfl rfl ?_
    refine g_aload_n 0 dX12_count_56 rfl rfl ?_
    refine g_getI 102 39 rfl dX12_count_57 rfl kkX12 flX12_360 (by decide) rfl rfl (by decide) rfl ?_
    exact g_iret dX12_count_60 rfl rfl
  refine g_tableOut dX12_count_1 (by have e0 := lv_neT (a := 0) hc0 (by decide); have e1 := lv_neT (a := 1) hc1 (by decide); have e2 := lv_neT (a := 2) hc2 (by decide); have e3 := lv_neT (a := 3) hc3 (by decide); have e4 := lv_neT (a := 4) hc4 (by decide); omega) rfl ?_
  refine g_iconst dX12_count_61 rfl kic_m1 ?_
  exact g_iret dX12_count_62 rfl rfl
