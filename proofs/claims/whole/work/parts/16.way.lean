/-! 16.way: what the methods come to, and that they do -/
def way_isKind (v0 : Int32) : Int32 :=
  (if v0 < 0 then
  ((0 : Int32))
  else
  (if v0 < (8 : Int32) then
  ((1 : Int32))
  else
  ((0 : Int32))))
def way_isKind_o (v0 : Int32) : Option Int32 :=
  (if v0 < 0 then
  (some (0 : Int32))
  else
  (if v0 < (8 : Int32) then
  (some (1 : Int32))
  else
  (some (0 : Int32))))
theorem way_isKind_e (v0 : Int32) : way_isKind_o v0 = some (way_isKind v0) := by
  unfold way_isKind_o way_isKind
  simp only [apply_ite some]
theorem z_way_isKind (v0 : Int32) : isZ (way_isKind v0) = true := by
  unfold way_isKind
  (repeat' split) <;> first | rfl
theorem way_isKind_c (q : Th) (v0 : Int32) (X : St) : Ct q nX10_isKind 0 (fir X) [.int v0] X (some (way_isKind v0)) := by
  refine ct_of (by decide +kernel) (Nat.le_of_ble_eq_true rfl) ?_
  rw [← way_isKind_e]
  unfold way_isKind_o
  show G q _ _ 0 [(0, .int v0)] [] X _
  refine g_iload_n 0 dX10_isKind_0 rfl rfl ?_
  refine g_if_lt dX10_isKind_1 rfl rfl ?_ ?_
  · refine g_iconst dX10_isKind_14 rfl kic_0 ?_
    exact g_zret dX10_isKind_15 rfl rfl rfl
  refine g_iload_n 0 dX10_isKind_4 rfl rfl ?_
  refine g_bipush dX10_isKind_5 rfl kbi_8 ?_
  refine g_icmp_ge dX10_isKind_7 rfl rfl ?_ ?_
  · refine g_iconst dX10_isKind_10 rfl kic_1 ?_
    refine g_goto dX10_isKind_11 rfl ?_
    exact g_zret dX10_isKind_15 rfl rfl rfl
  refine g_iconst dX10_isKind_14 rfl kic_0 ?_
  exact g_zret dX10_isKind_15 rfl rfl rfl
def way_isUnder (v0 : Int32) (v1 : Int32) (X : St) : Option (Int32) :=
  (if (way_isKind v0) = 0 then
  (some (0 : Int32))
  else
  (if (way_isKind v1) = 0 then
  (some (0 : Int32))
  else
  (if inB v0 8 then
  (if (((UPf (nx v0)) >>> (v1 &&& 31)) &&& (1 : Int32)) = 0 then
  (some (0 : Int32))
  else
  (some (1 : Int32))) else none)))
theorem way_isUnder_c (q : Th) (v0 : Int32) (v1 : Int32) (X : St) : Ct q nX10_isUnder 1 (fir X) [.int v0, .int v1] X (way_isUnder v0 v1 X) := by
  refine ct_of (by decide +kernel) (Nat.le_of_ble_eq_true rfl) ?_
  unfold way_isUnder
  show G q _ _ 0 [(0, .int v0), (1, .int v1)] [] X _
  refine g_iload_n 0 dX10_isUnder_0 rfl rfl ?_
  refine g_cSIt (As := [.int v0]) (st := []) 1 mF_wg rfl dX10_isUnder_1 rfl vX10_isKind lkX10_18 (rmL rfl rfl) (way_isKind_c q v0 X) rfl rfl (Nat.le_of_ble_eq_true rfl) ?_
  refine g_if_eq dX10_isUnder_4 rfl rfl ?_ ?_
  · refine g_iconst dX10_isUnder_30 rfl kic_0 ?_
    exact g_zret dX10_isUnder_31 rfl rfl rfl
  refine g_iload_n 1 dX10_isUnder_7 rfl rfl ?_
  refine g_cSIt (As := [.int v1]) (st := []) 1 mF_wg rfl dX10_isUnder_8 rfl vX10_isKind lkX10_18 (rmL rfl rfl) (way_isKind_c q v1 X) rfl rfl (Nat.le_of_ble_eq_true rfl) ?_
  refine g_if_eq dX10_isUnder_11 rfl rfl ?_ ?_
  · refine g_iconst dX10_isUnder_30 rfl kic_0 ?_
    exact g_zret dX10_isUnder_31 rfl rfl rfl
  refine g_gets2 rfl dX10_isUnder_14 rfl stX10_22 ?_
  refine g_iload_n 0 dX10_isUnder_17 rfl rfl ?_
  refine g_sald2 dX10_isUnder_18 rfl ?_
  refine g_iload_n 1 dX10_isUnder_19 rfl rfl ?_
  refine g_ishr dX10_isUnder_20 rfl ?_
  refine g_iconst dX10_isUnder_21 rfl kic_1 ?_
  refine g_iand dX10_isUnder_22 rfl ?_
  refine g_if_eq dX10_isUnder_23 rfl rfl ?_ ?_
  · refine g_iconst dX10_isUnder_30 rfl kic_0 ?_
    exact g_zret dX10_isUnder_31 rfl rfl rfl
  refine g_iconst dX10_isUnder_26 rfl kic_1 ?_
  refine g_goto dX10_isUnder_27 rfl ?_
  exact g_zret dX10_isUnder_31 rfl rfl rfl
def way_many (X : St) : Int32 :=
  ((X.1 88 2))
def way_many_o (X : St) : Option Int32 :=
  (some (X.1 88 2))
theorem way_many_e (X : St) : way_many_o X = some (way_many X) := rfl
theorem way_many_c (q : Th) (X : St) : Ct q nX10_many 0 (fir X) [.ref (q.ad 88)] X (some (way_many X)) := by
  refine ct_of (by decide +kernel) (Nat.le_of_ble_eq_true rfl) ?_
  rw [← way_many_e]
  unfold way_many_o
  show G q _ _ 0 [(0, .ref (q.ad 88))] [] X _
  refine g_aload_n 0 dX10_many_0 rfl rfl ?_
  refine g_getI 88 2 rfl dX10_many_1 rfl kkX10 flX10_25 (by decide) rfl rfl (by decide) rfl ?_
  exact g_iret dX10_many_4 rfl rfl
def way_ran (X : St) : Int32 :=
  ((X.1 88 3))
def way_ran_o (X : St) : Option Int32 :=
  (some (X.1 88 3))
theorem way_ran_e (X : St) : way_ran_o X = some (way_ran X) := rfl
theorem way_ran_c (q : Th) (X : St) : Ct q nX10_ran 0 (fir X) [.ref (q.ad 88)] X (some (way_ran X)) := by
  refine ct_of (by decide +kernel) (Nat.le_of_ble_eq_true rfl) ?_
  rw [← way_ran_e]
  unfold way_ran_o
  show G q _ _ 0 [(0, .ref (q.ad 88))] [] X _
  refine g_aload_n 0 dX10_ran_0 rfl rfl ?_
  refine g_getI 88 3 rfl dX10_ran_1 rfl kkX10 flX10_29 (by decide) rfl rfl (by decide) rfl ?_
  exact g_iret dX10_ran_4 rfl rfl
def way_isFull (X : St) : Int32 :=
  (if (X.1 88 2) < (50 : Int32) then
  ((0 : Int32))
  else
  ((1 : Int32)))
def way_isFull_o (X : St) : Option Int32 :=
  (if (X.1 88 2) < (50 : Int32) then
  (some (0 : Int32))
  else
  (some (1 : Int32)))
theorem way_isFull_e (X : St) : way_isFull_o X = some (way_isFull X) := by
  unfold way_isFull_o way_isFull
  simp only [apply_ite some]
theorem z_way_isFull (X : St) : isZ (way_isFull X) = true := by
  unfold way_isFull
  (repeat' split) <;> first | rfl
theorem way_isFull_c (q : Th) (X : St) : Ct q nX10_isFull 0 (fir X) [.ref (q.ad 88)] X (some (way_isFull X)) := by
  refine ct_of (by decide +kernel) (Nat.le_of_ble_eq_true rfl) ?_
  rw [← way_isFull_e]
  unfold way_isFull_o
  show G q _ _ 0 [(0, .ref (q.ad 88))] [] X _
  refine g_aload_n 0 dX10_isFull_0 rfl rfl ?_
  refine g_getI 88 2 rfl dX10_isFull_1 rfl kkX10 flX10_25 (by decide) rfl rfl (by decide) rfl ?_
  refine g_bipush dX10_isFull_4 rfl kbi_50 ?_
  refine g_icmp_lt dX10_isFull_6 rfl rfl ?_ ?_
  · refine g_iconst dX10_isFull_13 rfl kic_0 ?_
    exact g_zret dX10_isFull_14 rfl rfl rfl
  refine g_iconst dX10_isFull_9 rfl kic_1 ?_
  refine g_goto dX10_isFull_10 rfl ?_
  exact g_zret dX10_isFull_14 rfl rfl rfl
def way_has (v1 : Int32) (X : St) : Int32 :=
  (if v1 < 0 then
  ((0 : Int32))
  else
  (if v1 < (X.1 88 2) then
  ((1 : Int32))
  else
  ((0 : Int32))))
def way_has_o (v1 : Int32) (X : St) : Option Int32 :=
  (if v1 < 0 then
  (some (0 : Int32))
  else
  (if v1 < (X.1 88 2) then
  (some (1 : Int32))
  else
  (some (0 : Int32))))
theorem way_has_e (v1 : Int32) (X : St) : way_has_o v1 X = some (way_has v1 X) := by
  unfold way_has_o way_has
  simp only [apply_ite some]
theorem z_way_has (v1 : Int32) (X : St) : isZ (way_has v1 X) = true := by
  unfold way_has
  (repeat' split) <;> first | rfl
theorem way_has_c (q : Th) (v1 : Int32) (X : St) : Ct q nX10_has 0 (fir X) [.ref (q.ad 88), .int v1] X (some (way_has v1 X)) := by
  refine ct_of (by decide +kernel) (Nat.le_of_ble_eq_true rfl) ?_
  rw [← way_has_e]
  unfold way_has_o
  show G q _ _ 0 [(0, .ref (q.ad 88)), (1, .int v1)] [] X _
  refine g_iload_n 1 dX10_has_0 rfl rfl ?_
  refine g_if_lt dX10_has_1 rfl rfl ?_ ?_
  · refine g_iconst dX10_has_16 rfl kic_0 ?_
    exact g_zret dX10_has_17 rfl rfl rfl
  refine g_iload_n 1 dX10_has_4 rfl rfl ?_
  refine g_aload_n 0 dX10_has_5 rfl rfl ?_
  refine g_getI 88 2 rfl dX10_has_6 rfl kkX10 flX10_25 (by decide) rfl rfl (by decide) rfl ?_
  refine g_icmp_ge dX10_has_9 rfl rfl ?_ ?_
  · refine g_iconst dX10_has_12 rfl kic_1 ?_
    refine g_goto dX10_has_13 rfl ?_
    exact g_zret dX10_has_17 rfl rfl rfl
  refine g_iconst dX10_has_16 rfl kic_0 ?_
  exact g_zret dX10_has_17 rfl rfl rfl
def way_kindOf (v1 : Int32) (X : St) : Option (Int32) :=
  (if (way_has v1 X) = 0 then
  (some (-1 : Int32))
  else
  (if inB v1 50 then
  (some (X.1 89 (nx v1))) else none))
theorem way_kindOf_c (q : Th) (v1 : Int32) (X : St) : Ct q nX10_kindOf 1 (fir X) [.ref (q.ad 88), .int v1] X (way_kindOf v1 X) := by
  refine ct_of (by decide +kernel) (Nat.le_of_ble_eq_true rfl) ?_
  unfold way_kindOf
  show G q _ _ 0 [(0, .ref (q.ad 88)), (1, .int v1)] [] X _
  refine g_aload_n 0 dX10_kindOf_0 rfl rfl ?_
  refine g_iload_n 1 dX10_kindOf_1 rfl rfl ?_
  refine g_cVIt (As := [.int v1]) (st := []) 1 mF_wg rfl dX10_kindOf_2 rfl kkX10 (by decide) rfl vX10_has lkX10_32 (rmL rfl rfl) (way_has_c q v1 X) rfl rfl (Nat.le_of_ble_eq_true rfl) ?_
  refine g_if_eq dX10_kindOf_5 rfl rfl ?_ ?_
  · refine g_iconst dX10_kindOf_17 rfl kic_m1 ?_
    exact g_iret dX10_kindOf_18 rfl rfl
  refine g_aload_n 0 dX10_kindOf_8 rfl rfl ?_
  refine g_getR 88 0 89 rfl dX10_kindOf_9 rfl kkX10 flX10_11 (by decide) rfl rfl (by decide) rfl ?_
  refine g_iload_n 1 dX10_kindOf_12 rfl rfl ?_
  refine g_iald dX10_kindOf_13 rfl (by decide) rfl rfl ?_
  refine g_goto dX10_kindOf_14 rfl ?_
  exact g_iret dX10_kindOf_18 rfl rfl
def way_add (v1 : Int32) (X : St) : Option (Int32 × St) :=
  (if (way_isFull X) = 0 then
  (if inB (X.1 88 2) 50 then
  ((some (stI (stI X 89 (nx (X.1 88 2)) v1) 88 2 (((stI X 89 (nx (X.1 88 2)) v1).1 88 2) + (1 : Int32)))).bind fun X1 =>
  (some (((X1.1 88 2) - (1 : Int32)), X1))) else none)
  else
  (some ((-3 : Int32), X)))
theorem way_add_c (q : Th) (v1 : Int32) (X : St) : Ct q nX10_add 1 fiw [.ref (q.ad 88), .int v1] X (way_add v1 X) := by
  refine ct_of (by decide +kernel) (Nat.le_of_ble_eq_true rfl) ?_
  unfold way_add
  show G q _ _ 0 [(0, .ref (q.ad 88)), (1, .int v1)] [] X _
  refine g_aload_n 0 dX10_add_0 rfl rfl ?_
  refine g_cVIt (As := []) (st := []) 0 mF_wg rfl dX10_add_1 rfl kkX10 (by decide) rfl vX10_isFull lkX10_35 (rmL rfl rfl) (way_isFull_c q X) rfl rfl (Nat.le_of_ble_eq_true rfl) ?_
  refine g_if_eq dX10_add_4 rfl rfl ?_ ?_
  · refine g_aload_n 0 dX10_add_10 rfl rfl ?_
    refine g_getR 88 0 89 rfl dX10_add_11 rfl kkX10 flX10_11 (by decide) rfl rfl (by decide) rfl ?_
    refine g_aload_n 0 dX10_add_14 rfl rfl ?_
    refine g_getI 88 2 rfl dX10_add_15 rfl kkX10 flX10_25 (by decide) rfl rfl (by decide) rfl ?_
    refine g_iload_n 1 dX10_add_18 rfl rfl ?_
    refine g_iast dX10_add_19 rfl (by decide) rfl rfl ?_
    refine g_aload_n 0 dX10_add_20 rfl rfl ?_
    refine g_dup dX10_add_21 rfl rfl ?_
    refine g_getI 88 2 rfl dX10_add_22 rfl kkX10 flX10_25 (by decide) rfl rfl (by decide) rfl ?_
    refine g_iconst dX10_add_25 rfl kic_1 ?_
    refine g_iadd dX10_add_26 rfl ?_
    refine g_putI 88 2 rfl dX10_add_27 rfl kkX10 flX10_25 (by decide) rfl rfl (by decide) rfl rfl rfl ?_
    refine g_nmX (fun X1 => ?_)
    refine g_aload_n 0 dX10_add_30 rfl rfl ?_
    refine g_getI 88 2 rfl dX10_add_31 rfl kkX10 flX10_25 (by decide) rfl rfl (by decide) rfl ?_
    refine g_iconst dX10_add_34 rfl kic_1 ?_
    refine g_isub dX10_add_35 rfl ?_
    exact g_iret dX10_add_36 rfl rfl
  refine g_bipush dX10_add_7 rfl kbi_m3 ?_
  exact g_iret dX10_add_9 rfl rfl
def way_traced (v1 : Int32) (X : St) : Option (Int32) :=
  (if v1 < 0 then
  (some (-1 : Int32))
  else
  (if v1 < (X.1 88 3) then
  (if v1 < (24 : Int32) then
  (if inB v1 24 then
  (some (X.1 90 (nx v1))) else none)
  else
  (some (-1 : Int32)))
  else
  (some (-1 : Int32))))
theorem way_traced_c (q : Th) (v1 : Int32) (X : St) : Ct q nX10_traced 0 (fir X) [.ref (q.ad 88), .int v1] X (way_traced v1 X) := by
  refine ct_of (by decide +kernel) (Nat.le_of_ble_eq_true rfl) ?_
  unfold way_traced
  show G q _ _ 0 [(0, .ref (q.ad 88)), (1, .int v1)] [] X _
  refine g_iload_n 1 dX10_traced_0 rfl rfl ?_
  refine g_if_lt dX10_traced_1 rfl rfl ?_ ?_
  · refine g_iconst dX10_traced_27 rfl kic_m1 ?_
    exact g_iret dX10_traced_28 rfl rfl
  refine g_iload_n 1 dX10_traced_4 rfl rfl ?_
  refine g_aload_n 0 dX10_traced_5 rfl rfl ?_
  refine g_getI 88 3 rfl dX10_traced_6 rfl kkX10 flX10_29 (by decide) rfl rfl (by decide) rfl ?_
  refine g_icmp_ge dX10_traced_9 rfl rfl ?_ ?_
  · refine g_iload_n 1 dX10_traced_12 rfl rfl ?_
    refine g_bipush dX10_traced_13 rfl kbi_24 ?_
    refine g_icmp_ge dX10_traced_15 rfl rfl ?_ ?_
    · refine g_aload_n 0 dX10_traced_18 rfl rfl ?_
      refine g_getR 88 1 90 rfl dX10_traced_19 rfl kkX10 flX10_15 (by decide) rfl rfl (by decide) rfl ?_
      refine g_iload_n 1 dX10_traced_22 rfl rfl ?_
      refine g_iald dX10_traced_23 rfl (by decide) rfl rfl ?_
      refine g_goto dX10_traced_24 rfl ?_
      exact g_iret dX10_traced_28 rfl rfl
    refine g_iconst dX10_traced_27 rfl kic_m1 ?_
    exact g_iret dX10_traced_28 rfl rfl
  refine g_iconst dX10_traced_27 rfl kic_m1 ?_
  exact g_iret dX10_traced_28 rfl rfl
def way_start (v1 : Int32) (X : St) : Option (Int32 × St) :=
  (if (way_has v1 (stI (stI X 88 3 (0 : Int32)) 88 4 v1)) = 0 then
  ((some (stI (stI (stI X 88 3 (0 : Int32)) 88 4 v1) 88 5 (0 : Int32))).bind fun X1 =>
  (some ((way_has v1 X1), X1)))
  else
  (if inB v1 50 then
  (if inB ((stI (stI X 88 3 (0 : Int32)) 88 4 v1).1 89 (nx v1)) 8 then
  ((some (stI (stI (stI X 88 3 (0 : Int32)) 88 4 v1) 88 5 (UPf (nx ((stI (stI X 88 3 (0 : Int32)) 88 4 v1).1 89 (nx v1)))))).bind fun X2 =>
  (some ((way_has v1 X2), X2))) else none) else none))
theorem way_start_c (q : Th) (v1 : Int32) (X : St) : Ct q nX10_start 1 fiw [.ref (q.ad 88), .int v1] X (way_start v1 X) := by
  refine ct_of (by decide +kernel) (Nat.le_of_ble_eq_true rfl) ?_
  unfold way_start
  show G q _ _ 0 [(0, .ref (q.ad 88)), (1, .int v1)] [] X _
  refine g_aload_n 0 dX10_start_0 rfl rfl ?_
  refine g_iconst dX10_start_1 rfl kic_0 ?_
  refine g_putI 88 3 rfl dX10_start_2 rfl kkX10 flX10_29 (by decide) rfl rfl (by decide) rfl rfl rfl ?_
  refine g_aload_n 0 dX10_start_5 rfl rfl ?_
  refine g_iload_n 1 dX10_start_6 rfl rfl ?_
  refine g_putI 88 4 rfl dX10_start_7 rfl kkX10 flX10_39 (by decide) rfl rfl (by decide) rfl rfl rfl ?_
  refine g_aload_n 0 dX10_start_10 rfl rfl ?_
  refine g_aload_n 0 dX10_start_11 rfl rfl ?_
  refine g_iload_n 1 dX10_start_12 rfl rfl ?_
  refine g_cVIt (As := [.int v1]) (st := [.ref (q.ad 88)]) 1 mF_wg rfl dX10_start_13 rfl kkX10 (by decide) rfl vX10_has lkX10_32 (rmL rfl rfl) (way_has_c q v1 (stI (stI X 88 3 (0 : Int32)) 88 4 v1)) rfl rfl (Nat.le_of_ble_eq_true rfl) ?_
  refine g_if_eq dX10_start_16 rfl rfl ?_ ?_
  · refine g_iconst dX10_start_32 rfl kic_0 ?_
    refine g_putI 88 5 rfl dX10_start_33 rfl kkX10 flX10_42 (by decide) rfl rfl (by decide) rfl rfl rfl ?_
    refine g_nmX (fun X1 => ?_)
    refine g_aload_n 0 dX10_start_36 rfl rfl ?_
    refine g_iload_n 1 dX10_start_37 rfl rfl ?_
    refine g_cVIt (As := [.int v1]) (st := []) 1 mF_wg rfl dX10_start_38 rfl kkX10 (by decide) rfl vX10_has lkX10_32 (rmL rfl rfl) (way_has_c q v1 X1) rfl rfl (Nat.le_of_ble_eq_true rfl) ?_
    exact g_zret dX10_start_41 rfl (z_way_has v1 X1) rfl
  refine g_gets2 rfl dX10_start_19 rfl stX10_22 ?_
  refine g_aload_n 0 dX10_start_22 rfl rfl ?_
  refine g_getR 88 0 89 rfl dX10_start_23 rfl kkX10 flX10_11 (by decide) rfl rfl (by decide) rfl ?_
  refine g_iload_n 1 dX10_start_26 rfl rfl ?_
  refine g_iald dX10_start_27 rfl (by decide) rfl rfl ?_
  refine g_sald2 dX10_start_28 rfl ?_
  refine g_goto dX10_start_29 rfl ?_
  refine g_putI 88 5 rfl dX10_start_33 rfl kkX10 flX10_42 (by decide) rfl rfl (by decide) rfl rfl rfl ?_
  refine g_nmX (fun X2 => ?_)
  refine g_aload_n 0 dX10_start_36 rfl rfl ?_
  refine g_iload_n 1 dX10_start_37 rfl rfl ?_
  refine g_cVIt (As := [.int v1]) (st := []) 1 mF_wg rfl dX10_start_38 rfl kkX10 (by decide) rfl vX10_has lkX10_32 (rmL rfl rfl) (way_has_c q v1 X2) rfl rfl (Nat.le_of_ble_eq_true rfl) ?_
  exact g_zret dX10_start_41 rfl (z_way_has v1 X2) rfl
def way_is (v1 : Int32) (X : St) : Int32 :=
  (if (((X.1 88 5) >>> (v1 &&& 31)) &&& (1 : Int32)) = 0 then
  ((0 : Int32))
  else
  ((1 : Int32)))
def way_is_o (v1 : Int32) (X : St) : Option Int32 :=
  (if (((X.1 88 5) >>> (v1 &&& 31)) &&& (1 : Int32)) = 0 then
  (some (0 : Int32))
  else
  (some (1 : Int32)))
theorem way_is_e (v1 : Int32) (X : St) : way_is_o v1 X = some (way_is v1 X) := by
  unfold way_is_o way_is
  simp only [apply_ite some]
theorem z_way_is (v1 : Int32) (X : St) : isZ (way_is v1 X) = true := by
  unfold way_is
  (repeat' split) <;> first | rfl
theorem way_is_c (q : Th) (v1 : Int32) (X : St) : Ct q nX10_is 0 (fir X) [.ref (q.ad 88), .int v1] X (some (way_is v1 X)) := by
  refine ct_of (by decide +kernel) (Nat.le_of_ble_eq_true rfl) ?_
  rw [← way_is_e]
  unfold way_is_o
  show G q _ _ 0 [(0, .ref (q.ad 88)), (1, .int v1)] [] X _
  refine g_aload_n 0 dX10_is_0 rfl rfl ?_
  refine g_getI 88 5 rfl dX10_is_1 rfl kkX10 flX10_42 (by decide) rfl rfl (by decide) rfl ?_
  refine g_iload_n 1 dX10_is_4 rfl rfl ?_
  refine g_ishr dX10_is_5 rfl ?_
  refine g_iconst dX10_is_6 rfl kic_1 ?_
  refine g_iand dX10_is_7 rfl ?_
  refine g_if_eq dX10_is_8 rfl rfl ?_ ?_
  · refine g_iconst dX10_is_15 rfl kic_0 ?_
    exact g_zret dX10_is_16 rfl rfl rfl
  refine g_iconst dX10_is_11 rfl kic_1 ?_
  refine g_goto dX10_is_12 rfl ?_
  exact g_zret dX10_is_16 rfl rfl rfl
def way_begins (v1 : Int32) (X : St) : Option (St) :=
  (if (X.1 88 3) < (24 : Int32) then
  (if inB (X.1 88 3) 24 then
  ((some (stI (stI X 90 (nx (X.1 88 3)) v1) 88 3 (((stI X 90 (nx (X.1 88 3)) v1).1 88 3) + (1 : Int32)))).bind fun X1 =>
  (some X1)) else none)
  else
  (some (stI X 88 3 ((X.1 88 3) + (1 : Int32)))))
theorem way_begins_c (q : Th) (v1 : Int32) (X : St) : Ct q nX10_begins 0 fvw [.ref (q.ad 88), .int v1] X (way_begins v1 X) := by
  refine ct_of (by decide +kernel) (Nat.le_of_ble_eq_true rfl) ?_
  unfold way_begins
  show G q _ _ 0 [(0, .ref (q.ad 88)), (1, .int v1)] [] X _
  refine g_aload_n 0 dX10_begins_0 rfl rfl ?_
  refine g_getI 88 3 rfl dX10_begins_1 rfl kkX10 flX10_29 (by decide) rfl rfl (by decide) rfl ?_
  refine g_bipush dX10_begins_4 rfl kbi_24 ?_
  refine g_icmp_ge dX10_begins_6 rfl rfl ?_ ?_
  · refine g_aload_n 0 dX10_begins_9 rfl rfl ?_
    refine g_getR 88 1 90 rfl dX10_begins_10 rfl kkX10 flX10_15 (by decide) rfl rfl (by decide) rfl ?_
    refine g_aload_n 0 dX10_begins_13 rfl rfl ?_
    refine g_getI 88 3 rfl dX10_begins_14 rfl kkX10 flX10_29 (by decide) rfl rfl (by decide) rfl ?_
    refine g_iload_n 1 dX10_begins_17 rfl rfl ?_
    refine g_iast dX10_begins_18 rfl (by decide) rfl rfl ?_
    refine g_aload_n 0 dX10_begins_19 rfl rfl ?_
    refine g_dup dX10_begins_20 rfl rfl ?_
    refine g_getI 88 3 rfl dX10_begins_21 rfl kkX10 flX10_29 (by decide) rfl rfl (by decide) rfl ?_
    refine g_iconst dX10_begins_24 rfl kic_1 ?_
    refine g_iadd dX10_begins_25 rfl ?_
    refine g_putI 88 3 rfl dX10_begins_26 rfl kkX10 flX10_29 (by decide) rfl rfl (by decide) rfl rfl rfl ?_
    refine g_nmX (fun X1 => ?_)
    exact g_vret dX10_begins_29 rfl rfl
  refine g_aload_n 0 dX10_begins_19 rfl rfl ?_
  refine g_dup dX10_begins_20 rfl rfl ?_
  refine g_getI 88 3 rfl dX10_begins_21 rfl kkX10 flX10_29 (by decide) rfl rfl (by decide) rfl ?_
  refine g_iconst dX10_begins_24 rfl kic_1 ?_
  refine g_iadd dX10_begins_25 rfl ?_
  refine g_putI 88 3 rfl dX10_begins_26 rfl kkX10 flX10_29 (by decide) rfl rfl (by decide) rfl rfl rfl ?_
  exact g_vret dX10_begins_29 rfl rfl
def way_plainCounts (v1 : Int32) (X : St) : Option (Int32 × St) :=
  ((way_begins (1 : Int32) X).bind fun X1 =>
  (some ((v1 + (X1.1 88 4)), X1)))
theorem way_plainCounts_c (q : Th) (v1 : Int32) (X : St) : Ct q nX10_plainCounts 1 fiw [.ref (q.ad 88), .int v1] X (way_plainCounts v1 X) := by
  refine ct_of (by decide +kernel) (Nat.le_of_ble_eq_true rfl) ?_
  unfold way_plainCounts
  show G q _ _ 0 [(0, .ref (q.ad 88)), (1, .int v1)] [] X _
  refine g_aload_n 0 dX10_plainCounts_0 rfl rfl ?_
  refine g_iconst dX10_plainCounts_1 rfl kic_1 ?_
  refine g_cVVw (As := [.int (1 : Int32)]) (st := []) 1 mF_wg rfl dX10_plainCounts_2 rfl kkX10 (by decide) rfl vX10_begins lkX10_48 (rmL rfl rfl) (way_begins_c q (1 : Int32) X) rfl rfl (Nat.le_of_ble_eq_true rfl) (fun X1 => ?_)
  refine g_iload_n 1 dX10_plainCounts_5 rfl rfl ?_
  refine g_aload_n 0 dX10_plainCounts_6 rfl rfl ?_
  refine g_getI 88 4 rfl dX10_plainCounts_7 rfl kkX10 flX10_39 (by decide) rfl rfl (by decide) rfl ?_
  refine g_iadd dX10_plainCounts_10 rfl ?_
  exact g_iret dX10_plainCounts_11 rfl rfl
def way_counts (v1 : Int32) (X : St) : Option (Int32 × St) :=
  (if (way_is (1 : Int32) X) = 0 then
  (if (way_is (6 : Int32) X) = 0 then
  ((way_plainCounts v1 X).bind fun (c2, X1) =>
  (some (c2, X1)))
  else
  ((way_begins (70 : Int32) X).bind fun X3 =>
  ((way_plainCounts v1 X3).bind fun (c5, X4) =>
  (some ((c5 * (2 : Int32)), X4)))))
  else
  ((way_begins (20 : Int32) X).bind fun X6 =>
  ((way_plainCounts v1 X6).bind fun (c8, X7) =>
  (some ((c8 + (3 : Int32)), X7)))))
theorem way_counts_c (q : Th) (v1 : Int32) (X : St) : Ct q nX10_counts 2 fiw [.ref (q.ad 88), .int v1] X (way_counts v1 X) := by
  refine ct_of (by decide +kernel) (Nat.le_of_ble_eq_true rfl) ?_
  unfold way_counts
  show G q _ _ 0 [(0, .ref (q.ad 88)), (1, .int v1)] [] X _
  refine g_aload_n 0 dX10_counts_0 rfl rfl ?_
  refine g_iconst dX10_counts_1 rfl kic_1 ?_
  refine g_cVIt (As := [.int (1 : Int32)]) (st := []) 1 mF_wg rfl dX10_counts_2 rfl kkX10 (by decide) rfl vX10_is lkX10_45 (rmL rfl rfl) (way_is_c q (1 : Int32) X) rfl rfl (Nat.le_of_ble_eq_true rfl) ?_
  refine g_if_eq dX10_counts_5 rfl rfl ?_ ?_
  · refine g_aload_n 0 dX10_counts_22 rfl rfl ?_
    refine g_bipush dX10_counts_23 rfl kbi_6 ?_
    refine g_cVIt (As := [.int (6 : Int32)]) (st := []) 1 mF_wg rfl dX10_counts_25 rfl kkX10 (by decide) rfl vX10_is lkX10_45 (rmL rfl rfl) (way_is_c q (6 : Int32) X) rfl rfl (Nat.le_of_ble_eq_true rfl) ?_
    refine g_if_eq dX10_counts_28 rfl rfl ?_ ?_
    · refine g_aload_n 0 dX10_counts_45 rfl rfl ?_
      refine g_iload_n 1 dX10_counts_46 rfl rfl ?_
      refine g_cVIw (As := [.int v1]) (st := []) 1 mF_wg rfl dX10_counts_47 rfl kkX10 (by decide) rfl vX10_plainCounts lkX10_52 (rmL rfl rfl) (way_plainCounts_c q v1 X) rfl rfl (Nat.le_of_ble_eq_true rfl) (fun c2 X1 => ?_)
      exact g_iret dX10_counts_50 rfl rfl
    refine g_aload_n 0 dX10_counts_31 rfl rfl ?_
    refine g_bipush dX10_counts_32 rfl kbi_70 ?_
    refine g_cVVw (As := [.int (70 : Int32)]) (st := []) 1 mF_wg rfl dX10_counts_34 rfl kkX10 (by decide) rfl vX10_begins lkX10_48 (rmL rfl rfl) (way_begins_c q (70 : Int32) X) rfl rfl (Nat.le_of_ble_eq_true rfl) (fun X3 => ?_)
    refine g_aload_n 0 dX10_counts_37 rfl rfl ?_
    refine g_iload_n 1 dX10_counts_38 rfl rfl ?_
    refine g_cVIw (As := [.int v1]) (st := []) 1 mF_wg rfl dX10_counts_39 rfl kkX10 (by decide) rfl vX10_plainCounts lkX10_52 (rmL rfl rfl) (way_plainCounts_c q v1 X3) rfl rfl (Nat.le_of_ble_eq_true rfl) (fun c5 X4 => ?_)
    refine g_iconst dX10_counts_42 rfl kic_2 ?_
    refine g_imul dX10_counts_43 rfl ?_
    exact g_iret dX10_counts_44 rfl rfl
  refine g_aload_n 0 dX10_counts_8 rfl rfl ?_
  refine g_bipush dX10_counts_9 rfl kbi_20 ?_
  refine g_cVVw (As := [.int (20 : Int32)]) (st := []) 1 mF_wg rfl dX10_counts_11 rfl kkX10 (by decide) rfl vX10_begins lkX10_48 (rmL rfl rfl) (way_begins_c q (20 : Int32) X) rfl rfl (Nat.le_of_ble_eq_true rfl) (fun X6 => ?_)
  refine g_aload_n 0 dX10_counts_14 rfl rfl ?_
  refine g_iload_n 1 dX10_counts_15 rfl rfl ?_
  refine g_cVIw (As := [.int v1]) (st := []) 1 mF_wg rfl dX10_counts_16 rfl kkX10 (by decide) rfl vX10_plainCounts lkX10_52 (rmL rfl rfl) (way_plainCounts_c q v1 X6) rfl rfl (Nat.le_of_ble_eq_true rfl) (fun c8 X7 => ?_)
  refine g_iconst dX10_counts_19 rfl kic_3 ?_
  refine g_iadd dX10_counts_20 rfl ?_
  exact g_iret dX10_counts_21 rfl rfl
def way_plainTurns (v1 : Int32) (X : St) : Option (Int32 × St) :=
  ((way_begins (10 : Int32) X).bind fun X1 =>
  ((way_counts v1 X1).bind fun (c3, X2) =>
  (some ((c3 * (2 : Int32)), X2))))
theorem way_plainTurns_c (q : Th) (v1 : Int32) (X : St) : Ct q nX10_plainTurns 3 fiw [.ref (q.ad 88), .int v1] X (way_plainTurns v1 X) := by
  refine ct_of (by decide +kernel) (Nat.le_of_ble_eq_true rfl) ?_
  unfold way_plainTurns
  show G q _ _ 0 [(0, .ref (q.ad 88)), (1, .int v1)] [] X _
  refine g_aload_n 0 dX10_plainTurns_0 rfl rfl ?_
  refine g_bipush dX10_plainTurns_1 rfl kbi_10 ?_
  refine g_cVVw (As := [.int (10 : Int32)]) (st := []) 1 mF_wg rfl dX10_plainTurns_3 rfl kkX10 (by decide) rfl vX10_begins lkX10_48 (rmL rfl rfl) (way_begins_c q (10 : Int32) X) rfl rfl (Nat.le_of_ble_eq_true rfl) (fun X1 => ?_)
  refine g_aload_n 0 dX10_plainTurns_6 rfl rfl ?_
  refine g_iload_n 1 dX10_plainTurns_7 rfl rfl ?_
  refine g_cVIw (As := [.int v1]) (st := []) 1 mF_wg rfl dX10_plainTurns_8 rfl kkX10 (by decide) rfl vX10_counts lkX10_62 (rmL rfl rfl) (way_counts_c q v1 X1) rfl rfl (Nat.le_of_ble_eq_true rfl) (fun c3 X2 => ?_)
  refine g_iconst dX10_plainTurns_11 rfl kic_2 ?_
  refine g_imul dX10_plainTurns_12 rfl ?_
  exact g_iret dX10_plainTurns_13 rfl rfl
def way_plainSinks (v1 : Int32) (X : St) : Option (Int32 × St) :=
  ((way_begins (11 : Int32) X).bind fun X1 =>
  (some ((v1 ^^^ (X1.1 88 4)), X1)))
theorem way_plainSinks_c (q : Th) (v1 : Int32) (X : St) : Ct q nX10_plainSinks 1 fiw [.ref (q.ad 88), .int v1] X (way_plainSinks v1 X) := by
  refine ct_of (by decide +kernel) (Nat.le_of_ble_eq_true rfl) ?_
  unfold way_plainSinks
  show G q _ _ 0 [(0, .ref (q.ad 88)), (1, .int v1)] [] X _
  refine g_aload_n 0 dX10_plainSinks_0 rfl rfl ?_
  refine g_bipush dX10_plainSinks_1 rfl kbi_11 ?_
  refine g_cVVw (As := [.int (11 : Int32)]) (st := []) 1 mF_wg rfl dX10_plainSinks_3 rfl kkX10 (by decide) rfl vX10_begins lkX10_48 (rmL rfl rfl) (way_begins_c q (11 : Int32) X) rfl rfl (Nat.le_of_ble_eq_true rfl) (fun X1 => ?_)
  refine g_iload_n 1 dX10_plainSinks_6 rfl rfl ?_
  refine g_aload_n 0 dX10_plainSinks_7 rfl rfl ?_
  refine g_getI 88 4 rfl dX10_plainSinks_8 rfl kkX10 flX10_39 (by decide) rfl rfl (by decide) rfl ?_
  refine g_ixor dX10_plainSinks_11 rfl ?_
  exact g_iret dX10_plainSinks_12 rfl rfl
def way_sinks (v1 : Int32) (X : St) : Option (Int32 × St) :=
  (if (way_is (3 : Int32) X) = 0 then
  (if (way_is (4 : Int32) X) = 0 then
  ((way_plainSinks v1 X).bind fun (c2, X1) =>
  (some (c2, X1)))
  else
  ((way_begins (50 : Int32) X).bind fun X3 =>
  ((way_plainSinks v1 X3).bind fun (c5, X4) =>
  ((way_counts (2 : Int32) X4).bind fun (c7, X6) =>
  (some ((c5 - c7), X6))))))
  else
  ((way_begins (40 : Int32) X).bind fun X8 =>
  ((way_plainSinks v1 X8).bind fun (c10, X9) =>
  (some ((c10 * (3 : Int32)), X9)))))
theorem way_sinks_c (q : Th) (v1 : Int32) (X : St) : Ct q nX10_sinks 3 fiw [.ref (q.ad 88), .int v1] X (way_sinks v1 X) := by
  refine ct_of (by decide +kernel) (Nat.le_of_ble_eq_true rfl) ?_
  unfold way_sinks
  show G q _ _ 0 [(0, .ref (q.ad 88)), (1, .int v1)] [] X _
  refine g_aload_n 0 dX10_sinks_0 rfl rfl ?_
  refine g_iconst dX10_sinks_1 rfl kic_3 ?_
  refine g_cVIt (As := [.int (3 : Int32)]) (st := []) 1 mF_wg rfl dX10_sinks_2 rfl kkX10 (by decide) rfl vX10_is lkX10_45 (rmL rfl rfl) (way_is_c q (3 : Int32) X) rfl rfl (Nat.le_of_ble_eq_true rfl) ?_
  refine g_if_eq dX10_sinks_5 rfl rfl ?_ ?_
  · refine g_aload_n 0 dX10_sinks_22 rfl rfl ?_
    refine g_iconst dX10_sinks_23 rfl kic_4 ?_
    refine g_cVIt (As := [.int (4 : Int32)]) (st := []) 1 mF_wg rfl dX10_sinks_24 rfl kkX10 (by decide) rfl vX10_is lkX10_45 (rmL rfl rfl) (way_is_c q (4 : Int32) X) rfl rfl (Nat.le_of_ble_eq_true rfl) ?_
    refine g_if_eq dX10_sinks_27 rfl rfl ?_ ?_
    · refine g_aload_n 0 dX10_sinks_50 rfl rfl ?_
      refine g_iload_n 1 dX10_sinks_51 rfl rfl ?_
      refine g_cVIw (As := [.int v1]) (st := []) 1 mF_wg rfl dX10_sinks_52 rfl kkX10 (by decide) rfl vX10_plainSinks lkX10_65 (rmL rfl rfl) (way_plainSinks_c q v1 X) rfl rfl (Nat.le_of_ble_eq_true rfl) (fun c2 X1 => ?_)
      exact g_iret dX10_sinks_55 rfl rfl
    refine g_aload_n 0 dX10_sinks_30 rfl rfl ?_
    refine g_bipush dX10_sinks_31 rfl kbi_50 ?_
    refine g_cVVw (As := [.int (50 : Int32)]) (st := []) 1 mF_wg rfl dX10_sinks_33 rfl kkX10 (by decide) rfl vX10_begins lkX10_48 (rmL rfl rfl) (way_begins_c q (50 : Int32) X) rfl rfl (Nat.le_of_ble_eq_true rfl) (fun X3 => ?_)
    refine g_aload_n 0 dX10_sinks_36 rfl rfl ?_
    refine g_iload_n 1 dX10_sinks_37 rfl rfl ?_
    refine g_cVIw (As := [.int v1]) (st := []) 1 mF_wg rfl dX10_sinks_38 rfl kkX10 (by decide) rfl vX10_plainSinks lkX10_65 (rmL rfl rfl) (way_plainSinks_c q v1 X3) rfl rfl (Nat.le_of_ble_eq_true rfl) (fun c5 X4 => ?_)
    refine g_istore_n (lv' := [(2, .int c5), (0, .ref (q.ad 88)), (1, .int v1)]) dX10_sinks_41 rfl rfl (Nat.le_of_ble_eq_true rfl) rfl ?_
    refine g_iload_n 0 dX10_sinks_42 rfl rfl ?_
    refine g_aload_n 1 dX10_sinks_43 rfl rfl ?_
    refine g_iconst dX10_sinks_44 rfl kic_2 ?_
    refine g_cVIw (As := [.int (2 : Int32)]) (st := [.int c5]) 1 mF_wg rfl dX10_sinks_45 rfl kkX10 (by decide) rfl vX10_counts lkX10_62 (rmL rfl rfl) (way_counts_c q (2 : Int32) X4) rfl rfl (Nat.le_of_ble_eq_true rfl) (fun c7 X6 => ?_)
    refine g_isub dX10_sinks_48 rfl ?_
    exact g_iret dX10_sinks_49 rfl rfl
  refine g_aload_n 0 dX10_sinks_8 rfl rfl ?_
  refine g_bipush dX10_sinks_9 rfl kbi_40 ?_
  refine g_cVVw (As := [.int (40 : Int32)]) (st := []) 1 mF_wg rfl dX10_sinks_11 rfl kkX10 (by decide) rfl vX10_begins lkX10_48 (rmL rfl rfl) (way_begins_c q (40 : Int32) X) rfl rfl (Nat.le_of_ble_eq_true rfl) (fun X8 => ?_)
  refine g_aload_n 0 dX10_sinks_14 rfl rfl ?_
  refine g_iload_n 1 dX10_sinks_15 rfl rfl ?_
  refine g_cVIw (As := [.int v1]) (st := []) 1 mF_wg rfl dX10_sinks_16 rfl kkX10 (by decide) rfl vX10_plainSinks lkX10_65 (rmL rfl rfl) (way_plainSinks_c q v1 X8) rfl rfl (Nat.le_of_ble_eq_true rfl) (fun c10 X9 => ?_)
  refine g_iconst dX10_sinks_19 rfl kic_3 ?_
  refine g_imul dX10_sinks_20 rfl ?_
  exact g_iret dX10_sinks_21 rfl rfl
def way_turns_J48 (v2 : Int32) (X : St) : Option (Int32 × St) :=
(if (way_is (2 : Int32) X) = 0 then
((way_plainTurns v2 X).bind fun (c2, X1) =>
(some (c2, X1)))
else
((way_begins (30 : Int32) X).bind fun X3 =>
((way_plainTurns v2 X3).bind fun (c5, X4) =>
(some ((-c5), X4)))))
def way_turns (v1 : Int32) (X : St) : Option (Int32 × St) :=
  (if (way_is (7 : Int32) X) = 0 then
  (if (way_is (3 : Int32) X) = 0 then
  (way_turns_J48 v1 X)
  else
  ((way_begins (41 : Int32) X).bind fun X6 =>
  (way_turns_J48 (v1 + (1 : Int32)) X6)))
  else
  ((way_begins (80 : Int32) X).bind fun X7 =>
  ((way_plainTurns v1 X7).bind fun (c9, X8) =>
  ((way_sinks (2 : Int32) X8).bind fun (c11, X10) =>
  (some ((c9 + c11), X10))))))
theorem way_turns_J48_g (q : Th) (v2 : Int32) (X : St) : G q (mF q nX10_turns RX10 4) fiw 48 [(0, .ref (q.ad 88)), (2, .int v2)] [] X (way_turns_J48 v2 X) := by
  unfold way_turns_J48
  refine g_aload_n 0 dX10_turns_48 rfl rfl ?_
  refine g_iconst dX10_turns_49 rfl kic_2 ?_
  refine g_cVIt (As := [.int (2 : Int32)]) (st := []) 1 mF_wg rfl dX10_turns_50 rfl kkX10 (by decide) rfl vX10_is lkX10_45 (rmL rfl rfl) (way_is_c q (2 : Int32) X) rfl rfl (Nat.le_of_ble_eq_true rfl) ?_
  refine g_if_eq dX10_turns_53 rfl rfl ?_ ?_
  · refine g_aload_n 0 dX10_turns_69 rfl rfl ?_
    refine g_iload_n 1 dX10_turns_70 rfl rfl ?_
    refine g_cVIw (As := [.int v2]) (st := []) 1 mF_wg rfl dX10_turns_71 rfl kkX10 (by decide) rfl vX10_plainTurns lkX10_56 (rmL rfl rfl) (way_plainTurns_c q v2 X) rfl rfl (Nat.le_of_ble_eq_true rfl) (fun c2 X1 => ?_)
    exact g_iret dX10_turns_74 rfl rfl
  refine g_aload_n 0 dX10_turns_56 rfl rfl ?_
  refine g_bipush dX10_turns_57 rfl kbi_30 ?_
  refine g_cVVw (As := [.int (30 : Int32)]) (st := []) 1 mF_wg rfl dX10_turns_59 rfl kkX10 (by decide) rfl vX10_begins lkX10_48 (rmL rfl rfl) (way_begins_c q (30 : Int32) X) rfl rfl (Nat.le_of_ble_eq_true rfl) (fun X3 => ?_)
  refine g_aload_n 0 dX10_turns_62 rfl rfl ?_
  refine g_iload_n 1 dX10_turns_63 rfl rfl ?_
  refine g_cVIw (As := [.int v2]) (st := []) 1 mF_wg rfl dX10_turns_64 rfl kkX10 (by decide) rfl vX10_plainTurns lkX10_56 (rmL rfl rfl) (way_plainTurns_c q v2 X3) rfl rfl (Nat.le_of_ble_eq_true rfl) (fun c5 X4 => ?_)
  refine g_ineg dX10_turns_67 rfl ?_
  exact g_iret dX10_turns_68 rfl rfl
theorem way_turns_c (q : Th) (v1 : Int32) (X : St) : Ct q nX10_turns 4 fiw [.ref (q.ad 88), .int v1] X (way_turns v1 X) := by
  refine ct_of (by decide +kernel) (Nat.le_of_ble_eq_true rfl) ?_
  unfold way_turns
  show G q _ _ 0 [(0, .ref (q.ad 88)), (1, .int v1)] [] X _
  refine g_aload_n 0 dX10_turns_0 rfl rfl ?_
  refine g_bipush dX10_turns_1 rfl kbi_7 ?_
  refine g_cVIt (As := [.int (7 : Int32)]) (st := []) 1 mF_wg rfl dX10_turns_3 rfl kkX10 (by decide) rfl vX10_is lkX10_45 (rmL rfl rfl) (way_is_c q (7 : Int32) X) rfl rfl (Nat.le_of_ble_eq_true rfl) ?_
  refine g_if_eq dX10_turns_6 rfl rfl ?_ ?_
  · refine g_iload_n 1 dX10_turns_29 rfl rfl ?_
    refine g_istore_n (lv' := [(2, .int v1), (0, .ref (q.ad 88)), (1, .int v1)]) dX10_turns_30 rfl rfl (Nat.le_of_ble_eq_true rfl) rfl ?_
    refine g_aload_n 1 dX10_turns_31 rfl rfl ?_
    refine g_iconst dX10_turns_32 rfl kic_3 ?_
    refine g_cVIt (As := [.int (3 : Int32)]) (st := []) 1 mF_wg rfl dX10_turns_33 rfl kkX10 (by decide) rfl vX10_is lkX10_45 (rmL rfl rfl) (way_is_c q (3 : Int32) X) rfl rfl (Nat.le_of_ble_eq_true rfl) ?_
    refine g_if_eq dX10_turns_36 rfl rfl ?_ ?_
    · refine g_sub [1, 0] rfl ?_
      exact way_turns_J48_g q v1 X
    refine g_aload_n 1 dX10_turns_39 rfl rfl ?_
    refine g_bipush dX10_turns_40 rfl kbi_41 ?_
    refine g_cVVw (As := [.int (41 : Int32)]) (st := []) 1 mF_wg rfl dX10_turns_42 rfl kkX10 (by decide) rfl vX10_begins lkX10_48 (rmL rfl rfl) (way_begins_c q (41 : Int32) X) rfl rfl (Nat.le_of_ble_eq_true rfl) (fun X6 => ?_)
    refine g_inc (lv' := [(2, .int (v1 + (1 : Int32))), (0, .ref (q.ad 88)), (1, .int v1)]) 0 dX10_turns_45 rfl rfl kic_1 (Nat.le_of_ble_eq_true rfl) rfl ?_
    refine g_sub [1, 0] rfl ?_
    exact way_turns_J48_g q (v1 + (1 : Int32)) X6
  refine g_aload_n 0 dX10_turns_9 rfl rfl ?_
  refine g_bipush dX10_turns_10 rfl kbi_80 ?_
  refine g_cVVw (As := [.int (80 : Int32)]) (st := []) 1 mF_wg rfl dX10_turns_12 rfl kkX10 (by decide) rfl vX10_begins lkX10_48 (rmL rfl rfl) (way_begins_c q (80 : Int32) X) rfl rfl (Nat.le_of_ble_eq_true rfl) (fun X7 => ?_)
  refine g_aload_n 0 dX10_turns_15 rfl rfl ?_
  refine g_iload_n 1 dX10_turns_16 rfl rfl ?_
  refine g_cVIw (As := [.int v1]) (st := []) 1 mF_wg rfl dX10_turns_17 rfl kkX10 (by decide) rfl vX10_plainTurns lkX10_56 (rmL rfl rfl) (way_plainTurns_c q v1 X7) rfl rfl (Nat.le_of_ble_eq_true rfl) (fun c9 X8 => ?_)
  refine g_istore_n (lv' := [(2, .int c9), (0, .ref (q.ad 88)), (1, .int v1)]) dX10_turns_20 rfl rfl (Nat.le_of_ble_eq_true rfl) rfl ?_
  refine g_iload_n 0 dX10_turns_21 rfl rfl ?_
  refine g_aload_n 1 dX10_turns_22 rfl rfl ?_
  refine g_iconst dX10_turns_23 rfl kic_2 ?_
  refine g_cVIw (As := [.int (2 : Int32)]) (st := [.int c9]) 1 mF_wg rfl dX10_turns_24 rfl kkX10 (by decide) rfl vX10_sinks lkX10_59 (rmL rfl rfl) (way_sinks_c q (2 : Int32) X8) rfl rfl (Nat.le_of_ble_eq_true rfl) (fun c11 X10 => ?_)
  refine g_iadd dX10_turns_27 rfl ?_
  exact g_iret dX10_turns_28 rfl rfl
def way_plainTells (v1 : Int32) (X : St) : Option (Int32 × St) :=
  ((way_begins (2 : Int32) X).bind fun X1 =>
  ((way_turns v1 X1).bind fun (c3, X2) =>
  ((way_sinks (1 : Int32) X2).bind fun (c5, X4) =>
  (some ((c3 - c5), X4)))))
theorem way_plainTells_c (q : Th) (v1 : Int32) (X : St) : Ct q nX10_plainTells 5 fiw [.ref (q.ad 88), .int v1] X (way_plainTells v1 X) := by
  refine ct_of (by decide +kernel) (Nat.le_of_ble_eq_true rfl) ?_
  unfold way_plainTells
  show G q _ _ 0 [(0, .ref (q.ad 88)), (1, .int v1)] [] X _
  refine g_aload_n 0 dX10_plainTells_0 rfl rfl ?_
  refine g_iconst dX10_plainTells_1 rfl kic_2 ?_
  refine g_cVVw (As := [.int (2 : Int32)]) (st := []) 1 mF_wg rfl dX10_plainTells_2 rfl kkX10 (by decide) rfl vX10_begins lkX10_48 (rmL rfl rfl) (way_begins_c q (2 : Int32) X) rfl rfl (Nat.le_of_ble_eq_true rfl) (fun X1 => ?_)
  refine g_aload_n 0 dX10_plainTells_5 rfl rfl ?_
  refine g_iload_n 1 dX10_plainTells_6 rfl rfl ?_
  refine g_cVIw (As := [.int v1]) (st := []) 1 mF_wg rfl dX10_plainTells_7 rfl kkX10 (by decide) rfl vX10_turns lkX10_71 (rmL rfl rfl) (way_turns_c q v1 X1) rfl rfl (Nat.le_of_ble_eq_true rfl) (fun c3 X2 => ?_)
  refine g_istore_n (lv' := [(2, .int c3), (0, .ref (q.ad 88)), (1, .int v1)]) dX10_plainTells_10 rfl rfl (Nat.le_of_ble_eq_true rfl) rfl ?_
  refine g_iload_n 0 dX10_plainTells_11 rfl rfl ?_
  refine g_aload_n 1 dX10_plainTells_12 rfl rfl ?_
  refine g_iconst dX10_plainTells_13 rfl kic_1 ?_
  refine g_cVIw (As := [.int (1 : Int32)]) (st := [.int c3]) 1 mF_wg rfl dX10_plainTells_14 rfl kkX10 (by decide) rfl vX10_sinks lkX10_59 (rmL rfl rfl) (way_sinks_c q (1 : Int32) X2) rfl rfl (Nat.le_of_ble_eq_true rfl) (fun c5 X4 => ?_)
  refine g_isub dX10_plainTells_17 rfl ?_
  exact g_iret dX10_plainTells_18 rfl rfl
def way_tells (v1 : Int32) (X : St) : Option (Int32 × St) :=
  (if (way_is (5 : Int32) X) = 0 then
  (if (way_is (7 : Int32) X) = 0 then
  ((way_plainTells v1 X).bind fun (c2, X1) =>
  (some (c2, X1)))
  else
  ((way_begins (81 : Int32) X).bind fun X3 =>
  ((way_plainTells v1 X3).bind fun (c5, X4) =>
  (some ((c5 - (1 : Int32)), X4)))))
  else
  ((way_begins (60 : Int32) X).bind fun X6 =>
  ((way_plainTells v1 X6).bind fun (c8, X7) =>
  (some ((c8 ^^^ (5 : Int32)), X7)))))
theorem way_tells_c (q : Th) (v1 : Int32) (X : St) : Ct q nX10_tells 6 fiw [.ref (q.ad 88), .int v1] X (way_tells v1 X) := by
  refine ct_of (by decide +kernel) (Nat.le_of_ble_eq_true rfl) ?_
  unfold way_tells
  show G q _ _ 0 [(0, .ref (q.ad 88)), (1, .int v1)] [] X _
  refine g_aload_n 0 dX10_tells_0 rfl rfl ?_
  refine g_iconst dX10_tells_1 rfl kic_5 ?_
  refine g_cVIt (As := [.int (5 : Int32)]) (st := []) 1 mF_wg rfl dX10_tells_2 rfl kkX10 (by decide) rfl vX10_is lkX10_45 (rmL rfl rfl) (way_is_c q (5 : Int32) X) rfl rfl (Nat.le_of_ble_eq_true rfl) ?_
  refine g_if_eq dX10_tells_5 rfl rfl ?_ ?_
  · refine g_aload_n 0 dX10_tells_22 rfl rfl ?_
    refine g_bipush dX10_tells_23 rfl kbi_7 ?_
    refine g_cVIt (As := [.int (7 : Int32)]) (st := []) 1 mF_wg rfl dX10_tells_25 rfl kkX10 (by decide) rfl vX10_is lkX10_45 (rmL rfl rfl) (way_is_c q (7 : Int32) X) rfl rfl (Nat.le_of_ble_eq_true rfl) ?_
    refine g_if_eq dX10_tells_28 rfl rfl ?_ ?_
    · refine g_aload_n 0 dX10_tells_45 rfl rfl ?_
      refine g_iload_n 1 dX10_tells_46 rfl rfl ?_
      refine g_cVIw (As := [.int v1]) (st := []) 1 mF_wg rfl dX10_tells_47 rfl kkX10 (by decide) rfl vX10_plainTells lkX10_68 (rmL rfl rfl) (way_plainTells_c q v1 X) rfl rfl (Nat.le_of_ble_eq_true rfl) (fun c2 X1 => ?_)
      exact g_iret dX10_tells_50 rfl rfl
    refine g_aload_n 0 dX10_tells_31 rfl rfl ?_
    refine g_bipush dX10_tells_32 rfl kbi_81 ?_
    refine g_cVVw (As := [.int (81 : Int32)]) (st := []) 1 mF_wg rfl dX10_tells_34 rfl kkX10 (by decide) rfl vX10_begins lkX10_48 (rmL rfl rfl) (way_begins_c q (81 : Int32) X) rfl rfl (Nat.le_of_ble_eq_true rfl) (fun X3 => ?_)
    refine g_aload_n 0 dX10_tells_37 rfl rfl ?_
    refine g_iload_n 1 dX10_tells_38 rfl rfl ?_
    refine g_cVIw (As := [.int v1]) (st := []) 1 mF_wg rfl dX10_tells_39 rfl kkX10 (by decide) rfl vX10_plainTells lkX10_68 (rmL rfl rfl) (way_plainTells_c q v1 X3) rfl rfl (Nat.le_of_ble_eq_true rfl) (fun c5 X4 => ?_)
    refine g_iconst dX10_tells_42 rfl kic_1 ?_
    refine g_isub dX10_tells_43 rfl ?_
    exact g_iret dX10_tells_44 rfl rfl
  refine g_aload_n 0 dX10_tells_8 rfl rfl ?_
  refine g_bipush dX10_tells_9 rfl kbi_60 ?_
  refine g_cVVw (As := [.int (60 : Int32)]) (st := []) 1 mF_wg rfl dX10_tells_11 rfl kkX10 (by decide) rfl vX10_begins lkX10_48 (rmL rfl rfl) (way_begins_c q (60 : Int32) X) rfl rfl (Nat.le_of_ble_eq_true rfl) (fun X6 => ?_)
  refine g_aload_n 0 dX10_tells_14 rfl rfl ?_
  refine g_iload_n 1 dX10_tells_15 rfl rfl ?_
  refine g_cVIw (As := [.int v1]) (st := []) 1 mF_wg rfl dX10_tells_16 rfl kkX10 (by decide) rfl vX10_plainTells lkX10_68 (rmL rfl rfl) (way_plainTells_c q v1 X6) rfl rfl (Nat.le_of_ble_eq_true rfl) (fun c8 X7 => ?_)
  refine g_iconst dX10_tells_19 rfl kic_5 ?_
  refine g_ixor dX10_tells_20 rfl ?_
  exact g_iret dX10_tells_21 rfl rfl
