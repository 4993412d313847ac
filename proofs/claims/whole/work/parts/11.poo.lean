/-! 11.poo: what the methods come to, and that they do -/
def poo_keeps (v1 : Int32) (v2 : Int32) (X : St) : Int32 :=
  (if v2 < 0 then
  ((0 : Int32))
  else
  (if v2 < (9 : Int32) then
  (if v1 < 0 then
  ((0 : Int32))
  else
  (if v2 < (6 : Int32) then
  (if v1 < (X.1 1 1) then
  ((1 : Int32))
  else
  ((0 : Int32)))
  else
  (if v1 < (1 : Int32) then
  ((1 : Int32))
  else
  ((0 : Int32)))))
  else
  ((0 : Int32))))
def poo_keeps_o (v1 : Int32) (v2 : Int32) (X : St) : Option Int32 :=
  (if v2 < 0 then
  (some (0 : Int32))
  else
  (if v2 < (9 : Int32) then
  (if v1 < 0 then
  (some (0 : Int32))
  else
  (if v2 < (6 : Int32) then
  (if v1 < (X.1 1 1) then
  (some (1 : Int32))
  else
  (some (0 : Int32)))
  else
  (if v1 < (1 : Int32) then
  (some (1 : Int32))
  else
  (some (0 : Int32)))))
  else
  (some (0 : Int32))))
theorem poo_keeps_e (v1 : Int32) (v2 : Int32) (X : St) : poo_keeps_o v1 v2 X = some (poo_keeps v1 v2 X) := by
  unfold poo_keeps_o poo_keeps
  simp only [apply_ite some]
theorem z_poo_keeps (v1 : Int32) (v2 : Int32) (X : St) : isZ (poo_keeps v1 v2 X) = true := by
  unfold poo_keeps
  (repeat' split) <;> first | rfl
theorem poo_keeps_c (q : Th) (v1 : Int32) (v2 : Int32) (X : St) : Ct q nX5_keeps 0 (fir X) [.ref (q.ad 1), .int v1, .int v2] X (some (poo_keeps v1 v2 X)) := by
  refine ct_of (by decide +kernel) (Nat.le_of_ble_eq_true rfl) ?_
  rw [← poo_keeps_e]
  unfold poo_keeps_o
  show G q _ _ 0 [(0, .ref (q.ad 1)), (1, .int v1), (2, .int v2)] [] X _
  refine g_iload_n 2 dX5_keeps_0 rfl rfl ?_
  refine g_if_lt dX5_keeps_1 rfl rfl ?_ ?_
  · refine g_iconst dX5_keeps_10 rfl kic_0 ?_
    exact g_zret dX5_keeps_11 rfl rfl rfl
  refine g_iload_n 2 dX5_keeps_4 rfl rfl ?_
  refine g_bipush dX5_keeps_5 rfl kbi_9 ?_
  refine g_icmp_lt dX5_keeps_7 rfl rfl ?_ ?_
  · refine g_iload_n 1 dX5_keeps_12 rfl rfl ?_
    refine g_if_lt dX5_keeps_13 rfl rfl ?_ ?_
    · refine g_iconst dX5_keeps_38 rfl kic_0 ?_
      exact g_zret dX5_keeps_39 rfl rfl rfl
    refine g_iload_n 1 dX5_keeps_16 rfl rfl ?_
    refine g_iload_n 2 dX5_keeps_17 rfl rfl ?_
    refine g_bipush dX5_keeps_18 rfl kbi_6 ?_
    refine g_icmp_lt dX5_keeps_20 rfl rfl ?_ ?_
    · refine g_aload_n 0 dX5_keeps_27 rfl rfl ?_
      refine g_getI 1 1 rfl dX5_keeps_28 rfl kkX5 flX5_27 (by decide) rfl rfl (by decide) rfl ?_
      refine g_icmp_ge dX5_keeps_31 rfl rfl ?_ ?_
      · refine g_iconst dX5_keeps_34 rfl kic_1 ?_
        refine g_goto dX5_keeps_35 rfl ?_
        exact g_zret dX5_keeps_39 rfl rfl rfl
      refine g_iconst dX5_keeps_38 rfl kic_0 ?_
      exact g_zret dX5_keeps_39 rfl rfl rfl
    refine g_iconst dX5_keeps_23 rfl kic_1 ?_
    refine g_goto dX5_keeps_24 rfl ?_
    refine g_icmp_ge dX5_keeps_31 rfl rfl ?_ ?_
    · refine g_iconst dX5_keeps_34 rfl kic_1 ?_
      refine g_goto dX5_keeps_35 rfl ?_
      exact g_zret dX5_keeps_39 rfl rfl rfl
    refine g_iconst dX5_keeps_38 rfl kic_0 ?_
    exact g_zret dX5_keeps_39 rfl rfl rfl
  refine g_iconst dX5_keeps_10 rfl kic_0 ?_
  exact g_zret dX5_keeps_11 rfl rfl rfl
def poo_tell (v1 : Int32) (v2 : Int32) (v3 : Int32) (X : St) : Option (St) :=
  (if (poo_keeps v1 v2 X) = 0 then
  (some X)
  else
  (if inB v2 9 then
  (if okI (3 + nx v2) v1 then
  (some (stI X (3 + nx v2) (nx v1) v3)) else none) else none))
theorem poo_tell_c (q : Th) (v1 : Int32) (v2 : Int32) (v3 : Int32) (X : St) : Ct q nX5_tell 1 fvw [.ref (q.ad 1), .int v1, .int v2, .int v3] X (poo_tell v1 v2 v3 X) := by
  refine ct_of (by decide +kernel) (Nat.le_of_ble_eq_true rfl) ?_
  unfold poo_tell
  show G q _ _ 0 [(0, .ref (q.ad 1)), (1, .int v1), (2, .int v2), (3, .int v3)] [] X _
  refine g_aload_n 0 dX5_tell_0 rfl rfl ?_
  refine g_iload_n 1 dX5_tell_1 rfl rfl ?_
  refine g_iload_n 2 dX5_tell_2 rfl rfl ?_
  refine g_cVIt (As := [.int v1, .int v2]) (st := []) 2 mF_wg rfl dX5_tell_3 rfl kkX5 (by decide) rfl vX5_keeps lkX5_31 (rmL rfl rfl) (poo_keeps_c q v1 v2 X) rfl rfl (Nat.le_of_ble_eq_true rfl) ?_
  refine g_if_eq dX5_tell_6 rfl rfl ?_ ?_
  · exact g_vret dX5_tell_18 rfl rfl
  refine g_aload_n 0 dX5_tell_9 rfl rfl ?_
  refine g_getR 1 0 2 rfl dX5_tell_10 rfl kkX5 flX5_13 (by decide) rfl rfl (by decide) rfl ?_
  refine g_iload_n 2 dX5_tell_13 rfl rfl ?_
  refine g_aald dX5_tell_14 rfl (by decide) (by decide) rfl rfl ?_
  refine g_iload_n 1 dX5_tell_15 rfl rfl ?_
  refine g_iload_n 3 dX5_tell_16 rfl rfl ?_
  refine g_iastD dX5_tell_17 rfl ?_
  exact g_vret dX5_tell_18 rfl rfl
def poo_told (v1 : Int32) (v2 : Int32) (X : St) : Option (Int32) :=
  (if (poo_keeps v1 v2 X) = 0 then
  (some (0 : Int32))
  else
  (if inB v2 9 then
  (if okI (3 + nx v2) v1 then
  (some (X.1 (3 + nx v2) (nx v1))) else none) else none))
theorem poo_told_c (q : Th) (v1 : Int32) (v2 : Int32) (X : St) : Ct q nX5_told 1 (fir X) [.ref (q.ad 1), .int v1, .int v2] X (poo_told v1 v2 X) := by
  refine ct_of (by decide +kernel) (Nat.le_of_ble_eq_true rfl) ?_
  unfold poo_told
  show G q _ _ 0 [(0, .ref (q.ad 1)), (1, .int v1), (2, .int v2)] [] X _
  refine g_aload_n 0 dX5_told_0 rfl rfl ?_
  refine g_iload_n 1 dX5_told_1 rfl rfl ?_
  refine g_iload_n 2 dX5_told_2 rfl rfl ?_
  refine g_cVIt (As := [.int v1, .int v2]) (st := []) 2 mF_wg rfl dX5_told_3 rfl kkX5 (by decide) rfl vX5_keeps lkX5_31 (rmL rfl rfl) (poo_keeps_c q v1 v2 X) rfl rfl (Nat.le_of_ble_eq_true rfl) ?_
  refine g_if_eq dX5_told_6 rfl rfl ?_ ?_
  · refine g_iconst dX5_told_20 rfl kic_0 ?_
    exact g_iret dX5_told_21 rfl rfl
  refine g_aload_n 0 dX5_told_9 rfl rfl ?_
  refine g_getR 1 0 2 rfl dX5_told_10 rfl kkX5 flX5_13 (by decide) rfl rfl (by decide) rfl ?_
  refine g_iload_n 2 dX5_told_13 rfl rfl ?_
  refine g_aald dX5_told_14 rfl (by decide) (by decide) rfl rfl ?_
  refine g_iload_n 1 dX5_told_15 rfl rfl ?_
  refine g_ialdD dX5_told_16 rfl ?_
  refine g_goto dX5_told_17 rfl ?_
  exact g_iret dX5_told_21 rfl rfl
def poo_has (v1 : Int32) (X : St) : Int32 :=
  (if v1 < 0 then
  ((0 : Int32))
  else
  (if v1 < (X.1 1 1) then
  ((1 : Int32))
  else
  ((0 : Int32))))
def poo_has_o (v1 : Int32) (X : St) : Option Int32 :=
  (if v1 < 0 then
  (some (0 : Int32))
  else
  (if v1 < (X.1 1 1) then
  (some (1 : Int32))
  else
  (some (0 : Int32))))
theorem poo_has_e (v1 : Int32) (X : St) : poo_has_o v1 X = some (poo_has v1 X) := by
  unfold poo_has_o poo_has
  simp only [apply_ite some]
theorem z_poo_has (v1 : Int32) (X : St) : isZ (poo_has v1 X) = true := by
  unfold poo_has
  (repeat' split) <;> first | rfl
theorem poo_has_c (q : Th) (v1 : Int32) (X : St) : Ct q nX5_has 0 (fir X) [.ref (q.ad 1), .int v1] X (some (poo_has v1 X)) := by
  refine ct_of (by decide +kernel) (Nat.le_of_ble_eq_true rfl) ?_
  rw [← poo_has_e]
  unfold poo_has_o
  show G q _ _ 0 [(0, .ref (q.ad 1)), (1, .int v1)] [] X _
  refine g_iload_n 1 dX5_has_0 rfl rfl ?_
  refine g_if_lt dX5_has_1 rfl rfl ?_ ?_
  · refine g_iconst dX5_has_16 rfl kic_0 ?_
    exact g_zret dX5_has_17 rfl rfl rfl
  refine g_iload_n 1 dX5_has_4 rfl rfl ?_
  refine g_aload_n 0 dX5_has_5 rfl rfl ?_
  refine g_getI 1 1 rfl dX5_has_6 rfl kkX5 flX5_27 (by decide) rfl rfl (by decide) rfl ?_
  refine g_icmp_ge dX5_has_9 rfl rfl ?_ ?_
  · refine g_iconst dX5_has_12 rfl kic_1 ?_
    refine g_goto dX5_has_13 rfl ?_
    exact g_zret dX5_has_17 rfl rfl rfl
  refine g_iconst dX5_has_16 rfl kic_0 ?_
  exact g_zret dX5_has_17 rfl rfl rfl
def poo_many (X : St) : Int32 :=
  ((X.1 1 1))
def poo_many_o (X : St) : Option Int32 :=
  (some (X.1 1 1))
theorem poo_many_e (X : St) : poo_many_o X = some (poo_many X) := rfl
theorem poo_many_c (q : Th) (X : St) : Ct q nX5_many 0 (fir X) [.ref (q.ad 1)] X (some (poo_many X)) := by
  refine ct_of (by decide +kernel) (Nat.le_of_ble_eq_true rfl) ?_
  rw [← poo_many_e]
  unfold poo_many_o
  show G q _ _ 0 [(0, .ref (q.ad 1))] [] X _
  refine g_aload_n 0 dX5_many_0 rfl rfl ?_
  refine g_getI 1 1 rfl dX5_many_1 rfl kkX5 flX5_27 (by decide) rfl rfl (by decide) rfl ?_
  exact g_iret dX5_many_4 rfl rfl
def poo_allows (v0 : Int32) (v1 : Int32) (X : St) : Option (Int32) :=
  (if v0 < 0 then
  (some (0 : Int32))
  else
  (if v0 < (9 : Int32) then
  (if inB v0 9 then
  (if v1 < (LEASTf (nx v0)) then
  (some (0 : Int32))
  else
  (if inB v0 9 then
  (if (MOSTf (nx v0)) < v1 then
  (some (0 : Int32))
  else
  (some (1 : Int32))) else none)) else none)
  else
  (some (0 : Int32))))
theorem poo_allows_c (q : Th) (v0 : Int32) (v1 : Int32) (X : St) : Ct q nX5_allows 0 (fir X) [.int v0, .int v1] X (poo_allows v0 v1 X) := by
  refine ct_of (by decide +kernel) (Nat.le_of_ble_eq_true rfl) ?_
  unfold poo_allows
  show G q _ _ 0 [(0, .int v0), (1, .int v1)] [] X _
  refine g_iload_n 0 dX5_allows_0 rfl rfl ?_
  refine g_if_lt dX5_allows_1 rfl rfl ?_ ?_
  · refine g_iconst dX5_allows_32 rfl kic_0 ?_
    exact g_zret dX5_allows_33 rfl rfl rfl
  refine g_iload_n 0 dX5_allows_4 rfl rfl ?_
  refine g_bipush dX5_allows_5 rfl kbi_9 ?_
  refine g_icmp_ge dX5_allows_7 rfl rfl ?_ ?_
  · refine g_iload_n 1 dX5_allows_10 rfl rfl ?_
    refine g_gets0 rfl dX5_allows_11 rfl stX5_16 ?_
    refine g_iload_n 0 dX5_allows_14 rfl rfl ?_
    refine g_sald0 dX5_allows_15 rfl ?_
    refine g_icmp_lt dX5_allows_16 rfl rfl ?_ ?_
    · refine g_iconst dX5_allows_32 rfl kic_0 ?_
      exact g_zret dX5_allows_33 rfl rfl rfl
    refine g_iload_n 1 dX5_allows_19 rfl rfl ?_
    refine g_gets1 rfl dX5_allows_20 rfl stX5_20 ?_
    refine g_iload_n 0 dX5_allows_23 rfl rfl ?_
    refine g_sald1 dX5_allows_24 rfl ?_
    refine g_icmp_gt dX5_allows_25 rfl rfl ?_ ?_
    · refine g_iconst dX5_allows_32 rfl kic_0 ?_
      exact g_zret dX5_allows_33 rfl rfl rfl
    refine g_iconst dX5_allows_28 rfl kic_1 ?_
    refine g_goto dX5_allows_29 rfl ?_
    exact g_zret dX5_allows_33 rfl rfl rfl
  refine g_iconst dX5_allows_32 rfl kic_0 ?_
  exact g_zret dX5_allows_33 rfl rfl rfl
def poo_isSwimmer (v0 : Int32) (v1 : Int32) (v2 : Int32) (v3 : Int32) (X : St) : Option (Int32) :=
  ((poo_allows (0 : Int32) v0 X).bind fun c1 =>
  (if c1 = 0 then
  (some (0 : Int32))
  else
  ((poo_allows (1 : Int32) v1 X).bind fun c2 =>
  (if c2 = 0 then
  (some (0 : Int32))
  else
  ((poo_allows (2 : Int32) v2 X).bind fun c3 =>
  (if c3 = 0 then
  (some (0 : Int32))
  else
  ((poo_allows (4 : Int32) v3 X).bind fun c4 =>
  (if c4 = 0 then
  (some (0 : Int32))
  else
  (some (1 : Int32))))))))))
theorem poo_isSwimmer_c (q : Th) (v0 : Int32) (v1 : Int32) (v2 : Int32) (v3 : Int32) (X : St) : Ct q nX5_isSwimmer 1 (fir X) [.int v0, .int v1, .int v2, .int v3] X (poo_isSwimmer v0 v1 v2 v3 X) := by
  refine ct_of (by decide +kernel) (Nat.le_of_ble_eq_true rfl) ?_
  unfold poo_isSwimmer
  show G q _ _ 0 [(0, .int v0), (1, .int v1), (2, .int v2), (3, .int v3)] [] X _
  refine g_iconst dX5_isSwimmer_0 rfl kic_0 ?_
  refine g_iload_n 0 dX5_isSwimmer_1 rfl rfl ?_
  refine g_cSIr (As := [.int (0 : Int32), .int v0]) (st := []) 2 mF_wg rfl dX5_isSwimmer_2 rfl vX5_allows lkX5_23 (rmL rfl rfl) (poo_allows_c q (0 : Int32) v0 X) rfl rfl (Nat.le_of_ble_eq_true rfl) (fun c1 => ?_)
  refine g_if_eq dX5_isSwimmer_5 rfl rfl ?_ ?_
  · refine g_iconst dX5_isSwimmer_36 rfl kic_0 ?_
    exact g_zret dX5_isSwimmer_37 rfl rfl rfl
  refine g_iconst dX5_isSwimmer_8 rfl kic_1 ?_
  refine g_iload_n 1 dX5_isSwimmer_9 rfl rfl ?_
  refine g_cSIr (As := [.int (1 : Int32), .int v1]) (st := []) 2 mF_wg rfl dX5_isSwimmer_10 rfl vX5_allows lkX5_23 (rmL rfl rfl) (poo_allows_c q (1 : Int32) v1 X) rfl rfl (Nat.le_of_ble_eq_true rfl) (fun c2 => ?_)
  refine g_if_eq dX5_isSwimmer_13 rfl rfl ?_ ?_
  · refine g_iconst dX5_isSwimmer_36 rfl kic_0 ?_
    exact g_zret dX5_isSwimmer_37 rfl rfl rfl
  refine g_iconst dX5_isSwimmer_16 rfl kic_2 ?_
  refine g_iload_n 2 dX5_isSwimmer_17 rfl rfl ?_
  refine g_cSIr (As := [.int (2 : Int32), .int v2]) (st := []) 2 mF_wg rfl dX5_isSwimmer_18 rfl vX5_allows lkX5_23 (rmL rfl rfl) (poo_allows_c q (2 : Int32) v2 X) rfl rfl (Nat.le_of_ble_eq_true rfl) (fun c3 => ?_)
  refine g_if_eq dX5_isSwimmer_21 rfl rfl ?_ ?_
  · refine g_iconst dX5_isSwimmer_36 rfl kic_0 ?_
    exact g_zret dX5_isSwimmer_37 rfl rfl rfl
  refine g_iconst dX5_isSwimmer_24 rfl kic_4 ?_
  refine g_iload_n 3 dX5_isSwimmer_25 rfl rfl ?_
  refine g_cSIr (As := [.int (4 : Int32), .int v3]) (st := []) 2 mF_wg rfl dX5_isSwimmer_26 rfl vX5_allows lkX5_23 (rmL rfl rfl) (poo_allows_c q (4 : Int32) v3 X) rfl rfl (Nat.le_of_ble_eq_true rfl) (fun c4 => ?_)
  refine g_if_eq dX5_isSwimmer_29 rfl rfl ?_ ?_
  · refine g_iconst dX5_isSwimmer_36 rfl kic_0 ?_
    exact g_zret dX5_isSwimmer_37 rfl rfl rfl
  refine g_iconst dX5_isSwimmer_32 rfl kic_1 ?_
  refine g_goto dX5_isSwimmer_33 rfl ?_
  exact g_zret dX5_isSwimmer_37 rfl rfl rfl
def poo_isFull (X : St) : Int32 :=
  (if (X.1 1 1) < (8 : Int32) then
  ((0 : Int32))
  else
  ((1 : Int32)))
def poo_isFull_o (X : St) : Option Int32 :=
  (if (X.1 1 1) < (8 : Int32) then
  (some (0 : Int32))
  else
  (some (1 : Int32)))
theorem poo_isFull_e (X : St) : poo_isFull_o X = some (poo_isFull X) := by
  unfold poo_isFull_o poo_isFull
  simp only [apply_ite some]
theorem z_poo_isFull (X : St) : isZ (poo_isFull X) = true := by
  unfold poo_isFull
  (repeat' split) <;> first | rfl
theorem poo_isFull_c (q : Th) (X : St) : Ct q nX5_isFull 0 (fir X) [.ref (q.ad 1)] X (some (poo_isFull X)) := by
  refine ct_of (by decide +kernel) (Nat.le_of_ble_eq_true rfl) ?_
  rw [← poo_isFull_e]
  unfold poo_isFull_o
  show G q _ _ 0 [(0, .ref (q.ad 1))] [] X _
  refine g_aload_n 0 dX5_isFull_0 rfl rfl ?_
  refine g_getI 1 1 rfl dX5_isFull_1 rfl kkX5 flX5_27 (by decide) rfl rfl (by decide) rfl ?_
  refine g_bipush dX5_isFull_4 rfl kbi_8 ?_
  refine g_icmp_lt dX5_isFull_6 rfl rfl ?_ ?_
  · refine g_iconst dX5_isFull_13 rfl kic_0 ?_
    exact g_zret dX5_isFull_14 rfl rfl rfl
  refine g_iconst dX5_isFull_9 rfl kic_1 ?_
  refine g_goto dX5_isFull_10 rfl ?_
  exact g_zret dX5_isFull_14 rfl rfl rfl
def poo_join (v1 : Int32) (v2 : Int32) (v3 : Int32) (v4 : Int32) (X : St) : Option (Int32 × St) :=
  (if (poo_isFull X) = 0 then
  ((poo_tell (X.1 1 1) (0 : Int32) v1 (stI X 1 1 ((X.1 1 1) + (1 : Int32)))).bind fun X1 =>
  ((poo_tell (X.1 1 1) (1 : Int32) v2 X1).bind fun X2 =>
  ((poo_tell (X.1 1 1) (2 : Int32) v3 X2).bind fun X3 =>
  ((poo_tell (X.1 1 1) (3 : Int32) (12 : Int32) X3).bind fun X4 =>
  ((poo_tell (X.1 1 1) (4 : Int32) v4 X4).bind fun X5 =>
  (some ((X.1 1 1), X5)))))))
  else
  (some ((-3 : Int32), X)))
theorem poo_join_c (q : Th) (v1 : Int32) (v2 : Int32) (v3 : Int32) (v4 : Int32) (X : St) : Ct q nX5_join 2 fiw [.ref (q.ad 1), .int v1, .int v2, .int v3, .int v4] X (poo_join v1 v2 v3 v4 X) := by
  refine ct_of (by decide +kernel) (Nat.le_of_ble_eq_true rfl) ?_
  unfold poo_join
  show G q _ _ 0 [(0, .ref (q.ad 1)), (1, .int v1), (2, .int v2), (3, .int v3), (4, .int v4)] [] X _
  refine g_aload_n 0 dX5_join_0 rfl rfl ?_
  refine g_cVIt (As := []) (st := []) 0 mF_wg rfl dX5_join_1 rfl kkX5 (by decide) rfl vX5_isFull lkX5_34 (rmL rfl rfl) (poo_isFull_c q X) rfl rfl (Nat.le_of_ble_eq_true rfl) ?_
  refine g_if_eq dX5_join_4 rfl rfl ?_ ?_
  · refine g_aload_n 0 dX5_join_10 rfl rfl ?_
    refine g_getI 1 1 rfl dX5_join_11 rfl kkX5 flX5_27 (by decide) rfl rfl (by decide) rfl ?_
    refine g_istore (lv' := [(5, .int (X.1 1 1)), (0, .ref (q.ad 1)), (1, .int v1), (2, .int v2), (3, .int v3), (4, .int v4)]) dX5_join_14 rfl (Nat.le_of_ble_eq_true rfl) rfl ?_
    refine g_aload_n 1 dX5_join_16 rfl rfl ?_
    refine g_dup dX5_join_17 rfl rfl ?_
    refine g_getI 1 1 rfl dX5_join_18 rfl kkX5 flX5_27 (by decide) rfl rfl (by decide) rfl ?_
    refine g_iconst dX5_join_21 rfl kic_1 ?_
    refine g_iadd dX5_join_22 rfl ?_
    refine g_putI 1 1 rfl dX5_join_23 rfl kkX5 flX5_27 (by decide) rfl rfl (by decide) rfl rfl rfl ?_
    refine g_aload_n 1 dX5_join_26 rfl rfl ?_
    refine g_iload 0 dX5_join_27 rfl rfl ?_
    refine g_iconst dX5_join_29 rfl kic_0 ?_
    refine g_iload_n 2 dX5_join_30 rfl rfl ?_
    refine g_cVVw (As := [.int (X.1 1 1), .int (0 : Int32), .int v1]) (st := []) 3 mF_wg rfl dX5_join_31 rfl kkX5 (by decide) rfl vX5_tell lkX5_38 (rmL rfl rfl) (poo_tell_c q (X.1 1 1) (0 : Int32) v1 (stI X 1 1 ((X.1 1 1) + (1 : Int32)))) rfl rfl (Nat.le_of_ble_eq_true rfl) (fun X1 => ?_)
    refine g_aload_n 1 dX5_join_34 rfl rfl ?_
    refine g_iload 0 dX5_join_35 rfl rfl ?_
    refine g_iconst dX5_join_37 rfl kic_1 ?_
    refine g_iload_n 3 dX5_join_38 rfl rfl ?_
    refine g_cVVw (As := [.int (X.1 1 1), .int (1 : Int32), .int v2]) (st := []) 3 mF_wg rfl dX5_join_39 rfl kkX5 (by decide) rfl vX5_tell lkX5_38 (rmL rfl rfl) (poo_tell_c q (X.1 1 1) (1 : Int32) v2 X1) rfl rfl (Nat.le_of_ble_eq_true rfl) (fun X2 => ?_)
    refine g_aload_n 1 dX5_join_42 rfl rfl ?_
    refine g_iload 0 dX5_join_43 rfl rfl ?_
    refine g_iconst dX5_join_45 rfl kic_2 ?_
    refine g_iload_n 4 dX5_join_46 rfl rfl ?_
    refine g_cVVw (As := [.int (X.1 1 1), .int (2 : Int32), .int v3]) (st := []) 3 mF_wg rfl dX5_join_47 rfl kkX5 (by decide) rfl vX5_tell lkX5_38 (rmL rfl rfl) (poo_tell_c q (X.1 1 1) (2 : Int32) v3 X2) rfl rfl (Nat.le_of_ble_eq_true rfl) (fun X3 => ?_)
    refine g_aload_n 1 dX5_join_50 rfl rfl ?_
    refine g_iload 0 dX5_join_51 rfl rfl ?_
    refine g_iconst dX5_join_53 rfl kic_3 ?_
    refine g_bipush dX5_join_54 rfl kbi_12 ?_
    refine g_cVVw (As := [.int (X.1 1 1), .int (3 : Int32), .int (12 : Int32)]) (st := []) 3 mF_wg rfl dX5_join_56 rfl kkX5 (by decide) rfl vX5_tell lkX5_38 (rmL rfl rfl) (poo_tell_c q (X.1 1 1) (3 : Int32) (12 : Int32) X3) rfl rfl (Nat.le_of_ble_eq_true rfl) (fun X4 => ?_)
    refine g_aload_n 1 dX5_join_59 rfl rfl ?_
    refine g_iload 0 dX5_join_60 rfl rfl ?_
    refine g_iconst dX5_join_62 rfl kic_4 ?_
    refine g_iload 5 dX5_join_63 rfl rfl ?_
    refine g_cVVw (As := [.int (X.1 1 1), .int (4 : Int32), .int v4]) (st := []) 3 mF_wg rfl dX5_join_65 rfl kkX5 (by decide) rfl vX5_tell lkX5_38 (rmL rfl rfl) (poo_tell_c q (X.1 1 1) (4 : Int32) v4 X4) rfl rfl (Nat.le_of_ble_eq_true rfl) (fun X5 => ?_)
    refine g_iload 0 dX5_join_68 rfl rfl ?_
    exact g_iret dX5_join_70 rfl rfl
  refine g_bipush dX5_join_7 rfl kbi_m3 ?_
  exact g_iret dX5_join_9 rfl rfl
def poo_joinFour (r1 : Nat) (v2 : Int32) (X : St) : Option (Int32 × St) :=
  (if v2 < 0 then
  (some ((0 : Int32), X))
  else
  (if isR r1 then
  (if (v2 + (3 : Int32)) < (Int32.ofNat (oln r1)) then
  (if okJ r1 v2 then
  (if okJ r1 (v2 + (1 : Int32)) then
  ((some ((X.2 r1 (nx (v2 + (1 : Int32)))).toInt32)).bind fun t1 =>
  (if okJ r1 (v2 + (2 : Int32)) then
  ((some ((X.2 r1 (nx (v2 + (2 : Int32)))).toInt32)).bind fun t2 =>
  (if okJ r1 (v2 + (3 : Int32)) then
  ((some ((X.2 r1 (nx (v2 + (3 : Int32)))).toInt32)).bind fun t3 =>
  ((poo_isSwimmer ((X.2 r1 (nx v2)).toInt32) t1 t2 t3 X).bind fun c4 =>
  (if c4 = 0 then
  (some ((0 : Int32), X))
  else
  ((poo_join ((X.2 r1 (nx v2)).toInt32) t1 t2 t3 X).bind fun (c6, X5) =>
  (if c6 < 0 then
  (some ((0 : Int32), X5))
  else
  (some ((1 : Int32), X5))))))) else none)) else none)) else none) else none)
  else
  (some ((0 : Int32), X))) else none))
theorem poo_joinFour_c (q : Th) (r1 : Nat) (v2 : Int32) (X : St) : Ct q nX5_joinFour 3 fiw [.ref (q.ad 1), .ref (q.ad r1), .int v2] X (poo_joinFour r1 v2 X) := by
  refine ct_of (by decide +kernel) (Nat.le_of_ble_eq_true rfl) ?_
  unfold poo_joinFour
  show G q _ _ 0 [(0, .ref (q.ad 1)), (1, .ref (q.ad r1)), (2, .int v2)] [] X _
  refine g_iload_n 2 dX5_joinFour_0 rfl rfl ?_
  refine g_if_lt dX5_joinFour_1 rfl rfl ?_ ?_
  · refine g_iconst dX5_joinFour_12 rfl kic_0 ?_
    exact g_zret dX5_joinFour_13 rfl rfl rfl
  refine g_iload_n 2 dX5_joinFour_4 rfl rfl ?_
  refine g_iconst dX5_joinFour_5 rfl kic_3 ?_
  refine g_iadd dX5_joinFour_6 rfl ?_
  refine g_aload_n 1 dX5_joinFour_7 rfl rfl ?_
  refine g_alenD dX5_joinFour_8 rfl ?_
  refine g_icmp_lt dX5_joinFour_9 rfl rfl ?_ ?_
  · refine g_aload_n 1 dX5_joinFour_14 rfl rfl ?_
    refine g_iload_n 2 dX5_joinFour_15 rfl rfl ?_
    refine g_laldD dX5_joinFour_16 rfl ?_
    refine g_l2i dX5_joinFour_17 rfl ?_
    refine g_istore_n (lv' := [(3, .int ((X.2 r1 (nx v2)).toInt32)), (0, .ref (q.ad 1)), (1, .ref (q.ad r1)), (2, .int v2)]) dX5_joinFour_18 rfl rfl (Nat.le_of_ble_eq_true rfl) rfl ?_
    refine g_aload_n 2 dX5_joinFour_19 rfl rfl ?_
    refine g_iload_n 3 dX5_joinFour_20 rfl rfl ?_
    refine g_iconst dX5_joinFour_21 rfl kic_1 ?_
    refine g_iadd dX5_joinFour_22 rfl ?_
    refine g_laldD dX5_joinFour_23 rfl ?_
    refine g_l2i dX5_joinFour_24 rfl ?_
    refine g_nmI (fun t1 => ?_)
    refine g_istore (lv' := [(4, .int t1), (3, .int ((X.2 r1 (nx v2)).toInt32)), (0, .ref (q.ad 1)), (1, .ref (q.ad r1)), (2, .int v2)]) dX5_joinFour_25 rfl (Nat.le_of_ble_eq_true rfl) rfl ?_
    refine g_aload_n 3 dX5_joinFour_27 rfl rfl ?_
    refine g_iload_n 4 dX5_joinFour_28 rfl rfl ?_
    refine g_iconst dX5_joinFour_29 rfl kic_2 ?_
    refine g_iadd dX5_joinFour_30 rfl ?_
    refine g_laldD dX5_joinFour_31 rfl ?_
    refine g_l2i dX5_joinFour_32 rfl ?_
    refine g_nmI (fun t2 => ?_)
    refine g_istore (lv' := [(5, .int t2), (4, .int t1), (3, .int ((X.2 r1 (nx v2)).toInt32)), (0, .ref (q.ad 1)), (1, .ref (q.ad r1)), (2, .int v2)]) dX5_joinFour_33 rfl (Nat.le_of_ble_eq_true rfl) rfl ?_
    refine g_aload_n 4 dX5_joinFour_35 rfl rfl ?_
    refine g_iload_n 5 dX5_joinFour_36 rfl rfl ?_
    refine g_iconst dX5_joinFour_37 rfl kic_3 ?_
    refine g_iadd dX5_joinFour_38 rfl ?_
    refine g_laldD dX5_joinFour_39 rfl ?_
    refine g_l2i dX5_joinFour_40 rfl ?_
    refine g_nmI (fun t3 => ?_)
    refine g_istore (lv' := [(6, .int t3), (5, .int t2), (4, .int t1), (3, .int ((X.2 r1 (nx v2)).toInt32)), (0, .ref (q.ad 1)), (1, .ref (q.ad r1)), (2, .int v2)]) dX5_joinFour_41 rfl (Nat.le_of_ble_eq_true rfl) rfl ?_
    refine g_iload_n 3 dX5_joinFour_43 rfl rfl ?_
    refine g_iload 2 dX5_joinFour_44 rfl rfl ?_
    refine g_iload 1 dX5_joinFour_46 rfl rfl ?_
    refine g_iload 0 dX5_joinFour_48 rfl rfl ?_
    refine g_cSIr (As := [.int ((X.2 r1 (nx v2)).toInt32), .int t1, .int t2, .int t3]) (st := []) 4 mF_wg rfl dX5_joinFour_50 rfl vX5_isSwimmer lkX5_46 (rmL rfl rfl) (poo_isSwimmer_c q ((X.2 r1 (nx v2)).toInt32) t1 t2 t3 X) rfl rfl (Nat.le_of_ble_eq_true rfl) (fun c4 => ?_)
    refine g_if_eq dX5_joinFour_53 rfl rfl ?_ ?_
    · refine g_iconst dX5_joinFour_74 rfl kic_0 ?_
      exact g_zret dX5_joinFour_75 rfl rfl rfl
    refine g_aload_n 4 dX5_joinFour_56 rfl rfl ?_
    refine g_iload_n 3 dX5_joinFour_57 rfl rfl ?_
    refine g_iload 2 dX5_joinFour_58 rfl rfl ?_
    refine g_iload 1 dX5_joinFour_60 rfl rfl ?_
    refine g_iload 0 dX5_joinFour_62 rfl rfl ?_
    refine g_cVIw (As := [.int ((X.2 r1 (nx v2)).toInt32), .int t1, .int t2, .int t3]) (st := []) 4 mF_wg rfl dX5_joinFour_64 rfl kkX5 (by decide) rfl vX5_join lkX5_50 (rmL rfl rfl) (poo_join_c q ((X.2 r1 (nx v2)).toInt32) t1 t2 t3 X) rfl rfl (Nat.le_of_ble_eq_true rfl) (fun c6 X5 => ?_)
    refine g_if_lt dX5_joinFour_67 rfl rfl ?_ ?_
    · refine g_iconst dX5_joinFour_74 rfl kic_0 ?_
      exact g_zret dX5_joinFour_75 rfl rfl rfl
    refine g_iconst dX5_joinFour_70 rfl kic_1 ?_
    refine g_goto dX5_joinFour_71 rfl ?_
    exact g_zret dX5_joinFour_75 rfl rfl rfl
  refine g_iconst dX5_joinFour_12 rfl kic_0 ?_
  exact g_zret dX5_joinFour_13 rfl rfl rfl
def poo_joinFrom_L9_B (n : Nat) (rec : Nat → Int32 → Int32 → Int32 → Int32 → Int32 → St → Option (Int32 × St)) (r1 : Nat) (v2 : Int32) (v4 : Int32) (v5 : Int32) (v6 : Int32) (v7 : Int32) (X : St) : Option (Int32 × St) :=
(if v7 < v4 then
(if (poo_isFull X) = 0 then
(if (v2 - (4 : Int32)) < v6 then
(some (v5, X))
else
((poo_joinFour r1 v6 X).bind fun (c2, X1) =>
(if c2 = 0 then
(some (v5, X1))
else
(rec r1 v2 v4 (v5 + (1 : Int32)) (v6 + (4 : Int32)) (v7 + (1 : Int32)) X1))))
else
(some (v5, X)))
else
(some (v5, X)))
def poo_joinFrom_L9 (n : Nat) : Nat → Nat → Int32 → Int32 → Int32 → Int32 → Int32 → St → Option (Int32 × St)
  | 0 => fun _ _ _ _ _ _ _ => none
  | w + 1 => poo_joinFrom_L9_B n (poo_joinFrom_L9 n w)
def poo_joinFrom (n : Nat) (r1 : Nat) (v2 : Int32) (v3 : Int32) (v4 : Int32) (X : St) : Option (Int32 × St) :=
  (poo_joinFrom_L9 n n r1 v2 v4 (0 : Int32) v3 (0 : Int32) X)
theorem poo_joinFrom_L9_Bg (q : Th) (n : Nat) (rec : Nat → Int32 → Int32 → Int32 → Int32 → Int32 → St → Option (Int32 × St)) (hrec : ∀ r1 v2 v4 v5 v6 v7 X, G q (mF q nX5_joinFrom RX5 4) fiw 9 [(0, .ref (q.ad 1)), (1, .ref (q.ad r1)), (2, .int v2), (4, .int v4), (5, .int v5), (6, .int v6), (7, .int v7)] [] X (rec r1 v2 v4 v5 v6 v7 X)) (r1 : Nat) (v2 : Int32) (v4 : Int32) (v5 : Int32) (v6 : Int32) (v7 : Int32) (X : St) : G q (mF q nX5_joinFrom RX5 4) fiw 9 [(0, .ref (q.ad 1)), (1, .ref (q.ad r1)), (2, .int v2), (4, .int v4), (5, .int v5), (6, .int v6), (7, .int v7)] [] X (poo_joinFrom_L9_B n rec r1 v2 v4 v5 v6 v7 X) := by
  unfold poo_joinFrom_L9_B
  refine g_iload 6 dX5_joinFrom_9 rfl rfl ?_
  refine g_iload 3 dX5_joinFrom_11 rfl rfl ?_
  refine g_icmp_ge dX5_joinFrom_13 rfl rfl ?_ ?_
  · refine g_aload_n 0 dX5_joinFrom_16 rfl rfl ?_
    refine g_cVIt (As := []) (st := []) 0 mF_wg rfl dX5_joinFrom_17 rfl kkX5 (by decide) rfl vX5_isFull lkX5_34 (rmL rfl rfl) (poo_isFull_c q X) rfl rfl (Nat.le_of_ble_eq_true rfl) ?_
    refine g_if_ne dX5_joinFrom_20 rfl rfl ?_ ?_
    · refine g_iload 5 dX5_joinFrom_23 rfl rfl ?_
      refine g_iload_n 2 dX5_joinFrom_25 rfl rfl ?_
      refine g_iconst dX5_joinFrom_26 rfl kic_4 ?_
      refine g_isub dX5_joinFrom_27 rfl ?_
      refine g_icmp_gt dX5_joinFrom_28 rfl rfl ?_ ?_
      · refine g_iload 4 dX5_joinFrom_41 rfl rfl ?_
        exact g_iret dX5_joinFrom_43 rfl rfl
      refine g_aload_n 0 dX5_joinFrom_31 rfl rfl ?_
      refine g_aload_n 1 dX5_joinFrom_32 rfl rfl ?_
      refine g_iload 5 dX5_joinFrom_33 rfl rfl ?_
      refine g_cVIw (As := [.ref (q.ad r1), .int v6]) (st := []) 2 mF_wg rfl dX5_joinFrom_35 rfl kkX5 (by decide) rfl vX5_joinFour lkX5_42 (rmL rfl rfl) (poo_joinFour_c q r1 v6 X) rfl rfl (Nat.le_of_ble_eq_true rfl) (fun c2 X1 => ?_)
      refine g_if_ne dX5_joinFrom_38 rfl rfl ?_ ?_
      · refine g_iload 4 dX5_joinFrom_41 rfl rfl ?_
        exact g_iret dX5_joinFrom_43 rfl rfl
      refine g_inc (lv' := [(5, .int (v5 + (1 : Int32))), (0, .ref (q.ad 1)), (1, .ref (q.ad r1)), (2, .int v2), (4, .int v4), (6, .int v6), (7, .int v7)]) 4 dX5_joinFrom_44 rfl rfl kic_1 (Nat.le_of_ble_eq_true rfl) rfl ?_
      refine g_inc (lv' := [(6, .int (v6 + (4 : Int32))), (5, .int (v5 + (1 : Int32))), (0, .ref (q.ad 1)), (1, .ref (q.ad r1)), (2, .int v2), (4, .int v4), (7, .int v7)]) 5 dX5_joinFrom_47 rfl rfl kic_4 (Nat.le_of_ble_eq_true rfl) rfl ?_
      refine g_inc (lv' := [(7, .int (v7 + (1 : Int32))), (6, .int (v6 + (4 : Int32))), (5, .int (v5 + (1 : Int32))), (0, .ref (q.ad 1)), (1, .ref (q.ad r1)), (2, .int v2), (4, .int v4)]) 6 dX5_joinFrom_50 rfl rfl kic_1 (Nat.le_of_ble_eq_true rfl) rfl ?_
      refine g_goto dX5_joinFrom_53 rfl ?_
      refine g_sub [3, 4, 5, 6, 2, 1, 0] rfl ?_
      exact hrec r1 v2 v4 (v5 + (1 : Int32)) (v6 + (4 : Int32)) (v7 + (1 : Int32)) X1
    refine g_iload 4 dX5_joinFrom_56 rfl rfl ?_
    exact g_iret dX5_joinFrom_58 rfl rfl
  refine g_iload 4 dX5_joinFrom_56 rfl rfl ?_
  exact g_iret dX5_joinFrom_58 rfl rfl
theorem poo_joinFrom_L9_g (q : Th) (n : Nat) : ∀ (w : Nat) (r1 : Nat) (v2 : Int32) (v4 : Int32) (v5 : Int32) (v6 : Int32) (v7 : Int32) (X : St), G q (mF q nX5_joinFrom RX5 4) fiw 9 [(0, .ref (q.ad 1)), (1, .ref (q.ad r1)), (2, .int v2), (4, .int v4), (5, .int v5), (6, .int v6), (7, .int v7)] [] X (poo_joinFrom_L9 n w r1 v2 v4 v5 v6 v7 X) := by
  intro w
  induction w with
  | zero => intro r1 v2 v4 v5 v6 v7 X; exact g_none
  | succ w ih => intro r1 v2 v4 v5 v6 v7 X; exact poo_joinFrom_L9_Bg q n _ ih r1 v2 v4 v5 v6 v7 X
theorem poo_joinFrom_c (q : Th) (n : Nat) (r1 : Nat) (v2 : Int32) (v3 : Int32) (v4 : Int32) (X : St) : Ct q nX5_joinFrom 4 fiw [.ref (q.ad 1), .ref (q.ad r1), .int v2, .int v3, .int v4] X (poo_joinFrom n r1 v2 v3 v4 X) := by
  refine ct_of (by decide +kernel) (Nat.le_of_ble_eq_true rfl) ?_
  unfold poo_joinFrom
  show G q _ _ 0 [(0, .ref (q.ad 1)), (1, .ref (q.ad r1)), (2, .int v2), (3, .int v3), (4, .int v4)] [] X _
  refine g_iconst dX5_joinFrom_0 rfl kic_0 ?_
  refine g_istore (lv' := [(5, .int (0 : Int32)), (0, .ref (q.ad 1)), (1, .ref (q.ad r1)), (2, .int v2), (3, .int v3), (4, .int v4)]) dX5_joinFrom_1 rfl (Nat.le_of_ble_eq_true rfl) rfl ?_
  refine g_iload_n 4 dX5_joinFrom_3 rfl rfl ?_
  refine g_istore (lv' := [(6, .int v3), (5, .int (0 : Int32)), (0, .ref (q.ad 1)), (1, .ref (q.ad r1)), (2, .int v2), (3, .int v3), (4, .int v4)]) dX5_joinFrom_4 rfl (Nat.le_of_ble_eq_true rfl) rfl ?_
  refine g_iconst dX5_joinFrom_6 rfl kic_0 ?_
  refine g_istore (lv' := [(7, .int (0 : Int32)), (6, .int v3), (5, .int (0 : Int32)), (0, .ref (q.ad 1)), (1, .ref (q.ad r1)), (2, .int v2), (3, .int v3), (4, .int v4)]) dX5_joinFrom_7 rfl (Nat.le_of_ble_eq_true rfl) rfl ?_
  refine g_sub [3, 4, 5, 7, 2, 1, 0] rfl ?_
  refine poo_joinFrom_L9_g q n n r1 v2 v4 (0 : Int32) v3 (0 : Int32) X
def poo_leastBreath_L5_B (n : Nat) (X : St) (rec : Int32 → Int32 → Option (Int32)) (v1 : Int32) (v2 : Int32) : Option (Int32) :=
(if v2 < (X.1 1 1) then
(if inB v2 8 then
(rec (jmath_min v1 (X.1 6 (nx v2))) (v2 + (1 : Int32))) else none)
else
(some v1))
def poo_leastBreath_L5 (n : Nat) (X : St) : Nat → Int32 → Int32 → Option (Int32)
  | 0 => fun _ _ => none
  | w + 1 => poo_leastBreath_L5_B n X (poo_leastBreath_L5 n X w)
def poo_leastBreath (n : Nat) (X : St) : Option (Int32) :=
  (poo_leastBreath_L5 n X n (60 : Int32) (0 : Int32))
theorem poo_leastBreath_L5_Bg (q : Th) (n : Nat) (X : St) (rec : Int32 → Int32 → Option (Int32)) (hrec : ∀ v1 v2, G q (mF q nX5_leastBreath RX5 1) (fir X) 5 [(0, .ref (q.ad 1)), (1, .int v1), (2, .int v2)] [] X (rec v1 v2)) (v1 : Int32) (v2 : Int32) : G q (mF q nX5_leastBreath RX5 1) (fir X) 5 [(0, .ref (q.ad 1)), (1, .int v1), (2, .int v2)] [] X (poo_leastBreath_L5_B n X rec v1 v2) := by
  unfold poo_leastBreath_L5_B
  refine g_iload_n 2 dX5_leastBreath_5 rfl rfl ?_
  refine g_aload_n 0 dX5_leastBreath_6 rfl rfl ?_
  refine g_getI 1 1 rfl dX5_leastBreath_7 rfl kkX5 flX5_27 (by decide) rfl rfl (by decide) rfl ?_
  refine g_icmp_ge dX5_leastBreath_10 rfl rfl ?_ ?_
  · refine g_iload_n 1 dX5_leastBreath_13 rfl rfl ?_
    refine g_aload_n 0 dX5_leastBreath_14 rfl rfl ?_
    refine g_getR 1 0 2 rfl dX5_leastBreath_15 rfl kkX5 flX5_13 (by decide) rfl rfl (by decide) rfl ?_
    refine g_iconst dX5_leastBreath_18 rfl kic_3 ?_
    refine g_aald0 (w := 6) dX5_leastBreath_19 rfl (by decide) (by decide) rfl rfl (by decide +kernel) (by decide +kernel) ?_
    refine g_iload_n 2 dX5_leastBreath_20 rfl rfl ?_
    refine g_iald dX5_leastBreath_21 rfl (by decide) rfl rfl ?_
    refine g_mmin (st := []) rfl dX5_leastBreath_22 rfl lkX5_54 (rmL rfl rfl) (Nat.le_of_ble_eq_true rfl) ?_
    refine g_istore_n (lv' := [(1, .int (jmath_min v1 (X.1 6 (nx v2)))), (0, .ref (q.ad 1)), (2, .int v2)]) dX5_leastBreath_25 rfl rfl (Nat.le_of_ble_eq_true rfl) rfl ?_
    refine g_inc (lv' := [(2, .int (v2 + (1 : Int32))), (1, .int (jmath_min v1 (X.1 6 (nx v2)))), (0, .ref (q.ad 1))]) 2 dX5_leastBreath_26 rfl rfl kic_1 (Nat.le_of_ble_eq_true rfl) rfl ?_
    refine g_goto dX5_leastBreath_29 rfl ?_
    refine g_sub [2, 1, 0] rfl ?_
    exact hrec (jmath_min v1 (X.1 6 (nx v2))) (v2 + (1 : Int32))
  refine g_iload_n 1 dX5_leastBreath_32 rfl rfl ?_
  exact g_iret dX5_leastBreath_33 rfl rfl
theorem poo_leastBreath_L5_g (q : Th) (n : Nat) (X : St) : ∀ (w : Nat) (v1 : Int32) (v2 : Int32), G q (mF q nX5_leastBreath RX5 1) (fir X) 5 [(0, .ref (q.ad 1)), (1, .int v1), (2, .int v2)] [] X (poo_leastBreath_L5 n X w v1 v2) := by
  intro w
  induction w with
  | zero => intro v1 v2; exact g_none
  | succ w ih => intro v1 v2; exact poo_leastBreath_L5_Bg q n X _ ih v1 v2
theorem poo_leastBreath_c (q : Th) (n : Nat) (X : St) : Ct q nX5_leastBreath 1 (fir X) [.ref (q.ad 1)] X (poo_leastBreath n X) := by
  refine ct_of (by decide +kernel) (Nat.le_of_ble_eq_true rfl) ?_
  unfold poo_leastBreath
  show G q _ _ 0 [(0, .ref (q.ad 1))] [] X _
  refine g_bipush dX5_leastBreath_0 rfl kbi_60 ?_
  refine g_istore_n (lv' := [(1, .int (60 : Int32)), (0, .ref (q.ad 1))]) dX5_leastBreath_2 rfl rfl (Nat.le_of_ble_eq_true rfl) rfl ?_
  refine g_iconst dX5_leastBreath_3 rfl kic_0 ?_
  refine g_istore_n (lv' := [(2, .int (0 : Int32)), (1, .int (60 : Int32)), (0, .ref (q.ad 1))]) dX5_leastBreath_4 rfl rfl (Nat.le_of_ble_eq_true rfl) rfl ?_
  refine g_sub [2, 1, 0] rfl ?_
  refine poo_leastBreath_L5_g q n X n (60 : Int32) (0 : Int32)
