/-! 14.she: what the methods come to, and that they do -/
def she_isShelf (v0 : Int32) : Int32 :=
  (if v0 < 0 then
  ((0 : Int32))
  else
  (if v0 < (6 : Int32) then
  ((1 : Int32))
  else
  ((0 : Int32))))
def she_isShelf_o (v0 : Int32) : Option Int32 :=
  (if v0 < 0 then
  (some (0 : Int32))
  else
  (if v0 < (6 : Int32) then
  (some (1 : Int32))
  else
  (some (0 : Int32))))
theorem she_isShelf_e (v0 : Int32) : she_isShelf_o v0 = some (she_isShelf v0) := by
  unfold she_isShelf_o she_isShelf
  simp only [apply_ite some]
theorem z_she_isShelf (v0 : Int32) : isZ (she_isShelf v0) = true := by
  unfold she_isShelf
  (repeat' split) <;> first | rfl
theorem she_isShelf_c (q : Th) (v0 : Int32) (X : St) : Ct q nX7_isShelf 0 (fir X) [.int v0] X (some (she_isShelf v0)) := by
  refine ct_of (by decide +kernel) (Nat.le_of_ble_eq_true rfl) ?_
  rw [← she_isShelf_e]
  unfold she_isShelf_o
  show G q _ _ 0 [(0, .int v0)] [] X _
  refine g_iload_n 0 dX7_isShelf_0 rfl rfl ?_
  refine g_if_lt dX7_isShelf_1 rfl rfl ?_ ?_
  · refine g_iconst dX7_isShelf_14 rfl kic_0 ?_
    exact g_zret dX7_isShelf_15 rfl rfl rfl
  refine g_iload_n 0 dX7_isShelf_4 rfl rfl ?_
  refine g_bipush dX7_isShelf_5 rfl kbi_6 ?_
  refine g_icmp_ge dX7_isShelf_7 rfl rfl ?_ ?_
  · refine g_iconst dX7_isShelf_10 rfl kic_1 ?_
    refine g_goto dX7_isShelf_11 rfl ?_
    exact g_zret dX7_isShelf_15 rfl rfl rfl
  refine g_iconst dX7_isShelf_14 rfl kic_0 ?_
  exact g_zret dX7_isShelf_15 rfl rfl rfl
def she_isSort (v0 : Int32) : Int32 :=
  (if v0 < 0 then
  ((0 : Int32))
  else
  (if (4 : Int32) < v0 then
  ((0 : Int32))
  else
  ((1 : Int32))))
def she_isSort_o (v0 : Int32) : Option Int32 :=
  (if v0 < 0 then
  (some (0 : Int32))
  else
  (if (4 : Int32) < v0 then
  (some (0 : Int32))
  else
  (some (1 : Int32))))
theorem she_isSort_e (v0 : Int32) : she_isSort_o v0 = some (she_isSort v0) := by
  unfold she_isSort_o she_isSort
  simp only [apply_ite some]
theorem z_she_isSort (v0 : Int32) : isZ (she_isSort v0) = true := by
  unfold she_isSort
  (repeat' split) <;> first | rfl
theorem she_isSort_c (q : Th) (v0 : Int32) (X : St) : Ct q nX7_isSort 0 (fir X) [.int v0] X (some (she_isSort v0)) := by
  refine ct_of (by decide +kernel) (Nat.le_of_ble_eq_true rfl) ?_
  rw [← she_isSort_e]
  unfold she_isSort_o
  show G q _ _ 0 [(0, .int v0)] [] X _
  refine g_iload_n 0 dX7_isSort_0 rfl rfl ?_
  refine g_if_lt dX7_isSort_1 rfl rfl ?_ ?_
  · refine g_iconst dX7_isSort_13 rfl kic_0 ?_
    exact g_zret dX7_isSort_14 rfl rfl rfl
  refine g_iload_n 0 dX7_isSort_4 rfl rfl ?_
  refine g_iconst dX7_isSort_5 rfl kic_4 ?_
  refine g_icmp_gt dX7_isSort_6 rfl rfl ?_ ?_
  · refine g_iconst dX7_isSort_13 rfl kic_0 ?_
    exact g_zret dX7_isSort_14 rfl rfl rfl
  refine g_iconst dX7_isSort_9 rfl kic_1 ?_
  refine g_goto dX7_isSort_10 rfl ?_
  exact g_zret dX7_isSort_14 rfl rfl rfl
def she_isEmpty (v1 : Int32) (X : St) : Option (Int32) :=
  (if (she_isShelf v1) = 0 then
  (some (1 : Int32))
  else
  (if inB v1 6 then
  (if (X.1 92 (nx v1)) = (-1 : Int32) then
  (some (1 : Int32))
  else
  (some (0 : Int32))) else none))
theorem she_isEmpty_c (q : Th) (v1 : Int32) (X : St) : Ct q nX7_isEmpty 1 (fir X) [.ref (q.ad 91), .int v1] X (she_isEmpty v1 X) := by
  refine ct_of (by decide +kernel) (Nat.le_of_ble_eq_true rfl) ?_
  unfold she_isEmpty
  show G q _ _ 0 [(0, .ref (q.ad 91)), (1, .int v1)] [] X _
  refine g_iload_n 1 dX7_isEmpty_0 rfl rfl ?_
  refine g_cSIt (As := [.int v1]) (st := []) 1 mF_wg rfl dX7_isEmpty_1 rfl vX7_isShelf lkX7_26 (rmL rfl rfl) (she_isShelf_c q v1 X) rfl rfl (Nat.le_of_ble_eq_true rfl) ?_
  refine g_if_eq dX7_isEmpty_4 rfl rfl ?_ ?_
  · refine g_iconst dX7_isEmpty_17 rfl kic_1 ?_
    refine g_goto dX7_isEmpty_18 rfl ?_
    exact g_zret dX7_isEmpty_22 rfl rfl rfl
  refine g_aload_n 0 dX7_isEmpty_7 rfl rfl ?_
  refine g_getR 91 0 92 rfl dX7_isEmpty_8 rfl kkX7 flX7_11 (by decide) rfl rfl (by decide) rfl ?_
  refine g_iload_n 1 dX7_isEmpty_11 rfl rfl ?_
  refine g_iald dX7_isEmpty_12 rfl (by decide) rfl rfl ?_
  refine g_iconst dX7_isEmpty_13 rfl kic_m1 ?_
  refine g_icmp_ne dX7_isEmpty_14 rfl rfl ?_ ?_
  · refine g_iconst dX7_isEmpty_17 rfl kic_1 ?_
    refine g_goto dX7_isEmpty_18 rfl ?_
    exact g_zret dX7_isEmpty_22 rfl rfl rfl
  refine g_iconst dX7_isEmpty_21 rfl kic_0 ?_
  exact g_zret dX7_isEmpty_22 rfl rfl rfl
def she_refusal (v1 : Int32) (v2 : Int32) (X : St) : Option (Int32) :=
  ((she_isEmpty v1 X).bind fun c1 =>
  (if c1 = 0 then
  (if inB v1 6 then
  (if (X.1 92 (nx v1)) = v2 then
  (some (0 : Int32))
  else
  (some (-12 : Int32))) else none)
  else
  (some (-11 : Int32))))
theorem she_refusal_c (q : Th) (v1 : Int32) (v2 : Int32) (X : St) : Ct q nX7_refusal 2 (fir X) [.ref (q.ad 91), .int v1, .int v2] X (she_refusal v1 v2 X) := by
  refine ct_of (by decide +kernel) (Nat.le_of_ble_eq_true rfl) ?_
  unfold she_refusal
  show G q _ _ 0 [(0, .ref (q.ad 91)), (1, .int v1), (2, .int v2)] [] X _
  refine g_aload_n 0 dX7_refusal_0 rfl rfl ?_
  refine g_iload_n 1 dX7_refusal_1 rfl rfl ?_
  refine g_cVIr (As := [.int v1]) (st := []) 1 mF_wg rfl dX7_refusal_2 rfl kkX7 (by decide) rfl vX7_isEmpty lkX7_30 (rmL rfl rfl) (she_isEmpty_c q v1 X) rfl rfl (Nat.le_of_ble_eq_true rfl) (fun c1 => ?_)
  refine g_if_eq dX7_refusal_5 rfl rfl ?_ ?_
  · refine g_aload_n 0 dX7_refusal_11 rfl rfl ?_
    refine g_getR 91 0 92 rfl dX7_refusal_12 rfl kkX7 flX7_11 (by decide) rfl rfl (by decide) rfl ?_
    refine g_iload_n 1 dX7_refusal_15 rfl rfl ?_
    refine g_iald dX7_refusal_16 rfl (by decide) rfl rfl ?_
    refine g_iload_n 2 dX7_refusal_17 rfl rfl ?_
    refine g_icmp_ne dX7_refusal_18 rfl rfl ?_ ?_
    · refine g_iconst dX7_refusal_21 rfl kic_0 ?_
      refine g_goto dX7_refusal_22 rfl ?_
      exact g_iret dX7_refusal_27 rfl rfl
    refine g_bipush dX7_refusal_25 rfl kbi_m12 ?_
    exact g_iret dX7_refusal_27 rfl rfl
  refine g_bipush dX7_refusal_8 rfl kbi_m11 ?_
  exact g_iret dX7_refusal_10 rfl rfl
def she_rowRefusal (v1 : Int32) (X : St) : Option (Int32) :=
  ((she_isEmpty v1 X).bind fun c1 =>
  (if c1 = 0 then
  (if inB v1 6 then
  (if (she_isSort (X.1 92 (nx v1))) = 0 then
  (some (-12 : Int32))
  else
  (some (0 : Int32))) else none)
  else
  (some (-11 : Int32))))
theorem she_rowRefusal_c (q : Th) (v1 : Int32) (X : St) : Ct q nX7_rowRefusal 2 (fir X) [.ref (q.ad 91), .int v1] X (she_rowRefusal v1 X) := by
  refine ct_of (by decide +kernel) (Nat.le_of_ble_eq_true rfl) ?_
  unfold she_rowRefusal
  show G q _ _ 0 [(0, .ref (q.ad 91)), (1, .int v1)] [] X _
  refine g_aload_n 0 dX7_rowRefusal_0 rfl rfl ?_
  refine g_iload_n 1 dX7_rowRefusal_1 rfl rfl ?_
  refine g_cVIr (As := [.int v1]) (st := []) 1 mF_wg rfl dX7_rowRefusal_2 rfl kkX7 (by decide) rfl vX7_isEmpty lkX7_30 (rmL rfl rfl) (she_isEmpty_c q v1 X) rfl rfl (Nat.le_of_ble_eq_true rfl) (fun c1 => ?_)
  refine g_if_eq dX7_rowRefusal_5 rfl rfl ?_ ?_
  · refine g_aload_n 0 dX7_rowRefusal_11 rfl rfl ?_
    refine g_getR 91 0 92 rfl dX7_rowRefusal_12 rfl kkX7 flX7_11 (by decide) rfl rfl (by decide) rfl ?_
    refine g_iload_n 1 dX7_rowRefusal_15 rfl rfl ?_
    refine g_iald dX7_rowRefusal_16 rfl (by decide) rfl rfl ?_
    refine g_cSIt (As := [.int (X.1 92 (nx v1))]) (st := []) 1 mF_wg rfl dX7_rowRefusal_17 rfl vX7_isSort lkX7_33 (rmL rfl rfl) (she_isSort_c q (X.1 92 (nx v1)) X) rfl rfl (Nat.le_of_ble_eq_true rfl) ?_
    refine g_if_eq dX7_rowRefusal_20 rfl rfl ?_ ?_
    · refine g_bipush dX7_rowRefusal_27 rfl kbi_m12 ?_
      exact g_iret dX7_rowRefusal_29 rfl rfl
    refine g_iconst dX7_rowRefusal_23 rfl kic_0 ?_
    refine g_goto dX7_rowRefusal_24 rfl ?_
    exact g_iret dX7_rowRefusal_29 rfl rfl
  refine g_bipush dX7_rowRefusal_8 rfl kbi_m11 ?_
  exact g_iret dX7_rowRefusal_10 rfl rfl
def she_pairRefusal (v1 : Int32) (v2 : Int32) (X : St) : Option (Int32) :=
  ((she_isEmpty v1 X).bind fun c1 =>
  (if c1 = 0 then
  ((she_isEmpty v2 X).bind fun c2 =>
  (if c2 = 0 then
  (if inB v1 6 then
  (if (she_isSort (X.1 92 (nx v1))) = 0 then
  (some (-12 : Int32))
  else
  (if inB v1 6 then
  (if inB v2 6 then
  (if (X.1 92 (nx v1)) = (X.1 92 (nx v2)) then
  (some (0 : Int32))
  else
  (some (-12 : Int32))) else none) else none)) else none)
  else
  (some (-11 : Int32))))
  else
  (some (-11 : Int32))))
theorem she_pairRefusal_c (q : Th) (v1 : Int32) (v2 : Int32) (X : St) : Ct q nX7_pairRefusal 2 (fir X) [.ref (q.ad 91), .int v1, .int v2] X (she_pairRefusal v1 v2 X) := by
  refine ct_of (by decide +kernel) (Nat.le_of_ble_eq_true rfl) ?_
  unfold she_pairRefusal
  show G q _ _ 0 [(0, .ref (q.ad 91)), (1, .int v1), (2, .int v2)] [] X _
  refine g_aload_n 0 dX7_pairRefusal_0 rfl rfl ?_
  refine g_iload_n 1 dX7_pairRefusal_1 rfl rfl ?_
  refine g_cVIr (As := [.int v1]) (st := []) 1 mF_wg rfl dX7_pairRefusal_2 rfl kkX7 (by decide) rfl vX7_isEmpty lkX7_30 (rmL rfl rfl) (she_isEmpty_c q v1 X) rfl rfl (Nat.le_of_ble_eq_true rfl) (fun c1 => ?_)
  refine g_if_ne dX7_pairRefusal_5 rfl rfl ?_ ?_
  · refine g_aload_n 0 dX7_pairRefusal_8 rfl rfl ?_
    refine g_iload_n 2 dX7_pairRefusal_9 rfl rfl ?_
    refine g_cVIr (As := [.int v2]) (st := []) 1 mF_wg rfl dX7_pairRefusal_10 rfl kkX7 (by decide) rfl vX7_isEmpty lkX7_30 (rmL rfl rfl) (she_isEmpty_c q v2 X) rfl rfl (Nat.le_of_ble_eq_true rfl) (fun c2 => ?_)
    refine g_if_eq dX7_pairRefusal_13 rfl rfl ?_ ?_
    · refine g_aload_n 0 dX7_pairRefusal_19 rfl rfl ?_
      refine g_getR 91 0 92 rfl dX7_pairRefusal_20 rfl kkX7 flX7_11 (by decide) rfl rfl (by decide) rfl ?_
      refine g_iload_n 1 dX7_pairRefusal_23 rfl rfl ?_
      refine g_iald dX7_pairRefusal_24 rfl (by decide) rfl rfl ?_
      refine g_cSIt (As := [.int (X.1 92 (nx v1))]) (st := []) 1 mF_wg rfl dX7_pairRefusal_25 rfl vX7_isSort lkX7_33 (rmL rfl rfl) (she_isSort_c q (X.1 92 (nx v1)) X) rfl rfl (Nat.le_of_ble_eq_true rfl) ?_
      refine g_if_eq dX7_pairRefusal_28 rfl rfl ?_ ?_
      · refine g_bipush dX7_pairRefusal_50 rfl kbi_m12 ?_
        exact g_iret dX7_pairRefusal_52 rfl rfl
      refine g_aload_n 0 dX7_pairRefusal_31 rfl rfl ?_
      refine g_getR 91 0 92 rfl dX7_pairRefusal_32 rfl kkX7 flX7_11 (by decide) rfl rfl (by decide) rfl ?_
      refine g_iload_n 1 dX7_pairRefusal_35 rfl rfl ?_
      refine g_iald dX7_pairRefusal_36 rfl (by decide) rfl rfl ?_
      refine g_aload_n 0 dX7_pairRefusal_37 rfl rfl ?_
      refine g_getR 91 0 92 rfl dX7_pairRefusal_38 rfl kkX7 flX7_11 (by decide) rfl rfl (by decide) rfl ?_
      refine g_iload_n 2 dX7_pairRefusal_41 rfl rfl ?_
      refine g_iald dX7_pairRefusal_42 rfl (by decide) rfl rfl ?_
      refine g_icmp_ne dX7_pairRefusal_43 rfl rfl ?_ ?_
      · refine g_iconst dX7_pairRefusal_46 rfl kic_0 ?_
        refine g_goto dX7_pairRefusal_47 rfl ?_
        exact g_iret dX7_pairRefusal_52 rfl rfl
      refine g_bipush dX7_pairRefusal_50 rfl kbi_m12 ?_
      exact g_iret dX7_pairRefusal_52 rfl rfl
    refine g_bipush dX7_pairRefusal_16 rfl kbi_m11 ?_
    exact g_iret dX7_pairRefusal_18 rfl rfl
  refine g_bipush dX7_pairRefusal_16 rfl kbi_m11 ?_
  exact g_iret dX7_pairRefusal_18 rfl rfl
def she_hold_J21 (v1 : Int32) (v2 : Int32) (s0 : Int32) (s1 : Int32) (X : St) : Option (St) :=
(if inB s1 6 then
(if inB v1 6 then
(if inB v1 6 then
((some (stI (stI (stI X 92 (nx s1) s0) 93 (nx v1) v2) 94 (nx v1) (0 : Int32))).bind fun X1 =>
(some X1)) else none) else none) else none)
def she_hold (v1 : Int32) (v2 : Int32) (X : St) : Option (St) :=
  (if (she_isShelf v1) = 0 then
  (some X)
  else
  (if v2 < 0 then
  (she_hold_J21 v1 v2 (-1 : Int32) v1 X)
  else
  (she_hold_J21 v1 v2 (5 : Int32) v1 X)))
theorem she_hold_J21_g (q : Th) (v1 : Int32) (v2 : Int32) (s0 : Int32) (s1 : Int32) (X : St) : G q (mF q nX7_hold RX7 1) fvw 21 [(0, .ref (q.ad 91)), (1, .int v1), (2, .int v2)] [.int s0, .int s1, .ref (q.ad 92)] X (she_hold_J21 v1 v2 s0 s1 X) := by
  unfold she_hold_J21
  refine g_iast dX7_hold_21 rfl (by decide) rfl rfl ?_
  refine g_aload_n 0 dX7_hold_22 rfl rfl ?_
  refine g_getR 91 1 93 rfl dX7_hold_23 rfl kkX7 flX7_15 (by decide) rfl rfl (by decide) rfl ?_
  refine g_iload_n 1 dX7_hold_26 rfl rfl ?_
  refine g_iload_n 2 dX7_hold_27 rfl rfl ?_
  refine g_iast dX7_hold_28 rfl (by decide) rfl rfl ?_
  refine g_aload_n 0 dX7_hold_29 rfl rfl ?_
  refine g_getR 91 2 94 rfl dX7_hold_30 rfl kkX7 flX7_18 (by decide) rfl rfl (by decide) rfl ?_
  refine g_iload_n 1 dX7_hold_33 rfl rfl ?_
  refine g_iconst dX7_hold_34 rfl kic_0 ?_
  refine g_iast dX7_hold_35 rfl (by decide) rfl rfl ?_
  refine g_nmX (fun X1 => ?_)
  exact g_vret dX7_hold_36 rfl rfl
theorem she_hold_c (q : Th) (v1 : Int32) (v2 : Int32) (X : St) : Ct q nX7_hold 1 fvw [.ref (q.ad 91), .int v1, .int v2] X (she_hold v1 v2 X) := by
  refine ct_of (by decide +kernel) (Nat.le_of_ble_eq_true rfl) ?_
  unfold she_hold
  show G q _ _ 0 [(0, .ref (q.ad 91)), (1, .int v1), (2, .int v2)] [] X _
  refine g_iload_n 1 dX7_hold_0 rfl rfl ?_
  refine g_cSIt (As := [.int v1]) (st := []) 1 mF_wg rfl dX7_hold_1 rfl vX7_isShelf lkX7_26 (rmL rfl rfl) (she_isShelf_c q v1 X) rfl rfl (Nat.le_of_ble_eq_true rfl) ?_
  refine g_if_eq dX7_hold_4 rfl rfl ?_ ?_
  · exact g_vret dX7_hold_36 rfl rfl
  refine g_aload_n 0 dX7_hold_7 rfl rfl ?_
  refine g_getR 91 0 92 rfl dX7_hold_8 rfl kkX7 flX7_11 (by decide) rfl rfl (by decide) rfl ?_
  refine g_iload_n 1 dX7_hold_11 rfl rfl ?_
  refine g_iload_n 2 dX7_hold_12 rfl rfl ?_
  refine g_if_ge dX7_hold_13 rfl rfl ?_ ?_
  · refine g_iconst dX7_hold_16 rfl kic_m1 ?_
    refine g_goto dX7_hold_17 rfl ?_
    refine g_sub [0, 1, 2] rfl ?_
    exact she_hold_J21_g q v1 v2 (-1 : Int32) v1 X
  refine g_iconst dX7_hold_20 rfl kic_5 ?_
  refine g_sub [0, 1, 2] rfl ?_
  exact she_hold_J21_g q v1 v2 (5 : Int32) v1 X
def she_lay_L24_B (n : Nat) (rec : Int32 → Int32 → St → Option (St)) (v1 : Int32) (v4 : Int32) (X : St) : Option (St) :=
(if v4 < (60 : Int32) then
(if inB v1 6 then
(if okJ (96 + nx v1) v4 then
(rec v1 (v4 + (1 : Int32)) (stL X (96 + nx v1) (nx v4) (0 : Int64))) else none) else none)
else
(some X))
def she_lay_L24 (n : Nat) : Nat → Int32 → Int32 → St → Option (St)
  | 0 => fun _ _ _ => none
  | w + 1 => she_lay_L24_B n (she_lay_L24 n w)
def she_lay (n : Nat) (v1 : Int32) (v2 : Int32) (v3 : Int32) (X : St) : Option (St) :=
  (if (she_isShelf v1) = 0 then
  (some X)
  else
  (if inB v1 6 then
  (if inB v1 6 then
  (she_lay_L24 n n v1 (0 : Int32) (stI (stI X 92 (nx v1) v2) 94 (nx v1) v3)) else none) else none))
theorem she_lay_L24_Bg (q : Th) (n : Nat) (rec : Int32 → Int32 → St → Option (St)) (hrec : ∀ v1 v4 X, G q (mF q nX7_lay RX7 1) fvw 24 [(0, .ref (q.ad 91)), (1, .int v1), (4, .int v4)] [] X (rec v1 v4 X)) (v1 : Int32) (v4 : Int32) (X : St) : G q (mF q nX7_lay RX7 1) fvw 24 [(0, .ref (q.ad 91)), (1, .int v1), (4, .int v4)] [] X (she_lay_L24_B n rec v1 v4 X) := by
  unfold she_lay_L24_B
  refine g_iload 2 dX7_lay_24 rfl rfl ?_
  refine g_bipush dX7_lay_26 rfl kbi_60 ?_
  refine g_icmp_ge dX7_lay_28 rfl rfl ?_ ?_
  · refine g_aload_n 0 dX7_lay_31 rfl rfl ?_
    refine g_getR 91 3 95 rfl dX7_lay_32 rfl kkX7 flX7_23 (by decide) rfl rfl (by decide) rfl ?_
    refine g_iload_n 1 dX7_lay_35 rfl rfl ?_
    refine g_aald dX7_lay_36 rfl (by decide) (by decide) rfl rfl ?_
    refine g_iload 2 dX7_lay_37 rfl rfl ?_
    refine g_lconst dX7_lay_39 rfl k_l0 ?_
    refine g_lastD dX7_lay_40 rfl ?_
    refine g_inc (lv' := [(4, .int (v4 + (1 : Int32))), (0, .ref (q.ad 91)), (1, .int v1)]) 2 dX7_lay_41 rfl rfl kic_1 (Nat.le_of_ble_eq_true rfl) rfl ?_
    refine g_goto dX7_lay_44 rfl ?_
    refine g_sub [1, 2, 0] rfl ?_
    exact hrec v1 (v4 + (1 : Int32)) (stL X (96 + nx v1) (nx v4) (0 : Int64))
  exact g_vret dX7_lay_47 rfl rfl
theorem she_lay_L24_g (q : Th) (n : Nat) : ∀ (w : Nat) (v1 : Int32) (v4 : Int32) (X : St), G q (mF q nX7_lay RX7 1) fvw 24 [(0, .ref (q.ad 91)), (1, .int v1), (4, .int v4)] [] X (she_lay_L24 n w v1 v4 X) := by
  intro w
  induction w with
  | zero => intro v1 v4 X; exact g_none
  | succ w ih => intro v1 v4 X; exact she_lay_L24_Bg q n _ ih v1 v4 X
theorem she_lay_c (q : Th) (n : Nat) (v1 : Int32) (v2 : Int32) (v3 : Int32) (X : St) : Ct q nX7_lay 1 fvw [.ref (q.ad 91), .int v1, .int v2, .int v3] X (she_lay n v1 v2 v3 X) := by
  refine ct_of (by decide +kernel) (Nat.le_of_ble_eq_true rfl) ?_
  unfold she_lay
  show G q _ _ 0 [(0, .ref (q.ad 91)), (1, .int v1), (2, .int v2), (3, .int v3)] [] X _
  refine g_iload_n 1 dX7_lay_0 rfl rfl ?_
  refine g_cSIt (As := [.int v1]) (st := []) 1 mF_wg rfl dX7_lay_1 rfl vX7_isShelf lkX7_26 (rmL rfl rfl) (she_isShelf_c q v1 X) rfl rfl (Nat.le_of_ble_eq_true rfl) ?_
  refine g_if_eq dX7_lay_4 rfl rfl ?_ ?_
  · exact g_vret dX7_lay_47 rfl rfl
  refine g_aload_n 0 dX7_lay_7 rfl rfl ?_
  refine g_getR 91 0 92 rfl dX7_lay_8 rfl kkX7 flX7_11 (by decide) rfl rfl (by decide) rfl ?_
  refine g_iload_n 1 dX7_lay_11 rfl rfl ?_
  refine g_iload_n 2 dX7_lay_12 rfl rfl ?_
  refine g_iast dX7_lay_13 rfl (by decide) rfl rfl ?_
  refine g_aload_n 0 dX7_lay_14 rfl rfl ?_
  refine g_getR 91 2 94 rfl dX7_lay_15 rfl kkX7 flX7_18 (by decide) rfl rfl (by decide) rfl ?_
  refine g_iload_n 1 dX7_lay_18 rfl rfl ?_
  refine g_iload_n 3 dX7_lay_19 rfl rfl ?_
  refine g_iast dX7_lay_20 rfl (by decide) rfl rfl ?_
  refine g_iconst dX7_lay_21 rfl kic_0 ?_
  refine g_istore (lv' := [(4, .int (0 : Int32)), (0, .ref (q.ad 91)), (1, .int v1), (2, .int v2), (3, .int v3)]) dX7_lay_22 rfl (Nat.le_of_ble_eq_true rfl) rfl ?_
  refine g_sub [1, 2, 0] rfl ?_
  refine she_lay_L24_g q n n v1 (0 : Int32) (stI (stI X 92 (nx v1) v2) 94 (nx v1) v3)
def she_held (v1 : Int32) (X : St) : Option (Int32) :=
  (if (she_isShelf v1) = 0 then
  (some (-1 : Int32))
  else
  (if inB v1 6 then
  (if (X.1 92 (nx v1)) = (5 : Int32) then
  (if inB v1 6 then
  (some (X.1 93 (nx v1))) else none)
  else
  (some (-1 : Int32))) else none))
theorem she_held_c (q : Th) (v1 : Int32) (X : St) : Ct q nX7_held 1 (fir X) [.ref (q.ad 91), .int v1] X (she_held v1 X) := by
  refine ct_of (by decide +kernel) (Nat.le_of_ble_eq_true rfl) ?_
  unfold she_held
  show G q _ _ 0 [(0, .ref (q.ad 91)), (1, .int v1)] [] X _
  refine g_iload_n 1 dX7_held_0 rfl rfl ?_
  refine g_cSIt (As := [.int v1]) (st := []) 1 mF_wg rfl dX7_held_1 rfl vX7_isShelf lkX7_26 (rmL rfl rfl) (she_isShelf_c q v1 X) rfl rfl (Nat.le_of_ble_eq_true rfl) ?_
  refine g_if_eq dX7_held_4 rfl rfl ?_ ?_
  · refine g_iconst dX7_held_26 rfl kic_m1 ?_
    exact g_iret dX7_held_27 rfl rfl
  refine g_aload_n 0 dX7_held_7 rfl rfl ?_
  refine g_getR 91 0 92 rfl dX7_held_8 rfl kkX7 flX7_11 (by decide) rfl rfl (by decide) rfl ?_
  refine g_iload_n 1 dX7_held_11 rfl rfl ?_
  refine g_iald dX7_held_12 rfl (by decide) rfl rfl ?_
  refine g_iconst dX7_held_13 rfl kic_5 ?_
  refine g_icmp_ne dX7_held_14 rfl rfl ?_ ?_
  · refine g_aload_n 0 dX7_held_17 rfl rfl ?_
    refine g_getR 91 1 93 rfl dX7_held_18 rfl kkX7 flX7_15 (by decide) rfl rfl (by decide) rfl ?_
    refine g_iload_n 1 dX7_held_21 rfl rfl ?_
    refine g_iald dX7_held_22 rfl (by decide) rfl rfl ?_
    refine g_goto dX7_held_23 rfl ?_
    exact g_iret dX7_held_27 rfl rfl
  refine g_iconst dX7_held_26 rfl kic_m1 ?_
  exact g_iret dX7_held_27 rfl rfl
def she_elements (v1 : Int32) (X : St) : Option (Nat) :=
  (if (she_isShelf v1) = 0 then
  (some 96)
  else
  (if inB v1 6 then
  (some (96 + nx v1)) else none))
theorem she_elements_c (q : Th) (v1 : Int32) (X : St) : Ct q nX7_elements 1 (frr q X) [.ref (q.ad 91), .int v1] X (she_elements v1 X) := by
  refine ct_of (by decide +kernel) (Nat.le_of_ble_eq_true rfl) ?_
  unfold she_elements
  show G q _ _ 0 [(0, .ref (q.ad 91)), (1, .int v1)] [] X _
  refine g_aload_n 0 dX7_elements_0 rfl rfl ?_
  refine g_getR 91 3 95 rfl dX7_elements_1 rfl kkX7 flX7_23 (by decide) rfl rfl (by decide) rfl ?_
  refine g_iload_n 1 dX7_elements_4 rfl rfl ?_
  refine g_cSIt (As := [.int v1]) (st := [.ref (q.ad 95)]) 1 mF_wg rfl dX7_elements_5 rfl vX7_isShelf lkX7_26 (rmL rfl rfl) (she_isShelf_c q v1 X) rfl rfl (Nat.le_of_ble_eq_true rfl) ?_
  refine g_if_eq dX7_elements_8 rfl rfl ?_ ?_
  · refine g_iconst dX7_elements_15 rfl kic_0 ?_
    refine g_aald0 (w := 96) dX7_elements_16 rfl (by decide) (by decide) rfl rfl (by decide +kernel) (by decide +kernel) ?_
    exact g_aret dX7_elements_17 rfl rfl
  refine g_iload_n 1 dX7_elements_11 rfl rfl ?_
  refine g_goto dX7_elements_12 rfl ?_
  refine g_aald dX7_elements_16 rfl (by decide) (by decide) rfl rfl ?_
  exact g_aret dX7_elements_17 rfl rfl
def she_size (v1 : Int32) (X : St) : Option (Int32) :=
  (if (she_isShelf v1) = 0 then
  (some (0 : Int32))
  else
  (if inB v1 6 then
  (some (X.1 94 (nx v1))) else none))
theorem she_size_c (q : Th) (v1 : Int32) (X : St) : Ct q nX7_size 1 (fir X) [.ref (q.ad 91), .int v1] X (she_size v1 X) := by
  refine ct_of (by decide +kernel) (Nat.le_of_ble_eq_true rfl) ?_
  unfold she_size
  show G q _ _ 0 [(0, .ref (q.ad 91)), (1, .int v1)] [] X _
  refine g_iload_n 1 dX7_size_0 rfl rfl ?_
  refine g_cSIt (As := [.int v1]) (st := []) 1 mF_wg rfl dX7_size_1 rfl vX7_isShelf lkX7_26 (rmL rfl rfl) (she_isShelf_c q v1 X) rfl rfl (Nat.le_of_ble_eq_true rfl) ?_
  refine g_if_eq dX7_size_4 rfl rfl ?_ ?_
  · refine g_iconst dX7_size_16 rfl kic_0 ?_
    exact g_iret dX7_size_17 rfl rfl
  refine g_aload_n 0 dX7_size_7 rfl rfl ?_
  refine g_getR 91 2 94 rfl dX7_size_8 rfl kkX7 flX7_18 (by decide) rfl rfl (by decide) rfl ?_
  refine g_iload_n 1 dX7_size_11 rfl rfl ?_
  refine g_iald dX7_size_12 rfl (by decide) rfl rfl ?_
  refine g_goto dX7_size_13 rfl ?_
  exact g_iret dX7_size_17 rfl rfl
def she_isPlace (v1 : Int32) (v2 : Int32) (X : St) : Option (Int32) :=
  (if (she_isShelf v1) = 0 then
  (some (0 : Int32))
  else
  (if v2 < 0 then
  (some (0 : Int32))
  else
  (if inB v1 6 then
  (if v2 < (X.1 94 (nx v1)) then
  (if v2 < (60 : Int32) then
  (some (1 : Int32))
  else
  (some (0 : Int32)))
  else
  (some (0 : Int32))) else none)))
theorem she_isPlace_c (q : Th) (v1 : Int32) (v2 : Int32) (X : St) : Ct q nX7_isPlace 1 (fir X) [.ref (q.ad 91), .int v1, .int v2] X (she_isPlace v1 v2 X) := by
  refine ct_of (by decide +kernel) (Nat.le_of_ble_eq_true rfl) ?_
  unfold she_isPlace
  show G q _ _ 0 [(0, .ref (q.ad 91)), (1, .int v1), (2, .int v2)] [] X _
  refine g_iload_n 1 dX7_isPlace_0 rfl rfl ?_
  refine g_cSIt (As := [.int v1]) (st := []) 1 mF_wg rfl dX7_isPlace_1 rfl vX7_isShelf lkX7_26 (rmL rfl rfl) (she_isShelf_c q v1 X) rfl rfl (Nat.le_of_ble_eq_true rfl) ?_
  refine g_if_eq dX7_isPlace_4 rfl rfl ?_ ?_
  · refine g_iconst dX7_isPlace_31 rfl kic_0 ?_
    exact g_zret dX7_isPlace_32 rfl rfl rfl
  refine g_iload_n 2 dX7_isPlace_7 rfl rfl ?_
  refine g_if_lt dX7_isPlace_8 rfl rfl ?_ ?_
  · refine g_iconst dX7_isPlace_31 rfl kic_0 ?_
    exact g_zret dX7_isPlace_32 rfl rfl rfl
  refine g_iload_n 2 dX7_isPlace_11 rfl rfl ?_
  refine g_aload_n 0 dX7_isPlace_12 rfl rfl ?_
  refine g_getR 91 2 94 rfl dX7_isPlace_13 rfl kkX7 flX7_18 (by decide) rfl rfl (by decide) rfl ?_
  refine g_iload_n 1 dX7_isPlace_16 rfl rfl ?_
  refine g_iald dX7_isPlace_17 rfl (by decide) rfl rfl ?_
  refine g_icmp_ge dX7_isPlace_18 rfl rfl ?_ ?_
  · refine g_iload_n 2 dX7_isPlace_21 rfl rfl ?_
    refine g_bipush dX7_isPlace_22 rfl kbi_60 ?_
    refine g_icmp_ge dX7_isPlace_24 rfl rfl ?_ ?_
    · refine g_iconst dX7_isPlace_27 rfl kic_1 ?_
      refine g_goto dX7_isPlace_28 rfl ?_
      exact g_zret dX7_isPlace_32 rfl rfl rfl
    refine g_iconst dX7_isPlace_31 rfl kic_0 ?_
    exact g_zret dX7_isPlace_32 rfl rfl rfl
  refine g_iconst dX7_isPlace_31 rfl kic_0 ?_
  exact g_zret dX7_isPlace_32 rfl rfl rfl
def she_cut (v0 : Int32) (w1 : Int64) : Int64 :=
  (if v0 = (0 : Int32) then
  ((((w1.toInt32).toInt8.toInt32).toInt64))
  else
  (if v0 = (1 : Int32) then
  ((((w1.toInt32).toInt16.toInt32).toInt64))
  else
  (if v0 = (2 : Int32) then
  (((w1.toInt32).toInt64))
  else
  (if v0 = (3 : Int32) then
  (w1)
  else
  (if (lg_cmp w1 (0 : Int64)) = 0 then
  ((0 : Int64))
  else
  ((1 : Int64)))))))
def she_cut_o (v0 : Int32) (w1 : Int64) : Option Int64 :=
  (if v0 = (0 : Int32) then
  (some (((w1.toInt32).toInt8.toInt32).toInt64))
  else
  (if v0 = (1 : Int32) then
  (some (((w1.toInt32).toInt16.toInt32).toInt64))
  else
  (if v0 = (2 : Int32) then
  (some ((w1.toInt32).toInt64))
  else
  (if v0 = (3 : Int32) then
  (some w1)
  else
  (if (lg_cmp w1 (0 : Int64)) = 0 then
  (some (0 : Int64))
  else
  (some (1 : Int64)))))))
theorem she_cut_e (v0 : Int32) (w1 : Int64) : she_cut_o v0 w1 = some (she_cut v0 w1) := by
  unfold she_cut_o she_cut
  simp only [apply_ite some]
theorem she_cut_c (q : Th) (v0 : Int32) (w1 : Int64) (X : St) : Ct q nX7_cut 0 (flr X) [.int v0, .long w1] X (some (she_cut v0 w1)) := by
  refine ct_of (by decide +kernel) (Nat.le_of_ble_eq_true rfl) ?_
  rw [← she_cut_e]
  unfold she_cut_o
  show G q _ _ 0 [(0, .int v0), (1, .long w1)] [] X _
  refine g_iload_n 0 dX7_cut_0 rfl rfl ?_
  refine g_case (z := (0 : Int32)) (fun hc => ?_) (fun hc0 => ?_)
  · refine g_tableIn hc dX7_cut_1 (by decide) (by decide) rfl rfl ?_
    refine g_lload_n 1 dX7_cut_32 rfl rfl ?_
    refine g_l2i dX7_cut_33 rfl ?_
    refine g_i2b dX7_cut_34 rfl ?_
    refine g_i2l dX7_cut_35 rfl ?_
    exact g_lret dX7_cut_36 rfl rfl
  refine g_case (z := (1 : Int32)) (fun hc => ?_) (fun hc1 => ?_)
  · refine g_tableIn hc dX7_cut_1 (by decide) (by decide) rfl rfl ?_
    refine g_lload_n 1 dX7_cut_37 rfl rfl ?_
    refine g_l2i dX7_cut_38 rfl ?_
    refine g_i2s dX7_cut_39 rfl ?_
    refine g_i2l dX7_cut_40 rfl ?_
    exact g_lret dX7_cut_41 rfl rfl
  refine g_case (z := (2 : Int32)) (fun hc => ?_) (fun hc2 => ?_)
  · refine g_tableIn hc dX7_cut_1 (by decide) (by decide) rfl rfl ?_
    refine g_lload_n 1 dX7_cut_42 rfl rfl ?_
    refine g_l2i dX7_cut_43 rfl ?_
    refine g_i2l dX7_cut_44 rfl ?_
    exact g_lret dX7_cut_45 rfl rfl
  refine g_case (z := (3 : Int32)) (fun hc => ?_) (fun hc3 => ?_)
  · refine g_tableIn hc dX7_cut_1 (by decide) (by decide) rfl rfl ?_
    refine g_lload_n 1 dX7_cut_46 rfl rfl ?_
    exact g_lret dX7_cut_47 rfl rfl
  refine g_tableOut dX7_cut_1 (by have e0 := lv_neT (a := 0) hc0 (by decide); have e1 := lv_neT (a := 1) hc1 (by decide); have e2 := lv_neT (a := 2) hc2 (by decide); have e3 := lv_neT (a := 3) hc3 (by decide); omega) rfl ?_
  refine g_lload_n 1 dX7_cut_48 rfl rfl ?_
  refine g_lconst dX7_cut_49 rfl k_l0 ?_
  refine g_lcmp dX7_cut_50 rfl ?_
  refine g_if_eq dX7_cut_51 rfl rfl ?_ ?_
  · refine g_lconst dX7_cut_58 rfl k_l0 ?_
    exact g_lret dX7_cut_59 rfl rfl
  refine g_lconst dX7_cut_54 rfl k_l1 ?_
  refine g_goto dX7_cut_55 rfl ?_
  exact g_lret dX7_cut_59 rfl rfl
def she_set (v1 : Int32) (v2 : Int32) (w3 : Int64) (X : St) : Option (Int32 × St) :=
  ((she_isPlace v1 v2 X).bind fun c1 =>
  (if c1 = 0 then
  (some ((0 : Int32), X))
  else
  (if inB v1 6 then
  (if inB v1 6 then
  (if okJ (96 + nx v1) v2 then
  (some ((1 : Int32), (stL X (96 + nx v1) (nx v2) (she_cut (X.1 92 (nx v1)) w3)))) else none) else none) else none)))
theorem she_set_c (q : Th) (v1 : Int32) (v2 : Int32) (w3 : Int64) (X : St) : Ct q nX7_set 2 fiw [.ref (q.ad 91), .int v1, .int v2, .long w3] X (she_set v1 v2 w3 X) := by
  refine ct_of (by decide +kernel) (Nat.le_of_ble_eq_true rfl) ?_
  unfold she_set
  show G q _ _ 0 [(0, .ref (q.ad 91)), (1, .int v1), (2, .int v2), (3, .long w3)] [] X _
  refine g_aload_n 0 dX7_set_0 rfl rfl ?_
  refine g_iload_n 1 dX7_set_1 rfl rfl ?_
  refine g_iload_n 2 dX7_set_2 rfl rfl ?_
  refine g_cVIr (As := [.int v1, .int v2]) (st := []) 2 mF_wg rfl dX7_set_3 rfl kkX7 (by decide) rfl vX7_isPlace lkX7_36 (rmL rfl rfl) (she_isPlace_c q v1 v2 X) rfl rfl (Nat.le_of_ble_eq_true rfl) (fun c1 => ?_)
  refine g_if_ne dX7_set_6 rfl rfl ?_ ?_
  · refine g_iconst dX7_set_9 rfl kic_0 ?_
    exact g_zret dX7_set_10 rfl rfl rfl
  refine g_aload_n 0 dX7_set_11 rfl rfl ?_
  refine g_getR 91 3 95 rfl dX7_set_12 rfl kkX7 flX7_23 (by decide) rfl rfl (by decide) rfl ?_
  refine g_iload_n 1 dX7_set_15 rfl rfl ?_
  refine g_aald dX7_set_16 rfl (by decide) (by decide) rfl rfl ?_
  refine g_iload_n 2 dX7_set_17 rfl rfl ?_
  refine g_aload_n 0 dX7_set_18 rfl rfl ?_
  refine g_getR 91 0 92 rfl dX7_set_19 rfl kkX7 flX7_11 (by decide) rfl rfl (by decide) rfl ?_
  refine g_iload_n 1 dX7_set_22 rfl rfl ?_
  refine g_iald dX7_set_23 rfl (by decide) rfl rfl ?_
  refine g_lload_n 3 dX7_set_24 rfl rfl ?_
  refine g_cSLt (As := [.int (X.1 92 (nx v1)), .long w3]) (st := [.int v2, .ref (q.ad (96 + nx v1))]) 2 mF_wg rfl dX7_set_25 rfl vX7_cut lkX7_40 (rmL rfl rfl) (she_cut_c q (X.1 92 (nx v1)) w3 X) rfl rfl (Nat.le_of_ble_eq_true rfl) ?_
  refine g_lastD dX7_set_28 rfl ?_
  refine g_iconst dX7_set_29 rfl kic_1 ?_
  exact g_zret dX7_set_30 rfl rfl rfl
def she_elementAt (v1 : Int32) (v2 : Int32) (X : St) : Option (Int64) :=
  ((she_isPlace v1 v2 X).bind fun c1 =>
  (if c1 = 0 then
  (some (-9223372036854775808 : Int64))
  else
  (if inB v1 6 then
  (if okJ (96 + nx v1) v2 then
  (some (X.2 (96 + nx v1) (nx v2))) else none) else none)))
theorem she_elementAt_c (q : Th) (v1 : Int32) (v2 : Int32) (X : St) : Ct q nX7_elementAt 2 (flr X) [.ref (q.ad 91), .int v1, .int v2] X (she_elementAt v1 v2 X) := by
  refine ct_of (by decide +kernel) (Nat.le_of_ble_eq_true rfl) ?_
  unfold she_elementAt
  show G q _ _ 0 [(0, .ref (q.ad 91)), (1, .int v1), (2, .int v2)] [] X _
  refine g_aload_n 0 dX7_elementAt_0 rfl rfl ?_
  refine g_iload_n 1 dX7_elementAt_1 rfl rfl ?_
  refine g_iload_n 2 dX7_elementAt_2 rfl rfl ?_
  refine g_cVIr (As := [.int v1, .int v2]) (st := []) 2 mF_wg rfl dX7_elementAt_3 rfl kkX7 (by decide) rfl vX7_isPlace lkX7_36 (rmL rfl rfl) (she_isPlace_c q v1 v2 X) rfl rfl (Nat.le_of_ble_eq_true rfl) (fun c1 => ?_)
  refine g_if_eq dX7_elementAt_6 rfl rfl ?_ ?_
  · refine g_ldc2 rfl dX7_elementAt_20 rfl klX7_44 ?_
    exact g_lret dX7_elementAt_23 rfl rfl
  refine g_aload_n 0 dX7_elementAt_9 rfl rfl ?_
  refine g_getR 91 3 95 rfl dX7_elementAt_10 rfl kkX7 flX7_23 (by decide) rfl rfl (by decide) rfl ?_
  refine g_iload_n 1 dX7_elementAt_13 rfl rfl ?_
  refine g_aald dX7_elementAt_14 rfl (by decide) (by decide) rfl rfl ?_
  refine g_iload_n 2 dX7_elementAt_15 rfl rfl ?_
  refine g_laldD dX7_elementAt_16 rfl ?_
  refine g_goto dX7_elementAt_17 rfl ?_
  exact g_lret dX7_elementAt_23 rfl rfl
def she_isStretch (v1 : Int32) (v2 : Int32) (v3 : Int32) (X : St) : Option (Int32) :=
  (if (she_isShelf v1) = 0 then
  (some (0 : Int32))
  else
  (if v2 < 0 then
  (some (0 : Int32))
  else
  (if v3 < 0 then
  (some (0 : Int32))
  else
  (if inB v1 6 then
  (if ((X.1 94 (nx v1)) - v3) < v2 then
  (some (0 : Int32))
  else
  (some (1 : Int32))) else none))))
theorem she_isStretch_c (q : Th) (v1 : Int32) (v2 : Int32) (v3 : Int32) (X : St) : Ct q nX7_isStretch 1 (fir X) [.ref (q.ad 91), .int v1, .int v2, .int v3] X (she_isStretch v1 v2 v3 X) := by
  refine ct_of (by decide +kernel) (Nat.le_of_ble_eq_true rfl) ?_
  unfold she_isStretch
  show G q _ _ 0 [(0, .ref (q.ad 91)), (1, .int v1), (2, .int v2), (3, .int v3)] [] X _
  refine g_iload_n 1 dX7_isStretch_0 rfl rfl ?_
  refine g_cSIt (As := [.int v1]) (st := []) 1 mF_wg rfl dX7_isStretch_1 rfl vX7_isShelf lkX7_26 (rmL rfl rfl) (she_isShelf_c q v1 X) rfl rfl (Nat.le_of_ble_eq_true rfl) ?_
  refine g_if_eq dX7_isStretch_4 rfl rfl ?_ ?_
  · refine g_iconst dX7_isStretch_31 rfl kic_0 ?_
    exact g_zret dX7_isStretch_32 rfl rfl rfl
  refine g_iload_n 2 dX7_isStretch_7 rfl rfl ?_
  refine g_if_lt dX7_isStretch_8 rfl rfl ?_ ?_
  · refine g_iconst dX7_isStretch_31 rfl kic_0 ?_
    exact g_zret dX7_isStretch_32 rfl rfl rfl
  refine g_iload_n 3 dX7_isStretch_11 rfl rfl ?_
  refine g_if_lt dX7_isStretch_12 rfl rfl ?_ ?_
  · refine g_iconst dX7_isStretch_31 rfl kic_0 ?_
    exact g_zret dX7_isStretch_32 rfl rfl rfl
  refine g_iload_n 2 dX7_isStretch_15 rfl rfl ?_
  refine g_aload_n 0 dX7_isStretch_16 rfl rfl ?_
  refine g_getR 91 2 94 rfl dX7_isStretch_17 rfl kkX7 flX7_18 (by decide) rfl rfl (by decide) rfl ?_
  refine g_iload_n 1 dX7_isStretch_20 rfl rfl ?_
  refine g_iald dX7_isStretch_21 rfl (by decide) rfl rfl ?_
  refine g_iload_n 3 dX7_isStretch_22 rfl rfl ?_
  refine g_isub dX7_isStretch_23 rfl ?_
  refine g_icmp_gt dX7_isStretch_24 rfl rfl ?_ ?_
  · refine g_iconst dX7_isStretch_31 rfl kic_0 ?_
    exact g_zret dX7_isStretch_32 rfl rfl rfl
  refine g_iconst dX7_isStretch_27 rfl kic_1 ?_
  refine g_goto dX7_isStretch_28 rfl ?_
  exact g_zret dX7_isStretch_32 rfl rfl rfl
def she_move (v1 : Int32) (v2 : Int32) (v3 : Int32) (v4 : Int32) (v5 : Int32) (X : St) : Option (Int32 × St) :=
  ((she_isStretch v1 v2 v5 X).bind fun c1 =>
  (if c1 = 0 then
  (some ((0 : Int32), X))
  else
  ((she_isStretch v3 v4 v5 X).bind fun c2 =>
  (if c2 = 0 then
  (some ((0 : Int32), X))
  else
  (if inB v1 6 then
  (if inB v3 6 then
  (if cpOkL v2 v4 v5 (96 + nx v1) (96 + nx v3) then
  (some ((1 : Int32), (cpL X (96 + nx v1) (nx v2) (96 + nx v3) (nx v4) (nx v5)))) else none) else none) else none)))))
theorem she_move_c (q : Th) (v1 : Int32) (v2 : Int32) (v3 : Int32) (v4 : Int32) (v5 : Int32) (X : St) : Ct q nX7_move 2 fiw [.ref (q.ad 91), .int v1, .int v2, .int v3, .int v4, .int v5] X (she_move v1 v2 v3 v4 v5 X) := by
  refine ct_of (by decide +kernel) (Nat.le_of_ble_eq_true rfl) ?_
  unfold she_move
  show G q _ _ 0 [(0, .ref (q.ad 91)), (1, .int v1), (2, .int v2), (3, .int v3), (4, .int v4), (5, .int v5)] [] X _
  refine g_aload_n 0 dX7_move_0 rfl rfl ?_
  refine g_iload_n 1 dX7_move_1 rfl rfl ?_
  refine g_iload_n 2 dX7_move_2 rfl rfl ?_
  refine g_iload 5 dX7_move_3 rfl rfl ?_
  refine g_cVIr (As := [.int v1, .int v2, .int v5]) (st := []) 3 mF_wg rfl dX7_move_5 rfl kkX7 (by decide) rfl vX7_isStretch lkX7_46 (rmL rfl rfl) (she_isStretch_c q v1 v2 v5 X) rfl rfl (Nat.le_of_ble_eq_true rfl) (fun c1 => ?_)
  refine g_if_eq dX7_move_8 rfl rfl ?_ ?_
  · refine g_iconst dX7_move_23 rfl kic_0 ?_
    exact g_zret dX7_move_24 rfl rfl rfl
  refine g_aload_n 0 dX7_move_11 rfl rfl ?_
  refine g_iload_n 3 dX7_move_12 rfl rfl ?_
  refine g_iload 4 dX7_move_13 rfl rfl ?_
  refine g_iload 5 dX7_move_15 rfl rfl ?_
  refine g_cVIr (As := [.int v3, .int v4, .int v5]) (st := []) 3 mF_wg rfl dX7_move_17 rfl kkX7 (by decide) rfl vX7_isStretch lkX7_46 (rmL rfl rfl) (she_isStretch_c q v3 v4 v5 X) rfl rfl (Nat.le_of_ble_eq_true rfl) (fun c2 => ?_)
  refine g_if_ne dX7_move_20 rfl rfl ?_ ?_
  · refine g_iconst dX7_move_23 rfl kic_0 ?_
    exact g_zret dX7_move_24 rfl rfl rfl
  refine g_aload_n 0 dX7_move_25 rfl rfl ?_
  refine g_getR 91 3 95 rfl dX7_move_26 rfl kkX7 flX7_23 (by decide) rfl rfl (by decide) rfl ?_
  refine g_iload_n 1 dX7_move_29 rfl rfl ?_
  refine g_aald dX7_move_30 rfl (by decide) (by decide) rfl rfl ?_
  refine g_iload_n 2 dX7_move_31 rfl rfl ?_
  refine g_aload_n 0 dX7_move_32 rfl rfl ?_
  refine g_getR 91 3 95 rfl dX7_move_33 rfl kkX7 flX7_23 (by decide) rfl rfl (by decide) rfl ?_
  refine g_iload_n 3 dX7_move_36 rfl rfl ?_
  refine g_aald dX7_move_37 rfl (by decide) (by decide) rfl rfl ?_
  refine g_iload 4 dX7_move_38 rfl rfl ?_
  refine g_iload 5 dX7_move_40 rfl rfl ?_
  refine g_copyLD (st := []) rfl dX7_move_42 rfl lkX7_50 (Nat.le_of_ble_eq_true rfl) (Nat.le_of_ble_eq_true rfl) ?_
  refine g_iconst dX7_move_45 rfl kic_1 ?_
  exact g_zret dX7_move_46 rfl rfl rfl
