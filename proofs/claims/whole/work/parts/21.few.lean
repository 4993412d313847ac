/-! 21.few: what the methods come to, and that they do -/
def few_afterBreathing (v1 : Int32) (v2 : Int32) (X : St) : Int32 :=
  (if (X.1 57 5) < (rou_underThen (v1 / (10 : Int32)) (rou_aboveThen (irm v1 (10 : Int32)) v2 (X.1 57 6)) v2 (X.1 57 6)) then
  ((-1 : Int32))
  else
  ((((rou_underThen (v1 / (10 : Int32)) (rou_aboveThen (irm v1 (10 : Int32)) v2 (X.1 57 6)) v2 (X.1 57 6)) * (10 : Int32)) + (rou_aboveThen (irm v1 (10 : Int32)) v2 (X.1 57 6)))))
def few_afterBreathing_o (v1 : Int32) (v2 : Int32) (X : St) : Option Int32 :=
  (if (X.1 57 5) < (rou_underThen (v1 / (10 : Int32)) (rou_aboveThen (irm v1 (10 : Int32)) v2 (X.1 57 6)) v2 (X.1 57 6)) then
  (some (-1 : Int32))
  else
  (some (((rou_underThen (v1 / (10 : Int32)) (rou_aboveThen (irm v1 (10 : Int32)) v2 (X.1 57 6)) v2 (X.1 57 6)) * (10 : Int32)) + (rou_aboveThen (irm v1 (10 : Int32)) v2 (X.1 57 6)))))
theorem few_afterBreathing_e (v1 : Int32) (v2 : Int32) (X : St) : few_afterBreathing_o v1 v2 X = some (few_afterBreathing v1 v2 X) := by
  unfold few_afterBreathing_o few_afterBreathing
  simp only [apply_ite some]
theorem few_afterBreathing_c (q : Th) (v1 : Int32) (v2 : Int32) (X : St) : Ct q nX2_afterBreathing 2 (fir X) [.ref (q.ad 57), .int v1, .int v2] X (some (few_afterBreathing v1 v2 X)) := by
  refine ct_of (by decide +kernel) (Nat.le_of_ble_eq_true rfl) ?_
  rw [← few_afterBreathing_e]
  unfold few_afterBreathing_o
  show G q _ _ 0 [(0, .ref (q.ad 57)), (1, .int v1), (2, .int v2)] [] X _
  refine g_iload_n 1 dX2_afterBreathing_0 rfl rfl ?_
  refine g_bipush dX2_afterBreathing_1 rfl kbi_10 ?_
  refine g_iremC dX2_afterBreathing_3 rfl (by decide) ?_
  refine g_iload_n 2 dX2_afterBreathing_4 rfl rfl ?_
  refine g_aload_n 0 dX2_afterBreathing_5 rfl rfl ?_
  refine g_getI 57 6 rfl dX2_afterBreathing_6 rfl kkX2 flX2_32 (by decide) rfl rfl (by decide) rfl ?_
  refine g_cSIt (As := [.int (irm v1 (10 : Int32)), .int v2, .int (X.1 57 6)]) (st := []) 3 mF_wg rfl dX2_afterBreathing_9 rfl vX6_aboveThen lkX2_87 (rmL rfl rfl) (rou_aboveThen_c q (irm v1 (10 : Int32)) v2 (X.1 57 6) X) rfl rfl (Nat.le_of_ble_eq_true rfl) ?_
  refine g_istore_n (lv' := [(3, .int (rou_aboveThen (irm v1 (10 : Int32)) v2 (X.1 57 6))), (0, .ref (q.ad 57)), (1, .int v1), (2, .int v2)]) dX2_afterBreathing_12 rfl rfl (Nat.le_of_ble_eq_true rfl) rfl ?_
  refine g_iload_n 2 dX2_afterBreathing_13 rfl rfl ?_
  refine g_bipush dX2_afterBreathing_14 rfl kbi_10 ?_
  refine g_idivC dX2_afterBreathing_16 rfl (by decide) ?_
  refine g_iload_n 0 dX2_afterBreathing_17 rfl rfl ?_
  refine g_iload_n 3 dX2_afterBreathing_18 rfl rfl ?_
  refine g_aload_n 1 dX2_afterBreathing_19 rfl rfl ?_
  refine g_getI 57 6 rfl dX2_afterBreathing_20 rfl kkX2 flX2_32 (by decide) rfl rfl (by decide) rfl ?_
  refine g_cSIt (As := [.int (v1 / (10 : Int32)), .int (rou_aboveThen (irm v1 (10 : Int32)) v2 (X.1 57 6)), .int v2, .int (X.1 57 6)]) (st := []) 4 mF_wg rfl dX2_afterBreathing_23 rfl vX6_underThen lkX2_91 (rmL rfl rfl) (rou_underThen_c q (v1 / (10 : Int32)) (rou_aboveThen (irm v1 (10 : Int32)) v2 (X.1 57 6)) v2 (X.1 57 6) X) rfl rfl (Nat.le_of_ble_eq_true rfl) ?_
  refine g_istore (lv' := [(4, .int (rou_underThen (v1 / (10 : Int32)) (rou_aboveThen (irm v1 (10 : Int32)) v2 (X.1 57 6)) v2 (X.1 57 6))), (3, .int (rou_aboveThen (irm v1 (10 : Int32)) v2 (X.1 57 6))), (0, .ref (q.ad 57)), (1, .int v1), (2, .int v2)]) dX2_afterBreathing_26 rfl (Nat.le_of_ble_eq_true rfl) rfl ?_
  refine g_iload 0 dX2_afterBreathing_28 rfl rfl ?_
  refine g_aload_n 2 dX2_afterBreathing_30 rfl rfl ?_
  refine g_getI 57 5 rfl dX2_afterBreathing_31 rfl kkX2 flX2_28 (by decide) rfl rfl (by decide) rfl ?_
  refine g_icmp_le dX2_afterBreathing_34 rfl rfl ?_ ?_
  · refine g_iconst dX2_afterBreathing_37 rfl kic_m1 ?_
    refine g_goto dX2_afterBreathing_38 rfl ?_
    exact g_iret dX2_afterBreathing_48 rfl rfl
  refine g_iload 0 dX2_afterBreathing_41 rfl rfl ?_
  refine g_bipush dX2_afterBreathing_43 rfl kbi_10 ?_
  refine g_imul dX2_afterBreathing_45 rfl ?_
  refine g_iload_n 1 dX2_afterBreathing_46 rfl rfl ?_
  refine g_iadd dX2_afterBreathing_47 rfl ?_
  exact g_iret dX2_afterBreathing_48 rfl rfl
def few_afterLooking_J19 (X : St) (s0 : Int32) : Option (Int32) :=
(if s0 < 0 then
(some (-1 : Int32))
else
(if (16 : Int32) < s0 then
(some (-1 : Int32))
else
(if inB s0 17 then
(if (X.1 77 (nx s0)) = 0 then
(some s0)
else
(some (-1 : Int32))) else none)))
def few_afterLooking (v1 : Int32) (v2 : Int32) (X : St) : Option (Int32) :=
  (if v2 = (4 : Int32) then
  (if (X.1 57 4) = 0 then
  (few_afterLooking_J19 X (v1 + (1 : Int32)))
  else
  (few_afterLooking_J19 X (0 : Int32)))
  else
  (few_afterLooking_J19 X (v1 + (1 : Int32))))
theorem few_afterLooking_J19_g (q : Th) (X : St) (s0 : Int32) : G q (mF q nX2_afterLooking RX2 0) (fir X) 19 [(0, .ref (q.ad 57))] [.int s0] X (few_afterLooking_J19 X s0) := by
  unfold few_afterLooking_J19
  refine g_istore_n (lv' := [(3, .int s0), (0, .ref (q.ad 57))]) dX2_afterLooking_19 rfl rfl (Nat.le_of_ble_eq_true rfl) rfl ?_
  refine g_iload_n 0 dX2_afterLooking_20 rfl rfl ?_
  refine g_if_lt dX2_afterLooking_21 rfl rfl ?_ ?_
  · refine g_iconst dX2_afterLooking_43 rfl kic_m1 ?_
    exact g_iret dX2_afterLooking_44 rfl rfl
  refine g_iload_n 0 dX2_afterLooking_24 rfl rfl ?_
  refine g_bipush dX2_afterLooking_25 rfl kbi_16 ?_
  refine g_icmp_gt dX2_afterLooking_27 rfl rfl ?_ ?_
  · refine g_iconst dX2_afterLooking_43 rfl kic_m1 ?_
    exact g_iret dX2_afterLooking_44 rfl rfl
  refine g_aload_n 1 dX2_afterLooking_30 rfl rfl ?_
  refine g_getR 57 2 77 rfl dX2_afterLooking_31 rfl kkX2 flX2_20 (by decide) rfl rfl (by decide) rfl ?_
  refine g_iload_n 0 dX2_afterLooking_34 rfl rfl ?_
  refine g_zald dX2_afterLooking_35 rfl (by decide) rfl rfl ?_
  refine g_if_ne dX2_afterLooking_36 rfl rfl ?_ ?_
  · refine g_iload_n 0 dX2_afterLooking_39 rfl rfl ?_
    refine g_goto dX2_afterLooking_40 rfl ?_
    exact g_iret dX2_afterLooking_44 rfl rfl
  refine g_iconst dX2_afterLooking_43 rfl kic_m1 ?_
  exact g_iret dX2_afterLooking_44 rfl rfl
theorem few_afterLooking_c (q : Th) (v1 : Int32) (v2 : Int32) (X : St) : Ct q nX2_afterLooking 0 (fir X) [.ref (q.ad 57), .int v1, .int v2] X (few_afterLooking v1 v2 X) := by
  refine ct_of (by decide +kernel) (Nat.le_of_ble_eq_true rfl) ?_
  unfold few_afterLooking
  show G q _ _ 0 [(0, .ref (q.ad 57)), (1, .int v1), (2, .int v2)] [] X _
  refine g_iload_n 2 dX2_afterLooking_0 rfl rfl ?_
  refine g_iconst dX2_afterLooking_1 rfl kic_4 ?_
  refine g_icmp_ne dX2_afterLooking_2 rfl rfl ?_ ?_
  · refine g_aload_n 0 dX2_afterLooking_5 rfl rfl ?_
    refine g_getI 57 4 rfl dX2_afterLooking_6 rfl kkX2 flX2_47 (by decide) rfl rfl (by decide) rfl ?_
    refine g_if_eq dX2_afterLooking_9 rfl rfl ?_ ?_
    · refine g_iload_n 1 dX2_afterLooking_16 rfl rfl ?_
      refine g_iconst dX2_afterLooking_17 rfl kic_1 ?_
      refine g_iadd dX2_afterLooking_18 rfl ?_
      refine g_sub [0] rfl ?_
      exact few_afterLooking_J19_g q X (v1 + (1 : Int32))
    refine g_iconst dX2_afterLooking_12 rfl kic_0 ?_
    refine g_goto dX2_afterLooking_13 rfl ?_
    refine g_sub [0] rfl ?_
    exact few_afterLooking_J19_g q X (0 : Int32)
  refine g_iload_n 1 dX2_afterLooking_16 rfl rfl ?_
  refine g_iconst dX2_afterLooking_17 rfl kic_1 ?_
  refine g_iadd dX2_afterLooking_18 rfl ?_
  refine g_sub [0] rfl ?_
  exact few_afterLooking_J19_g q X (v1 + (1 : Int32))
def few_after (v1 : Int32) (v2 : Int32) (X : St) : Option (Int32) :=
  (if (X.1 57 3) = 0 then
  (some (few_afterBreathing v1 v2 X))
  else
  ((few_afterLooking v1 v2 X).bind fun c1 =>
  (some c1)))
theorem few_after_c (q : Th) (v1 : Int32) (v2 : Int32) (X : St) : Ct q nX2_after 3 (fir X) [.ref (q.ad 57), .int v1, .int v2] X (few_after v1 v2 X) := by
  refine ct_of (by decide +kernel) (Nat.le_of_ble_eq_true rfl) ?_
  unfold few_after
  show G q _ _ 0 [(0, .ref (q.ad 57)), (1, .int v1), (2, .int v2)] [] X _
  refine g_aload_n 0 dX2_after_0 rfl rfl ?_
  refine g_getI 57 3 rfl dX2_after_1 rfl kkX2 flX2_24 (by decide) rfl rfl (by decide) rfl ?_
  refine g_if_eq dX2_after_4 rfl rfl ?_ ?_
  · refine g_aload_n 0 dX2_after_16 rfl rfl ?_
    refine g_iload_n 1 dX2_after_17 rfl rfl ?_
    refine g_iload_n 2 dX2_after_18 rfl rfl ?_
    refine g_cVIt (As := [.int v1, .int v2]) (st := []) 2 mF_wg rfl dX2_after_19 rfl kkX2 (by decide) rfl vX2_afterBreathing lkX2_84 (rmL rfl rfl) (few_afterBreathing_c q v1 v2 X) rfl rfl (Nat.le_of_ble_eq_true rfl) ?_
    exact g_iret dX2_after_22 rfl rfl
  refine g_aload_n 0 dX2_after_7 rfl rfl ?_
  refine g_iload_n 1 dX2_after_8 rfl rfl ?_
  refine g_iload_n 2 dX2_after_9 rfl rfl ?_
  refine g_cVIr (As := [.int v1, .int v2]) (st := []) 2 mF_wg rfl dX2_after_10 rfl kkX2 (by decide) rfl vX2_afterLooking lkX2_81 (rmL rfl rfl) (few_afterLooking_c q v1 v2 X) rfl rfl (Nat.le_of_ble_eq_true rfl) (fun c1 => ?_)
  refine g_goto dX2_after_13 rfl ?_
  exact g_iret dX2_after_22 rfl rfl
def few_from (v1 : Int32) (v2 : Int32) (X : St) : Option (Int32) :=
  (if v2 < 0 then
  (some (1000 : Int32))
  else
  (if v2 < (170 : Int32) then
  (if v1 < 0 then
  (some (1000 : Int32))
  else
  (if (16 : Int32) < v1 then
  (some (1000 : Int32))
  else
  (if inB v1 17 then
  (if okI (59 + nx v1) v2 then
  (some (X.1 (59 + nx v1) (nx v2))) else none) else none)))
  else
  (some (1000 : Int32))))
theorem few_from_c (q : Th) (v1 : Int32) (v2 : Int32) (X : St) : Ct q nX2_from 0 (fir X) [.ref (q.ad 57), .int v1, .int v2] X (few_from v1 v2 X) := by
  refine ct_of (by decide +kernel) (Nat.le_of_ble_eq_true rfl) ?_
  unfold few_from
  show G q _ _ 0 [(0, .ref (q.ad 57)), (1, .int v1), (2, .int v2)] [] X _
  refine g_iload_n 2 dX2_from_0 rfl rfl ?_
  refine g_if_lt dX2_from_1 rfl rfl ?_ ?_
  · refine g_sipush dX2_from_32 rfl ksi_1000 ?_
    exact g_iret dX2_from_35 rfl rfl
  refine g_iload_n 2 dX2_from_4 rfl rfl ?_
  refine g_sipush dX2_from_5 rfl ksi_170 ?_
  refine g_icmp_ge dX2_from_8 rfl rfl ?_ ?_
  · refine g_iload_n 1 dX2_from_11 rfl rfl ?_
    refine g_if_lt dX2_from_12 rfl rfl ?_ ?_
    · refine g_sipush dX2_from_32 rfl ksi_1000 ?_
      exact g_iret dX2_from_35 rfl rfl
    refine g_iload_n 1 dX2_from_15 rfl rfl ?_
    refine g_bipush dX2_from_16 rfl kbi_16 ?_
    refine g_icmp_gt dX2_from_18 rfl rfl ?_ ?_
    · refine g_sipush dX2_from_32 rfl ksi_1000 ?_
      exact g_iret dX2_from_35 rfl rfl
    refine g_aload_n 0 dX2_from_21 rfl rfl ?_
    refine g_getR 57 0 58 rfl dX2_from_22 rfl kkX2 flX2_13 (by decide) rfl rfl (by decide) rfl ?_
    refine g_iload_n 1 dX2_from_25 rfl rfl ?_
    refine g_aald dX2_from_26 rfl (by decide) (by decide) rfl rfl ?_
    refine g_iload_n 2 dX2_from_27 rfl rfl ?_
    refine g_ialdD dX2_from_28 rfl ?_
    refine g_goto dX2_from_29 rfl ?_
    exact g_iret dX2_from_35 rfl rfl
  refine g_sipush dX2_from_32 rfl ksi_1000 ?_
  exact g_iret dX2_from_35 rfl rfl
def few_walk_J86 (n : Nat) (k9 : Int32 → Int32 → Int32 → Int32 → Int32 → Int32 → St → Option (St)) (v2 : Int32) (v3 : Int32) (v4 : Int32) (v5 : Int32) (v6 : Int32) (v7 : Int32) (X : St) : Option (St) :=
((rou_actAt v7 X).bind fun c5 =>
((few_after v5 c5 X).bind fun c6 =>
(k9 v2 v3 v4 c6 v6 (v7 + (1 : Int32)) X)))
def few_walk_L9_B (n : Nat) (rec : Int32 → Int32 → Int32 → Int32 → Int32 → Int32 → St → Option (St)) (v2 : Int32) (v3 : Int32) (v4 : Int32) (v5 : Int32) (v6 : Int32) (v7 : Int32) (X : St) : Option (St) :=
(if v7 < v2 then
(if v6 < (X.1 57 7) then
((few_after v5 v4 X).bind fun c1 =>
((rou_actAt v7 X).bind fun c2 =>
(if c2 = v3 then
((few_from (v7 + (1 : Int32)) c1 X).bind fun c3 =>
((few_from v7 v5 X).bind fun c4 =>
(if ((1 : Int32) + c3) = c4 then
(if inB v6 16 then
(rec v2 v3 v4 c1 (v6 + (1 : Int32)) (v7 + (1 : Int32)) (stI X 76 (nx v6) v7)) else none)
else
(few_walk_J86 n rec v2 v3 v4 v5 v6 v7 X))))
else
(few_walk_J86 n rec v2 v3 v4 v5 v6 v7 X))))
else
(some X))
else
(some X))
def few_walk_L9 (n : Nat) : Nat → Int32 → Int32 → Int32 → Int32 → Int32 → Int32 → St → Option (St)
  | 0 => fun _ _ _ _ _ _ _ => none
  | w + 1 => few_walk_L9_B n (few_walk_L9 n w)
def few_walk (n : Nat) (v2 : Int32) (v3 : Int32) (v4 : Int32) (X : St) : Option (St) :=
  (few_walk_L9 n n v2 v3 v4 (0 : Int32) (0 : Int32) (0 : Int32) X)
theorem few_walk_J86_g (q : Th) (n : Nat) (k9 : Int32 → Int32 → Int32 → Int32 → Int32 → Int32 → St → Option (St)) (hk9 : ∀ v2 v3 v4 v5 v6 v7 X, G q (mF q nX2_walk RX2 4) fvw 9 [(0, .ref (q.ad 57)), (1, .ref (q.ad 24)), (2, .int v2), (3, .int v3), (4, .int v4), (5, .int v5), (6, .int v6), (7, .int v7)] [] X (k9 v2 v3 v4 v5 v6 v7 X)) (v2 : Int32) (v3 : Int32) (v4 : Int32) (v5 : Int32) (v6 : Int32) (v7 : Int32) (X : St) : G q (mF q nX2_walk RX2 4) fvw 86 [(0, .ref (q.ad 57)), (1, .ref (q.ad 24)), (2, .int v2), (3, .int v3), (4, .int v4), (5, .int v5), (6, .int v6), (7, .int v7)] [] X (few_walk_J86 n k9 v2 v3 v4 v5 v6 v7 X) := by
  unfold few_walk_J86
  refine g_aload_n 0 dX2_walk_86 rfl rfl ?_
  refine g_iload 5 dX2_walk_87 rfl rfl ?_
  refine g_aload_n 1 dX2_walk_89 rfl rfl ?_
  refine g_iload 7 dX2_walk_90 rfl rfl ?_
  refine g_cVIr (As := [.int v7]) (st := [.int v5, .ref (q.ad 57)]) 1 mF_wg rfl dX2_walk_92 rfl kkX6 (by decide) rfl vX6_actAt lkX2_67 (rmL rfl rfl) (rou_actAt_c q v7 X) rfl rfl (Nat.le_of_ble_eq_true rfl) (fun c5 => ?_)
  refine g_cVIr (As := [.int v5, .int c5]) (st := []) 2 mF_wg rfl dX2_walk_95 rfl kkX2 (by decide) rfl vX2_after lkX2_71 (rmL rfl rfl) (few_after_c q v5 c5 X) rfl rfl (Nat.le_of_ble_eq_true rfl) (fun c6 => ?_)
  refine g_istore (lv' := [(5, .int c6), (0, .ref (q.ad 57)), (1, .ref (q.ad 24)), (2, .int v2), (3, .int v3), (4, .int v4), (6, .int v6), (7, .int v7)]) dX2_walk_98 rfl (Nat.le_of_ble_eq_true rfl) rfl ?_
  refine g_inc (lv' := [(7, .int (v7 + (1 : Int32))), (5, .int c6), (0, .ref (q.ad 57)), (1, .ref (q.ad 24)), (2, .int v2), (3, .int v3), (4, .int v4), (6, .int v6)]) 7 dX2_walk_100 rfl rfl kic_1 (Nat.le_of_ble_eq_true rfl) rfl ?_
  refine g_goto dX2_walk_103 rfl ?_
  refine g_sub [2, 3, 4, 5, 6, 1, 7, 0] rfl ?_
  exact hk9 v2 v3 v4 c6 v6 (v7 + (1 : Int32)) X
theorem few_walk_L9_Bg (q : Th) (n : Nat) (rec : Int32 → Int32 → Int32 → Int32 → Int32 → Int32 → St → Option (St)) (hrec : ∀ v2 v3 v4 v5 v6 v7 X, G q (mF q nX2_walk RX2 4) fvw 9 [(0, .ref (q.ad 57)), (1, .ref (q.ad 24)), (2, .int v2), (3, .int v3), (4, .int v4), (5, .int v5), (6, .int v6), (7, .int v7)] [] X (rec v2 v3 v4 v5 v6 v7 X)) (v2 : Int32) (v3 : Int32) (v4 : Int32) (v5 : Int32) (v6 : Int32) (v7 : Int32) (X : St) : G q (mF q nX2_walk RX2 4) fvw 9 [(0, .ref (q.ad 57)), (1, .ref (q.ad 24)), (2, .int v2), (3, .int v3), (4, .int v4), (5, .int v5), (6, .int v6), (7, .int v7)] [] X (few_walk_L9_B n rec v2 v3 v4 v5 v6 v7 X) := by
  unfold few_walk_L9_B
  refine g_iload 7 dX2_walk_9 rfl rfl ?_
  refine g_iload_n 2 dX2_walk_11 rfl rfl ?_
  refine g_icmp_ge dX2_walk_12 rfl rfl ?_ ?_
  · refine g_iload 6 dX2_walk_15 rfl rfl ?_
    refine g_aload_n 0 dX2_walk_17 rfl rfl ?_
    refine g_getI 57 7 rfl dX2_walk_18 rfl kkX2 flX2_54 (by decide) rfl rfl (by decide) rfl ?_
    refine g_icmp_ge dX2_walk_21 rfl rfl ?_ ?_
    · refine g_aload_n 0 dX2_walk_24 rfl rfl ?_
      refine g_iload 5 dX2_walk_25 rfl rfl ?_
      refine g_iload 4 dX2_walk_27 rfl rfl ?_
      refine g_cVIr (As := [.int v5, .int v4]) (st := []) 2 mF_wg rfl dX2_walk_29 rfl kkX2 (by decide) rfl vX2_after lkX2_71 (rmL rfl rfl) (few_after_c q v5 v4 X) rfl rfl (Nat.le_of_ble_eq_true rfl) (fun c1 => ?_)
      refine g_istore (lv' := [(8, .int c1), (0, .ref (q.ad 57)), (1, .ref (q.ad 24)), (2, .int v2), (3, .int v3), (4, .int v4), (5, .int v5), (6, .int v6), (7, .int v7)]) dX2_walk_32 rfl (Nat.le_of_ble_eq_true rfl) rfl ?_
      refine g_aload_n 2 dX2_walk_34 rfl rfl ?_
      refine g_iload 8 dX2_walk_35 rfl rfl ?_
      refine g_cVIr (As := [.int v7]) (st := []) 1 mF_wg rfl dX2_walk_37 rfl kkX6 (by decide) rfl vX6_actAt lkX2_67 (rmL rfl rfl) (rou_actAt_c q v7 X) rfl rfl (Nat.le_of_ble_eq_true rfl) (fun c2 => ?_)
      refine g_iload_n 4 dX2_walk_40 rfl rfl ?_
      refine g_icmp_ne dX2_walk_41 rfl rfl ?_ ?_
      · refine g_iconst dX2_walk_44 rfl kic_1 ?_
        refine g_aload_n 1 dX2_walk_45 rfl rfl ?_
        refine g_iload 8 dX2_walk_46 rfl rfl ?_
        refine g_iconst dX2_walk_48 rfl kic_1 ?_
        refine g_iadd dX2_walk_49 rfl ?_
        refine g_iload 0 dX2_walk_50 rfl rfl ?_
        refine g_cVIr (As := [.int (v7 + (1 : Int32)), .int c1]) (st := [.int (1 : Int32)]) 2 mF_wg rfl dX2_walk_52 rfl kkX2 (by decide) rfl vX2_from lkX2_74 (rmL rfl rfl) (few_from_c q (v7 + (1 : Int32)) c1 X) rfl rfl (Nat.le_of_ble_eq_true rfl) (fun c3 => ?_)
        refine g_iadd dX2_walk_55 rfl ?_
        refine g_aload_n 1 dX2_walk_56 rfl rfl ?_
        refine g_iload 8 dX2_walk_57 rfl rfl ?_
        refine g_iload 6 dX2_walk_59 rfl rfl ?_
        refine g_cVIr (As := [.int v7, .int v5]) (st := [.int ((1 : Int32) + c3)]) 2 mF_wg rfl dX2_walk_61 rfl kkX2 (by decide) rfl vX2_from lkX2_74 (rmL rfl rfl) (few_from_c q v7 v5 X) rfl rfl (Nat.le_of_ble_eq_true rfl) (fun c4 => ?_)
        refine g_icmp_ne dX2_walk_64 rfl rfl ?_ ?_
        · refine g_aload_n 1 dX2_walk_67 rfl rfl ?_
          refine g_getR 57 1 76 rfl dX2_walk_68 rfl kkX2 flX2_16 (by decide) rfl rfl (by decide) rfl ?_
          refine g_iload 7 dX2_walk_71 rfl rfl ?_
          refine g_iload 8 dX2_walk_73 rfl rfl ?_
          refine g_iast dX2_walk_75 rfl (by decide) rfl rfl ?_
          refine g_inc (lv' := [(6, .int (v6 + (1 : Int32))), (8, .int c1), (0, .ref (q.ad 57)), (1, .ref (q.ad 24)), (2, .int v2), (3, .int v3), (4, .int v4), (5, .int v5), (7, .int v7)]) 7 dX2_walk_76 rfl rfl kic_1 (Nat.le_of_ble_eq_true rfl) rfl ?_
          refine g_iload 1 dX2_walk_79 rfl rfl ?_
          refine g_istore (lv' := [(5, .int c1), (6, .int (v6 + (1 : Int32))), (8, .int c1), (0, .ref (q.ad 57)), (1, .ref (q.ad 24)), (2, .int v2), (3, .int v3), (4, .int v4), (7, .int v7)]) dX2_walk_81 rfl (Nat.le_of_ble_eq_true rfl) rfl ?_
          refine g_goto dX2_walk_83 rfl ?_
          refine g_inc (lv' := [(7, .int (v7 + (1 : Int32))), (5, .int c1), (6, .int (v6 + (1 : Int32))), (8, .int c1), (0, .ref (q.ad 57)), (1, .ref (q.ad 24)), (2, .int v2), (3, .int v3), (4, .int v4)]) 8 dX2_walk_100 rfl rfl kic_1 (Nat.le_of_ble_eq_true rfl) rfl ?_
          refine g_goto dX2_walk_103 rfl ?_
          refine g_sub [4, 5, 6, 7, 8, 1, 2, 0] rfl ?_
          exact hrec v2 v3 v4 c1 (v6 + (1 : Int32)) (v7 + (1 : Int32)) (stI X 76 (nx v6) v7)
        refine g_sub [1, 2, 3, 4, 5, 6, 7, 8] rfl ?_
        exact few_walk_J86_g q n _ hrec v2 v3 v4 v5 v6 v7 X
      refine g_sub [1, 2, 3, 4, 5, 6, 7, 8] rfl ?_
      exact few_walk_J86_g q n _ hrec v2 v3 v4 v5 v6 v7 X
    exact g_vret dX2_walk_106 rfl rfl
  exact g_vret dX2_walk_106 rfl rfl
theorem few_walk_L9_g (q : Th) (n : Nat) : ∀ (w : Nat) (v2 : Int32) (v3 : Int32) (v4 : Int32) (v5 : Int32) (v6 : Int32) (v7 : Int32) (X : St), G q (mF q nX2_walk RX2 4) fvw 9 [(0, .ref (q.ad 57)), (1, .ref (q.ad 24)), (2, .int v2), (3, .int v3), (4, .int v4), (5, .int v5), (6, .int v6), (7, .int v7)] [] X (few_walk_L9 n w v2 v3 v4 v5 v6 v7 X) := by
  intro w
  induction w with
  | zero => intro v2 v3 v4 v5 v6 v7 X; exact g_none
  | succ w ih => intro v2 v3 v4 v5 v6 v7 X; exact few_walk_L9_Bg q n _ ih v2 v3 v4 v5 v6 v7 X
theorem few_walk_c (q : Th) (n : Nat) (v2 : Int32) (v3 : Int32) (v4 : Int32) (X : St) : Ct q nX2_walk 4 fvw [.ref (q.ad 57), .ref (q.ad 24), .int v2, .int v3, .int v4] X (few_walk n v2 v3 v4 X) := by
  refine ct_of (by decide +kernel) (Nat.le_of_ble_eq_true rfl) ?_
  unfold few_walk
  show G q _ _ 0 [(0, .ref (q.ad 57)), (1, .ref (q.ad 24)), (2, .int v2), (3, .int v3), (4, .int v4)] [] X _
  refine g_iconst dX2_walk_0 rfl kic_0 ?_
  refine g_istore (lv' := [(5, .int (0 : Int32)), (0, .ref (q.ad 57)), (1, .ref (q.ad 24)), (2, .int v2), (3, .int v3), (4, .int v4)]) dX2_walk_1 rfl (Nat.le_of_ble_eq_true rfl) rfl ?_
  refine g_iconst dX2_walk_3 rfl kic_0 ?_
  refine g_istore (lv' := [(6, .int (0 : Int32)), (5, .int (0 : Int32)), (0, .ref (q.ad 57)), (1, .ref (q.ad 24)), (2, .int v2), (3, .int v3), (4, .int v4)]) dX2_walk_4 rfl (Nat.le_of_ble_eq_true rfl) rfl ?_
  refine g_iconst dX2_walk_6 rfl kic_0 ?_
  refine g_istore (lv' := [(7, .int (0 : Int32)), (6, .int (0 : Int32)), (5, .int (0 : Int32)), (0, .ref (q.ad 57)), (1, .ref (q.ad 24)), (2, .int v2), (3, .int v3), (4, .int v4)]) dX2_walk_7 rfl (Nat.le_of_ble_eq_true rfl) rfl ?_
  refine g_sub [3, 4, 5, 6, 7, 2, 1, 0] rfl ?_
  refine few_walk_L9_g q n n v2 v3 v4 (0 : Int32) (0 : Int32) (0 : Int32) X
def few_choose_L14_B (n : Nat) (k39 : Int32 → Int32 → Int32 → St → Option (St)) (rec : Int32 → Int32 → Int32 → Int32 → St → Option (St)) (v2 : Int32) (v3 : Int32) (v4 : Int32) (v5 : Int32) (X : St) : Option (St) :=
(if v5 < (170 : Int32) then
(if inB v4 17 then
(if okI (59 + nx v4) v5 then
(rec v2 v3 v4 (v5 + (1 : Int32)) (stI X (59 + nx v4) (nx v5) (0 : Int32))) else none) else none)
else
(k39 v2 v3 v4 X))
def few_choose_L14 (n : Nat) (k39 : Int32 → Int32 → Int32 → St → Option (St)) : Nat → Int32 → Int32 → Int32 → Int32 → St → Option (St)
  | 0 => fun _ _ _ _ _ => none
  | w + 1 => few_choose_L14_B n k39 (few_choose_L14 n k39 w)
def few_choose_J116 (n : Nat) (k53 : Int32 → Int32 → Int32 → Int32 → Int32 → St → Option (St)) (v2 : Int32) (v3 : Int32) (v4 : Int32) (v5 : Int32) (v6 : Int32) (v7 : Int32) (s0 : Int32) (X : St) : Option (St) :=
(if inB v5 17 then
(if okI (59 + nx v5) v6 then
((some (stI X (59 + nx v5) (nx v6) (jmath_min (1000 : Int32) (jmath_min v7 s0)))).bind fun X12 =>
(k53 v2 v3 v4 v5 (v6 + (1 : Int32)) X12)) else none) else none)
def few_choose_L53_B (n : Nat) (k147 : Int32 → Int32 → Int32 → Int32 → St → Option (St)) (rec : Int32 → Int32 → Int32 → Int32 → Int32 → St → Option (St)) (v2 : Int32) (v3 : Int32) (v4 : Int32) (v5 : Int32) (v6 : Int32) (X : St) : Option (St) :=
(if v6 < (170 : Int32) then
((rou_actAt v5 X).bind fun c6 =>
((few_after v6 c6 X).bind fun c7 =>
((few_from (v5 + (1 : Int32)) c7 X).bind fun c8 =>
((rou_actAt v5 X).bind fun c9 =>
(if c9 = v2 then
((few_after v6 v3 X).bind fun c10 =>
((few_from (v5 + (1 : Int32)) c10 X).bind fun c11 =>
(few_choose_J116 n rec v2 v3 v4 v5 v6 c8 ((1 : Int32) + c11) X)))
else
(few_choose_J116 n rec v2 v3 v4 v5 v6 c8 (1000 : Int32) X))))))
else
(k147 v2 v3 v4 v5 X))
def few_choose_L53 (n : Nat) (k147 : Int32 → Int32 → Int32 → Int32 → St → Option (St)) : Nat → Int32 → Int32 → Int32 → Int32 → Int32 → St → Option (St)
  | 0 => fun _ _ _ _ _ _ => none
  | w + 1 => few_choose_L53_B n k147 (few_choose_L53 n k147 w)
def few_choose_L45_B (n : Nat) (k153 : Int32 → Int32 → Int32 → St → Option (St)) (rec : Int32 → Int32 → Int32 → Int32 → St → Option (St)) (v2 : Int32) (v3 : Int32) (v4 : Int32) (v5 : Int32) (X : St) : Option (St) :=
(if v5 < 0 then
(k153 v2 v3 v4 X)
else
(few_choose_L53 n (fun v14 v15 v16 v17 X13 =>
(rec v14 v15 v16 (v17 + (-1 : Int32)) X13)) n v2 v3 v4 v5 (0 : Int32) X))
def few_choose_L45 (n : Nat) (k153 : Int32 → Int32 → Int32 → St → Option (St)) : Nat → Int32 → Int32 → Int32 → Int32 → St → Option (St)
  | 0 => fun _ _ _ _ _ => none
  | w + 1 => few_choose_L45_B n k153 (few_choose_L45 n k153 w)
def few_choose (n : Nat) (v2 : Int32) (v3 : Int32) (X : St) : Option (St) :=
  ((some (jmath_min (rou_counts X) (16 : Int32))).bind fun t1 =>
  (few_choose_L14 n (fun v3 v4 v5 X2 =>
  (few_choose_L45 n (fun v19 v20 v21 X18 =>
  (if (10 : Int32) < ((stI X18 57 7 (X18.1 59 (nx (0 : Int32)))).1 57 7) then
  (some (stI X18 57 7 (X18.1 59 (nx (0 : Int32)))))
  else
  ((few_walk n v21 v19 v20 (stI X18 57 7 (X18.1 59 (nx (0 : Int32))))).bind fun X22 =>
  (some X22)))) n v3 v4 v5 (v5 - (1 : Int32)) X2)) n v2 v3 t1 (0 : Int32) X))
theorem few_choose_L14_Bg (q : Th) (n : Nat) (k39 : Int32 → Int32 → Int32 → St → Option (St)) (hk39 : ∀ v2 v3 v4 X, G q (mF q nX2_choose RX2 5) fvw 39 [(0, .ref (q.ad 57)), (1, .ref (q.ad 24)), (2, .int v2), (3, .int v3), (4, .int v4)] [] X (k39 v2 v3 v4 X)) (rec : Int32 → Int32 → Int32 → Int32 → St → Option (St)) (hrec : ∀ v2 v3 v4 v5 X, G q (mF q nX2_choose RX2 5) fvw 14 [(0, .ref (q.ad 57)), (1, .ref (q.ad 24)), (2, .int v2), (3, .int v3), (4, .int v4), (5, .int v5)] [] X (rec v2 v3 v4 v5 X)) (v2 : Int32) (v3 : Int32) (v4 : Int32) (v5 : Int32) (X : St) : G q (mF q nX2_choose RX2 5) fvw 14 [(0, .ref (q.ad 57)), (1, .ref (q.ad 24)), (2, .int v2), (3, .int v3), (4, .int v4), (5, .int v5)] [] X (few_choose_L14_B n k39 rec v2 v3 v4 v5 X) := by
  unfold few_choose_L14_B
  refine g_iload 5 dX2_choose_14 rfl rfl ?_
  refine g_sipush dX2_choose_16 rfl ksi_170 ?_
  refine g_icmp_ge dX2_choose_19 rfl rfl ?_ ?_
  · refine g_aload_n 0 dX2_choose_22 rfl rfl ?_
    refine g_getR 57 0 58 rfl dX2_choose_23 rfl kkX2 flX2_13 (by decide) rfl rfl (by decide) rfl ?_
    refine g_iload 4 dX2_choose_26 rfl rfl ?_
    refine g_aald dX2_choose_28 rfl (by decide) (by decide) rfl rfl ?_
    refine g_iload 5 dX2_choose_29 rfl rfl ?_
    refine g_iconst dX2_choose_31 rfl kic_0 ?_
    refine g_iastD dX2_choose_32 rfl ?_
    refine g_inc (lv' := [(5, .int (v5 + (1 : Int32))), (0, .ref (q.ad 57)), (1, .ref (q.ad 24)), (2, .int v2), (3, .int v3), (4, .int v4)]) 5 dX2_choose_33 rfl rfl kic_1 (Nat.le_of_ble_eq_true rfl) rfl ?_
    refine g_goto dX2_choose_36 rfl ?_
    refine g_sub [1, 2, 3, 4, 5, 0] rfl ?_
    exact hrec v2 v3 v4 (v5 + (1 : Int32)) (stI X (59 + nx v4) (nx v5) (0 : Int32))
  refine g_sub [0, 1, 2, 3, 4] rfl ?_
  exact hk39 v2 v3 v4 X
theorem few_choose_L14_g (q : Th) (n : Nat) (k39 : Int32 → Int32 → Int32 → St → Option (St)) (hk39 : ∀ v2 v3 v4 X, G q (mF q nX2_choose RX2 5) fvw 39 [(0, .ref (q.ad 57)), (1, .ref (q.ad 24)), (2, .int v2), (3, .int v3), (4, .int v4)] [] X (k39 v2 v3 v4 X)) : ∀ (w : Nat) (v2 : Int32) (v3 : Int32) (v4 : Int32) (v5 : Int32) (X : St), G q (mF q nX2_choose RX2 5) fvw 14 [(0, .ref (q.ad 57)), (1, .ref (q.ad 24)), (2, .int v2), (3, .int v3), (4, .int v4), (5, .int v5)] [] X (few_choose_L14 n k39 w v2 v3 v4 v5 X) := by
  intro w
  induction w with
  | zero => intro v2 v3 v4 v5 X; exact g_none
  | succ w ih => intro v2 v3 v4 v5 X; exact few_choose_L14_Bg q n k39 hk39 _ ih v2 v3 v4 v5 X
theorem few_choose_J116_g (q : Th) (n : Nat) (k53 : Int32 → Int32 → Int32 → Int32 → Int32 → St → Option (St)) (hk53 : ∀ v2 v3 v4 v5 v6 X, G q (mF q nX2_choose RX2 5) fvw 53 [(0, .ref (q.ad 57)), (1, .ref (q.ad 24)), (2, .int v2), (3, .int v3), (4, .int v4), (5, .int v5), (6, .int v6)] [] X (k53 v2 v3 v4 v5 v6 X)) (v2 : Int32) (v3 : Int32) (v4 : Int32) (v5 : Int32) (v6 : Int32) (v7 : Int32) (s0 : Int32) (X : St) : G q (mF q nX2_choose RX2 5) fvw 116 [(0, .ref (q.ad 57)), (1, .ref (q.ad 24)), (2, .int v2), (3, .int v3), (4, .int v4), (5, .int v5), (6, .int v6), (7, .int v7)] [.int s0] X (few_choose_J116 n k53 v2 v3 v4 v5 v6 v7 s0 X) := by
  unfold few_choose_J116
  refine g_istore (lv' := [(8, .int s0), (0, .ref (q.ad 57)), (1, .ref (q.ad 24)), (2, .int v2), (3, .int v3), (4, .int v4), (5, .int v5), (6, .int v6), (7, .int v7)]) dX2_choose_116 rfl (Nat.le_of_ble_eq_true rfl) rfl ?_
  refine g_aload_n 1 dX2_choose_118 rfl rfl ?_
  refine g_getR 57 0 58 rfl dX2_choose_119 rfl kkX2 flX2_13 (by decide) rfl rfl (by decide) rfl ?_
  refine g_iload 6 dX2_choose_122 rfl rfl ?_
  refine g_aald dX2_choose_124 rfl (by decide) (by decide) rfl rfl ?_
  refine g_iload 7 dX2_choose_125 rfl rfl ?_
  refine g_sipush dX2_choose_127 rfl ksi_1000 ?_
  refine g_iload 8 dX2_choose_130 rfl rfl ?_
  refine g_iload 0 dX2_choose_132 rfl rfl ?_
  refine g_mmin (st := [.int (1000 : Int32), .int v6, .ref (q.ad (59 + nx v5))]) rfl dX2_choose_134 rfl lkX2_61 (rmL rfl rfl) (Nat.le_of_ble_eq_true rfl) ?_
  refine g_mmin (st := [.int v6, .ref (q.ad (59 + nx v5))]) rfl dX2_choose_137 rfl lkX2_61 (rmL rfl rfl) (Nat.le_of_ble_eq_true rfl) ?_
  refine g_iastD dX2_choose_140 rfl ?_
  refine g_nmX (fun X12 => ?_)
  refine g_inc (lv' := [(6, .int (v6 + (1 : Int32))), (8, .int s0), (0, .ref (q.ad 57)), (1, .ref (q.ad 24)), (2, .int v2), (3, .int v3), (4, .int v4), (5, .int v5), (7, .int v7)]) 7 dX2_choose_141 rfl rfl kic_1 (Nat.le_of_ble_eq_true rfl) rfl ?_
  refine g_goto dX2_choose_144 rfl ?_
  refine g_sub [2, 3, 4, 5, 6, 7, 0] rfl ?_
  exact hk53 v2 v3 v4 v5 (v6 + (1 : Int32)) X12
theorem few_choose_L53_Bg (q : Th) (n : Nat) (k147 : Int32 → Int32 → Int32 → Int32 → St → Option (St)) (hk147 : ∀ v2 v3 v4 v5 X, G q (mF q nX2_choose RX2 5) fvw 147 [(0, .ref (q.ad 57)), (1, .ref (q.ad 24)), (2, .int v2), (3, .int v3), (4, .int v4), (5, .int v5)] [] X (k147 v2 v3 v4 v5 X)) (rec : Int32 → Int32 → Int32 → Int32 → Int32 → St → Option (St)) (hrec : ∀ v2 v3 v4 v5 v6 X, G q (mF q nX2_choose RX2 5) fvw 53 [(0, .ref (q.ad 57)), (1, .ref (q.ad 24)), (2, .int v2), (3, .int v3), (4, .int v4), (5, .int v5), (6, .int v6)] [] X (rec v2 v3 v4 v5 v6 X)) (v2 : Int32) (v3 : Int32) (v4 : Int32) (v5 : Int32) (v6 : Int32) (X : St) : G q (mF q nX2_choose RX2 5) fvw 53 [(0, .ref (q.ad 57)), (1, .ref (q.ad 24)), (2, .int v2), (3, .int v3), (4, .int v4), (5, .int v5), (6, .int v6)] [] X (few_choose_L53_B n k147 rec v2 v3 v4 v5 v6 X) := by
  unfold few_choose_L53_B
  refine g_iload 6 dX2_choose_53 rfl rfl ?_
  refine g_sipush dX2_choose_55 rfl ksi_170 ?_
  refine g_icmp_ge dX2_choose_58 rfl rfl ?_ ?_
  · refine g_aload_n 0 dX2_choose_61 rfl rfl ?_
    refine g_iload 5 dX2_choose_62 rfl rfl ?_
    refine g_iconst dX2_choose_64 rfl kic_1 ?_
    refine g_iadd dX2_choose_65 rfl ?_
    refine g_aload_n 0 dX2_choose_66 rfl rfl ?_
    refine g_iload 6 dX2_choose_67 rfl rfl ?_
    refine g_aload_n 1 dX2_choose_69 rfl rfl ?_
    refine g_iload 5 dX2_choose_70 rfl rfl ?_
    refine g_cVIr (As := [.int v5]) (st := [.int v6, .ref (q.ad 57), .int (v5 + (1 : Int32)), .ref (q.ad 57)]) 1 mF_wg rfl dX2_choose_72 rfl kkX6 (by decide) rfl vX6_actAt lkX2_67 (rmL rfl rfl) (rou_actAt_c q v5 X) rfl rfl (Nat.le_of_ble_eq_true rfl) (fun c6 => ?_)
    refine g_cVIr (As := [.int v6, .int c6]) (st := [.int (v5 + (1 : Int32)), .ref (q.ad 57)]) 2 mF_wg rfl dX2_choose_75 rfl kkX2 (by decide) rfl vX2_after lkX2_71 (rmL rfl rfl) (few_after_c q v6 c6 X) rfl rfl (Nat.le_of_ble_eq_true rfl) (fun c7 => ?_)
    refine g_cVIr (As := [.int (v5 + (1 : Int32)), .int c7]) (st := []) 2 mF_wg rfl dX2_choose_78 rfl kkX2 (by decide) rfl vX2_from lkX2_74 (rmL rfl rfl) (few_from_c q (v5 + (1 : Int32)) c7 X) rfl rfl (Nat.le_of_ble_eq_true rfl) (fun c8 => ?_)
    refine g_istore (lv' := [(7, .int c8), (0, .ref (q.ad 57)), (1, .ref (q.ad 24)), (2, .int v2), (3, .int v3), (4, .int v4), (5, .int v5), (6, .int v6)]) dX2_choose_81 rfl (Nat.le_of_ble_eq_true rfl) rfl ?_
    refine g_aload_n 2 dX2_choose_83 rfl rfl ?_
    refine g_iload 6 dX2_choose_84 rfl rfl ?_
    refine g_cVIr (As := [.int v5]) (st := []) 1 mF_wg rfl dX2_choose_86 rfl kkX6 (by decide) rfl vX6_actAt lkX2_67 (rmL rfl rfl) (rou_actAt_c q v5 X) rfl rfl (Nat.le_of_ble_eq_true rfl) (fun c9 => ?_)
    refine g_iload_n 3 dX2_choose_89 rfl rfl ?_
    refine g_icmp_ne dX2_choose_90 rfl rfl ?_ ?_
    · refine g_iconst dX2_choose_93 rfl kic_1 ?_
      refine g_aload_n 1 dX2_choose_94 rfl rfl ?_
      refine g_iload 6 dX2_choose_95 rfl rfl ?_
      refine g_iconst dX2_choose_97 rfl kic_1 ?_
      refine g_iadd dX2_choose_98 rfl ?_
      refine g_aload_n 1 dX2_choose_99 rfl rfl ?_
      refine g_iload 7 dX2_choose_100 rfl rfl ?_
      refine g_iload_n 4 dX2_choose_102 rfl rfl ?_
      refine g_cVIr (As := [.int v6, .int v3]) (st := [.int (v5 + (1 : Int32)), .ref (q.ad 57), .int (1 : Int32)]) 2 mF_wg rfl dX2_choose_103 rfl kkX2 (by decide) rfl vX2_after lkX2_71 (rmL rfl rfl) (few_after_c q v6 v3 X) rfl rfl (Nat.le_of_ble_eq_true rfl) (fun c10 => ?_)
      refine g_cVIr (As := [.int (v5 + (1 : Int32)), .int c10]) (st := [.int (1 : Int32)]) 2 mF_wg rfl dX2_choose_106 rfl kkX2 (by decide) rfl vX2_from lkX2_74 (rmL rfl rfl) (few_from_c q (v5 + (1 : Int32)) c10 X) rfl rfl (Nat.le_of_ble_eq_true rfl) (fun c11 => ?_)
      refine g_iadd dX2_choose_109 rfl ?_
      refine g_goto dX2_choose_110 rfl ?_
      refine g_sub [1, 2, 3, 4, 5, 6, 7, 0] rfl ?_
      exact few_choose_J116_g q n _ hrec v2 v3 v4 v5 v6 c8 ((1 : Int32) + c11) X
    refine g_sipush dX2_choose_113 rfl ksi_1000 ?_
    refine g_sub [1, 2, 3, 4, 5, 6, 7, 0] rfl ?_
    exact few_choose_J116_g q n _ hrec v2 v3 v4 v5 v6 c8 (1000 : Int32) X
  refine g_sub [0, 1, 2, 3, 4, 5] rfl ?_
  exact hk147 v2 v3 v4 v5 X
theorem few_choose_L53_g (q : Th) (n : Nat) (k147 : Int32 → Int32 → Int32 → Int32 → St → Option (St)) (hk147 : ∀ v2 v3 v4 v5 X, G q (mF q nX2_choose RX2 5) fvw 147 [(0, .ref (q.ad 57)), (1, .ref (q.ad 24)), (2, .int v2), (3, .int v3), (4, .int v4), (5, .int v5)] [] X (k147 v2 v3 v4 v5 X)) : ∀ (w : Nat) (v2 : Int32) (v3 : Int32) (v4 : Int32) (v5 : Int32) (v6 : Int32) (X : St), G q (mF q nX2_choose RX2 5) fvw 53 [(0, .ref (q.ad 57)), (1, .ref (q.ad 24)), (2, .int v2), (3, .int v3), (4, .int v4), (5, .int v5), (6, .int v6)] [] X (few_choose_L53 n k147 w v2 v3 v4 v5 v6 X) := by
  intro w
  induction w with
  | zero => intro v2 v3 v4 v5 v6 X; exact g_none
  | succ w ih => intro v2 v3 v4 v5 v6 X; exact few_choose_L53_Bg q n k147 hk147 _ ih v2 v3 v4 v5 v6 X
theorem few_choose_L45_Bg (q : Th) (n : Nat) (k153 : Int32 → Int32 → Int32 → St → Option (St)) (hk153 : ∀ v2 v3 v4 X, G q (mF q nX2_choose RX2 5) fvw 153 [(0, .ref (q.ad 57)), (1, .ref (q.ad 24)), (2, .int v2), (3, .int v3), (4, .int v4)] [] X (k153 v2 v3 v4 X)) (rec : Int32 → Int32 → Int32 → Int32 → St → Option (St)) (hrec : ∀ v2 v3 v4 v5 X, G q (mF q nX2_choose RX2 5) fvw 45 [(0, .ref (q.ad 57)), (1, .ref (q.ad 24)), (2, .int v2), (3, .int v3), (4, .int v4), (5, .int v5)] [] X (rec v2 v3 v4 v5 X)) (v2 : Int32) (v3 : Int32) (v4 : Int32) (v5 : Int32) (X : St) : G q (mF q nX2_choose RX2 5) fvw 45 [(0, .ref (q.ad 57)), (1, .ref (q.ad 24)), (2, .int v2), (3, .int v3), (4, .int v4), (5, .int v5)] [] X (few_choose_L45_B n k153 rec v2 v3 v4 v5 X) := by
  unfold few_choose_L45_B
  refine g_iload 5 dX2_choose_45 rfl rfl ?_
  refine g_if_lt dX2_choose_47 rfl rfl ?_ ?_
  · refine g_sub [0, 1, 2, 3, 4] rfl ?_
    exact hk153 v2 v3 v4 X
  refine g_iconst dX2_choose_50 rfl kic_0 ?_
  refine g_istore (lv' := [(6, .int (0 : Int32)), (0, .ref (q.ad 57)), (1, .ref (q.ad 24)), (2, .int v2), (3, .int v3), (4, .int v4), (5, .int v5)]) dX2_choose_51 rfl (Nat.le_of_ble_eq_true rfl) rfl ?_
  refine g_sub [1, 2, 3, 4, 5, 6, 0] rfl ?_
  refine few_choose_L53_g q n _ (fun v14 v15 v16 v17 X13 => ?_) n v2 v3 v4 v5 (0 : Int32) X
  refine g_inc (lv' := [(5, .int (v17 + (-1 : Int32))), (0, .ref (q.ad 57)), (1, .ref (q.ad 24)), (2, .int v14), (3, .int v15), (4, .int v16)]) 5 dX2_choose_147 rfl rfl kic_m1 (Nat.le_of_ble_eq_true rfl) rfl ?_
  refine g_goto dX2_choose_150 rfl ?_
  refine g_sub [1, 2, 3, 4, 5, 0] rfl ?_
  exact hrec v14 v15 v16 (v17 + (-1 : Int32)) X13
theorem few_choose_L45_g (q : Th) (n : Nat) (k153 : Int32 → Int32 → Int32 → St → Option (St)) (hk153 : ∀ v2 v3 v4 X, G q (mF q nX2_choose RX2 5) fvw 153 [(0, .ref (q.ad 57)), (1, .ref (q.ad 24)), (2, .int v2), (3, .int v3), (4, .int v4)] [] X (k153 v2 v3 v4 X)) : ∀ (w : Nat) (v2 : Int32) (v3 : Int32) (v4 : Int32) (v5 : Int32) (X : St), G q (mF q nX2_choose RX2 5) fvw 45 [(0, .ref (q.ad 57)), (1, .ref (q.ad 24)), (2, .int v2), (3, .int v3), (4, .int v4), (5, .int v5)] [] X (few_choose_L45 n k153 w v2 v3 v4 v5 X) := by
  intro w
  induction w with
  | zero => intro v2 v3 v4 v5 X; exact g_none
  | succ w ih => intro v2 v3 v4 v5 X; exact few_choose_L45_Bg q n k153 hk153 _ ih v2 v3 v4 v5 X
theorem few_choose_c (q : Th) (n : Nat) (v2 : Int32) (v3 : Int32) (X : St) : Ct q nX2_choose 5 fvw [.ref (q.ad 57), .ref (q.ad 24), .int v2, .int v3] X (few_choose n v2 v3 X) := by
  refine ct_of (by decide +kernel) (Nat.le_of_ble_eq_true rfl) ?_
  unfold few_choose
  show G q _ _ 0 [(0, .ref (q.ad 57)), (1, .ref (q.ad 24)), (2, .int v2), (3, .int v3)] [] X _
  refine g_aload_n 1 dX2_choose_0 rfl rfl ?_
  refine g_cVIt (As := []) (st := []) 0 mF_wg rfl dX2_choose_1 rfl kkX6 (by decide) rfl vX6_counts lkX2_57 (rmL rfl rfl) (rou_counts_c q X) rfl rfl (Nat.le_of_ble_eq_true rfl) ?_
  refine g_bipush dX2_choose_4 rfl kbi_16 ?_
  refine g_mmin (st := []) rfl dX2_choose_6 rfl lkX2_61 (rmL rfl rfl) (Nat.le_of_ble_eq_true rfl) ?_
  refine g_nmI (fun t1 => ?_)
  refine g_istore (lv' := [(4, .int t1), (0, .ref (q.ad 57)), (1, .ref (q.ad 24)), (2, .int v2), (3, .int v3)]) dX2_choose_9 rfl (Nat.le_of_ble_eq_true rfl) rfl ?_
  refine g_iconst dX2_choose_11 rfl kic_0 ?_
  refine g_istore (lv' := [(5, .int (0 : Int32)), (4, .int t1), (0, .ref (q.ad 57)), (1, .ref (q.ad 24)), (2, .int v2), (3, .int v3)]) dX2_choose_12 rfl (Nat.le_of_ble_eq_true rfl) rfl ?_
  refine g_sub [2, 3, 4, 5, 1, 0] rfl ?_
  refine few_choose_L14_g q n _ (fun v3 v4 v5 X2 => ?_) n v2 v3 t1 (0 : Int32) X
  refine g_iload 4 dX2_choose_39 rfl rfl ?_
  refine g_iconst dX2_choose_41 rfl kic_1 ?_
  refine g_isub dX2_choose_42 rfl ?_
  refine g_istore (lv' := [(5, .int (v5 - (1 : Int32))), (0, .ref (q.ad 57)), (1, .ref (q.ad 24)), (2, .int v3), (3, .int v4), (4, .int v5)]) dX2_choose_43 rfl (Nat.le_of_ble_eq_true rfl) rfl ?_
  refine g_sub [1, 2, 3, 4, 5, 0] rfl ?_
  refine few_choose_L45_g q n _ (fun v19 v20 v21 X18 => ?_) n v3 v4 v5 (v5 - (1 : Int32)) X2
  refine g_aload_n 0 dX2_choose_153 rfl rfl ?_
  refine g_aload_n 0 dX2_choose_154 rfl rfl ?_
  refine g_getR 57 0 58 rfl dX2_choose_155 rfl kkX2 flX2_13 (by decide) rfl rfl (by decide) rfl ?_
  refine g_iconst dX2_choose_158 rfl kic_0 ?_
  refine g_aald0 (w := 59) dX2_choose_159 rfl (by decide) (by decide) rfl rfl (by decide +kernel) (by decide +kernel) ?_
  refine g_iconst dX2_choose_160 rfl kic_0 ?_
  refine g_iald0 dX2_choose_161 rfl (by decide) rfl rfl (by decide) ?_
  refine g_putI 57 7 rfl dX2_choose_162 rfl kkX2 flX2_54 (by decide) rfl rfl (by decide) rfl rfl rfl ?_
  refine g_aload_n 0 dX2_choose_165 rfl rfl ?_
  refine g_getI 57 7 rfl dX2_choose_166 rfl kkX2 flX2_54 (by decide) rfl rfl (by decide) rfl ?_
  refine g_bipush dX2_choose_169 rfl kbi_10 ?_
  refine g_icmp_gt dX2_choose_171 rfl rfl ?_ ?_
  · exact g_vret dX2_choose_183 rfl rfl
  refine g_aload_n 0 dX2_choose_174 rfl rfl ?_
  refine g_aload_n 1 dX2_choose_175 rfl rfl ?_
  refine g_iload 4 dX2_choose_176 rfl rfl ?_
  refine g_iload_n 2 dX2_choose_178 rfl rfl ?_
  refine g_iload_n 3 dX2_choose_179 rfl rfl ?_
  refine g_cVVw (As := [.ref (q.ad 24), .int v21, .int v19, .int v20]) (st := []) 4 mF_wg rfl dX2_choose_180 rfl kkX2 (by decide) rfl vX2_walk lkX2_77 (rmL rfl rfl) (few_walk_c q n v21 v19 v20 (stI X18 57 7 (X18.1 59 (nx (0 : Int32))))) rfl rfl (Nat.le_of_ble_eq_true rfl) (fun X22 => ?_)
  exact g_vret dX2_choose_183 rfl rfl
def few_chooseGasps (n : Nat) (v2 : Int32) (v3 : Int32) (X : St) : Option (St) :=
  ((few_choose n (1 : Int32) (0 : Int32) (stI (stI (stI X 57 3 (0 : Int32)) 57 5 v2) 57 6 v3)).bind fun X1 =>
  (some X1))
theorem few_chooseGasps_c (q : Th) (n : Nat) (v2 : Int32) (v3 : Int32) (X : St) : Ct q nX2_chooseGasps 6 fvw [.ref (q.ad 57), .ref (q.ad 24), .int v2, .int v3] X (few_chooseGasps n v2 v3 X) := by
  refine ct_of (by decide +kernel) (Nat.le_of_ble_eq_true rfl) ?_
  unfold few_chooseGasps
  show G q _ _ 0 [(0, .ref (q.ad 57)), (1, .ref (q.ad 24)), (2, .int v2), (3, .int v3)] [] X _
  refine g_aload_n 0 dX2_chooseGasps_0 rfl rfl ?_
  refine g_iconst dX2_chooseGasps_1 rfl kic_0 ?_
  refine g_putC (t := .boolean) 57 3 rfl dX2_chooseGasps_2 rfl kkX2 flX2_24 (by decide) rfl rfl (by decide) rfl rfl (by decide +kernel) rfl rfl ?_
  refine g_aload_n 0 dX2_chooseGasps_5 rfl rfl ?_
  refine g_iload_n 2 dX2_chooseGasps_6 rfl rfl ?_
  refine g_putI 57 5 rfl dX2_chooseGasps_7 rfl kkX2 flX2_28 (by decide) rfl rfl (by decide) rfl rfl rfl ?_
  refine g_aload_n 0 dX2_chooseGasps_10 rfl rfl ?_
  refine g_iload_n 3 dX2_chooseGasps_11 rfl rfl ?_
  refine g_putI 57 6 rfl dX2_chooseGasps_12 rfl kkX2 flX2_32 (by decide) rfl rfl (by decide) rfl rfl rfl ?_
  refine g_aload_n 0 dX2_chooseGasps_15 rfl rfl ?_
  refine g_aload_n 1 dX2_chooseGasps_16 rfl rfl ?_
  refine g_iconst dX2_chooseGasps_17 rfl kic_1 ?_
  refine g_iconst dX2_chooseGasps_18 rfl kic_0 ?_
  refine g_cVVw (As := [.ref (q.ad 24), .int (1 : Int32), .int (0 : Int32)]) (st := []) 3 mF_wg rfl dX2_chooseGasps_19 rfl kkX2 (by decide) rfl vX2_choose lkX2_37 (rmL rfl rfl) (few_choose_c q n (1 : Int32) (0 : Int32) (stI (stI (stI X 57 3 (0 : Int32)) 57 5 v2) 57 6 v3)) rfl rfl (Nat.le_of_ble_eq_true rfl) (fun X1 => ?_)
  exact g_vret dX2_chooseGasps_22 rfl rfl
def few_chooseLooks_L15_B (n : Nat) (rec : Int32 → St → Option (St)) (v3 : Int32) (X : St) : Option (St) :=
(if (16 : Int32) < v3 then
((few_choose n (0 : Int32) (4 : Int32) X).bind fun X2 =>
(some X2))
else
((tho_isSeenSince n v3 X).bind fun (c4, X3) =>
(if inB v3 17 then
(rec (v3 + (1 : Int32)) (stI X3 77 (nx v3) (vp_nar .boolean c4))) else none)))
def few_chooseLooks_L15 (n : Nat) : Nat → Int32 → St → Option (St)
  | 0 => fun _ _ => none
  | w + 1 => few_chooseLooks_L15_B n (few_chooseLooks_L15 n w)
def few_chooseLooks (n : Nat) (X : St) : Option (St) :=
  (if isZ (tho_isLed (stI X 57 3 (1 : Int32))) then
  ((some (stI (stI X 57 3 (1 : Int32)) 57 4 (tho_isLed (stI X 57 3 (1 : Int32))))).bind fun X1 =>
  (few_chooseLooks_L15 n n (0 : Int32) X1)) else none)
theorem few_chooseLooks_L15_Bg (q : Th) (n : Nat) (rec : Int32 → St → Option (St)) (hrec : ∀ v3 X, G q (mF q nX2_chooseLooks RX2 6) fvw 15 [(0, .ref (q.ad 57)), (1, .ref (q.ad 24)), (2, .ref (q.ad 26)), (3, .int v3)] [] X (rec v3 X)) (v3 : Int32) (X : St) : G q (mF q nX2_chooseLooks RX2 6) fvw 15 [(0, .ref (q.ad 57)), (1, .ref (q.ad 24)), (2, .ref (q.ad 26)), (3, .int v3)] [] X (few_chooseLooks_L15_B n rec v3 X) := by
  unfold few_chooseLooks_L15_B
  refine g_iload_n 3 dX2_chooseLooks_15 rfl rfl ?_
  refine g_bipush dX2_chooseLooks_16 rfl kbi_16 ?_
  refine g_icmp_gt dX2_chooseLooks_18 rfl rfl ?_ ?_
  · refine g_aload_n 0 dX2_chooseLooks_38 rfl rfl ?_
    refine g_aload_n 1 dX2_chooseLooks_39 rfl rfl ?_
    refine g_iconst dX2_chooseLooks_40 rfl kic_0 ?_
    refine g_iconst dX2_chooseLooks_41 rfl kic_4 ?_
    refine g_cVVw (As := [.ref (q.ad 24), .int (0 : Int32), .int (4 : Int32)]) (st := []) 3 mF_wg rfl dX2_chooseLooks_42 rfl kkX2 (by decide) rfl vX2_choose lkX2_37 (rmL rfl rfl) (few_choose_c q n (0 : Int32) (4 : Int32) X) rfl rfl (Nat.le_of_ble_eq_true rfl) (fun X2 => ?_)
    exact g_vret dX2_chooseLooks_45 rfl rfl
  refine g_aload_n 0 dX2_chooseLooks_21 rfl rfl ?_
  refine g_getR 57 2 77 rfl dX2_chooseLooks_22 rfl kkX2 flX2_20 (by decide) rfl rfl (by decide) rfl ?_
  refine g_iload_n 3 dX2_chooseLooks_25 rfl rfl ?_
  refine g_aload_n 2 dX2_chooseLooks_26 rfl rfl ?_
  refine g_iload_n 3 dX2_chooseLooks_27 rfl rfl ?_
  refine g_cVIw (As := [.int v3]) (st := [.int v3, .ref (q.ad 77)]) 1 mF_wg rfl dX2_chooseLooks_28 rfl kkX9 (by decide) rfl vX9_isSeenSince lkX2_50 (rmL rfl rfl) (tho_isSeenSince_c q n v3 X) rfl rfl (Nat.le_of_ble_eq_true rfl) (fun c4 X3 => ?_)
  refine g_zast dX2_chooseLooks_31 rfl (by decide) rfl rfl ?_
  refine g_inc (lv' := [(3, .int (v3 + (1 : Int32))), (0, .ref (q.ad 57)), (1, .ref (q.ad 24)), (2, .ref (q.ad 26))]) 3 dX2_chooseLooks_32 rfl rfl kic_1 (Nat.le_of_ble_eq_true rfl) rfl ?_
  refine g_goto dX2_chooseLooks_35 rfl ?_
  refine g_sub [1, 2, 3, 0] rfl ?_
  exact hrec (v3 + (1 : Int32)) (stI X3 77 (nx v3) (vp_nar .boolean c4))
theorem few_chooseLooks_L15_g (q : Th) (n : Nat) : ∀ (w : Nat) (v3 : Int32) (X : St), G q (mF q nX2_chooseLooks RX2 6) fvw 15 [(0, .ref (q.ad 57)), (1, .ref (q.ad 24)), (2, .ref (q.ad 26)), (3, .int v3)] [] X (few_chooseLooks_L15 n w v3 X) := by
  intro w
  induction w with
  | zero => intro v3 X; exact g_none
  | succ w ih => intro v3 X; exact few_chooseLooks_L15_Bg q n _ ih v3 X
theorem few_chooseLooks_c (q : Th) (n : Nat) (X : St) : Ct q nX2_chooseLooks 6 fvw [.ref (q.ad 57), .ref (q.ad 24), .ref (q.ad 26)] X (few_chooseLooks n X) := by
  refine ct_of (by decide +kernel) (Nat.le_of_ble_eq_true rfl) ?_
  unfold few_chooseLooks
  show G q _ _ 0 [(0, .ref (q.ad 57)), (1, .ref (q.ad 24)), (2, .ref (q.ad 26))] [] X _
  refine g_aload_n 0 dX2_chooseLooks_0 rfl rfl ?_
  refine g_iconst dX2_chooseLooks_1 rfl kic_1 ?_
  refine g_putC (t := .boolean) 57 3 rfl dX2_chooseLooks_2 rfl kkX2 flX2_24 (by decide) rfl rfl (by decide) rfl rfl (by decide +kernel) rfl rfl ?_
  refine g_aload_n 0 dX2_chooseLooks_5 rfl rfl ?_
  refine g_aload_n 2 dX2_chooseLooks_6 rfl rfl ?_
  refine g_cVIt (As := []) (st := [.ref (q.ad 57)]) 0 mF_wg rfl dX2_chooseLooks_7 rfl kkX9 (by decide) rfl vX9_isLed lkX2_41 (rmL rfl rfl) (tho_isLed_c q (stI X 57 3 (1 : Int32))) rfl rfl (Nat.le_of_ble_eq_true rfl) ?_
  refine g_putZ 57 4 rfl dX2_chooseLooks_10 rfl kkX2 flX2_47 (by decide) rfl rfl (by decide) rfl rfl rfl ?_
  refine g_nmX (fun X1 => ?_)
  refine g_iconst dX2_chooseLooks_13 rfl kic_0 ?_
  refine g_istore_n (lv' := [(3, .int (0 : Int32)), (0, .ref (q.ad 57)), (1, .ref (q.ad 24)), (2, .ref (q.ad 26))]) dX2_chooseLooks_14 rfl rfl (Nat.le_of_ble_eq_true rfl) rfl ?_
  refine g_sub [1, 2, 3, 0] rfl ?_
  refine few_chooseLooks_L15_g q n n (0 : Int32) X1
def few_answer (v1 : Int32) (X : St) : Option (Int32) :=
  (if (10 : Int32) < (X.1 57 7) then
  (some (-2 : Int32))
  else
  (if v1 = (-1 : Int32) then
  (some (X.1 57 7))
  else
  (if v1 < 0 then
  (some (-2 : Int32))
  else
  (if v1 < (X.1 57 7) then
  (if inB v1 16 then
  (some (X.1 76 (nx v1))) else none)
  else
  (some (-2 : Int32))))))
theorem few_answer_c (q : Th) (v1 : Int32) (X : St) : Ct q nX2_answer 0 (fir X) [.ref (q.ad 57), .int v1] X (few_answer v1 X) := by
  refine ct_of (by decide +kernel) (Nat.le_of_ble_eq_true rfl) ?_
  unfold few_answer
  show G q _ _ 0 [(0, .ref (q.ad 57)), (1, .int v1)] [] X _
  refine g_aload_n 0 dX2_answer_0 rfl rfl ?_
  refine g_getI 57 7 rfl dX2_answer_1 rfl kkX2 flX2_54 (by decide) rfl rfl (by decide) rfl ?_
  refine g_bipush dX2_answer_4 rfl kbi_10 ?_
  refine g_icmp_le dX2_answer_6 rfl rfl ?_ ?_
  · refine g_bipush dX2_answer_9 rfl kbi_m2 ?_
    exact g_iret dX2_answer_11 rfl rfl
  refine g_iload_n 1 dX2_answer_12 rfl rfl ?_
  refine g_iconst dX2_answer_13 rfl kic_m1 ?_
  refine g_icmp_ne dX2_answer_14 rfl rfl ?_ ?_
  · refine g_aload_n 0 dX2_answer_17 rfl rfl ?_
    refine g_getI 57 7 rfl dX2_answer_18 rfl kkX2 flX2_54 (by decide) rfl rfl (by decide) rfl ?_
    exact g_iret dX2_answer_21 rfl rfl
  refine g_iload_n 1 dX2_answer_22 rfl rfl ?_
  refine g_if_lt dX2_answer_23 rfl rfl ?_ ?_
  · refine g_bipush dX2_answer_43 rfl kbi_m2 ?_
    exact g_iret dX2_answer_45 rfl rfl
  refine g_iload_n 1 dX2_answer_26 rfl rfl ?_
  refine g_aload_n 0 dX2_answer_27 rfl rfl ?_
  refine g_getI 57 7 rfl dX2_answer_28 rfl kkX2 flX2_54 (by decide) rfl rfl (by decide) rfl ?_
  refine g_icmp_ge dX2_answer_31 rfl rfl ?_ ?_
  · refine g_aload_n 0 dX2_answer_34 rfl rfl ?_
    refine g_getR 57 1 76 rfl dX2_answer_35 rfl kkX2 flX2_16 (by decide) rfl rfl (by decide) rfl ?_
    refine g_iload_n 1 dX2_answer_38 rfl rfl ?_
    refine g_iald dX2_answer_39 rfl (by decide) rfl rfl ?_
    refine g_goto dX2_answer_40 rfl ?_
    exact g_iret dX2_answer_45 rfl rfl
  refine g_bipush dX2_answer_43 rfl kbi_m2 ?_
  exact g_iret dX2_answer_45 rfl rfl
