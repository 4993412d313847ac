/-! 13.rul: what the methods come to, and that they do -/
def rul_become (v2 : Int32) (X : St) : Option (St) :=
  ((some (stI X 20 3 (jmath_min (jmath_min v2 (128 : Int32)) (128 : Int32)))).bind fun X1 =>
  (if cpOk (0 : Int32) (0 : Int32) (X1.1 20 3) 128 128 then
  ((some (cpI X1 19 (nx (0 : Int32)) 21 (nx (0 : Int32)) (nx (X1.1 20 3)))).bind fun X2 =>
  (some X2)) else none))
theorem rul_become_c (q : Th) (v2 : Int32) (X : St) : Ct q nX4_become 2 fvw [.ref (q.ad 20), .ref (q.ad 19), .int v2] X (rul_become v2 X) := by
  refine ct_of (by decide +kernel) (Nat.le_of_ble_eq_true rfl) ?_
  unfold rul_become
  show G q _ _ 0 [(0, .ref (q.ad 20)), (1, .ref (q.ad 19)), (2, .int v2)] [] X _
  refine g_aload_n 0 dX4_become_0 rfl rfl ?_
  refine g_iload_n 2 dX4_become_1 rfl rfl ?_
  refine g_aload_n 1 dX4_become_2 rfl rfl ?_
  refine g_alen (v := 128) dX4_become_3 rfl (by decide) (by decide) (by decide +kernel) ?_
  refine g_mmin (st := [.ref (q.ad 20)]) rfl dX4_become_4 rfl lkX4_21 (rmL rfl rfl) (Nat.le_of_ble_eq_true rfl) ?_
  refine g_sipush dX4_become_7 rfl ksi_128 ?_
  refine g_mmin (st := [.ref (q.ad 20)]) rfl dX4_become_10 rfl lkX4_21 (rmL rfl rfl) (Nat.le_of_ble_eq_true rfl) ?_
  refine g_putI 20 3 rfl dX4_become_13 rfl kkX4 flX4_27 (by decide) rfl rfl (by decide) rfl rfl rfl ?_
  refine g_nmX (fun X1 => ?_)
  refine g_aload_n 1 dX4_become_16 rfl rfl ?_
  refine g_iconst dX4_become_17 rfl kic_0 ?_
  refine g_aload_n 0 dX4_become_18 rfl rfl ?_
  refine g_getR 20 0 21 rfl dX4_become_19 rfl kkX4 flX4_9 (by decide) rfl rfl (by decide) rfl ?_
  refine g_iconst dX4_become_22 rfl kic_0 ?_
  refine g_aload_n 0 dX4_become_23 rfl rfl ?_
  refine g_getI 20 3 rfl dX4_become_24 rfl kkX4 flX4_27 (by decide) rfl rfl (by decide) rfl ?_
  refine g_copyI (st := []) rfl dX4_become_27 rfl lkX4_31 ac_nat ac_sta ac_ini (by decide) (by decide) rfl rfl rfl rfl (Nat.le_of_ble_eq_true rfl) (Nat.le_of_ble_eq_true rfl) ?_
  refine g_nmX (fun X2 => ?_)
  exact g_vret dX4_become_30 rfl rfl
def rul_byRote (v0 : Int32) (v1 : Int32) (v2 : Int32) : Option (Int32) :=
  (if 0 < v2 then
  (if v2 = 0 then none else
  (if v1 = (2 : Int32) then
  (some (jmath_min (99 : Int32) ((2 : Int32) * (v0 / v2))))
  else
  (some (jmath_min (99 : Int32) (v0 / v2)))))
  else
  (some (0 : Int32)))
theorem rul_byRote_c (q : Th) (v0 : Int32) (v1 : Int32) (v2 : Int32) (X : St) : Ct q nX4_byRote 1 (fir X) [.int v0, .int v1, .int v2] X (rul_byRote v0 v1 v2) := by
  refine ct_of (by decide +kernel) (Nat.le_of_ble_eq_true rfl) ?_
  unfold rul_byRote
  show G q _ _ 0 [(0, .int v0), (1, .int v1), (2, .int v2)] [] X _
  refine g_iload_n 2 dX4_byRote_0 rfl rfl ?_
  refine g_if_gt dX4_byRote_1 rfl rfl ?_ ?_
  · refine g_iload_n 0 dX4_byRote_6 rfl rfl ?_
    refine g_iload_n 2 dX4_byRote_7 rfl rfl ?_
    refine g_idiv dX4_byRote_8 rfl ?_
    refine g_istore_n (lv' := [(3, .int (v0 / v2)), (0, .int v0), (1, .int v1), (2, .int v2)]) dX4_byRote_9 rfl rfl (Nat.le_of_ble_eq_true rfl) rfl ?_
    refine g_bipush dX4_byRote_10 rfl kbi_99 ?_
    refine g_iload_n 2 dX4_byRote_12 rfl rfl ?_
    refine g_iconst dX4_byRote_13 rfl kic_2 ?_
    refine g_icmp_ne dX4_byRote_14 rfl rfl ?_ ?_
    · refine g_iconst dX4_byRote_17 rfl kic_2 ?_
      refine g_iload_n 0 dX4_byRote_18 rfl rfl ?_
      refine g_imul dX4_byRote_19 rfl ?_
      refine g_goto dX4_byRote_20 rfl ?_
      refine g_mmin (st := []) rfl dX4_byRote_24 rfl lkX4_21 (rmL rfl rfl) (Nat.le_of_ble_eq_true rfl) ?_
      exact g_iret dX4_byRote_27 rfl rfl
    refine g_iload_n 0 dX4_byRote_23 rfl rfl ?_
    refine g_mmin (st := []) rfl dX4_byRote_24 rfl lkX4_21 (rmL rfl rfl) (Nat.le_of_ble_eq_true rfl) ?_
    exact g_iret dX4_byRote_27 rfl rfl
  refine g_iconst dX4_byRote_4 rfl kic_0 ?_
  exact g_iret dX4_byRote_5 rfl rfl
def rul_pop (X : St) : Option (Int32 × St) :=
  (if 0 < (X.1 20 4) then
  (if inB ((stI X 20 4 ((X.1 20 4) - (1 : Int32))).1 20 4) 128 then
  (some (((stI X 20 4 ((X.1 20 4) - (1 : Int32))).1 22 (nx ((stI X 20 4 ((X.1 20 4) - (1 : Int32))).1 20 4))), (stI X 20 4 ((X.1 20 4) - (1 : Int32))))) else none)
  else
  (some ((0 : Int32), X)))
theorem rul_pop_c (q : Th) (X : St) : Ct q nX4_pop 0 fiw [.ref (q.ad 20)] X (rul_pop X) := by
  refine ct_of (by decide +kernel) (Nat.le_of_ble_eq_true rfl) ?_
  unfold rul_pop
  show G q _ _ 0 [(0, .ref (q.ad 20))] [] X _
  refine g_aload_n 0 dX4_pop_0 rfl rfl ?_
  refine g_getI 20 4 rfl dX4_pop_1 rfl kkX4 flX4_50 (by decide) rfl rfl (by decide) rfl ?_
  refine g_if_gt dX4_pop_4 rfl rfl ?_ ?_
  · refine g_aload_n 0 dX4_pop_9 rfl rfl ?_
    refine g_dup dX4_pop_10 rfl rfl ?_
    refine g_getI 20 4 rfl dX4_pop_11 rfl kkX4 flX4_50 (by decide) rfl rfl (by decide) rfl ?_
    refine g_iconst dX4_pop_14 rfl kic_1 ?_
    refine g_isub dX4_pop_15 rfl ?_
    refine g_putI 20 4 rfl dX4_pop_16 rfl kkX4 flX4_50 (by decide) rfl rfl (by decide) rfl rfl rfl ?_
    refine g_aload_n 0 dX4_pop_19 rfl rfl ?_
    refine g_getR 20 1 22 rfl dX4_pop_20 rfl kkX4 flX4_15 (by decide) rfl rfl (by decide) rfl ?_
    refine g_aload_n 0 dX4_pop_23 rfl rfl ?_
    refine g_getI 20 4 rfl dX4_pop_24 rfl kkX4 flX4_50 (by decide) rfl rfl (by decide) rfl ?_
    refine g_iald dX4_pop_27 rfl (by decide) rfl rfl ?_
    exact g_iret dX4_pop_28 rfl rfl
  refine g_iconst dX4_pop_7 rfl kic_0 ?_
  exact g_iret dX4_pop_8 rfl rfl
def rul_push (v1 : Int32) (X : St) : Option (St) :=
  (if (X.1 20 4) < (128 : Int32) then
  (if inB (X.1 20 4) 128 then
  ((some (stI (stI X 22 (nx (X.1 20 4)) v1) 20 4 (((stI X 22 (nx (X.1 20 4)) v1).1 20 4) + (1 : Int32)))).bind fun X1 =>
  (some X1)) else none)
  else
  (some X))
theorem rul_push_c (q : Th) (v1 : Int32) (X : St) : Ct q nX4_push 0 fvw [.ref (q.ad 20), .int v1] X (rul_push v1 X) := by
  refine ct_of (by decide +kernel) (Nat.le_of_ble_eq_true rfl) ?_
  unfold rul_push
  show G q _ _ 0 [(0, .ref (q.ad 20)), (1, .int v1)] [] X _
  refine g_aload_n 0 dX4_push_0 rfl rfl ?_
  refine g_getI 20 4 rfl dX4_push_1 rfl kkX4 flX4_50 (by decide) rfl rfl (by decide) rfl ?_
  refine g_aload_n 0 dX4_push_4 rfl rfl ?_
  refine g_getR 20 1 22 rfl dX4_push_5 rfl kkX4 flX4_15 (by decide) rfl rfl (by decide) rfl ?_
  refine g_alen (v := 128) dX4_push_8 rfl (by decide) (by decide) (by decide +kernel) ?_
  refine g_icmp_ge dX4_push_9 rfl rfl ?_ ?_
  · refine g_aload_n 0 dX4_push_12 rfl rfl ?_
    refine g_getR 20 1 22 rfl dX4_push_13 rfl kkX4 flX4_15 (by decide) rfl rfl (by decide) rfl ?_
    refine g_aload_n 0 dX4_push_16 rfl rfl ?_
    refine g_getI 20 4 rfl dX4_push_17 rfl kkX4 flX4_50 (by decide) rfl rfl (by decide) rfl ?_
    refine g_iload_n 1 dX4_push_20 rfl rfl ?_
    refine g_iast dX4_push_21 rfl (by decide) rfl rfl ?_
    refine g_aload_n 0 dX4_push_22 rfl rfl ?_
    refine g_dup dX4_push_23 rfl rfl ?_
    refine g_getI 20 4 rfl dX4_push_24 rfl kkX4 flX4_50 (by decide) rfl rfl (by decide) rfl ?_
    refine g_iconst dX4_push_27 rfl kic_1 ?_
    refine g_iadd dX4_push_28 rfl ?_
    refine g_putI 20 4 rfl dX4_push_29 rfl kkX4 flX4_50 (by decide) rfl rfl (by decide) rfl rfl rfl ?_
    refine g_nmX (fun X1 => ?_)
    exact g_vret dX4_push_32 rfl rfl
  exact g_vret dX4_push_32 rfl rfl
def rul_joined (v0 : Int32) (v1 : Int32) (v2 : Int32) : Option (Int32) :=
  (if v0 = (38 : Int32) then
  (if v1 = 0 then
  (some (0 : Int32))
  else
  (if v2 = 0 then
  (some (0 : Int32))
  else
  (some (1 : Int32))))
  else
  (if v0 = (42 : Int32) then
  (some (v1 * v2))
  else
  (if v0 = (43 : Int32) then
  (some (v1 + v2))
  else
  (if v0 = (45 : Int32) then
  (some (v1 - v2))
  else
  (if v0 = (47 : Int32) then
  (if v2 = 0 then
  (some (0 : Int32))
  else
  (if v2 = 0 then none else
  (some (v1 / v2))))
  else
  (if v0 = (60 : Int32) then
  (if v1 < v2 then
  (some (1 : Int32))
  else
  (some (0 : Int32)))
  else
  (if v0 = (61 : Int32) then
  (if v1 = v2 then
  (some (1 : Int32))
  else
  (some (0 : Int32)))
  else
  (if v0 = (62 : Int32) then
  (if v2 < v1 then
  (some (1 : Int32))
  else
  (some (0 : Int32)))
  else
  (if v0 = (124 : Int32) then
  (if v1 = 0 then
  (if v2 = 0 then
  (some (0 : Int32))
  else
  (some (1 : Int32)))
  else
  (some (1 : Int32)))
  else
  (if v2 = 0 then
  (some (0 : Int32))
  else
  (if v2 = 0 then none else
  (some (irm v1 v2)))))))))))))
theorem rul_joined_c (q : Th) (v0 : Int32) (v1 : Int32) (v2 : Int32) (X : St) : Ct q nX4_joined 0 (fir X) [.int v0, .int v1, .int v2] X (rul_joined v0 v1 v2) := by
  refine ct_of (by decide +kernel) (Nat.le_of_ble_eq_true rfl) ?_
  unfold rul_joined
  show G q _ _ 0 [(0, .int v0), (1, .int v1), (2, .int v2)] [] X _
  refine g_iload_n 0 dX4_joined_0 rfl rfl ?_
  refine g_case (z := (38 : Int32)) (fun hc => ?_) (fun hc0 => ?_)
  · refine g_lookup dX4_joined_1 (by decide) (by rw [hc] <;> rfl) rfl ?_
    refine g_iload_n 1 dX4_joined_98 rfl rfl ?_
    refine g_if_eq dX4_joined_99 rfl rfl ?_ ?_
    · refine g_iconst dX4_joined_110 rfl kic_0 ?_
      exact g_iret dX4_joined_111 rfl rfl
    refine g_iload_n 2 dX4_joined_102 rfl rfl ?_
    refine g_if_eq dX4_joined_103 rfl rfl ?_ ?_
    · refine g_iconst dX4_joined_110 rfl kic_0 ?_
      exact g_iret dX4_joined_111 rfl rfl
    refine g_iconst dX4_joined_106 rfl kic_1 ?_
    refine g_goto dX4_joined_107 rfl ?_
    exact g_iret dX4_joined_111 rfl rfl
  refine g_case (z := (42 : Int32)) (fun hc => ?_) (fun hc1 => ?_)
  · refine g_lookup dX4_joined_1 (by decide) (by rw [hc] <;> rfl) rfl ?_
    refine g_iload_n 1 dX4_joined_153 rfl rfl ?_
    refine g_iload_n 2 dX4_joined_154 rfl rfl ?_
    refine g_imul dX4_joined_155 rfl ?_
    exact g_iret dX4_joined_156 rfl rfl
  refine g_case (z := (43 : Int32)) (fun hc => ?_) (fun hc2 => ?_)
  · refine g_lookup dX4_joined_1 (by decide) (by rw [hc] <;> rfl) rfl ?_
    refine g_iload_n 1 dX4_joined_145 rfl rfl ?_
    refine g_iload_n 2 dX4_joined_146 rfl rfl ?_
    refine g_iadd dX4_joined_147 rfl ?_
    exact g_iret dX4_joined_148 rfl rfl
  refine g_case (z := (45 : Int32)) (fun hc => ?_) (fun hc3 => ?_)
  · refine g_lookup dX4_joined_1 (by decide) (by rw [hc] <;> rfl) rfl ?_
    refine g_iload_n 1 dX4_joined_149 rfl rfl ?_
    refine g_iload_n 2 dX4_joined_150 rfl rfl ?_
    refine g_isub dX4_joined_151 rfl ?_
    exact g_iret dX4_joined_152 rfl rfl
  refine g_case (z := (47 : Int32)) (fun hc => ?_) (fun hc4 => ?_)
  · refine g_lookup dX4_joined_1 (by decide) (by rw [hc] <;> rfl) rfl ?_
    refine g_iload_n 2 dX4_joined_157 rfl rfl ?_
    refine g_if_ne dX4_joined_158 rfl rfl ?_ ?_
    · refine g_iconst dX4_joined_161 rfl kic_0 ?_
      refine g_goto dX4_joined_162 rfl ?_
      exact g_iret dX4_joined_168 rfl rfl
    refine g_iload_n 1 dX4_joined_165 rfl rfl ?_
    refine g_iload_n 2 dX4_joined_166 rfl rfl ?_
    refine g_idiv dX4_joined_167 rfl ?_
    exact g_iret dX4_joined_168 rfl rfl
  refine g_case (z := (60 : Int32)) (fun hc => ?_) (fun hc5 => ?_)
  · refine g_lookup dX4_joined_1 (by decide) (by rw [hc] <;> rfl) rfl ?_
    refine g_iload_n 1 dX4_joined_112 rfl rfl ?_
    refine g_iload_n 2 dX4_joined_113 rfl rfl ?_
    refine g_icmp_ge dX4_joined_114 rfl rfl ?_ ?_
    · refine g_iconst dX4_joined_117 rfl kic_1 ?_
      refine g_goto dX4_joined_118 rfl ?_
      exact g_iret dX4_joined_122 rfl rfl
    refine g_iconst dX4_joined_121 rfl kic_0 ?_
    exact g_iret dX4_joined_122 rfl rfl
  refine g_case (z := (61 : Int32)) (fun hc => ?_) (fun hc6 => ?_)
  · refine g_lookup dX4_joined_1 (by decide) (by rw [hc] <;> rfl) rfl ?_
    refine g_iload_n 1 dX4_joined_123 rfl rfl ?_
    refine g_iload_n 2 dX4_joined_124 rfl rfl ?_
    refine g_icmp_ne dX4_joined_125 rfl rfl ?_ ?_
    · refine g_iconst dX4_joined_128 rfl kic_1 ?_
      refine g_goto dX4_joined_129 rfl ?_
      exact g_iret dX4_joined_133 rfl rfl
    refine g_iconst dX4_joined_132 rfl kic_0 ?_
    exact g_iret dX4_joined_133 rfl rfl
  refine g_case (z := (62 : Int32)) (fun hc => ?_) (fun hc7 => ?_)
  · refine g_lookup dX4_joined_1 (by decide) (by rw [hc] <;> rfl) rfl ?_
    refine g_iload_n 1 dX4_joined_134 rfl rfl ?_
    refine g_iload_n 2 dX4_joined_135 rfl rfl ?_
    refine g_icmp_le dX4_joined_136 rfl rfl ?_ ?_
    · refine g_iconst dX4_joined_139 rfl kic_1 ?_
      refine g_goto dX4_joined_140 rfl ?_
      exact g_iret dX4_joined_144 rfl rfl
    refine g_iconst dX4_joined_143 rfl kic_0 ?_
    exact g_iret dX4_joined_144 rfl rfl
  refine g_case (z := (124 : Int32)) (fun hc => ?_) (fun hc8 => ?_)
  · refine g_lookup dX4_joined_1 (by decide) (by rw [hc] <;> rfl) rfl ?_
    refine g_iload_n 1 dX4_joined_84 rfl rfl ?_
    refine g_if_ne dX4_joined_85 rfl rfl ?_ ?_
    · refine g_iload_n 2 dX4_joined_88 rfl rfl ?_
      refine g_if_eq dX4_joined_89 rfl rfl ?_ ?_
      · refine g_iconst dX4_joined_96 rfl kic_0 ?_
        exact g_iret dX4_joined_97 rfl rfl
      refine g_iconst dX4_joined_92 rfl kic_1 ?_
      refine g_goto dX4_joined_93 rfl ?_
      exact g_iret dX4_joined_97 rfl rfl
    refine g_iconst dX4_joined_92 rfl kic_1 ?_
    refine g_goto dX4_joined_93 rfl ?_
    exact g_iret dX4_joined_97 rfl rfl
  refine g_lookup dX4_joined_1 (by decide) (by show Op.lookupswitch.offset [(38, 97), (42, 152), (43, 144), (45, 148), (47, 156), (60, 111), (61, 122), (62, 133), (124, 83)] (168) _ = 168; rw [lv_osw hc0 (by decide), lv_osw hc1 (by decide), lv_osw hc2 (by decide), lv_osw hc3 (by decide), lv_osw hc4 (by decide), lv_osw hc5 (by decide), lv_osw hc6 (by decide), lv_osw hc7 (by decide), lv_osw hc8 (by decide)]; rfl) rfl ?_
  refine g_iload_n 2 dX4_joined_169 rfl rfl ?_
  refine g_if_ne dX4_joined_170 rfl rfl ?_ ?_
  · refine g_iconst dX4_joined_173 rfl kic_0 ?_
    refine g_goto dX4_joined_174 rfl ?_
    exact g_iret dX4_joined_180 rfl rfl
  refine g_iload_n 1 dX4_joined_177 rfl rfl ?_
  refine g_iload_n 2 dX4_joined_178 rfl rfl ?_
  refine g_irem dX4_joined_179 rfl ?_
  exact g_iret dX4_joined_180 rfl rfl
def rul_worth (v1 : Int32) (X : St) : Option (Int32 × St) :=
  (if v1 < 0 then
  (if v1 < (-6 : Int32) then
  ((rul_pop X).bind fun (c2, X1) =>
  (if v1 = (-126 : Int32) then
  (some ((-c2), X1))
  else
  (if v1 = (-33 : Int32) then
  (if c2 = 0 then
  (some ((1 : Int32), X1))
  else
  (some ((0 : Int32), X1)))
  else
  ((rul_pop X1).bind fun (c4, X3) =>
  ((rul_joined (-v1) c4 c2).bind fun c5 =>
  (some (c5, X3)))))))
  else
  (if inB ((-1 : Int32) - v1) 6 then
  (some ((X.1 23 (nx ((-1 : Int32) - v1))), X)) else none))
  else
  (some (v1, X)))
theorem rul_worth_c (q : Th) (v1 : Int32) (X : St) : Ct q nX4_worth 1 fiw [.ref (q.ad 20), .int v1] X (rul_worth v1 X) := by
  refine ct_of (by decide +kernel) (Nat.le_of_ble_eq_true rfl) ?_
  unfold rul_worth
  show G q _ _ 0 [(0, .ref (q.ad 20)), (1, .int v1)] [] X _
  refine g_iload_n 1 dX4_worth_0 rfl rfl ?_
  refine g_if_lt dX4_worth_1 rfl rfl ?_ ?_
  · refine g_iload_n 1 dX4_worth_6 rfl rfl ?_
    refine g_bipush dX4_worth_7 rfl kbi_m6 ?_
    refine g_icmp_lt dX4_worth_9 rfl rfl ?_ ?_
    · refine g_aload_n 0 dX4_worth_21 rfl rfl ?_
      refine g_cVIw (As := []) (st := []) 0 mF_wg rfl dX4_worth_22 rfl kkX4 (by decide) rfl vX4_pop lkX4_53 (rmL rfl rfl) (rul_pop_c q X) rfl rfl (Nat.le_of_ble_eq_true rfl) (fun c2 X1 => ?_)
      refine g_istore_n (lv' := [(2, .int c2), (0, .ref (q.ad 20)), (1, .int v1)]) dX4_worth_25 rfl rfl (Nat.le_of_ble_eq_true rfl) rfl ?_
      refine g_iload_n 2 dX4_worth_26 rfl rfl ?_
      refine g_bipush dX4_worth_27 rfl kbi_m126 ?_
      refine g_icmp_ne dX4_worth_29 rfl rfl ?_ ?_
      · refine g_iload_n 0 dX4_worth_32 rfl rfl ?_
        refine g_ineg dX4_worth_33 rfl ?_
        exact g_iret dX4_worth_34 rfl rfl
      refine g_iload_n 2 dX4_worth_35 rfl rfl ?_
      refine g_bipush dX4_worth_36 rfl kbi_m33 ?_
      refine g_icmp_ne dX4_worth_38 rfl rfl ?_ ?_
      · refine g_iload_n 0 dX4_worth_41 rfl rfl ?_
        refine g_if_ne dX4_worth_42 rfl rfl ?_ ?_
        · refine g_iconst dX4_worth_45 rfl kic_1 ?_
          refine g_goto dX4_worth_46 rfl ?_
          exact g_iret dX4_worth_50 rfl rfl
        refine g_iconst dX4_worth_49 rfl kic_0 ?_
        exact g_iret dX4_worth_50 rfl rfl
      refine g_iload_n 2 dX4_worth_51 rfl rfl ?_
      refine g_ineg dX4_worth_52 rfl ?_
      refine g_aload_n 1 dX4_worth_53 rfl rfl ?_
      refine g_cVIw (As := []) (st := [.int (-v1)]) 0 mF_wg rfl dX4_worth_54 rfl kkX4 (by decide) rfl vX4_pop lkX4_53 (rmL rfl rfl) (rul_pop_c q X1) rfl rfl (Nat.le_of_ble_eq_true rfl) (fun c4 X3 => ?_)
      refine g_iload_n 0 dX4_worth_57 rfl rfl ?_
      refine g_cSIr (As := [.int (-v1), .int c4, .int c2]) (st := []) 3 mF_wg rfl dX4_worth_58 rfl vX4_joined lkX4_64 (rmL rfl rfl) (rul_joined_c q (-v1) c4 c2 X3) rfl rfl (Nat.le_of_ble_eq_true rfl) (fun c5 => ?_)
      exact g_iret dX4_worth_61 rfl rfl
    refine g_aload_n 0 dX4_worth_12 rfl rfl ?_
    refine g_getR 20 2 23 rfl dX4_worth_13 rfl kkX4 flX4_18 (by decide) rfl rfl (by decide) rfl ?_
    refine g_iconst dX4_worth_16 rfl kic_m1 ?_
    refine g_iload_n 1 dX4_worth_17 rfl rfl ?_
    refine g_isub dX4_worth_18 rfl ?_
    refine g_iald dX4_worth_19 rfl (by decide) rfl rfl ?_
    exact g_iret dX4_worth_20 rfl rfl
  refine g_iload_n 1 dX4_worth_4 rfl rfl ?_
  exact g_iret dX4_worth_5 rfl rfl
def rul_byText_J76 (n : Nat) (k9 : Int32 → Int32 → St → Option (Int32 × St)) (v1 : Int32) (v2 : Int32) (v3 : Int32) (X : St) : Option (Int32 × St) :=
(if v1 = 0 then
((rul_worth v3 X).bind fun (c6, X5) =>
((rul_push c6 X5).bind fun X7 =>
(k9 v1 (v2 + (1 : Int32)) X7)))
else
(k9 v1 (v2 + (1 : Int32)) X))
def rul_byText_J39 (n : Nat) (k9 : Int32 → Int32 → St → Option (Int32 × St)) (v1 : Int32) (v2 : Int32) (v3 : Int32) (X : St) : Option (Int32 × St) :=
(if v3 = (-59 : Int32) then
(k9 (0 : Int32) (v2 + (1 : Int32)) X)
else
(if v3 = (-63 : Int32) then
(if v1 = 0 then
((rul_pop X).bind fun (c4, X3) =>
(if c4 = 0 then
(k9 (1 : Int32) (v2 + (1 : Int32)) X3)
else
(k9 (0 : Int32) (v2 + (1 : Int32)) X3)))
else
(rul_byText_J76 n k9 v1 v2 v3 X))
else
(rul_byText_J76 n k9 v1 v2 v3 X)))
def rul_byText_L9_B (n : Nat) (rec : Int32 → Int32 → St → Option (Int32 × St)) (v1 : Int32) (v2 : Int32) (X : St) : Option (Int32 × St) :=
(if v2 < (X.1 20 3) then
(if inB v2 128 then
(if (X.1 21 (nx v2)) = (-59 : Int32) then
(if v1 = 0 then
((rul_pop X).bind fun (c2, X1) =>
(some (c2, X1)))
else
(rul_byText_J39 n rec v1 v2 (X.1 21 (nx v2)) X))
else
(rul_byText_J39 n rec v1 v2 (X.1 21 (nx v2)) X)) else none)
else
(some ((0 : Int32), X)))
def rul_byText_L9 (n : Nat) : Nat → Int32 → Int32 → St → Option (Int32 × St)
  | 0 => fun _ _ _ => none
  | w + 1 => rul_byText_L9_B n (rul_byText_L9 n w)
def rul_byText (n : Nat) (X : St) : Option (Int32 × St) :=
  (rul_byText_L9 n n (0 : Int32) (0 : Int32) (stI X 20 4 (0 : Int32)))
theorem rul_byText_J76_g (q : Th) (n : Nat) (k9 : Int32 → Int32 → St → Option (Int32 × St)) (hk9 : ∀ v1 v2 X, G q (mF q nX4_byText RX4 2) fiw 9 [(0, .ref (q.ad 20)), (1, .int v1), (2, .int v2)] [] X (k9 v1 v2 X)) (v1 : Int32) (v2 : Int32) (v3 : Int32) (X : St) : G q (mF q nX4_byText RX4 2) fiw 76 [(0, .ref (q.ad 20)), (1, .int v1), (2, .int v2), (3, .int v3)] [] X (rul_byText_J76 n k9 v1 v2 v3 X) := by
  unfold rul_byText_J76
  refine g_iload_n 1 dX4_byText_76 rfl rfl ?_
  refine g_if_ne dX4_byText_77 rfl rfl ?_ ?_
  · refine g_aload_n 0 dX4_byText_80 rfl rfl ?_
    refine g_aload_n 0 dX4_byText_81 rfl rfl ?_
    refine g_iload_n 3 dX4_byText_82 rfl rfl ?_
    refine g_cVIw (As := [.int v3]) (st := [.ref (q.ad 20)]) 1 mF_wg rfl dX4_byText_83 rfl kkX4 (by decide) rfl vX4_worth lkX4_56 (rmL rfl rfl) (rul_worth_c q v3 X) rfl rfl (Nat.le_of_ble_eq_true rfl) (fun c6 X5 => ?_)
    refine g_cVVw (As := [.int c6]) (st := []) 1 mF_wg rfl dX4_byText_86 rfl kkX4 (by decide) rfl vX4_push lkX4_60 (rmL rfl rfl) (rul_push_c q c6 X5) rfl rfl (Nat.le_of_ble_eq_true rfl) (fun X7 => ?_)
    refine g_inc (lv' := [(2, .int (v2 + (1 : Int32))), (0, .ref (q.ad 20)), (1, .int v1), (3, .int v3)]) 2 dX4_byText_89 rfl rfl kic_1 (Nat.le_of_ble_eq_true rfl) rfl ?_
    refine g_goto dX4_byText_92 rfl ?_
    refine g_sub [1, 2, 0] rfl ?_
    exact hk9 v1 (v2 + (1 : Int32)) X7
  refine g_inc (lv' := [(2, .int (v2 + (1 : Int32))), (0, .ref (q.ad 20)), (1, .int v1), (3, .int v3)]) 2 dX4_byText_89 rfl rfl kic_1 (Nat.le_of_ble_eq_true rfl) rfl ?_
  refine g_goto dX4_byText_92 rfl ?_
  refine g_sub [1, 2, 0] rfl ?_
  exact hk9 v1 (v2 + (1 : Int32)) X
theorem rul_byText_J39_g (q : Th) (n : Nat) (k9 : Int32 → Int32 → St → Option (Int32 × St)) (hk9 : ∀ v1 v2 X, G q (mF q nX4_byText RX4 2) fiw 9 [(0, .ref (q.ad 20)), (1, .int v1), (2, .int v2)] [] X (k9 v1 v2 X)) (v1 : Int32) (v2 : Int32) (v3 : Int32) (X : St) : G q (mF q nX4_byText RX4 2) fiw 39 [(0, .ref (q.ad 20)), (1, .int v1), (2, .int v2), (3, .int v3)] [] X (rul_byText_J39 n k9 v1 v2 v3 X) := by
  unfold rul_byText_J39
  refine g_iload_n 3 dX4_byText_39 rfl rfl ?_
  refine g_bipush dX4_byText_40 rfl kbi_m59 ?_
  refine g_icmp_ne dX4_byText_42 rfl rfl ?_ ?_
  · refine g_iconst dX4_byText_45 rfl kic_0 ?_
    refine g_istore_n (lv' := [(1, .int (0 : Int32)), (0, .ref (q.ad 20)), (2, .int v2), (3, .int v3)]) dX4_byText_46 rfl rfl (Nat.le_of_ble_eq_true rfl) rfl ?_
    refine g_goto dX4_byText_47 rfl ?_
    refine g_inc (lv' := [(2, .int (v2 + (1 : Int32))), (1, .int (0 : Int32)), (0, .ref (q.ad 20)), (3, .int v3)]) 2 dX4_byText_89 rfl rfl kic_1 (Nat.le_of_ble_eq_true rfl) rfl ?_
    refine g_goto dX4_byText_92 rfl ?_
    refine g_sub [2, 1, 0] rfl ?_
    exact hk9 (0 : Int32) (v2 + (1 : Int32)) X
  refine g_iload_n 3 dX4_byText_50 rfl rfl ?_
  refine g_bipush dX4_byText_51 rfl kbi_m63 ?_
  refine g_icmp_ne dX4_byText_53 rfl rfl ?_ ?_
  · refine g_iload_n 1 dX4_byText_56 rfl rfl ?_
    refine g_if_ne dX4_byText_57 rfl rfl ?_ ?_
    · refine g_aload_n 0 dX4_byText_60 rfl rfl ?_
      refine g_cVIw (As := []) (st := []) 0 mF_wg rfl dX4_byText_61 rfl kkX4 (by decide) rfl vX4_pop lkX4_53 (rmL rfl rfl) (rul_pop_c q X) rfl rfl (Nat.le_of_ble_eq_true rfl) (fun c4 X3 => ?_)
      refine g_if_ne dX4_byText_64 rfl rfl ?_ ?_
      · refine g_iconst dX4_byText_67 rfl kic_1 ?_
        refine g_goto dX4_byText_68 rfl ?_
        refine g_istore_n (lv' := [(1, .int (1 : Int32)), (0, .ref (q.ad 20)), (2, .int v2), (3, .int v3)]) dX4_byText_72 rfl rfl (Nat.le_of_ble_eq_true rfl) rfl ?_
        refine g_goto dX4_byText_73 rfl ?_
        refine g_inc (lv' := [(2, .int (v2 + (1 : Int32))), (1, .int (1 : Int32)), (0, .ref (q.ad 20)), (3, .int v3)]) 2 dX4_byText_89 rfl rfl kic_1 (Nat.le_of_ble_eq_true rfl) rfl ?_
        refine g_goto dX4_byText_92 rfl ?_
        refine g_sub [2, 1, 0] rfl ?_
        exact hk9 (1 : Int32) (v2 + (1 : Int32)) X3
      refine g_iconst dX4_byText_71 rfl kic_0 ?_
      refine g_istore_n (lv' := [(1, .int (0 : Int32)), (0, .ref (q.ad 20)), (2, .int v2), (3, .int v3)]) dX4_byText_72 rfl rfl (Nat.le_of_ble_eq_true rfl) rfl ?_
      refine g_goto dX4_byText_73 rfl ?_
      refine g_inc (lv' := [(2, .int (v2 + (1 : Int32))), (1, .int (0 : Int32)), (0, .ref (q.ad 20)), (3, .int v3)]) 2 dX4_byText_89 rfl rfl kic_1 (Nat.le_of_ble_eq_true rfl) rfl ?_
      refine g_goto dX4_byText_92 rfl ?_
      refine g_sub [2, 1, 0] rfl ?_
      exact hk9 (0 : Int32) (v2 + (1 : Int32)) X3
    refine g_sub [0, 1, 2, 3] rfl ?_
    exact rul_byText_J76_g q n _ hk9 v1 v2 v3 X
  refine g_sub [0, 1, 2, 3] rfl ?_
  exact rul_byText_J76_g q n _ hk9 v1 v2 v3 X
theorem rul_byText_L9_Bg (q : Th) (n : Nat) (rec : Int32 → Int32 → St → Option (Int32 × St)) (hrec : ∀ v1 v2 X, G q (mF q nX4_byText RX4 2) fiw 9 [(0, .ref (q.ad 20)), (1, .int v1), (2, .int v2)] [] X (rec v1 v2 X)) (v1 : Int32) (v2 : Int32) (X : St) : G q (mF q nX4_byText RX4 2) fiw 9 [(0, .ref (q.ad 20)), (1, .int v1), (2, .int v2)] [] X (rul_byText_L9_B n rec v1 v2 X) := by
  unfold rul_byText_L9_B
  refine g_iload_n 2 dX4_byText_9 rfl rfl ?_
  refine g_aload_n 0 dX4_byText_10 rfl rfl ?_
  refine g_getI 20 3 rfl dX4_byText_11 rfl kkX4 flX4_27 (by decide) rfl rfl (by decide) rfl ?_
  refine g_icmp_ge dX4_byText_14 rfl rfl ?_ ?_
  · refine g_aload_n 0 dX4_byText_17 rfl rfl ?_
    refine g_getR 20 0 21 rfl dX4_byText_18 rfl kkX4 flX4_9 (by decide) rfl rfl (by decide) rfl ?_
    refine g_iload_n 2 dX4_byText_21 rfl rfl ?_
    refine g_iald dX4_byText_22 rfl (by decide) rfl rfl ?_
    refine g_istore_n (lv' := [(3, .int (X.1 21 (nx v2))), (0, .ref (q.ad 20)), (1, .int v1), (2, .int v2)]) dX4_byText_23 rfl rfl (Nat.le_of_ble_eq_true rfl) rfl ?_
    refine g_iload_n 0 dX4_byText_24 rfl rfl ?_
    refine g_bipush dX4_byText_25 rfl kbi_m59 ?_
    refine g_icmp_ne dX4_byText_27 rfl rfl ?_ ?_
    · refine g_iload_n 2 dX4_byText_30 rfl rfl ?_
      refine g_if_ne dX4_byText_31 rfl rfl ?_ ?_
      · refine g_aload_n 1 dX4_byText_34 rfl rfl ?_
        refine g_cVIw (As := []) (st := []) 0 mF_wg rfl dX4_byText_35 rfl kkX4 (by decide) rfl vX4_pop lkX4_53 (rmL rfl rfl) (rul_pop_c q X) rfl rfl (Nat.le_of_ble_eq_true rfl) (fun c2 X1 => ?_)
        exact g_iret dX4_byText_38 rfl rfl
      refine g_sub [1, 2, 3, 0] rfl ?_
      exact rul_byText_J39_g q n _ hrec v1 v2 (X.1 21 (nx v2)) X
    refine g_sub [1, 2, 3, 0] rfl ?_
    exact rul_byText_J39_g q n _ hrec v1 v2 (X.1 21 (nx v2)) X
  refine g_iconst dX4_byText_95 rfl kic_0 ?_
  exact g_iret dX4_byText_96 rfl rfl
theorem rul_byText_L9_g (q : Th) (n : Nat) : ∀ (w : Nat) (v1 : Int32) (v2 : Int32) (X : St), G q (mF q nX4_byText RX4 2) fiw 9 [(0, .ref (q.ad 20)), (1, .int v1), (2, .int v2)] [] X (rul_byText_L9 n w v1 v2 X) := by
  intro w
  induction w with
  | zero => intro v1 v2 X; exact g_none
  | succ w ih => intro v1 v2 X; exact rul_byText_L9_Bg q n _ ih v1 v2 X
theorem rul_byText_c (q : Th) (n : Nat) (X : St) : Ct q nX4_byText 2 fiw [.ref (q.ad 20)] X (rul_byText n X) := by
  refine ct_of (by decide +kernel) (Nat.le_of_ble_eq_true rfl) ?_
  unfold rul_byText
  show G q _ _ 0 [(0, .ref (q.ad 20))] [] X _
  refine g_iconst dX4_byText_0 rfl kic_0 ?_
  refine g_istore_n (lv' := [(1, .int (0 : Int32)), (0, .ref (q.ad 20))]) dX4_byText_1 rfl rfl (Nat.le_of_ble_eq_true rfl) rfl ?_
  refine g_aload_n 1 dX4_byText_2 rfl rfl ?_
  refine g_iconst dX4_byText_3 rfl kic_0 ?_
  refine g_putI 20 4 rfl dX4_byText_4 rfl kkX4 flX4_50 (by decide) rfl rfl (by decide) rfl rfl rfl ?_
  refine g_iconst dX4_byText_7 rfl kic_0 ?_
  refine g_istore_n (lv' := [(2, .int (0 : Int32)), (1, .int (0 : Int32)), (0, .ref (q.ad 20))]) dX4_byText_8 rfl rfl (Nat.le_of_ble_eq_true rfl) rfl ?_
  refine g_sub [2, 1, 0] rfl ?_
  refine rul_byText_L9_g q n n (0 : Int32) (0 : Int32) (stI X 20 4 (0 : Int32))
def rul_marks (n : Nat) (v1 : Int32) (v2 : Int32) (v3 : Int32) (v4 : Int32) (v5 : Int32) (v6 : Int32) (X : St) : Option (Int32 × St) :=
  (if (X.1 20 3) = 0 then
  ((rul_byRote v1 v2 v6).bind fun c1 =>
  (some (c1, X)))
  else
  ((some (stI (stI (stI X 23 (nx (0 : Int32)) v1) 23 (nx (1 : Int32)) v2) 23 (nx (2 : Int32)) v3)).bind fun X2 =>
  ((some (stI (stI (stI X2 23 (nx (3 : Int32)) v4) 23 (nx (4 : Int32)) v5) 23 (nx (5 : Int32)) v6)).bind fun X3 =>
  ((rul_byText n X3).bind fun (c5, X4) =>
  (some ((jmath_max (0 : Int32) (jmath_min (99 : Int32) c5)), X4))))))
theorem rul_marks_c (q : Th) (n : Nat) (v1 : Int32) (v2 : Int32) (v3 : Int32) (v4 : Int32) (v5 : Int32) (v6 : Int32) (X : St) : Ct q nX4_marks 3 fiw [.ref (q.ad 20), .int v1, .int v2, .int v3, .int v4, .int v5, .int v6] X (rul_marks n v1 v2 v3 v4 v5 v6 X) := by
  refine ct_of (by decide +kernel) (Nat.le_of_ble_eq_true rfl) ?_
  unfold rul_marks
  show G q _ _ 0 [(0, .ref (q.ad 20)), (1, .int v1), (2, .int v2), (3, .int v3), (4, .int v4), (5, .int v5), (6, .int v6)] [] X _
  refine g_aload_n 0 dX4_marks_0 rfl rfl ?_
  refine g_getI 20 3 rfl dX4_marks_1 rfl kkX4 flX4_27 (by decide) rfl rfl (by decide) rfl ?_
  refine g_if_ne dX4_marks_4 rfl rfl ?_ ?_
  · refine g_iload_n 1 dX4_marks_7 rfl rfl ?_
    refine g_iload_n 2 dX4_marks_8 rfl rfl ?_
    refine g_iload 6 dX4_marks_9 rfl rfl ?_
    refine g_cSIr (As := [.int v1, .int v2, .int v6]) (st := []) 3 mF_wg rfl dX4_marks_11 rfl vX4_byRote lkX4_37 (rmL rfl rfl) (rul_byRote_c q v1 v2 v6 X) rfl rfl (Nat.le_of_ble_eq_true rfl) (fun c1 => ?_)
    exact g_iret dX4_marks_14 rfl rfl
  refine g_aload_n 0 dX4_marks_15 rfl rfl ?_
  refine g_getR 20 2 23 rfl dX4_marks_16 rfl kkX4 flX4_18 (by decide) rfl rfl (by decide) rfl ?_
  refine g_iconst dX4_marks_19 rfl kic_0 ?_
  refine g_iload_n 1 dX4_marks_20 rfl rfl ?_
  refine g_iast0 dX4_marks_21 rfl (by decide) rfl rfl (by decide) ?_
  refine g_aload_n 0 dX4_marks_22 rfl rfl ?_
  refine g_getR 20 2 23 rfl dX4_marks_23 rfl kkX4 flX4_18 (by decide) rfl rfl (by decide) rfl ?_
  refine g_iconst dX4_marks_26 rfl kic_1 ?_
  refine g_iload_n 2 dX4_marks_27 rfl rfl ?_
  refine g_iast0 dX4_marks_28 rfl (by decide) rfl rfl (by decide) ?_
  refine g_aload_n 0 dX4_marks_29 rfl rfl ?_
  refine g_getR 20 2 23 rfl dX4_marks_30 rfl kkX4 flX4_18 (by decide) rfl rfl (by decide) rfl ?_
  refine g_iconst dX4_marks_33 rfl kic_2 ?_
  refine g_iload_n 3 dX4_marks_34 rfl rfl ?_
  refine g_iast0 dX4_marks_35 rfl (by decide) rfl rfl (by decide) ?_
  refine g_nmX (fun X2 => ?_)
  refine g_aload_n 0 dX4_marks_36 rfl rfl ?_
  refine g_getR 20 2 23 rfl dX4_marks_37 rfl kkX4 flX4_18 (by decide) rfl rfl (by decide) rfl ?_
  refine g_iconst dX4_marks_40 rfl kic_3 ?_
  refine g_iload 4 dX4_marks_41 rfl rfl ?_
  refine g_iast0 dX4_marks_43 rfl (by decide) rfl rfl (by decide) ?_
  refine g_aload_n 0 dX4_marks_44 rfl rfl ?_
  refine g_getR 20 2 23 rfl dX4_marks_45 rfl kkX4 flX4_18 (by decide) rfl rfl (by decide) rfl ?_
  refine g_iconst dX4_marks_48 rfl kic_4 ?_
  refine g_iload 5 dX4_marks_49 rfl rfl ?_
  refine g_iast0 dX4_marks_51 rfl (by decide) rfl rfl (by decide) ?_
  refine g_aload_n 0 dX4_marks_52 rfl rfl ?_
  refine g_getR 20 2 23 rfl dX4_marks_53 rfl kkX4 flX4_18 (by decide) rfl rfl (by decide) rfl ?_
  refine g_iconst dX4_marks_56 rfl kic_5 ?_
  refine g_iload 6 dX4_marks_57 rfl rfl ?_
  refine g_iast0 dX4_marks_59 rfl (by decide) rfl rfl (by decide) ?_
  refine g_nmX (fun X3 => ?_)
  refine g_iconst dX4_marks_60 rfl kic_0 ?_
  refine g_bipush dX4_marks_61 rfl kbi_99 ?_
  refine g_aload_n 0 dX4_marks_63 rfl rfl ?_
  refine g_cVIw (As := []) (st := [.int (99 : Int32), .int (0 : Int32)]) 0 mF_wg rfl dX4_marks_64 rfl kkX4 (by decide) rfl vX4_byText lkX4_41 (rmL rfl rfl) (rul_byText_c q n X3) rfl rfl (Nat.le_of_ble_eq_true rfl) (fun c5 X4 => ?_)
  refine g_mmin (st := [.int (0 : Int32)]) rfl dX4_marks_67 rfl lkX4_21 (rmL rfl rfl) (Nat.le_of_ble_eq_true rfl) ?_
  refine g_mmax (st := []) rfl dX4_marks_70 rfl lkX4_45 (rmL rfl rfl) (Nat.le_of_ble_eq_true rfl) ?_
  exact g_iret dX4_marks_73 rfl rfl
