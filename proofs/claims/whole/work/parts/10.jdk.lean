/-! 10.jdk: what the methods come to, and that they do -/






def jint_bitCount (v0 : Int32) : Int32 :=
  (((((((((v0 - ((jus v0 (1 : Int32)) &&& (1431655765 : Int32))) &&& (858993459 : Int32)) + ((jus (v0 - ((jus v0 (1 : Int32)) &&& (1431655765 : Int32))) (2 : Int32)) &&& (858993459 : Int32))) + (jus (((v0 - ((jus v0 (1 : Int32)) &&& (1431655765 : Int32))) &&& (858993459 : Int32)) + ((jus (v0 - ((jus v0 (1 : Int32)) &&& (1431655765 : Int32))) (2 : Int32)) &&& (858993459 : Int32))) (4 : Int32))) &&& (252645135 : Int32)) + (jus (((((v0 - ((jus v0 (1 : Int32)) &&& (1431655765 : Int32))) &&& (858993459 : Int32)) + ((jus (v0 - ((jus v0 (1 : Int32)) &&& (1431655765 : Int32))) (2 : Int32)) &&& (858993459 : Int32))) + (jus (((v0 - ((jus v0 (1 : Int32)) &&& (1431655765 : Int32))) &&& (858993459 : Int32)) + ((jus (v0 - ((jus v0 (1 : Int32)) &&& (1431655765 : Int32))) (2 : Int32)) &&& (858993459 : Int32))) (4 : Int32))) &&& (252645135 : Int32)) (8 : Int32))) + (jus ((((((v0 - ((jus v0 (1 : Int32)) &&& (1431655765 : Int32))) &&& (858993459 : Int32)) + ((jus (v0 - ((jus v0 (1 : Int32)) &&& (1431655765 : Int32))) (2 : Int32)) &&& (858993459 : Int32))) + (jus (((v0 - ((jus v0 (1 : Int32)) &&& (1431655765 : Int32))) &&& (858993459 : Int32)) + ((jus (v0 - ((jus v0 (1 : Int32)) &&& (1431655765 : Int32))) (2 : Int32)) &&& (858993459 : Int32))) (4 : Int32))) &&& (252645135 : Int32)) + (jus (((((v0 - ((jus v0 (1 : Int32)) &&& (1431655765 : Int32))) &&& (858993459 : Int32)) + ((jus (v0 - ((jus v0 (1 : Int32)) &&& (1431655765 : Int32))) (2 : Int32)) &&& (858993459 : Int32))) + (jus (((v0 - ((jus v0 (1 : Int32)) &&& (1431655765 : Int32))) &&& (858993459 : Int32)) + ((jus (v0 - ((jus v0 (1 : Int32)) &&& (1431655765 : Int32))) (2 : Int32)) &&& (858993459 : Int32))) (4 : Int32))) &&& (252645135 : Int32)) (8 : Int32))) (16 : Int32))) &&& (63 : Int32)))
def jint_bitCount_o (v0 : Int32) : Option Int32 :=
  (some ((((((((v0 - ((jus v0 (1 : Int32)) &&& (1431655765 : Int32))) &&& (858993459 : Int32)) + ((jus (v0 - ((jus v0 (1 : Int32)) &&& (1431655765 : Int32))) (2 : Int32)) &&& (858993459 : Int32))) + (jus (((v0 - ((jus v0 (1 : Int32)) &&& (1431655765 : Int32))) &&& (858993459 : Int32)) + ((jus (v0 - ((jus v0 (1 : Int32)) &&& (1431655765 : Int32))) (2 : Int32)) &&& (858993459 : Int32))) (4 : Int32))) &&& (252645135 : Int32)) + (jus (((((v0 - ((jus v0 (1 : Int32)) &&& (1431655765 : Int32))) &&& (858993459 : Int32)) + ((jus (v0 - ((jus v0 (1 : Int32)) &&& (1431655765 : Int32))) (2 : Int32)) &&& (858993459 : Int32))) + (jus (((v0 - ((jus v0 (1 : Int32)) &&& (1431655765 : Int32))) &&& (858993459 : Int32)) + ((jus (v0 - ((jus v0 (1 : Int32)) &&& (1431655765 : Int32))) (2 : Int32)) &&& (858993459 : Int32))) (4 : Int32))) &&& (252645135 : Int32)) (8 : Int32))) + (jus ((((((v0 - ((jus v0 (1 : Int32)) &&& (1431655765 : Int32))) &&& (858993459 : Int32)) + ((jus (v0 - ((jus v0 (1 : Int32)) &&& (1431655765 : Int32))) (2 : Int32)) &&& (858993459 : Int32))) + (jus (((v0 - ((jus v0 (1 : Int32)) &&& (1431655765 : Int32))) &&& (858993459 : Int32)) + ((jus (v0 - ((jus v0 (1 : Int32)) &&& (1431655765 : Int32))) (2 : Int32)) &&& (858993459 : Int32))) (4 : Int32))) &&& (252645135 : Int32)) + (jus (((((v0 - ((jus v0 (1 : Int32)) &&& (1431655765 : Int32))) &&& (858993459 : Int32)) + ((jus (v0 - ((jus v0 (1 : Int32)) &&& (1431655765 : Int32))) (2 : Int32)) &&& (858993459 : Int32))) + (jus (((v0 - ((jus v0 (1 : Int32)) &&& (1431655765 : Int32))) &&& (858993459 : Int32)) + ((jus (v0 - ((jus v0 (1 : Int32)) &&& (1431655765 : Int32))) (2 : Int32)) &&& (858993459 : Int32))) (4 : Int32))) &&& (252645135 : Int32)) (8 : Int32))) (16 : Int32))) &&& (63 : Int32)))
theorem jint_bitCount_e (v0 : Int32) : jint_bitCount_o v0 = some (jint_bitCount v0) := rfl
theorem jint_bitCount_c (q : Th) (v0 : Int32) (X : St) : Ct q nJ6_bitCount_0f7a4 0 (fir X) [.int v0] X (some (jint_bitCount v0)) := by
  refine ct_of (by decide +kernel) (Nat.le_of_ble_eq_true rfl) ?_
  rw [← jint_bitCount_e]
  unfold jint_bitCount_o
  show G q _ _ 0 [(0, .int v0)] [] X _
  refine g_iload_n 0 dJ6_bitCount_0f7a4_0 rfl rfl ?_
  refine g_iload_n 0 dJ6_bitCount_0f7a4_1 rfl rfl ?_
  refine g_iconst dJ6_bitCount_0f7a4_2 rfl kic_1 ?_
  refine g_iushr dJ6_bitCount_0f7a4_3 rfl ?_
  refine g_ldcw rfl dJ6_bitCount_0f7a4_4 rfl kcJ6_265 ?_
  refine g_iand dJ6_bitCount_0f7a4_7 rfl ?_
  refine g_isub dJ6_bitCount_0f7a4_8 rfl ?_
  refine g_istore_n (lv' := [(0, .int (v0 - ((jus v0 (1 : Int32)) &&& (1431655765 : Int32))))]) dJ6_bitCount_0f7a4_9 rfl rfl (Nat.le_of_ble_eq_true rfl) rfl ?_
  refine g_iload_n 0 dJ6_bitCount_0f7a4_10 rfl rfl ?_
  refine g_ldcw rfl dJ6_bitCount_0f7a4_11 rfl kcJ6_266 ?_
  refine g_iand dJ6_bitCount_0f7a4_14 rfl ?_
  refine g_iload_n 0 dJ6_bitCount_0f7a4_15 rfl rfl ?_
  refine g_iconst dJ6_bitCount_0f7a4_16 rfl kic_2 ?_
  refine g_iushr dJ6_bitCount_0f7a4_17 rfl ?_
  refine g_ldcw rfl dJ6_bitCount_0f7a4_18 rfl kcJ6_266 ?_
  refine g_iand dJ6_bitCount_0f7a4_21 rfl ?_
  refine g_iadd dJ6_bitCount_0f7a4_22 rfl ?_
  refine g_istore_n (lv' := [(0, .int (((v0 - ((jus v0 (1 : Int32)) &&& (1431655765 : Int32))) &&& (858993459 : Int32)) + ((jus (v0 - ((jus v0 (1 : Int32)) &&& (1431655765 : Int32))) (2 : Int32)) &&& (858993459 : Int32))))]) dJ6_bitCount_0f7a4_23 rfl rfl (Nat.le_of_ble_eq_true rfl) rfl ?_
  refine g_iload_n 0 dJ6_bitCount_0f7a4_24 rfl rfl ?_
  refine g_iload_n 0 dJ6_bitCount_0f7a4_25 rfl rfl ?_
  refine g_iconst dJ6_bitCount_0f7a4_26 rfl kic_4 ?_
  refine g_iushr dJ6_bitCount_0f7a4_27 rfl ?_
  refine g_iadd dJ6_bitCount_0f7a4_28 rfl ?_
  refine g_ldcw rfl dJ6_bitCount_0f7a4_29 rfl kcJ6_267 ?_
  refine g_iand dJ6_bitCount_0f7a4_32 rfl ?_
  refine g_istore_n (lv' := [(0, .int (((((v0 - ((jus v0 (1 : Int32)) &&& (1431655765 : Int32))) &&& (858993459 : Int32)) + ((jus (v0 - ((jus v0 (1 : Int32)) &&& (1431655765 : Int32))) (2 : Int32)) &&& (858993459 : Int32))) + (jus (((v0 - ((jus v0 (1 : Int32)) &&& (1431655765 : Int32))) &&& (858993459 : Int32)) + ((jus (v0 - ((jus v0 (1 : Int32)) &&& (1431655765 : Int32))) (2 : Int32)) &&& (858993459 : Int32))) (4 : Int32))) &&& (252645135 : Int32)))]) dJ6_bitCount_0f7a4_33 rfl rfl (Nat.le_of_ble_eq_true rfl) rfl ?_
  refine g_iload_n 0 dJ6_bitCount_0f7a4_34 rfl rfl ?_
  refine g_iload_n 0 dJ6_bitCount_0f7a4_35 rfl rfl ?_
  refine g_bipush dJ6_bitCount_0f7a4_36 rfl kbi_8 ?_
  refine g_iushr dJ6_bitCount_0f7a4_38 rfl ?_
  refine g_iadd dJ6_bitCount_0f7a4_39 rfl ?_
  refine g_istore_n (lv' := [(0, .int ((((((v0 - ((jus v0 (1 : Int32)) &&& (1431655765 : Int32))) &&& (858993459 : Int32)) + ((jus (v0 - ((jus v0 (1 : Int32)) &&& (1431655765 : Int32))) (2 : Int32)) &&& (858993459 : Int32))) + (jus (((v0 - ((jus v0 (1 : Int32)) &&& (1431655765 : Int32))) &&& (858993459 : Int32)) + ((jus (v0 - ((jus v0 (1 : Int32)) &&& (1431655765 : Int32))) (2 : Int32)) &&& (858993459 : Int32))) (4 : Int32))) &&& (252645135 : Int32)) + (jus (((((v0 - ((jus v0 (1 : Int32)) &&& (1431655765 : Int32))) &&& (858993459 : Int32)) + ((jus (v0 - ((jus v0 (1 : Int32)) &&& (1431655765 : Int32))) (2 : Int32)) &&& (858993459 : Int32))) + (jus (((v0 - ((jus v0 (1 : Int32)) &&& (1431655765 : Int32))) &&& (858993459 : Int32)) + ((jus (v0 - ((jus v0 (1 : Int32)) &&& (1431655765 : Int32))) (2 : Int32)) &&& (858993459 : Int32))) (4 : Int32))) &&& (252645135 : Int32)) (8 : Int32))))]) dJ6_bitCount_0f7a4_40 rfl rfl (Nat.le_of_ble_eq_true rfl) rfl ?_
  refine g_iload_n 0 dJ6_bitCount_0f7a4_41 rfl rfl ?_
  refine g_iload_n 0 dJ6_bitCount_0f7a4_42 rfl rfl ?_
  refine g_bipush dJ6_bitCount_0f7a4_43 rfl kbi_16 ?_
  refine g_iushr dJ6_bitCount_0f7a4_45 rfl ?_
  refine g_iadd dJ6_bitCount_0f7a4_46 rfl ?_
  refine g_istore_n (lv' := [(0, .int (((((((v0 - ((jus v0 (1 : Int32)) &&& (1431655765 : Int32))) &&& (858993459 : Int32)) + ((jus (v0 - ((jus v0 (1 : Int32)) &&& (1431655765 : Int32))) (2 : Int32)) &&& (858993459 : Int32))) + (jus (((v0 - ((jus v0 (1 : Int32)) &&& (1431655765 : Int32))) &&& (858993459 : Int32)) + ((jus (v0 - ((jus v0 (1 : Int32)) &&& (1431655765 : Int32))) (2 : Int32)) &&& (858993459 : Int32))) (4 : Int32))) &&& (252645135 : Int32)) + (jus (((((v0 - ((jus v0 (1 : Int32)) &&& (1431655765 : Int32))) &&& (858993459 : Int32)) + ((jus (v0 - ((jus v0 (1 : Int32)) &&& (1431655765 : Int32))) (2 : Int32)) &&& (858993459 : Int32))) + (jus (((v0 - ((jus v0 (1 : Int32)) &&& (1431655765 : Int32))) &&& (858993459 : Int32)) + ((jus (v0 - ((jus v0 (1 : Int32)) &&& (1431655765 : Int32))) (2 : Int32)) &&& (858993459 : Int32))) (4 : Int32))) &&& (252645135 : Int32)) (8 : Int32))) + (jus ((((((v0 - ((jus v0 (1 : Int32)) &&& (1431655765 : Int32))) &&& (858993459 : Int32)) + ((jus (v0 - ((jus v0 (1 : Int32)) &&& (1431655765 : Int32))) (2 : Int32)) &&& (858993459 : Int32))) + (jus (((v0 - ((jus v0 (1 : Int32)) &&& (1431655765 : Int32))) &&& (858993459 : Int32)) + ((jus (v0 - ((jus v0 (1 : Int32)) &&& (1431655765 : Int32))) (2 : Int32)) &&& (858993459 : Int32))) (4 : Int32))) &&& (252645135 : Int32)) + (jus (((((v0 - ((jus v0 (1 : Int32)) &&& (1431655765 : Int32))) &&& (858993459 : Int32)) + ((jus (v0 - ((jus v0 (1 : Int32)) &&& (1431655765 : Int32))) (2 : Int32)) &&& (858993459 : Int32))) + (jus (((v0 - ((jus v0 (1 : Int32)) &&& (1431655765 : Int32))) &&& (858993459 : Int32)) + ((jus (v0 - ((jus v0 (1 : Int32)) &&& (1431655765 : Int32))) (2 : Int32)) &&& (858993459 : Int32))) (4 : Int32))) &&& (252645135 : Int32)) (8 : Int32))) (16 : Int32))))]) dJ6_bitCount_0f7a4_47 rfl rfl (Nat.le_of_ble_eq_true rfl) rfl ?_
  refine g_iload_n 0 dJ6_bitCount_0f7a4_48 rfl rfl ?_
  refine g_bipush dJ6_bitCount_0f7a4_49 rfl kbi_63 ?_
  refine g_iand dJ6_bitCount_0f7a4_51 rfl ?_
  exact g_iret dJ6_bitCount_0f7a4_52 rfl rfl
