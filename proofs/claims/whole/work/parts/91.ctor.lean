/-! the constructors -/
theorem oi_i : Cond.instanceMethod Lib.objectInit ∈ tb := (tb_mem (List.mem_of_getElem? (i := 122) (by decide +kernel)) (by decide +kernel))
theorem oi_c : Cond.code Lib.objectInit ⟨#[0xb1]⟩ 1 none ∈ tb := (tb_mem (List.mem_of_getElem? (i := 123) (by decide +kernel)) (by decide +kernel))
theorem ac_int : Cond.arrayClass .int ∈ tb := (tb_mem (List.mem_of_getElem? (i := 139) (by decide +kernel)) (by decide +kernel))
theorem ac_long : Cond.arrayClass .long ∈ tb := (tb_mem (List.mem_of_getElem? (i := 398) (by decide +kernel)) (by decide +kernel))
theorem ac_boolean : Cond.arrayClass .boolean ∈ tb := (tb_mem (List.mem_of_getElem? (i := 307) (by decide +kernel)) (by decide +kernel))
theorem loX5_3 : Cond.methodLink RX5 3 Lib.objectInit ∈ tb := (tb_mem (List.mem_of_getElem? (i := 129) (by decide +kernel)) (by decide +kernel))
theorem clX5_11 : Cond.classLink RX5 11 ("[" ++ (FieldType.array .int).toString) ∈ tb := (tb_mem (List.mem_of_getElem? (i := 130) (by decide +kernel)) (by decide +kernel))
theorem iX5_init : Yi nX5_init 0 := ⟨(tb_mem (List.mem_of_getElem? (i := 127) (by decide +kernel)) (by decide +kernel)), (tb_mem (List.mem_of_getElem? (i := 96) (by decide +kernel)) (by decide +kernel)), (tb_mem (List.mem_of_getElem? (i := 128) (by decide +kernel)) (by decide +kernel)), rfl, rfl, ⟨by decide +kernel, by decide +kernel, by decide +kernel⟩⟩
def X5_init_Z (Z : Zt) : Zt := (zI (zI (zR Z 1 0) 10 (nx (0 : Int32)) (25 : Int32)) 11 (nx (0 : Int32)) (1 : Int32))
theorem X5_init_z {Z : Zt} (h : zr Z 2) : zr (X5_init_Z Z) 12 := ((((h.up (by decide : 2 ≤ 12)).R (by decide : 1 < 12)).I (by decide : 10 < 12)).I (by decide : 11 < 12))
set_option maxHeartbeats 2000000 in
theorem X5_init_k (q : Th) (B : Nat) (Z : Zt) (hz : zr Z 2) : CtK q B nX5_init 1 10 81 [.ref (q.ad 1)] 2 Z 12 (X5_init_Z Z) := by
  refine ctK_of (by decide +kernel) rfl rfl (Nat.le_of_ble_eq_true rfl) hz ?_
  show GK q _ 0 [(0, .ref (q.ad 1))] [] _ _ 0 0
  refine k_aload_n 0 dX5_init_0 rfl rfl ?_
  refine k_obj rfl dX5_init_1 rfl loX5_3 oi_i oi_c (Nat.le_of_ble_eq_true rfl) (Nat.le_of_ble_eq_true rfl) ?_
  refine k_aload_n 0 dX5_init_4 rfl rfl ?_
  refine k_bipush dX5_init_5 rfl kbi_9 ?_
  refine k_bipush dX5_init_7 rfl kbi_8 ?_
  refine k_mna (N := 9) (M := 8) rfl dX5_init_9 rfl (Or.inl ⟨rfl, rfl, rfl⟩) clX5_11 ac_int rfl rfl rfl (by decide +kernel) (by decide) (by decide +kernel) (by decide) (by decide +kernel) (Nat.le_of_ble_eq_true rfl) (Nat.le_of_ble_eq_true rfl) (Nat.le_of_ble_eq_true rfl) (Nat.le_of_ble_eq_true rfl) ?_
  refine k_putR 1 0 2 (fun _ _ _ h => h.2.2) rfl dX5_init_13 rfl kkX5 flX5_13 (by decide) rfl rfl (by decide) rfl rfl rfl rfl (fun _ => rfl) (fun _ => rfl) ?_
  refine k_aload_n 0 dX5_init_16 rfl rfl ?_
  refine k_getR 1 0 2 rfl dX5_init_17 rfl kkX5 flX5_13 (by decide) rfl rfl (by decide) rfl (by simp [zI, zR]) ?_
  refine k_bipush dX5_init_20 rfl kbi_7 ?_
  refine k_aald 2 9 10 dX5_init_22 rfl (by decide) rfl rfl (by decide +kernel) (by decide +kernel) ?_
  refine k_iconst dX5_init_23 rfl kic_0 ?_
  refine k_bipush dX5_init_24 rfl kbi_25 ?_
  refine k_iast 10 8 dX5_init_26 rfl (by decide) rfl rfl (by decide +kernel) ?_
  refine k_aload_n 0 dX5_init_27 rfl rfl ?_
  refine k_getR 1 0 2 rfl dX5_init_28 rfl kkX5 flX5_13 (by decide) rfl rfl (by decide) rfl (by simp [zI, zR]) ?_
  refine k_bipush dX5_init_31 rfl kbi_8 ?_
  refine k_aald 2 9 11 dX5_init_33 rfl (by decide) rfl rfl (by decide +kernel) (by decide +kernel) ?_
  refine k_iconst dX5_init_34 rfl kic_0 ?_
  refine k_iconst dX5_init_35 rfl kic_1 ?_
  refine k_iast 11 8 dX5_init_36 rfl (by decide) rfl rfl (by decide +kernel) ?_
  exact k_ret dX5_init_37
theorem loX0_1 : Cond.methodLink RX0 1 Lib.objectInit ∈ tb := (tb_mem (List.mem_of_getElem? (i := 145) (by decide +kernel)) (by decide +kernel))
theorem iX0_init : Yi nX0_init 1 := ⟨(tb_mem (List.mem_of_getElem? (i := 143) (by decide +kernel)) (by decide +kernel)), (tb_mem (List.mem_of_getElem? (i := 97) (by decide +kernel)) (by decide +kernel)), (tb_mem (List.mem_of_getElem? (i := 144) (by decide +kernel)) (by decide +kernel)), rfl, rfl, ⟨by decide +kernel, by decide +kernel, by decide +kernel⟩⟩
def X0_init_Z (Z : Zt) : Zt := (zR (zR (zR (zR (zR Z 12 1) 12 2) 12 3) 12 4) 12 0)
theorem X0_init_z {Z : Zt} (h : zr Z 13) : zr (X0_init_Z Z) 17 := (((((((((h.up (by decide : 13 ≤ 14)).R (by decide : 12 < 14)).up (by decide : 14 ≤ 15)).R (by decide : 12 < 15)).up (by decide : 15 ≤ 16)).R (by decide : 12 < 16)).up (by decide : 16 ≤ 17)).R (by decide : 12 < 17)).R (by decide : 12 < 17))
set_option maxHeartbeats 2000000 in
theorem X0_init_k (q : Th) (B : Nat) (Z : Zt) (hz : zr Z 13) : CtK q B nX0_init 1 4 160 [.ref (q.ad 12), .ref (q.ad 1)] 13 Z 17 (X0_init_Z Z) := by
  refine ctK_of (by decide +kernel) rfl rfl (Nat.le_of_ble_eq_true rfl) hz ?_
  show GK q _ 0 [(0, .ref (q.ad 12)), (1, .ref (q.ad 1))] [] _ _ 0 0
  refine k_aload_n 0 dX0_init_0 rfl rfl ?_
  refine k_obj rfl dX0_init_1 rfl loX0_1 oi_i oi_c (Nat.le_of_ble_eq_true rfl) (Nat.le_of_ble_eq_true rfl) ?_
  refine k_aload_n 0 dX0_init_4 rfl rfl ?_
  refine k_bipush dX0_init_5 rfl kbi_40 ?_
  refine k_newI (N := 40) dX0_init_7 rfl ac_int rfl rfl (by decide) (by decide +kernel) (Nat.le_of_ble_eq_true rfl) (Nat.le_of_ble_eq_true rfl) (Nat.le_of_ble_eq_true rfl) ?_
  refine k_putR 12 1 13 (fun _ _ _ h => h.2.2) rfl dX0_init_9 rfl kkX0 flX0_9 (by decide) rfl rfl (by decide) rfl rfl rfl rfl (fun _ => rfl) (fun _ => rfl) ?_
  refine k_aload_n 0 dX0_init_12 rfl rfl ?_
  refine k_bipush dX0_init_13 rfl kbi_40 ?_
  refine k_newI (N := 40) dX0_init_15 rfl ac_int rfl rfl (by decide) (by decide +kernel) (Nat.le_of_ble_eq_true rfl) (Nat.le_of_ble_eq_true rfl) (Nat.le_of_ble_eq_true rfl) ?_
  refine k_putR 12 2 14 (fun _ _ _ h => h.2.2) rfl dX0_init_17 rfl kkX0 flX0_13 (by decide) rfl rfl (by decide) rfl rfl rfl rfl (fun _ => rfl) (fun _ => rfl) ?_
  refine k_aload_n 0 dX0_init_20 rfl rfl ?_
  refine k_bipush dX0_init_21 rfl kbi_40 ?_
  refine k_newI (N := 40) dX0_init_23 rfl ac_int rfl rfl (by decide) (by decide +kernel) (Nat.le_of_ble_eq_true rfl) (Nat.le_of_ble_eq_true rfl) (Nat.le_of_ble_eq_true rfl) ?_
  refine k_putR 12 3 15 (fun _ _ _ h => h.2.2) rfl dX0_init_25 rfl kkX0 flX0_16 (by decide) rfl rfl (by decide) rfl rfl rfl rfl (fun _ => rfl) (fun _ => rfl) ?_
  refine k_aload_n 0 dX0_init_28 rfl rfl ?_
  refine k_bipush dX0_init_29 rfl kbi_40 ?_
  refine k_newI (N := 40) dX0_init_31 rfl ac_int rfl rfl (by decide) (by decide +kernel) (Nat.le_of_ble_eq_true rfl) (Nat.le_of_ble_eq_true rfl) (Nat.le_of_ble_eq_true rfl) ?_
  refine k_putR 12 4 16 (fun _ _ _ h => h.2.2) rfl dX0_init_33 rfl kkX0 flX0_19 (by decide) rfl rfl (by decide) rfl rfl rfl rfl (fun _ => rfl) (fun _ => rfl) ?_
  refine k_aload_n 0 dX0_init_36 rfl rfl ?_
  refine k_aload_n 1 dX0_init_37 rfl rfl ?_
  refine k_putR 12 0 1 (fun _ _ _ h => h.2.2) rfl dX0_init_38 rfl kkX0 flX0_22 (by decide) rfl rfl (by decide) rfl rfl rfl rfl (fun _ => rfl) (fun _ => rfl) ?_
  exact k_ret dX0_init_41
theorem loX8_3 : Cond.methodLink RX8 3 Lib.objectInit ∈ tb := (tb_mem (List.mem_of_getElem? (i := 173) (by decide +kernel)) (by decide +kernel))
theorem iX8_init : Yi nX8_init 0 := ⟨(tb_mem (List.mem_of_getElem? (i := 171) (by decide +kernel)) (by decide +kernel)), (tb_mem (List.mem_of_getElem? (i := 98) (by decide +kernel)) (by decide +kernel)), (tb_mem (List.mem_of_getElem? (i := 172) (by decide +kernel)) (by decide +kernel)), rfl, rfl, ⟨by decide +kernel, by decide +kernel, by decide +kernel⟩⟩
def X8_init_Z (Z : Zt) : Zt := (zR (zR Z 17 0) 17 1)
theorem X8_init_z {Z : Zt} (h : zr Z 18) : zr (X8_init_Z Z) 20 := ((((h.up (by decide : 18 ≤ 19)).R (by decide : 17 < 19)).up (by decide : 19 ≤ 20)).R (by decide : 17 < 20))
set_option maxHeartbeats 2000000 in
theorem X8_init_k (q : Th) (B : Nat) (Z : Zt) (hz : zr Z 18) : CtK q B nX8_init 1 2 248 [.ref (q.ad 17)] 18 Z 20 (X8_init_Z Z) := by
  refine ctK_of (by decide +kernel) rfl rfl (Nat.le_of_ble_eq_true rfl) hz ?_
  show GK q _ 0 [(0, .ref (q.ad 17))] [] _ _ 0 0
  refine k_aload_n 0 dX8_init_0 rfl rfl ?_
  refine k_obj rfl dX8_init_1 rfl loX8_3 oi_i oi_c (Nat.le_of_ble_eq_true rfl) (Nat.le_of_ble_eq_true rfl) ?_
  refine k_aload_n 0 dX8_init_4 rfl rfl ?_
  refine k_bipush dX8_init_5 rfl kbi_120 ?_
  refine k_newI (N := 120) dX8_init_7 rfl ac_int rfl rfl (by decide) (by decide +kernel) (Nat.le_of_ble_eq_true rfl) (Nat.le_of_ble_eq_true rfl) (Nat.le_of_ble_eq_true rfl) ?_
  refine k_putR 17 0 18 (fun _ _ _ h => h.2.2) rfl dX8_init_9 rfl kkX8 flX8_9 (by decide) rfl rfl (by decide) rfl rfl rfl rfl (fun _ => rfl) (fun _ => rfl) ?_
  refine k_aload_n 0 dX8_init_12 rfl rfl ?_
  refine k_sipush dX8_init_13 rfl ksi_128 ?_
  refine k_newI (N := 128) dX8_init_16 rfl ac_int rfl rfl (by decide) (by decide +kernel) (Nat.le_of_ble_eq_true rfl) (Nat.le_of_ble_eq_true rfl) (Nat.le_of_ble_eq_true rfl) ?_
  refine k_putR 17 1 19 (fun _ _ _ h => h.2.2) rfl dX8_init_18 rfl kkX8 flX8_15 (by decide) rfl rfl (by decide) rfl rfl rfl rfl (fun _ => rfl) (fun _ => rfl) ?_
  exact k_ret dX8_init_21
theorem loX4_1 : Cond.methodLink RX4 1 Lib.objectInit ∈ tb := (tb_mem (List.mem_of_getElem? (i := 195) (by decide +kernel)) (by decide +kernel))
theorem iX4_init : Yi nX4_init 0 := ⟨(tb_mem (List.mem_of_getElem? (i := 193) (by decide +kernel)) (by decide +kernel)), (tb_mem (List.mem_of_getElem? (i := 99) (by decide +kernel)) (by decide +kernel)), (tb_mem (List.mem_of_getElem? (i := 194) (by decide +kernel)) (by decide +kernel)), rfl, rfl, ⟨by decide +kernel, by decide +kernel, by decide +kernel⟩⟩
def X4_init_Z (Z : Zt) : Zt := (zR (zR (zR Z 20 0) 20 1) 20 2)
theorem X4_init_z {Z : Zt} (h : zr Z 21) : zr (X4_init_Z Z) 24 := ((((((h.up (by decide : 21 ≤ 22)).R (by decide : 20 < 22)).up (by decide : 22 ≤ 23)).R (by decide : 20 < 23)).up (by decide : 23 ≤ 24)).R (by decide : 20 < 24))
set_option maxHeartbeats 2000000 in
theorem X4_init_k (q : Th) (B : Nat) (Z : Zt) (hz : zr Z 21) : CtK q B nX4_init 1 3 262 [.ref (q.ad 20)] 21 Z 24 (X4_init_Z Z) := by
  refine ctK_of (by decide +kernel) rfl rfl (Nat.le_of_ble_eq_true rfl) hz ?_
  show GK q _ 0 [(0, .ref (q.ad 20))] [] _ _ 0 0
  refine k_aload_n 0 dX4_init_0 rfl rfl ?_
  refine k_obj rfl dX4_init_1 rfl loX4_1 oi_i oi_c (Nat.le_of_ble_eq_true rfl) (Nat.le_of_ble_eq_true rfl) ?_
  refine k_aload_n 0 dX4_init_4 rfl rfl ?_
  refine k_sipush dX4_init_5 rfl ksi_128 ?_
  refine k_newI (N := 128) dX4_init_8 rfl ac_int rfl rfl (by decide) (by decide +kernel) (Nat.le_of_ble_eq_true rfl) (Nat.le_of_ble_eq_true rfl) (Nat.le_of_ble_eq_true rfl) ?_
  refine k_putR 20 0 21 (fun _ _ _ h => h.2.2) rfl dX4_init_10 rfl kkX4 flX4_9 (by decide) rfl rfl (by decide) rfl rfl rfl rfl (fun _ => rfl) (fun _ => rfl) ?_
  refine k_aload_n 0 dX4_init_13 rfl rfl ?_
  refine k_sipush dX4_init_14 rfl ksi_128 ?_
  refine k_newI (N := 128) dX4_init_17 rfl ac_int rfl rfl (by decide) (by decide +kernel) (Nat.le_of_ble_eq_true rfl) (Nat.le_of_ble_eq_true rfl) (Nat.le_of_ble_eq_true rfl) ?_
  refine k_putR 20 1 22 (fun _ _ _ h => h.2.2) rfl dX4_init_19 rfl kkX4 flX4_15 (by decide) rfl rfl (by decide) rfl rfl rfl rfl (fun _ => rfl) (fun _ => rfl) ?_
  refine k_aload_n 0 dX4_init_22 rfl rfl ?_
  refine k_bipush dX4_init_23 rfl kbi_6 ?_
  refine k_newI (N := 6) dX4_init_25 rfl ac_int rfl rfl (by decide) (by decide +kernel) (Nat.le_of_ble_eq_true rfl) (Nat.le_of_ble_eq_true rfl) (Nat.le_of_ble_eq_true rfl) ?_
  refine k_putR 20 2 23 (fun _ _ _ h => h.2.2) rfl dX4_init_27 rfl kkX4 flX4_18 (by decide) rfl rfl (by decide) rfl rfl rfl rfl (fun _ => rfl) (fun _ => rfl) ?_
  exact k_ret dX4_init_30
theorem loX6_3 : Cond.methodLink RX6 3 Lib.objectInit ∈ tb := (tb_mem (List.mem_of_getElem? (i := 217) (by decide +kernel)) (by decide +kernel))
theorem iX6_init : Yi nX6_init 0 := ⟨(tb_mem (List.mem_of_getElem? (i := 215) (by decide +kernel)) (by decide +kernel)), (tb_mem (List.mem_of_getElem? (i := 100) (by decide +kernel)) (by decide +kernel)), (tb_mem (List.mem_of_getElem? (i := 216) (by decide +kernel)) (by decide +kernel)), rfl, rfl, ⟨by decide +kernel, by decide +kernel, by decide +kernel⟩⟩
def X6_init_Z (Z : Zt) : Zt := (zR Z 24 0)
theorem X6_init_z {Z : Zt} (h : zr Z 25) : zr (X6_init_Z Z) 26 := ((h.up (by decide : 25 ≤ 26)).R (by decide : 24 < 26))
set_option maxHeartbeats 2000000 in
theorem X6_init_k (q : Th) (B : Nat) (Z : Zt) (hz : zr Z 25) : CtK q B nX6_init 1 1 60 [.ref (q.ad 24)] 25 Z 26 (X6_init_Z Z) := by
  refine ctK_of (by decide +kernel) rfl rfl (Nat.le_of_ble_eq_true rfl) hz ?_
  show GK q _ 0 [(0, .ref (q.ad 24))] [] _ _ 0 0
  refine k_aload_n 0 dX6_init_0 rfl rfl ?_
  refine k_obj rfl dX6_init_1 rfl loX6_3 oi_i oi_c (Nat.le_of_ble_eq_true rfl) (Nat.le_of_ble_eq_true rfl) ?_
  refine k_aload_n 0 dX6_init_4 rfl rfl ?_
  refine k_bipush dX6_init_5 rfl kbi_60 ?_
  refine k_newI (N := 60) dX6_init_7 rfl ac_int rfl rfl (by decide) (by decide +kernel) (Nat.le_of_ble_eq_true rfl) (Nat.le_of_ble_eq_true rfl) (Nat.le_of_ble_eq_true rfl) ?_
  refine k_putR 24 0 25 (fun _ _ _ h => h.2.2) rfl dX6_init_9 rfl kkX6 flX6_9 (by decide) rfl rfl (by decide) rfl rfl rfl rfl (fun _ => rfl) (fun _ => rfl) ?_
  exact k_ret dX6_init_12
theorem loX9_3 : Cond.methodLink RX9 3 Lib.objectInit ∈ tb := (tb_mem (List.mem_of_getElem? (i := 230) (by decide +kernel)) (by decide +kernel))
theorem clX9_21 : Cond.classLink RX9 21 ("[" ++ (FieldType.array .int).toString) ∈ tb := (tb_mem (List.mem_of_getElem? (i := 231) (by decide +kernel)) (by decide +kernel))
theorem iX9_init : Yi nX9_init 3 := ⟨(tb_mem (List.mem_of_getElem? (i := 228) (by decide +kernel)) (by decide +kernel)), (tb_mem (List.mem_of_getElem? (i := 101) (by decide +kernel)) (by decide +kernel)), (tb_mem (List.mem_of_getElem? (i := 229) (by decide +kernel)) (by decide +kernel)), rfl, rfl, ⟨by decide +kernel, by decide +kernel, by decide +kernel⟩⟩
def X9_init_Z (Z : Zt) : Zt := (zR (zR (zR (zR (zR (zR (zR (zR (zR Z 26 3) 26 4) 26 5) 26 6) 26 7) 26 8) 26 0) 26 1) 26 2)
theorem X9_init_z {Z : Zt} (h : zr Z 27) : zr (X9_init_Z Z) 57 := (((((((((((((((h.up (by decide : 27 ≤ 28)).R (by decide : 26 < 28)).up (by decide : 28 ≤ 29)).R (by decide : 26 < 29)).up (by decide : 29 ≤ 30)).R (by decide : 26 < 30)).up (by decide : 30 ≤ 39)).R (by decide : 26 < 39)).up (by decide : 39 ≤ 48)).R (by decide : 26 < 48)).up (by decide : 48 ≤ 57)).R (by decide : 26 < 57)).R (by decide : 26 < 57)).R (by decide : 26 < 57)).R (by decide : 26 < 57))
set_option maxHeartbeats 2000000 in
theorem X9_init_k (q : Th) (B : Nat) (Z : Zt) (hz : zr Z 27) : CtK q B nX9_init 1 30 240 [.ref (q.ad 26), .ref (q.ad 1), .ref (q.ad 20), .ref (q.ad 24)] 27 Z 57 (X9_init_Z Z) := by
  refine ctK_of (by decide +kernel) rfl rfl (Nat.le_of_ble_eq_true rfl) hz ?_
  show GK q _ 0 [(0, .ref (q.ad 26)), (1, .ref (q.ad 1)), (2, .ref (q.ad 20)), (3, .ref (q.ad 24))] [] _ _ 0 0
  refine k_aload_n 0 dX9_init_0 rfl rfl ?_
  refine k_obj rfl dX9_init_1 rfl loX9_3 oi_i oi_c (Nat.le_of_ble_eq_true rfl) (Nat.le_of_ble_eq_true rfl) ?_
  refine k_aload_n 0 dX9_init_4 rfl rfl ?_
  refine k_bipush dX9_init_5 rfl kbi_8 ?_
  refine k_newI (N := 8) dX9_init_7 rfl ac_int rfl rfl (by decide) (by decide +kernel) (Nat.le_of_ble_eq_true rfl) (Nat.le_of_ble_eq_true rfl) (Nat.le_of_ble_eq_true rfl) ?_
  refine k_putR 26 3 27 (fun _ _ _ h => h.2.2) rfl dX9_init_9 rfl kkX9 flX9_9 (by decide) rfl rfl (by decide) rfl rfl rfl rfl (fun _ => rfl) (fun _ => rfl) ?_
  refine k_aload_n 0 dX9_init_12 rfl rfl ?_
  refine k_bipush dX9_init_13 rfl kbi_8 ?_
  refine k_newI (N := 8) dX9_init_15 rfl ac_int rfl rfl (by decide) (by decide +kernel) (Nat.le_of_ble_eq_true rfl) (Nat.le_of_ble_eq_true rfl) (Nat.le_of_ble_eq_true rfl) ?_
  refine k_putR 26 4 28 (fun _ _ _ h => h.2.2) rfl dX9_init_17 rfl kkX9 flX9_15 (by decide) rfl rfl (by decide) rfl rfl rfl rfl (fun _ => rfl) (fun _ => rfl) ?_
  refine k_aload_n 0 dX9_init_20 rfl rfl ?_
  refine k_bipush dX9_init_21 rfl kbi_8 ?_
  refine k_newI (N := 8) dX9_init_23 rfl ac_int rfl rfl (by decide) (by decide +kernel) (Nat.le_of_ble_eq_true rfl) (Nat.le_of_ble_eq_true rfl) (Nat.le_of_ble_eq_true rfl) ?_
  refine k_putR 26 5 29 (fun _ _ _ h => h.2.2) rfl dX9_init_25 rfl kkX9 flX9_18 (by decide) rfl rfl (by decide) rfl rfl rfl rfl (fun _ => rfl) (fun _ => rfl) ?_
  refine k_aload_n 0 dX9_init_28 rfl rfl ?_
  refine k_bipush dX9_init_29 rfl kbi_8 ?_
  refine k_bipush dX9_init_31 rfl kbi_8 ?_
  refine k_mna (N := 8) (M := 8) rfl dX9_init_33 rfl (Or.inl ⟨rfl, rfl, rfl⟩) clX9_21 ac_int rfl rfl rfl (by decide +kernel) (by decide) (by decide +kernel) (by decide) (by decide +kernel) (Nat.le_of_ble_eq_true rfl) (Nat.le_of_ble_eq_true rfl) (Nat.le_of_ble_eq_true rfl) (Nat.le_of_ble_eq_true rfl) ?_
  refine k_putR 26 6 30 (fun _ _ _ h => h.2.2) rfl dX9_init_37 rfl kkX9 flX9_23 (by decide) rfl rfl (by decide) rfl rfl rfl rfl (fun _ => rfl) (fun _ => rfl) ?_
  refine k_aload_n 0 dX9_init_40 rfl rfl ?_
  refine k_bipush dX9_init_41 rfl kbi_8 ?_
  refine k_bipush dX9_init_43 rfl kbi_8 ?_
  refine k_mna (N := 8) (M := 8) rfl dX9_init_45 rfl (Or.inl ⟨rfl, rfl, rfl⟩) clX9_21 ac_int rfl rfl rfl (by decide +kernel) (by decide) (by decide +kernel) (by decide) (by decide +kernel) (Nat.le_of_ble_eq_true rfl) (Nat.le_of_ble_eq_true rfl) (Nat.le_of_ble_eq_true rfl) (Nat.le_of_ble_eq_true rfl) ?_
  refine k_putR 26 7 39 (fun _ _ _ h => h.2.2) rfl dX9_init_49 rfl kkX9 flX9_26 (by decide) rfl rfl (by decide) rfl rfl rfl rfl (fun _ => rfl) (fun _ => rfl) ?_
  refine k_aload_n 0 dX9_init_52 rfl rfl ?_
  refine k_bipush dX9_init_53 rfl kbi_8 ?_
  refine k_bipush dX9_init_55 rfl kbi_8 ?_
  refine k_mna (N := 8) (M := 8) rfl dX9_init_57 rfl (Or.inl ⟨rfl, rfl, rfl⟩) clX9_21 ac_int rfl rfl rfl (by decide +kernel) (by decide) (by decide +kernel) (by decide) (by decide +kernel) (Nat.le_of_ble_eq_true rfl) (Nat.le_of_ble_eq_true rfl) (Nat.le_of_ble_eq_true rfl) (Nat.le_of_ble_eq_true rfl) ?_
  refine k_putR 26 8 48 (fun _ _ _ h => h.2.2) rfl dX9_init_61 rfl kkX9 flX9_29 (by decide) rfl rfl (by decide) rfl rfl rfl rfl (fun _ => rfl) (fun _ => rfl) ?_
  refine k_aload_n 0 dX9_init_64 rfl rfl ?_
  refine k_aload_n 1 dX9_init_65 rfl rfl ?_
  refine k_putR 26 0 1 (fun _ _ _ h => h.2.2) rfl dX9_init_66 rfl kkX9 flX9_32 (by decide) rfl rfl (by decide) rfl rfl rfl rfl (fun _ => rfl) (fun _ => rfl) ?_
  refine k_aload_n 0 dX9_init_69 rfl rfl ?_
  refine k_aload_n 2 dX9_init_70 rfl rfl ?_
  refine k_putR 26 1 20 (fun _ _ _ h => h.2.2) rfl dX9_init_71 rfl kkX9 flX9_36 (by decide) rfl rfl (by decide) rfl rfl rfl rfl (fun _ => rfl) (fun _ => rfl) ?_
  refine k_aload_n 0 dX9_init_74 rfl rfl ?_
  refine k_aload_n 3 dX9_init_75 rfl rfl ?_
  refine k_putR 26 2 24 (fun _ _ _ h => h.2.2) rfl dX9_init_76 rfl kkX9 flX9_40 (by decide) rfl rfl (by decide) rfl rfl rfl rfl (fun _ => rfl) (fun _ => rfl) ?_
  exact k_ret dX9_init_79
theorem loX2_3 : Cond.methodLink RX2 3 Lib.objectInit ∈ tb := (tb_mem (List.mem_of_getElem? (i := 280) (by decide +kernel)) (by decide +kernel))
theorem clX2_11 : Cond.classLink RX2 11 ("[" ++ (FieldType.array .int).toString) ∈ tb := (tb_mem (List.mem_of_getElem? (i := 281) (by decide +kernel)) (by decide +kernel))
theorem iX2_init : Yi nX2_init 0 := ⟨(tb_mem (List.mem_of_getElem? (i := 278) (by decide +kernel)) (by decide +kernel)), (tb_mem (List.mem_of_getElem? (i := 102) (by decide +kernel)) (by decide +kernel)), (tb_mem (List.mem_of_getElem? (i := 279) (by decide +kernel)) (by decide +kernel)), rfl, rfl, ⟨by decide +kernel, by decide +kernel, by decide +kernel⟩⟩
def X2_init_Z (Z : Zt) : Zt := (zR (zR (zR Z 57 0) 57 1) 57 2)
theorem X2_init_z {Z : Zt} (h : zr Z 58) : zr (X2_init_Z Z) 78 := ((((((h.up (by decide : 58 ≤ 76)).R (by decide : 57 < 76)).up (by decide : 76 ≤ 77)).R (by decide : 57 < 77)).up (by decide : 77 ≤ 78)).R (by decide : 57 < 78))
set_option maxHeartbeats 2000000 in
theorem X2_init_k (q : Th) (B : Nat) (Z : Zt) (hz : zr Z 58) : CtK q B nX2_init 1 20 2940 [.ref (q.ad 57)] 58 Z 78 (X2_init_Z Z) := by
  refine ctK_of (by decide +kernel) rfl rfl (Nat.le_of_ble_eq_true rfl) hz ?_
  show GK q _ 0 [(0, .ref (q.ad 57))] [] _ _ 0 0
  refine k_aload_n 0 dX2_init_0 rfl rfl ?_
  refine k_obj rfl dX2_init_1 rfl loX2_3 oi_i oi_c (Nat.le_of_ble_eq_true rfl) (Nat.le_of_ble_eq_true rfl) ?_
  refine k_aload_n 0 dX2_init_4 rfl rfl ?_
  refine k_bipush dX2_init_5 rfl kbi_17 ?_
  refine k_sipush dX2_init_7 rfl ksi_170 ?_
  refine k_mna (N := 17) (M := 170) rfl dX2_init_10 rfl (Or.inl ⟨rfl, rfl, rfl⟩) clX2_11 ac_int rfl rfl rfl (by decide +kernel) (by decide) (by decide +kernel) (by decide) (by decide +kernel) (Nat.le_of_ble_eq_true rfl) (Nat.le_of_ble_eq_true rfl) (Nat.le_of_ble_eq_true rfl) (Nat.le_of_ble_eq_true rfl) ?_
  refine k_putR 57 0 58 (fun _ _ _ h => h.2.2) rfl dX2_init_14 rfl kkX2 flX2_13 (by decide) rfl rfl (by decide) rfl rfl rfl rfl (fun _ => rfl) (fun _ => rfl) ?_
  refine k_aload_n 0 dX2_init_17 rfl rfl ?_
  refine k_bipush dX2_init_18 rfl kbi_16 ?_
  refine k_newI (N := 16) dX2_init_20 rfl ac_int rfl rfl (by decide) (by decide +kernel) (Nat.le_of_ble_eq_true rfl) (Nat.le_of_ble_eq_true rfl) (Nat.le_of_ble_eq_true rfl) ?_
  refine k_putR 57 1 76 (fun _ _ _ h => h.2.2) rfl dX2_init_22 rfl kkX2 flX2_16 (by decide) rfl rfl (by decide) rfl rfl rfl rfl (fun _ => rfl) (fun _ => rfl) ?_
  refine k_aload_n 0 dX2_init_25 rfl rfl ?_
  refine k_bipush dX2_init_26 rfl kbi_17 ?_
  refine k_newZ (N := 17) dX2_init_28 rfl ac_boolean rfl rfl (by decide) (by decide +kernel) (Nat.le_of_ble_eq_true rfl) (Nat.le_of_ble_eq_true rfl) (Nat.le_of_ble_eq_true rfl) ?_
  refine k_putR 57 2 77 (fun _ _ _ h => h.2.2) rfl dX2_init_30 rfl kkX2 flX2_20 (by decide) rfl rfl (by decide) rfl rfl rfl rfl (fun _ => rfl) (fun _ => rfl) ?_
  exact k_ret dX2_init_33
theorem loX3_3 : Cond.methodLink RX3 3 Lib.objectInit ∈ tb := (tb_mem (List.mem_of_getElem? (i := 313) (by decide +kernel)) (by decide +kernel))
theorem iX3_init : Yi nX3_init 1 := ⟨(tb_mem (List.mem_of_getElem? (i := 311) (by decide +kernel)) (by decide +kernel)), (tb_mem (List.mem_of_getElem? (i := 103) (by decide +kernel)) (by decide +kernel)), (tb_mem (List.mem_of_getElem? (i := 312) (by decide +kernel)) (by decide +kernel)), rfl, rfl, ⟨by decide +kernel, by decide +kernel, by decide +kernel⟩⟩
def X3_init_Z (Z : Zt) : Zt := (zR (zR (zR Z 78 1) 78 2) 78 0)
theorem X3_init_z {Z : Zt} (h : zr Z 79) : zr (X3_init_Z Z) 81 := (((((h.up (by decide : 79 ≤ 80)).R (by decide : 78 < 80)).up (by decide : 80 ≤ 81)).R (by decide : 78 < 81)).R (by decide : 78 < 81))
set_option maxHeartbeats 2000000 in
theorem X3_init_k (q : Th) (B : Nat) (Z : Zt) (hz : zr Z 79) : CtK q B nX3_init 1 2 12 [.ref (q.ad 78), .ref (q.ad 1)] 79 Z 81 (X3_init_Z Z) := by
  refine ctK_of (by decide +kernel) rfl rfl (Nat.le_of_ble_eq_true rfl) hz ?_
  show GK q _ 0 [(0, .ref (q.ad 78)), (1, .ref (q.ad 1))] [] _ _ 0 0
  refine k_aload_n 0 dX3_init_0 rfl rfl ?_
  refine k_obj rfl dX3_init_1 rfl loX3_3 oi_i oi_c (Nat.le_of_ble_eq_true rfl) (Nat.le_of_ble_eq_true rfl) ?_
  refine k_aload_n 0 dX3_init_4 rfl rfl ?_
  refine k_bipush dX3_init_5 rfl kbi_6 ?_
  refine k_newI (N := 6) dX3_init_7 rfl ac_int rfl rfl (by decide) (by decide +kernel) (Nat.le_of_ble_eq_true rfl) (Nat.le_of_ble_eq_true rfl) (Nat.le_of_ble_eq_true rfl) ?_
  refine k_putR 78 1 79 (fun _ _ _ h => h.2.2) rfl dX3_init_9 rfl kkX3 flX3_9 (by decide) rfl rfl (by decide) rfl rfl rfl rfl (fun _ => rfl) (fun _ => rfl) ?_
  refine k_aload_n 0 dX3_init_12 rfl rfl ?_
  refine k_bipush dX3_init_13 rfl kbi_6 ?_
  refine k_newI (N := 6) dX3_init_15 rfl ac_int rfl rfl (by decide) (by decide +kernel) (Nat.le_of_ble_eq_true rfl) (Nat.le_of_ble_eq_true rfl) (Nat.le_of_ble_eq_true rfl) ?_
  refine k_putR 78 2 80 (fun _ _ _ h => h.2.2) rfl dX3_init_17 rfl kkX3 flX3_15 (by decide) rfl rfl (by decide) rfl rfl rfl rfl (fun _ => rfl) (fun _ => rfl) ?_
  refine k_aload_n 0 dX3_init_20 rfl rfl ?_
  refine k_aload_n 1 dX3_init_21 rfl rfl ?_
  refine k_putR 78 0 1 (fun _ _ _ h => h.2.2) rfl dX3_init_22 rfl kkX3 flX3_18 (by decide) rfl rfl (by decide) rfl rfl rfl rfl (fun _ => rfl) (fun _ => rfl) ?_
  exact k_ret dX3_init_25
theorem loX1_3 : Cond.methodLink RX1 3 Lib.objectInit ∈ tb := (tb_mem (List.mem_of_getElem? (i := 329) (by decide +kernel)) (by decide +kernel))
theorem iX1_init : Yi nX1_init 0 := ⟨(tb_mem (List.mem_of_getElem? (i := 327) (by decide +kernel)) (by decide +kernel)), (tb_mem (List.mem_of_getElem? (i := 104) (by decide +kernel)) (by decide +kernel)), (tb_mem (List.mem_of_getElem? (i := 328) (by decide +kernel)) (by decide +kernel)), rfl, rfl, ⟨by decide +kernel, by decide +kernel, by decide +kernel⟩⟩
def X1_init_Z (Z : Zt) : Zt := (zR (zR (zR (zR (zR (zR Z 81 0) 81 1) 81 2) 81 3) 81 4) 81 5)
theorem X1_init_z {Z : Zt} (h : zr Z 82) : zr (X1_init_Z Z) 88 := ((((((((((((h.up (by decide : 82 ≤ 83)).R (by decide : 81 < 83)).up (by decide : 83 ≤ 84)).R (by decide : 81 < 84)).up (by decide : 84 ≤ 85)).R (by decide : 81 < 85)).up (by decide : 85 ≤ 86)).R (by decide : 81 < 86)).up (by decide : 86 ≤ 87)).R (by decide : 81 < 87)).up (by decide : 87 ≤ 88)).R (by decide : 81 < 88))
set_option maxHeartbeats 2000000 in
theorem X1_init_k (q : Th) (B : Nat) (Z : Zt) (hz : zr Z 82) : CtK q B nX1_init 1 6 42 [.ref (q.ad 81)] 82 Z 88 (X1_init_Z Z) := by
  refine ctK_of (by decide +kernel) rfl rfl (Nat.le_of_ble_eq_true rfl) hz ?_
  show GK q _ 0 [(0, .ref (q.ad 81))] [] _ _ 0 0
  refine k_aload_n 0 dX1_init_0 rfl rfl ?_
  refine k_obj rfl dX1_init_1 rfl loX1_3 oi_i oi_c (Nat.le_of_ble_eq_true rfl) (Nat.le_of_ble_eq_true rfl) ?_
  refine k_aload_n 0 dX1_init_4 rfl rfl ?_
  refine k_bipush dX1_init_5 rfl kbi_8 ?_
  refine k_newI (N := 8) dX1_init_7 rfl ac_int rfl rfl (by decide) (by decide +kernel) (Nat.le_of_ble_eq_true rfl) (Nat.le_of_ble_eq_true rfl) (Nat.le_of_ble_eq_true rfl) ?_
  refine k_putR 81 0 82 (fun _ _ _ h => h.2.2) rfl dX1_init_9 rfl kkX1 flX1_9 (by decide) rfl rfl (by decide) rfl rfl rfl rfl (fun _ => rfl) (fun _ => rfl) ?_
  refine k_aload_n 0 dX1_init_12 rfl rfl ?_
  refine k_bipush dX1_init_13 rfl kbi_8 ?_
  refine k_newI (N := 8) dX1_init_15 rfl ac_int rfl rfl (by decide) (by decide +kernel) (Nat.le_of_ble_eq_true rfl) (Nat.le_of_ble_eq_true rfl) (Nat.le_of_ble_eq_true rfl) ?_
  refine k_putR 81 1 83 (fun _ _ _ h => h.2.2) rfl dX1_init_17 rfl kkX1 flX1_15 (by decide) rfl rfl (by decide) rfl rfl rfl rfl (fun _ => rfl) (fun _ => rfl) ?_
  refine k_aload_n 0 dX1_init_20 rfl rfl ?_
  refine k_iconst dX1_init_21 rfl kic_5 ?_
  refine k_newI (N := 5) dX1_init_22 rfl ac_int rfl rfl (by decide) (by decide +kernel) (Nat.le_of_ble_eq_true rfl) (Nat.le_of_ble_eq_true rfl) (Nat.le_of_ble_eq_true rfl) ?_
  refine k_putR 81 2 84 (fun _ _ _ h => h.2.2) rfl dX1_init_24 rfl kkX1 flX1_18 (by decide) rfl rfl (by decide) rfl rfl rfl rfl (fun _ => rfl) (fun _ => rfl) ?_
  refine k_aload_n 0 dX1_init_27 rfl rfl ?_
  refine k_bipush dX1_init_28 rfl kbi_8 ?_
  refine k_newI (N := 8) dX1_init_30 rfl ac_int rfl rfl (by decide) (by decide +kernel) (Nat.le_of_ble_eq_true rfl) (Nat.le_of_ble_eq_true rfl) (Nat.le_of_ble_eq_true rfl) ?_
  refine k_putR 81 3 85 (fun _ _ _ h => h.2.2) rfl dX1_init_32 rfl kkX1 flX1_21 (by decide) rfl rfl (by decide) rfl rfl rfl rfl (fun _ => rfl) (fun _ => rfl) ?_
  refine k_aload_n 0 dX1_init_35 rfl rfl ?_
  refine k_bipush dX1_init_36 rfl kbi_8 ?_
  refine k_newI (N := 8) dX1_init_38 rfl ac_int rfl rfl (by decide) (by decide +kernel) (Nat.le_of_ble_eq_true rfl) (Nat.le_of_ble_eq_true rfl) (Nat.le_of_ble_eq_true rfl) ?_
  refine k_putR 81 4 86 (fun _ _ _ h => h.2.2) rfl dX1_init_40 rfl kkX1 flX1_24 (by decide) rfl rfl (by decide) rfl rfl rfl rfl (fun _ => rfl) (fun _ => rfl) ?_
  refine k_aload_n 0 dX1_init_43 rfl rfl ?_
  refine k_iconst dX1_init_44 rfl kic_5 ?_
  refine k_newI (N := 5) dX1_init_45 rfl ac_int rfl rfl (by decide) (by decide +kernel) (Nat.le_of_ble_eq_true rfl) (Nat.le_of_ble_eq_true rfl) (Nat.le_of_ble_eq_true rfl) ?_
  refine k_putR 81 5 87 (fun _ _ _ h => h.2.2) rfl dX1_init_47 rfl kkX1 flX1_27 (by decide) rfl rfl (by decide) rfl rfl rfl rfl (fun _ => rfl) (fun _ => rfl) ?_
  exact k_ret dX1_init_50
theorem loX10_3 : Cond.methodLink RX10 3 Lib.objectInit ∈ tb := (tb_mem (List.mem_of_getElem? (i := 357) (by decide +kernel)) (by decide +kernel))
theorem iX10_init : Yi nX10_init 0 := ⟨(tb_mem (List.mem_of_getElem? (i := 355) (by decide +kernel)) (by decide +kernel)), (tb_mem (List.mem_of_getElem? (i := 105) (by decide +kernel)) (by decide +kernel)), (tb_mem (List.mem_of_getElem? (i := 356) (by decide +kernel)) (by decide +kernel)), rfl, rfl, ⟨by decide +kernel, by decide +kernel, by decide +kernel⟩⟩
def X10_init_Z (Z : Zt) : Zt := (zR (zR Z 88 0) 88 1)
theorem X10_init_z {Z : Zt} (h : zr Z 89) : zr (X10_init_Z Z) 91 := ((((h.up (by decide : 89 ≤ 90)).R (by decide : 88 < 90)).up (by decide : 90 ≤ 91)).R (by decide : 88 < 91))
set_option maxHeartbeats 2000000 in
theorem X10_init_k (q : Th) (B : Nat) (Z : Zt) (hz : zr Z 89) : CtK q B nX10_init 1 2 74 [.ref (q.ad 88)] 89 Z 91 (X10_init_Z Z) := by
  refine ctK_of (by decide +kernel) rfl rfl (Nat.le_of_ble_eq_true rfl) hz ?_
  show GK q _ 0 [(0, .ref (q.ad 88))] [] _ _ 0 0
  refine k_aload_n 0 dX10_init_0 rfl rfl ?_
  refine k_obj rfl dX10_init_1 rfl loX10_3 oi_i oi_c (Nat.le_of_ble_eq_true rfl) (Nat.le_of_ble_eq_true rfl) ?_
  refine k_aload_n 0 dX10_init_4 rfl rfl ?_
  refine k_bipush dX10_init_5 rfl kbi_50 ?_
  refine k_newI (N := 50) dX10_init_7 rfl ac_int rfl rfl (by decide) (by decide +kernel) (Nat.le_of_ble_eq_true rfl) (Nat.le_of_ble_eq_true rfl) (Nat.le_of_ble_eq_true rfl) ?_
  refine k_putR 88 0 89 (fun _ _ _ h => h.2.2) rfl dX10_init_9 rfl kkX10 flX10_11 (by decide) rfl rfl (by decide) rfl rfl rfl rfl (fun _ => rfl) (fun _ => rfl) ?_
  refine k_aload_n 0 dX10_init_12 rfl rfl ?_
  refine k_bipush dX10_init_13 rfl kbi_24 ?_
  refine k_newI (N := 24) dX10_init_15 rfl ac_int rfl rfl (by decide) (by decide +kernel) (Nat.le_of_ble_eq_true rfl) (Nat.le_of_ble_eq_true rfl) (Nat.le_of_ble_eq_true rfl) ?_
  refine k_putR 88 1 90 (fun _ _ _ h => h.2.2) rfl dX10_init_17 rfl kkX10 flX10_15 (by decide) rfl rfl (by decide) rfl rfl rfl rfl (fun _ => rfl) (fun _ => rfl) ?_
  exact k_ret dX10_init_20
theorem loX7_3 : Cond.methodLink RX7 3 Lib.objectInit ∈ tb := (tb_mem (List.mem_of_getElem? (i := 382) (by decide +kernel)) (by decide +kernel))
theorem clX7_21 : Cond.classLink RX7 21 ("[" ++ (FieldType.array .long).toString) ∈ tb := (tb_mem (List.mem_of_getElem? (i := 383) (by decide +kernel)) (by decide +kernel))
theorem iX7_init : Yi nX7_init 0 := ⟨(tb_mem (List.mem_of_getElem? (i := 380) (by decide +kernel)) (by decide +kernel)), (tb_mem (List.mem_of_getElem? (i := 106) (by decide +kernel)) (by decide +kernel)), (tb_mem (List.mem_of_getElem? (i := 381) (by decide +kernel)) (by decide +kernel)), rfl, rfl, ⟨by decide +kernel, by decide +kernel, by decide +kernel⟩⟩
def X7_init_Z (Z : Zt) : Zt := (zI (zI (zI (zI (zI (zI (zR (zR (zR (zR Z 91 0) 91 1) 91 2) 91 3) 92 (nx (0 : Int32)) (-1 : Int32)) 92 (nx (1 : Int32)) (-1 : Int32)) 92 (nx (2 : Int32)) (-1 : Int32)) 92 (nx (3 : Int32)) (-1 : Int32)) 92 (nx (4 : Int32)) (-1 : Int32)) 92 (nx (5 : Int32)) (-1 : Int32))
theorem X7_init_z {Z : Zt} (h : zr Z 92) : zr (X7_init_Z Z) 102 := ((((((((((((((h.up (by decide : 92 ≤ 93)).R (by decide : 91 < 93)).up (by decide : 93 ≤ 94)).R (by decide : 91 < 94)).up (by decide : 94 ≤ 95)).R (by decide : 91 < 95)).up (by decide : 95 ≤ 102)).R (by decide : 91 < 102)).I (by decide : 92 < 102)).I (by decide : 92 < 102)).I (by decide : 92 < 102)).I (by decide : 92 < 102)).I (by decide : 92 < 102)).I (by decide : 92 < 102))
set_option maxHeartbeats 2000000 in
theorem X7_init_k (q : Th) (B : Nat) (Z : Zt) (hz : zr Z 92) : CtK q B nX7_init 1 10 384 [.ref (q.ad 91)] 92 Z 102 (X7_init_Z Z) := by
  refine ctK_of (by decide +kernel) rfl rfl (Nat.le_of_ble_eq_true rfl) hz ?_
  show GK q _ 0 [(0, .ref (q.ad 91))] [] _ _ 0 0
  refine k_aload_n 0 dX7_init_0 rfl rfl ?_
  refine k_obj rfl dX7_init_1 rfl loX7_3 oi_i oi_c (Nat.le_of_ble_eq_true rfl) (Nat.le_of_ble_eq_true rfl) ?_
  refine k_aload_n 0 dX7_init_4 rfl rfl ?_
  refine k_bipush dX7_init_5 rfl kbi_6 ?_
  refine k_newI (N := 6) dX7_init_7 rfl ac_int rfl rfl (by decide) (by decide +kernel) (Nat.le_of_ble_eq_true rfl) (Nat.le_of_ble_eq_true rfl) (Nat.le_of_ble_eq_true rfl) ?_
  refine k_putR 91 0 92 (fun _ _ _ h => h.2.2) rfl dX7_init_9 rfl kkX7 flX7_11 (by decide) rfl rfl (by decide) rfl rfl rfl rfl (fun _ => rfl) (fun _ => rfl) ?_
  refine k_aload_n 0 dX7_init_12 rfl rfl ?_
  refine k_bipush dX7_init_13 rfl kbi_6 ?_
  refine k_newI (N := 6) dX7_init_15 rfl ac_int rfl rfl (by decide) (by decide +kernel) (Nat.le_of_ble_eq_true rfl) (Nat.le_of_ble_eq_true rfl) (Nat.le_of_ble_eq_true rfl) ?_
  refine k_putR 91 1 93 (fun _ _ _ h => h.2.2) rfl dX7_init_17 rfl kkX7 flX7_15 (by decide) rfl rfl (by decide) rfl rfl rfl rfl (fun _ => rfl) (fun _ => rfl) ?_
  refine k_aload_n 0 dX7_init_20 rfl rfl ?_
  refine k_bipush dX7_init_21 rfl kbi_6 ?_
  refine k_newI (N := 6) dX7_init_23 rfl ac_int rfl rfl (by decide) (by decide +kernel) (Nat.le_of_ble_eq_true rfl) (Nat.le_of_ble_eq_true rfl) (Nat.le_of_ble_eq_true rfl) ?_
  refine k_putR 91 2 94 (fun _ _ _ h => h.2.2) rfl dX7_init_25 rfl kkX7 flX7_18 (by decide) rfl rfl (by decide) rfl rfl rfl rfl (fun _ => rfl) (fun _ => rfl) ?_
  refine k_aload_n 0 dX7_init_28 rfl rfl ?_
  refine k_bipush dX7_init_29 rfl kbi_6 ?_
  refine k_bipush dX7_init_31 rfl kbi_60 ?_
  refine k_mna (N := 6) (M := 60) rfl dX7_init_33 rfl (Or.inr ⟨rfl, rfl, rfl⟩) clX7_21 ac_long rfl rfl rfl (by decide +kernel) (by decide) (by decide +kernel) (by decide) (by decide +kernel) (Nat.le_of_ble_eq_true rfl) (Nat.le_of_ble_eq_true rfl) (Nat.le_of_ble_eq_true rfl) (Nat.le_of_ble_eq_true rfl) ?_
  refine k_putR 91 3 95 (fun _ _ _ h => h.2.2) rfl dX7_init_37 rfl kkX7 flX7_23 (by decide) rfl rfl (by decide) rfl rfl rfl rfl (fun _ => rfl) (fun _ => rfl) ?_
  refine k_iconst dX7_init_40 rfl kic_0 ?_
  refine k_istore_n (lv' := [(1, .int (0 : Int32)), (0, .ref (q.ad 91))]) dX7_init_41 rfl rfl (Nat.le_of_ble_eq_true rfl) rfl ?_
  refine k_iload_n 0 dX7_init_42 rfl rfl ?_
  refine k_bipush dX7_init_43 rfl kbi_6 ?_
  refine k_ge_f dX7_init_45 rfl rfl (by decide) ?_
  refine k_aload_n 1 dX7_init_48 rfl rfl ?_
  refine k_getR 91 0 92 rfl dX7_init_49 rfl kkX7 flX7_11 (by decide) rfl rfl (by decide) rfl (by simp [zI, zR]) ?_
  refine k_iload_n 0 dX7_init_52 rfl rfl ?_
  refine k_iconst dX7_init_53 rfl kic_m1 ?_
  refine k_iast 92 6 dX7_init_54 rfl (by decide) rfl rfl (by decide +kernel) ?_
  refine k_iinc (lv' := [(1, .int (1 : Int32)), (0, .ref (q.ad 91))]) (v := 1) 0 dX7_init_55 rfl rfl (by decide +kernel) (Nat.le_of_ble_eq_true rfl) rfl ?_
  refine k_goto dX7_init_58 rfl ?_
  refine k_iload_n 0 dX7_init_42 rfl rfl ?_
  refine k_bipush dX7_init_43 rfl kbi_6 ?_
  refine k_ge_f dX7_init_45 rfl rfl (by decide) ?_
  refine k_aload_n 1 dX7_init_48 rfl rfl ?_
  refine k_getR 91 0 92 rfl dX7_init_49 rfl kkX7 flX7_11 (by decide) rfl rfl (by decide) rfl (by simp [zI, zR]) ?_
  refine k_iload_n 0 dX7_init_52 rfl rfl ?_
  refine k_iconst dX7_init_53 rfl kic_m1 ?_
  refine k_iast 92 6 dX7_init_54 rfl (by decide) rfl rfl (by decide +kernel) ?_
  refine k_iinc (lv' := [(1, .int (2 : Int32)), (0, .ref (q.ad 91))]) (v := 2) 0 dX7_init_55 rfl rfl (by decide +kernel) (Nat.le_of_ble_eq_true rfl) rfl ?_
  refine k_goto dX7_init_58 rfl ?_
  refine k_iload_n 0 dX7_init_42 rfl rfl ?_
  refine k_bipush dX7_init_43 rfl kbi_6 ?_
  refine k_ge_f dX7_init_45 rfl rfl (by decide) ?_
  refine k_aload_n 1 dX7_init_48 rfl rfl ?_
  refine k_getR 91 0 92 rfl dX7_init_49 rfl kkX7 flX7_11 (by decide) rfl rfl (by decide) rfl (by simp [zI, zR]) ?_
  refine k_iload_n 0 dX7_init_52 rfl rfl ?_
  refine k_iconst dX7_init_53 rfl kic_m1 ?_
  refine k_iast 92 6 dX7_init_54 rfl (by decide) rfl rfl (by decide +kernel) ?_
  refine k_iinc (lv' := [(1, .int (3 : Int32)), (0, .ref (q.ad 91))]) (v := 3) 0 dX7_init_55 rfl rfl (by decide +kernel) (Nat.le_of_ble_eq_true rfl) rfl ?_
  refine k_goto dX7_init_58 rfl ?_
  refine k_iload_n 0 dX7_init_42 rfl rfl ?_
  refine k_bipush dX7_init_43 rfl kbi_6 ?_
  refine k_ge_f dX7_init_45 rfl rfl (by decide) ?_
  refine k_aload_n 1 dX7_init_48 rfl rfl ?_
  refine k_getR 91 0 92 rfl dX7_init_49 rfl kkX7 flX7_11 (by decide) rfl rfl (by decide) rfl (by simp [zI, zR]) ?_
  refine k_iload_n 0 dX7_init_52 rfl rfl ?_
  refine k_iconst dX7_init_53 rfl kic_m1 ?_
  refine k_iast 92 6 dX7_init_54 rfl (by decide) rfl rfl (by decide +kernel) ?_
  refine k_iinc (lv' := [(1, .int (4 : Int32)), (0, .ref (q.ad 91))]) (v := 4) 0 dX7_init_55 rfl rfl (by decide +kernel) (Nat.le_of_ble_eq_true rfl) rfl ?_
  refine k_goto dX7_init_58 rfl ?_
  refine k_iload_n 0 dX7_init_42 rfl rfl ?_
  refine k_bipush dX7_init_43 rfl kbi_6 ?_
  refine k_ge_f dX7_init_45 rfl rfl (by decide) ?_
  refine k_aload_n 1 dX7_init_48 rfl rfl ?_
  refine k_getR 91 0 92 rfl dX7_init_49 rfl kkX7 flX7_11 (by decide) rfl rfl (by decide) rfl (by simp [zI, zR]) ?_
  refine k_iload_n 0 dX7_init_52 rfl rfl ?_
  refine k_iconst dX7_init_53 rfl kic_m1 ?_
  refine k_iast 92 6 dX7_init_54 rfl (by decide) rfl rfl (by decide +kernel) ?_
  refine k_iinc (lv' := [(1, .int (5 : Int32)), (0, .ref (q.ad 91))]) (v := 5) 0 dX7_init_55 rfl rfl (by decide +kernel) (Nat.le_of_ble_eq_true rfl) rfl ?_
  refine k_goto dX7_init_58 rfl ?_
  refine k_iload_n 0 dX7_init_42 rfl rfl ?_
  refine k_bipush dX7_init_43 rfl kbi_6 ?_
  refine k_ge_f dX7_init_45 rfl rfl (by decide) ?_
  refine k_aload_n 1 dX7_init_48 rfl rfl ?_
  refine k_getR 91 0 92 rfl dX7_init_49 rfl kkX7 flX7_11 (by decide) rfl rfl (by decide) rfl (by simp [zI, zR]) ?_
  refine k_iload_n 0 dX7_init_52 rfl rfl ?_
  refine k_iconst dX7_init_53 rfl kic_m1 ?_
  refine k_iast 92 6 dX7_init_54 rfl (by decide) rfl rfl (by decide +kernel) ?_
  refine k_iinc (lv' := [(1, .int (6 : Int32)), (0, .ref (q.ad 91))]) (v := 6) 0 dX7_init_55 rfl rfl (by decide +kernel) (Nat.le_of_ble_eq_true rfl) rfl ?_
  refine k_goto dX7_init_58 rfl ?_
  refine k_iload_n 0 dX7_init_42 rfl rfl ?_
  refine k_bipush dX7_init_43 rfl kbi_6 ?_
  refine k_ge_t dX7_init_45 rfl (by decide) ?_
  exact k_ret dX7_init_61
theorem loX11_1 : Cond.methodLink RX11 1 Lib.objectInit ∈ tb := (tb_mem (List.mem_of_getElem? (i := 121) (by decide +kernel)) (by decide +kernel))
theorem in_X5 : Cond.instantiable RX5 2 ∈ tb := (tb_mem (List.mem_of_getElem? (i := 125) (by decide +kernel)) (by decide +kernel))
theorem iz_X5 : Cond.initialized RX5 ∈ tb := (tb_mem (List.mem_of_getElem? (i := 96) (by decide +kernel)) (by decide +kernel))
theorem clX11_7 : Cond.classLink RX11 7 RX5 ∈ tb := (tb_mem (List.mem_of_getElem? (i := 124) (by decide +kernel)) (by decide +kernel))
theorem lkX11_9 : Cond.methodLink RX11 9 yX5_init ∈ tb := (tb_mem (List.mem_of_getElem? (i := 126) (by decide +kernel)) (by decide +kernel))
theorem in_X0 : Cond.instantiable RX0 7 ∈ tb := (tb_mem (List.mem_of_getElem? (i := 141) (by decide +kernel)) (by decide +kernel))
theorem iz_X0 : Cond.initialized RX0 ∈ tb := (tb_mem (List.mem_of_getElem? (i := 97) (by decide +kernel)) (by decide +kernel))
theorem clX11_16 : Cond.classLink RX11 16 RX0 ∈ tb := (tb_mem (List.mem_of_getElem? (i := 140) (by decide +kernel)) (by decide +kernel))
theorem lkX11_18 : Cond.methodLink RX11 18 yX0_init ∈ tb := (tb_mem (List.mem_of_getElem? (i := 142) (by decide +kernel)) (by decide +kernel))
theorem in_X8 : Cond.instantiable RX8 5 ∈ tb := (tb_mem (List.mem_of_getElem? (i := 169) (by decide +kernel)) (by decide +kernel))
theorem iz_X8 : Cond.initialized RX8 ∈ tb := (tb_mem (List.mem_of_getElem? (i := 98) (by decide +kernel)) (by decide +kernel))
theorem clX11_25 : Cond.classLink RX11 25 RX8 ∈ tb := (tb_mem (List.mem_of_getElem? (i := 168) (by decide +kernel)) (by decide +kernel))
theorem in_X4 : Cond.instantiable RX4 5 ∈ tb := (tb_mem (List.mem_of_getElem? (i := 191) (by decide +kernel)) (by decide +kernel))
theorem iz_X4 : Cond.initialized RX4 ∈ tb := (tb_mem (List.mem_of_getElem? (i := 99) (by decide +kernel)) (by decide +kernel))
theorem clX11_32 : Cond.classLink RX11 32 RX4 ∈ tb := (tb_mem (List.mem_of_getElem? (i := 190) (by decide +kernel)) (by decide +kernel))
theorem in_X6 : Cond.instantiable RX6 2 ∈ tb := (tb_mem (List.mem_of_getElem? (i := 213) (by decide +kernel)) (by decide +kernel))
theorem iz_X6 : Cond.initialized RX6 ∈ tb := (tb_mem (List.mem_of_getElem? (i := 100) (by decide +kernel)) (by decide +kernel))
theorem clX11_39 : Cond.classLink RX11 39 RX6 ∈ tb := (tb_mem (List.mem_of_getElem? (i := 212) (by decide +kernel)) (by decide +kernel))
theorem in_X9 : Cond.instantiable RX9 14 ∈ tb := (tb_mem (List.mem_of_getElem? (i := 226) (by decide +kernel)) (by decide +kernel))
theorem iz_X9 : Cond.initialized RX9 ∈ tb := (tb_mem (List.mem_of_getElem? (i := 101) (by decide +kernel)) (by decide +kernel))
theorem clX11_46 : Cond.classLink RX11 46 RX9 ∈ tb := (tb_mem (List.mem_of_getElem? (i := 225) (by decide +kernel)) (by decide +kernel))
theorem lkX11_48 : Cond.methodLink RX11 48 yX9_init ∈ tb := (tb_mem (List.mem_of_getElem? (i := 227) (by decide +kernel)) (by decide +kernel))
theorem in_X2 : Cond.instantiable RX2 8 ∈ tb := (tb_mem (List.mem_of_getElem? (i := 276) (by decide +kernel)) (by decide +kernel))
theorem iz_X2 : Cond.initialized RX2 ∈ tb := (tb_mem (List.mem_of_getElem? (i := 102) (by decide +kernel)) (by decide +kernel))
theorem clX11_55 : Cond.classLink RX11 55 RX2 ∈ tb := (tb_mem (List.mem_of_getElem? (i := 275) (by decide +kernel)) (by decide +kernel))
theorem in_X3 : Cond.instantiable RX3 3 ∈ tb := (tb_mem (List.mem_of_getElem? (i := 309) (by decide +kernel)) (by decide +kernel))
theorem iz_X3 : Cond.initialized RX3 ∈ tb := (tb_mem (List.mem_of_getElem? (i := 103) (by decide +kernel)) (by decide +kernel))
theorem clX11_62 : Cond.classLink RX11 62 RX3 ∈ tb := (tb_mem (List.mem_of_getElem? (i := 308) (by decide +kernel)) (by decide +kernel))
theorem lkX11_64 : Cond.methodLink RX11 64 yX3_init ∈ tb := (tb_mem (List.mem_of_getElem? (i := 310) (by decide +kernel)) (by decide +kernel))
theorem in_X1 : Cond.instantiable RX1 7 ∈ tb := (tb_mem (List.mem_of_getElem? (i := 325) (by decide +kernel)) (by decide +kernel))
theorem iz_X1 : Cond.initialized RX1 ∈ tb := (tb_mem (List.mem_of_getElem? (i := 104) (by decide +kernel)) (by decide +kernel))
theorem clX11_69 : Cond.classLink RX11 69 RX1 ∈ tb := (tb_mem (List.mem_of_getElem? (i := 324) (by decide +kernel)) (by decide +kernel))
theorem in_X10 : Cond.instantiable RX10 6 ∈ tb := (tb_mem (List.mem_of_getElem? (i := 353) (by decide +kernel)) (by decide +kernel))
theorem iz_X10 : Cond.initialized RX10 ∈ tb := (tb_mem (List.mem_of_getElem? (i := 105) (by decide +kernel)) (by decide +kernel))
theorem clX11_76 : Cond.classLink RX11 76 RX10 ∈ tb := (tb_mem (List.mem_of_getElem? (i := 352) (by decide +kernel)) (by decide +kernel))
theorem in_X7 : Cond.instantiable RX7 4 ∈ tb := (tb_mem (List.mem_of_getElem? (i := 378) (by decide +kernel)) (by decide +kernel))
theorem iz_X7 : Cond.initialized RX7 ∈ tb := (tb_mem (List.mem_of_getElem? (i := 106) (by decide +kernel)) (by decide +kernel))
theorem clX11_83 : Cond.classLink RX11 83 RX7 ∈ tb := (tb_mem (List.mem_of_getElem? (i := 377) (by decide +kernel)) (by decide +kernel))
theorem lkX11_85 : Cond.methodLink RX11 85 yX7_init ∈ tb := (tb_mem (List.mem_of_getElem? (i := 379) (by decide +kernel)) (by decide +kernel))
theorem iX11_init : Yi nX11_init 0 := ⟨(tb_mem (List.mem_of_getElem? (i := 119) (by decide +kernel)) (by decide +kernel)), (tb_mem (List.mem_of_getElem? (i := 95) (by decide +kernel)) (by decide +kernel)), (tb_mem (List.mem_of_getElem? (i := 120) (by decide +kernel)) (by decide +kernel)), rfl, rfl, ⟨by decide +kernel, by decide +kernel, by decide +kernel⟩⟩
def X11_init_Z (Z : Zt) : Zt := (zR (X7_init_Z (zR (X10_init_Z (zR (X1_init_Z (zR (X3_init_Z (zR (X2_init_Z (zR (X9_init_Z (zR (X6_init_Z (zR (X4_init_Z (zR (X8_init_Z (zR (X0_init_Z (zR (X5_init_Z Z) 0 0)) 0 1)) 0 2)) 0 3)) 0 4)) 0 5)) 0 6)) 0 7)) 0 8)) 0 9)) 0 10)
theorem X11_init_z {Z : Zt} (h : zr Z 1) : zr (X11_init_Z Z) 102 := ((X7_init_z (((X10_init_z (((X1_init_z (((X3_init_z (((X2_init_z (((X9_init_z (((X6_init_z (((X4_init_z (((X8_init_z (((X0_init_z (((X5_init_z (h.up (by decide : 1 ≤ 2))).R (by decide : 0 < 12)).up (by decide : 12 ≤ 13))).R (by decide : 0 < 17)).up (by decide : 17 ≤ 18))).R (by decide : 0 < 20)).up (by decide : 20 ≤ 21))).R (by decide : 0 < 24)).up (by decide : 24 ≤ 25))).R (by decide : 0 < 26)).up (by decide : 26 ≤ 27))).R (by decide : 0 < 57)).up (by decide : 57 ≤ 58))).R (by decide : 0 < 78)).up (by decide : 78 ≤ 79))).R (by decide : 0 < 81)).up (by decide : 81 ≤ 82))).R (by decide : 0 < 88)).up (by decide : 88 ≤ 89))).R (by decide : 0 < 91)).up (by decide : 91 ≤ 92))).R (by decide : 0 < 102))
set_option maxHeartbeats 2000000 in
theorem X11_init_k (q : Th) (B : Nat) (Z : Zt) (hz : zr Z 1) : CtK q B nX11_init 2 101 4566 [.ref (q.ad 0)] 1 Z 102 (X11_init_Z Z) := by
  refine ctK_of (by decide +kernel) rfl rfl (Nat.le_of_ble_eq_true rfl) hz ?_
  show GK q _ 0 [(0, .ref (q.ad 0))] [] _ _ 0 0
  refine k_aload_n 0 dX11_init_0 rfl rfl ?_
  refine k_obj rfl dX11_init_1 rfl loX11_1 oi_i oi_c (Nat.le_of_ble_eq_true rfl) (Nat.le_of_ble_eq_true rfl) ?_
  refine k_aload_n 0 dX11_init_4 rfl rfl ?_
  refine k_new (N := 2) rfl dX11_init_5 rfl kkX5 clX11_7 in_X5 iz_X5 rfl rfl (by decide +kernel) (Nat.le_of_ble_eq_true rfl) (Nat.le_of_ble_eq_true rfl) ?_
  refine k_dup dX11_init_8 rfl rfl ?_
  refine k_init (As := []) (st := [.ref (q.ad 1), .ref (q.ad 0)]) 0 (fun z h => gi h) rfl dX11_init_9 rfl iX5_init (Or.inl lkX11_9) ⟨Nat.le_of_ble_eq_true rfl, Nat.le_of_ble_eq_true rfl, Nat.le_of_ble_eq_true rfl, Nat.le_of_ble_eq_true rfl⟩ (fun hz => X5_init_k q _ _ hz) (fun hz => X5_init_z hz) rfl rfl (Nat.le_of_ble_eq_true rfl) ?_
  refine k_putR 0 0 1 (fun _ _ _ h => h.2.2) rfl dX11_init_12 rfl kkX11 flX11_10 (by decide) rfl rfl (by decide) rfl rfl rfl rfl (fun _ => rfl) (fun _ => rfl) ?_
  refine k_aload_n 0 dX11_init_15 rfl rfl ?_
  refine k_new (N := 7) rfl dX11_init_16 rfl kkX0 clX11_16 in_X0 iz_X0 rfl rfl (by decide +kernel) (Nat.le_of_ble_eq_true rfl) (Nat.le_of_ble_eq_true rfl) ?_
  refine k_dup dX11_init_19 rfl rfl ?_
  refine k_aload_n 0 dX11_init_20 rfl rfl ?_
  refine k_getR 0 0 1 rfl dX11_init_21 rfl kkX11 flX11_10 (by decide) rfl rfl (by decide) rfl (by simp [X5_init_Z, X0_init_Z, X8_init_Z, X4_init_Z, X6_init_Z, X9_init_Z, X2_init_Z, zI, zR]) ?_
  refine k_init (As := [.ref (q.ad 1)]) (st := [.ref (q.ad 12), .ref (q.ad 0)]) 1 (fun z h => gi h) rfl dX11_init_24 rfl iX0_init (Or.inl lkX11_18) ⟨Nat.le_of_ble_eq_true rfl, Nat.le_of_ble_eq_true rfl, Nat.le_of_ble_eq_true rfl, Nat.le_of_ble_eq_true rfl⟩ (fun hz => X0_init_k q _ _ hz) (fun hz => X0_init_z hz) rfl rfl (Nat.le_of_ble_eq_true rfl) ?_
  refine k_putR 0 1 12 (fun _ _ _ h => h.2.2) rfl dX11_init_27 rfl kkX11 flX11_21 (by decide) rfl rfl (by decide) rfl rfl rfl rfl (fun _ => rfl) (fun _ => rfl) ?_
  refine k_aload_n 0 dX11_init_30 rfl rfl ?_
  refine k_new (N := 5) rfl dX11_init_31 rfl kkX8 clX11_25 in_X8 iz_X8 rfl rfl (by decide +kernel) (Nat.le_of_ble_eq_true rfl) (Nat.le_of_ble_eq_true rfl) ?_
  refine k_dup dX11_init_34 rfl rfl ?_
  refine k_init (As := []) (st := [.ref (q.ad 17), .ref (q.ad 0)]) 0 (fun z h => gi h) rfl dX11_init_35 rfl iX8_init (Or.inr ⟨rfl, by decide +kernel⟩) ⟨Nat.le_of_ble_eq_true rfl, Nat.le_of_ble_eq_true rfl, Nat.le_of_ble_eq_true rfl, Nat.le_of_ble_eq_true rfl⟩ (fun hz => X8_init_k q _ _ hz) (fun hz => X8_init_z hz) rfl rfl (Nat.le_of_ble_eq_true rfl) ?_
  refine k_putR 0 2 17 (fun _ _ _ h => h.2.2) rfl dX11_init_38 rfl kkX11 flX11_28 (by decide) rfl rfl (by decide) rfl rfl rfl rfl (fun _ => rfl) (fun _ => rfl) ?_
  refine k_aload_n 0 dX11_init_41 rfl rfl ?_
  refine k_new (N := 5) rfl dX11_init_42 rfl kkX4 clX11_32 in_X4 iz_X4 rfl rfl (by decide +kernel) (Nat.le_of_ble_eq_true rfl) (Nat.le_of_ble_eq_true rfl) ?_
  refine k_dup dX11_init_45 rfl rfl ?_
  refine k_init (As := []) (st := [.ref (q.ad 20), .ref (q.ad 0)]) 0 (fun z h => gi h) rfl dX11_init_46 rfl iX4_init (Or.inr ⟨rfl, by decide +kernel⟩) ⟨Nat.le_of_ble_eq_true rfl, Nat.le_of_ble_eq_true rfl, Nat.le_of_ble_eq_true rfl, Nat.le_of_ble_eq_true rfl⟩ (fun hz => X4_init_k q _ _ hz) (fun hz => X4_init_z hz) rfl rfl (Nat.le_of_ble_eq_true rfl) ?_
  refine k_putR 0 3 20 (fun _ _ _ h => h.2.2) rfl dX11_init_49 rfl kkX11 flX11_35 (by decide) rfl rfl (by decide) rfl rfl rfl rfl (fun _ => rfl) (fun _ => rfl) ?_
  refine k_aload_n 0 dX11_init_52 rfl rfl ?_
  refine k_new (N := 2) rfl dX11_init_53 rfl kkX6 clX11_39 in_X6 iz_X6 rfl rfl (by decide +kernel) (Nat.le_of_ble_eq_true rfl) (Nat.le_of_ble_eq_true rfl) ?_
  refine k_dup dX11_init_56 rfl rfl ?_
  refine k_init (As := []) (st := [.ref (q.ad 24), .ref (q.ad 0)]) 0 (fun z h => gi h) rfl dX11_init_57 rfl iX6_init (Or.inr ⟨rfl, by decide +kernel⟩) ⟨Nat.le_of_ble_eq_true rfl, Nat.le_of_ble_eq_true rfl, Nat.le_of_ble_eq_true rfl, Nat.le_of_ble_eq_true rfl⟩ (fun hz => X6_init_k q _ _ hz) (fun hz => X6_init_z hz) rfl rfl (Nat.le_of_ble_eq_true rfl) ?_
  refine k_putR 0 4 24 (fun _ _ _ h => h.2.2) rfl dX11_init_60 rfl kkX11 flX11_42 (by decide) rfl rfl (by decide) rfl rfl rfl rfl (fun _ => rfl) (fun _ => rfl) ?_
  refine k_aload_n 0 dX11_init_63 rfl rfl ?_
  refine k_new (N := 14) rfl dX11_init_64 rfl kkX9 clX11_46 in_X9 iz_X9 rfl rfl (by decide +kernel) (Nat.le_of_ble_eq_true rfl) (Nat.le_of_ble_eq_true rfl) ?_
  refine k_dup dX11_init_67 rfl rfl ?_
  refine k_aload_n 0 dX11_init_68 rfl rfl ?_
  refine k_getR 0 0 1 rfl dX11_init_69 rfl kkX11 flX11_10 (by decide) rfl rfl (by decide) rfl (by simp [X5_init_Z, X0_init_Z, X8_init_Z, X4_init_Z, X6_init_Z, X9_init_Z, X2_init_Z, zI, zR]) ?_
  refine k_aload_n 0 dX11_init_72 rfl rfl ?_
  refine k_getR 0 3 20 rfl dX11_init_73 rfl kkX11 flX11_35 (by decide) rfl rfl (by decide) rfl (by simp [X5_init_Z, X0_init_Z, X8_init_Z, X4_init_Z, X6_init_Z, X9_init_Z, X2_init_Z, zI, zR]) ?_
  refine k_aload_n 0 dX11_init_76 rfl rfl ?_
  refine k_getR 0 4 24 rfl dX11_init_77 rfl kkX11 flX11_42 (by decide) rfl rfl (by decide) rfl (by simp [X5_init_Z, X0_init_Z, X8_init_Z, X4_init_Z, X6_init_Z, X9_init_Z, X2_init_Z, zI, zR]) ?_
  refine k_init (As := [.ref (q.ad 1), .ref (q.ad 20), .ref (q.ad 24)]) (st := [.ref (q.ad 26), .ref (q.ad 0)]) 3 (fun z h => gi h) rfl dX11_init_80 rfl iX9_init (Or.inl lkX11_48) ⟨Nat.le_of_ble_eq_true rfl, Nat.le_of_ble_eq_true rfl, Nat.le_of_ble_eq_true rfl, Nat.le_of_ble_eq_true rfl⟩ (fun hz => X9_init_k q _ _ hz) (fun hz => X9_init_z hz) rfl rfl (Nat.le_of_ble_eq_true rfl) ?_
  refine k_putR 0 5 26 (fun _ _ _ h => h.2.2) rfl dX11_init_83 rfl kkX11 flX11_51 (by decide) rfl rfl (by decide) rfl rfl rfl rfl (fun _ => rfl) (fun _ => rfl) ?_
  refine k_aload_n 0 dX11_init_86 rfl rfl ?_
  refine k_new (N := 8) rfl dX11_init_87 rfl kkX2 clX11_55 in_X2 iz_X2 rfl rfl (by decide +kernel) (Nat.le_of_ble_eq_true rfl) (Nat.le_of_ble_eq_true rfl) ?_
  refine k_dup dX11_init_90 rfl rfl ?_
  refine k_init (As := []) (st := [.ref (q.ad 57), .ref (q.ad 0)]) 0 (fun z h => gi h) rfl dX11_init_91 rfl iX2_init (Or.inr ⟨rfl, by decide +kernel⟩) ⟨Nat.le_of_ble_eq_true rfl, Nat.le_of_ble_eq_true rfl, Nat.le_of_ble_eq_true rfl, Nat.le_of_ble_eq_true rfl⟩ (fun hz => X2_init_k q _ _ hz) (fun hz => X2_init_z hz) rfl rfl (Nat.le_of_ble_eq_true rfl) ?_
  refine k_putR 0 6 57 (fun _ _ _ h => h.2.2) rfl dX11_init_94 rfl kkX11 flX11_58 (by decide) rfl rfl (by decide) rfl rfl rfl rfl (fun _ => rfl) (fun _ => rfl) ?_
  refine k_aload_n 0 dX11_init_97 rfl rfl ?_
  refine k_new (N := 3) rfl dX11_init_98 rfl kkX3 clX11_62 in_X3 iz_X3 rfl rfl (by decide +kernel) (Nat.le_of_ble_eq_true rfl) (Nat.le_of_ble_eq_true rfl) ?_
  refine k_dup dX11_init_101 rfl rfl ?_
  refine k_aload_n 0 dX11_init_102 rfl rfl ?_
  refine k_getR 0 0 1 rfl dX11_init_103 rfl kkX11 flX11_10 (by decide) rfl rfl (by decide) rfl (by simp [X5_init_Z, X0_init_Z, X8_init_Z, X4_init_Z, X6_init_Z, X9_init_Z, X2_init_Z, zI, zR]) ?_
  refine k_init (As := [.ref (q.ad 1)]) (st := [.ref (q.ad 78), .ref (q.ad 0)]) 1 (fun z h => gi h) rfl dX11_init_106 rfl iX3_init (Or.inl lkX11_64) ⟨Nat.le_of_ble_eq_true rfl, Nat.le_of_ble_eq_true rfl, Nat.le_of_ble_eq_true rfl, Nat.le_of_ble_eq_true rfl⟩ (fun hz => X3_init_k q _ _ hz) (fun hz => X3_init_z hz) rfl rfl (Nat.le_of_ble_eq_true rfl) ?_
  refine k_putR 0 7 78 (fun _ _ _ h => h.2.2) rfl dX11_init_109 rfl kkX11 flX11_65 (by decide) rfl rfl (by decide) rfl rfl rfl rfl (fun _ => rfl) (fun _ => rfl) ?_
  refine k_aload_n 0 dX11_init_112 rfl rfl ?_
  refine k_new (N := 7) rfl dX11_init_113 rfl kkX1 clX11_69 in_X1 iz_X1 rfl rfl (by decide +kernel) (Nat.le_of_ble_eq_true rfl) (Nat.le_of_ble_eq_true rfl) ?_
  refine k_dup dX11_init_116 rfl rfl ?_
  refine k_init (As := []) (st := [.ref (q.ad 81), .ref (q.ad 0)]) 0 (fun z h => gi h) rfl dX11_init_117 rfl iX1_init (Or.inr ⟨rfl, by decide +kernel⟩) ⟨Nat.le_of_ble_eq_true rfl, Nat.le_of_ble_eq_true rfl, Nat.le_of_ble_eq_true rfl, Nat.le_of_ble_eq_true rfl⟩ (fun hz => X1_init_k q _ _ hz) (fun hz => X1_init_z hz) rfl rfl (Nat.le_of_ble_eq_true rfl) ?_
  refine k_putR 0 8 81 (fun _ _ _ h => h.2.2) rfl dX11_init_120 rfl kkX11 flX11_72 (by decide) rfl rfl (by decide) rfl rfl rfl rfl (fun _ => rfl) (fun _ => rfl) ?_
  refine k_aload_n 0 dX11_init_123 rfl rfl ?_
  refine k_new (N := 6) rfl dX11_init_124 rfl kkX10 clX11_76 in_X10 iz_X10 rfl rfl (by decide +kernel) (Nat.le_of_ble_eq_true rfl) (Nat.le_of_ble_eq_true rfl) ?_
  refine k_dup dX11_init_127 rfl rfl ?_
  refine k_init (As := []) (st := [.ref (q.ad 88), .ref (q.ad 0)]) 0 (fun z h => gi h) rfl dX11_init_128 rfl iX10_init (Or.inr ⟨rfl, by decide +kernel⟩) ⟨Nat.le_of_ble_eq_true rfl, Nat.le_of_ble_eq_true rfl, Nat.le_of_ble_eq_true rfl, Nat.le_of_ble_eq_true rfl⟩ (fun hz => X10_init_k q _ _ hz) (fun hz => X10_init_z hz) rfl rfl (Nat.le_of_ble_eq_true rfl) ?_
  refine k_putR 0 9 88 (fun _ _ _ h => h.2.2) rfl dX11_init_131 rfl kkX11 flX11_79 (by decide) rfl rfl (by decide) rfl rfl rfl rfl (fun _ => rfl) (fun _ => rfl) ?_
  refine k_aload_n 0 dX11_init_134 rfl rfl ?_
  refine k_new (N := 4) rfl dX11_init_135 rfl kkX7 clX11_83 in_X7 iz_X7 rfl rfl (by decide +kernel) (Nat.le_of_ble_eq_true rfl) (Nat.le_of_ble_eq_true rfl) ?_
  refine k_dup dX11_init_138 rfl rfl ?_
  refine k_init (As := []) (st := [.ref (q.ad 91), .ref (q.ad 0)]) 0 (fun z h => gi h) rfl dX11_init_139 rfl iX7_init (Or.inl lkX11_85) ⟨Nat.le_of_ble_eq_true rfl, Nat.le_of_ble_eq_true rfl, Nat.le_of_ble_eq_true rfl, Nat.le_of_ble_eq_true rfl⟩ (fun hz => X7_init_k q _ _ hz) (fun hz => X7_init_z hz) rfl rfl (Nat.le_of_ble_eq_true rfl) ?_
  refine k_putR 0 10 91 (fun _ _ _ h => h.2.2) rfl dX11_init_142 rfl kkX11 flX11_86 (by decide) rfl rfl (by decide) rfl rfl rfl rfl (fun _ => rfl) (fun _ => rfl) ?_
  exact k_ret dX11_init_145
theorem loX12_3 : Cond.methodLink RX12 3 Lib.objectInit ∈ tb := (tb_mem (List.mem_of_getElem? (i := 1350) (by decide +kernel)) (by decide +kernel))
theorem iX12_init : Yi nX12_init 0 := ⟨(tb_mem (List.mem_of_getElem? (i := 1348) (by decide +kernel)) (by decide +kernel)), (tb_mem (List.mem_of_getElem? (i := 107) (by decide +kernel)) (by decide +kernel)), (tb_mem (List.mem_of_getElem? (i := 1349) (by decide +kernel)) (by decide +kernel)), rfl, rfl, ⟨by decide +kernel, by decide +kernel, by decide +kernel⟩⟩
def X12_init_Z (Z : Zt) : Zt := (zI (zI (zI (zI (zI (zI (zI (zI (zI (zR (zR (zR (zR (zR (zR (zR (zR (zR (zR (zR (zR (zR (zR (zR (zR (zR (zR (zR (zR (zR (zR (zR (zR (zR (zR (zR (zR (zR (zR (zR (zR (zR (zR (zR (zR Z 102 1) 102 2) 102 3) 102 4) 102 5) 102 6) 102 7) 102 8) 102 9) 102 11) 102 14) 102 15) 102 16) 102 17) 102 22) 102 23) 102 24) 102 25) 102 26) 102 27) 102 28) 102 31) 102 32) 102 33) 102 36) 102 38) 102 40) 102 41) 102 42) 102 43) 102 45) 102 46) 102 47) 102 53) 102 54) 102 55) 109 (nx (1 : Int32)) (25 : Int32)) 109 (nx (2 : Int32)) (1 : Int32)) 102 48 (-2 : Int32)) 130 (nx (0 : Int32)) (-1 : Int32)) 130 (nx (1 : Int32)) (-1 : Int32)) 130 (nx (2 : Int32)) (-1 : Int32)) 130 (nx (3 : Int32)) (-1 : Int32)) 130 (nx (4 : Int32)) (-1 : Int32)) 130 (nx (5 : Int32)) (-1 : Int32))
theorem X12_init_z {Z : Zt} (h : zr Z 103) : zr (X12_init_Z Z) 139 := (((((((((((((((((((((((((((((((((((((((((((((((((((((((((((((((((((((((((((((((((h.up (by decide : 103 ≤ 104)).R (by decide : 102 < 104)).up (by decide : 104 ≤ 105)).R (by decide : 102 < 105)).up (by decide : 105 ≤ 106)).R (by decide : 102 < 106)).up (by decide : 106 ≤ 107)).R (by decide : 102 < 107)).up (by decide : 107 ≤ 108)).R (by decide : 102 < 108)).up (by decide : 108 ≤ 109)).R (by decide : 102 < 109)).up (by decide : 109 ≤ 110)).R (by decide : 102 < 110)).up (by decide : 110 ≤ 111)).R (by decide : 102 < 111)).up (by decide : 111 ≤ 112)).R (by decide : 102 < 112)).up (by decide : 112 ≤ 113)).R (by decide : 102 < 113)).up (by decide : 113 ≤ 114)).R (by decide : 102 < 114)).up (by decide : 114 ≤ 115)).R (by decide : 102 < 115)).up (by decide : 115 ≤ 116)).R (by decide : 102 < 116)).up (by decide : 116 ≤ 117)).R (by decide : 102 < 117)).up (by decide : 117 ≤ 118)).R (by decide : 102 < 118)).up (by decide : 118 ≤ 119)).R (by decide : 102 < 119)).up (by decide : 119 ≤ 120)).R (by decide : 102 < 120)).up (by decide : 120 ≤ 121)).R (by decide : 102 < 121)).up (by decide : 121 ≤ 122)).R (by decide : 102 < 122)).up (by decide : 122 ≤ 123)).R (by decide : 102 < 123)).up (by decide : 123 ≤ 124)).R (by decide : 102 < 124)).up (by decide : 124 ≤ 125)).R (by decide : 102 < 125)).up (by decide : 125 ≤ 126)).R (by decide : 102 < 126)).up (by decide : 126 ≤ 127)).R (by decide : 102 < 127)).up (by decide : 127 ≤ 128)).R (by decide : 102 < 128)).up (by decide : 128 ≤ 129)).R (by decide : 102 < 129)).up (by decide : 129 ≤ 130)).R (by decide : 102 < 130)).up (by decide : 130 ≤ 131)).R (by decide : 102 < 131)).up (by decide : 131 ≤ 132)).R (by decide : 102 < 132)).up (by decide : 132 ≤ 133)).R (by decide : 102 < 133)).up (by decide : 133 ≤ 134)).R (by decide : 102 < 134)).up (by decide : 134 ≤ 135)).R (by decide : 102 < 135)).up (by decide : 135 ≤ 136)).R (by decide : 102 < 136)).up (by decide : 136 ≤ 137)).R (by decide : 102 < 137)).up (by decide : 137 ≤ 138)).R (by decide : 102 < 138)).up (by decide : 138 ≤ 139)).R (by decide : 102 < 139)).I (by decide : 109 < 139)).I (by decide : 109 < 139)).I (by decide : 102 < 139)).I (by decide : 130 < 139)).I (by decide : 130 < 139)).I (by decide : 130 < 139)).I (by decide : 130 < 139)).I (by decide : 130 < 139)).I (by decide : 130 < 139))
set_option maxHeartbeats 2000000 in
set_option maxRecDepth 20000 in
theorem X12_init_k (q : Th) (B : Nat) (Z : Zt) (hz : zr Z 103) : CtK q B nX12_init 1 36 2438 [.ref (q.ad 102)] 103 Z 139 (X12_init_Z Z) := by
  refine ctK_of (by decide +kernel) rfl rfl (Nat.le_of_ble_eq_true rfl) hz ?_
  show GK q _ 0 [(0, .ref (q.ad 102))] [] _ _ 0 0
  refine k_aload_n 0 dX12_init_0 rfl rfl ?_
  refine k_obj rfl dX12_init_1 rfl loX12_3 oi_i oi_c (Nat.le_of_ble_eq_true rfl) (Nat.le_of_ble_eq_true rfl) ?_
  refine k_aload_n 0 dX12_init_4 rfl rfl ?_
  refine k_bipush dX12_init_5 rfl kbi_8 ?_
  refine k_newI (N := 8) dX12_init_7 rfl ac_int rfl rfl (by decide) (by decide +kernel) (Nat.le_of_ble_eq_true rfl) (Nat.le_of_ble_eq_true rfl) (Nat.le_of_ble_eq_true rfl) ?_
  refine k_putR 102 1 103 (fun _ _ _ h => h.2.2) rfl dX12_init_9 rfl kkX12 flX12_9 (by decide) rfl rfl (by decide) rfl rfl rfl rfl (fun _ => rfl) (fun _ => rfl) ?_
  refine k_aload_n 0 dX12_init_12 rfl rfl ?_
  refine k_bipush dX12_init_13 rfl kbi_8 ?_
  refine k_newI (N := 8) dX12_init_15 rfl ac_int rfl rfl (by decide) (by decide +kernel) (Nat.le_of_ble_eq_true rfl) (Nat.le_of_ble_eq_true rfl) (Nat.le_of_ble_eq_true rfl) ?_
  refine k_putR 102 2 104 (fun _ _ _ h => h.2.2) rfl dX12_init_17 rfl kkX12 flX12_15 (by decide) rfl rfl (by decide) rfl rfl rfl rfl (fun _ => rfl) (fun _ => rfl) ?_
  refine k_aload_n 0 dX12_init_20 rfl rfl ?_
  refine k_bipush dX12_init_21 rfl kbi_8 ?_
  refine k_newI (N := 8) dX12_init_23 rfl ac_int rfl rfl (by decide) (by decide +kernel) (Nat.le_of_ble_eq_true rfl) (Nat.le_of_ble_eq_true rfl) (Nat.le_of_ble_eq_true rfl) ?_
  refine k_putR 102 3 105 (fun _ _ _ h => h.2.2) rfl dX12_init_25 rfl kkX12 flX12_18 (by decide) rfl rfl (by decide) rfl rfl rfl rfl (fun _ => rfl) (fun _ => rfl) ?_
  refine k_aload_n 0 dX12_init_28 rfl rfl ?_
  refine k_bipush dX12_init_29 rfl kbi_8 ?_
  refine k_newI (N := 8) dX12_init_31 rfl ac_int rfl rfl (by decide) (by decide +kernel) (Nat.le_of_ble_eq_true rfl) (Nat.le_of_ble_eq_true rfl) (Nat.le_of_ble_eq_true rfl) ?_
  refine k_putR 102 4 106 (fun _ _ _ h => h.2.2) rfl dX12_init_33 rfl kkX12 flX12_21 (by decide) rfl rfl (by decide) rfl rfl rfl rfl (fun _ => rfl) (fun _ => rfl) ?_
  refine k_aload_n 0 dX12_init_36 rfl rfl ?_
  refine k_bipush dX12_init_37 rfl kbi_8 ?_
  refine k_newI (N := 8) dX12_init_39 rfl ac_int rfl rfl (by decide) (by decide +kernel) (Nat.le_of_ble_eq_true rfl) (Nat.le_of_ble_eq_true rfl) (Nat.le_of_ble_eq_true rfl) ?_
  refine k_putR 102 5 107 (fun _ _ _ h => h.2.2) rfl dX12_init_41 rfl kkX12 flX12_24 (by decide) rfl rfl (by decide) rfl rfl rfl rfl (fun _ => rfl) (fun _ => rfl) ?_
  refine k_aload_n 0 dX12_init_44 rfl rfl ?_
  refine k_bipush dX12_init_45 rfl kbi_8 ?_
  refine k_newI (N := 8) dX12_init_47 rfl ac_int rfl rfl (by decide) (by decide +kernel) (Nat.le_of_ble_eq_true rfl) (Nat.le_of_ble_eq_true rfl) (Nat.le_of_ble_eq_true rfl) ?_
  refine k_putR 102 6 108 (fun _ _ _ h => h.2.2) rfl dX12_init_49 rfl kkX12 flX12_27 (by decide) rfl rfl (by decide) rfl rfl rfl rfl (fun _ => rfl) (fun _ => rfl) ?_
  refine k_aload_n 0 dX12_init_52 rfl rfl ?_
  refine k_iconst dX12_init_53 rfl kic_3 ?_
  refine k_newI (N := 3) dX12_init_54 rfl ac_int rfl rfl (by decide) (by decide +kernel) (Nat.le_of_ble_eq_true rfl) (Nat.le_of_ble_eq_true rfl) (Nat.le_of_ble_eq_true rfl) ?_
  refine k_putR 102 7 109 (fun _ _ _ h => h.2.2) rfl dX12_init_56 rfl kkX12 flX12_30 (by decide) rfl rfl (by decide) rfl rfl rfl rfl (fun _ => rfl) (fun _ => rfl) ?_
  refine k_aload_n 0 dX12_init_59 rfl rfl ?_
  refine k_bipush dX12_init_60 rfl kbi_8 ?_
  refine k_newI (N := 8) dX12_init_62 rfl ac_int rfl rfl (by decide) (by decide +kernel) (Nat.le_of_ble_eq_true rfl) (Nat.le_of_ble_eq_true rfl) (Nat.le_of_ble_eq_true rfl) ?_
  refine k_putR 102 8 110 (fun _ _ _ h => h.2.2) rfl dX12_init_64 rfl kkX12 flX12_33 (by decide) rfl rfl (by decide) rfl rfl rfl rfl (fun _ => rfl) (fun _ => rfl) ?_
  refine k_aload_n 0 dX12_init_67 rfl rfl ?_
  refine k_bipush dX12_init_68 rfl kbi_8 ?_
  refine k_newI (N := 8) dX12_init_70 rfl ac_int rfl rfl (by decide) (by decide +kernel) (Nat.le_of_ble_eq_true rfl) (Nat.le_of_ble_eq_true rfl) (Nat.le_of_ble_eq_true rfl) ?_
  refine k_putR 102 9 111 (fun _ _ _ h => h.2.2) rfl dX12_init_72 rfl kkX12 flX12_36 (by decide) rfl rfl (by decide) rfl rfl rfl rfl (fun _ => rfl) (fun _ => rfl) ?_
  refine k_aload_n 0 dX12_init_75 rfl rfl ?_
  refine k_bipush dX12_init_76 rfl kbi_120 ?_
  refine k_newI (N := 120) dX12_init_78 rfl ac_int rfl rfl (by decide) (by decide +kernel) (Nat.le_of_ble_eq_true rfl) (Nat.le_of_ble_eq_true rfl) (Nat.le_of_ble_eq_true rfl) ?_
  refine k_putR 102 11 112 (fun _ _ _ h => h.2.2) rfl dX12_init_80 rfl kkX12 flX12_39 (by decide) rfl rfl (by decide) rfl rfl rfl rfl (fun _ => rfl) (fun _ => rfl) ?_
  refine k_aload_n 0 dX12_init_83 rfl rfl ?_
  refine k_bipush dX12_init_84 rfl kbi_60 ?_
  refine k_newI (N := 60) dX12_init_86 rfl ac_int rfl rfl (by decide) (by decide +kernel) (Nat.le_of_ble_eq_true rfl) (Nat.le_of_ble_eq_true rfl) (Nat.le_of_ble_eq_true rfl) ?_
  refine k_putR 102 14 113 (fun _ _ _ h => h.2.2) rfl dX12_init_88 rfl kkX12 flX12_42 (by decide) rfl rfl (by decide) rfl rfl rfl rfl (fun _ => rfl) (fun _ => rfl) ?_
  refine k_aload_n 0 dX12_init_91 rfl rfl ?_
  refine k_bipush dX12_init_92 rfl kbi_60 ?_
  refine k_newI (N := 60) dX12_init_94 rfl ac_int rfl rfl (by decide) (by decide +kernel) (Nat.le_of_ble_eq_true rfl) (Nat.le_of_ble_eq_true rfl) (Nat.le_of_ble_eq_true rfl) ?_
  refine k_putR 102 15 114 (fun _ _ _ h => h.2.2) rfl dX12_init_96 rfl kkX12 flX12_45 (by decide) rfl rfl (by decide) rfl rfl rfl rfl (fun _ => rfl) (fun _ => rfl) ?_
  refine k_aload_n 0 dX12_init_99 rfl rfl ?_
  refine k_bipush dX12_init_100 rfl kbi_60 ?_
  refine k_newI (N := 60) dX12_init_102 rfl ac_int rfl rfl (by decide) (by decide +kernel) (Nat.le_of_ble_eq_true rfl) (Nat.le_of_ble_eq_true rfl) (Nat.le_of_ble_eq_true rfl) ?_
  refine k_putR 102 16 115 (fun _ _ _ h => h.2.2) rfl dX12_init_104 rfl kkX12 flX12_48 (by decide) rfl rfl (by decide) rfl rfl rfl rfl (fun _ => rfl) (fun _ => rfl) ?_
  refine k_aload_n 0 dX12_init_107 rfl rfl ?_
  refine k_sipush dX12_init_108 rfl ksi_200 ?_
  refine k_newI (N := 200) dX12_init_111 rfl ac_int rfl rfl (by decide) (by decide +kernel) (Nat.le_of_ble_eq_true rfl) (Nat.le_of_ble_eq_true rfl) (Nat.le_of_ble_eq_true rfl) ?_
  refine k_putR 102 17 116 (fun _ _ _ h => h.2.2) rfl dX12_init_113 rfl kkX12 flX12_51 (by decide) rfl rfl (by decide) rfl rfl rfl rfl (fun _ => rfl) (fun _ => rfl) ?_
  refine k_aload_n 0 dX12_init_116 rfl rfl ?_
  refine k_bipush dX12_init_117 rfl kbi_61 ?_
  refine k_newI (N := 61) dX12_init_119 rfl ac_int rfl rfl (by decide) (by decide +kernel) (Nat.le_of_ble_eq_true rfl) (Nat.le_of_ble_eq_true rfl) (Nat.le_of_ble_eq_true rfl) ?_
  refine k_putR 102 22 117 (fun _ _ _ h => h.2.2) rfl dX12_init_121 rfl kkX12 flX12_54 (by decide) rfl rfl (by decide) rfl rfl rfl rfl (fun _ => rfl) (fun _ => rfl) ?_
  refine k_aload_n 0 dX12_init_124 rfl rfl ?_
  refine k_bipush dX12_init_125 rfl kbi_61 ?_
  refine k_newI (N := 61) dX12_init_127 rfl ac_int rfl rfl (by decide) (by decide +kernel) (Nat.le_of_ble_eq_true rfl) (Nat.le_of_ble_eq_true rfl) (Nat.le_of_ble_eq_true rfl) ?_
  refine k_putR 102 23 118 (fun _ _ _ h => h.2.2) rfl dX12_init_129 rfl kkX12 flX12_57 (by decide) rfl rfl (by decide) rfl rfl rfl rfl (fun _ => rfl) (fun _ => rfl) ?_
  refine k_aload_n 0 dX12_init_132 rfl rfl ?_
  refine k_bipush dX12_init_133 rfl kbi_61 ?_
  refine k_newI (N := 61) dX12_init_135 rfl ac_int rfl rfl (by decide) (by decide +kernel) (Nat.le_of_ble_eq_true rfl) (Nat.le_of_ble_eq_true rfl) (Nat.le_of_ble_eq_true rfl) ?_
  refine k_putR 102 24 119 (fun _ _ _ h => h.2.2) rfl dX12_init_137 rfl kkX12 flX12_60 (by decide) rfl rfl (by decide) rfl rfl rfl rfl (fun _ => rfl) (fun _ => rfl) ?_
  refine k_aload_n 0 dX12_init_140 rfl rfl ?_
  refine k_sipush dX12_init_141 rfl ksi_200 ?_
  refine k_newI (N := 200) dX12_init_144 rfl ac_int rfl rfl (by decide) (by decide +kernel) (Nat.le_of_ble_eq_true rfl) (Nat.le_of_ble_eq_true rfl) (Nat.le_of_ble_eq_true rfl) ?_
  refine k_putR 102 25 120 (fun _ _ _ h => h.2.2) rfl dX12_init_146 rfl kkX12 flX12_63 (by decide) rfl rfl (by decide) rfl rfl rfl rfl (fun _ => rfl) (fun _ => rfl) ?_
  refine k_aload_n 0 dX12_init_149 rfl rfl ?_
  refine k_sipush dX12_init_150 rfl ksi_200 ?_
  refine k_newI (N := 200) dX12_init_153 rfl ac_int rfl rfl (by decide) (by decide +kernel) (Nat.le_of_ble_eq_true rfl) (Nat.le_of_ble_eq_true rfl) (Nat.le_of_ble_eq_true rfl) ?_
  refine k_putR 102 26 121 (fun _ _ _ h => h.2.2) rfl dX12_init_155 rfl kkX12 flX12_66 (by decide) rfl rfl (by decide) rfl rfl rfl rfl (fun _ => rfl) (fun _ => rfl) ?_
  refine k_aload_n 0 dX12_init_158 rfl rfl ?_
  refine k_bipush dX12_init_159 rfl kbi_6 ?_
  refine k_newI (N := 6) dX12_init_161 rfl ac_int rfl rfl (by decide) (by decide +kernel) (Nat.le_of_ble_eq_true rfl) (Nat.le_of_ble_eq_true rfl) (Nat.le_of_ble_eq_true rfl) ?_
  refine k_putR 102 27 122 (fun _ _ _ h => h.2.2) rfl dX12_init_163 rfl kkX12 flX12_69 (by decide) rfl rfl (by decide) rfl rfl rfl rfl (fun _ => rfl) (fun _ => rfl) ?_
  refine k_aload_n 0 dX12_init_166 rfl rfl ?_
  refine k_iconst dX12_init_167 rfl kic_5 ?_
  refine k_newI (N := 5) dX12_init_168 rfl ac_int rfl rfl (by decide) (by decide +kernel) (Nat.le_of_ble_eq_true rfl) (Nat.le_of_ble_eq_true rfl) (Nat.le_of_ble_eq_true rfl) ?_
  refine k_putR 102 28 123 (fun _ _ _ h => h.2.2) rfl dX12_init_170 rfl kkX12 flX12_72 (by decide) rfl rfl (by decide) rfl rfl rfl rfl (fun _ => rfl) (fun _ => rfl) ?_
  refine k_aload_n 0 dX12_init_173 rfl rfl ?_
  refine k_bipush dX12_init_174 rfl kbi_8 ?_
  refine k_newI (N := 8) dX12_init_176 rfl ac_int rfl rfl (by decide) (by decide +kernel) (Nat.le_of_ble_eq_true rfl) (Nat.le_of_ble_eq_true rfl) (Nat.le_of_ble_eq_true rfl) ?_
  refine k_putR 102 31 124 (fun _ _ _ h => h.2.2) rfl dX12_init_178 rfl kkX12 flX12_75 (by decide) rfl rfl (by decide) rfl rfl rfl rfl (fun _ => rfl) (fun _ => rfl) ?_
  refine k_aload_n 0 dX12_init_181 rfl rfl ?_
  refine k_bipush dX12_init_182 rfl kbi_8 ?_
  refine k_newI (N := 8) dX12_init_184 rfl ac_int rfl rfl (by decide) (by decide +kernel) (Nat.le_of_ble_eq_true rfl) (Nat.le_of_ble_eq_true rfl) (Nat.le_of_ble_eq_true rfl) ?_
  refine k_putR 102 32 125 (fun _ _ _ h => h.2.2) rfl dX12_init_186 rfl kkX12 flX12_78 (by decide) rfl rfl (by decide) rfl rfl rfl rfl (fun _ => rfl) (fun _ => rfl) ?_
  refine k_aload_n 0 dX12_init_189 rfl rfl ?_
  refine k_iconst dX12_init_190 rfl kic_5 ?_
  refine k_newI (N := 5) dX12_init_191 rfl ac_int rfl rfl (by decide) (by decide +kernel) (Nat.le_of_ble_eq_true rfl) (Nat.le_of_ble_eq_true rfl) (Nat.le_of_ble_eq_true rfl) ?_
  refine k_putR 102 33 126 (fun _ _ _ h => h.2.2) rfl dX12_init_193 rfl kkX12 flX12_81 (by decide) rfl rfl (by decide) rfl rfl rfl rfl (fun _ => rfl) (fun _ => rfl) ?_
  refine k_aload_n 0 dX12_init_196 rfl rfl ?_
  refine k_sipush dX12_init_197 rfl ksi_160 ?_
  refine k_newI (N := 160) dX12_init_200 rfl ac_int rfl rfl (by decide) (by decide +kernel) (Nat.le_of_ble_eq_true rfl) (Nat.le_of_ble_eq_true rfl) (Nat.le_of_ble_eq_true rfl) ?_
  refine k_putR 102 36 127 (fun _ _ _ h => h.2.2) rfl dX12_init_202 rfl kkX12 flX12_84 (by decide) rfl rfl (by decide) rfl rfl rfl rfl (fun _ => rfl) (fun _ => rfl) ?_
  refine k_aload_n 0 dX12_init_205 rfl rfl ?_
  refine k_bipush dX12_init_206 rfl kbi_50 ?_
  refine k_newI (N := 50) dX12_init_208 rfl ac_int rfl rfl (by decide) (by decide +kernel) (Nat.le_of_ble_eq_true rfl) (Nat.le_of_ble_eq_true rfl) (Nat.le_of_ble_eq_true rfl) ?_
  refine k_putR 102 38 128 (fun _ _ _ h => h.2.2) rfl dX12_init_210 rfl kkX12 flX12_87 (by decide) rfl rfl (by decide) rfl rfl rfl rfl (fun _ => rfl) (fun _ => rfl) ?_
  refine k_aload_n 0 dX12_init_213 rfl rfl ?_
  refine k_bipush dX12_init_214 rfl kbi_24 ?_
  refine k_newI (N := 24) dX12_init_216 rfl ac_int rfl rfl (by decide) (by decide +kernel) (Nat.le_of_ble_eq_true rfl) (Nat.le_of_ble_eq_true rfl) (Nat.le_of_ble_eq_true rfl) ?_
  refine k_putR 102 40 129 (fun _ _ _ h => h.2.2) rfl dX12_init_218 rfl kkX12 flX12_90 (by decide) rfl rfl (by decide) rfl rfl rfl rfl (fun _ => rfl) (fun _ => rfl) ?_
  refine k_aload_n 0 dX12_init_221 rfl rfl ?_
  refine k_bipush dX12_init_222 rfl kbi_6 ?_
  refine k_newI (N := 6) dX12_init_224 rfl ac_int rfl rfl (by decide) (by decide +kernel) (Nat.le_of_ble_eq_true rfl) (Nat.le_of_ble_eq_true rfl) (Nat.le_of_ble_eq_true rfl) ?_
  refine k_putR 102 41 130 (fun _ _ _ h => h.2.2) rfl dX12_init_226 rfl kkX12 flX12_93 (by decide) rfl rfl (by decide) rfl rfl rfl rfl (fun _ => rfl) (fun _ => rfl) ?_
  refine k_aload_n 0 dX12_init_229 rfl rfl ?_
  refine k_bipush dX12_init_230 rfl kbi_6 ?_
  refine k_newI (N := 6) dX12_init_232 rfl ac_int rfl rfl (by decide) (by decide +kernel) (Nat.le_of_ble_eq_true rfl) (Nat.le_of_ble_eq_true rfl) (Nat.le_of_ble_eq_true rfl) ?_
  refine k_putR 102 42 131 (fun _ _ _ h => h.2.2) rfl dX12_init_234 rfl kkX12 flX12_96 (by decide) rfl rfl (by decide) rfl rfl rfl rfl (fun _ => rfl) (fun _ => rfl) ?_
  refine k_aload_n 0 dX12_init_237 rfl rfl ?_
  refine k_sipush dX12_init_238 rfl ksi_360 ?_
  refine k_newL (N := 360) dX12_init_241 rfl ac_long rfl rfl (by decide) (by decide +kernel) (Nat.le_of_ble_eq_true rfl) (Nat.le_of_ble_eq_true rfl) (Nat.le_of_ble_eq_true rfl) ?_
  refine k_putR 102 43 132 (fun _ _ _ h => h.2.2) rfl dX12_init_243 rfl kkX12 flX12_99 (by decide) rfl rfl (by decide) rfl rfl rfl rfl (fun _ => rfl) (fun _ => rfl) ?_
  refine k_aload_n 0 dX12_init_246 rfl rfl ?_
  refine k_bipush dX12_init_247 rfl kbi_60 ?_
  refine k_newI (N := 60) dX12_init_249 rfl ac_int rfl rfl (by decide) (by decide +kernel) (Nat.le_of_ble_eq_true rfl) (Nat.le_of_ble_eq_true rfl) (Nat.le_of_ble_eq_true rfl) ?_
  refine k_putR 102 45 133 (fun _ _ _ h => h.2.2) rfl dX12_init_251 rfl kkX12 flX12_103 (by decide) rfl rfl (by decide) rfl rfl rfl rfl (fun _ => rfl) (fun _ => rfl) ?_
  refine k_aload_n 0 dX12_init_254 rfl rfl ?_
  refine k_sipush dX12_init_255 rfl ksi_488 ?_
  refine k_newI (N := 488) dX12_init_258 rfl ac_int rfl rfl (by decide) (by decide +kernel) (Nat.le_of_ble_eq_true rfl) (Nat.le_of_ble_eq_true rfl) (Nat.le_of_ble_eq_true rfl) ?_
  refine k_putR 102 46 134 (fun _ _ _ h => h.2.2) rfl dX12_init_260 rfl kkX12 flX12_106 (by decide) rfl rfl (by decide) rfl rfl rfl rfl (fun _ => rfl) (fun _ => rfl) ?_
  refine k_aload_n 0 dX12_init_263 rfl rfl ?_
  refine k_bipush dX12_init_264 rfl kbi_80 ?_
  refine k_newI (N := 80) dX12_init_266 rfl ac_int rfl rfl (by decide) (by decide +kernel) (Nat.le_of_ble_eq_true rfl) (Nat.le_of_ble_eq_true rfl) (Nat.le_of_ble_eq_true rfl) ?_
  refine k_putR 102 47 135 (fun _ _ _ h => h.2.2) rfl dX12_init_268 rfl kkX12 flX12_109 (by decide) rfl rfl (by decide) rfl rfl rfl rfl (fun _ => rfl) (fun _ => rfl) ?_
  refine k_aload_n 0 dX12_init_271 rfl rfl ?_
  refine k_bipush dX12_init_272 rfl kbi_10 ?_
  refine k_newI (N := 10) dX12_init_274 rfl ac_int rfl rfl (by decide) (by decide +kernel) (Nat.le_of_ble_eq_true rfl) (Nat.le_of_ble_eq_true rfl) (Nat.le_of_ble_eq_true rfl) ?_
  refine k_putR 102 53 136 (fun _ _ _ h => h.2.2) rfl dX12_init_276 rfl kkX12 flX12_112 (by decide) rfl rfl (by decide) rfl rfl rfl rfl (fun _ => rfl) (fun _ => rfl) ?_
  refine k_aload_n 0 dX12_init_279 rfl rfl ?_
  refine k_bipush dX12_init_280 rfl kbi_6 ?_
  refine k_newI (N := 6) dX12_init_282 rfl ac_int rfl rfl (by decide) (by decide +kernel) (Nat.le_of_ble_eq_true rfl) (Nat.le_of_ble_eq_true rfl) (Nat.le_of_ble_eq_true rfl) ?_
  refine k_putR 102 54 137 (fun _ _ _ h => h.2.2) rfl dX12_init_284 rfl kkX12 flX12_115 (by decide) rfl rfl (by decide) rfl rfl rfl rfl (fun _ => rfl) (fun _ => rfl) ?_
  refine k_aload_n 0 dX12_init_287 rfl rfl ?_
  refine k_bipush dX12_init_288 rfl kbi_6 ?_
  refine k_newI (N := 6) dX12_init_290 rfl ac_int rfl rfl (by decide) (by decide +kernel) (Nat.le_of_ble_eq_true rfl) (Nat.le_of_ble_eq_true rfl) (Nat.le_of_ble_eq_true rfl) ?_
  refine k_putR 102 55 138 (fun _ _ _ h => h.2.2) rfl dX12_init_292 rfl kkX12 flX12_118 (by decide) rfl rfl (by decide) rfl rfl rfl rfl (fun _ => rfl) (fun _ => rfl) ?_
  refine k_aload_n 0 dX12_init_295 rfl rfl ?_
  refine k_getR 102 7 109 rfl dX12_init_296 rfl kkX12 flX12_30 (by decide) rfl rfl (by decide) rfl (by simp [zI, zR]) ?_
  refine k_iconst dX12_init_299 rfl kic_1 ?_
  refine k_bipush dX12_init_300 rfl kbi_25 ?_
  refine k_iast 109 3 dX12_init_302 rfl (by decide) rfl rfl (by decide +kernel) ?_
  refine k_aload_n 0 dX12_init_303 rfl rfl ?_
  refine k_getR 102 7 109 rfl dX12_init_304 rfl kkX12 flX12_30 (by decide) rfl rfl (by decide) rfl (by simp [zI, zR]) ?_
  refine k_iconst dX12_init_307 rfl kic_2 ?_
  refine k_iconst dX12_init_308 rfl kic_1 ?_
  refine k_iast 109 3 dX12_init_309 rfl (by decide) rfl rfl (by decide +kernel) ?_
  refine k_aload_n 0 dX12_init_310 rfl rfl ?_
  refine k_bipush dX12_init_311 rfl kbi_m2 ?_
  refine k_putI 102 48 rfl dX12_init_313 rfl kkX12 flX12_121 (by decide) rfl rfl (by decide) rfl rfl rfl ?_
  refine k_iconst dX12_init_316 rfl kic_0 ?_
  refine k_istore_n (lv' := [(1, .int (0 : Int32)), (0, .ref (q.ad 102))]) dX12_init_317 rfl rfl (Nat.le_of_ble_eq_true rfl) rfl ?_
  refine k_iload_n 0 dX12_init_318 rfl rfl ?_
  refine k_bipush dX12_init_319 rfl kbi_6 ?_
  refine k_ge_f dX12_init_321 rfl rfl (by decide) ?_
  refine k_aload_n 1 dX12_init_324 rfl rfl ?_
  refine k_getR 102 41 130 rfl dX12_init_325 rfl kkX12 flX12_93 (by decide) rfl rfl (by decide) rfl (by simp [zI, zR]) ?_
  refine k_iload_n 0 dX12_init_328 rfl rfl ?_
  refine k_iconst dX12_init_329 rfl kic_m1 ?_
  refine k_iast 130 6 dX12_init_330 rfl (by decide) rfl rfl (by decide +kernel) ?_
  refine k_iinc (lv' := [(1, .int (1 : Int32)), (0, .ref (q.ad 102))]) (v := 1) 0 dX12_init_331 rfl rfl (by decide +kernel) (Nat.le_of_ble_eq_true rfl) rfl ?_
  refine k_goto dX12_init_334 rfl ?_
  refine k_iload_n 0 dX12_init_318 rfl rfl ?_
  refine k_bipush dX12_init_319 rfl kbi_6 ?_
  refine k_ge_f dX12_init_321 rfl rfl (by decide) ?_
  refine k_aload_n 1 dX12_init_324 rfl rfl ?_
  refine k_getR 102 41 130 rfl dX12_init_325 rfl kkX12 flX12_93 (by decide) rfl rfl (by decide) rfl (by simp [zI, zR]) ?_
  refine k_iload_n 0 dX12_init_328 rfl rfl ?_
  refine k_iconst dX12_init_329 rfl kic_m1 ?_
  refine k_iast 130 6 dX12_init_330 rfl (by decide) rfl rfl (by decide +kernel) ?_
  refine k_iinc (lv' := [(1, .int (2 : Int32)), (0, .ref (q.ad 102))]) (v := 2) 0 dX12_init_331 rfl rfl (by decide +kernel) (Nat.le_of_ble_eq_true rfl) rfl ?_
  refine k_goto dX12_init_334 rfl ?_
  refine k_iload_n 0 dX12_init_318 rfl rfl ?_
  refine k_bipush dX12_init_319 rfl kbi_6 ?_
  refine k_ge_f dX12_init_321 rfl rfl (by decide) ?_
  refine k_aload_n 1 dX12_init_324 rfl rfl ?_
  refine k_getR 102 41 130 rfl dX12_init_325 rfl kkX12 flX12_93 (by decide) rfl rfl (by decide) rfl (by simp [zI, zR]) ?_
  refine k_iload_n 0 dX12_init_328 rfl rfl ?_
  refine k_iconst dX12_init_329 rfl kic_m1 ?_
  refine k_iast 130 6 dX12_init_330 rfl (by decide) rfl rfl (by decide +kernel) ?_
  refine k_iinc (lv' := [(1, .int (3 : Int32)), (0, .ref (q.ad 102))]) (v := 3) 0 dX12_init_331 rfl rfl (by decide +kernel) (Nat.le_of_ble_eq_true rfl) rfl ?_
  refine k_goto dX12_init_334 rfl ?_
  refine k_iload_n 0 dX12_init_318 rfl rfl ?_
  refine k_bipush dX12_init_319 rfl kbi_6 ?_
  refine k_ge_f dX12_init_321 rfl rfl (by decide) ?_
  refine k_aload_n 1 dX12_init_324 rfl rfl ?_
  refine k_getR 102 41 130 rfl dX12_init_325 rfl kkX12 flX12_93 (by decide) rfl rfl (by decide) rfl (by simp [zI, zR]) ?_
  refine k_iload_n 0 dX12_init_328 rfl rfl ?_
  refine k_iconst dX12_init_329 rfl kic_m1 ?_
  refine k_iast 130 6 dX12_init_330 rfl (by decide) rfl rfl (by decide +kernel) ?_
  refine k_iinc (lv' := [(1, .int (4 : Int32)), (0, .ref (q.ad 102))]) (v := 4) 0 dX12_init_331 rfl rfl (by decide +kernel) (Nat.le_of_ble_eq_true rfl) rfl ?_
  refine k_goto dX12_init_334 rfl ?_
  refine k_iload_n 0 dX12_init_318 rfl rfl ?_
  refine k_bipush dX12_init_319 rfl kbi_6 ?_
  refine k_ge_f dX12_init_321 rfl rfl (by decide) ?_
  refine k_aload_n 1 dX12_init_324 rfl rfl ?_
  refine k_getR 102 41 130 rfl dX12_init_325 rfl kkX12 flX12_93 (by decide) rfl rfl (by decide) rfl (by simp [zI, zR]) ?_
  refine k_iload_n 0 dX12_init_328 rfl rfl ?_
  refine k_iconst dX12_init_329 rfl kic_m1 ?_
  refine k_iast 130 6 dX12_init_330 rfl (by decide) rfl rfl (by decide +kernel) ?_
  refine k_iinc (lv' := [(1, .int (5 : Int32)), (0, .ref (q.ad 102))]) (v := 5) 0 dX12_init_331 rfl rfl (by decide +kernel) (Nat.le_of_ble_eq_true rfl) rfl ?_
  refine k_goto dX12_init_334 rfl ?_
  refine k_iload_n 0 dX12_init_318 rfl rfl ?_
  refine k_bipush dX12_init_319 rfl kbi_6 ?_
  refine k_ge_f dX12_init_321 rfl rfl (by decide) ?_
  refine k_aload_n 1 dX12_init_324 rfl rfl ?_
  refine k_getR 102 41 130 rfl dX12_init_325 rfl kkX12 flX12_93 (by decide) rfl rfl (by decide) rfl (by simp [zI, zR]) ?_
  refine k_iload_n 0 dX12_init_328 rfl rfl ?_
  refine k_iconst dX12_init_329 rfl kic_m1 ?_
  refine k_iast 130 6 dX12_init_330 rfl (by decide) rfl rfl (by decide +kernel) ?_
  refine k_iinc (lv' := [(1, .int (6 : Int32)), (0, .ref (q.ad 102))]) (v := 6) 0 dX12_init_331 rfl rfl (by decide +kernel) (Nat.le_of_ble_eq_true rfl) rfl ?_
  refine k_goto dX12_init_334 rfl ?_
  refine k_iload_n 0 dX12_init_318 rfl rfl ?_
  refine k_bipush dX12_init_319 rfl kbi_6 ?_
  refine k_ge_t dX12_init_321 rfl (by decide) ?_
  exact k_ret dX12_init_337
theorem in_X11 : Cond.instantiable RX11 11 ∈ tb := (tb_mem (List.mem_of_getElem? (i := 117) (by decide +kernel)) (by decide +kernel))
theorem iz_X11 : Cond.initialized RX11 ∈ tb := (tb_mem (List.mem_of_getElem? (i := 95) (by decide +kernel)) (by decide +kernel))
theorem clL_7 : Cond.classLink RL 7 RX11 ∈ tb := (tb_mem (List.mem_of_getElem? (i := 116) (by decide +kernel)) (by decide +kernel))
theorem lkL_9 : Cond.methodLink RL 9 yX11_init ∈ tb := (tb_mem (List.mem_of_getElem? (i := 118) (by decide +kernel)) (by decide +kernel))
theorem in_X12 : Cond.instantiable RX12 56 ∈ tb := (tb_mem (List.mem_of_getElem? (i := 1346) (by decide +kernel)) (by decide +kernel))
theorem iz_X12 : Cond.initialized RX12 ∈ tb := (tb_mem (List.mem_of_getElem? (i := 107) (by decide +kernel)) (by decide +kernel))
theorem clL_10 : Cond.classLink RL 10 RX12 ∈ tb := (tb_mem (List.mem_of_getElem? (i := 1345) (by decide +kernel)) (by decide +kernel))
theorem lkL_12 : Cond.methodLink RL 12 yX12_init ∈ tb := (tb_mem (List.mem_of_getElem? (i := 1347) (by decide +kernel)) (by decide +kernel))
