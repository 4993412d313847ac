theorem sfJ0_38 : Cond.fieldLink RJ0 38 "java/lang/String" "COMPACT_STRINGS" "Z" ∈ tb := (tb_mem (List.mem_of_getElem? (i := 589) (by decide +kernel)) (by decide +kernel))
theorem sfJ0_15 : Cond.fieldLink RJ0 15 "java/lang/String" "code\x72" "B" ∈ tb := (tb_mem (List.mem_of_getElem? (i := 1911) (by decide +kernel)) (by decide +kernel))
theorem sfJ0_9 : Cond.fieldLink RJ0 9 "java/lang/String" "value" "[B" ∈ tb := (tb_mem (List.mem_of_getElem? (i := 1912) (by decide +kernel)) (by decide +kernel))
/-! String.indexOf(char) on the one text there is -/
section RULES9
variable {q : Th} {F : FrI} {ρ : Type} {φ : ρ → Option Value × St} {pc pc' : Nat} {lv lv' : List (Nat × Value)} {st : List Value} {X : St} {T T1 T2 : Option ρ}
theorem ct_ofF {q : Th} {y : MN} {d : Nat} {ρ : Type} {φ : ρ → Option Value × St} {av : List Value} {X : St} {T : Option ρ} (hy : plainFor y.1 = true) (hlen : (lg_sl av).length ≤ y.2.2.1) (k : G q (mF q y y.1.cls d) φ 0 (lv_args 0 av) [] X T) : Ct q y d φ av X T := by
  intro r hr
  refine va_MetF (cc := y.2.1) (maxL := y.2.2.1) (ret := y.2.2.2) (ws' := tb) hy rfl ?_
  intro p e s m args below meth c s₁ B hml hv
  obtain ⟨rfl, hap, hP, hK, hs⟩ := hv
  rw [lg_entry_eq]
  have hts := atoms_spec (ws := wl y) B.pre
  exact k r hr p e s m _ below meth c ⟨B.exec, B.bytes, hml, findClass_of_methodNamed B.named, hts, fun w hw => List.mem_cons_of_mem _ hw, hK, hs, hap, B.returns, B.notSynchronized⟩ s.heap [] _ (lv_entry av hlen) hP va_S.rf
theorem g_cs {own : String} {n : Nat} (hown : F.2.2.1 = own) (hd : decode F.1 pc = .ok (.getstatic n, 3)) (hp : pc + 3 = pc') (hw : Cond.fieldLink own n "java/lang/String" "COMPACT_STRINGS" "Z" ∈ tb) (k : G q F φ pc' lv (.int 1 :: st) X T) : G q F φ pc lv st X T := by
  subst hp; subst hown
  intro r hr p e s m args below meth c C H locs ls hl hP hS
  exact va_gets C.1 C.2.1 C.2.2.2.2.2.2.2.1.2.2.2.2.2.2.2.2 hS C.2.2.2.1 (C.2.2.2.2.1 _ (C.2.2.2.2.2.1 _ hw)) (fun _ h => h) hd (k r hr p e s m args below meth c C H locs ls hl hP hS)
theorem g_strv {own : String} {n : Nat} (hown : F.2.2.1 = own) (hd : decode F.1 pc = .ok (.getfield n, 3)) (hp : pc + 3 = pc') (hw : Cond.fieldLink own n "java/lang/String" "value" "[B" ∈ tb) (k : G q F φ pc' lv (.ref (q.sa 4) :: st) X T) : G q F φ pc lv (.ref (q.sa 3) :: st) X T := by
  subst hp; subst hown
  intro r hr p e s m args below meth c C H locs ls hl hP hS
  exact vk_getf C.1 C.2.1 C.2.2.2.2.2.2.2.1.2.2.2.2.2.1 hS C.2.2.2.1 (C.2.2.2.2.1 _ (C.2.2.2.2.2.1 _ hw)) (fun _ h => h) hd (k r hr p e s m args below meth c C H locs ls hl hP hS)
theorem g_strc {own : String} {n : Nat} (hown : F.2.2.1 = own) (hd : decode F.1 pc = .ok (.getfield n, 3)) (hp : pc + 3 = pc') (hw : Cond.fieldLink own n "java/lang/String" "code\x72" "B" ∈ tb) (k : G q F φ pc' lv (.int 0 :: st) X T) : G q F φ pc lv (.ref (q.sa 3) :: st) X T := by
  subst hp; subst hown
  intro r hr p e s m args below meth c C H locs ls hl hP hS
  exact vk_getf C.1 C.2.1 C.2.2.2.2.2.2.2.1.2.2.2.2.2.2.1 hS C.2.2.2.1 (C.2.2.2.2.1 _ (C.2.2.2.2.2.1 _ hw)) (fun _ h => h) hd (k r hr p e s m args below meth c C H locs ls hl hP hS)
theorem g_bsald {j : Int32} (hd : decode F.1 pc = .ok (.baload, 1)) (hp : pc + 1 = pc') (k : G q F φ pc' lv (.int (NAMEf (nx j)) :: st) X T) : G q F φ pc lv (.int j :: .ref (q.sa 4) :: st) X (if inB j 6 then T else none) := by
  by_cases hj : inB j 6 = true
  · rw [if_pos hj]
    subst hp
    intro r hr p e s m args below meth c C H locs ls hl hP hS
    exact va_tb C.1 C.2.1 C.2.2.2.2.2.2.2.1.2.2.2.2.2.2.2.1 hS (inB_vp hj) rfl hd (k r hr p e s m args below meth c C H locs ls hl hP hS)
  · rw [if_neg hj]; exact g_none
theorem g_bslen (hd : decode F.1 pc = .ok (.arraylength, 1)) (hp : pc + 1 = pc') (k : G q F φ pc' lv (.int 6 :: st) X T) : G q F φ pc lv (.ref (q.sa 4) :: st) X T := by
  subst hp
  intro r hr p e s m args below meth c C H locs ls hl hP hS
  exact va_tlen C.1 C.2.1 C.2.2.2.2.2.2.2.1.2.2.2.2.2.2.2.1 hS (by decide +kernel) hd (k r hr p e s m args below meth c C H locs ls hl hP hS)
theorem g_callVx {own : String} {ρ' : Type} {φ' : ρ' → Option Value × St} {y : MN} {n d : Nat} {As st' : List Value} {Tc : Option ρ'} {Kf : ρ' → Option ρ} (na : Nat) (hwg : wg F) (hown : F.2.2.1 = own) (hd : decode F.1 pc = .ok (.invokevirtual n, 3)) (hp : pc + 3 = pc') (hcl : y.1.cls = "java/lang/String") (hy : Yv y na) (hl : Cond.methodLink own n y.1 ∈ tb) (hR : d + 1 ≤ F.2.2.2.2.1.1.frames ∧ 8 + (y.2.2.1 + 11) + 40 * d ≤ F.2.2.2.2.1.1.locals ∧ F.2.2.2.2.1.2.1 ≤ F.2.2.2.2.1.1.cells ∧ F.2.2.2.2.1.2.2 ≤ F.2.2.2.2.1.1.slots)
    (hc : Ct q y d φ' (.ref (q.sa 3) :: As) X Tc) (hna : As.length = na) (hst : st' = As.reverse ++ .ref (q.sa 3) :: st) (hrm : (st.map fun v => v.category).sum ≤ 8) (k : ∀ r', Tc = some r' → G q F φ pc' lv ((φ' r').1.toList ++ st) (φ' r').2 (Kf r')) : G q F φ pc lv st' X (Tc.bind Kf) := by
  subst hp; subst hown; subst hst
  intro r hr p e s m args below meth c C H locs ls hls hP hS
  cases hT : Tc with
  | none => rw [hT] at hr; cases hr
  | some r' =>
    rw [hT] at hr
    have hts : ∀ x ∈ tb, x.before args s = true := fun x hx => C.2.2.2.2.1 x (C.2.2.2.2.2.1 x hx)
    have hcw : CallW F.2.2.2.2.1.1 s args F.2.2.1 y.1.cls n y.1 y.2.1 y.2.2.1 y.2.2.2 (wl y) (rm d) 0 0 na := ⟨callB_of (Ts := F.2.2.2.1) na C.2.2.2.2.1 (hwg y hy.2.2.2.1) rfl rfl rfl (hts _ hy.2.2.1) (hts _ hl) hy.2.2.2.2 ⟨hR.1, hR.2.1⟩, hts _ hy.1, hts _ hy.2.1⟩
    obtain ⟨f1, f2⟩ := wd_pre C hP hS (.ref (q.sa 3) :: As)
    have hrec := va_Orecv C.2.2.2.2.2.2.2.1.2.2.2.2.1 hS
    rw [← hcl] at hrec
    exact g_run (va_runV ⟨C.1, C.2.1, C.2.2.1, C.2.2.2.1, C.2.2.2.2.1⟩ (hc r' hT) hcw ⟨f1, hrec, f2⟩ rfl hna hls.1 rfl (lv_room hrm) hd ⟨hR.2.2.1, hR.2.2.2⟩) hS (fun H1 locs1 hP1 hS1 => k r' hT r hr p e s m args below meth c C H1 locs1 ls hls hP1 hS1)
theorem g_cVr {own : String} {y : MN} {n d : Nat} {As st' : List Value} {Tc : Option Int32} {Kf : Int32 → Option ρ} (na : Nat) (hwg : wg F) (hown : F.2.2.1 = own) (hd : decode F.1 pc = .ok (.invokevirtual n, 3)) (hp : pc + 3 = pc') (hy : Yv y na) (hl : Cond.methodLink own n y.1 ∈ tb) (hR : d + 1 ≤ F.2.2.2.2.1.1.frames ∧ 8 + (y.2.2.1 + 11) + 40 * d ≤ F.2.2.2.2.1.1.locals ∧ F.2.2.2.2.1.2.1 ≤ F.2.2.2.2.1.1.cells ∧ F.2.2.2.2.1.2.2 ≤ F.2.2.2.2.1.1.slots)
    (hc : Ct q y d (fir X) (.ref (q.sa 3) :: As) X Tc) (hna : As.length = na) (hst : st' = As.reverse ++ .ref (q.sa 3) :: st) (hrm : (st.map fun v => v.category).sum ≤ 8) (k : ∀ v, G q F φ pc' lv (.int v :: st) X (Kf v)) (hcl : y.1.cls = "java/lang/String" := by rfl) : G q F φ pc lv st' X (Tc.bind Kf) :=
  g_callVx na hwg hown hd hp hcl hy hl hR hc hna hst hrm (fun r' _ => k r')
theorem g_cVs {own : String} {y : MN} {n d : Nat} {As st' : List Value} {v : Int32} (na : Nat) (hwg : wg F) (hown : F.2.2.1 = own) (hd : decode F.1 pc = .ok (.invokevirtual n, 3)) (hp : pc + 3 = pc') (hy : Yv y na) (hl : Cond.methodLink own n y.1 ∈ tb) (hR : d + 1 ≤ F.2.2.2.2.1.1.frames ∧ 8 + (y.2.2.1 + 11) + 40 * d ≤ F.2.2.2.2.1.1.locals ∧ F.2.2.2.2.1.2.1 ≤ F.2.2.2.2.1.1.cells ∧ F.2.2.2.2.1.2.2 ≤ F.2.2.2.2.1.1.slots)
    (hc : Ct q y d (fir X) (.ref (q.sa 3) :: As) X (some v)) (hna : As.length = na) (hst : st' = As.reverse ++ .ref (q.sa 3) :: st) (hrm : (st.map fun v => v.category).sum ≤ 8) (k : G q F φ pc' lv (.int v :: st) X T) (hcl : y.1.cls = "java/lang/String" := by rfl) : G q F φ pc lv st' X T :=
  g_callVx (Tc := some v) (Kf := fun _ => T) na hwg hown hd hp hcl hy hl hR hc hna hst hrm (fun r' h => by cases h; exact k)
theorem g_bret {y : MN} {own : String} {d : Nat} {r : ρ} {v : Int32} (hd : decode y.2.1 pc = .ok (.ireturn, 1)) (hr : y.2.2.2 = some .byte) (hn : narrow .byte (.int v) = .int v) (hv : φ r = (some (.int v), X)) : G q (mF q y own d) φ pc lv [.int v] X (some r) := by
  intro r0 h0 p e s m args below meth c C H locs ls hl hP hS
  cases h0
  have e1 : meth.sig.returnType = some .byte := C.2.2.2.2.2.2.2.2.2.1.trans hr
  have e2 : meth.locks = false := C.2.2.2.2.2.2.2.2.2.2
  show W _ _ _ _ _ _ _ _ _ _ _ _ _ _ (MQ below (Qc q (φ r)) args s 0 0 (Fr q)) _
  rw [hv]
  exact W.zret (ty := .byte) C.1 C.2.1 e1 hn (fun t ht hW => ⟨rfl, by rw [ht]; exact hP, hS.F ht⟩) hS.2.2 hd e2
end RULES9
def str_coder_t : Option Int32 :=
  (if (1 : Int32) = 0 then
  (some (1 : Int32))
  else
  (some (0 : Int32)))
def str_coder : Int32 := 0
theorem str_coder_e : str_coder_t = some (str_coder) := by
  unfold str_coder_t str_coder
  rfl
theorem str_coder_c (q : Th) (X : St) : Ct q nJ0_coder_7d493 0 (fir X) [.ref (q.sa 3)] X (some (str_coder)) := by
  refine ct_ofF (by decide +kernel) (Nat.le_of_ble_eq_true rfl) ?_
  rw [← str_coder_e]
  unfold str_coder_t
  show G q _ _ 0 [(0, .ref (q.sa 3))] [] X _
  refine g_cs rfl dJ0_coder_7d493_0 rfl sfJ0_38 ?_
  refine g_if_eq dJ0_coder_7d493_3 rfl rfl ?_ ?_
  · refine g_iconst dJ0_coder_7d493_13 rfl kic_1 ?_
    exact g_bret dJ0_coder_7d493_14 rfl rfl rfl
  refine g_aload_n 0 dJ0_coder_7d493_6 rfl rfl ?_
  refine g_strc rfl dJ0_coder_7d493_7 rfl sfJ0_15 ?_
  refine g_goto dJ0_coder_7d493_10 rfl ?_
  exact g_bret dJ0_coder_7d493_14 rfl rfl rfl
def str_length_t : Option Int32 :=
  (some ((6 : Int32) >>> (str_coder &&& 31)))
def str_length : Int32 := 6
theorem str_length_e : str_length_t = some (str_length) := by
  unfold str_length_t str_length
  decide +kernel
theorem str_length_c (q : Th) (X : St) : Ct q nJ0_length_8abf5 1 (fir X) [.ref (q.sa 3)] X (some (str_length)) := by
  refine ct_ofF (by decide +kernel) (Nat.le_of_ble_eq_true rfl) ?_
  rw [← str_length_e]
  unfold str_length_t
  show G q _ _ 0 [(0, .ref (q.sa 3))] [] X _
  refine g_aload_n 0 dJ0_length_8abf5_0 rfl rfl ?_
  refine g_strv rfl dJ0_length_8abf5_1 rfl sfJ0_9 ?_
  refine g_bslen dJ0_length_8abf5_4 rfl ?_
  refine g_aload_n 0 dJ0_length_8abf5_5 rfl rfl ?_
  refine g_cVs (As := []) (st := [.int (6 : Int32)]) 0 mF_wg rfl dJ0_length_8abf5_6 rfl vJ0_coder_7d493 lkJ0_335 (rmL rfl rfl) (str_coder_c q X) rfl rfl (Nat.le_of_ble_eq_true rfl) ?_
  refine g_ishr dJ0_length_8abf5_9 rfl ?_
  exact g_iret dJ0_length_8abf5_10 rfl rfl
def str_isLatin1_t : Option Int32 :=
  (if (1 : Int32) = 0 then
  (some (0 : Int32))
  else
  (if (0 : Int32) = 0 then
  (some (1 : Int32))
  else
  (some (0 : Int32))))
def str_isLatin1 : Int32 := 1
theorem str_isLatin1_e : str_isLatin1_t = some (str_isLatin1) := by
  unfold str_isLatin1_t str_isLatin1
  rfl
theorem str_isLatin1_c (q : Th) (X : St) : Ct q nJ0_isLatin1_aae02 0 (fir X) [.ref (q.sa 3)] X (some (str_isLatin1)) := by
  refine ct_ofF (by decide +kernel) (Nat.le_of_ble_eq_true rfl) ?_
  rw [← str_isLatin1_e]
  unfold str_isLatin1_t
  show G q _ _ 0 [(0, .ref (q.sa 3))] [] X _
  refine g_cs rfl dJ0_isLatin1_aae02_0 rfl sfJ0_38 ?_
  refine g_if_eq dJ0_isLatin1_aae02_3 rfl rfl ?_ ?_
  · refine g_iconst dJ0_isLatin1_aae02_17 rfl kic_0 ?_
    exact g_zret dJ0_isLatin1_aae02_18 rfl rfl rfl
  refine g_aload_n 0 dJ0_isLatin1_aae02_6 rfl rfl ?_
  refine g_strc rfl dJ0_isLatin1_aae02_7 rfl sfJ0_15 ?_
  refine g_if_ne dJ0_isLatin1_aae02_10 rfl rfl ?_ ?_
  · refine g_iconst dJ0_isLatin1_aae02_13 rfl kic_1 ?_
    refine g_goto dJ0_isLatin1_aae02_14 rfl ?_
    exact g_zret dJ0_isLatin1_aae02_18 rfl rfl rfl
  refine g_iconst dJ0_isLatin1_aae02_17 rfl kic_0 ?_
  exact g_zret dJ0_isLatin1_aae02_18 rfl rfl rfl
def lat_canEncode_t (v0 : Int32) : Option Int32 :=
  (if v0 < 0 then
  (some (0 : Int32))
  else
  (if (255 : Int32) < v0 then
  (some (0 : Int32))
  else
  (some (1 : Int32))))
def lat_canEncode (v0 : Int32) : Int32 := if v0 < 0 then 0 else if 255 < v0 then 0 else 1
theorem lat_canEncode_e (v0 : Int32) : lat_canEncode_t v0 = some (lat_canEncode v0) := by
  unfold lat_canEncode_t lat_canEncode
  simp only [apply_ite some]
theorem lat_canEncode_c (q : Th) (v0 : Int32) (X : St) : Ct q nJ1_canEncode_9a6ad 0 (fir X) [.int v0] X (some (lat_canEncode v0)) := by
  refine ct_ofF (by decide +kernel) (Nat.le_of_ble_eq_true rfl) ?_
  rw [← lat_canEncode_e]
  unfold lat_canEncode_t
  show G q _ _ 0 [(0, .int v0)] [] X _
  refine g_iload_n 0 dJ1_canEncode_9a6ad_0 rfl rfl ?_
  refine g_if_lt dJ1_canEncode_9a6ad_1 rfl rfl ?_ ?_
  · refine g_iconst dJ1_canEncode_9a6ad_15 rfl kic_0 ?_
    exact g_zret dJ1_canEncode_9a6ad_16 rfl rfl rfl
  refine g_iload_n 0 dJ1_canEncode_9a6ad_4 rfl rfl ?_
  refine g_sipush dJ1_canEncode_9a6ad_5 rfl ksi_255 ?_
  refine g_icmp_gt dJ1_canEncode_9a6ad_8 rfl rfl ?_ ?_
  · refine g_iconst dJ1_canEncode_9a6ad_15 rfl kic_0 ?_
    exact g_zret dJ1_canEncode_9a6ad_16 rfl rfl rfl
  refine g_iconst dJ1_canEncode_9a6ad_11 rfl kic_1 ?_
  refine g_goto dJ1_canEncode_9a6ad_12 rfl ?_
  exact g_zret dJ1_canEncode_9a6ad_16 rfl rfl rfl
def lat_ixChar_L7_B (rec : Int32 → Int32 → Int32 → Option (Int32)) (v3 : Int32) (v4 : Int32) (v5 : Int32) : Option (Int32) :=
(if v5 < v3 then
(if inB v5 6 then
(if (NAMEf (nx v5)) = v4 then
(some v5)
else
(rec v3 v4 (v5 + (1 : Int32)))) else none)
else
(some (-1 : Int32)))
def lat_ixChar_L7 : Nat → Int32 → Int32 → Int32 → Option (Int32)
  | 0 => fun _ _ _ => none
  | w + 1 => lat_ixChar_L7_B (lat_ixChar_L7 w)
theorem lat_ixChar_L7_Bg (q : Th) (X : St) (rec : Int32 → Int32 → Int32 → Option (Int32)) (hrec : ∀ v3 v4 v5, G q (mF q nJ1_indexOfChar_4cfef RJ1 0) (fir X) 7 [(0, .ref (q.sa 4)), (3, .int v3), (4, .int v4), (5, .int v5)] [] X (rec v3 v4 v5)) (v3 : Int32) (v4 : Int32) (v5 : Int32) : G q (mF q nJ1_indexOfChar_4cfef RJ1 0) (fir X) 7 [(0, .ref (q.sa 4)), (3, .int v3), (4, .int v4), (5, .int v5)] [] X (lat_ixChar_L7_B rec v3 v4 v5) := by
  unfold lat_ixChar_L7_B
  refine g_iload 3 dJ1_indexOfChar_4cfef_7 rfl rfl ?_
  refine g_iload_n 1 dJ1_indexOfChar_4cfef_9 rfl rfl ?_
  refine g_icmp_ge dJ1_indexOfChar_4cfef_10 rfl rfl ?_ ?_
  · refine g_aload_n 0 dJ1_indexOfChar_4cfef_13 rfl rfl ?_
    refine g_iload 3 dJ1_indexOfChar_4cfef_14 rfl rfl ?_
    refine g_bsald dJ1_indexOfChar_4cfef_16 rfl ?_
    refine g_iload 2 dJ1_indexOfChar_4cfef_17 rfl rfl ?_
    refine g_icmp_ne dJ1_indexOfChar_4cfef_19 rfl rfl ?_ ?_
    · refine g_iload 3 dJ1_indexOfChar_4cfef_22 rfl rfl ?_
      exact g_iret dJ1_indexOfChar_4cfef_24 rfl rfl
    refine g_inc (lv' := [(5, .int (v5 + (1 : Int32))), (0, .ref (q.sa 4)), (3, .int v3), (4, .int v4)]) 3 dJ1_indexOfChar_4cfef_25 rfl rfl kic_1 (Nat.le_of_ble_eq_true rfl) rfl ?_
    refine g_goto dJ1_indexOfChar_4cfef_28 rfl ?_
    refine g_sub [1, 2, 3, 0] rfl ?_
    exact hrec v3 v4 (v5 + (1 : Int32))
  refine g_iconst dJ1_indexOfChar_4cfef_31 rfl kic_m1 ?_
  exact g_iret dJ1_indexOfChar_4cfef_32 rfl rfl
theorem lat_ixChar_L7_g (q : Th) (X : St) : ∀ (w : Nat) (v3 : Int32) (v4 : Int32) (v5 : Int32), G q (mF q nJ1_indexOfChar_4cfef RJ1 0) (fir X) 7 [(0, .ref (q.sa 4)), (3, .int v3), (4, .int v4), (5, .int v5)] [] X (lat_ixChar_L7 w v3 v4 v5) := by
  intro w
  induction w with
  | zero => intro v3 v4 v5; exact g_none
  | succ w ih => intro v3 v4 v5; exact lat_ixChar_L7_Bg q X _ ih v3 v4 v5
def lat_ixChar_t (n : Nat) (v1 : Int32) (v2 : Int32) (v3 : Int32) : Option Int32 :=
  (lat_ixChar_L7 n v3 (v1.toInt8.toInt32) v2)
theorem lat_ixChar_c (q : Th) (n : Nat) (v1 : Int32) (v2 : Int32) (v3 : Int32) (X : St) : Ct q nJ1_indexOfChar_4cfef 0 (fir X) [.ref (q.sa 4), .int v1, .int v2, .int v3] X (lat_ixChar_t n v1 v2 v3) := by
  refine ct_ofF (by decide +kernel) (Nat.le_of_ble_eq_true rfl) ?_
  unfold lat_ixChar_t
  show G q _ _ 0 [(0, .ref (q.sa 4)), (1, .int v1), (2, .int v2), (3, .int v3)] [] X _
  refine g_iload_n 1 dJ1_indexOfChar_4cfef_0 rfl rfl ?_
  refine g_i2b dJ1_indexOfChar_4cfef_1 rfl ?_
  refine g_istore (lv' := [(4, .int (v1.toInt8.toInt32)), (0, .ref (q.sa 4)), (1, .int v1), (2, .int v2), (3, .int v3)]) dJ1_indexOfChar_4cfef_2 rfl (Nat.le_of_ble_eq_true rfl) rfl ?_
  refine g_iload_n 3 dJ1_indexOfChar_4cfef_4 rfl rfl ?_
  refine g_istore (lv' := [(5, .int v2), (4, .int (v1.toInt8.toInt32)), (0, .ref (q.sa 4)), (1, .int v1), (2, .int v2), (3, .int v3)]) dJ1_indexOfChar_4cfef_5 rfl (Nat.le_of_ble_eq_true rfl) rfl ?_
  refine g_sub [2, 5, 1, 0] rfl ?_
  refine lat_ixChar_L7_g q X n v3 (v1.toInt8.toInt32) v2
def lat_ix_t (v1 : Int32) (v2 : Int32) (v3 : Int32) : Option Int32 :=
  (if (lat_canEncode v1) = 0 then
  (some (-1 : Int32))
  else
  (if (jmath_max v2 (0 : Int32)) < (jmath_min v3 (6 : Int32)) then
  ((lat_ixChar_t 8 v1 (jmath_max v2 (0 : Int32)) (jmath_min v3 (6 : Int32))).bind fun c1 =>
  (some c1))
  else
  (some (-1 : Int32))))
theorem lat_ix_c (q : Th) (v1 : Int32) (v2 : Int32) (v3 : Int32) (X : St) : Ct q nJ1_indexOf_4cfef 1 (fir X) [.ref (q.sa 4), .int v1, .int v2, .int v3] X (lat_ix_t v1 v2 v3) := by
  refine ct_ofF (by decide +kernel) (Nat.le_of_ble_eq_true rfl) ?_
  unfold lat_ix_t
  show G q _ _ 0 [(0, .ref (q.sa 4)), (1, .int v1), (2, .int v2), (3, .int v3)] [] X _
  refine g_iload_n 1 dJ1_indexOf_4cfef_0 rfl rfl ?_
  refine g_cSIt (As := [.int v1]) (st := []) 1 mF_wg rfl dJ1_indexOf_4cfef_1 rfl vJ1_canEncode_9a6ad lkJ1_88 (rmL rfl rfl) (lat_canEncode_c q v1 X) rfl rfl (Nat.le_of_ble_eq_true rfl) ?_
  refine g_if_ne dJ1_indexOf_4cfef_4 rfl rfl ?_ ?_
  · refine g_iconst dJ1_indexOf_4cfef_7 rfl kic_m1 ?_
    exact g_iret dJ1_indexOf_4cfef_8 rfl rfl
  refine g_iload_n 2 dJ1_indexOf_4cfef_9 rfl rfl ?_
  refine g_iconst dJ1_indexOf_4cfef_10 rfl kic_0 ?_
  refine g_mmax (st := []) rfl dJ1_indexOf_4cfef_11 rfl lkJ1_92 (rmL rfl rfl) (Nat.le_of_ble_eq_true rfl) ?_
  refine g_istore_n (lv' := [(2, .int (jmath_max v2 (0 : Int32))), (0, .ref (q.sa 4)), (1, .int v1), (3, .int v3)]) dJ1_indexOf_4cfef_14 rfl rfl (Nat.le_of_ble_eq_true rfl) rfl ?_
  refine g_iload_n 3 dJ1_indexOf_4cfef_15 rfl rfl ?_
  refine g_aload_n 1 dJ1_indexOf_4cfef_16 rfl rfl ?_
  refine g_bslen dJ1_indexOf_4cfef_17 rfl ?_
  refine g_mmin (st := []) rfl dJ1_indexOf_4cfef_18 rfl lkJ1_38 (rmL rfl rfl) (Nat.le_of_ble_eq_true rfl) ?_
  refine g_istore_n (lv' := [(3, .int (jmath_min v3 (6 : Int32))), (2, .int (jmath_max v2 (0 : Int32))), (0, .ref (q.sa 4)), (1, .int v1)]) dJ1_indexOf_4cfef_21 rfl rfl (Nat.le_of_ble_eq_true rfl) rfl ?_
  refine g_iload_n 1 dJ1_indexOf_4cfef_22 rfl rfl ?_
  refine g_iload_n 0 dJ1_indexOf_4cfef_23 rfl rfl ?_
  refine g_icmp_lt dJ1_indexOf_4cfef_24 rfl rfl ?_ ?_
  · refine g_aload_n 2 dJ1_indexOf_4cfef_29 rfl rfl ?_
    refine g_iload_n 3 dJ1_indexOf_4cfef_30 rfl rfl ?_
    refine g_iload_n 1 dJ1_indexOf_4cfef_31 rfl rfl ?_
    refine g_iload_n 0 dJ1_indexOf_4cfef_32 rfl rfl ?_
    refine g_cSIr (As := [.ref (q.sa 4), .int v1, .int (jmath_max v2 (0 : Int32)), .int (jmath_min v3 (6 : Int32))]) (st := []) 4 mF_wg rfl dJ1_indexOf_4cfef_33 rfl vJ1_indexOfChar_4cfef lkJ1_95 (rmL rfl rfl) (lat_ixChar_c q 8 v1 (jmath_max v2 (0 : Int32)) (jmath_min v3 (6 : Int32)) X) rfl rfl (Nat.le_of_ble_eq_true rfl) (fun c1 => ?_)
    exact g_iret dJ1_indexOf_4cfef_36 rfl rfl
  refine g_iconst dJ1_indexOf_4cfef_27 rfl kic_m1 ?_
  exact g_iret dJ1_indexOf_4cfef_28 rfl rfl
def str_ix2_t (v1 : Int32) (v2 : Int32) : Option Int32 :=
  (if str_isLatin1 = 0 then
  none
  else
  ((lat_ix_t v1 v2 str_length).bind fun c1 =>
  (some c1)))
theorem str_ix2_c (q : Th) (v1 : Int32) (v2 : Int32) (X : St) : Ct q nJ0_indexOf_7cf53 2 (fir X) [.ref (q.sa 3), .int v1, .int v2] X (str_ix2_t v1 v2) := by
  refine ct_ofF (by decide +kernel) (Nat.le_of_ble_eq_true rfl) ?_
  unfold str_ix2_t
  show G q _ _ 0 [(0, .ref (q.sa 3)), (1, .int v1), (2, .int v2)] [] X _
  refine g_aload_n 0 dJ0_indexOf_7cf53_0 rfl rfl ?_
  refine g_cVs (As := []) (st := []) 0 mF_wg rfl dJ0_indexOf_7cf53_1 rfl vJ0_isLatin1_aae02 lkJ0_492 (rmL rfl rfl) (str_isLatin1_c q X) rfl rfl (Nat.le_of_ble_eq_true rfl) ?_
  refine g_if_eq dJ0_indexOf_7cf53_4 rfl rfl ?_ ?_
  · exact g_none
  refine g_aload_n 0 dJ0_indexOf_7cf53_7 rfl rfl ?_
  refine g_strv rfl dJ0_indexOf_7cf53_8 rfl sfJ0_9 ?_
  refine g_iload_n 1 dJ0_indexOf_7cf53_11 rfl rfl ?_
  refine g_iload_n 2 dJ0_indexOf_7cf53_12 rfl rfl ?_
  refine g_aload_n 0 dJ0_indexOf_7cf53_13 rfl rfl ?_
  refine g_cVs (As := []) (st := [.int v2, .int v1, .ref (q.sa 4)]) 0 mF_wg rfl dJ0_indexOf_7cf53_14 rfl vJ0_length_8abf5 lkJ0_505 (rmL rfl rfl) (str_length_c q X) rfl rfl (Nat.le_of_ble_eq_true rfl) ?_
  refine g_cSIr (As := [.ref (q.sa 4), .int v1, .int v2, .int str_length]) (st := []) 4 mF_wg rfl dJ0_indexOf_7cf53_17 rfl vJ1_indexOf_4cfef lkJ0_637 (rmL rfl rfl) (lat_ix_c q v1 v2 str_length X) rfl rfl (Nat.le_of_ble_eq_true rfl) (fun c1 => ?_)
  refine g_goto dJ0_indexOf_7cf53_20 rfl ?_
  exact g_iret dJ0_indexOf_7cf53_36 rfl rfl
def str_ix_t (v1 : Int32) : Option Int32 :=
  ((str_ix2_t v1 (0 : Int32)).bind fun c1 =>
  (some c1))
theorem str_ix_c (q : Th) (v1 : Int32) (X : St) : Ct q nJ0_indexOf_0f7a4 3 (fir X) [.ref (q.sa 3), .int v1] X (str_ix_t v1) := by
  refine ct_ofF (by decide +kernel) (Nat.le_of_ble_eq_true rfl) ?_
  unfold str_ix_t
  show G q _ _ 0 [(0, .ref (q.sa 3)), (1, .int v1)] [] X _
  refine g_aload_n 0 dJ0_indexOf_0f7a4_0 rfl rfl ?_
  refine g_iload_n 1 dJ0_indexOf_0f7a4_1 rfl rfl ?_
  refine g_iconst dJ0_indexOf_0f7a4_2 rfl kic_0 ?_
  refine g_cVr (As := [.int v1, .int (0 : Int32)]) (st := []) 2 mF_wg rfl dJ0_indexOf_0f7a4_3 rfl vJ0_indexOf_7cf53 lkJ0_633 (rmL rfl rfl) (str_ix2_c q v1 (0 : Int32) X) rfl rfl (Nat.le_of_ble_eq_true rfl) (fun c1 => ?_)
  exact g_iret dJ0_indexOf_0f7a4_6 rfl rfl
theorem name_all : ∀ k, k < 256 → str_ix_t (Int32.ofNat k) = some (nameIx (Int32.ofNat k)) := by decide +kernel
theorem nameIx_out {x : Int32} (h : x < 0 ∨ 255 < x) : nameIx x = -1 := by
  have hne : ∀ z : Int32, 0 ≤ z → z ≤ 255 → ¬ x = z := by
    intro z h1 h2 e
    subst e
    rcases h with h | h
    · exact absurd h1 (Int32.not_le.mpr h)
    · exact absurd h2 (Int32.not_le.mpr h)
  unfold nameIx
  rw [if_neg (hne 111 (by decide) (by decide)), if_neg (hne 101 (by decide) (by decide)), if_neg (hne 100 (by decide) (by decide)), if_neg (hne 116 (by decide) (by decide)), if_neg (hne 107 (by decide) (by decide)), if_neg (hne 115 (by decide) (by decide))]
theorem str_ix_eq (x : Int32) : str_ix_t x = some (nameIx x) := by
  by_cases h1 : x < 0
  · unfold str_ix_t str_ix2_t
    rw [if_neg (show ¬ str_isLatin1 = 0 by decide)]
    unfold lat_ix_t lat_canEncode
    simp [h1, nameIx_out (Or.inl h1)]
  · by_cases h2 : 255 < x
    · unfold str_ix_t str_ix2_t
      rw [if_neg (show ¬ str_isLatin1 = 0 by decide)]
      unfold lat_ix_t lat_canEncode
      simp [h1, h2, nameIx_out (Or.inr h2)]
    · have hk : ∃ k, k < 256 ∧ x = Int32.ofNat k := by
        have a1 := Int32.le_iff_toInt_le.mp (Int32.not_lt.mp h1)
        have a2 := Int32.le_iff_toInt_le.mp (Int32.not_lt.mp h2)
        have e0 : (0 : Int32).toInt = 0 := by decide
        have e1 : (255 : Int32).toInt = 255 := by decide
        refine ⟨x.toInt.toNat, by omega, ?_⟩
        have e2 : ((x.toInt.toNat : Nat) : Int) = x.toInt := by omega
        rw [← Int32.ofInt_eq_ofNat, e2, Int32.ofInt_toInt]
      obtain ⟨k, hk, rfl⟩ := hk
      exact name_all k hk
section RULES10
variable {q : Th} {F : FrI} {ρ : Type} {φ : ρ → Option Value × St} {pc pc' : Nat} {lv lv' : List (Nat × Value)} {st : List Value} {X : St} {T : Option ρ}
theorem g_ixs {own : String} {n : Nat} {x : Int32} (hown : F.2.2.1 = own) (hd : decode F.1 pc = .ok (.invokevirtual n, 3)) (hp : pc + 3 = pc') (hl : Cond.methodLink own n yJ0_indexOf_0f7a4 ∈ tb) (hw : wg F) (hR : 8 ≤ F.2.2.2.2.1.1.frames ∧ 320 ≤ F.2.2.2.2.1.1.locals ∧ F.2.2.2.2.1.2.1 ≤ F.2.2.2.2.1.1.cells ∧ F.2.2.2.2.1.2.2 ≤ F.2.2.2.2.1.1.slots) (hrm : (st.map fun v => v.category).sum ≤ 8) (k : G q F φ pc' lv (.int (nameIx x) :: st) X T) : G q F φ pc lv (.int x :: .ref (q.sa 3) :: st) X T := by
  have hc := str_ix_c q x X
  rw [str_ix_eq] at hc
  exact g_cVs (As := [.int x]) 1 hw hown hd hp vJ0_indexOf_0f7a4 hl ⟨by omega, by show 8 + (2 + 11) + 40 * 3 ≤ _; omega, hR.2.2.1, hR.2.2.2⟩ hc rfl rfl hrm k
end RULES10
