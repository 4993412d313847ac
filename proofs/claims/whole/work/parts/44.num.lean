/-! numbers; what holds between the calls -/
theorem ti_rng (x : Int32) : -2147483648 ≤ x.toInt ∧ x.toInt ≤ 2147483647 := by
  have h1 := Int32.minValue_le_toInt x
  have h2 := Int32.toInt_le x
  have e1 : Int32.minValue.toInt = -2147483648 := by decide
  have e2 : Int32.maxValue.toInt = 2147483647 := by decide
  omega
theorem ti_eq {x y : Int32} : x = y ↔ x.toInt = y.toInt := Int32.toInt_inj.symm
theorem ti_add {x y : Int32} (h1 : -2147483648 ≤ x.toInt + y.toInt) (h2 : x.toInt + y.toInt ≤ 2147483647) : (x + y).toInt = x.toInt + y.toInt := by
  rw [Int32.toInt_add, Int.bmod_eq_of_le] <;> omega
theorem ti_sub {x y : Int32} (h1 : -2147483648 ≤ x.toInt - y.toInt) (h2 : x.toInt - y.toInt ≤ 2147483647) : (x - y).toInt = x.toInt - y.toInt := by
  rw [Int32.toInt_sub, Int.bmod_eq_of_le] <;> omega
theorem ti_mul {x y : Int32} (h1 : -2147483648 ≤ x.toInt * y.toInt) (h2 : x.toInt * y.toInt ≤ 2147483647) : (x * y).toInt = x.toInt * y.toInt := by
  rw [Int32.toInt_mul, Int.bmod_eq_of_le] <;> omega
theorem ti_ofNat {k : Nat} (h : k < 2147483648) : (Int32.ofNat k).toInt = k := Int32.toInt_ofNat_of_lt h
theorem nx_ofNat {k : Nat} (h : k < 2147483648) : nx (Int32.ofNat k) = k := Int32.toNatClampNeg_ofNat_of_lt h
theorem nx_ti {x : Int32} (h : 0 ≤ x.toInt) : ((nx x : Nat) : Int) = x.toInt := by
  show ((x.toInt.toNat : Nat) : Int) = x.toInt
  omega
theorem ofNat_nx {x : Int32} (h : 0 ≤ x.toInt) : Int32.ofNat (nx x) = x := by
  rw [ti_eq, ti_ofNat (by have := ti_rng x; have := nx_ti h; omega), nx_ti h]
theorem inB_iff {j : Int32} {n : Nat} : inB j n = true ↔ 0 ≤ j.toInt ∧ j.toInt < (n : Int) := by
  have e0 : (0 : Int32).toInt = 0 := by decide
  simp only [inB, Bool.not_eq_true', Bool.or_eq_false_iff, decide_eq_false_iff_not, Int32.lt_iff_toInt_lt, e0]
  show (¬ j.toInt < 0 ∧ ¬ n ≤ j.toInt.toNat) ↔ _
  omega
theorem ti_div {x y : Int32} (hy : 0 < y.toInt) : (x / y).toInt = x.toInt.tdiv y.toInt := by
  rw [Int32.toInt_div_of_ne_right _ _ (by intro e; rw [e] at hy; revert hy; decide)]
theorem ti_irm {x y : Int32} (hy : 0 < y.toInt) : (irm x y).toInt = x.toInt.tmod y.toInt := by
  have hd := ti_div (x := x) hy
  have hx := ti_rng x
  have hm : x.toInt.tmod y.toInt = x.toInt - x.toInt.tdiv y.toInt * y.toInt := by
    rw [Int.tmod_def, Int.mul_comm]
  have hab : -2147483648 ≤ x.toInt.tdiv y.toInt * y.toInt ∧ x.toInt.tdiv y.toInt * y.toInt ≤ 2147483647 ∧ -2147483648 ≤ x.toInt - x.toInt.tdiv y.toInt * y.toInt ∧ x.toInt - x.toInt.tdiv y.toInt * y.toInt ≤ 2147483647 := by
    rcases Int.le_total 0 x.toInt with h | h
    · have h1 : 0 ≤ x.toInt.tdiv y.toInt * y.toInt := Int.mul_nonneg (Int.tdiv_nonneg h (by omega)) (by omega)
      have h2 : 0 ≤ x.toInt.tmod y.toInt := Int.tmod_nonneg _ h
      omega
    · have h1 : 0 ≤ (-x.toInt).tdiv y.toInt * y.toInt := Int.mul_nonneg (Int.tdiv_nonneg (by omega) (by omega)) (by omega)
      have h2 : 0 ≤ (-x.toInt).tmod y.toInt := Int.tmod_nonneg _ (by omega)
      rw [Int.neg_tdiv, Int.neg_mul] at h1
      rw [Int.neg_tmod] at h2
      omega
  unfold irm
  have hmul : (x / y * y).toInt = x.toInt.tdiv y.toInt * y.toInt := by rw [ti_mul (by rw [hd]; exact hab.1) (by rw [hd]; exact hab.2.1), hd]
  rw [ti_sub (by rw [hmul]; exact hab.2.2.1) (by rw [hmul]; exact hab.2.2.2), hmul, hm]
theorem stI_at {X : St} {o i o' i' : Nat} {v : Int32} : (stI X o i v).1 o' i' = if o' = o ∧ i' = i then v else X.1 o' i' := rfl
theorem stI_2at {X : St} {o i : Nat} {v : Int32} : (stI X o i v).2 = X.2 := rfl
theorem stL_at {X : St} {o i o' i' : Nat} {v : Int64} : (stL X o i v).2 o' i' = if o' = o ∧ i' = i then v else X.2 o' i' := rfl
theorem stL_1at {X : St} {o i : Nat} {v : Int64} : (stL X o i v).1 = X.1 := rfl
theorem stI_self {X : St} {o i : Nat} {v : Int32} : (stI X o i v).1 o i = v := if_pos ⟨rfl, rfl⟩
theorem stI_o {X : St} {o i o' i' : Nat} {v : Int32} (h : o' ≠ o) : (stI X o i v).1 o' i' = X.1 o' i' := if_neg (fun e => h e.1)
