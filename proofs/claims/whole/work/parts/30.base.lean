/-! The pure layer: reads over writes, and Int32 as Int. -/
section PureBase
variable {h : lm_H} {a k b j : Nat}
theorem pi_si (v : Int32) : lm_i (lm_si h a k v) b j = if b = a then (if j = k then v else lm_i h b j) else lm_i h b j := rfl
theorem pi_sl (v : Int64) : lm_i (lm_sl h a k v) b j = lm_i h b j := rfl
theorem pi_sr (v : Option Nat) : lm_i (lm_sr h a k v) b j = lm_i h b j := rfl
theorem pi_row (r : Nat → Int32) : lm_i (lm_row h a r) b j = if b = a then r j else lm_i h b j := rfl
theorem pl_sl (v : Int64) : lm_l (lm_sl h a k v) b j = if b = a then (if j = k then v else lm_l h b j) else lm_l h b j := rfl
theorem pl_si (v : Int32) : lm_l (lm_si h a k v) b j = lm_l h b j := rfl
theorem pl_sr (v : Option Nat) : lm_l (lm_sr h a k v) b j = lm_l h b j := rfl
theorem pl_row (r : Nat → Int32) : lm_l (lm_row h a r) b j = lm_l h b j := rfl
theorem pr_sr (v : Option Nat) : lm_r (lm_sr h a k v) b j = if b = a then (if j = k then v else lm_r h b j) else lm_r h b j := rfl
theorem pr_si (v : Int32) : lm_r (lm_si h a k v) b j = lm_r h b j := rfl
theorem pr_sl (v : Int64) : lm_r (lm_sl h a k v) b j = lm_r h b j := rfl
theorem pr_row (r : Nat → Int32) : lm_r (lm_row h a r) b j = lm_r h b j := rfl
theorem psh_si (v : Int32) : lm_sh (lm_si h a k v) b = lm_sh h b := rfl
theorem psh_sl (v : Int64) : lm_sh (lm_sl h a k v) b = lm_sh h b := rfl
theorem psh_row (r : Nat → Int32) : lm_sh (lm_row h a r) b = lm_sh h b := rfl
end PureBase
theorem p_tI_add {x y : Int32} (h1 : -2147483648 ≤ x.toInt + y.toInt) (h2 : x.toInt + y.toInt < 2147483648) : (x + y).toInt = x.toInt + y.toInt := by
  rw [Int32.toInt_add]
  exact Int.bmod_eq_of_le (by omega) (by omega)
theorem p_tI_sub {x y : Int32} (h1 : -2147483648 ≤ x.toInt - y.toInt) (h2 : x.toInt - y.toInt < 2147483648) : (x - y).toInt = x.toInt - y.toInt := by
  rw [Int32.toInt_sub]
  exact Int.bmod_eq_of_le (by omega) (by omega)
theorem p_tI_mul {x y : Int32} (h1 : -2147483648 ≤ x.toInt * y.toInt) (h2 : x.toInt * y.toInt < 2147483648) : (x * y).toInt = x.toInt * y.toInt := by
  rw [Int32.toInt_mul]
  exact Int.bmod_eq_of_le (by omega) (by omega)
theorem p_tI_neg {x : Int32} (h1 : -2147483647 ≤ x.toInt) : (-x).toInt = -x.toInt := by
  rw [Int32.toInt_neg]
  have := Int32.toInt_lt x
  exact Int.bmod_eq_of_le (by omega) (by omega)
theorem p_nat (x : Int32) : x.toNatClampNeg = x.toInt.toNat := rfl
theorem p_lo (x : Int32) : -2147483648 ≤ x.toInt := Int32.le_toInt x
theorem p_hi (x : Int32) : x.toInt < 2147483648 := Int32.toInt_lt x
theorem p_eq {x y : Int32} : x = y ↔ x.toInt = y.toInt := Int32.toInt_inj.symm
theorem p_in {x : Int32} {n : Nat} {A : Prop} (h0 : 0 ≤ x.toInt) (h1 : x.toInt < n) (hA : A) : lm_in x n False A := by
  unfold lm_in
  rw [if_neg]
  · exact hA
  · rw [p_nat]
    intro hh
    rcases hh with hh | hh
    · rw [Int32.lt_iff_toInt_lt] at hh
      have : (0 : Int32).toInt = 0 := rfl
      omega
    · omega
theorem p_in2 {x : Int32} {n : Nat} {A : Prop} (h : 0 ≤ x.toInt ∧ x.toInt < n ∧ A) : lm_in x n False A := p_in h.1 h.2.1 h.2.2
theorem p_bm {x : Int} (h1 : -2147483648 ≤ x) (h2 : x < 2147483648) : x.bmod (2 ^ 32) = x := Int.bmod_eq_of_le (by omega) (by omega)
theorem p_test (x y : Int32) (hx : 0 ≤ x.toInt) (hx2 : x.toInt ≤ 5) (h : y < x) (h0 : ¬ y < 0) : ¬ x - 1 < y ∧ (x * 7 + y).toInt ≤ 40 := by
  simp only [Int32.lt_iff_toInt_lt, Int32.toInt_add, Int32.toInt_sub, Int32.toInt_mul, Int32.toInt_neg, Int32.reduceToInt] at *
  simp (disch := omega) only [p_bm] at *
  omega
theorem p_le {x y : Int32} : x ≤ y ↔ x.toInt ≤ y.toInt := Int32.le_iff_toInt_le
theorem p_lt {x y : Int32} : x < y ↔ x.toInt < y.toInt := Int32.lt_iff_toInt_lt
/-- a bound that holds by reckoning with Int32 -/
theorem p_inI {x : Int32} {n : Nat} {A : Prop} (m : Int32) (hm : m.toInt = n) (h : 0 ≤ x ∧ x < m) (hA : A) : lm_in x n False A := by
  rw [p_le, p_lt, hm] at h
  have : (0 : Int32).toInt = 0 := rfl
  exact p_in (by omega) h.2 hA
theorem p_nadd {x y : Int32} (h : 0 ≤ x ∧ x ≤ 1000000 ∧ 0 ≤ y ∧ y ≤ 1000000) : (x + y).toNatClampNeg = x.toNatClampNeg + y.toNatClampNeg := by
  simp only [p_le, Int32.reduceToInt] at h
  rw [p_nat, p_nat, p_nat, p_tI_add (by omega) (by omega)]
  omega
theorem p_nmul {x y : Int32} (h : 0 ≤ x ∧ x ≤ 10000 ∧ 0 ≤ y ∧ y ≤ 10000) : (x * y).toNatClampNeg = x.toNatClampNeg * y.toNatClampNeg := by
  simp only [p_le, Int32.reduceToInt] at h
  obtain ⟨h1, h2, h3, h4⟩ := h
  have h5 : 0 ≤ x.toInt * y.toInt := Int.mul_nonneg h1 h3
  have h6 : x.toInt * y.toInt ≤ 10000 * 10000 := Int.mul_le_mul h2 h4 h3 (by omega)
  rw [p_nat, p_nat, p_nat, p_tI_mul (by omega) (by omega), Int.toNat_mul h1 h3]
/-- an index, as a number -/
theorem p_ix {x : Int32} (h : 0 ≤ x) : ∃ k : Nat, x.toNatClampNeg = k ∧ x = Int32.ofNat k ∧ x.toInt = k := by
  rw [p_le] at h
  have h0 : (0 : Int32).toInt = 0 := rfl
  refine ⟨x.toNatClampNeg, rfl, ?_, by rw [p_nat]; omega⟩
  rw [p_eq, Int32.toInt_ofNat', p_nat]
  have := p_hi x
  rw [Int.toNat_of_nonneg (by omega), p_bm (by omega) (by omega)]
