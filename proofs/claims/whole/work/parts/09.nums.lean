/-! ===== numbers: an Int32 and an Int64 by the integer that it is ===== -/
theorem ti_lo (x : Int32) : -2147483648 ≤ x.toInt := by have := Int32.minValue_le_toInt x; exact this
theorem ti_hi (x : Int32) : x.toInt < 2147483648 := by have := Int32.toInt_lt x; omega
theorem ti_bm {n : Int} (h1 : -2147483648 ≤ n) (h2 : n < 2147483648) : n.bmod (2 ^ 32) = n := by
  rw [Int.bmod_eq_of_le] <;> omega
theorem ti_ofInt {n : Int} (h : -2147483648 ≤ n ∧ n < 2147483648) : (Int32.ofInt n).toInt = n := by
  rw [Int32.toInt_ofInt]; exact ti_bm h.1 h.2
theorem ti_add {x y : Int32} (h : -2147483648 ≤ x.toInt + y.toInt ∧ x.toInt + y.toInt < 2147483648) : (x + y).toInt = x.toInt + y.toInt := by
  rw [Int32.toInt_add]; exact ti_bm h.1 h.2
theorem ti_sub {x y : Int32} (h : -2147483648 ≤ x.toInt - y.toInt ∧ x.toInt - y.toInt < 2147483648) : (x - y).toInt = x.toInt - y.toInt := by
  rw [Int32.toInt_sub]; exact ti_bm h.1 h.2
theorem ti_mul {x y : Int32} (h : -2147483648 ≤ x.toInt * y.toInt ∧ x.toInt * y.toInt < 2147483648) : (x * y).toInt = x.toInt * y.toInt := by
  rw [Int32.toInt_mul]; exact ti_bm h.1 h.2
theorem ti_neg {x : Int32} (h : -2147483648 < x.toInt) : (-x).toInt = -x.toInt := by
  have := ti_hi x
  rw [Int32.toInt_neg]; exact ti_bm (by omega) (by omega)
theorem ti_zero : (0 : Int32).toInt = 0 := rfl
theorem ti_ofNat {n : Nat} (h : n < 2147483648) : (Int32.ofNat n).toInt = n := by
  rw [← Int32.ofInt_eq_ofNat, ti_ofInt (by omega)]
theorem ti_ext {x y : Int32} (h : x.toInt = y.toInt) : x = y := Int32.toInt_inj.mp h
theorem ti_self (x : Int32) : Int32.ofInt x.toInt = x := ti_ext (ti_ofInt ⟨ti_lo x, ti_hi x⟩)
theorem ti_div {x y : Int32} (hx : 0 ≤ x.toInt) (hy : 0 < y.toInt) : (x / y).toInt = x.toInt / y.toInt := by
  have h1 := ti_hi x
  have h2 := Int.ediv_nonneg hx (Int.le_of_lt hy)
  have h3 : x.toInt / y.toInt ≤ x.toInt := Int.ediv_le_self _ hx
  rw [Int32.toInt_div, Int.tdiv_eq_ediv_of_nonneg hx]
  exact ti_bm (by omega) (by omega)
theorem ti_tdiv {x y : Int32} (hy : 0 < y.toInt) : (x / y).toInt = x.toInt.tdiv y.toInt := by
  have h1 := ti_hi x
  have h0 := ti_lo x
  rw [Int32.toInt_div]
  refine ti_bm ?_ ?_
  · rcases Int.le_total 0 x.toInt with h | h
    · rw [Int.tdiv_eq_ediv_of_nonneg h]
      have h2 := Int.ediv_nonneg h (Int.le_of_lt hy)
      omega
    · have e : x.toInt.tdiv y.toInt = -((-x.toInt) / y.toInt) := by
        rw [← Int.tdiv_eq_ediv_of_nonneg (by omega), Int.neg_tdiv, Int.neg_neg]
      have h3 : (-x.toInt) / y.toInt ≤ -x.toInt := Int.ediv_le_self _ (by omega)
      rw [e]; omega
  · rcases Int.le_total 0 x.toInt with h | h
    · rw [Int.tdiv_eq_ediv_of_nonneg h]
      have h3 : x.toInt / y.toInt ≤ x.toInt := Int.ediv_le_self _ h
      omega
    · have e : x.toInt.tdiv y.toInt = -((-x.toInt) / y.toInt) := by
        rw [← Int.tdiv_eq_ediv_of_nonneg (by omega), Int.neg_tdiv, Int.neg_neg]
      have h3 : 0 ≤ (-x.toInt) / y.toInt := Int.ediv_nonneg (by omega) (Int.le_of_lt hy)
      rw [e]; omega
theorem ti_rem {x y : Int32} (hx : 0 ≤ x.toInt) (hy : 0 < y.toInt) : (krem x y).toInt = x.toInt % y.toInt := by
  have h1 := ti_hi x
  have e := ti_div hx hy
  have h2 := Int.ediv_nonneg hx (Int.le_of_lt hy)
  have h4 := Int.ediv_mul_le x.toInt (show y.toInt ≠ 0 by omega)
  have h5 := Int.mul_nonneg h2 (Int.le_of_lt hy)
  have em : (x / y * y).toInt = x.toInt / y.toInt * y.toInt := by
    rw [ti_mul (by rw [e]; omega), e]
  unfold krem
  rw [ti_sub (by rw [em]; omega), em, Int.emod_def, Int.mul_comm]
theorem ti_trem {x y : Int32} (hy : 0 < y.toInt) : (krem x y).toInt = x.toInt - x.toInt.tdiv y.toInt * y.toInt := by
  have h1 := ti_hi x
  have h0 := ti_lo x
  have e := ti_tdiv (x := x) hy
  have hb : (0 ≤ x.toInt ∧ 0 ≤ x.toInt.tdiv y.toInt * y.toInt ∧ x.toInt.tdiv y.toInt * y.toInt ≤ x.toInt) ∨ (x.toInt ≤ 0 ∧ x.toInt ≤ x.toInt.tdiv y.toInt * y.toInt ∧ x.toInt.tdiv y.toInt * y.toInt ≤ 0) := by
    rcases Int.le_total 0 x.toInt with h | h
    · left
      rw [Int.tdiv_eq_ediv_of_nonneg h]
      have h2 := Int.ediv_nonneg h (Int.le_of_lt hy)
      exact ⟨h, Int.mul_nonneg h2 (Int.le_of_lt hy), Int.ediv_mul_le x.toInt (show y.toInt ≠ 0 by omega)⟩
    · right
      have e : x.toInt.tdiv y.toInt = -((-x.toInt) / y.toInt) := by
        rw [← Int.tdiv_eq_ediv_of_nonneg (by omega), Int.neg_tdiv, Int.neg_neg]
      have h2 : 0 ≤ (-x.toInt) / y.toInt := Int.ediv_nonneg (by omega) (Int.le_of_lt hy)
      have h4 := Int.ediv_mul_le (-x.toInt) (show y.toInt ≠ 0 by omega)
      have h5 := Int.mul_nonneg h2 (Int.le_of_lt hy)
      rw [e, Int.neg_mul]
      omega
  have em : (x / y * y).toInt = x.toInt.tdiv y.toInt * y.toInt := by
    rw [ti_mul (by rw [e]; omega), e]
  unfold krem
  rw [ti_sub (by rw [em]; omega), em]
theorem ti_ne0 {y : Int32} (h : y.toInt ≠ 0) : ¬ y = 0 := fun e => h (by rw [e]; rfl)
theorem if_lt_ti {x y : Int32} : (if y < x then y else x).toInt = min x.toInt y.toInt := by
  by_cases h : y < x
  · rw [if_pos h]; rw [Int32.lt_iff_toInt_lt] at h; omega
  · rw [if_neg h]; rw [Int32.lt_iff_toInt_lt] at h; omega
theorem if_gt_ti {x y : Int32} : (if x < y then y else x).toInt = max x.toInt y.toInt := by
  by_cases h : x < y
  · rw [if_pos h]; rw [Int32.lt_iff_toInt_lt] at h; omega
  · rw [if_neg h]; rw [Int32.lt_iff_toInt_lt] at h; omega
theorem if_abs_ti {x : Int32} (h0 : -2147483648 < x.toInt) : (if 0 ≤ x then x else 0 - x).toInt = if 0 ≤ x.toInt then x.toInt else - x.toInt := by
  have := ti_hi x
  by_cases h : 0 ≤ x
  · rw [if_pos h]; rw [ti_0le] at h; rw [if_pos h]
  · rw [if_neg h]; rw [ti_0le] at h; rw [if_neg h, ti_sub (by rw [ti_zero]; omega), ti_zero]; omega
/-! longs -/
theorem tl_bm {n : Int} (h1 : -9223372036854775808 ≤ n) (h2 : n < 9223372036854775808) : n.bmod (2 ^ 64) = n := by
  rw [Int.bmod_eq_of_le] <;> omega
theorem tl_i2l (x : Int32) : x.toInt64.toInt = x.toInt := Int32.toInt_toInt64 x
theorem tl_add {x y : Int64} (h : -9223372036854775808 ≤ x.toInt + y.toInt ∧ x.toInt + y.toInt < 9223372036854775808) : (x + y).toInt = x.toInt + y.toInt := by
  rw [Int64.toInt_add]; exact tl_bm h.1 h.2
theorem tl_sub {x y : Int64} (h : -9223372036854775808 ≤ x.toInt - y.toInt ∧ x.toInt - y.toInt < 9223372036854775808) : (x - y).toInt = x.toInt - y.toInt := by
  rw [Int64.toInt_sub]; exact tl_bm h.1 h.2
theorem tl_mul {x y : Int64} (h : -9223372036854775808 ≤ x.toInt * y.toInt ∧ x.toInt * y.toInt < 9223372036854775808) : (x * y).toInt = x.toInt * y.toInt := by
  rw [Int64.toInt_mul]; exact tl_bm h.1 h.2
theorem tl_hi (x : Int64) : x.toInt < 9223372036854775808 := by have := Int64.toInt_lt x; omega
theorem tl_lo (x : Int64) : -9223372036854775808 ≤ x.toInt := Int64.minValue_le_toInt x
theorem tl_ext {x y : Int64} (h : x.toInt = y.toInt) : x = y := Int64.toInt_inj.mp h
theorem tl_div {x y : Int64} (hx : 0 ≤ x.toInt) (hy : 0 < y.toInt) : (x / y).toInt = x.toInt / y.toInt := by
  have h1 := tl_hi x
  have h2 := Int.ediv_nonneg hx (Int.le_of_lt hy)
  have h3 : x.toInt / y.toInt ≤ x.toInt := Int.ediv_le_self _ hx
  rw [Int64.toInt_div, Int.tdiv_eq_ediv_of_nonneg hx]
  exact tl_bm (by omega) (by omega)
theorem tl_rem {x y : Int64} (hx : 0 ≤ x.toInt) (hy : 0 < y.toInt) : (kremL x y).toInt = x.toInt % y.toInt := by
  have h1 := tl_hi x
  have e := tl_div hx hy
  have h2 := Int.ediv_nonneg hx (Int.le_of_lt hy)
  have h4 := Int.ediv_mul_le x.toInt (show y.toInt ≠ 0 by omega)
  have h5 := Int.mul_nonneg h2 (Int.le_of_lt hy)
  have em : (x / y * y).toInt = x.toInt / y.toInt * y.toInt := by
    rw [tl_mul (by rw [e]; omega), e]
  unfold kremL
  rw [tl_sub (by rw [em]; omega), em, Int.emod_def, Int.mul_comm]
theorem tl_l2i {x : Int64} (h : -2147483648 ≤ x.toInt ∧ x.toInt < 2147483648) : x.toInt32.toInt = x.toInt := by
  rw [Int64.toInt_toInt32]; exact ti_bm h.1 h.2
theorem if_lt_tl {x y : Int64} : (if y < x then y else x).toInt = min x.toInt y.toInt := by
  by_cases h : y < x
  · rw [if_pos h]; rw [Int64.lt_iff_toInt_lt] at h; omega
  · rw [if_neg h]; rw [Int64.lt_iff_toInt_lt] at h; omega
theorem tl_ne0 {y : Int64} (h : y.toInt ≠ 0) : ¬ y = 0 := fun e => h (by rw [e]; rfl)
/-- lcmp, by the numbers -/
theorem tl_cmp (x y : Int64) : (lg_cmp x y).toInt = if x.toInt < y.toInt then -1 else if x.toInt = y.toInt then 0 else 1 := by
  unfold lg_cmp
  simp only [gt_iff_lt, Int64.lt_iff_toInt_lt, ← Int64.toInt_inj]
  by_cases h1 : x.toInt < y.toInt
  · rw [if_pos h1, if_neg (by omega), if_neg (by omega)]; rfl
  · rw [if_neg h1]
    by_cases h3 : x.toInt = y.toInt
    · rw [if_pos h3, if_neg (by omega), if_pos h3]; rfl
    · rw [if_pos (show y.toInt < x.toInt by omega), if_neg h3]; rfl
/-! a truth as an int -/
noncomputable def bP (p : Prop) : Int32 := @ite Int32 p (Classical.propDecidable p) (Int32.ofInt 1) (Int32.ofInt 0)
theorem bP_t {p : Prop} (h : p) : bP p = Int32.ofInt 1 := if_pos h
theorem bP_f {p : Prop} (h : ¬ p) : bP p = Int32.ofInt 0 := if_neg h
theorem bP_1 {p : Prop} (h : p) : Int32.ofInt 1 = bP p := (if_pos h).symm
theorem bP_0 {p : Prop} (h : ¬ p) : Int32.ofInt 0 = bP p := (if_neg h).symm
theorem bP_e0 {p : Prop} : ((bP p).toInt = 0) ↔ ¬ p := by
  rcases Classical.em p with h | h
  · rw [bP_t h]; exact ⟨fun q => absurd q (by decide), fun q => absurd h q⟩
  · rw [bP_f h]; exact ⟨fun _ => h, fun _ => by decide⟩
theorem bP_ne {p : Prop} (h : ¬ (bP p).toInt = 0) : p := Classical.not_not.mp (fun q => h (bP_e0.mpr q))
theorem bP_nz (p : Prop) : narrow .boolean (.int (bP p)) = .int (bP p) := by
  rcases Classical.em p with h | h
  · rw [bP_t h]; rfl
  · rw [bP_f h]; rfl
theorem bP_iff {p q : Prop} (h : p ↔ q) : bP p = bP q := by rw [propext h]
theorem bP_inj {p q : Prop} (h : bP p = bP q) : p ↔ q := by
  have h2 : ((bP p).toInt = 0) ↔ ((bP q).toInt = 0) := by rw [h]
  rw [bP_e0, bP_e0] at h2
  exact ⟨fun a => Classical.not_not.mp (fun b => h2.mpr b a), fun a => Classical.not_not.mp (fun b => h2.mp b a)⟩
theorem ti_addc {x : Int32} {n : Int} (h : -2147483648 ≤ n ∧ n < 2147483648 ∧ -2147483648 ≤ x.toInt + n ∧ x.toInt + n < 2147483648) : (x + Int32.ofInt n).toInt = x.toInt + n := by
  have e := ti_ofInt (n := n) ⟨h.1, h.2.1⟩
  rw [ti_add (by rw [e]; exact h.2.2), e]
theorem ti_subc {x : Int32} {n : Int} (h : -2147483648 ≤ n ∧ n < 2147483648 ∧ -2147483648 ≤ x.toInt - n ∧ x.toInt - n < 2147483648) : (x - Int32.ofInt n).toInt = x.toInt - n := by
  have e := ti_ofInt (n := n) ⟨h.1, h.2.1⟩
  rw [ti_sub (by rw [e]; exact h.2.2), e]
theorem ti_mulc {x : Int32} {n : Int} (h : -2147483648 ≤ n ∧ n < 2147483648 ∧ -2147483648 ≤ x.toInt * n ∧ x.toInt * n < 2147483648) : (x * Int32.ofInt n).toInt = x.toInt * n := by
  have e := ti_ofInt (n := n) ⟨h.1, h.2.1⟩
  rw [ti_mul (by rw [e]; exact h.2.2), e]
theorem ti_cmul {x : Int32} {n : Int} (h : -2147483648 ≤ n ∧ n < 2147483648 ∧ -2147483648 ≤ n * x.toInt ∧ n * x.toInt < 2147483648) : (Int32.ofInt n * x).toInt = n * x.toInt := by
  have e := ti_ofInt (n := n) ⟨h.1, h.2.1⟩
  rw [ti_mul (by rw [e]; exact h.2.2), e]
theorem ti_divc {x : Int32} {n : Int} (h : 0 ≤ x.toInt ∧ 0 < n ∧ n < 2147483648) : (x / Int32.ofInt n).toInt = x.toInt / n := by
  have e := ti_ofInt (n := n) (by omega)
  rw [ti_div h.1 (by rw [e]; exact h.2.1), e]
theorem ti_remc {x : Int32} {n : Int} (h : 0 ≤ x.toInt ∧ 0 < n ∧ n < 2147483648) : (krem x (Int32.ofInt n)).toInt = x.toInt % n := by
  have e := ti_ofInt (n := n) (by omega)
  rw [ti_rem h.1 (by rw [e]; exact h.2.1), e]

