/-! ===== Reader, the rest ===== -/
def rC (μ : kMem) : Nat → Int := fun j => (μ.1 31 j).toInt
def rW (μ : kMem) : Nat → Int := fun j => (μ.1 30 j).toInt
def rcf (μ : kMem) (C : Nat → Int) (j : Nat) (l : Int) : Int := cfr (rcs μ) (rmc μ) (rsz μ l) (rkd μ l) C j
theorem rmc_i {μ : kMem} (h : kRdOk μ) : (rmc μ : Int) = (μ.1 27 7).toInt ∧ (rmc μ : Int) = ((μ.1 25 1).toInt + 1) / 2 ∧ rmc μ ≤ 60 := by
  have := h.2.2.2.1
  have := h.1.1
  unfold rmc
  omega
theorem rsz_i {μ : kMem} (h : kRdOk μ) (l : Int) : (rsz μ l : Int) = (ksz μ l).toInt ∧ rsz μ l ≤ 5 := by
  have := ksz_b h.2.1 l
  unfold rsz
  omega
theorem rlc_b {μ : kMem} (h : kRdOk μ) (j : Nat) (l : Int) : -1 ≤ rlc μ j l ∧ (rlc μ j l = -1 ∨ rlc μ j l ≤ 510 * (rsz μ l : Int) - 255) ∧ (¬ rlc μ j l = -1 → 0 < rsz μ l ∧ j + rsz μ l ≤ rmc μ) := by
  have := lcst_b (rcs_b h) (mc := rmc μ) (n := rsz μ l) (kd := rkd μ l) (j := j)
  refine ⟨this.1, ?_, ?_⟩
  · have h2 := this.2
    unfold rlc
    omega
  · intro q
    unfold rlc lcst at q
    split at q
    · exact absurd rfl q
    · omega
theorem rcf_b {μ : kMem} (h : kRdOk μ) {C : Nat → Int} {j : Nat} (hC : ∀ i, j < i → i < rmc μ → -1 ≤ C i ∧ C i ≤ 510 * ((rmc μ : Int) - i)) (l : Int) : -1 ≤ rcf μ C j l ∧ (rcf μ C j l = -1 ∨ rcf μ C j l ≤ 510 * ((rmc μ : Int) - j)) := by
  have h1 := rlc_b h j l
  have h2 := gcst_b (rcs_b h) (j + rsz μ l)
  have e : lcst (rcs μ) (rmc μ) (rsz μ l) (rkd μ l) j = rlc μ j l := rfl
  unfold rcf cfr
  rw [e]
  by_cases q : rlc μ j l = -1
  · rw [if_pos (Or.inl q)]
    omega
  · have h3 := h1.2.2 q
    by_cases q2 : rmc μ ≤ j + rsz μ l
    · rw [if_pos (Or.inr q2)]
      omega
    · rw [if_neg (by omega)]
      have h4 := hC (j + rsz μ l) (by omega) (by omega)
      split <;> omega
theorem ok_X7_costFrom {x l : Int32} {μ : kMem} (h : kRdOk μ ∧ 0 ≤ x.toInt ∧ x.toInt < (μ.1 27 7).toInt ∧ ∀ i : Nat, x.toInt < i → i < rmc μ → -1 ≤ rC μ i ∧ rC μ i ≤ 510 * ((rmc μ : Int) - i)) : kOk yX7_costFrom cX7_costFrom 6 (some .int) rmX7_costFrom shK 68 [.ref 27, .int x, .int l] μ (kP (Int32.ofInt (rcf μ (rC μ) x.toInt.toNat l.toInt)) μ) := by
  obtain ⟨h, hx, hx2, hC⟩ := h
  obtain ⟨j, hj⟩ : ∃ j : Nat, x.toInt = j := ⟨x.toInt.toNat, by omega⟩
  have hm := rmc_i h
  have hz := rsz_i h l.toInt
  have hl := rlc_b h j l.toInt
  have hf := rcf_b h (C := rC μ) (j := j) (fun i a b => hC i (by omega) b) l.toInt
  have hg := gcst_b (rcs_b h) (j + rsz μ l.toInt)
  have en : (x + ksz μ l.toInt).toInt = ((j + rsz μ l.toInt : Nat) : Int) := by rw [ti_add (by omega)]; omega
  have ej : x.toInt.toNat = j := by omega
  have il := ti_ofInt (n := rlc μ j l.toInt) (by omega)
  have ig := ti_ofInt (n := gcst (rcs μ) (j + rsz μ l.toInt)) (by omega)
  have m1 : (Int32.ofInt (-1)).toInt = -1 := by decide
  have eq0 : rcf μ (rC μ) j l.toInt = if rlc μ j l.toInt = -1 ∨ rmc μ ≤ j + rsz μ l.toInt then rlc μ j l.toInt else if gcst (rcs μ) (j + rsz μ l.toInt) = -1 ∨ rC μ (j + rsz μ l.toInt) = -1 then -1 else rlc μ j l.toInt + gcst (rcs μ) (j + rsz μ l.toInt) + rC μ (j + rsz μ l.toInt) := rfl
  refine kOk.of rfl (Nat.le_of_ble_eq_true rfl) (fun J C => ?_)
  have C : kR cX7_costFrom RX7 6 rmX7_costFrom shK 68 (some .int) _ J := C
  refine (r_aload_n C dX7_costFrom_0 rfl rfl (r_iload_n C dX7_costFrom_1 rfl rfl (r_iload_n C dX7_costFrom_2 rfl rfl (r_v2P C yv_X7_letterCost lk_X7_85 dX7_costFrom_3 rfl nK_27 sK_27 rfl (Nat.le_of_ble_eq_true rfl) (ok_X7_letterCost ?_) (r_istore_n C dX7_costFrom_6 rfl (by decide) (r_iload_n C dX7_costFrom_7 rfl rfl (r_aload_n C dX7_costFrom_8 rfl rfl (r_getR C dX7_costFrom_9 fd_X7_32 nK_27 sK_27 rfl (r_iload_n C dX7_costFrom_12 rfl rfl (r_v1P C yv_X1_sizeOf lk_X7_88 dX7_costFrom_13 rfl nK_3 sK_3 rfl (Nat.le_of_ble_eq_true rfl) ok_X1_sizeOf_3 (r_iadd C dX7_costFrom_16 (r_istore C dX7_costFrom_17 (by decide) (r_iload_n C dX7_costFrom_19 rfl rfl (r_iconst C dX7_costFrom_20 (r_icmp_eq C (tgt := 33) dX7_costFrom_21 rfl (fun c21 => (r_iload_n C dX7_costFrom_33 rfl rfl (r_iret C dX7_costFrom_34 ?_))) (fun c21 => (r_iload C dX7_costFrom_24 rfl (r_aload_n C dX7_costFrom_26 rfl rfl (r_getI C dX7_costFrom_27 fd_X7_76 nK_27 sK_27 rfl (r_icmp_lt C (tgt := 35) dX7_costFrom_30 rfl (fun c30 => (r_aload_n C dX7_costFrom_35 rfl rfl (r_iload C dX7_costFrom_36 rfl (r_v1P C yv_X7_gapCost lk_X7_115 dX7_costFrom_38 rfl nK_27 sK_27 rfl (Nat.le_of_ble_eq_true rfl) (ok_X7_gapCost ?_) (r_istore C dX7_costFrom_41 (by decide) (r_iload C dX7_costFrom_43 rfl (r_iconst C dX7_costFrom_45 (r_icmp_eq C (tgt := 60) dX7_costFrom_46 rfl (fun c46 => (r_iconst C dX7_costFrom_60 (r_goto C (tgt := 76) dX7_costFrom_61 rfl (r_iret C dX7_costFrom_76 ?_)))) (fun c46 => (r_aload_n C dX7_costFrom_49 rfl rfl (r_getR C dX7_costFrom_50 fd_X7_23 nK_27 sK_27 rfl (r_iload C dX7_costFrom_53 rfl (r_iald C dX7_costFrom_55 nK_31 sK_31 ?_ (r_iconst C dX7_costFrom_56 (r_icmp_ne C (tgt := 64) dX7_costFrom_57 rfl (fun c57 => (r_iload_n C dX7_costFrom_64 rfl rfl (r_iload C dX7_costFrom_65 rfl (r_iadd C dX7_costFrom_67 (r_aload_n C dX7_costFrom_68 rfl rfl (r_getR C dX7_costFrom_69 fd_X7_23 nK_27 sK_27 rfl (r_iload C dX7_costFrom_72 rfl (r_iald C dX7_costFrom_74 nK_31 sK_31 ?_ (r_iadd C dX7_costFrom_75 (r_iret C dX7_costFrom_76 ?_)))))))))) (fun c57 => (r_iconst C dX7_costFrom_60 (r_goto C (tgt := 76) dX7_costFrom_61 rfl (r_iret C dX7_costFrom_76 ?_))))))))))))))))))) (fun c30 => (r_iload_n C dX7_costFrom_33 rfl rfl (r_iret C dX7_costFrom_34 ?_)))))))))))))))))))))))
  · exact ⟨h, hx, by omega⟩
  · rw [ej, il, m1] at c21
    rw [ej, eq0, if_pos (Or.inl c21)]
    exact ⟨rfl, rfl⟩
  · rw [ej, il, m1] at c21
    have := hl.2.2 c21
    exact ⟨h, by rw [en]; omega, by rw [en]; omega⟩
  · rw [ej, il, m1] at c21
    rw [en] at c30
    rw [en, Int.toNat_natCast, ig, m1] at c46
    rw [ej, eq0, if_neg (by omega), if_pos (Or.inl c46)]
    exact ⟨rfl, rfl⟩
  · rw [en] at c30 ⊢
    omega
  · rw [en] at c30 ⊢
    omega
  · rw [ej, il, m1] at c21
    rw [en] at c30
    rw [en, Int.toNat_natCast, ig, m1] at c46
    rw [en, Int.toNat_natCast, m1] at c57
    have h9 := hC (j + rsz μ l.toInt) (by have := hl.2.2 c21; omega) (by omega)
    have e9 : (μ.1 31 (j + rsz μ l.toInt)).toInt = rC μ (j + rsz μ l.toInt) := rfl
    rw [en, Int.toNat_natCast, ej, eq0, if_neg (by omega), if_neg (by omega)]
    refine ⟨ti_ext ?_, rfl⟩
    have i1 : (Int32.ofInt (rlc μ j l.toInt) + Int32.ofInt (gcst (rcs μ) (j + rsz μ l.toInt))).toInt = rlc μ j l.toInt + gcst (rcs μ) (j + rsz μ l.toInt) := by rw [ti_add (by omega)]; omega
    rw [ti_add (by rw [i1, e9]; omega), i1, e9, ti_ofInt (by omega)]
  · rw [ej, il, m1] at c21
    rw [en] at c30
    rw [en, Int.toNat_natCast, ig, m1] at c46
    rw [en, Int.toNat_natCast, m1] at c57
    have c57 : rC μ (j + rsz μ l.toInt) = -1 := c57
    rw [ej, eq0, if_neg (by omega), if_pos (Or.inr c57)]
    exact ⟨rfl, rfl⟩
  · rw [ej, il, m1] at c21
    rw [en] at c30
    rw [ej, eq0, if_pos (Or.inr (by omega))]
    exact ⟨rfl, rfl⟩
theorem ok_X7_waysBehind {x : Int32} {μ : kMem} (h : kRdOk μ ∧ 1 ≤ x.toInt ∧ x.toInt ≤ 1000 ∧ (x.toInt < (μ.1 27 7).toInt → 0 ≤ rW μ x.toInt.toNat ∧ rW μ x.toInt.toNat ≤ 1000000000)) : kOk yX7_waysBehind cX7_waysBehind 3 (some .long) rmX7_waysBehind shK 68 [.ref 27, .int x] μ (kPL (Int64.ofInt (wbh (rcs μ) (rmc μ) (rW μ) x.toInt.toNat)) μ) := by
  obtain ⟨h, hx, hx2, hW⟩ := h
  obtain ⟨j, hj⟩ : ∃ j : Nat, x.toInt = j := ⟨x.toInt.toNat, by omega⟩
  have hm := rmc_i h
  have ej : x.toInt.toNat = j := by omega
  have e1 : (Int32.ofInt 2 * x - Int32.ofInt 1).toInt = 2 * x.toInt - 1 := by simp (disch := (first | omega | (simp (disch := (first | omega | (simp (disch := (first | omega | (simp (disch := omega) only [ti_ofInt, ti_addc, ti_subc, ti_mulc, ti_cmul, ti_divc, ti_remc, ti_zero, ti_add, ti_sub, ti_neg, if_lt_ti, if_gt_ti, bP_e0, Classical.not_not, tl_i2l]; omega))) only [ti_ofInt, ti_addc, ti_subc, ti_mulc, ti_cmul, ti_divc, ti_remc, ti_zero, ti_add, ti_sub, ti_neg, if_lt_ti, if_gt_ti, bP_e0, Classical.not_not, tl_i2l]; omega))) only [ti_ofInt, ti_addc, ti_subc, ti_mulc, ti_cmul, ti_divc, ti_remc, ti_zero, ti_add, ti_sub, ti_neg, if_lt_ti, if_gt_ti, bP_e0, Classical.not_not, tl_i2l]; omega))) only [ti_ofInt, ti_addc, ti_subc, ti_mulc, ti_cmul, ti_divc, ti_remc, ti_zero, ti_add, ti_sub, ti_neg, if_lt_ti, if_gt_ti, bP_e0, Classical.not_not, tl_i2l]
  have e2 : (2 * x.toInt - 1).toNat = 2 * j - 1 := by omega
  have m1 : (Int32.ofInt (-1)).toInt = -1 := by decide
  have m3 : (Int32.ofInt 3).toInt = 3 := by decide
  have m4 : (Int32.ofInt 4).toInt = 4 := by decide
  have b3 := rcs_b h (2 * j - 1) 3
  have b4 := rcs_b h (2 * j - 1) 4
  have i3 := ti_ofInt (n := rcs μ (2 * j - 1) 3) (by omega)
  have i4 := ti_ofInt (n := rcs μ (2 * j - 1) 4) (by omega)
  have fin : ∀ (g : Int32) (q : Int), g.toInt = q → 0 ≤ q → q ≤ 2 → x.toInt < (μ.1 27 7).toInt → q = (if rcs μ (2 * j - 1) 3 = -1 then 0 else 1) + (if rcs μ (2 * j - 1) 4 = -1 then 0 else 1) → g.toInt64 * (μ.1 30 x.toInt.toNat).toInt64 = Int64.ofInt (wbh (rcs μ) (rmc μ) (rW μ) x.toInt.toNat) := by
    intro g q hg h1 h2 h3 h4
    have hw := hW h3
    rw [ej] at hw
    have hq : 0 ≤ q * rW μ j ∧ q * rW μ j ≤ 2 * 1000000000 := ⟨Int.mul_nonneg h1 hw.1, Int.mul_le_mul h2 hw.2 hw.1 (by decide)⟩
    have er : (μ.1 30 j).toInt = rW μ j := rfl
    rw [ej]
    refine tl_ext ?_
    unfold wbh
    rw [if_neg (by omega), ← h4, tl_ofInt (by omega), tl_mul (by rw [tl_i2l, tl_i2l, hg, er]; omega), tl_i2l, tl_i2l, hg, er]
  refine kOk.of rfl (Nat.le_of_ble_eq_true rfl) (fun J C => ?_)
  have C : kR cX7_waysBehind RX7 3 rmX7_waysBehind shK 68 (some .long) _ J := C
  refine (r_iload_n C dX7_waysBehind_0 rfl rfl (r_aload_n C dX7_waysBehind_1 rfl rfl (r_getI C dX7_waysBehind_2 fd_X7_76 nK_27 sK_27 rfl (r_icmp_lt C (tgt := 10) dX7_waysBehind_5 rfl (fun c5 => (r_iconst C dX7_waysBehind_10 (r_istore_n C dX7_waysBehind_11 rfl (by decide) (r_aload_n C dX7_waysBehind_12 rfl rfl (r_iconst C dX7_waysBehind_13 (r_iload_n C dX7_waysBehind_14 rfl rfl (r_imul C dX7_waysBehind_15 (r_iconst C dX7_waysBehind_16 (r_isub C dX7_waysBehind_17 (r_iconst C dX7_waysBehind_18 (r_v2P C yv_X7_costOf lk_X7_102 dX7_waysBehind_19 rfl nK_27 sK_27 rfl (Nat.le_of_ble_eq_true rfl) (ok_X7_costOf ?_) (r_iconst C dX7_waysBehind_22 (r_icmp_eq C (tgt := 29) dX7_waysBehind_23 rfl (fun c23 => (r_aload_n C dX7_waysBehind_29 rfl rfl (r_iconst C dX7_waysBehind_30 (r_iload_n C dX7_waysBehind_31 rfl rfl (r_imul C dX7_waysBehind_32 (r_iconst C dX7_waysBehind_33 (r_isub C dX7_waysBehind_34 (r_iconst C dX7_waysBehind_35 (r_v2P C yv_X7_costOf lk_X7_102 dX7_waysBehind_36 rfl nK_27 sK_27 rfl (Nat.le_of_ble_eq_true rfl) (ok_X7_costOf ?_) (r_iconst C dX7_waysBehind_39 (r_icmp_eq C (tgt := 46) dX7_waysBehind_40 rfl (fun c40 => (r_iload_n C dX7_waysBehind_46 rfl rfl (r_i2l C dX7_waysBehind_47 (r_aload_n C dX7_waysBehind_48 rfl rfl (r_getR C dX7_waysBehind_49 fd_X7_20 nK_27 sK_27 rfl (r_iload_n C dX7_waysBehind_52 rfl rfl (r_iald C dX7_waysBehind_53 nK_30 sK_30 ?_ (r_i2l C dX7_waysBehind_54 (r_lmul C dX7_waysBehind_55 (r_lret C dX7_waysBehind_56 ?_)))))))))) (fun c40 => (r_iinc C dX7_waysBehind_43 rfl (by decide) (r_iload_n C dX7_waysBehind_46 rfl rfl (r_i2l C dX7_waysBehind_47 (r_aload_n C dX7_waysBehind_48 rfl rfl (r_getR C dX7_waysBehind_49 fd_X7_20 nK_27 sK_27 rfl (r_iload_n C dX7_waysBehind_52 rfl rfl (r_iald C dX7_waysBehind_53 nK_30 sK_30 ?_ (r_i2l C dX7_waysBehind_54 (r_lmul C dX7_waysBehind_55 (r_lret C dX7_waysBehind_56 ?_)))))))))))))))))))))) (fun c23 => (r_iinc C dX7_waysBehind_26 rfl (by decide) (r_aload_n C dX7_waysBehind_29 rfl rfl (r_iconst C dX7_waysBehind_30 (r_iload_n C dX7_waysBehind_31 rfl rfl (r_imul C dX7_waysBehind_32 (r_iconst C dX7_waysBehind_33 (r_isub C dX7_waysBehind_34 (r_iconst C dX7_waysBehind_35 (r_v2P C yv_X7_costOf lk_X7_102 dX7_waysBehind_36 rfl nK_27 sK_27 rfl (Nat.le_of_ble_eq_true rfl) (ok_X7_costOf ?_) (r_iconst C dX7_waysBehind_39 (r_icmp_eq C (tgt := 46) dX7_waysBehind_40 rfl (fun c40 => (r_iload_n C dX7_waysBehind_46 rfl rfl (r_i2l C dX7_waysBehind_47 (r_aload_n C dX7_waysBehind_48 rfl rfl (r_getR C dX7_waysBehind_49 fd_X7_20 nK_27 sK_27 rfl (r_iload_n C dX7_waysBehind_52 rfl rfl (r_iald C dX7_waysBehind_53 nK_30 sK_30 ?_ (r_i2l C dX7_waysBehind_54 (r_lmul C dX7_waysBehind_55 (r_lret C dX7_waysBehind_56 ?_)))))))))) (fun c40 => (r_iinc C dX7_waysBehind_43 rfl (by decide) (r_iload_n C dX7_waysBehind_46 rfl rfl (r_i2l C dX7_waysBehind_47 (r_aload_n C dX7_waysBehind_48 rfl rfl (r_getR C dX7_waysBehind_49 fd_X7_20 nK_27 sK_27 rfl (r_iload_n C dX7_waysBehind_52 rfl rfl (r_iald C dX7_waysBehind_53 nK_30 sK_30 ?_ (r_i2l C dX7_waysBehind_54 (r_lmul C dX7_waysBehind_55 (r_lret C dX7_waysBehind_56 ?_)))))))))))))))))))))))))))))))))))) (fun c5 => (r_lconst C dX7_waysBehind_8 rfl (r_lret C dX7_waysBehind_9 ?_)))))))
  · exact ⟨h, by rw [e1]; omega⟩
  · exact ⟨h, by rw [e1]; omega⟩
  · omega
  · rw [e1, e2, m3, i3, m1] at c23
    rw [e1, e2, m4, i4, m1] at c40
    exact ⟨fin _ 0 (by decide) (by decide) (by decide) c5 (by rw [if_pos c23, if_pos c40]; decide), rfl⟩
  · omega
  · rw [e1, e2, m3, i3, m1] at c23
    rw [e1, e2, m4, i4, m1] at c40
    exact ⟨fin _ 1 (by decide) (by decide) (by decide) c5 (by rw [if_pos c23, if_neg c40]; decide), rfl⟩
  · exact ⟨h, by rw [e1]; omega⟩
  · omega
  · rw [e1, e2, m3, i3, m1] at c23
    rw [e1, e2, m4, i4, m1] at c40
    exact ⟨fin _ 1 (by decide) (by decide) (by decide) c5 (by rw [if_neg c23, if_pos c40]; decide), rfl⟩
  · omega
  · rw [e1, e2, m3, i3, m1] at c23
    rw [e1, e2, m4, i4, m1] at c40
    exact ⟨fin _ 2 (by decide) (by decide) (by decide) c5 (by rw [if_neg c23, if_neg c40]; decide), rfl⟩
  · refine ⟨?_, rfl⟩
    unfold wbh
    rw [if_pos (by omega)]
    rfl

