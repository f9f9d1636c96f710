/-! ===== Text, Tape ===== -/
def tat (μ : kMem) (x : Int) : Int32 := if 0 ≤ x ∧ x < (μ.1 1 1).toInt then μ.1 2 x.toNat else Int32.ofInt (-1)
def kbyte (x : Int32) (i : Nat) : Int32 := kushr x (Int32.ofInt (24 - 8 * (i : Int))) &&& Int32.ofInt 255
def kAdd (μ : kMem) (x : Int32) (j : Nat) (μ' : kMem) : Prop := ∀ a b : Nat, μ'.1 a b = if a = 1 ∧ b = 1 then Int32.ofInt ((μ.1 1 1).toInt + j) else if a = 2 ∧ (μ.1 1 1).toInt ≤ (b : Int) ∧ (b : Int) < (μ.1 1 1).toInt + j then kbyte x (b - (μ.1 1 1).toInt.toNat) else μ.1 a b
theorem ok_X10_size {μ : kMem} : kOk yX10_size cX10_size 1 (some .int) rmX10_size shK 68 [.ref 1] μ (kP (μ.1 1 1) μ) := by
  refine kOk.of rfl (Nat.le_of_ble_eq_true rfl) (fun J C => ?_)
  have C : kR cX10_size RX10 1 rmX10_size shK 68 (some .int) _ J := C
  refine (r_aload_n C dX10_size_0 rfl rfl (r_getI C dX10_size_1 fd_X10_15 nK_1 sK_1 rfl (r_iret C dX10_size_4 ?_)))
  exact ⟨rfl, rfl⟩
theorem ok_X10_hasRoom {μ : kMem} (h : 0 ≤ (μ.1 1 1).toInt ∧ (μ.1 1 1).toInt ≤ 500) : kOk yX10_hasRoom cX10_hasRoom 1 (some .boolean) rmX10_hasRoom shK 68 [.ref 1] μ (kP (bP ((μ.1 1 1).toInt + 20 ≤ 500)) μ) := by
  refine kOk.of rfl (Nat.le_of_ble_eq_true rfl) (fun J C => ?_)
  have C : kR cX10_hasRoom RX10 1 rmX10_hasRoom shK 68 (some .boolean) _ J := C
  refine (r_aload_n C dX10_hasRoom_0 rfl rfl (r_getI C dX10_hasRoom_1 fd_X10_15 nK_1 sK_1 rfl (r_bipush C dX10_hasRoom_4 (by decide +kernel) (r_iadd C dX10_hasRoom_6 (r_sipush C dX10_hasRoom_7 (by decide +kernel) (r_icmp_gt C (tgt := 17) dX10_hasRoom_10 rfl (fun c10 => (r_iconst C dX10_hasRoom_17 (r_zret C dX10_hasRoom_18 rfl ?_))) (fun c10 => (r_iconst C dX10_hasRoom_13 (r_goto C (tgt := 18) dX10_hasRoom_14 rfl (r_zret C dX10_hasRoom_18 rfl ?_))))))))))
  · simp (disch := (first | omega | (simp (disch := omega) only [ti_ofInt, ti_addc, ti_subc, ti_mulc, ti_cmul, ti_divc, ti_remc, ti_zero, ti_add, ti_sub, ti_neg, if_lt_ti, if_gt_ti, bP_e0, Classical.not_not, tl_i2l]; omega))) only [ti_ofInt, ti_addc, ti_subc, ti_mulc, ti_cmul, ti_divc, ti_remc, ti_zero, ti_add, ti_sub, ti_neg, if_lt_ti, if_gt_ti, bP_e0, Classical.not_not, tl_i2l] at c10
    exact ⟨bP_0 (by omega), rfl⟩
  · simp (disch := (first | omega | (simp (disch := omega) only [ti_ofInt, ti_addc, ti_subc, ti_mulc, ti_cmul, ti_divc, ti_remc, ti_zero, ti_add, ti_sub, ti_neg, if_lt_ti, if_gt_ti, bP_e0, Classical.not_not, tl_i2l]; omega))) only [ti_ofInt, ti_addc, ti_subc, ti_mulc, ti_cmul, ti_divc, ti_remc, ti_zero, ti_add, ti_sub, ti_neg, if_lt_ti, if_gt_ti, bP_e0, Classical.not_not, tl_i2l] at c10
    exact ⟨bP_1 (by omega), rfl⟩
theorem ok_X10_at {x : Int32} {μ : kMem} (h : (μ.1 1 1).toInt ≤ 500) : kOk yX10_at cX10_at 2 (some .int) rmX10_at shK 68 [.ref 1, .int x] μ (kP (tat μ x.toInt) μ) := by
  unfold tat
  refine kOk.of rfl (Nat.le_of_ble_eq_true rfl) (fun J C => ?_)
  have C : kR cX10_at RX10 2 rmX10_at shK 68 (some .int) _ J := C
  refine (r_iload_n C dX10_at_0 rfl rfl (r_if_lt C (tgt := 21) dX10_at_1 rfl (fun c1 => (r_iconst C dX10_at_21 (r_iret C dX10_at_22 ?_))) (fun c1 => (r_iload_n C dX10_at_4 rfl rfl (r_aload_n C dX10_at_5 rfl rfl (r_getI C dX10_at_6 fd_X10_15 nK_1 sK_1 rfl (r_icmp_ge C (tgt := 21) dX10_at_9 rfl (fun c9 => (r_iconst C dX10_at_21 (r_iret C dX10_at_22 ?_))) (fun c9 => (r_aload_n C dX10_at_12 rfl rfl (r_getR C dX10_at_13 fd_X10_11 nK_1 sK_1 rfl (r_iload_n C dX10_at_16 rfl rfl (r_iald C dX10_at_17 nK_2 sK_2 ?_ (r_goto C (tgt := 22) dX10_at_18 rfl (r_iret C dX10_at_22 ?_))))))))))))))
  · exact ⟨(if_neg (by omega)).symm, rfl⟩
  · exact ⟨(if_neg (by omega)).symm, rfl⟩
  · omega
  · exact ⟨(if_pos (by omega)).symm, rfl⟩
theorem ok_X10_isLetter {x : Int32} {μ : kMem} (h : (μ.1 1 1).toInt ≤ 500) : kOk yX10_isLetter cX10_isLetter 3 (some .boolean) rmX10_isLetter shK 68 [.ref 1, .int x] μ (kP (bP (97 ≤ (tat μ x.toInt).toInt ∧ (tat μ x.toInt).toInt ≤ 122)) μ) := by
  refine kOk.of rfl (Nat.le_of_ble_eq_true rfl) (fun J C => ?_)
  have C : kR cX10_isLetter RX10 3 rmX10_isLetter shK 68 (some .boolean) _ J := C
  refine (r_aload_n C dX10_isLetter_0 rfl rfl (r_iload_n C dX10_isLetter_1 rfl rfl (r_v1P C yv_X10_at lk_X10_19 dX10_isLetter_2 rfl nK_1 sK_1 rfl (Nat.le_of_ble_eq_true rfl) (ok_X10_at ?_) (r_istore_n C dX10_isLetter_5 rfl (by decide) (r_iload_n C dX10_isLetter_6 rfl rfl (r_bipush C dX10_isLetter_7 (by decide +kernel) (r_icmp_lt C (tgt := 22) dX10_isLetter_9 rfl (fun c9 => (r_iconst C dX10_isLetter_22 (r_zret C dX10_isLetter_23 rfl ?_))) (fun c9 => (r_iload_n C dX10_isLetter_12 rfl rfl (r_bipush C dX10_isLetter_13 (by decide +kernel) (r_icmp_gt C (tgt := 22) dX10_isLetter_15 rfl (fun c15 => (r_iconst C dX10_isLetter_22 (r_zret C dX10_isLetter_23 rfl ?_))) (fun c15 => (r_iconst C dX10_isLetter_18 (r_goto C (tgt := 23) dX10_isLetter_19 rfl (r_zret C dX10_isLetter_23 rfl ?_)))))))))))))))
  · exact h
  · simp (disch := (first | omega | (simp (disch := omega) only [ti_ofInt, ti_addc, ti_subc, ti_mulc, ti_cmul, ti_divc, ti_remc, ti_zero, ti_add, ti_sub, ti_neg, if_lt_ti, if_gt_ti, bP_e0, Classical.not_not, tl_i2l]; omega))) only [ti_ofInt, ti_addc, ti_subc, ti_mulc, ti_cmul, ti_divc, ti_remc, ti_zero, ti_add, ti_sub, ti_neg, if_lt_ti, if_gt_ti, bP_e0, Classical.not_not, tl_i2l] at c9
    exact ⟨bP_0 (by omega), rfl⟩
  · simp (disch := (first | omega | (simp (disch := omega) only [ti_ofInt, ti_addc, ti_subc, ti_mulc, ti_cmul, ti_divc, ti_remc, ti_zero, ti_add, ti_sub, ti_neg, if_lt_ti, if_gt_ti, bP_e0, Classical.not_not, tl_i2l]; omega))) only [ti_ofInt, ti_addc, ti_subc, ti_mulc, ti_cmul, ti_divc, ti_remc, ti_zero, ti_add, ti_sub, ti_neg, if_lt_ti, if_gt_ti, bP_e0, Classical.not_not, tl_i2l] at c9 c15
    exact ⟨bP_0 (by omega), rfl⟩
  · simp (disch := (first | omega | (simp (disch := omega) only [ti_ofInt, ti_addc, ti_subc, ti_mulc, ti_cmul, ti_divc, ti_remc, ti_zero, ti_add, ti_sub, ti_neg, if_lt_ti, if_gt_ti, bP_e0, Classical.not_not, tl_i2l]; omega))) only [ti_ofInt, ti_addc, ti_subc, ti_mulc, ti_cmul, ti_divc, ti_remc, ti_zero, ti_add, ti_sub, ti_neg, if_lt_ti, if_gt_ti, bP_e0, Classical.not_not, tl_i2l] at c9 c15
    exact ⟨bP_1 (by omega), rfl⟩
theorem ok_X10_keep {x : Int32} {μ : kMem} : kOk yX10_keep cX10_keep 2 (some .boolean) rmX10_keep shK 68 [.ref 1, .int x] μ (kI fun r μ' => (0 ≤ x.toInt ∧ x.toInt ≤ (μ.1 1 1).toInt ∧ r = Int32.ofInt 1 ∧ μ' = up μ 1 1 x) ∨ (¬ (0 ≤ x.toInt ∧ x.toInt ≤ (μ.1 1 1).toInt) ∧ r = Int32.ofInt 0 ∧ μ' = μ)) := by
  refine kOk.of rfl (Nat.le_of_ble_eq_true rfl) (fun J C => ?_)
  have C : kR cX10_keep RX10 2 rmX10_keep shK 68 (some .boolean) _ J := C
  refine (r_iload_n C dX10_keep_0 rfl rfl (r_if_lt C (tgt := 12) dX10_keep_1 rfl (fun c1 => (r_iconst C dX10_keep_12 (r_zret C dX10_keep_13 rfl ?_))) (fun c1 => (r_iload_n C dX10_keep_4 rfl rfl (r_aload_n C dX10_keep_5 rfl rfl (r_getI C dX10_keep_6 fd_X10_15 nK_1 sK_1 rfl (r_icmp_le C (tgt := 14) dX10_keep_9 rfl (fun c9 => (r_aload_n C dX10_keep_14 rfl rfl (r_iload_n C dX10_keep_15 rfl rfl (r_putI C dX10_keep_16 fw_X10_15 nK_1 sK_1 rfl (r_iconst C dX10_keep_19 (r_zret C dX10_keep_20 rfl ?_)))))) (fun c9 => (r_iconst C dX10_keep_12 (r_zret C dX10_keep_13 rfl ?_))))))))))
  · exact Or.inr ⟨by omega, rfl, rfl⟩
  · exact Or.inl ⟨by omega, by omega, rfl, rfl⟩
  · exact Or.inr ⟨by omega, rfl, rfl⟩
theorem ok_X10_add {x : Int32} {μ : kMem} (h : 0 ≤ (μ.1 1 1).toInt ∧ (μ.1 1 1).toInt + 4 ≤ 500) : kOk yX10_add cX10_add 3 (none) rmX10_add shK 68 [.ref 1, .int x] μ (kN (kAdd μ x 4)) := by
  refine kOk.of rfl (Nat.le_of_ble_eq_true rfl) (fun J C => ?_)
  have C : kR cX10_add RX10 3 rmX10_add shK 68 (none) _ J := C
  have loop : ∀ (k j : Nat) (s : Int32) (μ' : kMem), j + k = 4 → s.toInt = 24 - 8 * (j : Int) → kAdd μ x j μ' → J 3 [some (.ref 1), some (.int x), some (.int s)] [] μ' := by
    intro k
    induction k with
    | zero =>
      intro j s μ' hj hs hr
      refine (r_iload_n C dX10_add_3 rfl rfl (r_if_lt C (tgt := 49) dX10_add_4 rfl (fun c4 => (r_ret C dX10_add_49 ?_)) (fun c4 => (r_aload_n C dX10_add_7 rfl rfl (r_getI C dX10_add_8 fd_X10_15 nK_1 sK_1 rfl (r_sipush C dX10_add_11 (by decide +kernel) (r_icmp_ge C (tgt := 49) dX10_add_14 rfl (fun c14 => (r_ret C dX10_add_49 ?_)) (fun c14 => (r_aload_n C dX10_add_17 rfl rfl (r_getR C dX10_add_18 fd_X10_11 nK_1 sK_1 rfl (r_aload_n C dX10_add_21 rfl rfl (r_getI C dX10_add_22 fd_X10_15 nK_1 sK_1 rfl (r_iload_n C dX10_add_25 rfl rfl (r_iload_n C dX10_add_26 rfl rfl (r_iushr C dX10_add_27 (r_sipush C dX10_add_28 (by decide +kernel) (r_iand C dX10_add_31 (r_iast C dX10_add_32 nK_2 sK_2 ?_ (r_aload_n C dX10_add_33 rfl rfl (r_dup C dX10_add_34 rfl (r_getI C dX10_add_35 fd_X10_15 nK_1 sK_1 rfl (r_iconst C dX10_add_38 (r_iadd C dX10_add_39 (r_putI C dX10_add_40 fw_X10_15 nK_1 sK_1 rfl (r_iinc C dX10_add_43 rfl (by decide) (r_goto C (tgt := 3) dX10_add_46 rfl ?_))))))))))))))))))))))))))
      · rw [show (4 : Nat) = j by omega]; exact hr
      · omega
      · omega
      · omega
    | succ k ih =>
      intro j s μ' hj hs hr
      have en : μ'.1 1 1 = Int32.ofInt ((μ.1 1 1).toInt + j) := by rw [hr 1 1, if_pos ⟨rfl, rfl⟩]
      have en2 : (μ'.1 1 1).toInt = (μ.1 1 1).toInt + j := by rw [en, ti_ofInt (by omega)]
      refine (r_iload_n C dX10_add_3 rfl rfl (r_if_lt C (tgt := 49) dX10_add_4 rfl (fun c4 => (r_ret C dX10_add_49 ?_)) (fun c4 => (r_aload_n C dX10_add_7 rfl rfl (r_getI C dX10_add_8 fd_X10_15 nK_1 sK_1 rfl (r_sipush C dX10_add_11 (by decide +kernel) (r_icmp_ge C (tgt := 49) dX10_add_14 rfl (fun c14 => (r_ret C dX10_add_49 ?_)) (fun c14 => (r_aload_n C dX10_add_17 rfl rfl (r_getR C dX10_add_18 fd_X10_11 nK_1 sK_1 rfl (r_aload_n C dX10_add_21 rfl rfl (r_getI C dX10_add_22 fd_X10_15 nK_1 sK_1 rfl (r_iload_n C dX10_add_25 rfl rfl (r_iload_n C dX10_add_26 rfl rfl (r_iushr C dX10_add_27 (r_sipush C dX10_add_28 (by decide +kernel) (r_iand C dX10_add_31 (r_iast C dX10_add_32 nK_2 sK_2 ?_ (r_aload_n C dX10_add_33 rfl rfl (r_dup C dX10_add_34 rfl (r_getI C dX10_add_35 fd_X10_15 nK_1 sK_1 rfl (r_iconst C dX10_add_38 (r_iadd C dX10_add_39 (r_putI C dX10_add_40 fw_X10_15 nK_1 sK_1 rfl (r_iinc C dX10_add_43 rfl (by decide) (r_goto C (tgt := 3) dX10_add_46 rfl ?_))))))))))))))))))))))))))
      · omega
      · simp (disch := (first | omega | (simp (disch := omega) only [ti_ofInt, ti_addc, ti_subc, ti_mulc, ti_cmul, ti_divc, ti_remc, ti_zero, ti_add, ti_sub, ti_neg, if_lt_ti, if_gt_ti, bP_e0, Classical.not_not, tl_i2l]; omega))) only [ti_ofInt, ti_addc, ti_subc, ti_mulc, ti_cmul, ti_divc, ti_remc, ti_zero, ti_add, ti_sub, ti_neg, if_lt_ti, if_gt_ti, bP_e0, Classical.not_not, tl_i2l] at c14
        omega
      · omega
      · refine ih (j + 1) _ _ (by omega) ?_ ?_
        · simp (disch := (first | omega | (simp (disch := omega) only [ti_ofInt, ti_addc, ti_subc, ti_mulc, ti_cmul, ti_divc, ti_remc, ti_zero, ti_add, ti_sub, ti_neg, if_lt_ti, if_gt_ti, bP_e0, Classical.not_not, tl_i2l]; omega))) only [ti_ofInt, ti_addc, ti_subc, ti_mulc, ti_cmul, ti_divc, ti_remc, ti_zero, ti_add, ti_sub, ti_neg, if_lt_ti, if_gt_ti, bP_e0, Classical.not_not, tl_i2l]
          omega
        · intro a b
          have e := hr a b
          have e1 : s = Int32.ofInt (24 - 8 * (j : Int)) := ti_ext (by rw [hs, ti_ofInt (by omega)])
          simp only [up]
          by_cases h1 : a = 1 ∧ b = 1
          · obtain ⟨rfl, rfl⟩ := h1
            simp only [and_self, if_true]
            refine ti_ext ?_
            rw [if_neg (by omega)]
            simp (disch := (first | omega | (simp (disch := omega) only [ti_ofInt, ti_addc, ti_subc, ti_mulc, ti_cmul, ti_divc, ti_remc, ti_zero, ti_add, ti_sub, ti_neg, if_lt_ti, if_gt_ti, bP_e0, Classical.not_not, tl_i2l]; omega))) only [ti_ofInt, ti_addc, ti_subc, ti_mulc, ti_cmul, ti_divc, ti_remc, ti_zero, ti_add, ti_sub, ti_neg, if_lt_ti, if_gt_ti, bP_e0, Classical.not_not, tl_i2l]
            rw [en2]
            omega
          · rw [if_neg h1, if_neg h1]
            rw [if_neg h1] at e
            by_cases h2 : a = 2 ∧ b = (μ'.1 1 1).toInt.toNat
            · rw [if_pos h2, if_pos (by omega)]
              unfold kbyte
              rw [show b - (μ.1 1 1).toInt.toNat = j by omega, e1]
            · rw [if_neg h2, e]
              by_cases h3 : a = 2 ∧ (μ.1 1 1).toInt ≤ (b : Int) ∧ (b : Int) < (μ.1 1 1).toInt + j
              · rw [if_pos h3, if_pos (by omega)]
              · rw [if_neg h3, if_neg (by omega)]
  refine (r_bipush C dX10_add_0 (by decide +kernel) (r_istore_n C dX10_add_2 rfl (by decide) ?_))
  refine loop 4 0 _ _ rfl (by simp (disch := (first | omega | (simp (disch := omega) only [ti_ofInt, ti_addc, ti_subc, ti_mulc, ti_cmul, ti_divc, ti_remc, ti_zero, ti_add, ti_sub, ti_neg, if_lt_ti, if_gt_ti, bP_e0, Classical.not_not, tl_i2l]; omega))) only [ti_ofInt, ti_addc, ti_subc, ti_mulc, ti_cmul, ti_divc, ti_remc, ti_zero, ti_add, ti_sub, ti_neg, if_lt_ti, if_gt_ti, bP_e0, Classical.not_not, tl_i2l]; omega) ?_
  intro a b
  by_cases h1 : a = 1 ∧ b = 1
  · obtain ⟨rfl, rfl⟩ := h1
    rw [if_pos ⟨rfl, rfl⟩]
    refine ti_ext ?_
    rw [ti_ofInt (by omega)]
    omega
  · rw [if_neg h1, if_neg (by omega)]
theorem ok_X9_size {μ : kMem} : kOk yX9_size cX9_size 1 (some .int) rmX9_size shK 68 [.ref 25] μ (kP (μ.1 25 1) μ) := by
  refine kOk.of rfl (Nat.le_of_ble_eq_true rfl) (fun J C => ?_)
  have C : kR cX9_size RX9 1 rmX9_size shK 68 (some .int) _ J := C
  refine (r_aload_n C dX9_size_0 rfl rfl (r_getI C dX9_size_1 fd_X9_15 nK_25 sK_25 rfl (r_iret C dX9_size_4 ?_)))
  exact ⟨rfl, rfl⟩
def tpt (μ : kMem) (x : Int) : Int32 := if 0 ≤ x ∧ x < (μ.1 25 1).toInt then μ.1 26 x.toNat else Int32.ofInt (-1)
theorem ok_X9_at {x : Int32} {μ : kMem} (h : (μ.1 25 1).toInt ≤ 120) : kOk yX9_at cX9_at 2 (some .int) rmX9_at shK 68 [.ref 25, .int x] μ (kP (tpt μ x.toInt) μ) := by
  unfold tpt
  refine kOk.of rfl (Nat.le_of_ble_eq_true rfl) (fun J C => ?_)
  have C : kR cX9_at RX9 2 rmX9_at shK 68 (some .int) _ J := C
  refine (r_iload_n C dX9_at_0 rfl rfl (r_if_lt C (tgt := 21) dX9_at_1 rfl (fun c1 => (r_iconst C dX9_at_21 (r_iret C dX9_at_22 ?_))) (fun c1 => (r_iload_n C dX9_at_4 rfl rfl (r_aload_n C dX9_at_5 rfl rfl (r_getI C dX9_at_6 fd_X9_15 nK_25 sK_25 rfl (r_icmp_ge C (tgt := 21) dX9_at_9 rfl (fun c9 => (r_iconst C dX9_at_21 (r_iret C dX9_at_22 ?_))) (fun c9 => (r_aload_n C dX9_at_12 rfl rfl (r_getR C dX9_at_13 fd_X9_11 nK_25 sK_25 rfl (r_iload_n C dX9_at_16 rfl rfl (r_iald C dX9_at_17 nK_26 sK_26 ?_ (r_goto C (tgt := 22) dX9_at_18 rfl (r_iret C dX9_at_22 ?_))))))))))))))
  · exact ⟨(if_neg (by omega)).symm, rfl⟩
  · exact ⟨(if_neg (by omega)).symm, rfl⟩
  · omega
  · exact ⟨(if_pos (by omega)).symm, rfl⟩
theorem ok_X9_keep {x : Int32} {μ : kMem} : kOk yX9_keep cX9_keep 2 (some .boolean) rmX9_keep shK 68 [.ref 25, .int x] μ (kI fun r μ' => (0 ≤ x.toInt ∧ x.toInt ≤ (μ.1 25 1).toInt ∧ r = Int32.ofInt 1 ∧ μ' = up μ 25 1 x) ∨ (¬ (0 ≤ x.toInt ∧ x.toInt ≤ (μ.1 25 1).toInt) ∧ r = Int32.ofInt 0 ∧ μ' = μ)) := by
  refine kOk.of rfl (Nat.le_of_ble_eq_true rfl) (fun J C => ?_)
  have C : kR cX9_keep RX9 2 rmX9_keep shK 68 (some .boolean) _ J := C
  refine (r_iload_n C dX9_keep_0 rfl rfl (r_if_lt C (tgt := 12) dX9_keep_1 rfl (fun c1 => (r_iconst C dX9_keep_12 (r_zret C dX9_keep_13 rfl ?_))) (fun c1 => (r_iload_n C dX9_keep_4 rfl rfl (r_aload_n C dX9_keep_5 rfl rfl (r_getI C dX9_keep_6 fd_X9_15 nK_25 sK_25 rfl (r_icmp_le C (tgt := 14) dX9_keep_9 rfl (fun c9 => (r_aload_n C dX9_keep_14 rfl rfl (r_iload_n C dX9_keep_15 rfl rfl (r_putI C dX9_keep_16 fw_X9_15 nK_25 sK_25 rfl (r_iconst C dX9_keep_19 (r_zret C dX9_keep_20 rfl ?_)))))) (fun c9 => (r_iconst C dX9_keep_12 (r_zret C dX9_keep_13 rfl ?_))))))))))
  · exact Or.inr ⟨by omega, rfl, rfl⟩
  · exact Or.inl ⟨by omega, by omega, rfl, rfl⟩
  · exact Or.inr ⟨by omega, rfl, rfl⟩
theorem ok_X9_isWhole {μ : kMem} (h : 0 ≤ (μ.1 25 1).toInt) : kOk yX9_isWhole cX9_isWhole 1 (some .boolean) rmX9_isWhole shK 68 [.ref 25] μ (kP (bP ((μ.1 25 1).toInt % 2 = 1)) μ) := by
  refine kOk.of rfl (Nat.le_of_ble_eq_true rfl) (fun J C => ?_)
  have C : kR cX9_isWhole RX9 1 rmX9_isWhole shK 68 (some .boolean) _ J := C
  refine (r_aload_n C dX9_isWhole_0 rfl rfl (r_getI C dX9_isWhole_1 fd_X9_15 nK_25 sK_25 rfl (r_iconst C dX9_isWhole_4 (r_irem C dX9_isWhole_5 (by decide) (r_iconst C dX9_isWhole_6 (r_icmp_ne C (tgt := 14) dX9_isWhole_7 rfl (fun c7 => (r_iconst C dX9_isWhole_14 (r_zret C dX9_isWhole_15 rfl ?_))) (fun c7 => (r_iconst C dX9_isWhole_10 (r_goto C (tgt := 15) dX9_isWhole_11 rfl (r_zret C dX9_isWhole_15 rfl ?_))))))))))
  · simp (disch := (first | omega | (simp (disch := omega) only [ti_ofInt, ti_addc, ti_subc, ti_mulc, ti_cmul, ti_divc, ti_remc, ti_zero, ti_add, ti_sub, ti_neg, if_lt_ti, if_gt_ti, bP_e0, Classical.not_not, tl_i2l]; omega))) only [ti_ofInt, ti_addc, ti_subc, ti_mulc, ti_cmul, ti_divc, ti_remc, ti_zero, ti_add, ti_sub, ti_neg, if_lt_ti, if_gt_ti, bP_e0, Classical.not_not, tl_i2l] at c7
    exact ⟨bP_0 (by omega), rfl⟩
  · simp (disch := (first | omega | (simp (disch := omega) only [ti_ofInt, ti_addc, ti_subc, ti_mulc, ti_cmul, ti_divc, ti_remc, ti_zero, ti_add, ti_sub, ti_neg, if_lt_ti, if_gt_ti, bP_e0, Classical.not_not, tl_i2l]; omega))) only [ti_ofInt, ti_addc, ti_subc, ti_mulc, ti_cmul, ti_divc, ti_remc, ti_zero, ti_add, ti_sub, ti_neg, if_lt_ti, if_gt_ti, bP_e0, Classical.not_not, tl_i2l] at c7
    exact ⟨bP_1 (by omega), rfl⟩
theorem ok_X9_add {x : Int32} {μ : kMem} (h : 0 ≤ (μ.1 25 1).toInt ∧ (μ.1 25 1).toInt ≤ 120) : kOk yX9_add cX9_add 2 (some .int) rmX9_add shK 68 [.ref 25, .int x] μ (kI fun r μ' => ((μ.1 25 1).toInt < 120 ∧ r = Int32.ofInt ((μ.1 25 1).toInt + 1) ∧ μ' = up (up μ 26 (μ.1 25 1).toInt.toNat x) 25 1 (Int32.ofInt ((μ.1 25 1).toInt + 1))) ∨ ((μ.1 25 1).toInt = 120 ∧ r = Int32.ofInt (-1) ∧ μ' = μ)) := by
  have e1 : μ.1 25 1 + Int32.ofInt 1 = Int32.ofInt ((μ.1 25 1).toInt + 1) := ti_ext (by simp (disch := (first | omega | (simp (disch := omega) only [ti_ofInt, ti_addc, ti_subc, ti_mulc, ti_cmul, ti_divc, ti_remc, ti_zero, ti_add, ti_sub, ti_neg, if_lt_ti, if_gt_ti, bP_e0, Classical.not_not, tl_i2l]; omega))) only [ti_ofInt, ti_addc, ti_subc, ti_mulc, ti_cmul, ti_divc, ti_remc, ti_zero, ti_add, ti_sub, ti_neg, if_lt_ti, if_gt_ti, bP_e0, Classical.not_not, tl_i2l])
  refine kOk.of rfl (Nat.le_of_ble_eq_true rfl) (fun J C => ?_)
  have C : kR cX9_add RX9 2 rmX9_add shK 68 (some .int) _ J := C
  refine (r_aload_n C dX9_add_0 rfl rfl (r_getI C dX9_add_1 fd_X9_15 nK_25 sK_25 rfl (r_bipush C dX9_add_4 (by decide +kernel) (r_icmp_lt C (tgt := 11) dX9_add_6 rfl (fun c6 => (r_aload_n C dX9_add_11 rfl rfl (r_getR C dX9_add_12 fd_X9_11 nK_25 sK_25 rfl (r_aload_n C dX9_add_15 rfl rfl (r_getI C dX9_add_16 fd_X9_15 nK_25 sK_25 rfl (r_iload_n C dX9_add_19 rfl rfl (r_iast C dX9_add_20 nK_26 sK_26 ?_ (r_aload_n C dX9_add_21 rfl rfl (r_dup C dX9_add_22 rfl (r_getI C dX9_add_23 fd_X9_15 nK_25 sK_25 rfl (r_iconst C dX9_add_26 (r_iadd C dX9_add_27 (r_putI C dX9_add_28 fw_X9_15 nK_25 sK_25 rfl (r_aload_n C dX9_add_31 rfl rfl (r_getI C dX9_add_32 fd_X9_15 nK_25 sK_25 rfl (r_iret C dX9_add_35 ?_)))))))))))))))) (fun c6 => (r_iconst C dX9_add_9 (r_iret C dX9_add_10 ?_)))))))
  · simp (disch := (first | omega | (simp (disch := omega) only [ti_ofInt, ti_addc, ti_subc, ti_mulc, ti_cmul, ti_divc, ti_remc, ti_zero, ti_add, ti_sub, ti_neg, if_lt_ti, if_gt_ti, bP_e0, Classical.not_not, tl_i2l]; omega))) only [ti_ofInt, ti_addc, ti_subc, ti_mulc, ti_cmul, ti_divc, ti_remc, ti_zero, ti_add, ti_sub, ti_neg, if_lt_ti, if_gt_ti, bP_e0, Classical.not_not, tl_i2l] at c6
    omega
  · simp (disch := (first | omega | (simp (disch := omega) only [ti_ofInt, ti_addc, ti_subc, ti_mulc, ti_cmul, ti_divc, ti_remc, ti_zero, ti_add, ti_sub, ti_neg, if_lt_ti, if_gt_ti, bP_e0, Classical.not_not, tl_i2l]; omega))) only [ti_ofInt, ti_addc, ti_subc, ti_mulc, ti_cmul, ti_divc, ti_remc, ti_zero, ti_add, ti_sub, ti_neg, if_lt_ti, if_gt_ti, bP_e0, Classical.not_not, tl_i2l] at c6
    refine Or.inl ⟨c6, ?_, ?_⟩
    · simp only [up, and_self, if_true]
      exact e1
    · simp only [← e1, up]
      rfl
  · simp (disch := (first | omega | (simp (disch := omega) only [ti_ofInt, ti_addc, ti_subc, ti_mulc, ti_cmul, ti_divc, ti_remc, ti_zero, ti_add, ti_sub, ti_neg, if_lt_ti, if_gt_ti, bP_e0, Classical.not_not, tl_i2l]; omega))) only [ti_ofInt, ti_addc, ti_subc, ti_mulc, ti_cmul, ti_divc, ti_remc, ti_zero, ti_add, ti_sub, ti_neg, if_lt_ti, if_gt_ti, bP_e0, Classical.not_not, tl_i2l] at c6
    exact Or.inr ⟨by omega, rfl, rfl⟩

