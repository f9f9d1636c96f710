/-! ===== Code: the letters' MARKS and the GROUPS ===== -/
theorem ok_X1_hasLetter_3 {x : Int32} {μ : kMem} : kOk yX1_hasLetter cX1_hasLetter 2 (some .boolean) rmX1_hasLetter shK 68 [.ref 3, .int x] μ (kP (bP (0 ≤ x.toInt ∧ x.toInt < 26 ∧ 0 < (μ.1 5 x.toInt.toNat).toInt)) μ) := by
  refine kOk.of rfl (Nat.le_of_ble_eq_true rfl) (fun J C => ?_)
  have C : kR cX1_hasLetter RX1 2 rmX1_hasLetter shK 68 (some .boolean) _ J := C
  refine (r_iload_n C dX1_hasLetter_0 rfl rfl (r_if_lt C (tgt := 23) dX1_hasLetter_1 rfl (fun c1 => (r_iconst C dX1_hasLetter_23 (r_zret C dX1_hasLetter_24 rfl ?_))) (fun c1 => (r_iload_n C dX1_hasLetter_4 rfl rfl (r_bipush C dX1_hasLetter_5 (by decide +kernel) (r_icmp_ge C (tgt := 23) dX1_hasLetter_7 rfl (fun c7 => (r_iconst C dX1_hasLetter_23 (r_zret C dX1_hasLetter_24 rfl ?_))) (fun c7 => (r_aload_n C dX1_hasLetter_10 rfl rfl (r_getR C dX1_hasLetter_11 fd_X1_15 nK_3 sK_3 rfl (r_iload_n C dX1_hasLetter_14 rfl rfl (r_iald C dX1_hasLetter_15 nK_5 sK_5 ?_ (r_if_le C (tgt := 23) dX1_hasLetter_16 rfl (fun c16 => (r_iconst C dX1_hasLetter_23 (r_zret C dX1_hasLetter_24 rfl ?_))) (fun c16 => (r_iconst C dX1_hasLetter_19 (r_goto C (tgt := 24) dX1_hasLetter_20 rfl (r_zret C dX1_hasLetter_24 rfl ?_))))))))))))))))
  · exact ⟨bP_0 (by omega), rfl⟩
  · simp (disch := (first | omega | (simp (disch := omega) only [ti_ofInt, ti_addc, ti_subc, ti_mulc, ti_cmul, ti_divc, ti_remc, ti_zero, ti_add, ti_sub, ti_neg, if_lt_ti, if_gt_ti, bP_e0, Classical.not_not, tl_i2l]; omega))) only [ti_ofInt, ti_addc, ti_subc, ti_mulc, ti_cmul, ti_divc, ti_remc, ti_zero, ti_add, ti_sub, ti_neg, if_lt_ti, if_gt_ti, bP_e0, Classical.not_not, tl_i2l] at c7
    exact ⟨bP_0 (by omega), rfl⟩
  · simp (disch := (first | omega | (simp (disch := omega) only [ti_ofInt, ti_addc, ti_subc, ti_mulc, ti_cmul, ti_divc, ti_remc, ti_zero, ti_add, ti_sub, ti_neg, if_lt_ti, if_gt_ti, bP_e0, Classical.not_not, tl_i2l]; omega))) only [ti_ofInt, ti_addc, ti_subc, ti_mulc, ti_cmul, ti_divc, ti_remc, ti_zero, ti_add, ti_sub, ti_neg, if_lt_ti, if_gt_ti, bP_e0, Classical.not_not, tl_i2l] at c7
    omega
  · simp (disch := (first | omega | (simp (disch := omega) only [ti_ofInt, ti_addc, ti_subc, ti_mulc, ti_cmul, ti_divc, ti_remc, ti_zero, ti_add, ti_sub, ti_neg, if_lt_ti, if_gt_ti, bP_e0, Classical.not_not, tl_i2l]; omega))) only [ti_ofInt, ti_addc, ti_subc, ti_mulc, ti_cmul, ti_divc, ti_remc, ti_zero, ti_add, ti_sub, ti_neg, if_lt_ti, if_gt_ti, bP_e0, Classical.not_not, tl_i2l] at c7
    exact ⟨bP_0 (by omega), rfl⟩
  · simp (disch := (first | omega | (simp (disch := omega) only [ti_ofInt, ti_addc, ti_subc, ti_mulc, ti_cmul, ti_divc, ti_remc, ti_zero, ti_add, ti_sub, ti_neg, if_lt_ti, if_gt_ti, bP_e0, Classical.not_not, tl_i2l]; omega))) only [ti_ofInt, ti_addc, ti_subc, ti_mulc, ti_cmul, ti_divc, ti_remc, ti_zero, ti_add, ti_sub, ti_neg, if_lt_ti, if_gt_ti, bP_e0, Classical.not_not, tl_i2l] at c7
    exact ⟨bP_1 (by omega), rfl⟩
theorem ok_X1_words_3 {μ : kMem} : kOk yX1_words cX1_words 1 (some .int) rmX1_words shK 68 [.ref 3] μ (kP (μ.1 3 5) μ) := by
  refine kOk.of rfl (Nat.le_of_ble_eq_true rfl) (fun J C => ?_)
  have C : kR cX1_words RX1 1 rmX1_words shK 68 (some .int) _ J := C
  refine (r_aload_n C dX1_words_0 rfl rfl (r_getI C dX1_words_1 fd_X1_28 nK_3 sK_3 rfl (r_iret C dX1_words_4 ?_)))
  exact ⟨rfl, rfl⟩
theorem ok_X1_hasLetter_8 {x : Int32} {μ : kMem} : kOk yX1_hasLetter cX1_hasLetter 2 (some .boolean) rmX1_hasLetter shK 68 [.ref 8, .int x] μ (kP (bP (0 ≤ x.toInt ∧ x.toInt < 26 ∧ 0 < (μ.1 10 x.toInt.toNat).toInt)) μ) := by
  refine kOk.of rfl (Nat.le_of_ble_eq_true rfl) (fun J C => ?_)
  have C : kR cX1_hasLetter RX1 2 rmX1_hasLetter shK 68 (some .boolean) _ J := C
  refine (r_iload_n C dX1_hasLetter_0 rfl rfl (r_if_lt C (tgt := 23) dX1_hasLetter_1 rfl (fun c1 => (r_iconst C dX1_hasLetter_23 (r_zret C dX1_hasLetter_24 rfl ?_))) (fun c1 => (r_iload_n C dX1_hasLetter_4 rfl rfl (r_bipush C dX1_hasLetter_5 (by decide +kernel) (r_icmp_ge C (tgt := 23) dX1_hasLetter_7 rfl (fun c7 => (r_iconst C dX1_hasLetter_23 (r_zret C dX1_hasLetter_24 rfl ?_))) (fun c7 => (r_aload_n C dX1_hasLetter_10 rfl rfl (r_getR C dX1_hasLetter_11 fd_X1_15 nK_8 sK_8 rfl (r_iload_n C dX1_hasLetter_14 rfl rfl (r_iald C dX1_hasLetter_15 nK_10 sK_10 ?_ (r_if_le C (tgt := 23) dX1_hasLetter_16 rfl (fun c16 => (r_iconst C dX1_hasLetter_23 (r_zret C dX1_hasLetter_24 rfl ?_))) (fun c16 => (r_iconst C dX1_hasLetter_19 (r_goto C (tgt := 24) dX1_hasLetter_20 rfl (r_zret C dX1_hasLetter_24 rfl ?_))))))))))))))))
  · exact ⟨bP_0 (by omega), rfl⟩
  · simp (disch := (first | omega | (simp (disch := omega) only [ti_ofInt, ti_addc, ti_subc, ti_mulc, ti_cmul, ti_divc, ti_remc, ti_zero, ti_add, ti_sub, ti_neg, if_lt_ti, if_gt_ti, bP_e0, Classical.not_not, tl_i2l]; omega))) only [ti_ofInt, ti_addc, ti_subc, ti_mulc, ti_cmul, ti_divc, ti_remc, ti_zero, ti_add, ti_sub, ti_neg, if_lt_ti, if_gt_ti, bP_e0, Classical.not_not, tl_i2l] at c7
    exact ⟨bP_0 (by omega), rfl⟩
  · simp (disch := (first | omega | (simp (disch := omega) only [ti_ofInt, ti_addc, ti_subc, ti_mulc, ti_cmul, ti_divc, ti_remc, ti_zero, ti_add, ti_sub, ti_neg, if_lt_ti, if_gt_ti, bP_e0, Classical.not_not, tl_i2l]; omega))) only [ti_ofInt, ti_addc, ti_subc, ti_mulc, ti_cmul, ti_divc, ti_remc, ti_zero, ti_add, ti_sub, ti_neg, if_lt_ti, if_gt_ti, bP_e0, Classical.not_not, tl_i2l] at c7
    omega
  · simp (disch := (first | omega | (simp (disch := omega) only [ti_ofInt, ti_addc, ti_subc, ti_mulc, ti_cmul, ti_divc, ti_remc, ti_zero, ti_add, ti_sub, ti_neg, if_lt_ti, if_gt_ti, bP_e0, Classical.not_not, tl_i2l]; omega))) only [ti_ofInt, ti_addc, ti_subc, ti_mulc, ti_cmul, ti_divc, ti_remc, ti_zero, ti_add, ti_sub, ti_neg, if_lt_ti, if_gt_ti, bP_e0, Classical.not_not, tl_i2l] at c7
    exact ⟨bP_0 (by omega), rfl⟩
  · simp (disch := (first | omega | (simp (disch := omega) only [ti_ofInt, ti_addc, ti_subc, ti_mulc, ti_cmul, ti_divc, ti_remc, ti_zero, ti_add, ti_sub, ti_neg, if_lt_ti, if_gt_ti, bP_e0, Classical.not_not, tl_i2l]; omega))) only [ti_ofInt, ti_addc, ti_subc, ti_mulc, ti_cmul, ti_divc, ti_remc, ti_zero, ti_add, ti_sub, ti_neg, if_lt_ti, if_gt_ti, bP_e0, Classical.not_not, tl_i2l] at c7
    exact ⟨bP_1 (by omega), rfl⟩
theorem ok_X1_words_8 {μ : kMem} : kOk yX1_words cX1_words 1 (some .int) rmX1_words shK 68 [.ref 8] μ (kP (μ.1 8 5) μ) := by
  refine kOk.of rfl (Nat.le_of_ble_eq_true rfl) (fun J C => ?_)
  have C : kR cX1_words RX1 1 rmX1_words shK 68 (some .int) _ J := C
  refine (r_aload_n C dX1_words_0 rfl rfl (r_getI C dX1_words_1 fd_X1_28 nK_8 sK_8 rfl (r_iret C dX1_words_4 ?_)))
  exact ⟨rfl, rfl⟩
theorem ok_X1_letters_3 {μ : kMem} : kOk yX1_letters cX1_letters 1 (some .int) rmX1_letters shK 68 [.ref 3] μ (kP (μ.1 3 4) μ) := by
  refine kOk.of rfl (Nat.le_of_ble_eq_true rfl) (fun J C => ?_)
  have C : kR cX1_letters RX1 1 rmX1_letters shK 68 (some .int) _ J := C
  refine (r_aload_n C dX1_letters_0 rfl rfl (r_getI C dX1_letters_1 fd_X1_24 nK_3 sK_3 rfl (r_iret C dX1_letters_4 ?_)))
  exact ⟨rfl, rfl⟩
theorem ok_X1_hasRoomForWord_8 {μ : kMem} : kOk yX1_hasRoomForWord cX1_hasRoomForWord 1 (some .boolean) rmX1_hasRoomForWord shK 68 [.ref 8] μ (kP (bP ((μ.1 8 5).toInt < 20)) μ) := by
  refine kOk.of rfl (Nat.le_of_ble_eq_true rfl) (fun J C => ?_)
  have C : kR cX1_hasRoomForWord RX1 1 rmX1_hasRoomForWord shK 68 (some .boolean) _ J := C
  refine (r_aload_n C dX1_hasRoomForWord_0 rfl rfl (r_getI C dX1_hasRoomForWord_1 fd_X1_28 nK_8 sK_8 rfl (r_bipush C dX1_hasRoomForWord_4 (by decide +kernel) (r_icmp_ge C (tgt := 13) dX1_hasRoomForWord_6 rfl (fun c6 => (r_iconst C dX1_hasRoomForWord_13 (r_zret C dX1_hasRoomForWord_14 rfl ?_))) (fun c6 => (r_iconst C dX1_hasRoomForWord_9 (r_goto C (tgt := 14) dX1_hasRoomForWord_10 rfl (r_zret C dX1_hasRoomForWord_14 rfl ?_))))))))
  · simp (disch := (first | omega | (simp (disch := omega) only [ti_ofInt, ti_addc, ti_subc, ti_mulc, ti_cmul, ti_divc, ti_remc, ti_zero, ti_add, ti_sub, ti_neg, if_lt_ti, if_gt_ti, bP_e0, Classical.not_not, tl_i2l]; omega))) only [ti_ofInt, ti_addc, ti_subc, ti_mulc, ti_cmul, ti_divc, ti_remc, ti_zero, ti_add, ti_sub, ti_neg, if_lt_ti, if_gt_ti, bP_e0, Classical.not_not, tl_i2l] at c6
    exact ⟨bP_0 (by omega), rfl⟩
  · simp (disch := (first | omega | (simp (disch := omega) only [ti_ofInt, ti_addc, ti_subc, ti_mulc, ti_cmul, ti_divc, ti_remc, ti_zero, ti_add, ti_sub, ti_neg, if_lt_ti, if_gt_ti, bP_e0, Classical.not_not, tl_i2l]; omega))) only [ti_ofInt, ti_addc, ti_subc, ti_mulc, ti_cmul, ti_divc, ti_remc, ti_zero, ti_add, ti_sub, ti_neg, if_lt_ti, if_gt_ti, bP_e0, Classical.not_not, tl_i2l] at c6
    exact ⟨bP_1 (by omega), rfl⟩
def kEmp (μ : kMem) (i : Nat) (μ' : kMem) : Prop := ∀ a b : Nat, μ'.1 a b = if (a = 9 ∨ a = 10) ∧ b < i then Int32.ofInt 0 else μ.1 a b
theorem ok_X1_empty_8 {μ : kMem} : kOk yX1_empty cX1_empty 2 (none) rmX1_empty shK 68 [.ref 8] μ (kN fun μ' => ∀ a b : Nat, μ'.1 a b = if ((a = 9 ∨ a = 10) ∧ b < 26) ∨ (a = 8 ∧ (b = 4 ∨ b = 5)) then Int32.ofInt 0 else μ.1 a b) := by
  refine kOk.of rfl (Nat.le_of_ble_eq_true rfl) (fun J C => ?_)
  have C : kR cX1_empty RX1 2 rmX1_empty shK 68 (none) _ J := C
  have loop : ∀ (k i : Nat) (v : Int32) (μ' : kMem), i + k = 26 → v.toInt = i → kEmp μ i μ' → J 2 [some (.ref 8), some (.int v)] [] μ' := by
    intro k
    induction k using Nat.strongRecOn with
    | ind k ih =>
      intro i v μ' hk hv hI
      refine (r_iload_n C dX1_empty_2 rfl rfl (r_bipush C dX1_empty_3 (by decide +kernel) (r_icmp_ge C (tgt := 28) dX1_empty_5 rfl (fun c5 => (r_aload_n C dX1_empty_28 rfl rfl (r_iconst C dX1_empty_29 (r_putI C dX1_empty_30 fw_X1_24 nK_8 sK_8 rfl (r_aload_n C dX1_empty_33 rfl rfl (r_iconst C dX1_empty_34 (r_putI C dX1_empty_35 fw_X1_28 nK_8 sK_8 rfl (r_ret C dX1_empty_38 ?_)))))))) (fun c5 => (r_aload_n C dX1_empty_8 rfl rfl (r_getR C dX1_empty_9 fd_X1_9 nK_8 sK_8 rfl (r_iload_n C dX1_empty_12 rfl rfl (r_iconst C dX1_empty_13 (r_iast C dX1_empty_14 nK_9 sK_9 ?_ (r_aload_n C dX1_empty_15 rfl rfl (r_getR C dX1_empty_16 fd_X1_15 nK_8 sK_8 rfl (r_iload_n C dX1_empty_19 rfl rfl (r_iconst C dX1_empty_20 (r_iast C dX1_empty_21 nK_10 sK_10 ?_ (r_iinc C dX1_empty_22 rfl (by decide) (r_goto C (tgt := 2) dX1_empty_25 rfl ?_))))))))))))))))
      · simp (disch := (first | omega | (simp (disch := omega) only [ti_ofInt, ti_addc, ti_subc, ti_mulc, ti_cmul, ti_divc, ti_remc, ti_zero, ti_add, ti_sub, ti_neg, if_lt_ti, if_gt_ti, bP_e0, Classical.not_not, tl_i2l]; omega))) only [ti_ofInt, ti_addc, ti_subc, ti_mulc, ti_cmul, ti_divc, ti_remc, ti_zero, ti_add, ti_sub, ti_neg, if_lt_ti, if_gt_ti, bP_e0, Classical.not_not, tl_i2l] at c5
        intro a b
        simp only [up]
        rw [hI a b]
        rw [show i = 26 by omega]
        by_cases h1 : a = 8 ∧ (b = 4 ∨ b = 5)
        · rw [if_pos (Or.inr h1)]
          obtain ⟨rfl, rfl | rfl⟩ := h1 <;> simp
        · rw [if_neg (by omega), if_neg (by omega)]
          by_cases h2 : (a = 9 ∨ a = 10) ∧ b < 26
          · rw [if_pos h2, if_pos (Or.inl h2)]
          · rw [if_neg h2, if_neg (by omega)]
      · simp (disch := (first | omega | (simp (disch := omega) only [ti_ofInt, ti_addc, ti_subc, ti_mulc, ti_cmul, ti_divc, ti_remc, ti_zero, ti_add, ti_sub, ti_neg, if_lt_ti, if_gt_ti, bP_e0, Classical.not_not, tl_i2l]; omega))) only [ti_ofInt, ti_addc, ti_subc, ti_mulc, ti_cmul, ti_divc, ti_remc, ti_zero, ti_add, ti_sub, ti_neg, if_lt_ti, if_gt_ti, bP_e0, Classical.not_not, tl_i2l] at c5
        omega
      · simp (disch := (first | omega | (simp (disch := omega) only [ti_ofInt, ti_addc, ti_subc, ti_mulc, ti_cmul, ti_divc, ti_remc, ti_zero, ti_add, ti_sub, ti_neg, if_lt_ti, if_gt_ti, bP_e0, Classical.not_not, tl_i2l]; omega))) only [ti_ofInt, ti_addc, ti_subc, ti_mulc, ti_cmul, ti_divc, ti_remc, ti_zero, ti_add, ti_sub, ti_neg, if_lt_ti, if_gt_ti, bP_e0, Classical.not_not, tl_i2l] at c5
        omega
      · simp (disch := (first | omega | (simp (disch := omega) only [ti_ofInt, ti_addc, ti_subc, ti_mulc, ti_cmul, ti_divc, ti_remc, ti_zero, ti_add, ti_sub, ti_neg, if_lt_ti, if_gt_ti, bP_e0, Classical.not_not, tl_i2l]; omega))) only [ti_ofInt, ti_addc, ti_subc, ti_mulc, ti_cmul, ti_divc, ti_remc, ti_zero, ti_add, ti_sub, ti_neg, if_lt_ti, if_gt_ti, bP_e0, Classical.not_not, tl_i2l] at c5
        refine ih (k - 1) (by omega) (i + 1) _ _ (by omega) (by simp (disch := (first | omega | (simp (disch := omega) only [ti_ofInt, ti_addc, ti_subc, ti_mulc, ti_cmul, ti_divc, ti_remc, ti_zero, ti_add, ti_sub, ti_neg, if_lt_ti, if_gt_ti, bP_e0, Classical.not_not, tl_i2l]; omega))) only [ti_ofInt, ti_addc, ti_subc, ti_mulc, ti_cmul, ti_divc, ti_remc, ti_zero, ti_add, ti_sub, ti_neg, if_lt_ti, if_gt_ti, bP_e0, Classical.not_not, tl_i2l]; omega) ?_
        intro a b
        simp only [up]
        rw [hI a b]
        by_cases h2 : (a = 9 ∨ a = 10) ∧ b < i + 1
        · rw [if_pos h2]
          by_cases h3 : b < i
          · rw [if_neg (by omega), if_neg (by omega), if_pos (by omega)]
          · rcases h2.1 with h4 | h4
            · rw [if_neg (by omega), if_pos (by omega)]
            · rw [if_pos (by omega)]
        · rw [if_neg (by omega), if_neg (by omega), if_neg h2, if_neg (by omega)]
  refine (r_iconst C dX1_empty_0 (r_istore_n C dX1_empty_1 rfl (by decide) ?_))
  refine loop 26 0 _ _ rfl (by simp (disch := (first | omega | (simp (disch := omega) only [ti_ofInt, ti_addc, ti_subc, ti_mulc, ti_cmul, ti_divc, ti_remc, ti_zero, ti_add, ti_sub, ti_neg, if_lt_ti, if_gt_ti, bP_e0, Classical.not_not, tl_i2l]; omega))) only [ti_ofInt, ti_addc, ti_subc, ti_mulc, ti_cmul, ti_divc, ti_remc, ti_zero, ti_add, ti_sub, ti_neg, if_lt_ti, if_gt_ti, bP_e0, Classical.not_not, tl_i2l]; omega) ?_
  intro a b
  rw [if_neg (by omega)]
theorem ok_X1_hasMarks_8 {x : Int32} {μ : kMem} : kOk yX1_hasMarks cX1_hasMarks 3 (some .boolean) rmX1_hasMarks shK 68 [.ref 8, .int x] μ (kP (bP (∃ l : Nat, l < 26 ∧ 0 < (μ.1 10 l).toInt ∧ (μ.1 9 l).toInt = x.toInt)) μ) := by
  refine kOk.of rfl (Nat.le_of_ble_eq_true rfl) (fun J C => ?_)
  have C : kR cX1_hasMarks RX1 3 rmX1_hasMarks shK 68 (some .boolean) _ J := C
  have loop : ∀ (k i : Nat) (v : Int32), i + k = 26 → v.toInt = i → (∀ l, l < i → ¬ (0 < (μ.1 10 l).toInt ∧ (μ.1 9 l).toInt = x.toInt)) → J 2 [some (.ref 8), some (.int x), some (.int v)] [] μ := by
    intro k
    induction k using Nat.strongRecOn with
    | ind k ih =>
      intro i v hk hv hI
      refine (r_iload_n C dX1_hasMarks_2 rfl rfl (r_bipush C dX1_hasMarks_3 (by decide +kernel) (r_icmp_ge C (tgt := 35) dX1_hasMarks_5 rfl (fun c5 => (r_iconst C dX1_hasMarks_35 (r_zret C dX1_hasMarks_36 rfl ?_))) (fun c5 => (r_aload_n C dX1_hasMarks_8 rfl rfl (r_getR C dX1_hasMarks_9 fd_X1_15 nK_8 sK_8 rfl (r_iload_n C dX1_hasMarks_12 rfl rfl (r_iald C dX1_hasMarks_13 nK_10 sK_10 ?_ (r_if_le C (tgt := 29) dX1_hasMarks_14 rfl (fun c14 => (r_iinc C dX1_hasMarks_29 rfl (by decide) (r_goto C (tgt := 2) dX1_hasMarks_32 rfl ?_))) (fun c14 => (r_aload_n C dX1_hasMarks_17 rfl rfl (r_getR C dX1_hasMarks_18 fd_X1_9 nK_8 sK_8 rfl (r_iload_n C dX1_hasMarks_21 rfl rfl (r_iald C dX1_hasMarks_22 nK_9 sK_9 ?_ (r_iload_n C dX1_hasMarks_23 rfl rfl (r_icmp_ne C (tgt := 29) dX1_hasMarks_24 rfl (fun c24 => (r_iinc C dX1_hasMarks_29 rfl (by decide) (r_goto C (tgt := 2) dX1_hasMarks_32 rfl ?_))) (fun c24 => (r_iconst C dX1_hasMarks_27 (r_zret C dX1_hasMarks_28 rfl ?_)))))))))))))))))))
      · simp (disch := (first | omega | (simp (disch := omega) only [ti_ofInt, ti_addc, ti_subc, ti_mulc, ti_cmul, ti_divc, ti_remc, ti_zero, ti_add, ti_sub, ti_neg, if_lt_ti, if_gt_ti, bP_e0, Classical.not_not, tl_i2l]; omega))) only [ti_ofInt, ti_addc, ti_subc, ti_mulc, ti_cmul, ti_divc, ti_remc, ti_zero, ti_add, ti_sub, ti_neg, if_lt_ti, if_gt_ti, bP_e0, Classical.not_not, tl_i2l] at c5
        refine ⟨bP_0 ?_, rfl⟩
        rintro ⟨l, h1, h2⟩
        exact hI l (by omega) h2
      · simp (disch := (first | omega | (simp (disch := omega) only [ti_ofInt, ti_addc, ti_subc, ti_mulc, ti_cmul, ti_divc, ti_remc, ti_zero, ti_add, ti_sub, ti_neg, if_lt_ti, if_gt_ti, bP_e0, Classical.not_not, tl_i2l]; omega))) only [ti_ofInt, ti_addc, ti_subc, ti_mulc, ti_cmul, ti_divc, ti_remc, ti_zero, ti_add, ti_sub, ti_neg, if_lt_ti, if_gt_ti, bP_e0, Classical.not_not, tl_i2l] at c5
        omega
      · simp (disch := (first | omega | (simp (disch := omega) only [ti_ofInt, ti_addc, ti_subc, ti_mulc, ti_cmul, ti_divc, ti_remc, ti_zero, ti_add, ti_sub, ti_neg, if_lt_ti, if_gt_ti, bP_e0, Classical.not_not, tl_i2l]; omega))) only [ti_ofInt, ti_addc, ti_subc, ti_mulc, ti_cmul, ti_divc, ti_remc, ti_zero, ti_add, ti_sub, ti_neg, if_lt_ti, if_gt_ti, bP_e0, Classical.not_not, tl_i2l] at c5
        rw [hv] at c14
        refine ih (k - 1) (by omega) (i + 1) _ (by omega) (by simp (disch := (first | omega | (simp (disch := omega) only [ti_ofInt, ti_addc, ti_subc, ti_mulc, ti_cmul, ti_divc, ti_remc, ti_zero, ti_add, ti_sub, ti_neg, if_lt_ti, if_gt_ti, bP_e0, Classical.not_not, tl_i2l]; omega))) only [ti_ofInt, ti_addc, ti_subc, ti_mulc, ti_cmul, ti_divc, ti_remc, ti_zero, ti_add, ti_sub, ti_neg, if_lt_ti, if_gt_ti, bP_e0, Classical.not_not, tl_i2l]; omega) ?_
        intro l hl
        by_cases e : l = i
        · subst e; exact fun h => by have := h.1; simp only [Int.toNat_natCast] at c14; omega
        · exact hI l (by omega)
      · simp (disch := (first | omega | (simp (disch := omega) only [ti_ofInt, ti_addc, ti_subc, ti_mulc, ti_cmul, ti_divc, ti_remc, ti_zero, ti_add, ti_sub, ti_neg, if_lt_ti, if_gt_ti, bP_e0, Classical.not_not, tl_i2l]; omega))) only [ti_ofInt, ti_addc, ti_subc, ti_mulc, ti_cmul, ti_divc, ti_remc, ti_zero, ti_add, ti_sub, ti_neg, if_lt_ti, if_gt_ti, bP_e0, Classical.not_not, tl_i2l] at c5
        omega
      · simp (disch := (first | omega | (simp (disch := omega) only [ti_ofInt, ti_addc, ti_subc, ti_mulc, ti_cmul, ti_divc, ti_remc, ti_zero, ti_add, ti_sub, ti_neg, if_lt_ti, if_gt_ti, bP_e0, Classical.not_not, tl_i2l]; omega))) only [ti_ofInt, ti_addc, ti_subc, ti_mulc, ti_cmul, ti_divc, ti_remc, ti_zero, ti_add, ti_sub, ti_neg, if_lt_ti, if_gt_ti, bP_e0, Classical.not_not, tl_i2l] at c5
        rw [hv] at c24
        refine ih (k - 1) (by omega) (i + 1) _ (by omega) (by simp (disch := (first | omega | (simp (disch := omega) only [ti_ofInt, ti_addc, ti_subc, ti_mulc, ti_cmul, ti_divc, ti_remc, ti_zero, ti_add, ti_sub, ti_neg, if_lt_ti, if_gt_ti, bP_e0, Classical.not_not, tl_i2l]; omega))) only [ti_ofInt, ti_addc, ti_subc, ti_mulc, ti_cmul, ti_divc, ti_remc, ti_zero, ti_add, ti_sub, ti_neg, if_lt_ti, if_gt_ti, bP_e0, Classical.not_not, tl_i2l]; omega) ?_
        intro l hl
        by_cases e : l = i
        · subst e; exact fun h => by simp only [Int.toNat_natCast] at c24; exact c24 h.2
        · exact hI l (by omega)
      · simp (disch := (first | omega | (simp (disch := omega) only [ti_ofInt, ti_addc, ti_subc, ti_mulc, ti_cmul, ti_divc, ti_remc, ti_zero, ti_add, ti_sub, ti_neg, if_lt_ti, if_gt_ti, bP_e0, Classical.not_not, tl_i2l]; omega))) only [ti_ofInt, ti_addc, ti_subc, ti_mulc, ti_cmul, ti_divc, ti_remc, ti_zero, ti_add, ti_sub, ti_neg, if_lt_ti, if_gt_ti, bP_e0, Classical.not_not, tl_i2l] at c5
        rw [hv] at c14 c24
        simp only [Int.toNat_natCast] at c14 c24
        exact ⟨bP_1 ⟨i, by omega, c14, c24⟩, rfl⟩
  refine (r_iconst C dX1_hasMarks_0 (r_istore_n C dX1_hasMarks_1 rfl (by decide) ?_))
  exact loop 26 0 _ rfl (by simp (disch := (first | omega | (simp (disch := omega) only [ti_ofInt, ti_addc, ti_subc, ti_mulc, ti_cmul, ti_divc, ti_remc, ti_zero, ti_add, ti_sub, ti_neg, if_lt_ti, if_gt_ti, bP_e0, Classical.not_not, tl_i2l]; omega))) only [ti_ofInt, ti_addc, ti_subc, ti_mulc, ti_cmul, ti_divc, ti_remc, ti_zero, ti_add, ti_sub, ti_neg, if_lt_ti, if_gt_ti, bP_e0, Classical.not_not, tl_i2l]; omega) (fun l h => absurd h (Nat.not_lt_zero _))
theorem ok_X1_hasGroup_8 {x : Int32} {μ : kMem} (h : 0 ≤ (μ.1 8 5).toInt ∧ (μ.1 8 5).toInt ≤ 20) : kOk yX1_hasGroup cX1_hasGroup 3 (some .boolean) rmX1_hasGroup shK 68 [.ref 8, .int x] μ (kP (bP (∃ l : Nat, (l : Int) < (μ.1 8 5).toInt ∧ (μ.1 12 l).toInt = x.toInt)) μ) := by
  refine kOk.of rfl (Nat.le_of_ble_eq_true rfl) (fun J C => ?_)
  have C : kR cX1_hasGroup RX1 3 rmX1_hasGroup shK 68 (some .boolean) _ J := C
  have loop : ∀ (k i : Nat) (v : Int32), i + k = 20 → v.toInt = i → (∀ l, l < i → ¬ ((l : Int) < (μ.1 8 5).toInt ∧ (μ.1 12 l).toInt = x.toInt)) → J 2 [some (.ref 8), some (.int x), some (.int v)] [] μ := by
    intro k
    induction k using Nat.strongRecOn with
    | ind k ih =>
      intro i v hk hv hI
      refine (r_iload_n C dX1_hasGroup_2 rfl rfl (r_aload_n C dX1_hasGroup_3 rfl rfl (r_getI C dX1_hasGroup_4 fd_X1_28 nK_8 sK_8 rfl (r_icmp_ge C (tgt := 28) dX1_hasGroup_7 rfl (fun c7 => (r_iconst C dX1_hasGroup_28 (r_zret C dX1_hasGroup_29 rfl ?_))) (fun c7 => (r_aload_n C dX1_hasGroup_10 rfl rfl (r_getR C dX1_hasGroup_11 fd_X1_21 nK_8 sK_8 rfl (r_iload_n C dX1_hasGroup_14 rfl rfl (r_iald C dX1_hasGroup_15 nK_12 sK_12 ?_ (r_iload_n C dX1_hasGroup_16 rfl rfl (r_icmp_ne C (tgt := 22) dX1_hasGroup_17 rfl (fun c17 => (r_iinc C dX1_hasGroup_22 rfl (by decide) (r_goto C (tgt := 2) dX1_hasGroup_25 rfl ?_))) (fun c17 => (r_iconst C dX1_hasGroup_20 (r_zret C dX1_hasGroup_21 rfl ?_))))))))))))))
      · refine ⟨bP_0 ?_, rfl⟩
        rintro ⟨l, h1, h2⟩
        exact hI l (by omega) ⟨h1, h2⟩
      · omega
      · rw [hv] at c17
        refine ih (k - 1) (by omega) (i + 1) _ (by omega) (by simp (disch := (first | omega | (simp (disch := omega) only [ti_ofInt, ti_addc, ti_subc, ti_mulc, ti_cmul, ti_divc, ti_remc, ti_zero, ti_add, ti_sub, ti_neg, if_lt_ti, if_gt_ti, bP_e0, Classical.not_not, tl_i2l]; omega))) only [ti_ofInt, ti_addc, ti_subc, ti_mulc, ti_cmul, ti_divc, ti_remc, ti_zero, ti_add, ti_sub, ti_neg, if_lt_ti, if_gt_ti, bP_e0, Classical.not_not, tl_i2l]; omega) ?_
        intro l hl
        by_cases e : l = i
        · subst e; exact fun h => by simp only [Int.toNat_natCast] at c17; exact c17 h.2
        · exact hI l (by omega)
      · rw [hv] at c17
        simp only [Int.toNat_natCast] at c17
        exact ⟨bP_1 ⟨i, by omega, c17⟩, rfl⟩
  refine (r_iconst C dX1_hasGroup_0 (r_istore_n C dX1_hasGroup_1 rfl (by decide) ?_))
  exact loop 20 0 _ rfl (by simp (disch := (first | omega | (simp (disch := omega) only [ti_ofInt, ti_addc, ti_subc, ti_mulc, ti_cmul, ti_divc, ti_remc, ti_zero, ti_add, ti_sub, ti_neg, if_lt_ti, if_gt_ti, bP_e0, Classical.not_not, tl_i2l]; omega))) only [ti_ofInt, ti_addc, ti_subc, ti_mulc, ti_cmul, ti_divc, ti_remc, ti_zero, ti_add, ti_sub, ti_neg, if_lt_ti, if_gt_ti, bP_e0, Classical.not_not, tl_i2l]; omega) (fun l h => absurd h (Nat.not_lt_zero _))
theorem ok_X1_addGroup_8 {x : Int32} {μ : kMem} (h : 0 ≤ (μ.1 8 5).toInt ∧ (μ.1 8 5).toInt < 20) : kOk yX1_addGroup cX1_addGroup 2 (none) rmX1_addGroup shK 68 [.ref 8, .int x] μ (kN fun μ' => μ' = up (up μ 12 (μ.1 8 5).toInt.toNat x) 8 5 (Int32.ofInt ((μ.1 8 5).toInt + 1))) := by
  have e1 : μ.1 8 5 + Int32.ofInt 1 = Int32.ofInt ((μ.1 8 5).toInt + 1) := ti_ext (by simp (disch := (first | omega | (simp (disch := omega) only [ti_ofInt, ti_addc, ti_subc, ti_mulc, ti_cmul, ti_divc, ti_remc, ti_zero, ti_add, ti_sub, ti_neg, if_lt_ti, if_gt_ti, bP_e0, Classical.not_not, tl_i2l]; omega))) only [ti_ofInt, ti_addc, ti_subc, ti_mulc, ti_cmul, ti_divc, ti_remc, ti_zero, ti_add, ti_sub, ti_neg, if_lt_ti, if_gt_ti, bP_e0, Classical.not_not, tl_i2l])
  refine kOk.of rfl (Nat.le_of_ble_eq_true rfl) (fun J C => ?_)
  have C : kR cX1_addGroup RX1 2 rmX1_addGroup shK 68 (none) _ J := C
  refine (r_aload_n C dX1_addGroup_0 rfl rfl (r_getI C dX1_addGroup_1 fd_X1_28 nK_8 sK_8 rfl (r_bipush C dX1_addGroup_4 (by decide +kernel) (r_icmp_ge C (tgt := 29) dX1_addGroup_6 rfl (fun c6 => (r_ret C dX1_addGroup_29 ?_)) (fun c6 => (r_aload_n C dX1_addGroup_9 rfl rfl (r_getR C dX1_addGroup_10 fd_X1_21 nK_8 sK_8 rfl (r_aload_n C dX1_addGroup_13 rfl rfl (r_getI C dX1_addGroup_14 fd_X1_28 nK_8 sK_8 rfl (r_iload_n C dX1_addGroup_17 rfl rfl (r_iast C dX1_addGroup_18 nK_12 sK_12 ?_ (r_aload_n C dX1_addGroup_19 rfl rfl (r_dup C dX1_addGroup_20 rfl (r_getI C dX1_addGroup_21 fd_X1_28 nK_8 sK_8 rfl (r_iconst C dX1_addGroup_24 (r_iadd C dX1_addGroup_25 (r_putI C dX1_addGroup_26 fw_X1_28 nK_8 sK_8 rfl (r_ret C dX1_addGroup_29 ?_))))))))))))))))))
  · simp (disch := (first | omega | (simp (disch := omega) only [ti_ofInt, ti_addc, ti_subc, ti_mulc, ti_cmul, ti_divc, ti_remc, ti_zero, ti_add, ti_sub, ti_neg, if_lt_ti, if_gt_ti, bP_e0, Classical.not_not, tl_i2l]; omega))) only [ti_ofInt, ti_addc, ti_subc, ti_mulc, ti_cmul, ti_divc, ti_remc, ti_zero, ti_add, ti_sub, ti_neg, if_lt_ti, if_gt_ti, bP_e0, Classical.not_not, tl_i2l] at c6
    omega
  · omega
  · rw [← e1]; rfl
theorem ok_X1_marksOf_3 {x : Int32} {μ : kMem} : kOk yX1_marksOf cX1_marksOf 2 (some .int) rmX1_marksOf shK 68 [.ref 3, .int x] μ (kI fun r μ' => μ' = μ ∧ ((0 ≤ x.toInt ∧ x.toInt < 26 ∧ 0 < (μ.1 5 x.toInt.toNat).toInt ∧ r = μ.1 4 x.toInt.toNat) ∨ (¬ (0 ≤ x.toInt ∧ x.toInt < 26 ∧ 0 < (μ.1 5 x.toInt.toNat).toInt) ∧ r = Int32.ofInt (-1)))) := by
  refine kOk.of rfl (Nat.le_of_ble_eq_true rfl) (fun J C => ?_)
  have C : kR cX1_marksOf RX1 2 rmX1_marksOf shK 68 (some .int) _ J := C
  refine (r_aload_n C dX1_marksOf_0 rfl rfl (r_iload_n C dX1_marksOf_1 rfl rfl (r_v1P C yv_X1_hasLetter lk_X1_31 dX1_marksOf_2 rfl nK_3 sK_3 rfl (Nat.le_of_ble_eq_true rfl) ok_X1_hasLetter_3 (r_if_eq C (tgt := 17) dX1_marksOf_5 rfl (fun c5 => (r_iconst C dX1_marksOf_17 (r_iret C dX1_marksOf_18 ?_))) (fun c5 => (r_aload_n C dX1_marksOf_8 rfl rfl (r_getR C dX1_marksOf_9 fd_X1_9 nK_3 sK_3 rfl (r_iload_n C dX1_marksOf_12 rfl rfl (r_iald C dX1_marksOf_13 nK_4 sK_4 ?_ (r_goto C (tgt := 18) dX1_marksOf_14 rfl (r_iret C dX1_marksOf_18 ?_)))))))))))
  · exact ⟨rfl, Or.inr ⟨bP_e0.mp c5, rfl⟩⟩
  · have := bP_ne c5
    omega
  · have h := bP_ne c5
    exact ⟨rfl, Or.inl ⟨h.1, h.2.1, h.2.2, rfl⟩⟩
def ksz (μ : kMem) (x : Int) : Int32 := if 0 ≤ x ∧ x < 26 then μ.1 5 x.toNat else Int32.ofInt 0
theorem ok_X1_sizeOf_3 {x : Int32} {μ : kMem} : kOk yX1_sizeOf cX1_sizeOf 2 (some .int) rmX1_sizeOf shK 68 [.ref 3, .int x] μ (kP (ksz μ x.toInt) μ) := by
  unfold ksz
  refine kOk.of rfl (Nat.le_of_ble_eq_true rfl) (fun J C => ?_)
  have C : kR cX1_sizeOf RX1 2 rmX1_sizeOf shK 68 (some .int) _ J := C
  refine (r_iload_n C dX1_sizeOf_0 rfl rfl (r_if_lt C (tgt := 19) dX1_sizeOf_1 rfl (fun c1 => (r_iconst C dX1_sizeOf_19 (r_iret C dX1_sizeOf_20 ?_))) (fun c1 => (r_iload_n C dX1_sizeOf_4 rfl rfl (r_bipush C dX1_sizeOf_5 (by decide +kernel) (r_icmp_ge C (tgt := 19) dX1_sizeOf_7 rfl (fun c7 => (r_iconst C dX1_sizeOf_19 (r_iret C dX1_sizeOf_20 ?_))) (fun c7 => (r_aload_n C dX1_sizeOf_10 rfl rfl (r_getR C dX1_sizeOf_11 fd_X1_15 nK_3 sK_3 rfl (r_iload_n C dX1_sizeOf_14 rfl rfl (r_iald C dX1_sizeOf_15 nK_5 sK_5 ?_ (r_goto C (tgt := 20) dX1_sizeOf_16 rfl (r_iret C dX1_sizeOf_20 ?_)))))))))))))
  · exact ⟨(if_neg (by omega)).symm, rfl⟩
  · simp (disch := (first | omega | (simp (disch := omega) only [ti_ofInt, ti_addc, ti_subc, ti_mulc, ti_cmul, ti_divc, ti_remc, ti_zero, ti_add, ti_sub, ti_neg, if_lt_ti, if_gt_ti, bP_e0, Classical.not_not, tl_i2l]; omega))) only [ti_ofInt, ti_addc, ti_subc, ti_mulc, ti_cmul, ti_divc, ti_remc, ti_zero, ti_add, ti_sub, ti_neg, if_lt_ti, if_gt_ti, bP_e0, Classical.not_not, tl_i2l] at c7
    exact ⟨(if_neg (by omega)).symm, rfl⟩
  · simp (disch := (first | omega | (simp (disch := omega) only [ti_ofInt, ti_addc, ti_subc, ti_mulc, ti_cmul, ti_divc, ti_remc, ti_zero, ti_add, ti_sub, ti_neg, if_lt_ti, if_gt_ti, bP_e0, Classical.not_not, tl_i2l]; omega))) only [ti_ofInt, ti_addc, ti_subc, ti_mulc, ti_cmul, ti_divc, ti_remc, ti_zero, ti_add, ti_sub, ti_neg, if_lt_ti, if_gt_ti, bP_e0, Classical.not_not, tl_i2l] at c7
    omega
  · simp (disch := (first | omega | (simp (disch := omega) only [ti_ofInt, ti_addc, ti_subc, ti_mulc, ti_cmul, ti_divc, ti_remc, ti_zero, ti_add, ti_sub, ti_neg, if_lt_ti, if_gt_ti, bP_e0, Classical.not_not, tl_i2l]; omega))) only [ti_ofInt, ti_addc, ti_subc, ti_mulc, ti_cmul, ti_divc, ti_remc, ti_zero, ti_add, ti_sub, ti_neg, if_lt_ti, if_gt_ti, bP_e0, Classical.not_not, tl_i2l] at c7
    exact ⟨(if_pos (by omega)).symm, rfl⟩
/-- the sizes are 5 at most -/
def kSzOk (μ : kMem) : Prop := ∀ l : Nat, 0 ≤ (μ.1 5 l).toInt ∧ (μ.1 5 l).toInt ≤ 5
theorem ksz_b {μ : kMem} (h : kSzOk μ) (x : Int) : 0 ≤ (ksz μ x).toInt ∧ (ksz μ x).toInt ≤ 5 ∧ (0 < (ksz μ x).toInt → 0 ≤ x ∧ x < 26) := by
  unfold ksz
  by_cases h1 : 0 ≤ x ∧ x < 26
  · rw [if_pos h1]
    have := h x.toNat
    omega
  · rw [if_neg h1, ti_ofInt (by omega)]
    omega
def kkd (μ : kMem) (x p : Int) : Int32 := if 0 ≤ p ∧ p < (ksz μ x).toInt then μ.1 6 (x * 5 + (ksz μ x).toInt - 1 - p).toNat else Int32.ofInt (-1)
theorem ok_X1_kindOf_3 {x p : Int32} {μ : kMem} (h : kSzOk μ) : kOk yX1_kindOf cX1_kindOf 4 (some .int) rmX1_kindOf shK 68 [.ref 3, .int x, .int p] μ (kP (kkd μ x.toInt p.toInt) μ) := by
  have hb := ksz_b h x.toInt
  unfold kkd
  refine kOk.of rfl (Nat.le_of_ble_eq_true rfl) (fun J C => ?_)
  have C : kR cX1_kindOf RX1 4 rmX1_kindOf shK 68 (some .int) _ J := C
  refine (r_aload_n C dX1_kindOf_0 rfl rfl (r_iload_n C dX1_kindOf_1 rfl rfl (r_v1P C yv_X1_sizeOf lk_X1_35 dX1_kindOf_2 rfl nK_3 sK_3 rfl (Nat.le_of_ble_eq_true rfl) ok_X1_sizeOf_3 (r_istore_n C dX1_kindOf_5 rfl (by decide) (r_iload_n C dX1_kindOf_6 rfl rfl (r_if_lt C (tgt := 32) dX1_kindOf_7 rfl (fun c7 => (r_iconst C dX1_kindOf_32 (r_iret C dX1_kindOf_33 ?_))) (fun c7 => (r_iload_n C dX1_kindOf_10 rfl rfl (r_iload_n C dX1_kindOf_11 rfl rfl (r_icmp_ge C (tgt := 32) dX1_kindOf_12 rfl (fun c12 => (r_iconst C dX1_kindOf_32 (r_iret C dX1_kindOf_33 ?_))) (fun c12 => (r_aload_n C dX1_kindOf_15 rfl rfl (r_getR C dX1_kindOf_16 fd_X1_18 nK_3 sK_3 rfl (r_iload_n C dX1_kindOf_19 rfl rfl (r_iconst C dX1_kindOf_20 (r_imul C dX1_kindOf_21 (r_iload_n C dX1_kindOf_22 rfl rfl (r_iadd C dX1_kindOf_23 (r_iconst C dX1_kindOf_24 (r_isub C dX1_kindOf_25 (r_iload_n C dX1_kindOf_26 rfl rfl (r_isub C dX1_kindOf_27 (r_iald C dX1_kindOf_28 nK_6 sK_6 ?_ (r_goto C (tgt := 33) dX1_kindOf_29 rfl (r_iret C dX1_kindOf_33 ?_)))))))))))))))))))))))))
  · exact ⟨(if_neg (by omega)).symm, rfl⟩
  · exact ⟨(if_neg (by omega)).symm, rfl⟩
  · simp (disch := (first | omega | (simp (disch := (first | omega | (simp (disch := (first | omega | (simp (disch := omega) only [ti_ofInt, ti_addc, ti_subc, ti_mulc, ti_cmul, ti_divc, ti_remc, ti_zero, ti_add, ti_sub, ti_neg, if_lt_ti, if_gt_ti, bP_e0, Classical.not_not, tl_i2l]; omega))) only [ti_ofInt, ti_addc, ti_subc, ti_mulc, ti_cmul, ti_divc, ti_remc, ti_zero, ti_add, ti_sub, ti_neg, if_lt_ti, if_gt_ti, bP_e0, Classical.not_not, tl_i2l]; omega))) only [ti_ofInt, ti_addc, ti_subc, ti_mulc, ti_cmul, ti_divc, ti_remc, ti_zero, ti_add, ti_sub, ti_neg, if_lt_ti, if_gt_ti, bP_e0, Classical.not_not, tl_i2l]; omega))) only [ti_ofInt, ti_addc, ti_subc, ti_mulc, ti_cmul, ti_divc, ti_remc, ti_zero, ti_add, ti_sub, ti_neg, if_lt_ti, if_gt_ti, bP_e0, Classical.not_not, tl_i2l]
    omega
  · have e : (x * Int32.ofInt 5 + ksz μ x.toInt - Int32.ofInt 1 - p).toInt = x.toInt * 5 + (ksz μ x.toInt).toInt - 1 - p.toInt := by simp (disch := (first | omega | (simp (disch := (first | omega | (simp (disch := (first | omega | (simp (disch := omega) only [ti_ofInt, ti_addc, ti_subc, ti_mulc, ti_cmul, ti_divc, ti_remc, ti_zero, ti_add, ti_sub, ti_neg, if_lt_ti, if_gt_ti, bP_e0, Classical.not_not, tl_i2l]; omega))) only [ti_ofInt, ti_addc, ti_subc, ti_mulc, ti_cmul, ti_divc, ti_remc, ti_zero, ti_add, ti_sub, ti_neg, if_lt_ti, if_gt_ti, bP_e0, Classical.not_not, tl_i2l]; omega))) only [ti_ofInt, ti_addc, ti_subc, ti_mulc, ti_cmul, ti_divc, ti_remc, ti_zero, ti_add, ti_sub, ti_neg, if_lt_ti, if_gt_ti, bP_e0, Classical.not_not, tl_i2l]; omega))) only [ti_ofInt, ti_addc, ti_subc, ti_mulc, ti_cmul, ti_divc, ti_remc, ti_zero, ti_add, ti_sub, ti_neg, if_lt_ti, if_gt_ti, bP_e0, Classical.not_not, tl_i2l]
    rw [e]
    exact ⟨(if_pos (by omega)).symm, rfl⟩
def kgr (μ : kMem) (x : Int) : Int32 := if 0 ≤ x ∧ x < (μ.1 3 5).toInt then μ.1 7 x.toNat else Int32.ofInt (-1)
theorem ok_X1_groupOf_3 {x : Int32} {μ : kMem} (h : (μ.1 3 5).toInt ≤ 20) : kOk yX1_groupOf cX1_groupOf 2 (some .int) rmX1_groupOf shK 68 [.ref 3, .int x] μ (kP (kgr μ x.toInt) μ) := by
  unfold kgr
  refine kOk.of rfl (Nat.le_of_ble_eq_true rfl) (fun J C => ?_)
  have C : kR cX1_groupOf RX1 2 rmX1_groupOf shK 68 (some .int) _ J := C
  refine (r_iload_n C dX1_groupOf_0 rfl rfl (r_if_lt C (tgt := 21) dX1_groupOf_1 rfl (fun c1 => (r_iconst C dX1_groupOf_21 (r_iret C dX1_groupOf_22 ?_))) (fun c1 => (r_iload_n C dX1_groupOf_4 rfl rfl (r_aload_n C dX1_groupOf_5 rfl rfl (r_getI C dX1_groupOf_6 fd_X1_28 nK_3 sK_3 rfl (r_icmp_ge C (tgt := 21) dX1_groupOf_9 rfl (fun c9 => (r_iconst C dX1_groupOf_21 (r_iret C dX1_groupOf_22 ?_))) (fun c9 => (r_aload_n C dX1_groupOf_12 rfl rfl (r_getR C dX1_groupOf_13 fd_X1_21 nK_3 sK_3 rfl (r_iload_n C dX1_groupOf_16 rfl rfl (r_iald C dX1_groupOf_17 nK_7 sK_7 ?_ (r_goto C (tgt := 22) dX1_groupOf_18 rfl (r_iret C dX1_groupOf_22 ?_))))))))))))))
  · exact ⟨(if_neg (by omega)).symm, rfl⟩
  · exact ⟨(if_neg (by omega)).symm, rfl⟩
  · omega
  · exact ⟨(if_pos (by omega)).symm, rfl⟩
/-- how many of the last digits to 26 are unlike -/
def unF : Nat → Int → Int → Int
  | 0, _, _ => 0
  | k + 1, a, b => (if a % 26 = b % 26 then 0 else 1) + unF k (a / 26) (b / 26)
theorem unF_b : ∀ (k : Nat) (a b : Int), 0 ≤ unF k a b ∧ unF k a b ≤ k := by
  intro k
  induction k with
  | zero => intro a b; exact ⟨Int.le_refl _, Int.le_refl _⟩
  | succ k ih =>
    intro a b
    have := ih (a / 26) (b / 26)
    unfold unF
    split <;> omega
theorem ok_X1_unlikeLetters {x y : Int32} {μ : kMem} (h : 0 ≤ x.toInt ∧ 0 ≤ y.toInt) : kOk yX1_unlikeLetters cX1_unlikeLetters 6 (some .int) rmX1_unlikeLetters shK 68 [.int x, .int y] μ (kP (Int32.ofInt (unF 3 x.toInt y.toInt)) μ) := by
  have hb := unF_b 3 x.toInt y.toInt
  obtain ⟨T, hT⟩ : ∃ T, T = unF 3 x.toInt y.toInt := ⟨_, rfl⟩
  rw [← hT] at hb ⊢
  refine kOk.of rfl (Nat.le_of_ble_eq_true rfl) (fun J C => ?_)
  have C : kR cX1_unlikeLetters RX1 6 rmX1_unlikeLetters shK 68 (some .int) _ J := C
  have loop : ∀ (k i : Nat) (v u a b : Int32), i + k = 3 → v.toInt = i → 0 ≤ a.toInt → 0 ≤ b.toInt → u.toInt + unF k a.toInt b.toInt = T → 0 ≤ u.toInt → J 10 [some (.int x), some (.int y), some (.int u), some (.int a), some (.int b), some (.int v)] [] μ := by
    intro k
    induction k using Nat.strongRecOn with
    | ind k ih =>
      intro i v u a b hk hv ha hb2 hu hu0
      have ea : (a / Int32.ofInt 26).toInt = a.toInt / 26 := by simp (disch := (first | omega | (simp (disch := omega) only [ti_ofInt, ti_addc, ti_subc, ti_mulc, ti_cmul, ti_divc, ti_remc, ti_zero, ti_add, ti_sub, ti_neg, if_lt_ti, if_gt_ti, bP_e0, Classical.not_not, tl_i2l]; omega))) only [ti_ofInt, ti_addc, ti_subc, ti_mulc, ti_cmul, ti_divc, ti_remc, ti_zero, ti_add, ti_sub, ti_neg, if_lt_ti, if_gt_ti, bP_e0, Classical.not_not, tl_i2l]
      have eb : (b / Int32.ofInt 26).toInt = b.toInt / 26 := by simp (disch := (first | omega | (simp (disch := omega) only [ti_ofInt, ti_addc, ti_subc, ti_mulc, ti_cmul, ti_divc, ti_remc, ti_zero, ti_add, ti_sub, ti_neg, if_lt_ti, if_gt_ti, bP_e0, Classical.not_not, tl_i2l]; omega))) only [ti_ofInt, ti_addc, ti_subc, ti_mulc, ti_cmul, ti_divc, ti_remc, ti_zero, ti_add, ti_sub, ti_neg, if_lt_ti, if_gt_ti, bP_e0, Classical.not_not, tl_i2l]
      have h1 := Int.ediv_nonneg ha (show (0 : Int) ≤ 26 by decide)
      have h2 := Int.ediv_nonneg hb2 (show (0 : Int) ≤ 26 by decide)
      refine (r_iload C dX1_unlikeLetters_10 rfl (r_iconst C dX1_unlikeLetters_12 (r_icmp_ge C (tgt := 49) dX1_unlikeLetters_13 rfl (fun c13 => (r_iload_n C dX1_unlikeLetters_49 rfl rfl (r_iret C dX1_unlikeLetters_50 ?_))) (fun c13 => (r_iload_n C dX1_unlikeLetters_16 rfl rfl (r_bipush C dX1_unlikeLetters_17 (by decide +kernel) (r_irem C dX1_unlikeLetters_19 (by decide) (r_iload C dX1_unlikeLetters_20 rfl (r_bipush C dX1_unlikeLetters_22 (by decide +kernel) (r_irem C dX1_unlikeLetters_24 (by decide) (r_icmp_eq C (tgt := 31) dX1_unlikeLetters_25 rfl (fun c25 => (r_iload_n C dX1_unlikeLetters_31 rfl rfl (r_bipush C dX1_unlikeLetters_32 (by decide +kernel) (r_idiv C dX1_unlikeLetters_34 (by decide) (r_istore_n C dX1_unlikeLetters_35 rfl (by decide) (r_iload C dX1_unlikeLetters_36 rfl (r_bipush C dX1_unlikeLetters_38 (by decide +kernel) (r_idiv C dX1_unlikeLetters_40 (by decide) (r_istore C dX1_unlikeLetters_41 (by decide) (r_iinc C dX1_unlikeLetters_43 rfl (by decide) (r_goto C (tgt := 10) dX1_unlikeLetters_46 rfl ?_))))))))))) (fun c25 => (r_iinc C dX1_unlikeLetters_28 rfl (by decide) (r_iload_n C dX1_unlikeLetters_31 rfl rfl (r_bipush C dX1_unlikeLetters_32 (by decide +kernel) (r_idiv C dX1_unlikeLetters_34 (by decide) (r_istore_n C dX1_unlikeLetters_35 rfl (by decide) (r_iload C dX1_unlikeLetters_36 rfl (r_bipush C dX1_unlikeLetters_38 (by decide +kernel) (r_idiv C dX1_unlikeLetters_40 (by decide) (r_istore C dX1_unlikeLetters_41 (by decide) (r_iinc C dX1_unlikeLetters_43 rfl (by decide) (r_goto C (tgt := 10) dX1_unlikeLetters_46 rfl ?_)))))))))))))))))))))))
      · simp (disch := (first | omega | (simp (disch := omega) only [ti_ofInt, ti_addc, ti_subc, ti_mulc, ti_cmul, ti_divc, ti_remc, ti_zero, ti_add, ti_sub, ti_neg, if_lt_ti, if_gt_ti, bP_e0, Classical.not_not, tl_i2l]; omega))) only [ti_ofInt, ti_addc, ti_subc, ti_mulc, ti_cmul, ti_divc, ti_remc, ti_zero, ti_add, ti_sub, ti_neg, if_lt_ti, if_gt_ti, bP_e0, Classical.not_not, tl_i2l] at c13
        refine ⟨ti_ext ?_, rfl⟩
        rw [ti_ofInt (by omega), ← hu, show k = 0 by omega]
        simp [unF]
      · simp (disch := (first | omega | (simp (disch := omega) only [ti_ofInt, ti_addc, ti_subc, ti_mulc, ti_cmul, ti_divc, ti_remc, ti_zero, ti_add, ti_sub, ti_neg, if_lt_ti, if_gt_ti, bP_e0, Classical.not_not, tl_i2l]; omega))) only [ti_ofInt, ti_addc, ti_subc, ti_mulc, ti_cmul, ti_divc, ti_remc, ti_zero, ti_add, ti_sub, ti_neg, if_lt_ti, if_gt_ti, bP_e0, Classical.not_not, tl_i2l] at c13 c25
        obtain ⟨m, rfl⟩ : ∃ m, k = m + 1 := ⟨k - 1, by omega⟩
        simp only [unF, if_pos c25] at hu
        exact ih m (by omega) (i + 1) _ _ _ _ (by omega) (by simp (disch := (first | omega | (simp (disch := omega) only [ti_ofInt, ti_addc, ti_subc, ti_mulc, ti_cmul, ti_divc, ti_remc, ti_zero, ti_add, ti_sub, ti_neg, if_lt_ti, if_gt_ti, bP_e0, Classical.not_not, tl_i2l]; omega))) only [ti_ofInt, ti_addc, ti_subc, ti_mulc, ti_cmul, ti_divc, ti_remc, ti_zero, ti_add, ti_sub, ti_neg, if_lt_ti, if_gt_ti, bP_e0, Classical.not_not, tl_i2l]; omega) (by rw [ea]; exact h1) (by rw [eb]; exact h2) (by rw [ea, eb]; omega) hu0
      · simp (disch := (first | omega | (simp (disch := omega) only [ti_ofInt, ti_addc, ti_subc, ti_mulc, ti_cmul, ti_divc, ti_remc, ti_zero, ti_add, ti_sub, ti_neg, if_lt_ti, if_gt_ti, bP_e0, Classical.not_not, tl_i2l]; omega))) only [ti_ofInt, ti_addc, ti_subc, ti_mulc, ti_cmul, ti_divc, ti_remc, ti_zero, ti_add, ti_sub, ti_neg, if_lt_ti, if_gt_ti, bP_e0, Classical.not_not, tl_i2l] at c13 c25
        obtain ⟨m, rfl⟩ : ∃ m, k = m + 1 := ⟨k - 1, by omega⟩
        simp only [unF, if_neg c25] at hu
        have hm := unF_b m (a.toInt / 26) (b.toInt / 26)
        have eu : (u + Int32.ofInt 1).toInt = u.toInt + 1 := by simp (disch := (first | omega | (simp (disch := omega) only [ti_ofInt, ti_addc, ti_subc, ti_mulc, ti_cmul, ti_divc, ti_remc, ti_zero, ti_add, ti_sub, ti_neg, if_lt_ti, if_gt_ti, bP_e0, Classical.not_not, tl_i2l]; omega))) only [ti_ofInt, ti_addc, ti_subc, ti_mulc, ti_cmul, ti_divc, ti_remc, ti_zero, ti_add, ti_sub, ti_neg, if_lt_ti, if_gt_ti, bP_e0, Classical.not_not, tl_i2l]
        exact ih m (by omega) (i + 1) _ _ _ _ (by omega) (by simp (disch := (first | omega | (simp (disch := omega) only [ti_ofInt, ti_addc, ti_subc, ti_mulc, ti_cmul, ti_divc, ti_remc, ti_zero, ti_add, ti_sub, ti_neg, if_lt_ti, if_gt_ti, bP_e0, Classical.not_not, tl_i2l]; omega))) only [ti_ofInt, ti_addc, ti_subc, ti_mulc, ti_cmul, ti_divc, ti_remc, ti_zero, ti_add, ti_sub, ti_neg, if_lt_ti, if_gt_ti, bP_e0, Classical.not_not, tl_i2l]; omega) (by rw [ea]; exact h1) (by rw [eb]; exact h2) (by rw [ea, eb, eu]; omega) (by omega)
  refine (r_iconst C dX1_unlikeLetters_0 (r_istore_n C dX1_unlikeLetters_1 rfl (by decide) (r_iload_n C dX1_unlikeLetters_2 rfl rfl (r_istore_n C dX1_unlikeLetters_3 rfl (by decide) (r_iload_n C dX1_unlikeLetters_4 rfl rfl (r_istore C dX1_unlikeLetters_5 (by decide) (r_iconst C dX1_unlikeLetters_7 (r_istore C dX1_unlikeLetters_8 (by decide) ?_))))))))
  exact loop 3 0 _ _ _ _ rfl (by simp (disch := (first | omega | (simp (disch := omega) only [ti_ofInt, ti_addc, ti_subc, ti_mulc, ti_cmul, ti_divc, ti_remc, ti_zero, ti_add, ti_sub, ti_neg, if_lt_ti, if_gt_ti, bP_e0, Classical.not_not, tl_i2l]; omega))) only [ti_ofInt, ti_addc, ti_subc, ti_mulc, ti_cmul, ti_divc, ti_remc, ti_zero, ti_add, ti_sub, ti_neg, if_lt_ti, if_gt_ti, bP_e0, Classical.not_not, tl_i2l]; omega) h.1 h.2 (by simp (disch := (first | omega | (simp (disch := omega) only [ti_ofInt, ti_addc, ti_subc, ti_mulc, ti_cmul, ti_divc, ti_remc, ti_zero, ti_add, ti_sub, ti_neg, if_lt_ti, if_gt_ti, bP_e0, Classical.not_not, tl_i2l]; omega))) only [ti_ofInt, ti_addc, ti_subc, ti_mulc, ti_cmul, ti_divc, ti_remc, ti_zero, ti_add, ti_sub, ti_neg, if_lt_ti, if_gt_ti, bP_e0, Classical.not_not, tl_i2l]; omega) (by simp (disch := (first | omega | (simp (disch := omega) only [ti_ofInt, ti_addc, ti_subc, ti_mulc, ti_cmul, ti_divc, ti_remc, ti_zero, ti_add, ti_sub, ti_neg, if_lt_ti, if_gt_ti, bP_e0, Classical.not_not, tl_i2l]; omega))) only [ti_ofInt, ti_addc, ti_subc, ti_mulc, ti_cmul, ti_divc, ti_remc, ti_zero, ti_add, ti_sub, ti_neg, if_lt_ti, if_gt_ti, bP_e0, Classical.not_not, tl_i2l]; omega)
/-- the k-th of those that p tells, or (k = -1) how many -/
noncomputable def kthF (p : Nat → Prop) (k : Int) : Nat → Nat → Nat → Int
  | 0, _, found => if k = -1 then found else -1
  | m + 1, i, found => @ite Int (p i) (Classical.propDecidable _) (if (found : Int) = k then i else kthF p k m (i + 1) (found + 1)) (kthF p k m (i + 1) found)
theorem kthF_0 {p : Nat → Prop} {k : Int} {i f : Nat} : kthF p k 0 i f = if k = -1 then (f : Int) else -1 := rfl
theorem kthF_t {p : Nat → Prop} {k : Int} {m i f : Nat} (h : p i) : kthF p k (m + 1) i f = if (f : Int) = k then (i : Int) else kthF p k m (i + 1) (f + 1) := if_pos h
theorem kthF_f {p : Nat → Prop} {k : Int} {m i f : Nat} (h : ¬ p i) : kthF p k (m + 1) i f = kthF p k m (i + 1) f := if_neg h
theorem ok_X1_kthNear_3 {g o k : Int32} {μ : kMem} (h : 0 ≤ g.toInt ∧ 0 ≤ (μ.1 3 5).toInt ∧ (μ.1 3 5).toInt ≤ 20 ∧ ∀ w : Nat, (w : Int) < (μ.1 3 5).toInt → 0 ≤ (μ.1 7 w).toInt) : kOk yX1_kthNear cX1_kthNear 6 (some .int) rmX1_kthNear shK 68 [.ref 3, .int g, .int o, .int k] μ (kP (Int32.ofInt (kthF (fun w => unF 3 (μ.1 7 w).toInt g.toInt ≤ o.toInt) k.toInt (μ.1 3 5).toInt.toNat 0 0)) μ) := by
  obtain ⟨T, hT⟩ : ∃ T, T = kthF (fun w => unF 3 (μ.1 7 w).toInt g.toInt ≤ o.toInt) k.toInt (μ.1 3 5).toInt.toNat 0 0 := ⟨_, rfl⟩
  rw [← hT]
  refine kOk.of rfl (Nat.le_of_ble_eq_true rfl) (fun J C => ?_)
  have C : kR cX1_kthNear RX1 6 rmX1_kthNear shK 68 (some .int) _ J := C
  have loop : ∀ (n i f : Nat) (v u : Int32), (i : Int) + n = (μ.1 3 5).toInt → v.toInt = i → u.toInt = f → f ≤ i → kthF (fun w => unF 3 (μ.1 7 w).toInt g.toInt ≤ o.toInt) k.toInt n i f = T → J 6 [some (.ref 3), some (.int g), some (.int o), some (.int k), some (.int u), some (.int v)] [] μ := by
    intro n
    induction n using Nat.strongRecOn with
    | ind n ih =>
      intro i f v u hn hv hu hf hr
      have hw := unF_b 3 (μ.1 7 v.toInt.toNat).toInt g.toInt
      refine (r_iload C dX1_kthNear_6 rfl (r_aload_n C dX1_kthNear_8 rfl rfl (r_getI C dX1_kthNear_9 fd_X1_28 nK_3 sK_3 rfl (r_icmp_ge C (tgt := 48) dX1_kthNear_12 rfl (fun c12 => (r_iload_n C dX1_kthNear_48 rfl rfl (r_iconst C dX1_kthNear_49 (r_icmp_ne C (tgt := 58) dX1_kthNear_50 rfl (fun c50 => (r_iconst C dX1_kthNear_58 (r_iret C dX1_kthNear_59 ?_))) (fun c50 => (r_iload C dX1_kthNear_53 rfl (r_goto C (tgt := 59) dX1_kthNear_55 rfl (r_iret C dX1_kthNear_59 ?_)))))))) (fun c12 => (r_aload_n C dX1_kthNear_15 rfl rfl (r_getR C dX1_kthNear_16 fd_X1_21 nK_3 sK_3 rfl (r_iload C dX1_kthNear_19 rfl (r_iald C dX1_kthNear_21 nK_7 sK_7 ?_ (r_iload_n C dX1_kthNear_22 rfl rfl (r_s2P C ys_X1_unlikeLetters lk_X1_39 dX1_kthNear_23 rfl (Nat.le_of_ble_eq_true rfl) (ok_X1_unlikeLetters ?_) (r_iload_n C dX1_kthNear_26 rfl rfl (r_icmp_gt C (tgt := 42) dX1_kthNear_27 rfl (fun c27 => (r_iinc C dX1_kthNear_42 rfl (by decide) (r_goto C (tgt := 6) dX1_kthNear_45 rfl ?_))) (fun c27 => (r_iload C dX1_kthNear_30 rfl (r_iload_n C dX1_kthNear_32 rfl rfl (r_icmp_ne C (tgt := 39) dX1_kthNear_33 rfl (fun c33 => (r_iinc C dX1_kthNear_39 rfl (by decide) (r_iinc C dX1_kthNear_42 rfl (by decide) (r_goto C (tgt := 6) dX1_kthNear_45 rfl ?_)))) (fun c33 => (r_iload C dX1_kthNear_36 rfl (r_iret C dX1_kthNear_38 ?_))))))))))))))))))))
      · simp (disch := (first | omega | (simp (disch := omega) only [ti_ofInt, ti_addc, ti_subc, ti_mulc, ti_cmul, ti_divc, ti_remc, ti_zero, ti_add, ti_sub, ti_neg, if_lt_ti, if_gt_ti, bP_e0, Classical.not_not, tl_i2l]; omega))) only [ti_ofInt, ti_addc, ti_subc, ti_mulc, ti_cmul, ti_divc, ti_remc, ti_zero, ti_add, ti_sub, ti_neg, if_lt_ti, if_gt_ti, bP_e0, Classical.not_not, tl_i2l] at c50
        obtain rfl : n = 0 := by omega
        rw [kthF_0, if_neg c50] at hr
        exact ⟨by rw [hr], rfl⟩
      · simp (disch := (first | omega | (simp (disch := omega) only [ti_ofInt, ti_addc, ti_subc, ti_mulc, ti_cmul, ti_divc, ti_remc, ti_zero, ti_add, ti_sub, ti_neg, if_lt_ti, if_gt_ti, bP_e0, Classical.not_not, tl_i2l]; omega))) only [ti_ofInt, ti_addc, ti_subc, ti_mulc, ti_cmul, ti_divc, ti_remc, ti_zero, ti_add, ti_sub, ti_neg, if_lt_ti, if_gt_ti, bP_e0, Classical.not_not, tl_i2l] at c50
        obtain rfl : n = 0 := by omega
        rw [kthF_0, if_pos c50] at hr
        exact ⟨ti_ext (by rw [hu, hr, ti_ofInt (by omega)]), rfl⟩
      · omega
      · exact ⟨h.2.2.2 _ (by omega), h.1⟩
      · simp (disch := (first | omega | (simp (disch := omega) only [ti_ofInt, ti_addc, ti_subc, ti_mulc, ti_cmul, ti_divc, ti_remc, ti_zero, ti_add, ti_sub, ti_neg, if_lt_ti, if_gt_ti, bP_e0, Classical.not_not, tl_i2l]; omega))) only [ti_ofInt, ti_addc, ti_subc, ti_mulc, ti_cmul, ti_divc, ti_remc, ti_zero, ti_add, ti_sub, ti_neg, if_lt_ti, if_gt_ti, bP_e0, Classical.not_not, tl_i2l] at c27
        rw [hv, Int.toNat_natCast] at c27
        obtain ⟨m, rfl⟩ : ∃ m, n = m + 1 := ⟨n - 1, by omega⟩
        rw [kthF_f (by omega)] at hr
        exact ih m (by omega) (i + 1) f _ _ (by omega) (by simp (disch := (first | omega | (simp (disch := omega) only [ti_ofInt, ti_addc, ti_subc, ti_mulc, ti_cmul, ti_divc, ti_remc, ti_zero, ti_add, ti_sub, ti_neg, if_lt_ti, if_gt_ti, bP_e0, Classical.not_not, tl_i2l]; omega))) only [ti_ofInt, ti_addc, ti_subc, ti_mulc, ti_cmul, ti_divc, ti_remc, ti_zero, ti_add, ti_sub, ti_neg, if_lt_ti, if_gt_ti, bP_e0, Classical.not_not, tl_i2l]; omega) hu (by omega) hr
      · simp (disch := (first | omega | (simp (disch := omega) only [ti_ofInt, ti_addc, ti_subc, ti_mulc, ti_cmul, ti_divc, ti_remc, ti_zero, ti_add, ti_sub, ti_neg, if_lt_ti, if_gt_ti, bP_e0, Classical.not_not, tl_i2l]; omega))) only [ti_ofInt, ti_addc, ti_subc, ti_mulc, ti_cmul, ti_divc, ti_remc, ti_zero, ti_add, ti_sub, ti_neg, if_lt_ti, if_gt_ti, bP_e0, Classical.not_not, tl_i2l] at c27
        rw [hv, Int.toNat_natCast] at c27
        obtain ⟨m, rfl⟩ : ∃ m, n = m + 1 := ⟨n - 1, by omega⟩
        rw [kthF_t (by omega), if_neg (by omega)] at hr
        exact ih m (by omega) (i + 1) (f + 1) _ _ (by omega) (by simp (disch := (first | omega | (simp (disch := omega) only [ti_ofInt, ti_addc, ti_subc, ti_mulc, ti_cmul, ti_divc, ti_remc, ti_zero, ti_add, ti_sub, ti_neg, if_lt_ti, if_gt_ti, bP_e0, Classical.not_not, tl_i2l]; omega))) only [ti_ofInt, ti_addc, ti_subc, ti_mulc, ti_cmul, ti_divc, ti_remc, ti_zero, ti_add, ti_sub, ti_neg, if_lt_ti, if_gt_ti, bP_e0, Classical.not_not, tl_i2l]; omega) (by simp (disch := (first | omega | (simp (disch := omega) only [ti_ofInt, ti_addc, ti_subc, ti_mulc, ti_cmul, ti_divc, ti_remc, ti_zero, ti_add, ti_sub, ti_neg, if_lt_ti, if_gt_ti, bP_e0, Classical.not_not, tl_i2l]; omega))) only [ti_ofInt, ti_addc, ti_subc, ti_mulc, ti_cmul, ti_divc, ti_remc, ti_zero, ti_add, ti_sub, ti_neg, if_lt_ti, if_gt_ti, bP_e0, Classical.not_not, tl_i2l]; omega) (by omega) hr
      · simp (disch := (first | omega | (simp (disch := omega) only [ti_ofInt, ti_addc, ti_subc, ti_mulc, ti_cmul, ti_divc, ti_remc, ti_zero, ti_add, ti_sub, ti_neg, if_lt_ti, if_gt_ti, bP_e0, Classical.not_not, tl_i2l]; omega))) only [ti_ofInt, ti_addc, ti_subc, ti_mulc, ti_cmul, ti_divc, ti_remc, ti_zero, ti_add, ti_sub, ti_neg, if_lt_ti, if_gt_ti, bP_e0, Classical.not_not, tl_i2l] at c27
        rw [hv, Int.toNat_natCast] at c27
        obtain ⟨m, rfl⟩ : ∃ m, n = m + 1 := ⟨n - 1, by omega⟩
        rw [kthF_t (by omega), if_pos (by omega)] at hr
        exact ⟨ti_ext (by rw [hv, ← hr, ti_ofInt (by omega)]), rfl⟩
  refine (r_iconst C dX1_kthNear_0 (r_istore C dX1_kthNear_1 (by decide) (r_iconst C dX1_kthNear_3 (r_istore C dX1_kthNear_4 (by decide) ?_))))
  exact loop _ 0 0 _ _ (by omega) (by simp (disch := (first | omega | (simp (disch := omega) only [ti_ofInt, ti_addc, ti_subc, ti_mulc, ti_cmul, ti_divc, ti_remc, ti_zero, ti_add, ti_sub, ti_neg, if_lt_ti, if_gt_ti, bP_e0, Classical.not_not, tl_i2l]; omega))) only [ti_ofInt, ti_addc, ti_subc, ti_mulc, ti_cmul, ti_divc, ti_remc, ti_zero, ti_add, ti_sub, ti_neg, if_lt_ti, if_gt_ti, bP_e0, Classical.not_not, tl_i2l]; omega) (by simp (disch := (first | omega | (simp (disch := omega) only [ti_ofInt, ti_addc, ti_subc, ti_mulc, ti_cmul, ti_divc, ti_remc, ti_zero, ti_add, ti_sub, ti_neg, if_lt_ti, if_gt_ti, bP_e0, Classical.not_not, tl_i2l]; omega))) only [ti_ofInt, ti_addc, ti_subc, ti_mulc, ti_cmul, ti_divc, ti_remc, ti_zero, ti_add, ti_sub, ti_neg, if_lt_ti, if_gt_ti, bP_e0, Classical.not_not, tl_i2l]; omega) (Nat.le_refl _) hT.symm
/-- a letter comes with its MARKS: the number, its digits from the last one, their number -/
def kLet (μ : kMem) (x n : Int) (c : Nat) (μ' : kMem) : Prop := ∀ a b : Nat, μ'.1 a b =
  if a = 9 ∧ b = x.toNat then Int32.ofInt n else if a = 10 ∧ b = x.toNat then Int32.ofInt c else if a = 8 ∧ b = 4 then Int32.ofInt ((μ.1 8 4).toInt + 1) else if a = 11 ∧ x.toNat * 5 ≤ b ∧ b < x.toNat * 5 + c then Int32.ofInt (n / 10 ^ (b - x.toNat * 5) % 10 - 1) else μ.1 a b
/-- how many digits a number has, 5 at most -/
def dnF : Nat → Int → Nat
  | 0, _ => 0
  | f + 1, m => if 0 < m then dnF f (m / 10) + 1 else 0
theorem dnF_le : ∀ (f : Nat) (m : Int), dnF f m ≤ f := by
  intro f
  induction f with
  | zero => intro m; exact Nat.le_refl _
  | succ f ih =>
    intro m
    have := ih (m / 10)
    unfold dnF
    split <;> omega
def kLetI (μ : kMem) (x n : Int) (j : Nat) (μ' : kMem) : Prop := ∀ a b : Nat, μ'.1 a b =
  if a = 9 ∧ b = x.toNat then Int32.ofInt n else if a = 11 ∧ x.toNat * 5 ≤ b ∧ b < x.toNat * 5 + j then Int32.ofInt (n / 10 ^ (b - x.toNat * 5) % 10 - 1) else μ.1 a b
theorem ok_X1_addLetter_8 {x n : Int32} {μ : kMem} (h : 0 ≤ x.toInt ∧ x.toInt < 26 ∧ ¬ 0 < (μ.1 10 x.toInt.toNat).toInt ∧ 0 ≤ n.toInt ∧ 0 ≤ (μ.1 8 4).toInt ∧ (μ.1 8 4).toInt < 1000) : kOk yX1_addLetter cX1_addLetter 5 (none) rmX1_addLetter shK 68 [.ref 8, .int x, .int n] μ (kN (kLet μ x.toInt n.toInt (dnF 5 n.toInt))) := by
  have hdl := dnF_le 5 n.toInt
  obtain ⟨T, hT⟩ : ∃ T, T = dnF 5 n.toInt := ⟨_, rfl⟩
  rw [← hT] at hdl ⊢
  refine kOk.of rfl (Nat.le_of_ble_eq_true rfl) (fun J C => ?_)
  have C : kR cX1_addLetter RX1 5 rmX1_addLetter shK 68 (none) _ J := C
  have loop : ∀ (k j : Nat) (v r : Int32) (μ' : kMem), j + k = 5 → v.toInt = j → r.toInt = n.toInt / 10 ^ j → j + dnF k r.toInt = T → kLetI μ x.toInt n.toInt j μ' → J 31 [some (.ref 8), some (.int x), some (.int n), some (.int v), some (.int r)] [] μ' := by
    intro k
    induction k using Nat.strongRecOn with
    | ind k ih =>
      intro j v r μ' hk hv hr hd hI
      have hr0 : 0 ≤ r.toInt := by rw [hr]; exact Int.ediv_nonneg h.2.2.2.1 (Int.le_of_lt (Int.pow_pos (by decide)))
      have fin : j = T → kLet μ x.toInt n.toInt T (up (up μ' 10 x.toInt.toNat v) 8 4 ((up μ' 10 x.toInt.toNat v).1 8 4 + Int32.ofInt 1)) := by
        intro hjT
        have e8 : (up μ' 10 x.toInt.toNat v).1 8 4 = μ.1 8 4 := by
          rw [up_neo _ _ (by decide), hI 8 4, if_neg (by omega), if_neg (by omega)]
        have e9 : μ.1 8 4 + Int32.ofInt 1 = Int32.ofInt ((μ.1 8 4).toInt + 1) := ti_ext (by simp (disch := (first | omega | (simp (disch := omega) only [ti_ofInt, ti_addc, ti_subc, ti_mulc, ti_cmul, ti_divc, ti_remc, ti_zero, ti_add, ti_sub, ti_neg, if_lt_ti, if_gt_ti, bP_e0, Classical.not_not, tl_i2l]; omega))) only [ti_ofInt, ti_addc, ti_subc, ti_mulc, ti_cmul, ti_divc, ti_remc, ti_zero, ti_add, ti_sub, ti_neg, if_lt_ti, if_gt_ti, bP_e0, Classical.not_not, tl_i2l])
        intro a b
        rw [e8, e9]
        simp only [up]
        rw [hI a b]
        by_cases h1 : a = 9 ∧ b = x.toInt.toNat
        · rw [if_neg (by omega), if_neg (by omega), if_pos h1, if_pos h1]
        · rw [if_neg h1, if_neg h1]
          by_cases h2 : a = 10 ∧ b = x.toInt.toNat
          · rw [if_neg (by omega), if_pos h2, if_pos h2]
            exact ti_ext (by rw [hv, hjT, ti_ofInt (by omega)])
          · rw [if_neg h2, if_neg h2]
            by_cases h3 : a = 8 ∧ b = 4
            · rw [if_pos h3, if_pos h3]
            · rw [if_neg h3, if_neg h3, hjT]
      have ex5 : (x * Int32.ofInt 5 + v).toInt = x.toInt * 5 + j := by
        rw [← hv]
        simp (disch := (first | omega | (simp (disch := (first | omega | (simp (disch := (first | omega | (simp (disch := omega) only [ti_ofInt, ti_addc, ti_subc, ti_mulc, ti_cmul, ti_divc, ti_remc, ti_zero, ti_add, ti_sub, ti_neg, if_lt_ti, if_gt_ti, bP_e0, Classical.not_not, tl_i2l]; omega))) only [ti_ofInt, ti_addc, ti_subc, ti_mulc, ti_cmul, ti_divc, ti_remc, ti_zero, ti_add, ti_sub, ti_neg, if_lt_ti, if_gt_ti, bP_e0, Classical.not_not, tl_i2l]; omega))) only [ti_ofInt, ti_addc, ti_subc, ti_mulc, ti_cmul, ti_divc, ti_remc, ti_zero, ti_add, ti_sub, ti_neg, if_lt_ti, if_gt_ti, bP_e0, Classical.not_not, tl_i2l]; omega))) only [ti_ofInt, ti_addc, ti_subc, ti_mulc, ti_cmul, ti_divc, ti_remc, ti_zero, ti_add, ti_sub, ti_neg, if_lt_ti, if_gt_ti, bP_e0, Classical.not_not, tl_i2l]
      refine (r_iload_n C dX1_addLetter_31 rfl rfl (r_iconst C dX1_addLetter_32 (r_icmp_ge C (tgt := 71) dX1_addLetter_33 rfl (fun c33 => (r_aload_n C dX1_addLetter_71 rfl rfl (r_getR C dX1_addLetter_72 fd_X1_15 nK_8 sK_8 rfl (r_iload_n C dX1_addLetter_75 rfl rfl (r_iload_n C dX1_addLetter_76 rfl rfl (r_iast C dX1_addLetter_77 nK_10 sK_10 ?_ (r_aload_n C dX1_addLetter_78 rfl rfl (r_dup C dX1_addLetter_79 rfl (r_getI C dX1_addLetter_80 fd_X1_24 nK_8 sK_8 rfl (r_iconst C dX1_addLetter_83 (r_iadd C dX1_addLetter_84 (r_putI C dX1_addLetter_85 fw_X1_24 nK_8 sK_8 rfl (r_ret C dX1_addLetter_88 ?_))))))))))))) (fun c33 => (r_iload C dX1_addLetter_36 rfl (r_if_le C (tgt := 71) dX1_addLetter_38 rfl (fun c38 => (r_aload_n C dX1_addLetter_71 rfl rfl (r_getR C dX1_addLetter_72 fd_X1_15 nK_8 sK_8 rfl (r_iload_n C dX1_addLetter_75 rfl rfl (r_iload_n C dX1_addLetter_76 rfl rfl (r_iast C dX1_addLetter_77 nK_10 sK_10 ?_ (r_aload_n C dX1_addLetter_78 rfl rfl (r_dup C dX1_addLetter_79 rfl (r_getI C dX1_addLetter_80 fd_X1_24 nK_8 sK_8 rfl (r_iconst C dX1_addLetter_83 (r_iadd C dX1_addLetter_84 (r_putI C dX1_addLetter_85 fw_X1_24 nK_8 sK_8 rfl (r_ret C dX1_addLetter_88 ?_))))))))))))) (fun c38 => (r_aload_n C dX1_addLetter_41 rfl rfl (r_getR C dX1_addLetter_42 fd_X1_18 nK_8 sK_8 rfl (r_iload_n C dX1_addLetter_45 rfl rfl (r_iconst C dX1_addLetter_46 (r_imul C dX1_addLetter_47 (r_iload_n C dX1_addLetter_48 rfl rfl (r_iadd C dX1_addLetter_49 (r_iload C dX1_addLetter_50 rfl (r_bipush C dX1_addLetter_52 (by decide +kernel) (r_irem C dX1_addLetter_54 (by decide) (r_iconst C dX1_addLetter_55 (r_isub C dX1_addLetter_56 (r_iast C dX1_addLetter_57 nK_11 sK_11 ?_ (r_iload C dX1_addLetter_58 rfl (r_bipush C dX1_addLetter_60 (by decide +kernel) (r_idiv C dX1_addLetter_62 (by decide) (r_istore C dX1_addLetter_63 (by decide) (r_iinc C dX1_addLetter_65 rfl (by decide) (r_goto C (tgt := 31) dX1_addLetter_68 rfl ?_))))))))))))))))))))))))))
      · omega
      · simp (disch := (first | omega | (simp (disch := omega) only [ti_ofInt, ti_addc, ti_subc, ti_mulc, ti_cmul, ti_divc, ti_remc, ti_zero, ti_add, ti_sub, ti_neg, if_lt_ti, if_gt_ti, bP_e0, Classical.not_not, tl_i2l]; omega))) only [ti_ofInt, ti_addc, ti_subc, ti_mulc, ti_cmul, ti_divc, ti_remc, ti_zero, ti_add, ti_sub, ti_neg, if_lt_ti, if_gt_ti, bP_e0, Classical.not_not, tl_i2l] at c33
        obtain rfl : k = 0 := by omega
        exact fin (by simp only [dnF] at hd; omega)
      · omega
      · refine fin ?_
        cases k with
        | zero => simp only [dnF] at hd; omega
        | succ k => simp only [dnF] at hd; rw [if_neg (by omega)] at hd; omega
      · rw [ex5]
        simp (disch := (first | omega | (simp (disch := omega) only [ti_ofInt, ti_addc, ti_subc, ti_mulc, ti_cmul, ti_divc, ti_remc, ti_zero, ti_add, ti_sub, ti_neg, if_lt_ti, if_gt_ti, bP_e0, Classical.not_not, tl_i2l]; omega))) only [ti_ofInt, ti_addc, ti_subc, ti_mulc, ti_cmul, ti_divc, ti_remc, ti_zero, ti_add, ti_sub, ti_neg, if_lt_ti, if_gt_ti, bP_e0, Classical.not_not, tl_i2l] at c33
        omega
      · simp (disch := (first | omega | (simp (disch := omega) only [ti_ofInt, ti_addc, ti_subc, ti_mulc, ti_cmul, ti_divc, ti_remc, ti_zero, ti_add, ti_sub, ti_neg, if_lt_ti, if_gt_ti, bP_e0, Classical.not_not, tl_i2l]; omega))) only [ti_ofInt, ti_addc, ti_subc, ti_mulc, ti_cmul, ti_divc, ti_remc, ti_zero, ti_add, ti_sub, ti_neg, if_lt_ti, if_gt_ti, bP_e0, Classical.not_not, tl_i2l] at c33
        obtain ⟨m, rfl⟩ : ∃ m, k = m + 1 := ⟨k - 1, by omega⟩
        have e10 : (r / Int32.ofInt 10).toInt = r.toInt / 10 := by simp (disch := (first | omega | (simp (disch := omega) only [ti_ofInt, ti_addc, ti_subc, ti_mulc, ti_cmul, ti_divc, ti_remc, ti_zero, ti_add, ti_sub, ti_neg, if_lt_ti, if_gt_ti, bP_e0, Classical.not_not, tl_i2l]; omega))) only [ti_ofInt, ti_addc, ti_subc, ti_mulc, ti_cmul, ti_divc, ti_remc, ti_zero, ti_add, ti_sub, ti_neg, if_lt_ti, if_gt_ti, bP_e0, Classical.not_not, tl_i2l]
        refine ih m (by omega) (j + 1) _ _ _ (by omega) (by simp (disch := (first | omega | (simp (disch := omega) only [ti_ofInt, ti_addc, ti_subc, ti_mulc, ti_cmul, ti_divc, ti_remc, ti_zero, ti_add, ti_sub, ti_neg, if_lt_ti, if_gt_ti, bP_e0, Classical.not_not, tl_i2l]; omega))) only [ti_ofInt, ti_addc, ti_subc, ti_mulc, ti_cmul, ti_divc, ti_remc, ti_zero, ti_add, ti_sub, ti_neg, if_lt_ti, if_gt_ti, bP_e0, Classical.not_not, tl_i2l]; omega) ?_ ?_ ?_
        · rw [e10, hr, Int.pow_succ, Int.ediv_ediv_of_nonneg (Int.le_of_lt (Int.pow_pos (by decide)))]
        · rw [e10]
          simp only [dnF] at hd
          rw [if_pos c38] at hd
          omega
        · intro a b
          simp only [up]
          rw [ex5, hI a b]
          by_cases h1 : a = 9 ∧ b = x.toInt.toNat
          · rw [if_neg (by omega), if_pos h1, if_pos h1]
          · rw [if_neg h1, if_neg h1]
            by_cases h2 : a = 11 ∧ b = (x.toInt * 5 + (j : Int)).toNat
            · rw [if_pos h2, if_pos (by omega)]
              have e2 : b - x.toInt.toNat * 5 = j := by omega
              rw [e2]
              refine ti_ext ?_
              have hm1 := Int.emod_nonneg r.toInt (show (10 : Int) ≠ 0 by decide)
              have hm2 := Int.emod_lt_of_pos r.toInt (show (0 : Int) < 10 by decide)
              rw [ti_subc (by rw [ti_remc (by omega)]; omega), ti_remc (by omega), ← hr, ti_ofInt (by omega)]
            · rw [if_neg h2]
              by_cases h3 : a = 11 ∧ x.toInt.toNat * 5 ≤ b ∧ b < x.toInt.toNat * 5 + j
              · rw [if_pos h3, if_pos (by omega)]
              · rw [if_neg h3, if_neg (by omega)]
  refine (r_iload_n C dX1_addLetter_0 rfl rfl (r_if_lt C (tgt := 18) dX1_addLetter_1 rfl (fun c1 => (r_ret C dX1_addLetter_18 ?_)) (fun c1 => (r_iload_n C dX1_addLetter_4 rfl rfl (r_bipush C dX1_addLetter_5 (by decide +kernel) (r_icmp_ge C (tgt := 18) dX1_addLetter_7 rfl (fun c7 => (r_ret C dX1_addLetter_18 ?_)) (fun c7 => (r_aload_n C dX1_addLetter_10 rfl rfl (r_iload_n C dX1_addLetter_11 rfl rfl (r_v1P C yv_X1_hasLetter lk_X1_31 dX1_addLetter_12 rfl nK_8 sK_8 rfl (Nat.le_of_ble_eq_true rfl) ok_X1_hasLetter_8 (r_if_eq C (tgt := 19) dX1_addLetter_15 rfl (fun c15 => (r_aload_n C dX1_addLetter_19 rfl rfl (r_getR C dX1_addLetter_20 fd_X1_9 nK_8 sK_8 rfl (r_iload_n C dX1_addLetter_23 rfl rfl (r_iload_n C dX1_addLetter_24 rfl rfl (r_iast C dX1_addLetter_25 nK_9 sK_9 ?_ (r_iconst C dX1_addLetter_26 (r_istore_n C dX1_addLetter_27 rfl (by decide) (r_iload_n C dX1_addLetter_28 rfl rfl (r_istore C dX1_addLetter_29 (by decide) ?_)))))))))) (fun c15 => (r_ret C dX1_addLetter_18 ?_)))))))))))))
  · omega
  · simp (disch := (first | omega | (simp (disch := omega) only [ti_ofInt, ti_addc, ti_subc, ti_mulc, ti_cmul, ti_divc, ti_remc, ti_zero, ti_add, ti_sub, ti_neg, if_lt_ti, if_gt_ti, bP_e0, Classical.not_not, tl_i2l]; omega))) only [ti_ofInt, ti_addc, ti_subc, ti_mulc, ti_cmul, ti_divc, ti_remc, ti_zero, ti_add, ti_sub, ti_neg, if_lt_ti, if_gt_ti, bP_e0, Classical.not_not, tl_i2l] at c7
    omega
  · omega
  · refine loop 5 0 _ _ _ rfl (by simp (disch := (first | omega | (simp (disch := omega) only [ti_ofInt, ti_addc, ti_subc, ti_mulc, ti_cmul, ti_divc, ti_remc, ti_zero, ti_add, ti_sub, ti_neg, if_lt_ti, if_gt_ti, bP_e0, Classical.not_not, tl_i2l]; omega))) only [ti_ofInt, ti_addc, ti_subc, ti_mulc, ti_cmul, ti_divc, ti_remc, ti_zero, ti_add, ti_sub, ti_neg, if_lt_ti, if_gt_ti, bP_e0, Classical.not_not, tl_i2l]; omega) (by simp) (by rw [hT]; omega) ?_
    intro a b
    simp only [up]
    by_cases h1 : a = 9 ∧ b = x.toInt.toNat
    · rw [if_pos h1, if_pos h1, ti_self]
    · rw [if_neg h1, if_neg h1, if_neg (by omega)]
  · have := bP_ne c15
    omega
def kBec (μ : kMem) (q : Nat → Nat → Prop) (μ' : kMem) : Prop := ∀ a b : Nat, (q a b → μ'.1 a b = μ.1 (a + 5) b) ∧ (¬ q a b → μ'.1 a b = μ.1 a b)
theorem kBec_step {μ μ' : kMem} {q q2 : Nat → Nat → Prop} (h : kBec μ q μ') {a0 i : Nat} (h1 : ¬ q (a0 + 5) i) (h2 : ∀ a b, q2 a b ↔ q a b ∨ (a = a0 ∧ b = i)) : kBec μ q2 (up μ' a0 i (μ'.1 (a0 + 5) i)) := by
  intro a b
  rw [h2 a b, (h (a0 + 5) i).2 h1]
  by_cases e : a = a0 ∧ b = i
  · obtain ⟨rfl, rfl⟩ := e
    exact ⟨fun _ => up_same _ _ _ _, fun z => absurd (Or.inr ⟨rfl, rfl⟩) z⟩
  · rw [up_ne _ _ e]
    exact ⟨fun z => (h a b).1 (z.resolve_right e), fun z => (h a b).2 (fun y => z (Or.inl y))⟩
theorem ok_X1_become_3 {μ : kMem} : kOk yX1_become cX1_become 3 (none) rmX1_become shK 68 [.ref 3, .ref 8] μ (kN (kBec μ fun a b => ((a = 4 ∨ a = 5) ∧ b < 26) ∨ (a = 6 ∧ b < 130) ∨ (a = 7 ∧ b < 20) ∨ (a = 3 ∧ (b = 4 ∨ b = 5)))) := by
  refine kOk.of rfl (Nat.le_of_ble_eq_true rfl) (fun J C => ?_)
  have C : kR cX1_become RX1 3 rmX1_become shK 68 (none) _ J := C
  have loop3 : ∀ (k i : Nat) (v : Int32) (μ' : kMem), i + k = 20 → v.toInt = i → kBec μ (fun a b => ((a = 4 ∨ a = 5) ∧ b < 26) ∨ (a = 6 ∧ b < 130) ∨ (a = 7 ∧ b < i)) μ' → J 67 [some (.ref 3), some (.ref 8), some (.int v)] [] μ' := by
    intro k
    induction k using Nat.strongRecOn with
    | ind k ih =>
      intro i v μ' hk hv hI
      have ev : v.toInt.toNat = i := by omega
      refine (r_iload_n C dX1_become_67 rfl rfl (r_bipush C dX1_become_68 (by decide +kernel) (r_icmp_ge C (tgt := 91) dX1_become_70 rfl (fun c70 => (r_aload_n C dX1_become_91 rfl rfl (r_aload_n C dX1_become_92 rfl rfl (r_getI C dX1_become_93 fd_X1_24 nK_8 sK_8 rfl (r_putI C dX1_become_96 fw_X1_24 nK_3 sK_3 rfl (r_aload_n C dX1_become_99 rfl rfl (r_aload_n C dX1_become_100 rfl rfl (r_getI C dX1_become_101 fd_X1_28 nK_8 sK_8 rfl (r_putI C dX1_become_104 fw_X1_28 nK_3 sK_3 rfl (r_ret C dX1_become_107 ?_)))))))))) (fun c70 => (r_aload_n C dX1_become_73 rfl rfl (r_getR C dX1_become_74 fd_X1_21 nK_3 sK_3 rfl (r_iload_n C dX1_become_77 rfl rfl (r_aload_n C dX1_become_78 rfl rfl (r_getR C dX1_become_79 fd_X1_21 nK_8 sK_8 rfl (r_iload_n C dX1_become_82 rfl rfl (r_iald C dX1_become_83 nK_12 sK_12 ?_ (r_iast C dX1_become_84 nK_7 sK_7 ?_ (r_iinc C dX1_become_85 rfl (by decide) (r_goto C (tgt := 67) dX1_become_88 rfl ?_))))))))))))))
      · simp (disch := (first | omega | (simp (disch := omega) only [ti_ofInt, ti_addc, ti_subc, ti_mulc, ti_cmul, ti_divc, ti_remc, ti_zero, ti_add, ti_sub, ti_neg, if_lt_ti, if_gt_ti, bP_e0, Classical.not_not, tl_i2l]; omega))) only [ti_ofInt, ti_addc, ti_subc, ti_mulc, ti_cmul, ti_divc, ti_remc, ti_zero, ti_add, ti_sub, ti_neg, if_lt_ti, if_gt_ti, bP_e0, Classical.not_not, tl_i2l] at c70
        have e1 := kBec_step (a0 := 3) (i := 4) (q2 := fun a b => (((a = 4 ∨ a = 5) ∧ b < 26) ∨ (a = 6 ∧ b < 130) ∨ (a = 7 ∧ b < i)) ∨ (a = 3 ∧ b = 4)) hI (by omega) (fun a b => Iff.rfl)
        have e2 := kBec_step (a0 := 3) (i := 5) (q2 := fun a b => ((a = 4 ∨ a = 5) ∧ b < 26) ∨ (a = 6 ∧ b < 130) ∨ (a = 7 ∧ b < 20) ∨ (a = 3 ∧ (b = 4 ∨ b = 5))) e1 (by omega) (fun a b => by omega)
        exact e2
      · simp (disch := (first | omega | (simp (disch := omega) only [ti_ofInt, ti_addc, ti_subc, ti_mulc, ti_cmul, ti_divc, ti_remc, ti_zero, ti_add, ti_sub, ti_neg, if_lt_ti, if_gt_ti, bP_e0, Classical.not_not, tl_i2l]; omega))) only [ti_ofInt, ti_addc, ti_subc, ti_mulc, ti_cmul, ti_divc, ti_remc, ti_zero, ti_add, ti_sub, ti_neg, if_lt_ti, if_gt_ti, bP_e0, Classical.not_not, tl_i2l] at c70
        omega
      · simp (disch := (first | omega | (simp (disch := omega) only [ti_ofInt, ti_addc, ti_subc, ti_mulc, ti_cmul, ti_divc, ti_remc, ti_zero, ti_add, ti_sub, ti_neg, if_lt_ti, if_gt_ti, bP_e0, Classical.not_not, tl_i2l]; omega))) only [ti_ofInt, ti_addc, ti_subc, ti_mulc, ti_cmul, ti_divc, ti_remc, ti_zero, ti_add, ti_sub, ti_neg, if_lt_ti, if_gt_ti, bP_e0, Classical.not_not, tl_i2l] at c70
        omega
      · simp (disch := (first | omega | (simp (disch := omega) only [ti_ofInt, ti_addc, ti_subc, ti_mulc, ti_cmul, ti_divc, ti_remc, ti_zero, ti_add, ti_sub, ti_neg, if_lt_ti, if_gt_ti, bP_e0, Classical.not_not, tl_i2l]; omega))) only [ti_ofInt, ti_addc, ti_subc, ti_mulc, ti_cmul, ti_divc, ti_remc, ti_zero, ti_add, ti_sub, ti_neg, if_lt_ti, if_gt_ti, bP_e0, Classical.not_not, tl_i2l] at c70
        refine ih (k - 1) (by omega) (i + 1) _ _ (by omega) (by simp (disch := (first | omega | (simp (disch := omega) only [ti_ofInt, ti_addc, ti_subc, ti_mulc, ti_cmul, ti_divc, ti_remc, ti_zero, ti_add, ti_sub, ti_neg, if_lt_ti, if_gt_ti, bP_e0, Classical.not_not, tl_i2l]; omega))) only [ti_ofInt, ti_addc, ti_subc, ti_mulc, ti_cmul, ti_divc, ti_remc, ti_zero, ti_add, ti_sub, ti_neg, if_lt_ti, if_gt_ti, bP_e0, Classical.not_not, tl_i2l]; omega) ?_
        rw [ev]
        exact kBec_step (a0 := 7) (i := i) hI (by omega) (fun a b => by omega)
  have loop2 : ∀ (k i : Nat) (v : Int32) (μ' : kMem), i + k = 130 → v.toInt = i → kBec μ (fun a b => ((a = 4 ∨ a = 5) ∧ b < 26) ∨ (a = 6 ∧ b < i)) μ' → J 40 [some (.ref 3), some (.ref 8), some (.int v)] [] μ' := by
    intro k
    induction k using Nat.strongRecOn with
    | ind k ih =>
      intro i v μ' hk hv hI
      have ev : v.toInt.toNat = i := by omega
      refine (r_iload_n C dX1_become_40 rfl rfl (r_sipush C dX1_become_41 (by decide +kernel) (r_icmp_ge C (tgt := 65) dX1_become_44 rfl (fun c44 => (r_iconst C dX1_become_65 (r_istore_n C dX1_become_66 rfl (by decide) ?_))) (fun c44 => (r_aload_n C dX1_become_47 rfl rfl (r_getR C dX1_become_48 fd_X1_18 nK_3 sK_3 rfl (r_iload_n C dX1_become_51 rfl rfl (r_aload_n C dX1_become_52 rfl rfl (r_getR C dX1_become_53 fd_X1_18 nK_8 sK_8 rfl (r_iload_n C dX1_become_56 rfl rfl (r_iald C dX1_become_57 nK_11 sK_11 ?_ (r_iast C dX1_become_58 nK_6 sK_6 ?_ (r_iinc C dX1_become_59 rfl (by decide) (r_goto C (tgt := 40) dX1_become_62 rfl ?_))))))))))))))
      · simp (disch := (first | omega | (simp (disch := omega) only [ti_ofInt, ti_addc, ti_subc, ti_mulc, ti_cmul, ti_divc, ti_remc, ti_zero, ti_add, ti_sub, ti_neg, if_lt_ti, if_gt_ti, bP_e0, Classical.not_not, tl_i2l]; omega))) only [ti_ofInt, ti_addc, ti_subc, ti_mulc, ti_cmul, ti_divc, ti_remc, ti_zero, ti_add, ti_sub, ti_neg, if_lt_ti, if_gt_ti, bP_e0, Classical.not_not, tl_i2l] at c44
        refine loop3 20 0 _ _ rfl (by simp (disch := (first | omega | (simp (disch := omega) only [ti_ofInt, ti_addc, ti_subc, ti_mulc, ti_cmul, ti_divc, ti_remc, ti_zero, ti_add, ti_sub, ti_neg, if_lt_ti, if_gt_ti, bP_e0, Classical.not_not, tl_i2l]; omega))) only [ti_ofInt, ti_addc, ti_subc, ti_mulc, ti_cmul, ti_divc, ti_remc, ti_zero, ti_add, ti_sub, ti_neg, if_lt_ti, if_gt_ti, bP_e0, Classical.not_not, tl_i2l]; omega) ?_
        intro a b
        have := hI a b
        exact ⟨fun z => this.1 (by omega), fun z => this.2 (by omega)⟩
      · simp (disch := (first | omega | (simp (disch := omega) only [ti_ofInt, ti_addc, ti_subc, ti_mulc, ti_cmul, ti_divc, ti_remc, ti_zero, ti_add, ti_sub, ti_neg, if_lt_ti, if_gt_ti, bP_e0, Classical.not_not, tl_i2l]; omega))) only [ti_ofInt, ti_addc, ti_subc, ti_mulc, ti_cmul, ti_divc, ti_remc, ti_zero, ti_add, ti_sub, ti_neg, if_lt_ti, if_gt_ti, bP_e0, Classical.not_not, tl_i2l] at c44
        omega
      · simp (disch := (first | omega | (simp (disch := omega) only [ti_ofInt, ti_addc, ti_subc, ti_mulc, ti_cmul, ti_divc, ti_remc, ti_zero, ti_add, ti_sub, ti_neg, if_lt_ti, if_gt_ti, bP_e0, Classical.not_not, tl_i2l]; omega))) only [ti_ofInt, ti_addc, ti_subc, ti_mulc, ti_cmul, ti_divc, ti_remc, ti_zero, ti_add, ti_sub, ti_neg, if_lt_ti, if_gt_ti, bP_e0, Classical.not_not, tl_i2l] at c44
        omega
      · simp (disch := (first | omega | (simp (disch := omega) only [ti_ofInt, ti_addc, ti_subc, ti_mulc, ti_cmul, ti_divc, ti_remc, ti_zero, ti_add, ti_sub, ti_neg, if_lt_ti, if_gt_ti, bP_e0, Classical.not_not, tl_i2l]; omega))) only [ti_ofInt, ti_addc, ti_subc, ti_mulc, ti_cmul, ti_divc, ti_remc, ti_zero, ti_add, ti_sub, ti_neg, if_lt_ti, if_gt_ti, bP_e0, Classical.not_not, tl_i2l] at c44
        refine ih (k - 1) (by omega) (i + 1) _ _ (by omega) (by simp (disch := (first | omega | (simp (disch := omega) only [ti_ofInt, ti_addc, ti_subc, ti_mulc, ti_cmul, ti_divc, ti_remc, ti_zero, ti_add, ti_sub, ti_neg, if_lt_ti, if_gt_ti, bP_e0, Classical.not_not, tl_i2l]; omega))) only [ti_ofInt, ti_addc, ti_subc, ti_mulc, ti_cmul, ti_divc, ti_remc, ti_zero, ti_add, ti_sub, ti_neg, if_lt_ti, if_gt_ti, bP_e0, Classical.not_not, tl_i2l]; omega) ?_
        rw [ev]
        exact kBec_step (a0 := 6) (i := i) hI (by omega) (fun a b => by omega)
  have loop1 : ∀ (k i : Nat) (v : Int32) (μ' : kMem), i + k = 26 → v.toInt = i → kBec μ (fun a b => ((a = 4 ∨ a = 5) ∧ b < i)) μ' → J 2 [some (.ref 3), some (.ref 8), some (.int v)] [] μ' := by
    intro k
    induction k using Nat.strongRecOn with
    | ind k ih =>
      intro i v μ' hk hv hI
      have ev : v.toInt.toNat = i := by omega
      refine (r_iload_n C dX1_become_2 rfl rfl (r_bipush C dX1_become_3 (by decide +kernel) (r_icmp_ge C (tgt := 38) dX1_become_5 rfl (fun c5 => (r_iconst C dX1_become_38 (r_istore_n C dX1_become_39 rfl (by decide) ?_))) (fun c5 => (r_aload_n C dX1_become_8 rfl rfl (r_getR C dX1_become_9 fd_X1_9 nK_3 sK_3 rfl (r_iload_n C dX1_become_12 rfl rfl (r_aload_n C dX1_become_13 rfl rfl (r_getR C dX1_become_14 fd_X1_9 nK_8 sK_8 rfl (r_iload_n C dX1_become_17 rfl rfl (r_iald C dX1_become_18 nK_9 sK_9 ?_ (r_iast C dX1_become_19 nK_4 sK_4 ?_ (r_aload_n C dX1_become_20 rfl rfl (r_getR C dX1_become_21 fd_X1_15 nK_3 sK_3 rfl (r_iload_n C dX1_become_24 rfl rfl (r_aload_n C dX1_become_25 rfl rfl (r_getR C dX1_become_26 fd_X1_15 nK_8 sK_8 rfl (r_iload_n C dX1_become_29 rfl rfl (r_iald C dX1_become_30 nK_10 sK_10 ?_ (r_iast C dX1_become_31 nK_5 sK_5 ?_ (r_iinc C dX1_become_32 rfl (by decide) (r_goto C (tgt := 2) dX1_become_35 rfl ?_))))))))))))))))))))))
      · simp (disch := (first | omega | (simp (disch := omega) only [ti_ofInt, ti_addc, ti_subc, ti_mulc, ti_cmul, ti_divc, ti_remc, ti_zero, ti_add, ti_sub, ti_neg, if_lt_ti, if_gt_ti, bP_e0, Classical.not_not, tl_i2l]; omega))) only [ti_ofInt, ti_addc, ti_subc, ti_mulc, ti_cmul, ti_divc, ti_remc, ti_zero, ti_add, ti_sub, ti_neg, if_lt_ti, if_gt_ti, bP_e0, Classical.not_not, tl_i2l] at c5
        refine loop2 130 0 _ _ rfl (by simp (disch := (first | omega | (simp (disch := omega) only [ti_ofInt, ti_addc, ti_subc, ti_mulc, ti_cmul, ti_divc, ti_remc, ti_zero, ti_add, ti_sub, ti_neg, if_lt_ti, if_gt_ti, bP_e0, Classical.not_not, tl_i2l]; omega))) only [ti_ofInt, ti_addc, ti_subc, ti_mulc, ti_cmul, ti_divc, ti_remc, ti_zero, ti_add, ti_sub, ti_neg, if_lt_ti, if_gt_ti, bP_e0, Classical.not_not, tl_i2l]; omega) ?_
        intro a b
        have := hI a b
        exact ⟨fun z => this.1 (by omega), fun z => this.2 (by omega)⟩
      · simp (disch := (first | omega | (simp (disch := omega) only [ti_ofInt, ti_addc, ti_subc, ti_mulc, ti_cmul, ti_divc, ti_remc, ti_zero, ti_add, ti_sub, ti_neg, if_lt_ti, if_gt_ti, bP_e0, Classical.not_not, tl_i2l]; omega))) only [ti_ofInt, ti_addc, ti_subc, ti_mulc, ti_cmul, ti_divc, ti_remc, ti_zero, ti_add, ti_sub, ti_neg, if_lt_ti, if_gt_ti, bP_e0, Classical.not_not, tl_i2l] at c5
        omega
      · simp (disch := (first | omega | (simp (disch := omega) only [ti_ofInt, ti_addc, ti_subc, ti_mulc, ti_cmul, ti_divc, ti_remc, ti_zero, ti_add, ti_sub, ti_neg, if_lt_ti, if_gt_ti, bP_e0, Classical.not_not, tl_i2l]; omega))) only [ti_ofInt, ti_addc, ti_subc, ti_mulc, ti_cmul, ti_divc, ti_remc, ti_zero, ti_add, ti_sub, ti_neg, if_lt_ti, if_gt_ti, bP_e0, Classical.not_not, tl_i2l] at c5
        omega
      · simp (disch := (first | omega | (simp (disch := omega) only [ti_ofInt, ti_addc, ti_subc, ti_mulc, ti_cmul, ti_divc, ti_remc, ti_zero, ti_add, ti_sub, ti_neg, if_lt_ti, if_gt_ti, bP_e0, Classical.not_not, tl_i2l]; omega))) only [ti_ofInt, ti_addc, ti_subc, ti_mulc, ti_cmul, ti_divc, ti_remc, ti_zero, ti_add, ti_sub, ti_neg, if_lt_ti, if_gt_ti, bP_e0, Classical.not_not, tl_i2l] at c5
        omega
      · simp (disch := (first | omega | (simp (disch := omega) only [ti_ofInt, ti_addc, ti_subc, ti_mulc, ti_cmul, ti_divc, ti_remc, ti_zero, ti_add, ti_sub, ti_neg, if_lt_ti, if_gt_ti, bP_e0, Classical.not_not, tl_i2l]; omega))) only [ti_ofInt, ti_addc, ti_subc, ti_mulc, ti_cmul, ti_divc, ti_remc, ti_zero, ti_add, ti_sub, ti_neg, if_lt_ti, if_gt_ti, bP_e0, Classical.not_not, tl_i2l] at c5
        omega
      · simp (disch := (first | omega | (simp (disch := omega) only [ti_ofInt, ti_addc, ti_subc, ti_mulc, ti_cmul, ti_divc, ti_remc, ti_zero, ti_add, ti_sub, ti_neg, if_lt_ti, if_gt_ti, bP_e0, Classical.not_not, tl_i2l]; omega))) only [ti_ofInt, ti_addc, ti_subc, ti_mulc, ti_cmul, ti_divc, ti_remc, ti_zero, ti_add, ti_sub, ti_neg, if_lt_ti, if_gt_ti, bP_e0, Classical.not_not, tl_i2l] at c5
        refine ih (k - 1) (by omega) (i + 1) _ _ (by omega) (by simp (disch := (first | omega | (simp (disch := omega) only [ti_ofInt, ti_addc, ti_subc, ti_mulc, ti_cmul, ti_divc, ti_remc, ti_zero, ti_add, ti_sub, ti_neg, if_lt_ti, if_gt_ti, bP_e0, Classical.not_not, tl_i2l]; omega))) only [ti_ofInt, ti_addc, ti_subc, ti_mulc, ti_cmul, ti_divc, ti_remc, ti_zero, ti_add, ti_sub, ti_neg, if_lt_ti, if_gt_ti, bP_e0, Classical.not_not, tl_i2l]; omega) ?_
        rw [ev]
        have e1 := kBec_step (a0 := 4) (i := i) (q2 := fun a b => ((a = 4 ∨ a = 5) ∧ b < i) ∨ (a = 4 ∧ b = i)) hI (by omega) (fun a b => Iff.rfl)
        exact kBec_step (a0 := 5) (i := i) e1 (by omega) (fun a b => by omega)
  refine (r_iconst C dX1_become_0 (r_istore_n C dX1_become_1 rfl (by decide) ?_))
  refine loop1 26 0 _ _ rfl (by simp (disch := (first | omega | (simp (disch := omega) only [ti_ofInt, ti_addc, ti_subc, ti_mulc, ti_cmul, ti_divc, ti_remc, ti_zero, ti_add, ti_sub, ti_neg, if_lt_ti, if_gt_ti, bP_e0, Classical.not_not, tl_i2l]; omega))) only [ti_ofInt, ti_addc, ti_subc, ti_mulc, ti_cmul, ti_divc, ti_remc, ti_zero, ti_add, ti_sub, ti_neg, if_lt_ti, if_gt_ti, bP_e0, Classical.not_not, tl_i2l]; omega) ?_
  intro a b
  exact ⟨fun h => by omega, fun _ => rfl⟩

