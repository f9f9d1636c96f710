/-! ===== Hands, Lines, stations ===== -/
theorem ok_X11_isStation {x : Int32} {μ : kMem} : kOk yX11_isStation cX11_isStation 1 (some .boolean) rmX11_isStation shK 68 [.int x] μ (kP (bP (0 ≤ x.toInt ∧ x.toInt < 6)) μ) := by
  refine kOk.of rfl (Nat.le_of_ble_eq_true rfl) (fun J C => ?_)
  have C : kR cX11_isStation RX11 1 rmX11_isStation shK 68 (some .boolean) _ J := C
  refine (r_iload_n C dX11_isStation_0 rfl rfl (r_if_lt C (tgt := 14) dX11_isStation_1 rfl (fun c1 => (r_iconst C dX11_isStation_14 (r_zret C dX11_isStation_15 rfl ?_))) (fun c1 => (r_iload_n C dX11_isStation_4 rfl rfl (r_bipush C dX11_isStation_5 (by decide +kernel) (r_icmp_ge C (tgt := 14) dX11_isStation_7 rfl (fun c7 => (r_iconst C dX11_isStation_14 (r_zret C dX11_isStation_15 rfl ?_))) (fun c7 => (r_iconst C dX11_isStation_10 (r_goto C (tgt := 15) dX11_isStation_11 rfl (r_zret C dX11_isStation_15 rfl ?_))))))))))
  · exact ⟨bP_0 (by omega), rfl⟩
  · simp (disch := (first | omega | (simp (disch := omega) only [ti_ofInt, ti_addc, ti_subc, ti_mulc, ti_cmul, ti_divc, ti_remc, ti_zero, ti_add, ti_sub, ti_neg, if_lt_ti, if_gt_ti, bP_e0, Classical.not_not, tl_i2l]; omega))) only [ti_ofInt, ti_addc, ti_subc, ti_mulc, ti_cmul, ti_divc, ti_remc, ti_zero, ti_add, ti_sub, ti_neg, if_lt_ti, if_gt_ti, bP_e0, Classical.not_not, tl_i2l] at c7
    exact ⟨bP_0 (by omega), rfl⟩
  · simp (disch := (first | omega | (simp (disch := omega) only [ti_ofInt, ti_addc, ti_subc, ti_mulc, ti_cmul, ti_divc, ti_remc, ti_zero, ti_add, ti_sub, ti_neg, if_lt_ti, if_gt_ti, bP_e0, Classical.not_not, tl_i2l]; omega))) only [ti_ofInt, ti_addc, ti_subc, ti_mulc, ti_cmul, ti_divc, ti_remc, ti_zero, ti_add, ti_sub, ti_neg, if_lt_ti, if_gt_ti, bP_e0, Classical.not_not, tl_i2l] at c7
    exact ⟨bP_1 (by omega), rfl⟩
theorem ok_X11_areTwoStations {x y : Int32} {μ : kMem} : kOk yX11_areTwoStations cX11_areTwoStations 2 (some .boolean) rmX11_areTwoStations shK 68 [.int x, .int y] μ (kP (bP ((0 ≤ x.toInt ∧ x.toInt < 6) ∧ (0 ≤ y.toInt ∧ y.toInt < 6) ∧ ¬ x.toInt = y.toInt)) μ) := by
  refine kOk.of rfl (Nat.le_of_ble_eq_true rfl) (fun J C => ?_)
  have C : kR cX11_areTwoStations RX11 2 rmX11_areTwoStations shK 68 (some .boolean) _ J := C
  refine (r_iload_n C dX11_areTwoStations_0 rfl rfl (r_s1P C ys_X11_isStation lk_X11_157 dX11_areTwoStations_1 rfl (Nat.le_of_ble_eq_true rfl) ok_X11_isStation (r_if_eq C (tgt := 23) dX11_areTwoStations_4 rfl (fun c4 => (r_iconst C dX11_areTwoStations_23 (r_zret C dX11_areTwoStations_24 rfl ?_))) (fun c4 => (r_iload_n C dX11_areTwoStations_7 rfl rfl (r_s1P C ys_X11_isStation lk_X11_157 dX11_areTwoStations_8 rfl (Nat.le_of_ble_eq_true rfl) ok_X11_isStation (r_if_eq C (tgt := 23) dX11_areTwoStations_11 rfl (fun c11 => (r_iconst C dX11_areTwoStations_23 (r_zret C dX11_areTwoStations_24 rfl ?_))) (fun c11 => (r_iload_n C dX11_areTwoStations_14 rfl rfl (r_iload_n C dX11_areTwoStations_15 rfl rfl (r_icmp_eq C (tgt := 23) dX11_areTwoStations_16 rfl (fun c16 => (r_iconst C dX11_areTwoStations_23 (r_zret C dX11_areTwoStations_24 rfl ?_))) (fun c16 => (r_iconst C dX11_areTwoStations_19 (r_goto C (tgt := 24) dX11_areTwoStations_20 rfl (r_zret C dX11_areTwoStations_24 rfl ?_)))))))))))))))
  · have := bP_e0.mp c4
    exact ⟨bP_0 (fun h => this h.1), rfl⟩
  · have := bP_e0.mp c11
    exact ⟨bP_0 (fun h => this h.2.1), rfl⟩
  · exact ⟨bP_0 (fun h => h.2.2 c16), rfl⟩
  · exact ⟨bP_1 ⟨bP_ne c4, bP_ne c11, c16⟩, rfl⟩
def isSp (x : Int) : Prop := 1 ≤ x / 1000 ∧ x / 1000 ≤ x % 1000 ∧ x % 1000 ≤ 255
theorem isSp_iff (x : Int) : isSp x ↔ 1 ≤ x.tdiv 1000 ∧ x.tdiv 1000 ≤ x - x.tdiv 1000 * 1000 ∧ x - x.tdiv 1000 * 1000 ≤ 255 := by
  unfold isSp
  rcases Int.le_total 0 x with h | h
  · rw [Int.tdiv_eq_ediv_of_nonneg h]
    omega
  · have e : x.tdiv 1000 = -((-x) / 1000) := by
      rw [← Int.tdiv_eq_ediv_of_nonneg (by omega), Int.neg_tdiv, Int.neg_neg]
    rw [e]
    omega
theorem ok_X3_isSpan {x : Int32} {μ : kMem} : kOk yX3_isSpan cX3_isSpan 3 (some .boolean) rmX3_isSpan shK 68 [.int x] μ (kP (bP (isSp x.toInt)) μ) := by
  have e1 : (x / Int32.ofInt 1000).toInt = x.toInt.tdiv 1000 := by
    have e := ti_ofInt (n := 1000) (by omega)
    rw [ti_tdiv (by rw [e]; omega), e]
  have e2 : (krem x (Int32.ofInt 1000)).toInt = x.toInt - x.toInt.tdiv 1000 * 1000 := by
    have e := ti_ofInt (n := 1000) (by omega)
    rw [ti_trem (by rw [e]; omega), e]
  refine kOk.of rfl (Nat.le_of_ble_eq_true rfl) (fun J C => ?_)
  have C : kR cX3_isSpan RX3 3 rmX3_isSpan shK 68 (some .boolean) _ J := C
  refine (r_iload_n C dX3_isSpan_0 rfl rfl (r_sipush C dX3_isSpan_1 (by decide +kernel) (r_idiv C dX3_isSpan_4 (by decide) (r_istore_n C dX3_isSpan_5 rfl (by decide) (r_iload_n C dX3_isSpan_6 rfl rfl (r_sipush C dX3_isSpan_7 (by decide +kernel) (r_irem C dX3_isSpan_10 (by decide) (r_istore_n C dX3_isSpan_11 rfl (by decide) (r_iload_n C dX3_isSpan_12 rfl rfl (r_iconst C dX3_isSpan_13 (r_icmp_lt C (tgt := 33) dX3_isSpan_14 rfl (fun c14 => (r_iconst C dX3_isSpan_33 (r_zret C dX3_isSpan_34 rfl ?_))) (fun c14 => (r_iload_n C dX3_isSpan_17 rfl rfl (r_iload_n C dX3_isSpan_18 rfl rfl (r_icmp_gt C (tgt := 33) dX3_isSpan_19 rfl (fun c19 => (r_iconst C dX3_isSpan_33 (r_zret C dX3_isSpan_34 rfl ?_))) (fun c19 => (r_iload_n C dX3_isSpan_22 rfl rfl (r_sipush C dX3_isSpan_23 (by decide +kernel) (r_icmp_gt C (tgt := 33) dX3_isSpan_26 rfl (fun c26 => (r_iconst C dX3_isSpan_33 (r_zret C dX3_isSpan_34 rfl ?_))) (fun c26 => (r_iconst C dX3_isSpan_29 (r_goto C (tgt := 34) dX3_isSpan_30 rfl (r_zret C dX3_isSpan_34 rfl ?_)))))))))))))))))))))))
  · simp (disch := (first | omega | (simp (disch := omega) only [ti_ofInt, ti_addc, ti_subc, ti_mulc, ti_cmul, ti_divc, ti_remc, ti_zero, ti_add, ti_sub, ti_neg, if_lt_ti, if_gt_ti, bP_e0, Classical.not_not, tl_i2l]; omega))) only [ti_ofInt, ti_addc, ti_subc, ti_mulc, ti_cmul, ti_divc, ti_remc, ti_zero, ti_add, ti_sub, ti_neg, if_lt_ti, if_gt_ti, bP_e0, Classical.not_not, tl_i2l] at c14
    rw [e1] at c14
    refine ⟨bP_0 ?_, rfl⟩
    rw [isSp_iff]; omega
  · rw [e1, e2] at c19
    refine ⟨bP_0 ?_, rfl⟩
    rw [isSp_iff]; omega
  · rw [e1, e2] at c19
    rw [e2, ti_ofInt (by omega)] at c26
    refine ⟨bP_0 ?_, rfl⟩
    rw [isSp_iff]; omega
  · rw [e1, e2] at c19
    rw [e2, ti_ofInt (by omega)] at c26
    rw [e1, ti_ofInt (by omega)] at c14
    refine ⟨bP_1 ?_, rfl⟩
    rw [isSp_iff]; omega
theorem ok_X3_size {μ : kMem} : kOk yX3_size cX3_size 1 (some .int) rmX3_size shK 68 [.ref 16] μ (kP (μ.1 16 1) μ) := by
  refine kOk.of rfl (Nat.le_of_ble_eq_true rfl) (fun J C => ?_)
  have C : kR cX3_size RX3 1 rmX3_size shK 68 (some .int) _ J := C
  refine (r_aload_n C dX3_size_0 rfl rfl (r_getI C dX3_size_1 fd_X3_15 nK_16 sK_16 rfl (r_iret C dX3_size_4 ?_)))
  exact ⟨rfl, rfl⟩
theorem ok_X3_has {x : Int32} {μ : kMem} : kOk yX3_has cX3_has 2 (some .boolean) rmX3_has shK 68 [.ref 16, .int x] μ (kP (bP (0 ≤ x.toInt ∧ x.toInt < (μ.1 16 1).toInt)) μ) := by
  refine kOk.of rfl (Nat.le_of_ble_eq_true rfl) (fun J C => ?_)
  have C : kR cX3_has RX3 2 rmX3_has shK 68 (some .boolean) _ J := C
  refine (r_iload_n C dX3_has_0 rfl rfl (r_if_lt C (tgt := 16) dX3_has_1 rfl (fun c1 => (r_iconst C dX3_has_16 (r_zret C dX3_has_17 rfl ?_))) (fun c1 => (r_iload_n C dX3_has_4 rfl rfl (r_aload_n C dX3_has_5 rfl rfl (r_getI C dX3_has_6 fd_X3_15 nK_16 sK_16 rfl (r_icmp_ge C (tgt := 16) dX3_has_9 rfl (fun c9 => (r_iconst C dX3_has_16 (r_zret C dX3_has_17 rfl ?_))) (fun c9 => (r_iconst C dX3_has_12 (r_goto C (tgt := 17) dX3_has_13 rfl (r_zret C dX3_has_17 rfl ?_)))))))))))
  · exact ⟨bP_0 (by omega), rfl⟩
  · exact ⟨bP_0 (by omega), rfl⟩
  · exact ⟨bP_1 (by omega), rfl⟩
def kAddH (μ : kMem) (v : Nat → Int32) (μ' : kMem) : Prop := ∀ a b : Nat, μ'.1 a b = if a = 16 ∧ b = 1 then Int32.ofInt ((μ.1 16 1).toInt + 1) else if a = 17 ∧ (μ.1 16 1).toInt.toNat * 5 ≤ b ∧ b < (μ.1 16 1).toInt.toNat * 5 + 5 then v (b - (μ.1 16 1).toInt.toNat * 5) else μ.1 a b
def k5 (a b c d e : Int32) : Nat → Int32 := fun i => if i = 0 then a else if i = 1 then b else if i = 2 then c else if i = 3 then d else e
theorem ok_X3_add {x1 x2 x3 x4 x5 : Int32} {μ : kMem} (h : 0 ≤ (μ.1 16 1).toInt ∧ (μ.1 16 1).toInt ≤ 8) : kOk yX3_add cX3_add 7 (some .int) rmX3_add shK 68 [.ref 16, .int x1, .int x2, .int x3, .int x4, .int x5] μ (kI fun r μ' => ((μ.1 16 1).toInt < 8 ∧ r = μ.1 16 1 ∧ kAddH μ (k5 x1 x2 x3 x4 x5) μ') ∨ ((μ.1 16 1).toInt = 8 ∧ r = Int32.ofInt (-1) ∧ μ' = μ)) := by
  obtain ⟨n, hn⟩ : ∃ n : Nat, (μ.1 16 1).toInt = n := ⟨(μ.1 16 1).toInt.toNat, by omega⟩
  have m0 : n ≤ 7 → (μ.1 16 1 * Int32.ofInt 5).toInt = n * 5 := fun q => by simp (disch := (first | omega | (simp (disch := omega) only [ti_ofInt, ti_addc, ti_subc, ti_mulc, ti_cmul, ti_divc, ti_remc, ti_zero, ti_add, ti_sub, ti_neg, if_lt_ti, if_gt_ti, bP_e0, Classical.not_not, tl_i2l]; omega))) only [ti_ofInt, ti_addc, ti_subc, ti_mulc, ti_cmul, ti_divc, ti_remc, ti_zero, ti_add, ti_sub, ti_neg, if_lt_ti, if_gt_ti, bP_e0, Classical.not_not, tl_i2l]; omega
  have m1 : n ≤ 7 → (μ.1 16 1 * Int32.ofInt 5 + Int32.ofInt 1).toInt = n * 5 + 1 := fun q => by rw [← hn]; simp (disch := (first | omega | (simp (disch := (first | omega | (simp (disch := (first | omega | (simp (disch := omega) only [ti_ofInt, ti_addc, ti_subc, ti_mulc, ti_cmul, ti_divc, ti_remc, ti_zero, ti_add, ti_sub, ti_neg, if_lt_ti, if_gt_ti, bP_e0, Classical.not_not, tl_i2l]; omega))) only [ti_ofInt, ti_addc, ti_subc, ti_mulc, ti_cmul, ti_divc, ti_remc, ti_zero, ti_add, ti_sub, ti_neg, if_lt_ti, if_gt_ti, bP_e0, Classical.not_not, tl_i2l]; omega))) only [ti_ofInt, ti_addc, ti_subc, ti_mulc, ti_cmul, ti_divc, ti_remc, ti_zero, ti_add, ti_sub, ti_neg, if_lt_ti, if_gt_ti, bP_e0, Classical.not_not, tl_i2l]; omega))) only [ti_ofInt, ti_addc, ti_subc, ti_mulc, ti_cmul, ti_divc, ti_remc, ti_zero, ti_add, ti_sub, ti_neg, if_lt_ti, if_gt_ti, bP_e0, Classical.not_not, tl_i2l]
  have m2 : n ≤ 7 → (μ.1 16 1 * Int32.ofInt 5 + Int32.ofInt 2).toInt = n * 5 + 2 := fun q => by rw [← hn]; simp (disch := (first | omega | (simp (disch := (first | omega | (simp (disch := (first | omega | (simp (disch := omega) only [ti_ofInt, ti_addc, ti_subc, ti_mulc, ti_cmul, ti_divc, ti_remc, ti_zero, ti_add, ti_sub, ti_neg, if_lt_ti, if_gt_ti, bP_e0, Classical.not_not, tl_i2l]; omega))) only [ti_ofInt, ti_addc, ti_subc, ti_mulc, ti_cmul, ti_divc, ti_remc, ti_zero, ti_add, ti_sub, ti_neg, if_lt_ti, if_gt_ti, bP_e0, Classical.not_not, tl_i2l]; omega))) only [ti_ofInt, ti_addc, ti_subc, ti_mulc, ti_cmul, ti_divc, ti_remc, ti_zero, ti_add, ti_sub, ti_neg, if_lt_ti, if_gt_ti, bP_e0, Classical.not_not, tl_i2l]; omega))) only [ti_ofInt, ti_addc, ti_subc, ti_mulc, ti_cmul, ti_divc, ti_remc, ti_zero, ti_add, ti_sub, ti_neg, if_lt_ti, if_gt_ti, bP_e0, Classical.not_not, tl_i2l]
  have m3 : n ≤ 7 → (μ.1 16 1 * Int32.ofInt 5 + Int32.ofInt 3).toInt = n * 5 + 3 := fun q => by rw [← hn]; simp (disch := (first | omega | (simp (disch := (first | omega | (simp (disch := (first | omega | (simp (disch := omega) only [ti_ofInt, ti_addc, ti_subc, ti_mulc, ti_cmul, ti_divc, ti_remc, ti_zero, ti_add, ti_sub, ti_neg, if_lt_ti, if_gt_ti, bP_e0, Classical.not_not, tl_i2l]; omega))) only [ti_ofInt, ti_addc, ti_subc, ti_mulc, ti_cmul, ti_divc, ti_remc, ti_zero, ti_add, ti_sub, ti_neg, if_lt_ti, if_gt_ti, bP_e0, Classical.not_not, tl_i2l]; omega))) only [ti_ofInt, ti_addc, ti_subc, ti_mulc, ti_cmul, ti_divc, ti_remc, ti_zero, ti_add, ti_sub, ti_neg, if_lt_ti, if_gt_ti, bP_e0, Classical.not_not, tl_i2l]; omega))) only [ti_ofInt, ti_addc, ti_subc, ti_mulc, ti_cmul, ti_divc, ti_remc, ti_zero, ti_add, ti_sub, ti_neg, if_lt_ti, if_gt_ti, bP_e0, Classical.not_not, tl_i2l]
  have m4 : n ≤ 7 → (μ.1 16 1 * Int32.ofInt 5 + Int32.ofInt 4).toInt = n * 5 + 4 := fun q => by rw [← hn]; simp (disch := (first | omega | (simp (disch := (first | omega | (simp (disch := (first | omega | (simp (disch := omega) only [ti_ofInt, ti_addc, ti_subc, ti_mulc, ti_cmul, ti_divc, ti_remc, ti_zero, ti_add, ti_sub, ti_neg, if_lt_ti, if_gt_ti, bP_e0, Classical.not_not, tl_i2l]; omega))) only [ti_ofInt, ti_addc, ti_subc, ti_mulc, ti_cmul, ti_divc, ti_remc, ti_zero, ti_add, ti_sub, ti_neg, if_lt_ti, if_gt_ti, bP_e0, Classical.not_not, tl_i2l]; omega))) only [ti_ofInt, ti_addc, ti_subc, ti_mulc, ti_cmul, ti_divc, ti_remc, ti_zero, ti_add, ti_sub, ti_neg, if_lt_ti, if_gt_ti, bP_e0, Classical.not_not, tl_i2l]; omega))) only [ti_ofInt, ti_addc, ti_subc, ti_mulc, ti_cmul, ti_divc, ti_remc, ti_zero, ti_add, ti_sub, ti_neg, if_lt_ti, if_gt_ti, bP_e0, Classical.not_not, tl_i2l]
  refine kOk.of rfl (Nat.le_of_ble_eq_true rfl) (fun J C => ?_)
  have C : kR cX3_add RX3 7 rmX3_add shK 68 (some .int) _ J := C
  refine (r_aload_n C dX3_add_0 rfl rfl (r_getI C dX3_add_1 fd_X3_15 nK_16 sK_16 rfl (r_bipush C dX3_add_4 (by decide +kernel) (r_icmp_lt C (tgt := 11) dX3_add_6 rfl (fun c6 => (r_aload_n C dX3_add_11 rfl rfl (r_getI C dX3_add_12 fd_X3_15 nK_16 sK_16 rfl (r_iconst C dX3_add_15 (r_imul C dX3_add_16 (r_istore C dX3_add_17 (by decide) (r_aload_n C dX3_add_19 rfl rfl (r_getR C dX3_add_20 fd_X3_11 nK_16 sK_16 rfl (r_iload C dX3_add_23 rfl (r_iload_n C dX3_add_25 rfl rfl (r_iast C dX3_add_26 nK_17 sK_17 ?_ (r_aload_n C dX3_add_27 rfl rfl (r_getR C dX3_add_28 fd_X3_11 nK_16 sK_16 rfl (r_iload C dX3_add_31 rfl (r_iconst C dX3_add_33 (r_iadd C dX3_add_34 (r_iload_n C dX3_add_35 rfl rfl (r_iast C dX3_add_36 nK_17 sK_17 ?_ (r_aload_n C dX3_add_37 rfl rfl (r_getR C dX3_add_38 fd_X3_11 nK_16 sK_16 rfl (r_iload C dX3_add_41 rfl (r_iconst C dX3_add_43 (r_iadd C dX3_add_44 (r_iload_n C dX3_add_45 rfl rfl (r_iast C dX3_add_46 nK_17 sK_17 ?_ (r_aload_n C dX3_add_47 rfl rfl (r_getR C dX3_add_48 fd_X3_11 nK_16 sK_16 rfl (r_iload C dX3_add_51 rfl (r_iconst C dX3_add_53 (r_iadd C dX3_add_54 (r_iload C dX3_add_55 rfl (r_iast C dX3_add_57 nK_17 sK_17 ?_ (r_aload_n C dX3_add_58 rfl rfl (r_getR C dX3_add_59 fd_X3_11 nK_16 sK_16 rfl (r_iload C dX3_add_62 rfl (r_iconst C dX3_add_64 (r_iadd C dX3_add_65 (r_iload C dX3_add_66 rfl (r_iast C dX3_add_68 nK_17 sK_17 ?_ (r_aload_n C dX3_add_69 rfl rfl (r_dup C dX3_add_70 rfl (r_getI C dX3_add_71 fd_X3_15 nK_16 sK_16 rfl (r_iconst C dX3_add_74 (r_iadd C dX3_add_75 (r_putI C dX3_add_76 fw_X3_15 nK_16 sK_16 rfl (r_aload_n C dX3_add_79 rfl rfl (r_getI C dX3_add_80 fd_X3_15 nK_16 sK_16 rfl (r_iconst C dX3_add_83 (r_isub C dX3_add_84 (r_iret C dX3_add_85 ?_)))))))))))))))))))))))))))))))))))))))))))))))))) (fun c6 => (r_iconst C dX3_add_9 (r_iret C dX3_add_10 ?_)))))))
  · simp (disch := (first | omega | (simp (disch := omega) only [ti_ofInt, ti_addc, ti_subc, ti_mulc, ti_cmul, ti_divc, ti_remc, ti_zero, ti_add, ti_sub, ti_neg, if_lt_ti, if_gt_ti, bP_e0, Classical.not_not, tl_i2l]; omega))) only [ti_ofInt, ti_addc, ti_subc, ti_mulc, ti_cmul, ti_divc, ti_remc, ti_zero, ti_add, ti_sub, ti_neg, if_lt_ti, if_gt_ti, bP_e0, Classical.not_not, tl_i2l] at c6
    rw [m0 (by omega)]; omega
  · simp (disch := (first | omega | (simp (disch := omega) only [ti_ofInt, ti_addc, ti_subc, ti_mulc, ti_cmul, ti_divc, ti_remc, ti_zero, ti_add, ti_sub, ti_neg, if_lt_ti, if_gt_ti, bP_e0, Classical.not_not, tl_i2l]; omega))) only [ti_ofInt, ti_addc, ti_subc, ti_mulc, ti_cmul, ti_divc, ti_remc, ti_zero, ti_add, ti_sub, ti_neg, if_lt_ti, if_gt_ti, bP_e0, Classical.not_not, tl_i2l] at c6
    rw [m1 (by omega)]; omega
  · simp (disch := (first | omega | (simp (disch := omega) only [ti_ofInt, ti_addc, ti_subc, ti_mulc, ti_cmul, ti_divc, ti_remc, ti_zero, ti_add, ti_sub, ti_neg, if_lt_ti, if_gt_ti, bP_e0, Classical.not_not, tl_i2l]; omega))) only [ti_ofInt, ti_addc, ti_subc, ti_mulc, ti_cmul, ti_divc, ti_remc, ti_zero, ti_add, ti_sub, ti_neg, if_lt_ti, if_gt_ti, bP_e0, Classical.not_not, tl_i2l] at c6
    rw [m2 (by omega)]; omega
  · simp (disch := (first | omega | (simp (disch := omega) only [ti_ofInt, ti_addc, ti_subc, ti_mulc, ti_cmul, ti_divc, ti_remc, ti_zero, ti_add, ti_sub, ti_neg, if_lt_ti, if_gt_ti, bP_e0, Classical.not_not, tl_i2l]; omega))) only [ti_ofInt, ti_addc, ti_subc, ti_mulc, ti_cmul, ti_divc, ti_remc, ti_zero, ti_add, ti_sub, ti_neg, if_lt_ti, if_gt_ti, bP_e0, Classical.not_not, tl_i2l] at c6
    rw [m3 (by omega)]; omega
  · simp (disch := (first | omega | (simp (disch := omega) only [ti_ofInt, ti_addc, ti_subc, ti_mulc, ti_cmul, ti_divc, ti_remc, ti_zero, ti_add, ti_sub, ti_neg, if_lt_ti, if_gt_ti, bP_e0, Classical.not_not, tl_i2l]; omega))) only [ti_ofInt, ti_addc, ti_subc, ti_mulc, ti_cmul, ti_divc, ti_remc, ti_zero, ti_add, ti_sub, ti_neg, if_lt_ti, if_gt_ti, bP_e0, Classical.not_not, tl_i2l] at c6
    rw [m4 (by omega)]; omega
  · simp (disch := (first | omega | (simp (disch := omega) only [ti_ofInt, ti_addc, ti_subc, ti_mulc, ti_cmul, ti_divc, ti_remc, ti_zero, ti_add, ti_sub, ti_neg, if_lt_ti, if_gt_ti, bP_e0, Classical.not_not, tl_i2l]; omega))) only [ti_ofInt, ti_addc, ti_subc, ti_mulc, ti_cmul, ti_divc, ti_remc, ti_zero, ti_add, ti_sub, ti_neg, if_lt_ti, if_gt_ti, bP_e0, Classical.not_not, tl_i2l] at c6
    rw [m0 (by omega), m1 (by omega), m2 (by omega), m3 (by omega), m4 (by omega)]
    have es : (μ.1 16 1 + Int32.ofInt 1).toInt = n + 1 := by simp (disch := (first | omega | (simp (disch := omega) only [ti_ofInt, ti_addc, ti_subc, ti_mulc, ti_cmul, ti_divc, ti_remc, ti_zero, ti_add, ti_sub, ti_neg, if_lt_ti, if_gt_ti, bP_e0, Classical.not_not, tl_i2l]; omega))) only [ti_ofInt, ti_addc, ti_subc, ti_mulc, ti_cmul, ti_divc, ti_remc, ti_zero, ti_add, ti_sub, ti_neg, if_lt_ti, if_gt_ti, bP_e0, Classical.not_not, tl_i2l]; omega
    refine Or.inl ⟨c6, ?_, ?_⟩
    · simp (disch := decide) only [up_same, up_neo, up_nek, up_2]
      refine ti_ext ?_
      rw [ti_subc (by rw [es]; omega), es]
      omega
    · intro a b
      simp (disch := decide) only [up_same, up_neo, up_nek, up_2]
      simp only [up]
      rw [hn]
      by_cases h1 : a = 16 ∧ b = 1
      · rw [if_pos h1, if_pos h1]
        exact ti_ext (by rw [es, ti_ofInt (by omega)])
      · rw [if_neg h1, if_neg h1]
        by_cases h2 : a = 17 ∧ n * 5 ≤ b ∧ b < n * 5 + 5
        · rw [if_pos (show a = 17 ∧ (n : Int).toNat * 5 ≤ b ∧ b < (n : Int).toNat * 5 + 5 by omega)]
          obtain ⟨rfl, h3, h4⟩ := h2
          obtain ⟨j, rfl⟩ : ∃ j, b = n * 5 + j := ⟨b - n * 5, by omega⟩
          rw [show n * 5 + j - (n : Int).toNat * 5 = j by omega]
          unfold k5
          rcases (show j = 0 ∨ j = 1 ∨ j = 2 ∨ j = 3 ∨ j = 4 by omega) with rfl | rfl | rfl | rfl | rfl
          · rw [if_neg (by omega), if_neg (by omega), if_neg (by omega), if_neg (by omega), if_pos (by omega), if_pos rfl]
          · rw [if_neg (by omega), if_neg (by omega), if_neg (by omega), if_pos (by omega), if_neg (by omega), if_pos rfl]
          · rw [if_neg (by omega), if_neg (by omega), if_pos (by omega), if_neg (by omega), if_neg (by omega), if_pos rfl]
          · rw [if_neg (by omega), if_pos (by omega), if_neg (by omega), if_neg (by omega), if_neg (by omega), if_pos rfl]
          · rw [if_pos (by omega), if_neg (by omega), if_neg (by omega), if_neg (by omega), if_neg (by omega)]
        · rw [if_neg (by omega), if_neg (by omega), if_neg (by omega), if_neg (by omega), if_neg (by omega), if_neg (by omega)]
  · simp (disch := (first | omega | (simp (disch := omega) only [ti_ofInt, ti_addc, ti_subc, ti_mulc, ti_cmul, ti_divc, ti_remc, ti_zero, ti_add, ti_sub, ti_neg, if_lt_ti, if_gt_ti, bP_e0, Classical.not_not, tl_i2l]; omega))) only [ti_ofInt, ti_addc, ti_subc, ti_mulc, ti_cmul, ti_divc, ti_remc, ti_zero, ti_add, ti_sub, ti_neg, if_lt_ti, if_gt_ti, bP_e0, Classical.not_not, tl_i2l] at c6
    exact Or.inr ⟨by omega, rfl, rfl⟩
def ksp (μ : kMem) (x k : Int) : Int32 := if 0 ≤ x ∧ x < (μ.1 16 1).toInt ∧ 0 ≤ k ∧ k < 5 then μ.1 17 (x * 5 + k).toNat else Int32.ofInt 0
theorem ok_X3_spanOf {x k : Int32} {μ : kMem} (h : (μ.1 16 1).toInt ≤ 8) : kOk yX3_spanOf cX3_spanOf 3 (some .int) rmX3_spanOf shK 68 [.ref 16, .int x, .int k] μ (kP (ksp μ x.toInt k.toInt) μ) := by
  unfold ksp
  refine kOk.of rfl (Nat.le_of_ble_eq_true rfl) (fun J C => ?_)
  have C : kR cX3_spanOf RX3 3 rmX3_spanOf shK 68 (some .int) _ J := C
  refine (r_aload_n C dX3_spanOf_0 rfl rfl (r_iload_n C dX3_spanOf_1 rfl rfl (r_v1P C yv_X3_has lk_X3_29 dX3_spanOf_2 rfl nK_16 sK_16 rfl (Nat.le_of_ble_eq_true rfl) ok_X3_has (r_if_eq C (tgt := 30) dX3_spanOf_5 rfl (fun c5 => (r_iconst C dX3_spanOf_30 (r_iret C dX3_spanOf_31 ?_))) (fun c5 => (r_iload_n C dX3_spanOf_8 rfl rfl (r_if_lt C (tgt := 30) dX3_spanOf_9 rfl (fun c9 => (r_iconst C dX3_spanOf_30 (r_iret C dX3_spanOf_31 ?_))) (fun c9 => (r_iload_n C dX3_spanOf_12 rfl rfl (r_iconst C dX3_spanOf_13 (r_icmp_ge C (tgt := 30) dX3_spanOf_14 rfl (fun c14 => (r_iconst C dX3_spanOf_30 (r_iret C dX3_spanOf_31 ?_))) (fun c14 => (r_aload_n C dX3_spanOf_17 rfl rfl (r_getR C dX3_spanOf_18 fd_X3_11 nK_16 sK_16 rfl (r_iload_n C dX3_spanOf_21 rfl rfl (r_iconst C dX3_spanOf_22 (r_imul C dX3_spanOf_23 (r_iload_n C dX3_spanOf_24 rfl rfl (r_iadd C dX3_spanOf_25 (r_iald C dX3_spanOf_26 nK_17 sK_17 ?_ (r_goto C (tgt := 31) dX3_spanOf_27 rfl (r_iret C dX3_spanOf_31 ?_))))))))))))))))))))))
  · have := bP_e0.mp c5
    exact ⟨(if_neg (by omega)).symm, rfl⟩
  · exact ⟨(if_neg (by omega)).symm, rfl⟩
  · simp (disch := (first | omega | (simp (disch := omega) only [ti_ofInt, ti_addc, ti_subc, ti_mulc, ti_cmul, ti_divc, ti_remc, ti_zero, ti_add, ti_sub, ti_neg, if_lt_ti, if_gt_ti, bP_e0, Classical.not_not, tl_i2l]; omega))) only [ti_ofInt, ti_addc, ti_subc, ti_mulc, ti_cmul, ti_divc, ti_remc, ti_zero, ti_add, ti_sub, ti_neg, if_lt_ti, if_gt_ti, bP_e0, Classical.not_not, tl_i2l] at c14
    exact ⟨(if_neg (by omega)).symm, rfl⟩
  · simp (disch := (first | omega | (simp (disch := omega) only [ti_ofInt, ti_addc, ti_subc, ti_mulc, ti_cmul, ti_divc, ti_remc, ti_zero, ti_add, ti_sub, ti_neg, if_lt_ti, if_gt_ti, bP_e0, Classical.not_not, tl_i2l]; omega))) only [ti_ofInt, ti_addc, ti_subc, ti_mulc, ti_cmul, ti_divc, ti_remc, ti_zero, ti_add, ti_sub, ti_neg, if_lt_ti, if_gt_ti, bP_e0, Classical.not_not, tl_i2l] at c14
    have := bP_ne c5
    simp (disch := (first | omega | (simp (disch := (first | omega | (simp (disch := (first | omega | (simp (disch := omega) only [ti_ofInt, ti_addc, ti_subc, ti_mulc, ti_cmul, ti_divc, ti_remc, ti_zero, ti_add, ti_sub, ti_neg, if_lt_ti, if_gt_ti, bP_e0, Classical.not_not, tl_i2l]; omega))) only [ti_ofInt, ti_addc, ti_subc, ti_mulc, ti_cmul, ti_divc, ti_remc, ti_zero, ti_add, ti_sub, ti_neg, if_lt_ti, if_gt_ti, bP_e0, Classical.not_not, tl_i2l]; omega))) only [ti_ofInt, ti_addc, ti_subc, ti_mulc, ti_cmul, ti_divc, ti_remc, ti_zero, ti_add, ti_sub, ti_neg, if_lt_ti, if_gt_ti, bP_e0, Classical.not_not, tl_i2l]; omega))) only [ti_ofInt, ti_addc, ti_subc, ti_mulc, ti_cmul, ti_divc, ti_remc, ti_zero, ti_add, ti_sub, ti_neg, if_lt_ti, if_gt_ti, bP_e0, Classical.not_not, tl_i2l]
    omega
  · simp (disch := (first | omega | (simp (disch := omega) only [ti_ofInt, ti_addc, ti_subc, ti_mulc, ti_cmul, ti_divc, ti_remc, ti_zero, ti_add, ti_sub, ti_neg, if_lt_ti, if_gt_ti, bP_e0, Classical.not_not, tl_i2l]; omega))) only [ti_ofInt, ti_addc, ti_subc, ti_mulc, ti_cmul, ti_divc, ti_remc, ti_zero, ti_add, ti_sub, ti_neg, if_lt_ti, if_gt_ti, bP_e0, Classical.not_not, tl_i2l] at c14
    have := bP_ne c5
    have e : (x * Int32.ofInt 5 + k).toInt = x.toInt * 5 + k.toInt := by simp (disch := (first | omega | (simp (disch := (first | omega | (simp (disch := (first | omega | (simp (disch := omega) only [ti_ofInt, ti_addc, ti_subc, ti_mulc, ti_cmul, ti_divc, ti_remc, ti_zero, ti_add, ti_sub, ti_neg, if_lt_ti, if_gt_ti, bP_e0, Classical.not_not, tl_i2l]; omega))) only [ti_ofInt, ti_addc, ti_subc, ti_mulc, ti_cmul, ti_divc, ti_remc, ti_zero, ti_add, ti_sub, ti_neg, if_lt_ti, if_gt_ti, bP_e0, Classical.not_not, tl_i2l]; omega))) only [ti_ofInt, ti_addc, ti_subc, ti_mulc, ti_cmul, ti_divc, ti_remc, ti_zero, ti_add, ti_sub, ti_neg, if_lt_ti, if_gt_ti, bP_e0, Classical.not_not, tl_i2l]; omega))) only [ti_ofInt, ti_addc, ti_subc, ti_mulc, ti_cmul, ti_divc, ti_remc, ti_zero, ti_add, ti_sub, ti_neg, if_lt_ti, if_gt_ti, bP_e0, Classical.not_not, tl_i2l]
    rw [e]
    exact ⟨(if_pos (by omega)).symm, rfl⟩
/-- every span is one that can be, or nothing -/
def kSpOk (μ : kMem) : Prop := ∀ i : Nat, (μ.1 17 i).toInt = 0 ∨ isSp (μ.1 17 i).toInt
theorem ksp_b {μ : kMem} (h : kSpOk μ) (x k : Int) : 0 ≤ (ksp μ x k).toInt ∧ (ksp μ x k).toInt ≤ 255255 ∧ ((ksp μ x k).toInt = 0 ∨ isSp (ksp μ x k).toInt) := by
  unfold ksp
  split
  · have := h (x * 5 + k).toNat
    unfold isSp at this ⊢
    omega
  · rw [ti_ofInt (by omega)]
    omega
def kle (μ : kMem) (x k : Int) : Int := (ksp μ x k).toInt / 1000
def kge (μ : kMem) (x k : Int) : Int := (ksp μ x k).toInt % 1000
theorem ok_X3_leastOf {x k : Int32} {μ : kMem} (h : (μ.1 16 1).toInt ≤ 8 ∧ kSpOk μ) : kOk yX3_leastOf cX3_leastOf 3 (some .int) rmX3_leastOf shK 68 [.ref 16, .int x, .int k] μ (kP (Int32.ofInt (kle μ x.toInt k.toInt)) μ) := by
  have hb := ksp_b h.2 x.toInt k.toInt
  refine kOk.of rfl (Nat.le_of_ble_eq_true rfl) (fun J C => ?_)
  have C : kR cX3_leastOf RX3 3 rmX3_leastOf shK 68 (some .int) _ J := C
  refine (r_aload_n C dX3_leastOf_0 rfl rfl (r_iload_n C dX3_leastOf_1 rfl rfl (r_iload_n C dX3_leastOf_2 rfl rfl (r_v2P C yv_X3_spanOf lk_X3_19 dX3_leastOf_3 rfl nK_16 sK_16 rfl (Nat.le_of_ble_eq_true rfl) (ok_X3_spanOf ?_) (r_sipush C dX3_leastOf_6 (by decide +kernel) (r_idiv C dX3_leastOf_9 (by decide) (r_iret C dX3_leastOf_10 ?_)))))))
  · exact h.1
  · refine ⟨ti_ext ?_, rfl⟩
    unfold kle
    rw [ti_ofInt (by omega)]
    simp (disch := (first | omega | (simp (disch := omega) only [ti_ofInt, ti_addc, ti_subc, ti_mulc, ti_cmul, ti_divc, ti_remc, ti_zero, ti_add, ti_sub, ti_neg, if_lt_ti, if_gt_ti, bP_e0, Classical.not_not, tl_i2l]; omega))) only [ti_ofInt, ti_addc, ti_subc, ti_mulc, ti_cmul, ti_divc, ti_remc, ti_zero, ti_add, ti_sub, ti_neg, if_lt_ti, if_gt_ti, bP_e0, Classical.not_not, tl_i2l]
theorem ok_X3_greatestOf {x k : Int32} {μ : kMem} (h : (μ.1 16 1).toInt ≤ 8 ∧ kSpOk μ) : kOk yX3_greatestOf cX3_greatestOf 3 (some .int) rmX3_greatestOf shK 68 [.ref 16, .int x, .int k] μ (kP (Int32.ofInt (kge μ x.toInt k.toInt)) μ) := by
  have hb := ksp_b h.2 x.toInt k.toInt
  refine kOk.of rfl (Nat.le_of_ble_eq_true rfl) (fun J C => ?_)
  have C : kR cX3_greatestOf RX3 3 rmX3_greatestOf shK 68 (some .int) _ J := C
  refine (r_aload_n C dX3_greatestOf_0 rfl rfl (r_iload_n C dX3_greatestOf_1 rfl rfl (r_iload_n C dX3_greatestOf_2 rfl rfl (r_v2P C yv_X3_spanOf lk_X3_19 dX3_greatestOf_3 rfl nK_16 sK_16 rfl (Nat.le_of_ble_eq_true rfl) (ok_X3_spanOf ?_) (r_sipush C dX3_greatestOf_6 (by decide +kernel) (r_irem C dX3_greatestOf_9 (by decide) (r_iret C dX3_greatestOf_10 ?_)))))))
  · exact h.1
  · refine ⟨ti_ext ?_, rfl⟩
    unfold kge
    rw [ti_ofInt (by omega)]
    simp (disch := (first | omega | (simp (disch := omega) only [ti_ofInt, ti_addc, ti_subc, ti_mulc, ti_cmul, ti_divc, ti_remc, ti_zero, ti_add, ti_sub, ti_neg, if_lt_ti, if_gt_ti, bP_e0, Classical.not_not, tl_i2l]; omega))) only [ti_ofInt, ti_addc, ti_subc, ti_mulc, ti_cmul, ti_divc, ti_remc, ti_zero, ti_add, ti_sub, ti_neg, if_lt_ti, if_gt_ti, bP_e0, Classical.not_not, tl_i2l]
theorem ok_X3_choicesOf {x k : Int32} {μ : kMem} (h : (μ.1 16 1).toInt ≤ 8 ∧ kSpOk μ) : kOk yX3_choicesOf cX3_choicesOf 3 (some .int) rmX3_choicesOf shK 68 [.ref 16, .int x, .int k] μ (kP (Int32.ofInt (kge μ x.toInt k.toInt - kle μ x.toInt k.toInt + 1)) μ) := by
  have hb := ksp_b h.2 x.toInt k.toInt
  refine kOk.of rfl (Nat.le_of_ble_eq_true rfl) (fun J C => ?_)
  have C : kR cX3_choicesOf RX3 3 rmX3_choicesOf shK 68 (some .int) _ J := C
  refine (r_aload_n C dX3_choicesOf_0 rfl rfl (r_iload_n C dX3_choicesOf_1 rfl rfl (r_iload_n C dX3_choicesOf_2 rfl rfl (r_v2P C yv_X3_greatestOf lk_X3_23 dX3_choicesOf_3 rfl nK_16 sK_16 rfl (Nat.le_of_ble_eq_true rfl) (ok_X3_greatestOf ?_) (r_aload_n C dX3_choicesOf_6 rfl rfl (r_iload_n C dX3_choicesOf_7 rfl rfl (r_iload_n C dX3_choicesOf_8 rfl rfl (r_v2P C yv_X3_leastOf lk_X3_26 dX3_choicesOf_9 rfl nK_16 sK_16 rfl (Nat.le_of_ble_eq_true rfl) (ok_X3_leastOf ?_) (r_isub C dX3_choicesOf_12 (r_iconst C dX3_choicesOf_13 (r_iadd C dX3_choicesOf_14 (r_iret C dX3_choicesOf_15 ?_))))))))))))
  · exact h
  · exact h
  · refine ⟨ti_ext ?_, rfl⟩
    unfold kge kle
    rw [ti_ofInt (by omega)]
    simp (disch := (first | omega | (simp (disch := (first | omega | (simp (disch := (first | omega | (simp (disch := omega) only [ti_ofInt, ti_addc, ti_subc, ti_mulc, ti_cmul, ti_divc, ti_remc, ti_zero, ti_add, ti_sub, ti_neg, if_lt_ti, if_gt_ti, bP_e0, Classical.not_not, tl_i2l]; omega))) only [ti_ofInt, ti_addc, ti_subc, ti_mulc, ti_cmul, ti_divc, ti_remc, ti_zero, ti_add, ti_sub, ti_neg, if_lt_ti, if_gt_ti, bP_e0, Classical.not_not, tl_i2l]; omega))) only [ti_ofInt, ti_addc, ti_subc, ti_mulc, ti_cmul, ti_divc, ti_remc, ti_zero, ti_add, ti_sub, ti_neg, if_lt_ti, if_gt_ti, bP_e0, Classical.not_not, tl_i2l]; omega))) only [ti_ofInt, ti_addc, ti_subc, ti_mulc, ti_cmul, ti_divc, ti_remc, ti_zero, ti_add, ti_sub, ti_neg, if_lt_ti, if_gt_ti, bP_e0, Classical.not_not, tl_i2l]
theorem ok_X4_size {μ : kMem} : kOk yX4_size cX4_size 1 (some .int) rmX4_size shK 68 [.ref 18] μ (kP (μ.1 18 7) μ) := by
  refine kOk.of rfl (Nat.le_of_ble_eq_true rfl) (fun J C => ?_)
  have C : kR cX4_size RX4 1 rmX4_size shK 68 (some .int) _ J := C
  refine (r_aload_n C dX4_size_0 rfl rfl (r_getI C dX4_size_1 fd_X4_30 nK_18 sK_18 rfl (r_iret C dX4_size_4 ?_)))
  exact ⟨rfl, rfl⟩
theorem ok_X4_rainNow {μ : kMem} : kOk yX4_rainNow cX4_rainNow 1 (some .int) rmX4_rainNow shK 68 [.ref 18] μ (kP (μ.1 18 8) μ) := by
  refine kOk.of rfl (Nat.le_of_ble_eq_true rfl) (fun J C => ?_)
  have C : kR cX4_rainNow RX4 1 rmX4_rainNow shK 68 (some .int) _ J := C
  refine (r_aload_n C dX4_rainNow_0 rfl rfl (r_getI C dX4_rainNow_1 fd_X4_34 nK_18 sK_18 rfl (r_iret C dX4_rainNow_4 ?_)))
  exact ⟨rfl, rfl⟩
theorem ok_X4_setRain {x : Int32} {μ : kMem} : kOk yX4_setRain cX4_setRain 2 (none) rmX4_setRain shK 68 [.ref 18, .int x] μ (kN fun μ' => μ' = up μ 18 8 x) := by
  refine kOk.of rfl (Nat.le_of_ble_eq_true rfl) (fun J C => ?_)
  have C : kR cX4_setRain RX4 2 rmX4_setRain shK 68 (none) _ J := C
  refine (r_aload_n C dX4_setRain_0 rfl rfl (r_iload_n C dX4_setRain_1 rfl rfl (r_putI C dX4_setRain_2 fw_X4_34 nK_18 sK_18 rfl (r_ret C dX4_setRain_5 ?_))))
  rfl
theorem ok_X4_has {x : Int32} {μ : kMem} : kOk yX4_has cX4_has 2 (some .boolean) rmX4_has shK 68 [.ref 18, .int x] μ (kP (bP (0 ≤ x.toInt ∧ x.toInt < (μ.1 18 7).toInt)) μ) := by
  refine kOk.of rfl (Nat.le_of_ble_eq_true rfl) (fun J C => ?_)
  have C : kR cX4_has RX4 2 rmX4_has shK 68 (some .boolean) _ J := C
  refine (r_iload_n C dX4_has_0 rfl rfl (r_if_lt C (tgt := 16) dX4_has_1 rfl (fun c1 => (r_iconst C dX4_has_16 (r_zret C dX4_has_17 rfl ?_))) (fun c1 => (r_iload_n C dX4_has_4 rfl rfl (r_aload_n C dX4_has_5 rfl rfl (r_getI C dX4_has_6 fd_X4_30 nK_18 sK_18 rfl (r_icmp_ge C (tgt := 16) dX4_has_9 rfl (fun c9 => (r_iconst C dX4_has_16 (r_zret C dX4_has_17 rfl ?_))) (fun c9 => (r_iconst C dX4_has_12 (r_goto C (tgt := 17) dX4_has_13 rfl (r_zret C dX4_has_17 rfl ?_)))))))))))
  · exact ⟨bP_0 (by omega), rfl⟩
  · exact ⟨bP_0 (by omega), rfl⟩
  · exact ⟨bP_1 (by omega), rfl⟩
theorem ok_X4_add {x1 x2 x3 x4 : Int32} {μ : kMem} (h : 0 ≤ (μ.1 18 7).toInt ∧ (μ.1 18 7).toInt ≤ 8) : kOk yX4_add cX4_add 5 (some .int) rmX4_add shK 68 [.ref 18, .int x1, .int x2, .int x3, .int x4] μ (kI fun r μ' => ((μ.1 18 7).toInt < 8 ∧ r = μ.1 18 7 ∧ μ' = up (up (up (up (up μ 19 (μ.1 18 7).toInt.toNat x1) 20 (μ.1 18 7).toInt.toNat x2) 21 (μ.1 18 7).toInt.toNat x3) 22 (μ.1 18 7).toInt.toNat x4) 18 7 (Int32.ofInt ((μ.1 18 7).toInt + 1))) ∨ ((μ.1 18 7).toInt = 8 ∧ r = Int32.ofInt (-1) ∧ μ' = μ)) := by
  have e1 : μ.1 18 7 + Int32.ofInt 1 = Int32.ofInt ((μ.1 18 7).toInt + 1) := ti_ext (by simp (disch := (first | omega | (simp (disch := omega) only [ti_ofInt, ti_addc, ti_subc, ti_mulc, ti_cmul, ti_divc, ti_remc, ti_zero, ti_add, ti_sub, ti_neg, if_lt_ti, if_gt_ti, bP_e0, Classical.not_not, tl_i2l]; omega))) only [ti_ofInt, ti_addc, ti_subc, ti_mulc, ti_cmul, ti_divc, ti_remc, ti_zero, ti_add, ti_sub, ti_neg, if_lt_ti, if_gt_ti, bP_e0, Classical.not_not, tl_i2l])
  have e2 : (μ.1 18 7 + Int32.ofInt 1 - Int32.ofInt 1) = μ.1 18 7 := ti_ext (by simp (disch := (first | omega | (simp (disch := (first | omega | (simp (disch := (first | omega | (simp (disch := omega) only [ti_ofInt, ti_addc, ti_subc, ti_mulc, ti_cmul, ti_divc, ti_remc, ti_zero, ti_add, ti_sub, ti_neg, if_lt_ti, if_gt_ti, bP_e0, Classical.not_not, tl_i2l]; omega))) only [ti_ofInt, ti_addc, ti_subc, ti_mulc, ti_cmul, ti_divc, ti_remc, ti_zero, ti_add, ti_sub, ti_neg, if_lt_ti, if_gt_ti, bP_e0, Classical.not_not, tl_i2l]; omega))) only [ti_ofInt, ti_addc, ti_subc, ti_mulc, ti_cmul, ti_divc, ti_remc, ti_zero, ti_add, ti_sub, ti_neg, if_lt_ti, if_gt_ti, bP_e0, Classical.not_not, tl_i2l]; omega))) only [ti_ofInt, ti_addc, ti_subc, ti_mulc, ti_cmul, ti_divc, ti_remc, ti_zero, ti_add, ti_sub, ti_neg, if_lt_ti, if_gt_ti, bP_e0, Classical.not_not, tl_i2l]; omega)
  refine kOk.of rfl (Nat.le_of_ble_eq_true rfl) (fun J C => ?_)
  have C : kR cX4_add RX4 5 rmX4_add shK 68 (some .int) _ J := C
  refine (r_aload_n C dX4_add_0 rfl rfl (r_getI C dX4_add_1 fd_X4_30 nK_18 sK_18 rfl (r_bipush C dX4_add_4 (by decide +kernel) (r_icmp_lt C (tgt := 11) dX4_add_6 rfl (fun c6 => (r_aload_n C dX4_add_11 rfl rfl (r_getR C dX4_add_12 fd_X4_11 nK_18 sK_18 rfl (r_aload_n C dX4_add_15 rfl rfl (r_getI C dX4_add_16 fd_X4_30 nK_18 sK_18 rfl (r_iload_n C dX4_add_19 rfl rfl (r_iast C dX4_add_20 nK_19 sK_19 ?_ (r_aload_n C dX4_add_21 rfl rfl (r_getR C dX4_add_22 fd_X4_15 nK_18 sK_18 rfl (r_aload_n C dX4_add_25 rfl rfl (r_getI C dX4_add_26 fd_X4_30 nK_18 sK_18 rfl (r_iload_n C dX4_add_29 rfl rfl (r_iast C dX4_add_30 nK_20 sK_20 ?_ (r_aload_n C dX4_add_31 rfl rfl (r_getR C dX4_add_32 fd_X4_18 nK_18 sK_18 rfl (r_aload_n C dX4_add_35 rfl rfl (r_getI C dX4_add_36 fd_X4_30 nK_18 sK_18 rfl (r_iload_n C dX4_add_39 rfl rfl (r_iast C dX4_add_40 nK_21 sK_21 ?_ (r_aload_n C dX4_add_41 rfl rfl (r_getR C dX4_add_42 fd_X4_21 nK_18 sK_18 rfl (r_aload_n C dX4_add_45 rfl rfl (r_getI C dX4_add_46 fd_X4_30 nK_18 sK_18 rfl (r_iload C dX4_add_49 rfl (r_iast C dX4_add_51 nK_22 sK_22 ?_ (r_aload_n C dX4_add_52 rfl rfl (r_dup C dX4_add_53 rfl (r_getI C dX4_add_54 fd_X4_30 nK_18 sK_18 rfl (r_iconst C dX4_add_57 (r_iadd C dX4_add_58 (r_putI C dX4_add_59 fw_X4_30 nK_18 sK_18 rfl (r_aload_n C dX4_add_62 rfl rfl (r_getI C dX4_add_63 fd_X4_30 nK_18 sK_18 rfl (r_iconst C dX4_add_66 (r_isub C dX4_add_67 (r_iret C dX4_add_68 ?_)))))))))))))))))))))))))))))))))))) (fun c6 => (r_iconst C dX4_add_9 (r_iret C dX4_add_10 ?_)))))))
  · simp (disch := (first | omega | (simp (disch := omega) only [ti_ofInt, ti_addc, ti_subc, ti_mulc, ti_cmul, ti_divc, ti_remc, ti_zero, ti_add, ti_sub, ti_neg, if_lt_ti, if_gt_ti, bP_e0, Classical.not_not, tl_i2l]; omega))) only [ti_ofInt, ti_addc, ti_subc, ti_mulc, ti_cmul, ti_divc, ti_remc, ti_zero, ti_add, ti_sub, ti_neg, if_lt_ti, if_gt_ti, bP_e0, Classical.not_not, tl_i2l] at c6
    omega
  · simp (disch := (first | omega | (simp (disch := omega) only [ti_ofInt, ti_addc, ti_subc, ti_mulc, ti_cmul, ti_divc, ti_remc, ti_zero, ti_add, ti_sub, ti_neg, if_lt_ti, if_gt_ti, bP_e0, Classical.not_not, tl_i2l]; omega))) only [ti_ofInt, ti_addc, ti_subc, ti_mulc, ti_cmul, ti_divc, ti_remc, ti_zero, ti_add, ti_sub, ti_neg, if_lt_ti, if_gt_ti, bP_e0, Classical.not_not, tl_i2l] at c6
    exact (by omega : 0 ≤ (μ.1 18 7).toInt ∧ (μ.1 18 7).toInt < 8)
  · simp (disch := (first | omega | (simp (disch := omega) only [ti_ofInt, ti_addc, ti_subc, ti_mulc, ti_cmul, ti_divc, ti_remc, ti_zero, ti_add, ti_sub, ti_neg, if_lt_ti, if_gt_ti, bP_e0, Classical.not_not, tl_i2l]; omega))) only [ti_ofInt, ti_addc, ti_subc, ti_mulc, ti_cmul, ti_divc, ti_remc, ti_zero, ti_add, ti_sub, ti_neg, if_lt_ti, if_gt_ti, bP_e0, Classical.not_not, tl_i2l] at c6
    exact (by omega : 0 ≤ (μ.1 18 7).toInt ∧ (μ.1 18 7).toInt < 8)
  · simp (disch := (first | omega | (simp (disch := omega) only [ti_ofInt, ti_addc, ti_subc, ti_mulc, ti_cmul, ti_divc, ti_remc, ti_zero, ti_add, ti_sub, ti_neg, if_lt_ti, if_gt_ti, bP_e0, Classical.not_not, tl_i2l]; omega))) only [ti_ofInt, ti_addc, ti_subc, ti_mulc, ti_cmul, ti_divc, ti_remc, ti_zero, ti_add, ti_sub, ti_neg, if_lt_ti, if_gt_ti, bP_e0, Classical.not_not, tl_i2l] at c6
    exact (by omega : 0 ≤ (μ.1 18 7).toInt ∧ (μ.1 18 7).toInt < 8)
  · simp (disch := (first | omega | (simp (disch := omega) only [ti_ofInt, ti_addc, ti_subc, ti_mulc, ti_cmul, ti_divc, ti_remc, ti_zero, ti_add, ti_sub, ti_neg, if_lt_ti, if_gt_ti, bP_e0, Classical.not_not, tl_i2l]; omega))) only [ti_ofInt, ti_addc, ti_subc, ti_mulc, ti_cmul, ti_divc, ti_remc, ti_zero, ti_add, ti_sub, ti_neg, if_lt_ti, if_gt_ti, bP_e0, Classical.not_not, tl_i2l] at c6
    exact Or.inl ⟨c6, e2, by rw [← e1]; rfl⟩
  · simp (disch := (first | omega | (simp (disch := omega) only [ti_ofInt, ti_addc, ti_subc, ti_mulc, ti_cmul, ti_divc, ti_remc, ti_zero, ti_add, ti_sub, ti_neg, if_lt_ti, if_gt_ti, bP_e0, Classical.not_not, tl_i2l]; omega))) only [ti_ofInt, ti_addc, ti_subc, ti_mulc, ti_cmul, ti_divc, ti_remc, ti_zero, ti_add, ti_sub, ti_neg, if_lt_ti, if_gt_ti, bP_e0, Classical.not_not, tl_i2l] at c6
    exact Or.inr ⟨by omega, rfl, rfl⟩
/-- the BITE of a line; 0 of none -/
def kbi (μ : kMem) (x : Int) : Int := if 0 ≤ x ∧ x < (μ.1 18 7).toInt then (μ.1 21 x.toNat).toInt + (μ.1 22 x.toNat).toInt * (μ.1 18 8).toInt else 0
def kLnOk (μ : kMem) : Prop := (0 ≤ (μ.1 18 7).toInt ∧ (μ.1 18 7).toInt ≤ 8) ∧ (0 ≤ (μ.1 18 8).toInt ∧ (μ.1 18 8).toInt ≤ 9) ∧ ∀ i : Nat, (0 ≤ (μ.1 21 i).toInt ∧ (μ.1 21 i).toInt ≤ 99) ∧ (0 ≤ (μ.1 22 i).toInt ∧ (μ.1 22 i).toInt ≤ 20) ∧ (0 ≤ (μ.1 19 i).toInt ∧ (μ.1 19 i).toInt ≤ 5) ∧ (0 ≤ (μ.1 20 i).toInt ∧ (μ.1 20 i).toInt ≤ 5)
theorem kmul_b {a b : Int} (ha : 0 ≤ a ∧ a ≤ 20) (hb : 0 ≤ b ∧ b ≤ 9) : 0 ≤ a * b ∧ a * b ≤ 180 := by
  refine ⟨Int.mul_nonneg ha.1 hb.1, ?_⟩
  have := Int.mul_le_mul ha.2 hb.2 hb.1 (by decide : (0 : Int) ≤ 20)
  omega
theorem kbi_b {μ : kMem} (h : kLnOk μ) (x : Int) : 0 ≤ kbi μ x ∧ kbi μ x ≤ 279 := by
  unfold kbi
  split
  · have h1 := h.2.2 x.toNat
    have := kmul_b h1.2.1 h.2.1
    omega
  · omega
theorem ok_X4_biteOf {x : Int32} {μ : kMem} (h : kLnOk μ) : kOk yX4_biteOf cX4_biteOf 2 (some .int) rmX4_biteOf shK 68 [.ref 18, .int x] μ (kP (Int32.ofInt (kbi μ x.toInt)) μ) := by
  have hb := kbi_b h x.toInt
  have h0 := h.1
  have h1 := h.2.2 x.toInt.toNat
  have h2 := kmul_b h1.2.1 h.2.1
  have em : (μ.1 22 x.toInt.toNat * μ.1 18 8).toInt = (μ.1 22 x.toInt.toNat).toInt * (μ.1 18 8).toInt := ti_mul (by omega)
  refine kOk.of rfl (Nat.le_of_ble_eq_true rfl) (fun J C => ?_)
  have C : kR cX4_biteOf RX4 2 rmX4_biteOf shK 68 (some .int) _ J := C
  refine (r_aload_n C dX4_biteOf_0 rfl rfl (r_iload_n C dX4_biteOf_1 rfl rfl (r_v1P C yv_X4_has lk_X4_37 dX4_biteOf_2 rfl nK_18 sK_18 rfl (Nat.le_of_ble_eq_true rfl) ok_X4_has (r_if_eq C (tgt := 29) dX4_biteOf_5 rfl (fun c5 => (r_iconst C dX4_biteOf_29 (r_iret C dX4_biteOf_30 ?_))) (fun c5 => (r_aload_n C dX4_biteOf_8 rfl rfl (r_getR C dX4_biteOf_9 fd_X4_18 nK_18 sK_18 rfl (r_iload_n C dX4_biteOf_12 rfl rfl (r_iald C dX4_biteOf_13 nK_21 sK_21 ?_ (r_aload_n C dX4_biteOf_14 rfl rfl (r_getR C dX4_biteOf_15 fd_X4_21 nK_18 sK_18 rfl (r_iload_n C dX4_biteOf_18 rfl rfl (r_iald C dX4_biteOf_19 nK_22 sK_22 ?_ (r_aload_n C dX4_biteOf_20 rfl rfl (r_getI C dX4_biteOf_21 fd_X4_34 nK_18 sK_18 rfl (r_imul C dX4_biteOf_24 (r_iadd C dX4_biteOf_25 (r_goto C (tgt := 30) dX4_biteOf_26 rfl (r_iret C dX4_biteOf_30 ?_)))))))))))))))))))
  · have := bP_e0.mp c5
    unfold kbi
    rw [if_neg this]
    exact ⟨rfl, rfl⟩
  · have := bP_ne c5
    omega
  · have := bP_ne c5
    omega
  · have := bP_ne c5
    unfold kbi
    rw [if_pos this]
    exact ⟨ti_ext (by rw [ti_add (by rw [em]; omega), em, ti_ofInt (by omega)]), rfl⟩
def ken (μ : kMem) (x : Int) : Int32 := if 0 ≤ x ∧ x < (μ.1 18 7).toInt then μ.1 20 x.toNat else Int32.ofInt (-1)
theorem ok_X4_endOf {x : Int32} {μ : kMem} (h : (μ.1 18 7).toInt ≤ 8) : kOk yX4_endOf cX4_endOf 2 (some .int) rmX4_endOf shK 68 [.ref 18, .int x] μ (kP (ken μ x.toInt) μ) := by
  unfold ken
  refine kOk.of rfl (Nat.le_of_ble_eq_true rfl) (fun J C => ?_)
  have C : kR cX4_endOf RX4 2 rmX4_endOf shK 68 (some .int) _ J := C
  refine (r_aload_n C dX4_endOf_0 rfl rfl (r_iload_n C dX4_endOf_1 rfl rfl (r_v1P C yv_X4_has lk_X4_37 dX4_endOf_2 rfl nK_18 sK_18 rfl (Nat.le_of_ble_eq_true rfl) ok_X4_has (r_if_eq C (tgt := 17) dX4_endOf_5 rfl (fun c5 => (r_iconst C dX4_endOf_17 (r_iret C dX4_endOf_18 ?_))) (fun c5 => (r_aload_n C dX4_endOf_8 rfl rfl (r_getR C dX4_endOf_9 fd_X4_15 nK_18 sK_18 rfl (r_iload_n C dX4_endOf_12 rfl rfl (r_iald C dX4_endOf_13 nK_20 sK_20 ?_ (r_goto C (tgt := 18) dX4_endOf_14 rfl (r_iret C dX4_endOf_18 ?_)))))))))))
  · have := bP_e0.mp c5
    exact ⟨(if_neg this).symm, rfl⟩
  · have := bP_ne c5
    omega
  · have := bP_ne c5
    exact ⟨(if_pos this).symm, rfl⟩
def kra (μ : kMem) (x : Int) : Int32 := if 0 ≤ x ∧ x < (μ.1 18 6).toInt then μ.1 24 x.toNat else Int32.ofInt (-1)
theorem ok_X4_routeAt {x : Int32} {μ : kMem} (h : (μ.1 18 6).toInt ≤ 5) : kOk yX4_routeAt cX4_routeAt 2 (some .int) rmX4_routeAt shK 68 [.ref 18, .int x] μ (kP (kra μ x.toInt) μ) := by
  unfold kra
  refine kOk.of rfl (Nat.le_of_ble_eq_true rfl) (fun J C => ?_)
  have C : kR cX4_routeAt RX4 2 rmX4_routeAt shK 68 (some .int) _ J := C
  refine (r_iload_n C dX4_routeAt_0 rfl rfl (r_if_lt C (tgt := 21) dX4_routeAt_1 rfl (fun c1 => (r_iconst C dX4_routeAt_21 (r_iret C dX4_routeAt_22 ?_))) (fun c1 => (r_iload_n C dX4_routeAt_4 rfl rfl (r_aload_n C dX4_routeAt_5 rfl rfl (r_getI C dX4_routeAt_6 fd_X4_41 nK_18 sK_18 rfl (r_icmp_ge C (tgt := 21) dX4_routeAt_9 rfl (fun c9 => (r_iconst C dX4_routeAt_21 (r_iret C dX4_routeAt_22 ?_))) (fun c9 => (r_aload_n C dX4_routeAt_12 rfl rfl (r_getR C dX4_routeAt_13 fd_X4_27 nK_18 sK_18 rfl (r_iload_n C dX4_routeAt_16 rfl rfl (r_iald C dX4_routeAt_17 nK_24 sK_24 ?_ (r_goto C (tgt := 22) dX4_routeAt_18 rfl (r_iret C dX4_routeAt_22 ?_))))))))))))))
  · exact ⟨(if_neg (by omega)).symm, rfl⟩
  · exact ⟨(if_neg (by omega)).symm, rfl⟩
  · omega
  · exact ⟨(if_pos (by omega)).symm, rfl⟩

