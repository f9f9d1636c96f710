/-! ===== the model: what is told, the rest ===== -/
theorem ok_X12_line {x1 x2 x3 x4 : Int32} {μ : kMem} (h : 0 ≤ (μ.1 0 19).toInt ∧ (μ.1 0 19).toInt ≤ 8) : kOk yX12_line cX12_line 5 (some .int) rmX12_line shM 48 [.ref 0, .int x1, .int x2, .int x3, .int x4] μ (kI fun r μ' => ((((0 ≤ x1.toInt ∧ x1.toInt < 6) ∧ (0 ≤ x2.toInt ∧ x2.toInt < 6) ∧ ¬ x1.toInt = x2.toInt) ∧ (0 ≤ x3.toInt ∧ x3.toInt ≤ 99) ∧ 0 ≤ x4.toInt ∧ x4.toInt ≤ 20) ∧ (μ.1 0 19).toInt < 8 ∧ r = μ.1 0 19 ∧ μ' = up (up (up (up (up μ 16 (μ.1 0 19).toInt.toNat x1) 17 (μ.1 0 19).toInt.toNat x2) 18 (μ.1 0 19).toInt.toNat x3) 19 (μ.1 0 19).toInt.toNat x4) 0 19 (Int32.ofInt ((μ.1 0 19).toInt + 1))) ∨ (¬ ((((0 ≤ x1.toInt ∧ x1.toInt < 6) ∧ (0 ≤ x2.toInt ∧ x2.toInt < 6) ∧ ¬ x1.toInt = x2.toInt) ∧ (0 ≤ x3.toInt ∧ x3.toInt ≤ 99) ∧ 0 ≤ x4.toInt ∧ x4.toInt ≤ 20) ∧ (μ.1 0 19).toInt < 8) ∧ r = Int32.ofInt (-1) ∧ μ' = μ)) := by
  have m8 : (Int32.ofInt 8).toInt = 8 := by decide
  have e1 : μ.1 0 19 + Int32.ofInt 1 = Int32.ofInt ((μ.1 0 19).toInt + 1) := ti_ext (by rw [ti_addc (by omega), ti_ofInt (by omega)])
  have e2 : μ.1 0 19 + Int32.ofInt 1 - Int32.ofInt 1 = μ.1 0 19 := ti_ext (by rw [e1, ti_subc (by rw [ti_ofInt (by omega)]; omega), ti_ofInt (by omega)]; omega)
  refine kOk.of rfl (Nat.le_of_ble_eq_true rfl) (fun J C => ?_)
  have C : kR cX12_line RX12 5 rmX12_line shM 48 (some .int) _ J := C
  refine (r_iload_n C dX12_line_0 rfl rfl (r_s1P C ys_X12_isStation lk_X12_236 dX12_line_1 rfl (Nat.le_of_ble_eq_true rfl) ok_X12_isStation (r_if_eq C (tgt := 53) dX12_line_4 rfl (fun c4 => (r_iconst C dX12_line_53 (r_iret C dX12_line_54 ?_))) (fun c4 => (r_iload_n C dX12_line_7 rfl rfl (r_s1P C ys_X12_isStation lk_X12_236 dX12_line_8 rfl (Nat.le_of_ble_eq_true rfl) ok_X12_isStation (r_if_eq C (tgt := 53) dX12_line_11 rfl (fun c11 => (r_iconst C dX12_line_53 (r_iret C dX12_line_54 ?_))) (fun c11 => (r_iload_n C dX12_line_14 rfl rfl (r_iload_n C dX12_line_15 rfl rfl (r_icmp_eq C (tgt := 53) dX12_line_16 rfl (fun c16 => (r_iconst C dX12_line_53 (r_iret C dX12_line_54 ?_))) (fun c16 => (r_iload_n C dX12_line_19 rfl rfl (r_i2l C dX12_line_20 (r_lconst C dX12_line_21 rfl (r_ldc2 C dX12_line_22 kc_X12_239 (r_s3P C ys_X12_in lk_X12_155 dX12_line_25 rfl (Nat.le_of_ble_eq_true rfl) ok_X12_in (r_if_eq C (tgt := 53) dX12_line_28 rfl (fun c28 => (r_iconst C dX12_line_53 (r_iret C dX12_line_54 ?_))) (fun c28 => (r_iload C dX12_line_31 rfl (r_i2l C dX12_line_33 (r_lconst C dX12_line_34 rfl (r_ldc2 C dX12_line_35 kc_X12_241 (r_s3P C ys_X12_in lk_X12_155 dX12_line_38 rfl (Nat.le_of_ble_eq_true rfl) ok_X12_in (r_if_eq C (tgt := 53) dX12_line_41 rfl (fun c41 => (r_iconst C dX12_line_53 (r_iret C dX12_line_54 ?_))) (fun c41 => (r_aload_n C dX12_line_44 rfl rfl (r_getI C dX12_line_45 fd_X12_243 nM_0 sM_0 rfl (r_bipush C dX12_line_48 (by decide +kernel) (r_icmp_ne C (tgt := 55) dX12_line_50 rfl (fun c50 => (r_aload_n C dX12_line_55 rfl rfl (r_getR C dX12_line_56 fd_X12_51 nM_0 sM_0 rfl (r_aload_n C dX12_line_59 rfl rfl (r_getI C dX12_line_60 fd_X12_243 nM_0 sM_0 rfl (r_iload_n C dX12_line_63 rfl rfl (r_iast C dX12_line_64 nM_16 sM_16 ?_ (r_aload_n C dX12_line_65 rfl rfl (r_getR C dX12_line_66 fd_X12_54 nM_0 sM_0 rfl (r_aload_n C dX12_line_69 rfl rfl (r_getI C dX12_line_70 fd_X12_243 nM_0 sM_0 rfl (r_iload_n C dX12_line_73 rfl rfl (r_iast C dX12_line_74 nM_17 sM_17 ?_ (r_aload_n C dX12_line_75 rfl rfl (r_getR C dX12_line_76 fd_X12_57 nM_0 sM_0 rfl (r_aload_n C dX12_line_79 rfl rfl (r_getI C dX12_line_80 fd_X12_243 nM_0 sM_0 rfl (r_iload_n C dX12_line_83 rfl rfl (r_iast C dX12_line_84 nM_18 sM_18 ?_ (r_aload_n C dX12_line_85 rfl rfl (r_getR C dX12_line_86 fd_X12_60 nM_0 sM_0 rfl (r_aload_n C dX12_line_89 rfl rfl (r_getI C dX12_line_90 fd_X12_243 nM_0 sM_0 rfl (r_iload C dX12_line_93 rfl (r_iast C dX12_line_95 nM_19 sM_19 ?_ (r_aload_n C dX12_line_96 rfl rfl (r_dup C dX12_line_97 rfl (r_getI C dX12_line_98 fd_X12_243 nM_0 sM_0 rfl (r_iconst C dX12_line_101 (r_iadd C dX12_line_102 (r_putI C dX12_line_103 fw_X12_243 nM_0 sM_0 rfl (r_aload_n C dX12_line_106 rfl rfl (r_getI C dX12_line_107 fd_X12_243 nM_0 sM_0 rfl (r_iconst C dX12_line_110 (r_isub C dX12_line_111 (r_iret C dX12_line_112 ?_)))))))))))))))))))))))))))))))))))) (fun c50 => (r_iconst C dX12_line_53 (r_iret C dX12_line_54 ?_)))))))))))))))))))))))))))))))))
  · exact Or.inr ⟨fun z => bP_e0.mp c4 z.1.1.1, rfl, rfl⟩
  · exact Or.inr ⟨fun z => bP_e0.mp c11 z.1.1.2.1, rfl, rfl⟩
  · exact Or.inr ⟨fun z => z.1.1.2.2 c16, rfl, rfl⟩
  · have c := bP_e0.mp c28
    simp only [tl_i2l, ll_c0, ll_c1, ll_m1, ll_32, ll_97, ll_25, ll_255255, ll_5, ll_99, ll_20, ll_9, ll_999, ll_1000000, ll_17575, ll_3, ll_200, ll_60, ll_2, ll_5000, ll_m60, ll_m99] at c
    exact Or.inr ⟨fun z => c z.1.2.1, rfl, rfl⟩
  · have c := bP_e0.mp c41
    simp only [tl_i2l, ll_c0, ll_c1, ll_m1, ll_32, ll_97, ll_25, ll_255255, ll_5, ll_99, ll_20, ll_9, ll_999, ll_1000000, ll_17575, ll_3, ll_200, ll_60, ll_2, ll_5000, ll_m60, ll_m99] at c
    exact Or.inr ⟨fun z => c z.1.2.2, rfl, rfl⟩
  · rw [m8] at c50
    omega
  · rw [m8] at c50
    simp (disch := decide) only [up_same, up_neo, up_nek, up_2]
    omega
  · rw [m8] at c50
    simp (disch := decide) only [up_same, up_neo, up_nek, up_2]
    omega
  · rw [m8] at c50
    simp (disch := decide) only [up_same, up_neo, up_nek, up_2]
    omega
  · rw [m8] at c50
    have c := bP_ne c28
    have d := bP_ne c41
    simp only [tl_i2l, ll_c0, ll_c1, ll_m1, ll_32, ll_97, ll_25, ll_255255, ll_5, ll_99, ll_20, ll_9, ll_999, ll_1000000, ll_17575, ll_3, ll_200, ll_60, ll_2, ll_5000, ll_m60, ll_m99] at c d
    simp (disch := decide) only [up_same, up_neo, up_nek, up_2]
    exact Or.inl ⟨⟨⟨bP_ne c4, bP_ne c11, c16⟩, c, d⟩, by omega, e2, by rw [e1]⟩
  · rw [m8] at c50
    exact Or.inr ⟨fun z => by omega, rfl, rfl⟩
theorem ok_X12_rain {x : Int32} {μ : kMem} : kOk yX12_rain cX12_rain 2 (some .boolean) rmX12_rain shM 48 [.ref 0, .int x] μ (kI fun r μ' => (0 ≤ x.toInt ∧ x.toInt ≤ 9 ∧ r = Int32.ofInt 1 ∧ μ' = up μ 0 20 x) ∨ (¬ (0 ≤ x.toInt ∧ x.toInt ≤ 9) ∧ r = Int32.ofInt 0 ∧ μ' = μ)) := by
  refine kOk.of rfl (Nat.le_of_ble_eq_true rfl) (fun J C => ?_)
  have C : kR cX12_rain RX12 2 rmX12_rain shM 48 (some .boolean) _ J := C
  refine (r_iload_n C dX12_rain_0 rfl rfl (r_i2l C dX12_rain_1 (r_lconst C dX12_rain_2 rfl (r_ldc2 C dX12_rain_3 kc_X12_246 (r_s3P C ys_X12_in lk_X12_155 dX12_rain_6 rfl (Nat.le_of_ble_eq_true rfl) ok_X12_in (r_if_ne C (tgt := 14) dX12_rain_9 rfl (fun c9 => (r_aload_n C dX12_rain_14 rfl rfl (r_iload_n C dX12_rain_15 rfl rfl (r_putI C dX12_rain_16 fw_X12_248 nM_0 sM_0 rfl (r_iconst C dX12_rain_19 (r_zret C dX12_rain_20 rfl ?_)))))) (fun c9 => (r_iconst C dX12_rain_12 (r_zret C dX12_rain_13 rfl ?_)))))))))
  · have c := bP_ne c9
    simp only [tl_i2l, ll_c0, ll_c1, ll_m1, ll_32, ll_97, ll_25, ll_255255, ll_5, ll_99, ll_20, ll_9, ll_999, ll_1000000, ll_17575, ll_3, ll_200, ll_60, ll_2, ll_5000, ll_m60, ll_m99] at c
    exact Or.inl ⟨c.1, c.2, rfl, rfl⟩
  · have c := bP_e0.mp c9
    simp only [tl_i2l, ll_c0, ll_c1, ll_m1, ll_32, ll_97, ll_25, ll_255255, ll_5, ll_99, ll_20, ll_9, ll_999, ll_1000000, ll_17575, ll_3, ll_200, ll_60, ll_2, ll_5000, ll_m60, ll_m99] at c
    exact Or.inr ⟨c, rfl, rfl⟩
theorem ok_X12_length {x : Int32} {μ : kMem} (h : 0 ≤ (μ.1 0 21).toInt ∧ (μ.1 0 21).toInt ≤ 120) : kOk yX12_length cX12_length 2 (some .int) rmX12_length shM 48 [.ref 0, .int x] μ (kI fun r μ' => ((1 ≤ x.toInt ∧ x.toInt ≤ 999) ∧ (μ.1 0 21).toInt < 120 ∧ r = Int32.ofInt ((μ.1 0 21).toInt + 1) ∧ μ' = up (up μ 20 (μ.1 0 21).toInt.toNat x) 0 21 (Int32.ofInt ((μ.1 0 21).toInt + 1))) ∨ (¬ ((1 ≤ x.toInt ∧ x.toInt ≤ 999) ∧ (μ.1 0 21).toInt < 120) ∧ r = Int32.ofInt (-1) ∧ μ' = μ)) := by
  have m120 : (Int32.ofInt 120).toInt = 120 := by decide
  have e1 : μ.1 0 21 + Int32.ofInt 1 = Int32.ofInt ((μ.1 0 21).toInt + 1) := ti_ext (by rw [ti_addc (by omega), ti_ofInt (by omega)])
  refine kOk.of rfl (Nat.le_of_ble_eq_true rfl) (fun J C => ?_)
  have C : kR cX12_length RX12 2 rmX12_length shM 48 (some .int) _ J := C
  refine (r_iload_n C dX12_length_0 rfl rfl (r_i2l C dX12_length_1 (r_lconst C dX12_length_2 rfl (r_ldc2 C dX12_length_3 kc_X12_258 (r_s3P C ys_X12_in lk_X12_155 dX12_length_6 rfl (Nat.le_of_ble_eq_true rfl) ok_X12_in (r_if_eq C (tgt := 21) dX12_length_9 rfl (fun c9 => (r_iconst C dX12_length_21 (r_iret C dX12_length_22 ?_))) (fun c9 => (r_aload_n C dX12_length_12 rfl rfl (r_getI C dX12_length_13 fd_X12_260 nM_0 sM_0 rfl (r_bipush C dX12_length_16 (by decide +kernel) (r_icmp_ne C (tgt := 23) dX12_length_18 rfl (fun c18 => (r_aload_n C dX12_length_23 rfl rfl (r_getR C dX12_length_24 fd_X12_63 nM_0 sM_0 rfl (r_aload_n C dX12_length_27 rfl rfl (r_getI C dX12_length_28 fd_X12_260 nM_0 sM_0 rfl (r_iload_n C dX12_length_31 rfl rfl (r_iast C dX12_length_32 nM_20 sM_20 ?_ (r_aload_n C dX12_length_33 rfl rfl (r_dup C dX12_length_34 rfl (r_getI C dX12_length_35 fd_X12_260 nM_0 sM_0 rfl (r_iconst C dX12_length_38 (r_iadd C dX12_length_39 (r_putI C dX12_length_40 fw_X12_260 nM_0 sM_0 rfl (r_aload_n C dX12_length_43 rfl rfl (r_getI C dX12_length_44 fd_X12_260 nM_0 sM_0 rfl (r_iret C dX12_length_47 ?_)))))))))))))))) (fun c18 => (r_iconst C dX12_length_21 (r_iret C dX12_length_22 ?_))))))))))))))
  · have c := bP_e0.mp c9
    simp only [tl_i2l, ll_c0, ll_c1, ll_m1, ll_32, ll_97, ll_25, ll_255255, ll_5, ll_99, ll_20, ll_9, ll_999, ll_1000000, ll_17575, ll_3, ll_200, ll_60, ll_2, ll_5000, ll_m60, ll_m99] at c
    exact Or.inr ⟨fun z => c z.1, rfl, rfl⟩
  · rw [m120] at c18
    omega
  · have c := bP_ne c9
    simp only [tl_i2l, ll_c0, ll_c1, ll_m1, ll_32, ll_97, ll_25, ll_255255, ll_5, ll_99, ll_20, ll_9, ll_999, ll_1000000, ll_17575, ll_3, ll_200, ll_60, ll_2, ll_5000, ll_m60, ll_m99] at c
    rw [m120] at c18
    simp (disch := decide) only [up_same, up_neo, up_nek, up_2]
    exact Or.inl ⟨c, by omega, e1, by rw [e1]⟩
  · rw [m120] at c18
    exact Or.inr ⟨fun z => by omega, rfl, rfl⟩
theorem ok_X12_cut {x : Int32} {μ : kMem} : kOk yX12_cut cX12_cut 2 (some .boolean) rmX12_cut shM 48 [.ref 0, .int x] μ (kI fun r μ' => (0 ≤ x.toInt ∧ x.toInt ≤ (μ.1 0 21).toInt ∧ r = Int32.ofInt 1 ∧ μ' = up μ 0 21 x) ∨ (¬ (0 ≤ x.toInt ∧ x.toInt ≤ (μ.1 0 21).toInt) ∧ r = Int32.ofInt 0 ∧ μ' = μ)) := by
  refine kOk.of rfl (Nat.le_of_ble_eq_true rfl) (fun J C => ?_)
  have C : kR cX12_cut RX12 2 rmX12_cut shM 48 (some .boolean) _ J := C
  refine (r_iload_n C dX12_cut_0 rfl rfl (r_i2l C dX12_cut_1 (r_lconst C dX12_cut_2 rfl (r_aload_n C dX12_cut_3 rfl rfl (r_getI C dX12_cut_4 fd_X12_260 nM_0 sM_0 rfl (r_i2l C dX12_cut_7 (r_s3P C ys_X12_in lk_X12_155 dX12_cut_8 rfl (Nat.le_of_ble_eq_true rfl) ok_X12_in (r_if_ne C (tgt := 16) dX12_cut_11 rfl (fun c11 => (r_aload_n C dX12_cut_16 rfl rfl (r_iload_n C dX12_cut_17 rfl rfl (r_putI C dX12_cut_18 fw_X12_260 nM_0 sM_0 rfl (r_iconst C dX12_cut_21 (r_zret C dX12_cut_22 rfl ?_)))))) (fun c11 => (r_iconst C dX12_cut_14 (r_zret C dX12_cut_15 rfl ?_)))))))))))
  · have c := bP_ne c11
    simp only [tl_i2l, ll_c0, ll_c1, ll_m1, ll_32, ll_97, ll_25, ll_255255, ll_5, ll_99, ll_20, ll_9, ll_999, ll_1000000, ll_17575, ll_3, ll_200, ll_60, ll_2, ll_5000, ll_m60, ll_m99] at c
    exact Or.inl ⟨c.1, c.2, rfl, rfl⟩
  · have c := bP_e0.mp c11
    simp only [tl_i2l, ll_c0, ll_c1, ll_m1, ll_32, ll_97, ll_25, ll_255255, ll_5, ll_99, ll_20, ll_9, ll_999, ll_1000000, ll_17575, ll_3, ll_200, ll_60, ll_2, ll_5000, ll_m60, ll_m99] at c
    exact Or.inr ⟨c, rfl, rfl⟩
theorem ok_X12_tape {x : Int32} {μ : kMem} (h : 0 ≤ (μ.1 0 21).toInt ∧ (μ.1 0 21).toInt ≤ 120) : kOk yX12_tape cX12_tape 2 (some .int) rmX12_tape shM 48 [.ref 0, .int x] μ (kP (if 0 ≤ x.toInt ∧ x.toInt < (μ.1 0 21).toInt then μ.1 20 x.toInt.toNat else Int32.ofInt (-1)) μ) := by
  have e : (μ.1 0 21 - Int32.ofInt 1).toInt = (μ.1 0 21).toInt - 1 := by rw [ti_subc (by omega)]
  refine kOk.of rfl (Nat.le_of_ble_eq_true rfl) (fun J C => ?_)
  have C : kR cX12_tape RX12 2 rmX12_tape shM 48 (some .int) _ J := C
  refine (r_iload_n C dX12_tape_0 rfl rfl (r_i2l C dX12_tape_1 (r_lconst C dX12_tape_2 rfl (r_aload_n C dX12_tape_3 rfl rfl (r_getI C dX12_tape_4 fd_X12_260 nM_0 sM_0 rfl (r_iconst C dX12_tape_7 (r_isub C dX12_tape_8 (r_i2l C dX12_tape_9 (r_s3P C ys_X12_in lk_X12_155 dX12_tape_10 rfl (Nat.le_of_ble_eq_true rfl) ok_X12_in (r_if_eq C (tgt := 25) dX12_tape_13 rfl (fun c13 => (r_iconst C dX12_tape_25 (r_iret C dX12_tape_26 ?_))) (fun c13 => (r_aload_n C dX12_tape_16 rfl rfl (r_getR C dX12_tape_17 fd_X12_63 nM_0 sM_0 rfl (r_iload_n C dX12_tape_20 rfl rfl (r_iald C dX12_tape_21 nM_20 sM_20 ?_ (r_goto C (tgt := 26) dX12_tape_22 rfl (r_iret C dX12_tape_26 ?_)))))))))))))))))
  · have c := bP_e0.mp c13
    simp only [tl_i2l, ll_c0, ll_c1, ll_m1, ll_32, ll_97, ll_25, ll_255255, ll_5, ll_99, ll_20, ll_9, ll_999, ll_1000000, ll_17575, ll_3, ll_200, ll_60, ll_2, ll_5000, ll_m60, ll_m99] at c
    rw [e] at c
    exact ⟨(if_neg (by omega)).symm, rfl⟩
  · have c := bP_ne c13
    simp only [tl_i2l, ll_c0, ll_c1, ll_m1, ll_32, ll_97, ll_25, ll_255255, ll_5, ll_99, ll_20, ll_9, ll_999, ll_1000000, ll_17575, ll_3, ll_200, ll_60, ll_2, ll_5000, ll_m60, ll_m99] at c
    rw [e] at c
    omega
  · have c := bP_ne c13
    simp only [tl_i2l, ll_c0, ll_c1, ll_m1, ll_32, ll_97, ll_25, ll_255255, ll_5, ll_99, ll_20, ll_9, ll_999, ll_1000000, ll_17575, ll_3, ll_200, ll_60, ll_2, ll_5000, ll_m60, ll_m99] at c
    rw [e] at c
    exact ⟨(if_pos (by omega)).symm, rfl⟩
theorem ok_X12_marks {x : Int32} {μ : kMem} : kOk yX12_marks cX12_marks 2 (some .int) rmX12_marks shM 48 [.ref 0, .int x] μ (kP (if 0 ≤ x.toInt ∧ x.toInt < 26 ∧ 0 < (μ.1 3 x.toInt.toNat).toInt then μ.1 3 x.toInt.toNat else Int32.ofInt (-1)) μ) := by
  refine kOk.of rfl (Nat.le_of_ble_eq_true rfl) (fun J C => ?_)
  have C : kR cX12_marks RX12 2 rmX12_marks shM 48 (some .int) _ J := C
  refine (r_iload_n C dX12_marks_0 rfl rfl (r_i2l C dX12_marks_1 (r_lconst C dX12_marks_2 rfl (r_ldc2 C dX12_marks_3 kc_X12_220 (r_s3P C ys_X12_in lk_X12_155 dX12_marks_6 rfl (Nat.le_of_ble_eq_true rfl) ok_X12_in (r_if_eq C (tgt := 34) dX12_marks_9 rfl (fun c9 => (r_iconst C dX12_marks_34 (r_iret C dX12_marks_35 ?_))) (fun c9 => (r_aload_n C dX12_marks_12 rfl rfl (r_getR C dX12_marks_13 fd_X12_15 nM_0 sM_0 rfl (r_iconst C dX12_marks_16 (r_aald C (r := 3) dX12_marks_17 nM_2 (by decide) sM_2 (by decide) (by decide) (r_iload_n C dX12_marks_18 rfl rfl (r_iald C dX12_marks_19 nM_3 sM_3 ?_ (r_if_le C (tgt := 34) dX12_marks_20 rfl (fun c20 => (r_iconst C dX12_marks_34 (r_iret C dX12_marks_35 ?_))) (fun c20 => (r_aload_n C dX12_marks_23 rfl rfl (r_getR C dX12_marks_24 fd_X12_15 nM_0 sM_0 rfl (r_iconst C dX12_marks_27 (r_aald C (r := 3) dX12_marks_28 nM_2 (by decide) sM_2 (by decide) (by decide) (r_iload_n C dX12_marks_29 rfl rfl (r_iald C dX12_marks_30 nM_3 sM_3 ?_ (r_goto C (tgt := 35) dX12_marks_31 rfl (r_iret C dX12_marks_35 ?_)))))))))))))))))))))))
  · have c := bP_e0.mp c9
    simp only [tl_i2l, ll_c0, ll_c1, ll_m1, ll_32, ll_97, ll_25, ll_255255, ll_5, ll_99, ll_20, ll_9, ll_999, ll_1000000, ll_17575, ll_3, ll_200, ll_60, ll_2, ll_5000, ll_m60, ll_m99] at c
    exact ⟨(if_neg (by omega)).symm, rfl⟩
  · have c := bP_ne c9
    simp only [tl_i2l, ll_c0, ll_c1, ll_m1, ll_32, ll_97, ll_25, ll_255255, ll_5, ll_99, ll_20, ll_9, ll_999, ll_1000000, ll_17575, ll_3, ll_200, ll_60, ll_2, ll_5000, ll_m60, ll_m99] at c
    omega
  · exact ⟨(if_neg (by omega)).symm, rfl⟩
  · have c := bP_ne c9
    simp only [tl_i2l, ll_c0, ll_c1, ll_m1, ll_32, ll_97, ll_25, ll_255255, ll_5, ll_99, ll_20, ll_9, ll_999, ll_1000000, ll_17575, ll_3, ll_200, ll_60, ll_2, ll_5000, ll_m60, ll_m99] at c
    omega
  · have c := bP_ne c9
    simp only [tl_i2l, ll_c0, ll_c1, ll_m1, ll_32, ll_97, ll_25, ll_255255, ll_5, ll_99, ll_20, ll_9, ll_999, ll_1000000, ll_17575, ll_3, ll_200, ll_60, ll_2, ll_5000, ll_m60, ll_m99] at c
    exact ⟨(if_pos (by omega)).symm, rfl⟩
theorem ok_X12_group {x : Int32} {μ : kMem} (h : 0 ≤ (μ.1 12 0).toInt ∧ (μ.1 12 0).toInt ≤ 20) : kOk yX12_group cX12_group 2 (some .int) rmX12_group shM 48 [.ref 0, .int x] μ (kP (if 0 ≤ x.toInt ∧ x.toInt < (μ.1 12 0).toInt then μ.1 6 x.toInt.toNat else Int32.ofInt (-1)) μ) := by
  have z0 : (Int32.ofInt 0).toInt.toNat = 0 := by decide
  have e : (μ.1 12 0 - Int32.ofInt 1).toInt = (μ.1 12 0).toInt - 1 := by rw [ti_subc (by omega)]
  refine kOk.of rfl (Nat.le_of_ble_eq_true rfl) (fun J C => ?_)
  have C : kR cX12_group RX12 2 rmX12_group shM 48 (some .int) _ J := C
  refine (r_iload_n C dX12_group_0 rfl rfl (r_i2l C dX12_group_1 (r_lconst C dX12_group_2 rfl (r_aload_n C dX12_group_3 rfl rfl (r_getR C dX12_group_4 fd_X12_30 nM_0 sM_0 rfl (r_iconst C dX12_group_7 (r_iald C dX12_group_8 nM_12 sM_12 (by decide) (r_iconst C dX12_group_9 (r_isub C dX12_group_10 (r_i2l C dX12_group_11 (r_s3P C ys_X12_in lk_X12_155 dX12_group_12 rfl (Nat.le_of_ble_eq_true rfl) ok_X12_in (r_if_eq C (tgt := 29) dX12_group_15 rfl (fun c15 => (r_iconst C dX12_group_29 (r_iret C dX12_group_30 ?_))) (fun c15 => (r_aload_n C dX12_group_18 rfl rfl (r_getR C dX12_group_19 fd_X12_18 nM_0 sM_0 rfl (r_iconst C dX12_group_22 (r_aald C (r := 6) dX12_group_23 nM_5 (by decide) sM_5 (by decide) (by decide) (r_iload_n C dX12_group_24 rfl rfl (r_iald C dX12_group_25 nM_6 sM_6 ?_ (r_goto C (tgt := 30) dX12_group_26 rfl (r_iret C dX12_group_30 ?_)))))))))))))))))))))
  · have c := bP_e0.mp c15
    rw [z0] at c
    simp only [tl_i2l, ll_c0, ll_c1, ll_m1, ll_32, ll_97, ll_25, ll_255255, ll_5, ll_99, ll_20, ll_9, ll_999, ll_1000000, ll_17575, ll_3, ll_200, ll_60, ll_2, ll_5000, ll_m60, ll_m99] at c
    rw [e] at c
    exact ⟨(if_neg (by omega)).symm, rfl⟩
  · have c := bP_ne c15
    rw [z0] at c
    simp only [tl_i2l, ll_c0, ll_c1, ll_m1, ll_32, ll_97, ll_25, ll_255255, ll_5, ll_99, ll_20, ll_9, ll_999, ll_1000000, ll_17575, ll_3, ll_200, ll_60, ll_2, ll_5000, ll_m60, ll_m99] at c
    rw [e] at c
    omega
  · have c := bP_ne c15
    rw [z0] at c
    simp only [tl_i2l, ll_c0, ll_c1, ll_m1, ll_32, ll_97, ll_25, ll_255255, ll_5, ll_99, ll_20, ll_9, ll_999, ll_1000000, ll_17575, ll_3, ll_200, ll_60, ll_2, ll_5000, ll_m60, ll_m99] at c
    rw [e] at c
    exact ⟨(if_pos (by omega)).symm, rfl⟩
def mcnt (μ : kMem) (x : Int) : Int32 := if x = 0 then μ.1 11 0 else if x = 1 then μ.1 12 0 else if x = 2 then μ.1 0 18 else if x = 3 then μ.1 0 19 else if x = 4 then μ.1 0 21 else if x = 5 then μ.1 0 36 else if x = 6 then μ.1 0 54 else if x = 7 then μ.1 0 55 else if x = 8 then μ.1 0 1 else if x = 9 then μ.1 0 20 else Int32.ofInt (-1)
theorem ok_X12_count {x : Int32} {μ : kMem} : kOk yX12_count cX12_count 2 (some .int) rmX12_count shM 48 [.ref 0, .int x] μ (kP (mcnt μ x.toInt) μ) := by
  unfold mcnt
  refine kOk.of rfl (Nat.le_of_ble_eq_true rfl) (fun J C => ?_)
  have C : kR cX12_count RX12 2 rmX12_count shM 48 (some .int) _ J := C
  refine (r_iload_n C dX12_count_0 rfl rfl (r_table C (tg := 110) dX12_count_1 rfl (by decide) (by decide) ?_ (fun c1 => (r_iconst C dX12_count_110 (r_iret C dX12_count_111 ?_)))))
  · intro i h1 h2 h3
    rcases (show i = 0 ∨ i = 1 ∨ i = 2 ∨ i = 3 ∨ i = 4 ∨ i = 5 ∨ i = 6 ∨ i = 7 ∨ i = 8 ∨ i = 9 by omega) with rfl | rfl | rfl | rfl | rfl | rfl | rfl | rfl | rfl | rfl
    · refine (r_aload_n C dX12_count_56 rfl rfl (r_getR C dX12_count_57 fd_X12_26 nM_0 sM_0 rfl (r_iconst C dX12_count_60 (r_iald C dX12_count_61 nM_11 sM_11 (by decide) (r_iret C dX12_count_62 ?_)))))
      exact ⟨by rw [if_pos (by omega)]; rfl, rfl⟩
    · refine (r_aload_n C dX12_count_63 rfl rfl (r_getR C dX12_count_64 fd_X12_30 nM_0 sM_0 rfl (r_iconst C dX12_count_67 (r_iald C dX12_count_68 nM_12 sM_12 (by decide) (r_iret C dX12_count_69 ?_)))))
      exact ⟨by rw [if_neg (by omega), if_pos (by omega)]; rfl, rfl⟩
    · refine (r_aload_n C dX12_count_70 rfl rfl (r_getI C dX12_count_71 fd_X12_224 nM_0 sM_0 rfl (r_iret C dX12_count_74 ?_)))
      exact ⟨by rw [if_neg (by omega), if_neg (by omega), if_pos (by omega)], rfl⟩
    · refine (r_aload_n C dX12_count_75 rfl rfl (r_getI C dX12_count_76 fd_X12_243 nM_0 sM_0 rfl (r_iret C dX12_count_79 ?_)))
      exact ⟨by rw [if_neg (by omega), if_neg (by omega), if_neg (by omega), if_pos (by omega)], rfl⟩
    · refine (r_aload_n C dX12_count_80 rfl rfl (r_getI C dX12_count_81 fd_X12_260 nM_0 sM_0 rfl (r_iret C dX12_count_84 ?_)))
      exact ⟨by rw [if_neg (by omega), if_neg (by omega), if_neg (by omega), if_neg (by omega), if_pos (by omega)], rfl⟩
    · refine (r_aload_n C dX12_count_85 rfl rfl (r_getI C dX12_count_86 fd_X12_359 nM_0 sM_0 rfl (r_iret C dX12_count_89 ?_)))
      exact ⟨by rw [if_neg (by omega), if_neg (by omega), if_neg (by omega), if_neg (by omega), if_neg (by omega), if_pos (by omega)], rfl⟩
    · refine (r_aload_n C dX12_count_90 rfl rfl (r_getI C dX12_count_91 fd_X12_381 nM_0 sM_0 rfl (r_iret C dX12_count_94 ?_)))
      exact ⟨by rw [if_neg (by omega), if_neg (by omega), if_neg (by omega), if_neg (by omega), if_neg (by omega), if_neg (by omega), if_pos (by omega)], rfl⟩
    · refine (r_aload_n C dX12_count_95 rfl rfl (r_getI C dX12_count_96 fd_X12_389 nM_0 sM_0 rfl (r_iret C dX12_count_99 ?_)))
      exact ⟨by rw [if_neg (by omega), if_neg (by omega), if_neg (by omega), if_neg (by omega), if_neg (by omega), if_neg (by omega), if_neg (by omega), if_pos (by omega)], rfl⟩
    · refine (r_aload_n C dX12_count_100 rfl rfl (r_getI C dX12_count_101 fd_X12_147 nM_0 sM_0 rfl (r_iret C dX12_count_104 ?_)))
      exact ⟨by rw [if_neg (by omega), if_neg (by omega), if_neg (by omega), if_neg (by omega), if_neg (by omega), if_neg (by omega), if_neg (by omega), if_neg (by omega), if_pos (by omega)], rfl⟩
    · refine (r_aload_n C dX12_count_105 rfl rfl (r_getI C dX12_count_106 fd_X12_248 nM_0 sM_0 rfl (r_iret C dX12_count_109 ?_)))
      exact ⟨by rw [if_neg (by omega), if_neg (by omega), if_neg (by omega), if_neg (by omega), if_neg (by omega), if_neg (by omega), if_neg (by omega), if_neg (by omega), if_neg (by omega), if_pos (by omega)], rfl⟩
  · exact ⟨by rw [if_neg (by omega), if_neg (by omega), if_neg (by omega), if_neg (by omega), if_neg (by omega), if_neg (by omega), if_neg (by omega), if_neg (by omega), if_neg (by omega), if_neg (by omega)], rfl⟩
theorem ok_X12_clock {x y z : Int32} {μ : kMem} : kOk yX12_clock cX12_clock 4 (some .boolean) rmX12_clock shM 48 [.ref 0, .int x, .int y, .int z] μ (kI fun r μ' => (((0 ≤ x.toInt ∧ x.toInt < 6) ∧ -60 ≤ y.toInt ∧ z.toInt ≤ 60 ∧ y.toInt ≤ z.toInt) ∧ r = Int32.ofInt 1 ∧ μ' = up (up μ 40 x.toInt.toNat y) 41 x.toInt.toNat z) ∨ (¬ ((0 ≤ x.toInt ∧ x.toInt < 6) ∧ -60 ≤ y.toInt ∧ z.toInt ≤ 60 ∧ y.toInt ≤ z.toInt) ∧ r = Int32.ofInt 0 ∧ μ' = μ)) := by
  refine kOk.of rfl (Nat.le_of_ble_eq_true rfl) (fun J C => ?_)
  have C : kR cX12_clock RX12 4 rmX12_clock shM 48 (some .boolean) _ J := C
  refine (r_iload_n C dX12_clock_0 rfl rfl (r_s1P C ys_X12_isStation lk_X12_236 dX12_clock_1 rfl (Nat.le_of_ble_eq_true rfl) ok_X12_isStation (r_if_eq C (tgt := 34) dX12_clock_4 rfl (fun c4 => (r_iconst C dX12_clock_34 (r_zret C dX12_clock_35 rfl ?_))) (fun c4 => (r_iload_n C dX12_clock_7 rfl rfl (r_i2l C dX12_clock_8 (r_ldc2 C dX12_clock_9 kc_X12_379 (r_ldc2 C dX12_clock_12 kc_X12_357 (r_s3P C ys_X12_in lk_X12_155 dX12_clock_15 rfl (Nat.le_of_ble_eq_true rfl) ok_X12_in (r_if_eq C (tgt := 34) dX12_clock_18 rfl (fun c18 => (r_iconst C dX12_clock_34 (r_zret C dX12_clock_35 rfl ?_))) (fun c18 => (r_iload_n C dX12_clock_21 rfl rfl (r_i2l C dX12_clock_22 (r_iload_n C dX12_clock_23 rfl rfl (r_i2l C dX12_clock_24 (r_ldc2 C dX12_clock_25 kc_X12_357 (r_s3P C ys_X12_in lk_X12_155 dX12_clock_28 rfl (Nat.le_of_ble_eq_true rfl) ok_X12_in (r_if_ne C (tgt := 36) dX12_clock_31 rfl (fun c31 => (r_aload_n C dX12_clock_36 rfl rfl (r_getR C dX12_clock_37 fd_X12_123 nM_0 sM_0 rfl (r_iload_n C dX12_clock_40 rfl rfl (r_iload_n C dX12_clock_41 rfl rfl (r_iast C dX12_clock_42 nM_40 sM_40 ?_ (r_aload_n C dX12_clock_43 rfl rfl (r_getR C dX12_clock_44 fd_X12_126 nM_0 sM_0 rfl (r_iload_n C dX12_clock_47 rfl rfl (r_iload_n C dX12_clock_48 rfl rfl (r_iast C dX12_clock_49 nM_41 sM_41 ?_ (r_iconst C dX12_clock_50 (r_zret C dX12_clock_51 rfl ?_))))))))))))) (fun c31 => (r_iconst C dX12_clock_34 (r_zret C dX12_clock_35 rfl ?_)))))))))))))))))))))
  · exact Or.inr ⟨fun q => bP_e0.mp c4 q.1, rfl, rfl⟩
  · have c := bP_e0.mp c18
    simp only [tl_i2l, ll_c0, ll_c1, ll_m1, ll_32, ll_97, ll_25, ll_255255, ll_5, ll_99, ll_20, ll_9, ll_999, ll_1000000, ll_17575, ll_3, ll_200, ll_60, ll_2, ll_5000, ll_m60, ll_m99] at c
    exact Or.inr ⟨fun q => c (by omega), rfl, rfl⟩
  · have a := bP_ne c4
    exact ⟨a.1, a.2⟩
  · have a := bP_ne c4
    exact ⟨a.1, a.2⟩
  · have c := bP_ne c18
    have d := bP_ne c31
    simp only [tl_i2l, ll_c0, ll_c1, ll_m1, ll_32, ll_97, ll_25, ll_255255, ll_5, ll_99, ll_20, ll_9, ll_999, ll_1000000, ll_17575, ll_3, ll_200, ll_60, ll_2, ll_5000, ll_m60, ll_m99] at c d
    exact Or.inl ⟨⟨bP_ne c4, by omega, by omega, by omega⟩, rfl, rfl⟩
  · have c := bP_ne c18
    have d := bP_e0.mp c31
    simp only [tl_i2l, ll_c0, ll_c1, ll_m1, ll_32, ll_97, ll_25, ll_255255, ll_5, ll_99, ll_20, ll_9, ll_999, ll_1000000, ll_17575, ll_3, ll_200, ll_60, ll_2, ll_5000, ll_m60, ll_m99] at c d
    exact Or.inr ⟨fun q => d (by omega), rfl, rfl⟩
theorem ok_X12_event {x1 x2 : Int32} {μ : kMem} (h : 0 ≤ (μ.1 0 54).toInt ∧ (μ.1 0 54).toInt ≤ 12) : kOk yX12_event cX12_event 3 (some .int) rmX12_event shM 48 [.ref 0, .int x1, .int x2] μ (kI fun r μ' => (((0 ≤ x1.toInt ∧ x1.toInt < 6) ∧ 0 ≤ x2.toInt ∧ x2.toInt ≤ 999) ∧ (μ.1 0 54).toInt < 12 ∧ r = μ.1 0 54 ∧ μ' = up (up (up μ 42 (μ.1 0 54).toInt.toNat x1) 43 (μ.1 0 54).toInt.toNat x2) 0 54 (Int32.ofInt ((μ.1 0 54).toInt + 1))) ∨ (¬ (((0 ≤ x1.toInt ∧ x1.toInt < 6) ∧ 0 ≤ x2.toInt ∧ x2.toInt ≤ 999) ∧ (μ.1 0 54).toInt < 12) ∧ r = Int32.ofInt (-1) ∧ μ' = μ)) := by
  have m12 : (Int32.ofInt 12).toInt = 12 := by decide
  have e1 : μ.1 0 54 + Int32.ofInt 1 = Int32.ofInt ((μ.1 0 54).toInt + 1) := ti_ext (by rw [ti_addc (by omega), ti_ofInt (by omega)])
  have e2 : μ.1 0 54 + Int32.ofInt 1 - Int32.ofInt 1 = μ.1 0 54 := ti_ext (by rw [e1, ti_subc (by rw [ti_ofInt (by omega)]; omega), ti_ofInt (by omega)]; omega)
  refine kOk.of rfl (Nat.le_of_ble_eq_true rfl) (fun J C => ?_)
  have C : kR cX12_event RX12 3 rmX12_event shM 48 (some .int) _ J := C
  refine (r_iload_n C dX12_event_0 rfl rfl (r_s1P C ys_X12_isStation lk_X12_236 dX12_event_1 rfl (Nat.le_of_ble_eq_true rfl) ok_X12_isStation (r_if_eq C (tgt := 28) dX12_event_4 rfl (fun c4 => (r_iconst C dX12_event_28 (r_iret C dX12_event_29 ?_))) (fun c4 => (r_iload_n C dX12_event_7 rfl rfl (r_i2l C dX12_event_8 (r_lconst C dX12_event_9 rfl (r_ldc2 C dX12_event_10 kc_X12_258 (r_s3P C ys_X12_in lk_X12_155 dX12_event_13 rfl (Nat.le_of_ble_eq_true rfl) ok_X12_in (r_if_eq C (tgt := 28) dX12_event_16 rfl (fun c16 => (r_iconst C dX12_event_28 (r_iret C dX12_event_29 ?_))) (fun c16 => (r_aload_n C dX12_event_19 rfl rfl (r_getI C dX12_event_20 fd_X12_381 nM_0 sM_0 rfl (r_bipush C dX12_event_23 (by decide +kernel) (r_icmp_ne C (tgt := 30) dX12_event_25 rfl (fun c25 => (r_aload_n C dX12_event_30 rfl rfl (r_getR C dX12_event_31 fd_X12_129 nM_0 sM_0 rfl (r_aload_n C dX12_event_34 rfl rfl (r_getI C dX12_event_35 fd_X12_381 nM_0 sM_0 rfl (r_iload_n C dX12_event_38 rfl rfl (r_iast C dX12_event_39 nM_42 sM_42 ?_ (r_aload_n C dX12_event_40 rfl rfl (r_getR C dX12_event_41 fd_X12_132 nM_0 sM_0 rfl (r_aload_n C dX12_event_44 rfl rfl (r_getI C dX12_event_45 fd_X12_381 nM_0 sM_0 rfl (r_iload_n C dX12_event_48 rfl rfl (r_iast C dX12_event_49 nM_43 sM_43 ?_ (r_aload_n C dX12_event_50 rfl rfl (r_dup C dX12_event_51 rfl (r_getI C dX12_event_52 fd_X12_381 nM_0 sM_0 rfl (r_iconst C dX12_event_55 (r_iadd C dX12_event_56 (r_putI C dX12_event_57 fw_X12_381 nM_0 sM_0 rfl (r_aload_n C dX12_event_60 rfl rfl (r_getI C dX12_event_61 fd_X12_381 nM_0 sM_0 rfl (r_iconst C dX12_event_64 (r_isub C dX12_event_65 (r_iret C dX12_event_66 ?_)))))))))))))))))))))))) (fun c25 => (r_iconst C dX12_event_28 (r_iret C dX12_event_29 ?_))))))))))))))))))
  · exact Or.inr ⟨fun q => bP_e0.mp c4 q.1.1, rfl, rfl⟩
  · have c := bP_e0.mp c16
    simp only [tl_i2l, ll_c0, ll_c1, ll_m1, ll_32, ll_97, ll_25, ll_255255, ll_5, ll_99, ll_20, ll_9, ll_999, ll_1000000, ll_17575, ll_3, ll_200, ll_60, ll_2, ll_5000, ll_m60, ll_m99] at c
    exact Or.inr ⟨fun q => c (by omega), rfl, rfl⟩
  · rw [m12] at c25
    omega
  · rw [m12] at c25
    simp (disch := decide) only [up_same, up_neo, up_nek, up_2]
    omega
  · rw [m12] at c25
    have c := bP_ne c16
    simp only [tl_i2l, ll_c0, ll_c1, ll_m1, ll_32, ll_97, ll_25, ll_255255, ll_5, ll_99, ll_20, ll_9, ll_999, ll_1000000, ll_17575, ll_3, ll_200, ll_60, ll_2, ll_5000, ll_m60, ll_m99] at c
    simp (disch := decide) only [up_same, up_neo, up_nek, up_2]
    exact Or.inl ⟨⟨bP_ne c4, c⟩, by omega, e2, by rw [e1]⟩
  · rw [m12] at c25
    exact Or.inr ⟨fun q => by omega, rfl, rfl⟩
theorem ok_X12_fact {x1 x2 x3 : Int32} {μ : kMem} (h : (0 ≤ (μ.1 0 55).toInt ∧ (μ.1 0 55).toInt ≤ 12) ∧ 0 ≤ (μ.1 0 54).toInt) : kOk yX12_fact cX12_fact 4 (some .int) rmX12_fact shM 48 [.ref 0, .int x1, .int x2, .int x3] μ (kI fun r μ' => (((0 ≤ x1.toInt ∧ x1.toInt < (μ.1 0 54).toInt) ∧ (0 ≤ x2.toInt ∧ x2.toInt < (μ.1 0 54).toInt) ∧ ¬ x1.toInt = x2.toInt ∧ -99 ≤ x3.toInt ∧ x3.toInt ≤ 99) ∧ (μ.1 0 55).toInt < 12 ∧ r = Int32.ofInt ((μ.1 0 55).toInt + 1) ∧ μ' = up (up (up (up μ 44 (μ.1 0 55).toInt.toNat x1) 45 (μ.1 0 55).toInt.toNat x2) 46 (μ.1 0 55).toInt.toNat x3) 0 55 (Int32.ofInt ((μ.1 0 55).toInt + 1))) ∨ (¬ (((0 ≤ x1.toInt ∧ x1.toInt < (μ.1 0 54).toInt) ∧ (0 ≤ x2.toInt ∧ x2.toInt < (μ.1 0 54).toInt) ∧ ¬ x1.toInt = x2.toInt ∧ -99 ≤ x3.toInt ∧ x3.toInt ≤ 99) ∧ (μ.1 0 55).toInt < 12) ∧ r = Int32.ofInt (-1) ∧ μ' = μ)) := by
  have m12 : (Int32.ofInt 12).toInt = 12 := by decide
  have e1 : μ.1 0 55 + Int32.ofInt 1 = Int32.ofInt ((μ.1 0 55).toInt + 1) := ti_ext (by rw [ti_addc (by omega), ti_ofInt (by omega)])
  refine kOk.of rfl (Nat.le_of_ble_eq_true rfl) (fun J C => ?_)
  have C : kR cX12_fact RX12 4 rmX12_fact shM 48 (some .int) _ J := C
  refine (r_aload_n C dX12_fact_0 rfl rfl (r_iload_n C dX12_fact_1 rfl rfl (r_v1P C yv_X12_isEvent lk_X12_384 dX12_fact_2 rfl nM_0 sM_0 rfl (Nat.le_of_ble_eq_true rfl) (ok_X12_isEvent ?_) (r_if_eq C (tgt := 44) dX12_fact_5 rfl (fun c5 => (r_iconst C dX12_fact_44 (r_iret C dX12_fact_45 ?_))) (fun c5 => (r_aload_n C dX12_fact_8 rfl rfl (r_iload_n C dX12_fact_9 rfl rfl (r_v1P C yv_X12_isEvent lk_X12_384 dX12_fact_10 rfl nM_0 sM_0 rfl (Nat.le_of_ble_eq_true rfl) (ok_X12_isEvent ?_) (r_if_eq C (tgt := 44) dX12_fact_13 rfl (fun c13 => (r_iconst C dX12_fact_44 (r_iret C dX12_fact_45 ?_))) (fun c13 => (r_iload_n C dX12_fact_16 rfl rfl (r_iload_n C dX12_fact_17 rfl rfl (r_icmp_eq C (tgt := 44) dX12_fact_18 rfl (fun c18 => (r_iconst C dX12_fact_44 (r_iret C dX12_fact_45 ?_))) (fun c18 => (r_iload_n C dX12_fact_21 rfl rfl (r_i2l C dX12_fact_22 (r_ldc2 C dX12_fact_23 kc_X12_387 (r_ldc2 C dX12_fact_26 kc_X12_239 (r_s3P C ys_X12_in lk_X12_155 dX12_fact_29 rfl (Nat.le_of_ble_eq_true rfl) ok_X12_in (r_if_eq C (tgt := 44) dX12_fact_32 rfl (fun c32 => (r_iconst C dX12_fact_44 (r_iret C dX12_fact_45 ?_))) (fun c32 => (r_aload_n C dX12_fact_35 rfl rfl (r_getI C dX12_fact_36 fd_X12_389 nM_0 sM_0 rfl (r_bipush C dX12_fact_39 (by decide +kernel) (r_icmp_ne C (tgt := 46) dX12_fact_41 rfl (fun c41 => (r_aload_n C dX12_fact_46 rfl rfl (r_getR C dX12_fact_47 fd_X12_135 nM_0 sM_0 rfl (r_aload_n C dX12_fact_50 rfl rfl (r_getI C dX12_fact_51 fd_X12_389 nM_0 sM_0 rfl (r_iload_n C dX12_fact_54 rfl rfl (r_iast C dX12_fact_55 nM_44 sM_44 ?_ (r_aload_n C dX12_fact_56 rfl rfl (r_getR C dX12_fact_57 fd_X12_138 nM_0 sM_0 rfl (r_aload_n C dX12_fact_60 rfl rfl (r_getI C dX12_fact_61 fd_X12_389 nM_0 sM_0 rfl (r_iload_n C dX12_fact_64 rfl rfl (r_iast C dX12_fact_65 nM_45 sM_45 ?_ (r_aload_n C dX12_fact_66 rfl rfl (r_getR C dX12_fact_67 fd_X12_141 nM_0 sM_0 rfl (r_aload_n C dX12_fact_70 rfl rfl (r_getI C dX12_fact_71 fd_X12_389 nM_0 sM_0 rfl (r_iload_n C dX12_fact_74 rfl rfl (r_iast C dX12_fact_75 nM_46 sM_46 ?_ (r_aload_n C dX12_fact_76 rfl rfl (r_dup C dX12_fact_77 rfl (r_getI C dX12_fact_78 fd_X12_389 nM_0 sM_0 rfl (r_iconst C dX12_fact_81 (r_iadd C dX12_fact_82 (r_putI C dX12_fact_83 fw_X12_389 nM_0 sM_0 rfl (r_aload_n C dX12_fact_86 rfl rfl (r_getI C dX12_fact_87 fd_X12_389 nM_0 sM_0 rfl (r_iret C dX12_fact_90 ?_)))))))))))))))))))))))))))) (fun c41 => (r_iconst C dX12_fact_44 (r_iret C dX12_fact_45 ?_))))))))))))))))))))))))))))
  · exact h.2
  · exact Or.inr ⟨fun q => bP_e0.mp c5 q.1.1, rfl, rfl⟩
  · exact h.2
  · exact Or.inr ⟨fun q => bP_e0.mp c13 q.1.2.1, rfl, rfl⟩
  · exact Or.inr ⟨fun q => q.1.2.2.1 c18, rfl, rfl⟩
  · have c := bP_e0.mp c32
    simp only [tl_i2l, ll_c0, ll_c1, ll_m1, ll_32, ll_97, ll_25, ll_255255, ll_5, ll_99, ll_20, ll_9, ll_999, ll_1000000, ll_17575, ll_3, ll_200, ll_60, ll_2, ll_5000, ll_m60, ll_m99] at c
    exact Or.inr ⟨fun q => c (by omega), rfl, rfl⟩
  · rw [m12] at c41
    omega
  · rw [m12] at c41
    simp (disch := decide) only [up_same, up_neo, up_nek, up_2]
    omega
  · rw [m12] at c41
    simp (disch := decide) only [up_same, up_neo, up_nek, up_2]
    omega
  · rw [m12] at c41
    have c := bP_ne c32
    simp only [tl_i2l, ll_c0, ll_c1, ll_m1, ll_32, ll_97, ll_25, ll_255255, ll_5, ll_99, ll_20, ll_9, ll_999, ll_1000000, ll_17575, ll_3, ll_200, ll_60, ll_2, ll_5000, ll_m60, ll_m99] at c
    simp (disch := decide) only [up_same, up_neo, up_nek, up_2]
    exact Or.inl ⟨⟨bP_ne c5, bP_ne c13, c18, c⟩, by omega, e1, by rw [e1]⟩
  · rw [m12] at c41
    exact Or.inr ⟨fun q => by omega, rfl, rfl⟩
theorem ok_X12_undo {μ : kMem} (h : 0 ≤ (μ.1 0 55).toInt) : kOk yX12_undo cX12_undo 1 (some .int) rmX12_undo shM 48 [.ref 0] μ (kI fun r μ' => ((μ.1 0 55).toInt = 0 ∧ r = Int32.ofInt (-1) ∧ μ' = μ) ∨ (0 < (μ.1 0 55).toInt ∧ r = Int32.ofInt ((μ.1 0 55).toInt - 1) ∧ μ' = up μ 0 55 (Int32.ofInt ((μ.1 0 55).toInt - 1)))) := by
  have hb := ti_hi (μ.1 0 55)
  have e1 : μ.1 0 55 - Int32.ofInt 1 = Int32.ofInt ((μ.1 0 55).toInt - 1) := ti_ext (by rw [ti_subc (by omega), ti_ofInt (by omega)])
  refine kOk.of rfl (Nat.le_of_ble_eq_true rfl) (fun J C => ?_)
  have C : kR cX12_undo RX12 1 rmX12_undo shM 48 (some .int) _ J := C
  refine (r_aload_n C dX12_undo_0 rfl rfl (r_getI C dX12_undo_1 fd_X12_389 nM_0 sM_0 rfl (r_if_ne C (tgt := 9) dX12_undo_4 rfl (fun c4 => (r_aload_n C dX12_undo_9 rfl rfl (r_dup C dX12_undo_10 rfl (r_getI C dX12_undo_11 fd_X12_389 nM_0 sM_0 rfl (r_iconst C dX12_undo_14 (r_isub C dX12_undo_15 (r_putI C dX12_undo_16 fw_X12_389 nM_0 sM_0 rfl (r_aload_n C dX12_undo_19 rfl rfl (r_getI C dX12_undo_20 fd_X12_389 nM_0 sM_0 rfl (r_iret C dX12_undo_23 ?_)))))))))) (fun c4 => (r_iconst C dX12_undo_7 (r_iret C dX12_undo_8 ?_))))))
  · simp (disch := decide) only [up_same, up_neo, up_nek, up_2]
    exact Or.inr ⟨by omega, e1, by rw [e1]⟩
  · exact Or.inl ⟨c4, rfl, rfl⟩
theorem unF_comm : ∀ (k : Nat) (a b : Int), unF k a b = unF k b a := by
  intro k
  induction k with
  | zero => intro a b; rfl
  | succ k ih =>
    intro a b
    unfold unF
    rw [ih (a / 26) (b / 26)]
    by_cases h : a % 26 = b % 26
    · rw [if_pos h, if_pos h.symm]
    · rw [if_neg h, if_neg (fun z => h z.symm)]

