/-! ===== the model: groups mended; marks, lengths as sent ===== -/
theorem ok_X12_mended {g o k : Int32} {μ : kMem} (h : (0 ≤ (μ.1 12 0).toInt ∧ (μ.1 12 0).toInt ≤ 20) ∧ ∀ w : Nat, (w : Int) < (μ.1 12 0).toInt → 0 ≤ (μ.1 6 w).toInt) : kOk yX12_mended cX12_mended 10 (some .int) rmX12_mended shM 48 [.ref 0, .int g, .int o, .int k] μ (kP (if (0 ≤ g.toInt ∧ g.toInt < 17576) ∧ 0 ≤ o.toInt ∧ o.toInt ≤ 3 then Int32.ofInt (kthF (fun w => unF 3 (μ.1 6 w).toInt g.toInt ≤ o.toInt) k.toInt (μ.1 12 0).toInt.toNat 0 0) else Int32.ofInt (-1)) μ) := by
  have mm : (Int32.ofInt (-1)).toInt = -1 := by decide
  have m3 : (Int32.ofInt 3).toInt = 3 := by decide
  have z0 : (Int32.ofInt 0).toInt.toNat = 0 := by decide
  by_cases hc : (0 ≤ g.toInt ∧ g.toInt < 17576) ∧ 0 ≤ o.toInt ∧ o.toInt ≤ 3
  · rw [if_pos hc]
    obtain ⟨T, hT⟩ : ∃ T, T = kthF (fun w => unF 3 (μ.1 6 w).toInt g.toInt ≤ o.toInt) k.toInt (μ.1 12 0).toInt.toNat 0 0 := ⟨_, rfl⟩
    rw [← hT]
    refine kOk.of rfl (Nat.le_of_ble_eq_true rfl) (fun J C => ?_)
    have C : kR cX12_mended RX12 10 rmX12_mended shM 48 (some .int) _ J := C
    have loop : ∀ (n i f : Nat) (v u : Int32) (z6 z7 z8 z9 : Option Value), (i : Int) + n = (μ.1 12 0).toInt → v.toInt = i → u.toInt = f → f ≤ i → kthF (fun w => unF 3 (μ.1 6 w).toInt g.toInt ≤ o.toInt) k.toInt n i f = T → J 32 [some (.ref 0), some (.int g), some (.int o), some (.int k), some (.int u), some (.int v), z6, z7, z8, z9] [] μ := by
      intro n
      induction n using Nat.strongRecOn with
      | ind n ih =>
        intro i f v u z6 z7 z8 z9 hn hv hu hf hr
        have hg0 := h.2 i
        obtain ⟨U, hU⟩ : ∃ U, U = unF 3 g.toInt (μ.1 6 i).toInt := ⟨_, rfl⟩
        have hub : 0 ≤ U ∧ U ≤ 3 := by rw [hU]; exact unF_b 3 _ _
        have inner : ∀ (m j : Nat) (w y a b : Int32), j + m = 3 → w.toInt = j → 0 ≤ a.toInt → 0 ≤ b.toInt → 0 ≤ y.toInt → y.toInt + unF m a.toInt b.toInt = U → (i : Int) < (μ.1 12 0).toInt → J 63 [some (.ref 0), some (.int g), some (.int o), some (.int k), some (.int u), some (.int v), some (.int a), some (.int b), some (.int y), some (.int w)] [] μ := by
          intro m
          induction m using Nat.strongRecOn with
          | ind m ihm =>
            intro j w y a b hj hw ha hb hy0 hy hi
            have hum := unF_b m a.toInt b.toInt
            have ea : (a / Int32.ofInt 26).toInt = a.toInt / 26 := ti_divc (by omega)
            have eb : (b / Int32.ofInt 26).toInt = b.toInt / 26 := ti_divc (by omega)
            have ra : (krem a (Int32.ofInt 26)).toInt = a.toInt % 26 := ti_remc (by omega)
            have rb : (krem b (Int32.ofInt 26)).toInt = b.toInt % 26 := ti_remc (by omega)
            have h1 := Int.ediv_nonneg ha (show (0 : Int) ≤ 26 by decide)
            have h2 := Int.ediv_nonneg hb (show (0 : Int) ≤ 26 by decide)
            obtain ⟨n', rfl⟩ : ∃ n', n = n' + 1 := ⟨n - 1, by omega⟩
            have hz : m = 0 → y.toInt = unF 3 (μ.1 6 i).toInt g.toInt := by
              intro q
              subst q
              rw [unF_comm, ← hU]
              have : unF 0 a.toInt b.toInt = 0 := rfl
              omega
            refine (r_iload C dX12_mended_63 rfl (r_iconst C dX12_mended_65 (r_icmp_ge C (tgt := 112) dX12_mended_66 rfl (fun c66 => (r_iload C dX12_mended_112 rfl (r_iload_n C dX12_mended_114 rfl rfl (r_icmp_le C (tgt := 121) dX12_mended_115 rfl (fun c115 => (r_iload C dX12_mended_121 rfl (r_iload_n C dX12_mended_123 rfl rfl (r_icmp_ne C (tgt := 130) dX12_mended_124 rfl (fun c124 => (r_iinc C dX12_mended_130 rfl (by decide) (r_iinc C dX12_mended_133 rfl (by decide) (r_goto C (tgt := 32) dX12_mended_136 rfl ?_)))) (fun c124 => (r_iload C dX12_mended_127 rfl (r_iret C dX12_mended_129 ?_))))))) (fun c115 => (r_goto C (tgt := 133) dX12_mended_118 rfl (r_iinc C dX12_mended_133 rfl (by decide) (r_goto C (tgt := 32) dX12_mended_136 rfl ?_)))))))) (fun c66 => (r_iload C dX12_mended_69 rfl (r_iload C dX12_mended_71 rfl (r_bipush C dX12_mended_73 (by decide +kernel) (r_irem C dX12_mended_75 (by decide) (r_iload C dX12_mended_76 rfl (r_bipush C dX12_mended_78 (by decide +kernel) (r_irem C dX12_mended_80 (by decide) (r_icmp_eq C (tgt := 88) dX12_mended_81 rfl (fun c81 => (r_iconst C dX12_mended_88 (r_iadd C dX12_mended_89 (r_istore C dX12_mended_90 (by decide) (r_iload C dX12_mended_92 rfl (r_bipush C dX12_mended_94 (by decide +kernel) (r_idiv C dX12_mended_96 (by decide) (r_istore C dX12_mended_97 (by decide) (r_iload C dX12_mended_99 rfl (r_bipush C dX12_mended_101 (by decide +kernel) (r_idiv C dX12_mended_103 (by decide) (r_istore C dX12_mended_104 (by decide) (r_iinc C dX12_mended_106 rfl (by decide) (r_goto C (tgt := 63) dX12_mended_109 rfl ?_)))))))))))))) (fun c81 => (r_iconst C dX12_mended_84 (r_goto C (tgt := 89) dX12_mended_85 rfl (r_iadd C dX12_mended_89 (r_istore C dX12_mended_90 (by decide) (r_iload C dX12_mended_92 rfl (r_bipush C dX12_mended_94 (by decide +kernel) (r_idiv C dX12_mended_96 (by decide) (r_istore C dX12_mended_97 (by decide) (r_iload C dX12_mended_99 rfl (r_bipush C dX12_mended_101 (by decide +kernel) (r_idiv C dX12_mended_103 (by decide) (r_istore C dX12_mended_104 (by decide) (r_iinc C dX12_mended_106 rfl (by decide) (r_goto C (tgt := 63) dX12_mended_109 rfl ?_)))))))))))))))))))))))))))
            · rw [m3] at c66
              have e := hz (by omega)
              rw [kthF_t (by omega), if_neg (by omega)] at hr
              exact ih n' (by omega) (i + 1) (f + 1) _ _ _ _ _ _ (by omega) (by simp (disch := (first | omega | (simp (disch := omega) only [ti_ofInt, ti_addc, ti_subc, ti_mulc, ti_cmul, ti_divc, ti_remc, ti_zero, ti_add, ti_sub, ti_neg, if_lt_ti, if_gt_ti, bP_e0, Classical.not_not, tl_i2l]; omega))) only [ti_ofInt, ti_addc, ti_subc, ti_mulc, ti_cmul, ti_divc, ti_remc, ti_zero, ti_add, ti_sub, ti_neg, if_lt_ti, if_gt_ti, bP_e0, Classical.not_not, tl_i2l]; omega) (by simp (disch := (first | omega | (simp (disch := omega) only [ti_ofInt, ti_addc, ti_subc, ti_mulc, ti_cmul, ti_divc, ti_remc, ti_zero, ti_add, ti_sub, ti_neg, if_lt_ti, if_gt_ti, bP_e0, Classical.not_not, tl_i2l]; omega))) only [ti_ofInt, ti_addc, ti_subc, ti_mulc, ti_cmul, ti_divc, ti_remc, ti_zero, ti_add, ti_sub, ti_neg, if_lt_ti, if_gt_ti, bP_e0, Classical.not_not, tl_i2l]; omega) (by omega) hr
            · rw [m3] at c66
              have e := hz (by omega)
              rw [kthF_t (by omega), if_pos (by omega)] at hr
              exact ⟨ti_ext (by rw [hv, ← hr, ti_ofInt (by omega)]), rfl⟩
            · rw [m3] at c66
              have e := hz (by omega)
              rw [kthF_f (by omega)] at hr
              exact ih n' (by omega) (i + 1) f _ _ _ _ _ _ (by omega) (by simp (disch := (first | omega | (simp (disch := omega) only [ti_ofInt, ti_addc, ti_subc, ti_mulc, ti_cmul, ti_divc, ti_remc, ti_zero, ti_add, ti_sub, ti_neg, if_lt_ti, if_gt_ti, bP_e0, Classical.not_not, tl_i2l]; omega))) only [ti_ofInt, ti_addc, ti_subc, ti_mulc, ti_cmul, ti_divc, ti_remc, ti_zero, ti_add, ti_sub, ti_neg, if_lt_ti, if_gt_ti, bP_e0, Classical.not_not, tl_i2l]; omega) hu (by omega) hr
            · rw [m3] at c66
              rw [ra, rb] at c81
              obtain ⟨m', rfl⟩ : ∃ m', m = m' + 1 := ⟨m - 1, by omega⟩
              simp only [unF, if_pos c81] at hy
              have hum2 := unF_b m' (a.toInt / 26) (b.toInt / 26)
              have ey : (y + Int32.ofInt 0).toInt = y.toInt := by rw [ti_addc (by omega), Int.add_zero]
              exact ihm m' (by omega) (j + 1) _ _ _ _ (by omega) (by simp (disch := (first | omega | (simp (disch := omega) only [ti_ofInt, ti_addc, ti_subc, ti_mulc, ti_cmul, ti_divc, ti_remc, ti_zero, ti_add, ti_sub, ti_neg, if_lt_ti, if_gt_ti, bP_e0, Classical.not_not, tl_i2l]; omega))) only [ti_ofInt, ti_addc, ti_subc, ti_mulc, ti_cmul, ti_divc, ti_remc, ti_zero, ti_add, ti_sub, ti_neg, if_lt_ti, if_gt_ti, bP_e0, Classical.not_not, tl_i2l]; omega) (by rw [ea]; exact h1) (by rw [eb]; exact h2) (by omega) (by rw [ea, eb, ey]; omega) hi
            · rw [m3] at c66
              rw [ra, rb] at c81
              obtain ⟨m', rfl⟩ : ∃ m', m = m' + 1 := ⟨m - 1, by omega⟩
              simp only [unF, if_neg c81] at hy
              have hum2 := unF_b m' (a.toInt / 26) (b.toInt / 26)
              have ey : (y + Int32.ofInt 1).toInt = y.toInt + 1 := ti_addc (by omega)
              exact ihm m' (by omega) (j + 1) _ _ _ _ (by omega) (by simp (disch := (first | omega | (simp (disch := omega) only [ti_ofInt, ti_addc, ti_subc, ti_mulc, ti_cmul, ti_divc, ti_remc, ti_zero, ti_add, ti_sub, ti_neg, if_lt_ti, if_gt_ti, bP_e0, Classical.not_not, tl_i2l]; omega))) only [ti_ofInt, ti_addc, ti_subc, ti_mulc, ti_cmul, ti_divc, ti_remc, ti_zero, ti_add, ti_sub, ti_neg, if_lt_ti, if_gt_ti, bP_e0, Classical.not_not, tl_i2l]; omega) (by rw [ea]; exact h1) (by rw [eb]; exact h2) (by omega) (by rw [ea, eb, ey]; omega) hi
        refine (r_iload C dX12_mended_32 rfl (r_aload_n C dX12_mended_34 rfl rfl (r_getR C dX12_mended_35 fd_X12_30 nM_0 sM_0 rfl (r_iconst C dX12_mended_38 (r_iald C dX12_mended_39 nM_12 sM_12 (by decide) (r_icmp_ge C (tgt := 139) dX12_mended_40 rfl (fun c40 => (r_iload_n C dX12_mended_139 rfl rfl (r_iconst C dX12_mended_140 (r_icmp_ne C (tgt := 149) dX12_mended_141 rfl (fun c141 => (r_iconst C dX12_mended_149 (r_iret C dX12_mended_150 ?_))) (fun c141 => (r_iload C dX12_mended_144 rfl (r_goto C (tgt := 150) dX12_mended_146 rfl (r_iret C dX12_mended_150 ?_)))))))) (fun c40 => (r_iload_n C dX12_mended_43 rfl rfl (r_istore C dX12_mended_44 (by decide) (r_aload_n C dX12_mended_46 rfl rfl (r_getR C dX12_mended_47 fd_X12_18 nM_0 sM_0 rfl (r_iconst C dX12_mended_50 (r_aald C (r := 6) dX12_mended_51 nM_5 (by decide) sM_5 (by decide) (by decide) (r_iload C dX12_mended_52 rfl (r_iald C dX12_mended_54 nM_6 sM_6 ?_ (r_istore C dX12_mended_55 (by decide) (r_iconst C dX12_mended_57 (r_istore C dX12_mended_58 (by decide) (r_iconst C dX12_mended_60 (r_istore C dX12_mended_61 (by decide) ?_))))))))))))))))))))
        · rw [z0] at c40
          rw [mm] at c141
          obtain rfl : n = 0 := by omega
          rw [kthF_0, if_neg c141] at hr
          exact ⟨by rw [hr], rfl⟩
        · rw [z0] at c40
          rw [mm] at c141
          obtain rfl : n = 0 := by omega
          rw [kthF_0, if_pos c141] at hr
          exact ⟨ti_ext (by rw [hu, hr, ti_ofInt (by omega)]), rfl⟩
        · rw [z0] at c40
          omega
        · rw [z0] at c40
          have ev : v.toInt.toNat = i := by omega
          rw [ev]
          exact inner 3 0 _ _ _ _ rfl (by simp (disch := (first | omega | (simp (disch := omega) only [ti_ofInt, ti_addc, ti_subc, ti_mulc, ti_cmul, ti_divc, ti_remc, ti_zero, ti_add, ti_sub, ti_neg, if_lt_ti, if_gt_ti, bP_e0, Classical.not_not, tl_i2l]; omega))) only [ti_ofInt, ti_addc, ti_subc, ti_mulc, ti_cmul, ti_divc, ti_remc, ti_zero, ti_add, ti_sub, ti_neg, if_lt_ti, if_gt_ti, bP_e0, Classical.not_not, tl_i2l]; rfl) hc.1.1 (hg0 (by omega)) (by simp (disch := (first | omega | (simp (disch := omega) only [ti_ofInt, ti_addc, ti_subc, ti_mulc, ti_cmul, ti_divc, ti_remc, ti_zero, ti_add, ti_sub, ti_neg, if_lt_ti, if_gt_ti, bP_e0, Classical.not_not, tl_i2l]; omega))) only [ti_ofInt, ti_addc, ti_subc, ti_mulc, ti_cmul, ti_divc, ti_remc, ti_zero, ti_add, ti_sub, ti_neg, if_lt_ti, if_gt_ti, bP_e0, Classical.not_not, tl_i2l]; decide) (by rw [hU, show (Int32.ofInt 0).toInt = 0 by decide, Int.zero_add]) (by omega)
    refine (r_iload_n C dX12_mended_0 rfl rfl (r_i2l C dX12_mended_1 (r_lconst C dX12_mended_2 rfl (r_ldc2 C dX12_mended_3 kc_X12_345 (r_s3P C ys_X12_in lk_X12_155 dX12_mended_6 rfl (Nat.le_of_ble_eq_true rfl) ok_X12_in (r_if_eq C (tgt := 24) dX12_mended_9 rfl (fun c9 => (r_iconst C dX12_mended_24 (r_iret C dX12_mended_25 ?_))) (fun c9 => (r_iload_n C dX12_mended_12 rfl rfl (r_i2l C dX12_mended_13 (r_lconst C dX12_mended_14 rfl (r_ldc2 C dX12_mended_15 kc_X12_347 (r_s3P C ys_X12_in lk_X12_155 dX12_mended_18 rfl (Nat.le_of_ble_eq_true rfl) ok_X12_in (r_if_ne C (tgt := 26) dX12_mended_21 rfl (fun c21 => (r_iconst C dX12_mended_26 (r_istore C dX12_mended_27 (by decide) (r_iconst C dX12_mended_29 (r_istore C dX12_mended_30 (by decide) ?_))))) (fun c21 => (r_iconst C dX12_mended_24 (r_iret C dX12_mended_25 ?_))))))))))))))))
    · have c := bP_e0.mp c9
      simp only [tl_i2l, ll_c0, ll_c1, ll_m1, ll_32, ll_97, ll_25, ll_255255, ll_5, ll_99, ll_20, ll_9, ll_999, ll_1000000, ll_17575, ll_3, ll_200, ll_60, ll_2, ll_5000, ll_m60, ll_m99] at c
      omega
    · exact loop (μ.1 12 0).toInt.toNat 0 0 _ _ _ _ _ _ (by omega) (by simp (disch := (first | omega | (simp (disch := omega) only [ti_ofInt, ti_addc, ti_subc, ti_mulc, ti_cmul, ti_divc, ti_remc, ti_zero, ti_add, ti_sub, ti_neg, if_lt_ti, if_gt_ti, bP_e0, Classical.not_not, tl_i2l]; omega))) only [ti_ofInt, ti_addc, ti_subc, ti_mulc, ti_cmul, ti_divc, ti_remc, ti_zero, ti_add, ti_sub, ti_neg, if_lt_ti, if_gt_ti, bP_e0, Classical.not_not, tl_i2l]; rfl) (by simp (disch := (first | omega | (simp (disch := omega) only [ti_ofInt, ti_addc, ti_subc, ti_mulc, ti_cmul, ti_divc, ti_remc, ti_zero, ti_add, ti_sub, ti_neg, if_lt_ti, if_gt_ti, bP_e0, Classical.not_not, tl_i2l]; omega))) only [ti_ofInt, ti_addc, ti_subc, ti_mulc, ti_cmul, ti_divc, ti_remc, ti_zero, ti_add, ti_sub, ti_neg, if_lt_ti, if_gt_ti, bP_e0, Classical.not_not, tl_i2l]; rfl) (Nat.le_refl _) hT.symm
    · have d := bP_e0.mp c21
      simp only [tl_i2l, ll_c0, ll_c1, ll_m1, ll_32, ll_97, ll_25, ll_255255, ll_5, ll_99, ll_20, ll_9, ll_999, ll_1000000, ll_17575, ll_3, ll_200, ll_60, ll_2, ll_5000, ll_m60, ll_m99] at d
      exact absurd hc.2 d
  · rw [if_neg hc]
    refine kOk.of rfl (Nat.le_of_ble_eq_true rfl) (fun J C => ?_)
    have C : kR cX12_mended RX12 10 rmX12_mended shM 48 (some .int) _ J := C
    refine (r_iload_n C dX12_mended_0 rfl rfl (r_i2l C dX12_mended_1 (r_lconst C dX12_mended_2 rfl (r_ldc2 C dX12_mended_3 kc_X12_345 (r_s3P C ys_X12_in lk_X12_155 dX12_mended_6 rfl (Nat.le_of_ble_eq_true rfl) ok_X12_in (r_if_eq C (tgt := 24) dX12_mended_9 rfl (fun c9 => (r_iconst C dX12_mended_24 (r_iret C dX12_mended_25 ?_))) (fun c9 => (r_iload_n C dX12_mended_12 rfl rfl (r_i2l C dX12_mended_13 (r_lconst C dX12_mended_14 rfl (r_ldc2 C dX12_mended_15 kc_X12_347 (r_s3P C ys_X12_in lk_X12_155 dX12_mended_18 rfl (Nat.le_of_ble_eq_true rfl) ok_X12_in (r_if_ne C (tgt := 26) dX12_mended_21 rfl (fun c21 => ?_) (fun c21 => (r_iconst C dX12_mended_24 (r_iret C dX12_mended_25 ?_))))))))))))))))
    · exact ⟨rfl, rfl⟩
    · have c := bP_ne c9
      have d := bP_ne c21
      simp only [tl_i2l, ll_c0, ll_c1, ll_m1, ll_32, ll_97, ll_25, ll_255255, ll_5, ll_99, ll_20, ll_9, ll_999, ll_1000000, ll_17575, ll_3, ll_200, ll_60, ll_2, ll_5000, ll_m60, ll_m99] at c d
      exact absurd ⟨by omega, d⟩ hc
    · exact ⟨rfl, rfl⟩
theorem i8_id {x : Int32} (h : -128 ≤ x.toInt ∧ x.toInt ≤ 127) : x.toInt8.toInt32 = x := by
  refine ti_ext ?_
  rw [Int8.toInt_toInt32, Int32.toInt_toInt8, Int.bmod_eq_of_le] <;> omega
theorem ok_X12_marksMany {m : Int32} {μ : kMem} (h : 0 ≤ m.toInt ∧ m.toInt ≤ 22222) : kOk yX12_marksMany cX12_marksMany 3 (some .int) rmX12_marksMany shM 48 [.int m] μ (kP (Int32.ofInt (dnF 5 m.toInt)) μ) := by
  have hdl := dnF_le 5 m.toInt
  refine kOk.of rfl (Nat.le_of_ble_eq_true rfl) (fun J C => ?_)
  have C : kR cX12_marksMany RX12 3 rmX12_marksMany shM 48 (some .int) _ J := C
  have loop : ∀ (f n : Nat) (u v : Int32), u.toInt = n → 0 ≤ v.toInt → v.toInt < 10 ^ f → n + dnF f v.toInt = dnF 5 m.toInt → J 4 [some (.int m), some (.int u), some (.int v)] [] μ := by
    intro f
    induction f with
    | zero =>
      intro n u v hu hv hv2 hd
      have e : (10 : Int) ^ 0 = 1 := rfl
      refine (r_iload_n C dX12_marksMany_4 rfl rfl (r_if_le C (tgt := 19) dX12_marksMany_5 rfl (fun c5 => (r_iload_n C dX12_marksMany_19 rfl rfl (r_iret C dX12_marksMany_20 ?_))) (fun c5 => (r_iinc C dX12_marksMany_8 rfl (by decide) (r_iload_n C dX12_marksMany_11 rfl rfl (r_bipush C dX12_marksMany_12 (by decide +kernel) (r_idiv C dX12_marksMany_14 (by decide) (r_istore_n C dX12_marksMany_15 rfl (by decide) (r_goto C (tgt := 4) dX12_marksMany_16 rfl ?_)))))))))
      · refine ⟨ti_ext ?_, rfl⟩
        rw [dnF_zero (by omega)] at hd
        rw [ti_ofInt (by omega)]
        omega
      · omega
    | succ f ih =>
      intro n u v hu hv hv2 hd
      have ev : (v / Int32.ofInt 10).toInt = v.toInt / 10 := ti_divc (by omega)
      have e0 : dnF (f + 1) v.toInt = if 0 < v.toInt then dnF f (v.toInt / 10) + 1 else 0 := rfl
      have e1 : (10 : Int) ^ (f + 1) = 10 ^ f * 10 := Int.pow_succ _ _
      refine (r_iload_n C dX12_marksMany_4 rfl rfl (r_if_le C (tgt := 19) dX12_marksMany_5 rfl (fun c5 => (r_iload_n C dX12_marksMany_19 rfl rfl (r_iret C dX12_marksMany_20 ?_))) (fun c5 => (r_iinc C dX12_marksMany_8 rfl (by decide) (r_iload_n C dX12_marksMany_11 rfl rfl (r_bipush C dX12_marksMany_12 (by decide +kernel) (r_idiv C dX12_marksMany_14 (by decide) (r_istore_n C dX12_marksMany_15 rfl (by decide) (r_goto C (tgt := 4) dX12_marksMany_16 rfl ?_)))))))))
      · refine ⟨ti_ext ?_, rfl⟩
        rw [dnF_zero (by omega)] at hd
        rw [ti_ofInt (by omega)]
        omega
      · rw [e0, if_pos (by omega)] at hd
        exact ih (n + 1) _ _ (by simp (disch := (first | omega | (simp (disch := omega) only [ti_ofInt, ti_addc, ti_subc, ti_mulc, ti_cmul, ti_divc, ti_remc, ti_zero, ti_add, ti_sub, ti_neg, if_lt_ti, if_gt_ti, bP_e0, Classical.not_not, tl_i2l]; omega))) only [ti_ofInt, ti_addc, ti_subc, ti_mulc, ti_cmul, ti_divc, ti_remc, ti_zero, ti_add, ti_sub, ti_neg, if_lt_ti, if_gt_ti, bP_e0, Classical.not_not, tl_i2l]; omega) (by rw [ev]; omega) (by rw [ev]; omega) (by rw [ev]; omega)
  refine (r_iconst C dX12_marksMany_0 (r_istore_n C dX12_marksMany_1 rfl (by decide) (r_iload_n C dX12_marksMany_2 rfl rfl (r_istore_n C dX12_marksMany_3 rfl (by decide) ?_))))
  have p5 : (10 : Int) ^ 5 = 100000 := by decide
  exact loop 5 0 _ _ (by decide) h.1 (by omega) (Nat.zero_add _)
/-- the kind of the i-th mark of a number -/
def pKd (m : Int) (i : Nat) : Int := if i < dnF 5 m then m / 10 ^ (dnF 5 m - 1 - i) % 10 - 1 else -1
def pSz (m : Int) : Nat := dnF 5 m
theorem ok_X12_kindOf {m i : Int32} {μ : kMem} (h : mdOk m.toInt ∧ 0 ≤ i.toInt ∧ i.toInt < dnF 5 m.toInt) : kOk yX12_kindOf cX12_kindOf 4 (some .int) rmX12_kindOf shM 48 [.int m, .int i] μ (kP (Int32.ofInt (pKd m.toInt i.toInt.toNat)) μ) := by
  obtain ⟨hm, hi, hi2⟩ := h
  have hdl := dnF_le 5 m.toInt
  have m1 : (Int32.ofInt 1).toInt = 1 := by decide
  have eN := ti_ofInt (n := (dnF 5 m.toInt : Int)) (by omega)
  have eM : (Int32.ofInt (dnF 5 m.toInt) - Int32.ofInt 1).toInt = (dnF 5 m.toInt : Int) - 1 := by rw [ti_subc (by omega), eN]
  refine kOk.of rfl (Nat.le_of_ble_eq_true rfl) (fun J C => ?_)
  have C : kR cX12_kindOf RX12 4 rmX12_kindOf shM 48 (some .int) _ J := C
  have loop : ∀ (d j : Nat) (v w : Int32), v.toInt = m.toInt / 10 ^ j → w.toInt = (dnF 5 m.toInt : Int) - 1 - j → (j : Int) + d = (dnF 5 m.toInt : Int) - 1 - i.toInt → J 9 [some (.int m), some (.int i), some (.int v), some (.int w)] [] μ := by
    intro d
    induction d with
    | zero =>
      intro j v w hv hw hd
      have hdg := hm.2.2 j (by omega)
      have hv0 : 0 ≤ v.toInt := by rw [hv]; exact Int.ediv_nonneg hm.1 (Int.le_of_lt (Int.pow_pos (by decide)))
      have er : (krem v (Int32.ofInt 10)).toInt = v.toInt % 10 := ti_remc (by omega)
      have ek : pKd m.toInt i.toInt.toNat = v.toInt % 10 - 1 := by
        unfold pKd
        rw [if_pos (by omega), hv, show dnF 5 m.toInt - 1 - i.toInt.toNat = j by omega]
      refine (r_iload_n C dX12_kindOf_9 rfl rfl (r_iload_n C dX12_kindOf_10 rfl rfl (r_icmp_le C (tgt := 25) dX12_kindOf_11 rfl (fun c11 => (r_iload_n C dX12_kindOf_25 rfl rfl (r_bipush C dX12_kindOf_26 (by decide +kernel) (r_irem C dX12_kindOf_28 (by decide) (r_iconst C dX12_kindOf_29 (r_icmp_ne C (tgt := 37) dX12_kindOf_30 rfl (fun c30 => (r_iconst C dX12_kindOf_37 (r_iret C dX12_kindOf_38 ?_))) (fun c30 => (r_iconst C dX12_kindOf_33 (r_goto C (tgt := 38) dX12_kindOf_34 rfl (r_iret C dX12_kindOf_38 ?_)))))))))) (fun c11 => (r_iload_n C dX12_kindOf_14 rfl rfl (r_bipush C dX12_kindOf_15 (by decide +kernel) (r_idiv C dX12_kindOf_17 (by decide) (r_istore_n C dX12_kindOf_18 rfl (by decide) (r_iinc C dX12_kindOf_19 rfl (by decide) (r_goto C (tgt := 9) dX12_kindOf_22 rfl ?_))))))))))
      · rw [er, m1] at c30
        refine ⟨?_, rfl⟩
        rw [ek, show v.toInt % 10 - 1 = 1 by omega]
      · rw [er, m1] at c30
        refine ⟨?_, rfl⟩
        rw [ek, show v.toInt % 10 - 1 = 0 by omega]
      · omega
    | succ d ih =>
      intro j v w hv hw hd
      have hv0 : 0 ≤ v.toInt := by rw [hv]; exact Int.ediv_nonneg hm.1 (Int.le_of_lt (Int.pow_pos (by decide)))
      have ev : (v / Int32.ofInt 10).toInt = v.toInt / 10 := ti_divc (by omega)
      refine (r_iload_n C dX12_kindOf_9 rfl rfl (r_iload_n C dX12_kindOf_10 rfl rfl (r_icmp_le C (tgt := 25) dX12_kindOf_11 rfl (fun c11 => (r_iload_n C dX12_kindOf_25 rfl rfl (r_bipush C dX12_kindOf_26 (by decide +kernel) (r_irem C dX12_kindOf_28 (by decide) (r_iconst C dX12_kindOf_29 (r_icmp_ne C (tgt := 37) dX12_kindOf_30 rfl (fun c30 => (r_iconst C dX12_kindOf_37 (r_iret C dX12_kindOf_38 ?_))) (fun c30 => (r_iconst C dX12_kindOf_33 (r_goto C (tgt := 38) dX12_kindOf_34 rfl (r_iret C dX12_kindOf_38 ?_)))))))))) (fun c11 => (r_iload_n C dX12_kindOf_14 rfl rfl (r_bipush C dX12_kindOf_15 (by decide +kernel) (r_idiv C dX12_kindOf_17 (by decide) (r_istore_n C dX12_kindOf_18 rfl (by decide) (r_iinc C dX12_kindOf_19 rfl (by decide) (r_goto C (tgt := 9) dX12_kindOf_22 rfl ?_))))))))))
      · omega
      · omega
      · refine ih (j + 1) _ _ ?_ (by simp (disch := (first | omega | (simp (disch := omega) only [ti_ofInt, ti_addc, ti_subc, ti_mulc, ti_cmul, ti_divc, ti_remc, ti_zero, ti_add, ti_sub, ti_neg, if_lt_ti, if_gt_ti, bP_e0, Classical.not_not, tl_i2l]; omega))) only [ti_ofInt, ti_addc, ti_subc, ti_mulc, ti_cmul, ti_divc, ti_remc, ti_zero, ti_add, ti_sub, ti_neg, if_lt_ti, if_gt_ti, bP_e0, Classical.not_not, tl_i2l]; omega) (by omega)
        rw [ev, hv, Int.ediv_ediv_of_nonneg (Int.le_of_lt (Int.pow_pos (by decide))), Int.pow_succ]
  refine (r_iload_n C dX12_kindOf_0 rfl rfl (r_istore_n C dX12_kindOf_1 rfl (by decide) (r_iload_n C dX12_kindOf_2 rfl rfl (r_s1P C ys_X12_marksMany lk_X12_277 dX12_kindOf_3 rfl (Nat.le_of_ble_eq_true rfl) (ok_X12_marksMany ?_) (r_iconst C dX12_kindOf_6 (r_isub C dX12_kindOf_7 (r_istore_n C dX12_kindOf_8 rfl (by decide) ?_)))))))
  · exact ⟨hm.1, hm.2.1⟩
  · refine loop (((dnF 5 m.toInt : Int) - 1 - i.toInt).toNat) 0 _ _ (by rw [Int.pow_zero, Int.ediv_one]) (by rw [eM]; omega) (by omega)
def mTpOk (μ : kMem) : Prop := (0 ≤ (μ.1 0 21).toInt ∧ (μ.1 0 21).toInt ≤ 120) ∧ ∀ i : Nat, 0 ≤ (μ.1 20 i).toInt ∧ (μ.1 20 i).toInt ≤ 999
def mCdOk (μ : kMem) : Prop := ∀ l : Nat, l < 26 → mdOk (μ.1 3 l).toInt
def mle (μ : kMem) (h k : Int) : Int := if 0 ≤ k ∧ k < 5 then (μ.1 14 (h * 5 + k).toNat).toInt else 0
def mge (μ : kMem) (h k : Int) : Int := if 0 ≤ k ∧ k < 5 then (μ.1 15 (h * 5 + k).toNat).toInt else 0
def mtn (μ : kMem) : Nat := (μ.1 0 21).toInt.toNat
def mmc (μ : kMem) : Nat := (mtn μ + 1) / 2
def mrs (μ : kMem) : Nat → Int → Int := cst (fun i => (μ.1 20 i).toInt) (mtn μ) (μ.1 0 23).toInt (mle μ (μ.1 0 22).toInt) (mge μ (μ.1 0 22).toInt)
/-- the model reads by a hand and a line -/
def mRd (μ : kMem) : Prop := mTpOk μ ∧ mHdOk μ ∧ mCdOk μ ∧ (0 ≤ (μ.1 0 23).toInt ∧ (μ.1 0 23).toInt ≤ 279) ∧ (0 ≤ (μ.1 0 22).toInt ∧ (μ.1 0 22).toInt < 8) ∧ (μ.1 0 21).toInt % 2 = 1
theorem mRd_n {μ : kMem} (h : mRd μ) : (mtn μ : Int) = (μ.1 0 21).toInt ∧ mtn μ ≤ 120 ∧ mtn μ = 2 * mmc μ - 1 ∧ 1 ≤ mmc μ ∧ mmc μ ≤ 60 := by
  have h1 := h.1.1
  have h2 := h.2.2.2.2.2
  unfold mmc mtn
  omega
theorem mle_b {μ : kMem} (h : mHdOk μ) (x k : Int) : 0 ≤ mle μ x k ∧ mle μ x k ≤ mge μ x k ∧ mge μ x k ≤ 255 := by
  unfold mle mge
  split
  · exact h.2 _
  · omega
theorem mrs_b {μ : kMem} (h : mHdOk μ) (p : Nat) (k : Int) : -1 ≤ mrs μ p k ∧ mrs μ p k ≤ 255 := by
  refine cst_b (fun k _ _ => ?_) p k
  have := mle_b h (μ.1 0 22).toInt k
  omega
theorem masn_b {μ : kMem} (h : mRd μ) (p : Nat) : -279 ≤ asn (fun i => (μ.1 20 i).toInt) (μ.1 0 23).toInt p ∧ asn (fun i => (μ.1 20 i).toInt) (μ.1 0 23).toInt p ≤ 1278 := by
  have h1 := h.1.2 p
  have h2 := h.2.2.2.1
  unfold asn
  dsimp only
  split <;> omega
theorem ok_X12_sentAt {x : Int32} {μ : kMem} (h : mRd μ ∧ 0 ≤ x.toInt ∧ x.toInt < 120) : kOk yX12_sentAt cX12_sentAt 2 (some .int) rmX12_sentAt shM 48 [.ref 0, .int x] μ (kP (Int32.ofInt (asn (fun i => (μ.1 20 i).toInt) (μ.1 0 23).toInt x.toInt.toNat)) μ) := by
  obtain ⟨h, hx, hx2⟩ := h
  have h1 := h.1.2 x.toInt.toNat
  have h2 := h.2.2.2.1
  have hb := masn_b h x.toInt.toNat
  have er : (krem x (Int32.ofInt 2)).toInt = x.toInt % 2 := ti_remc (by omega)
  have hasn : asn (fun i => (μ.1 20 i).toInt) (μ.1 0 23).toInt x.toInt.toNat = if x.toInt.toNat % 2 = 0 then (μ.1 20 x.toInt.toNat).toInt + (μ.1 0 23).toInt else (μ.1 20 x.toInt.toNat).toInt - (μ.1 0 23).toInt := rfl
  refine kOk.of rfl (Nat.le_of_ble_eq_true rfl) (fun J C => ?_)
  have C : kR cX12_sentAt RX12 2 rmX12_sentAt shM 48 (some .int) _ J := C
  refine (r_iload_n C dX12_sentAt_0 rfl rfl (r_iconst C dX12_sentAt_1 (r_irem C dX12_sentAt_2 (by decide) (r_if_ne C (tgt := 20) dX12_sentAt_3 rfl (fun c3 => (r_aload_n C dX12_sentAt_20 rfl rfl (r_getR C dX12_sentAt_21 fd_X12_63 nM_0 sM_0 rfl (r_iload_n C dX12_sentAt_24 rfl rfl (r_iald C dX12_sentAt_25 nM_20 sM_20 ?_ (r_aload_n C dX12_sentAt_26 rfl rfl (r_getI C dX12_sentAt_27 fd_X12_263 nM_0 sM_0 rfl (r_isub C dX12_sentAt_30 (r_iret C dX12_sentAt_31 ?_))))))))) (fun c3 => (r_aload_n C dX12_sentAt_6 rfl rfl (r_getR C dX12_sentAt_7 fd_X12_63 nM_0 sM_0 rfl (r_iload_n C dX12_sentAt_10 rfl rfl (r_iald C dX12_sentAt_11 nM_20 sM_20 ?_ (r_aload_n C dX12_sentAt_12 rfl rfl (r_getI C dX12_sentAt_13 fd_X12_263 nM_0 sM_0 rfl (r_iadd C dX12_sentAt_16 (r_goto C (tgt := 31) dX12_sentAt_17 rfl (r_iret C dX12_sentAt_31 ?_))))))))))))))
  · omega
  · rw [er] at c3
    rw [if_neg (by omega)] at hasn
    refine ⟨ti_ext ?_, rfl⟩
    rw [ti_sub (by omega), ti_ofInt (by omega), hasn]
  · omega
  · rw [er] at c3
    rw [if_pos (by omega)] at hasn
    refine ⟨ti_ext ?_, rfl⟩
    rw [ti_add (by omega), ti_ofInt (by omega), hasn]
theorem mix {μ : kMem} {k : Int32} (h : mRd μ) (hk : 0 ≤ k.toInt ∧ k.toInt < 5) : (Int32.ofInt 5 * μ.1 0 22 + k).toInt = (μ.1 0 22).toInt * 5 + k.toInt := by
  have h5 := h.2.2.2.2.1
  have e5 : (Int32.ofInt 5 * μ.1 0 22).toInt = 5 * (μ.1 0 22).toInt := ti_cmul (by omega)
  rw [ti_add (by omega), e5]
  omega
theorem ok_X12_isOf {x k : Int32} {μ : kMem} (h : mRd μ ∧ (0 ≤ x.toInt ∧ x.toInt < (μ.1 0 21).toInt) ∧ 0 ≤ k.toInt ∧ k.toInt < 5) : kOk yX12_isOf cX12_isOf 3 (some .boolean) rmX12_isOf shM 48 [.ref 0, .int x, .int k] μ (kP (bP (¬ mrs μ x.toInt.toNat k.toInt = -1)) μ) := by
  obtain ⟨h, hx, hk⟩ := h
  have hn := mRd_n h
  have hb := masn_b h x.toInt.toNat
  have e := mix h hk
  have h5 := h.2.2.2.2.1
  have hl := mle_b h.2.1 (μ.1 0 22).toInt k.toInt
  have e1 : mle μ (μ.1 0 22).toInt k.toInt = (μ.1 14 ((μ.1 0 22).toInt * 5 + k.toInt).toNat).toInt := if_pos hk
  have e2 : mge μ (μ.1 0 22).toInt k.toInt = (μ.1 15 ((μ.1 0 22).toInt * 5 + k.toInt).toNat).toInt := if_pos hk
  have ei := ti_ofInt (n := asn (fun i => (μ.1 20 i).toInt) (μ.1 0 23).toInt x.toInt.toNat) (by omega)
  refine kOk.of rfl (Nat.le_of_ble_eq_true rfl) (fun J C => ?_)
  have C : kR cX12_isOf RX12 3 rmX12_isOf shM 48 (some .boolean) _ J := C
  refine (r_aload_n C dX12_isOf_0 rfl rfl (r_iload_n C dX12_isOf_1 rfl rfl (r_v1P C yv_X12_sentAt lk_X12_266 dX12_isOf_2 rfl nM_0 sM_0 rfl (Nat.le_of_ble_eq_true rfl) (ok_X12_sentAt ?_) (r_i2l C dX12_isOf_5 (r_aload_n C dX12_isOf_6 rfl rfl (r_getR C dX12_isOf_7 fd_X12_45 nM_0 sM_0 rfl (r_iconst C dX12_isOf_10 (r_aload_n C dX12_isOf_11 rfl rfl (r_getI C dX12_isOf_12 fd_X12_269 nM_0 sM_0 rfl (r_imul C dX12_isOf_15 (r_iload_n C dX12_isOf_16 rfl rfl (r_iadd C dX12_isOf_17 (r_iald C dX12_isOf_18 nM_14 sM_14 ?_ (r_i2l C dX12_isOf_19 (r_aload_n C dX12_isOf_20 rfl rfl (r_getR C dX12_isOf_21 fd_X12_48 nM_0 sM_0 rfl (r_iconst C dX12_isOf_24 (r_aload_n C dX12_isOf_25 rfl rfl (r_getI C dX12_isOf_26 fd_X12_269 nM_0 sM_0 rfl (r_imul C dX12_isOf_29 (r_iload_n C dX12_isOf_30 rfl rfl (r_iadd C dX12_isOf_31 (r_iald C dX12_isOf_32 nM_15 sM_15 ?_ (r_i2l C dX12_isOf_33 (r_s3P C ys_X12_in lk_X12_155 dX12_isOf_34 rfl (Nat.le_of_ble_eq_true rfl) ok_X12_in (r_zret C dX12_isOf_37 ?_ ?_))))))))))))))))))))))))))
  · exact ⟨h, hx.1, by omega⟩
  · omega
  · omega
  · exact bP_nz _
  · refine ⟨bP_iff ?_, rfl⟩
    simp only [tl_i2l, ll_c0, ll_c1, ll_m1, ll_32, ll_97, ll_25, ll_255255, ll_5, ll_99, ll_20, ll_9, ll_999, ll_1000000, ll_17575, ll_3, ll_200, ll_60, ll_2, ll_5000, ll_m60, ll_m99]
    rw [e, ei, ← e1, ← e2]
    unfold mrs cst
    by_cases q : mle μ (μ.1 0 22).toInt k.toInt ≤ asn (fun i => (μ.1 20 i).toInt) (μ.1 0 23).toInt x.toInt.toNat ∧ asn (fun i => (μ.1 20 i).toInt) (μ.1 0 23).toInt x.toInt.toNat ≤ mge μ (μ.1 0 22).toInt k.toInt
    · rw [if_pos ⟨by omega, hk.1, hk.2, q.1, q.2⟩]
      unfold iabs
      refine ⟨fun _ => ?_, fun _ => q⟩
      split <;> omega
    · rw [if_neg (fun z => q ⟨z.2.2.2.1, z.2.2.2.2⟩)]
      exact ⟨fun z => absurd z q, fun z => absurd rfl z⟩
theorem ok_X12_costOf {x k : Int32} {μ : kMem} (h : mRd μ ∧ (0 ≤ x.toInt ∧ x.toInt < (μ.1 0 21).toInt) ∧ (0 ≤ k.toInt ∧ k.toInt < 5) ∧ ¬ mrs μ x.toInt.toNat k.toInt = -1) : kOk yX12_costOf cX12_costOf 3 (some .int) rmX12_costOf shM 48 [.ref 0, .int x, .int k] μ (kP (Int32.ofInt (mrs μ x.toInt.toNat k.toInt)) μ) := by
  obtain ⟨h, hx, hk, hc⟩ := h
  have hn := mRd_n h
  have hb := masn_b h x.toInt.toNat
  have hmb := mrs_b h.2.1 x.toInt.toNat k.toInt
  have e := mix h hk
  have h5 := h.2.2.2.2.1
  have hl := mle_b h.2.1 (μ.1 0 22).toInt k.toInt
  have e1 : mle μ (μ.1 0 22).toInt k.toInt = (μ.1 14 ((μ.1 0 22).toInt * 5 + k.toInt).toNat).toInt := if_pos hk
  have e2 : mge μ (μ.1 0 22).toInt k.toInt = (μ.1 15 ((μ.1 0 22).toInt * 5 + k.toInt).toNat).toInt := if_pos hk
  have ei := ti_ofInt (n := asn (fun i => (μ.1 20 i).toInt) (μ.1 0 23).toInt x.toInt.toNat) (by omega)
  have em : mrs μ x.toInt.toNat k.toInt = iabs (2 * asn (fun i => (μ.1 20 i).toInt) (μ.1 0 23).toInt x.toInt.toNat - mle μ (μ.1 0 22).toInt k.toInt - mge μ (μ.1 0 22).toInt k.toInt) := by
    unfold mrs cst at hc ⊢
    split at hc
    · rename_i q
      rw [if_pos q]
    · exact absurd rfl hc
  refine kOk.of rfl (Nat.le_of_ble_eq_true rfl) (fun J C => ?_)
  have C : kR cX12_costOf RX12 3 rmX12_costOf shM 48 (some .int) _ J := C
  refine (r_iconst C dX12_costOf_0 (r_aload_n C dX12_costOf_1 rfl rfl (r_iload_n C dX12_costOf_2 rfl rfl (r_v1P C yv_X12_sentAt lk_X12_266 dX12_costOf_3 rfl nM_0 sM_0 rfl (Nat.le_of_ble_eq_true rfl) (ok_X12_sentAt ?_) (r_imul C dX12_costOf_6 (r_aload_n C dX12_costOf_7 rfl rfl (r_getR C dX12_costOf_8 fd_X12_45 nM_0 sM_0 rfl (r_iconst C dX12_costOf_11 (r_aload_n C dX12_costOf_12 rfl rfl (r_getI C dX12_costOf_13 fd_X12_269 nM_0 sM_0 rfl (r_imul C dX12_costOf_16 (r_iload_n C dX12_costOf_17 rfl rfl (r_iadd C dX12_costOf_18 (r_iald C dX12_costOf_19 nM_14 sM_14 ?_ (r_isub C dX12_costOf_20 (r_aload_n C dX12_costOf_21 rfl rfl (r_getR C dX12_costOf_22 fd_X12_48 nM_0 sM_0 rfl (r_iconst C dX12_costOf_25 (r_aload_n C dX12_costOf_26 rfl rfl (r_getI C dX12_costOf_27 fd_X12_269 nM_0 sM_0 rfl (r_imul C dX12_costOf_30 (r_iload_n C dX12_costOf_31 rfl rfl (r_iadd C dX12_costOf_32 (r_iald C dX12_costOf_33 nM_15 sM_15 ?_ (r_isub C dX12_costOf_34 (r_abs C mh_X12_272 dX12_costOf_35 ⟨rfl, rfl⟩ (Nat.le_of_ble_eq_true rfl) (r_iret C dX12_costOf_38 ?_)))))))))))))))))))))))))))
  · exact ⟨h, hx.1, by omega⟩
  · omega
  · omega
  · refine ⟨ti_ext ?_, rfl⟩
    have i2 : (Int32.ofInt 2 * Int32.ofInt (asn (fun i => (μ.1 20 i).toInt) (μ.1 0 23).toInt x.toInt.toNat)).toInt = 2 * asn (fun i => (μ.1 20 i).toInt) (μ.1 0 23).toInt x.toInt.toNat := by rw [ti_cmul (by omega), ei]
    have i3 : (Int32.ofInt 2 * Int32.ofInt (asn (fun i => (μ.1 20 i).toInt) (μ.1 0 23).toInt x.toInt.toNat) - μ.1 14 (Int32.ofInt 5 * μ.1 0 22 + k).toInt.toNat).toInt = 2 * asn (fun i => (μ.1 20 i).toInt) (μ.1 0 23).toInt x.toInt.toNat - mle μ (μ.1 0 22).toInt k.toInt := by
      rw [e, ti_sub (by rw [i2, ← e1]; omega), i2, ← e1]
    have i4 : (Int32.ofInt 2 * Int32.ofInt (asn (fun i => (μ.1 20 i).toInt) (μ.1 0 23).toInt x.toInt.toNat) - μ.1 14 (Int32.ofInt 5 * μ.1 0 22 + k).toInt.toNat - μ.1 15 (Int32.ofInt 5 * μ.1 0 22 + k).toInt.toNat).toInt = 2 * asn (fun i => (μ.1 20 i).toInt) (μ.1 0 23).toInt x.toInt.toNat - mle μ (μ.1 0 22).toInt k.toInt - mge μ (μ.1 0 22).toInt k.toInt := by
      have e2' : (μ.1 15 (Int32.ofInt 5 * μ.1 0 22 + k).toInt.toNat).toInt = mge μ (μ.1 0 22).toInt k.toInt := by rw [e, ← e2]
      rw [ti_sub (by rw [i3, e2']; omega), i3, e2']
    rw [if_abs_ti (by rw [i4]; omega), i4, ti_ofInt (by omega), em]
    rfl

