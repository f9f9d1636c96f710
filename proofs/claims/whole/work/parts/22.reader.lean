/-! ===== Reader ===== -/
def rcs (μ : kMem) : Nat → Int → Int := cst (fun i => (μ.1 26 i).toInt) (μ.1 25 1).toInt.toNat (μ.1 27 6).toInt (fun k => (μ.1 28 k.toNat).toInt) (fun k => (μ.1 29 k.toNat).toInt)
def rmc (μ : kMem) : Nat := (μ.1 27 7).toInt.toNat
def kTpOk (μ : kMem) : Prop := (0 ≤ (μ.1 25 1).toInt ∧ (μ.1 25 1).toInt ≤ 120) ∧ ∀ i : Nat, 0 ≤ (μ.1 26 i).toInt ∧ (μ.1 26 i).toInt ≤ 999
/-- the reader has listened -/
def kRdOk (μ : kMem) : Prop := kTpOk μ ∧ kSzOk μ ∧ (0 ≤ (μ.1 27 6).toInt ∧ (μ.1 27 6).toInt ≤ 279) ∧ (μ.1 27 7).toInt = ((μ.1 25 1).toInt + 1) / 2 ∧ ∀ k : Nat, k < 5 → (0 ≤ (μ.1 28 k).toInt ∧ (μ.1 28 k).toInt ≤ 255) ∧ 0 ≤ (μ.1 29 k).toInt ∧ (μ.1 29 k).toInt ≤ 255
theorem rcs_b {μ : kMem} (h : kRdOk μ) (p : Nat) (k : Int) : -1 ≤ rcs μ p k ∧ rcs μ p k ≤ 255 := by
  refine cst_b (fun k h1 h2 => ?_) p k
  have := h.2.2.2.2 k.toNat (by omega)
  omega
theorem ok_X7_rowSize {μ : kMem} : kOk yX7_rowSize cX7_rowSize 1 (some .int) rmX7_rowSize shK 68 [.ref 27] μ (kP (μ.1 27 12) μ) := by
  refine kOk.of rfl (Nat.le_of_ble_eq_true rfl) (fun J C => ?_)
  have C : kR cX7_rowSize RX7 1 rmX7_rowSize shK 68 (some .int) _ J := C
  refine (r_aload_n C dX7_rowSize_0 rfl rfl (r_getI C dX7_rowSize_1 fd_X7_108 nK_27 sK_27 rfl (r_iret C dX7_rowSize_4 ?_)))
  exact ⟨rfl, rfl⟩
def kro (μ : kMem) (x : Int) : Int32 := if 0 ≤ x ∧ x < (μ.1 27 12).toInt then μ.1 33 x.toNat else Int32.ofInt (-1)
theorem ok_X7_rowAt {x : Int32} {μ : kMem} (h : (μ.1 27 12).toInt ≤ 120) : kOk yX7_rowAt cX7_rowAt 2 (some .int) rmX7_rowAt shK 68 [.ref 27, .int x] μ (kP (kro μ x.toInt) μ) := by
  unfold kro
  refine kOk.of rfl (Nat.le_of_ble_eq_true rfl) (fun J C => ?_)
  have C : kR cX7_rowAt RX7 2 rmX7_rowAt shK 68 (some .int) _ J := C
  refine (r_iload_n C dX7_rowAt_0 rfl rfl (r_if_lt C (tgt := 21) dX7_rowAt_1 rfl (fun c1 => (r_iconst C dX7_rowAt_21 (r_iret C dX7_rowAt_22 ?_))) (fun c1 => (r_iload_n C dX7_rowAt_4 rfl rfl (r_aload_n C dX7_rowAt_5 rfl rfl (r_getI C dX7_rowAt_6 fd_X7_108 nK_27 sK_27 rfl (r_icmp_ge C (tgt := 21) dX7_rowAt_9 rfl (fun c9 => (r_iconst C dX7_rowAt_21 (r_iret C dX7_rowAt_22 ?_))) (fun c9 => (r_aload_n C dX7_rowAt_12 rfl rfl (r_getR C dX7_rowAt_13 fd_X7_29 nK_27 sK_27 rfl (r_iload_n C dX7_rowAt_16 rfl rfl (r_iald C dX7_rowAt_17 nK_33 sK_33 ?_ (r_goto C (tgt := 22) dX7_rowAt_18 rfl (r_iret C dX7_rowAt_22 ?_))))))))))))))
  · exact ⟨(if_neg (by omega)).symm, rfl⟩
  · exact ⟨(if_neg (by omega)).symm, rfl⟩
  · omega
  · exact ⟨(if_pos (by omega)).symm, rfl⟩
theorem ok_X7_write {x : Int32} {μ : kMem} (h : 0 ≤ (μ.1 27 12).toInt) : kOk yX7_write cX7_write 2 (none) rmX7_write shK 68 [.ref 27, .int x] μ (kN fun μ' => ((μ.1 27 12).toInt < 120 ∧ μ' = up (up μ 33 (μ.1 27 12).toInt.toNat x) 27 12 (Int32.ofInt ((μ.1 27 12).toInt + 1))) ∨ (120 ≤ (μ.1 27 12).toInt ∧ μ' = μ)) := by
  have e1 : (μ.1 27 12).toInt < 120 → μ.1 27 12 + Int32.ofInt 1 = Int32.ofInt ((μ.1 27 12).toInt + 1) := fun q => ti_ext (by simp (disch := (first | omega | (simp (disch := omega) only [ti_ofInt, ti_addc, ti_subc, ti_mulc, ti_cmul, ti_divc, ti_remc, ti_zero, ti_add, ti_sub, ti_neg, if_lt_ti, if_gt_ti, bP_e0, Classical.not_not, tl_i2l]; omega))) only [ti_ofInt, ti_addc, ti_subc, ti_mulc, ti_cmul, ti_divc, ti_remc, ti_zero, ti_add, ti_sub, ti_neg, if_lt_ti, if_gt_ti, bP_e0, Classical.not_not, tl_i2l])
  refine kOk.of rfl (Nat.le_of_ble_eq_true rfl) (fun J C => ?_)
  have C : kR cX7_write RX7 2 rmX7_write shK 68 (none) _ J := C
  refine (r_aload_n C dX7_write_0 rfl rfl (r_getI C dX7_write_1 fd_X7_108 nK_27 sK_27 rfl (r_bipush C dX7_write_4 (by decide +kernel) (r_icmp_ge C (tgt := 29) dX7_write_6 rfl (fun c6 => (r_ret C dX7_write_29 ?_)) (fun c6 => (r_aload_n C dX7_write_9 rfl rfl (r_getR C dX7_write_10 fd_X7_29 nK_27 sK_27 rfl (r_aload_n C dX7_write_13 rfl rfl (r_getI C dX7_write_14 fd_X7_108 nK_27 sK_27 rfl (r_iload_n C dX7_write_17 rfl rfl (r_iast C dX7_write_18 nK_33 sK_33 ?_ (r_aload_n C dX7_write_19 rfl rfl (r_dup C dX7_write_20 rfl (r_getI C dX7_write_21 fd_X7_108 nK_27 sK_27 rfl (r_iconst C dX7_write_24 (r_iadd C dX7_write_25 (r_putI C dX7_write_26 fw_X7_108 nK_27 sK_27 rfl (r_ret C dX7_write_29 ?_))))))))))))))))))
  · simp (disch := (first | omega | (simp (disch := omega) only [ti_ofInt, ti_addc, ti_subc, ti_mulc, ti_cmul, ti_divc, ti_remc, ti_zero, ti_add, ti_sub, ti_neg, if_lt_ti, if_gt_ti, bP_e0, Classical.not_not, tl_i2l]; omega))) only [ti_ofInt, ti_addc, ti_subc, ti_mulc, ti_cmul, ti_divc, ti_remc, ti_zero, ti_add, ti_sub, ti_neg, if_lt_ti, if_gt_ti, bP_e0, Classical.not_not, tl_i2l] at c6
    exact Or.inr ⟨by omega, rfl⟩
  · simp (disch := (first | omega | (simp (disch := omega) only [ti_ofInt, ti_addc, ti_subc, ti_mulc, ti_cmul, ti_divc, ti_remc, ti_zero, ti_add, ti_sub, ti_neg, if_lt_ti, if_gt_ti, bP_e0, Classical.not_not, tl_i2l]; omega))) only [ti_ofInt, ti_addc, ti_subc, ti_mulc, ti_cmul, ti_divc, ti_remc, ti_zero, ti_add, ti_sub, ti_neg, if_lt_ti, if_gt_ti, bP_e0, Classical.not_not, tl_i2l] at c6
    omega
  · simp (disch := (first | omega | (simp (disch := omega) only [ti_ofInt, ti_addc, ti_subc, ti_mulc, ti_cmul, ti_divc, ti_remc, ti_zero, ti_add, ti_sub, ti_neg, if_lt_ti, if_gt_ti, bP_e0, Classical.not_not, tl_i2l]; omega))) only [ti_ofInt, ti_addc, ti_subc, ti_mulc, ti_cmul, ti_divc, ti_remc, ti_zero, ti_add, ti_sub, ti_neg, if_lt_ti, if_gt_ti, bP_e0, Classical.not_not, tl_i2l] at c6
    exact Or.inl ⟨c6, by rw [← e1 c6]; rfl⟩
theorem ok_X7_costOf {x k : Int32} {μ : kMem} (h : kRdOk μ ∧ 0 ≤ x.toInt) : kOk yX7_costOf cX7_costOf 5 (some .int) rmX7_costOf shK 68 [.ref 27, .int x, .int k] μ (kP (Int32.ofInt (rcs μ x.toInt.toNat k.toInt)) μ) := by
  obtain ⟨h, hx⟩ := h
  have ht := h.1.1
  have hl := h.1.2 x.toInt.toNat
  have hb := h.2.2.1
  have hk := h.2.2.2.2 k.toInt.toNat
  have et : x.toInt < (μ.1 25 1).toInt → (tpt μ x.toInt).toInt = (μ.1 26 x.toInt.toNat).toInt := fun q => by unfold tpt; rw [if_pos ⟨hx, q⟩]
  have et2 : ¬ x.toInt < (μ.1 25 1).toInt → (tpt μ x.toInt).toInt = -1 := fun q => by unfold tpt; rw [if_neg (by omega)]; decide
  have hns : ∀ v : Int32, v.toInt = asn (fun i => (μ.1 26 i).toInt) (μ.1 27 6).toInt x.toInt.toNat → x.toInt < (μ.1 25 1).toInt → 0 ≤ k.toInt → k.toInt < 5 → ¬ ((μ.1 28 k.toInt.toNat).toInt ≤ v.toInt ∧ v.toInt ≤ (μ.1 29 k.toInt.toNat).toInt) → Int32.ofInt (-1) = Int32.ofInt (rcs μ x.toInt.toNat k.toInt) := by
    intro v hv h1 h2 h3 h4
    unfold rcs cst
    rw [if_neg (fun q => h4 (by rw [hv]; exact q.2.2.2))]
  have hys : ∀ v : Int32, v.toInt = asn (fun i => (μ.1 26 i).toInt) (μ.1 27 6).toInt x.toInt.toNat → x.toInt < (μ.1 25 1).toInt → 0 ≤ k.toInt → k.toInt < 5 → ((μ.1 28 k.toInt.toNat).toInt ≤ v.toInt ∧ v.toInt ≤ (μ.1 29 k.toInt.toNat).toInt) → ∀ w : Int32, w.toInt = 2 * v.toInt - (μ.1 28 k.toInt.toNat).toInt - (μ.1 29 k.toInt.toNat).toInt → (if 0 ≤ w then w else 0 - w) = Int32.ofInt (rcs μ x.toInt.toNat k.toInt) := by
    intro v hv h1 h2 h3 h4 w hw
    have := hk (by omega)
    have eR : rcs μ x.toInt.toNat k.toInt = iabs (2 * v.toInt - (μ.1 28 k.toInt.toNat).toInt - (μ.1 29 k.toInt.toNat).toInt) := by
      unfold rcs cst
      rw [if_pos ⟨by omega, h2, h3, by rw [← hv]; exact h4.1, by rw [← hv]; exact h4.2⟩, ← hv]
    rw [eR]
    refine ti_ext ?_
    rw [if_abs_ti (x := w) (by omega), hw]
    unfold iabs
    rw [ti_ofInt (by split <;> omega)]
  have hod : ¬ (krem x (Int32.ofInt 2)).toInt = 0 → x.toInt < (μ.1 25 1).toInt → (tpt μ x.toInt - μ.1 27 6).toInt = asn (fun i => (μ.1 26 i).toInt) (μ.1 27 6).toInt x.toInt.toNat := by
    intro q1 q2
    rw [ti_remc (by omega)] at q1
    have e := et q2
    unfold asn
    rw [if_neg (by omega), ti_sub (by omega), e]
  have hev : (krem x (Int32.ofInt 2)).toInt = 0 → x.toInt < (μ.1 25 1).toInt → (tpt μ x.toInt + μ.1 27 6).toInt = asn (fun i => (μ.1 26 i).toInt) (μ.1 27 6).toInt x.toInt.toNat := by
    intro q1 q2
    rw [ti_remc (by omega)] at q1
    have e := et q2
    unfold asn
    rw [if_pos (by omega), ti_add (by omega), e]
  have hin : ¬ (tpt μ x.toInt).toInt = (Int32.ofInt (-1)).toInt → x.toInt < (μ.1 25 1).toInt := by
    intro q
    rcases Int.lt_or_le x.toInt (μ.1 25 1).toInt with q2 | q2
    · exact q2
    · exact absurd (by rw [et2 (by omega)]; decide) q
  have m1 : (Int32.ofInt (-1)).toInt = -1 := by decide
  have m5 : (Int32.ofInt 5).toInt = 5 := by decide
  have hno : ¬ (x.toInt < (μ.1 25 1).toInt ∧ 0 ≤ k.toInt ∧ k.toInt < 5) → Int32.ofInt (-1) = Int32.ofInt (rcs μ x.toInt.toNat k.toInt) := by
    intro q
    unfold rcs cst
    rw [if_neg (fun z => q ⟨by omega, z.2.1, z.2.2.1⟩)]
  have abd : x.toInt < (μ.1 25 1).toInt → -279 ≤ asn (fun i => (μ.1 26 i).toInt) (μ.1 27 6).toInt x.toInt.toNat ∧ asn (fun i => (μ.1 26 i).toInt) (μ.1 27 6).toInt x.toInt.toNat ≤ 1278 := by
    intro q
    unfold asn
    dsimp only
    split <;> omega
  have hw : ∀ v : Int32, v.toInt = asn (fun i => (μ.1 26 i).toInt) (μ.1 27 6).toInt x.toInt.toNat → x.toInt < (μ.1 25 1).toInt → 0 ≤ k.toInt → k.toInt < 5 → (Int32.ofInt 2 * v - μ.1 28 k.toInt.toNat - μ.1 29 k.toInt.toNat).toInt = 2 * v.toInt - (μ.1 28 k.toInt.toNat).toInt - (μ.1 29 k.toInt.toNat).toInt := by
    intro v hv h1 h2 h3
    have := hk (by omega)
    have := abd h1
    simp (disch := (first | omega | (simp (disch := (first | omega | (simp (disch := (first | omega | (simp (disch := omega) only [ti_ofInt, ti_addc, ti_subc, ti_mulc, ti_cmul, ti_divc, ti_remc, ti_zero, ti_add, ti_sub, ti_neg, if_lt_ti, if_gt_ti, bP_e0, Classical.not_not, tl_i2l]; omega))) only [ti_ofInt, ti_addc, ti_subc, ti_mulc, ti_cmul, ti_divc, ti_remc, ti_zero, ti_add, ti_sub, ti_neg, if_lt_ti, if_gt_ti, bP_e0, Classical.not_not, tl_i2l]; omega))) only [ti_ofInt, ti_addc, ti_subc, ti_mulc, ti_cmul, ti_divc, ti_remc, ti_zero, ti_add, ti_sub, ti_neg, if_lt_ti, if_gt_ti, bP_e0, Classical.not_not, tl_i2l]; omega))) only [ti_ofInt, ti_addc, ti_subc, ti_mulc, ti_cmul, ti_divc, ti_remc, ti_zero, ti_add, ti_sub, ti_neg, if_lt_ti, if_gt_ti, bP_e0, Classical.not_not, tl_i2l]
  refine kOk.of rfl (Nat.le_of_ble_eq_true rfl) (fun J C => ?_)
  have C : kR cX7_costOf RX7 5 rmX7_costOf shK 68 (some .int) _ J := C
  refine (r_aload_n C dX7_costOf_0 rfl rfl (r_getR C dX7_costOf_1 fd_X7_36 nK_27 sK_27 rfl (r_iload_n C dX7_costOf_4 rfl rfl (r_v1P C yv_X9_at lk_X7_79 dX7_costOf_5 rfl nK_25 sK_25 rfl (Nat.le_of_ble_eq_true rfl) (ok_X9_at ?_) (r_istore_n C dX7_costOf_8 rfl (by decide) (r_iload_n C dX7_costOf_9 rfl rfl (r_iconst C dX7_costOf_10 (r_icmp_eq C (tgt := 23) dX7_costOf_11 rfl (fun c11 => (r_iconst C dX7_costOf_23 (r_iret C dX7_costOf_24 ?_))) (fun c11 => (r_iload_n C dX7_costOf_14 rfl rfl (r_if_lt C (tgt := 23) dX7_costOf_15 rfl (fun c15 => (r_iconst C dX7_costOf_23 (r_iret C dX7_costOf_24 ?_))) (fun c15 => (r_iload_n C dX7_costOf_18 rfl rfl (r_iconst C dX7_costOf_19 (r_icmp_lt C (tgt := 25) dX7_costOf_20 rfl (fun c20 => (r_iload_n C dX7_costOf_25 rfl rfl (r_iconst C dX7_costOf_26 (r_irem C dX7_costOf_27 (by decide) (r_if_ne C (tgt := 40) dX7_costOf_28 rfl (fun c28 => (r_iload_n C dX7_costOf_40 rfl rfl (r_aload_n C dX7_costOf_41 rfl rfl (r_getI C dX7_costOf_42 fd_X7_63 nK_27 sK_27 rfl (r_isub C dX7_costOf_45 (r_istore C dX7_costOf_46 (by decide) (r_iload C dX7_costOf_48 rfl (r_aload_n C dX7_costOf_50 rfl rfl (r_getR C dX7_costOf_51 fd_X7_11 nK_27 sK_27 rfl (r_iload_n C dX7_costOf_54 rfl rfl (r_iald C dX7_costOf_55 nK_28 sK_28 ?_ (r_icmp_lt C (tgt := 70) dX7_costOf_56 rfl (fun c56 => (r_iconst C dX7_costOf_70 (r_iret C dX7_costOf_71 ?_))) (fun c56 => (r_iload C dX7_costOf_59 rfl (r_aload_n C dX7_costOf_61 rfl rfl (r_getR C dX7_costOf_62 fd_X7_17 nK_27 sK_27 rfl (r_iload_n C dX7_costOf_65 rfl rfl (r_iald C dX7_costOf_66 nK_29 sK_29 ?_ (r_icmp_le C (tgt := 72) dX7_costOf_67 rfl (fun c67 => (r_iconst C dX7_costOf_72 (r_iload C dX7_costOf_73 rfl (r_imul C dX7_costOf_75 (r_aload_n C dX7_costOf_76 rfl rfl (r_getR C dX7_costOf_77 fd_X7_11 nK_27 sK_27 rfl (r_iload_n C dX7_costOf_80 rfl rfl (r_iald C dX7_costOf_81 nK_28 sK_28 ?_ (r_isub C dX7_costOf_82 (r_aload_n C dX7_costOf_83 rfl rfl (r_getR C dX7_costOf_84 fd_X7_17 nK_27 sK_27 rfl (r_iload_n C dX7_costOf_87 rfl rfl (r_iald C dX7_costOf_88 nK_29 sK_29 ?_ (r_isub C dX7_costOf_89 (r_abs C mh_X7_82 dX7_costOf_90 ⟨rfl, rfl⟩ (Nat.le_of_ble_eq_true rfl) (r_iret C dX7_costOf_93 ?_)))))))))))))))) (fun c67 => (r_iconst C dX7_costOf_70 (r_iret C dX7_costOf_71 ?_)))))))))))))))))))))) (fun c28 => (r_iload_n C dX7_costOf_31 rfl rfl (r_aload_n C dX7_costOf_32 rfl rfl (r_getI C dX7_costOf_33 fd_X7_63 nK_27 sK_27 rfl (r_iadd C dX7_costOf_36 (r_goto C (tgt := 46) dX7_costOf_37 rfl (r_istore C dX7_costOf_46 (by decide) (r_iload C dX7_costOf_48 rfl (r_aload_n C dX7_costOf_50 rfl rfl (r_getR C dX7_costOf_51 fd_X7_11 nK_27 sK_27 rfl (r_iload_n C dX7_costOf_54 rfl rfl (r_iald C dX7_costOf_55 nK_28 sK_28 ?_ (r_icmp_lt C (tgt := 70) dX7_costOf_56 rfl (fun c56 => (r_iconst C dX7_costOf_70 (r_iret C dX7_costOf_71 ?_))) (fun c56 => (r_iload C dX7_costOf_59 rfl (r_aload_n C dX7_costOf_61 rfl rfl (r_getR C dX7_costOf_62 fd_X7_17 nK_27 sK_27 rfl (r_iload_n C dX7_costOf_65 rfl rfl (r_iald C dX7_costOf_66 nK_29 sK_29 ?_ (r_icmp_le C (tgt := 72) dX7_costOf_67 rfl (fun c67 => (r_iconst C dX7_costOf_72 (r_iload C dX7_costOf_73 rfl (r_imul C dX7_costOf_75 (r_aload_n C dX7_costOf_76 rfl rfl (r_getR C dX7_costOf_77 fd_X7_11 nK_27 sK_27 rfl (r_iload_n C dX7_costOf_80 rfl rfl (r_iald C dX7_costOf_81 nK_28 sK_28 ?_ (r_isub C dX7_costOf_82 (r_aload_n C dX7_costOf_83 rfl rfl (r_getR C dX7_costOf_84 fd_X7_17 nK_27 sK_27 rfl (r_iload_n C dX7_costOf_87 rfl rfl (r_iald C dX7_costOf_88 nK_29 sK_29 ?_ (r_isub C dX7_costOf_89 (r_abs C mh_X7_82 dX7_costOf_90 ⟨rfl, rfl⟩ (Nat.le_of_ble_eq_true rfl) (r_iret C dX7_costOf_93 ?_)))))))))))))))) (fun c67 => (r_iconst C dX7_costOf_70 (r_iret C dX7_costOf_71 ?_)))))))))))))))))))))))))))) (fun c20 => (r_iconst C dX7_costOf_23 (r_iret C dX7_costOf_24 ?_))))))))))))))))))
  · exact ht.2
  · refine ⟨hno (fun q => ?_), rfl⟩
    rw [m1, et q.1] at c11
    omega
  · exact ⟨hno (fun q => by omega), rfl⟩
  · rw [m5] at c20; omega
  · rw [m5] at c20
    exact ⟨hns _ (hod c28 (hin c11)) (hin c11) c15 c20 (by omega), rfl⟩
  · rw [m5] at c20; omega
  · rw [m5] at c20; omega
  · rw [m5] at c20; omega
  · rw [m5] at c20
    exact ⟨hys _ (hod c28 (hin c11)) (hin c11) c15 c20 ⟨c56, c67⟩ _ (hw _ (hod c28 (hin c11)) (hin c11) c15 c20), rfl⟩
  · rw [m5] at c20
    exact ⟨hns _ (hod c28 (hin c11)) (hin c11) c15 c20 (by omega), rfl⟩
  · rw [m5] at c20; omega
  · rw [m5] at c20
    exact ⟨hns _ (hev c28 (hin c11)) (hin c11) c15 c20 (by omega), rfl⟩
  · rw [m5] at c20; omega
  · rw [m5] at c20; omega
  · rw [m5] at c20; omega
  · rw [m5] at c20
    exact ⟨hys _ (hev c28 (hin c11)) (hin c11) c15 c20 ⟨c56, c67⟩ _ (hw _ (hev c28 (hin c11)) (hin c11) c15 c20), rfl⟩
  · rw [m5] at c20
    exact ⟨hns _ (hev c28 (hin c11)) (hin c11) c15 c20 (by omega), rfl⟩
  · rw [m5] at c20
    exact ⟨hno (fun q => by omega), rfl⟩
def kLisO (μ μ' : kMem) : Prop := ∀ a b : Nat, a ≠ 28 → a ≠ 29 → ¬ (a = 27 ∧ (b = 6 ∨ b = 7)) → μ'.1 a b = μ.1 a b
def kLis (μ : kMem) (h l : Int) (μ' : kMem) : Prop := (∀ k : Nat, k < 5 → (μ'.1 28 k).toInt = kle μ h k ∧ (μ'.1 29 k).toInt = kge μ h k) ∧ (μ'.1 27 6).toInt = kbi μ l ∧ (μ'.1 27 7).toInt = ((μ.1 25 1).toInt + 1) / 2 ∧ kLisO μ μ'
theorem ok_X7_listen {h l : Int32} {μ : kMem} (hp : (μ.1 16 1).toInt ≤ 8 ∧ kSpOk μ ∧ kLnOk μ ∧ kTpOk μ) : kOk yX7_listen cX7_listen 4 (none) rmX7_listen shK 68 [.ref 27, .int h, .int l] μ (kN (kLis μ h.toInt l.toInt)) := by
  obtain ⟨hh, hsp, hln, htp⟩ := hp
  have ht := htp.1
  have hbi := kbi_b hln l.toInt
  refine kOk.of rfl (Nat.le_of_ble_eq_true rfl) (fun J C => ?_)
  have C : kR cX7_listen RX7 4 rmX7_listen shK 68 (none) _ J := C
  have loop : ∀ (n k : Nat) (v : Int32) (μ' : kMem), k + n = 5 → v.toInt = k → (∀ j : Nat, j < k → (μ'.1 28 j).toInt = kle μ h.toInt j ∧ (μ'.1 29 j).toInt = kge μ h.toInt j) → (∀ a b : Nat, a ≠ 28 → a ≠ 29 → μ'.1 a b = μ.1 a b) → J 2 [some (.ref 27), some (.int h), some (.int l), some (.int v)] [] μ' := by
    intro n
    induction n using Nat.strongRecOn with
    | ind n ih =>
      intro k v μ' hk hv hI hO
      have ev : v.toInt.toNat = k := by omega
      have eS : ∀ μ1 : kMem, (∀ a b : Nat, a ≠ 28 → a ≠ 29 → μ1.1 a b = μ.1 a b) → (μ1.1 16 1).toInt ≤ 8 ∧ kSpOk μ1 ∧ kle μ1 = kle μ ∧ kge μ1 = kge μ := by
        intro μ1 hO1
        have e1 : ksp μ1 = ksp μ := by
          funext a b
          unfold ksp
          simp (disch := decide) only [hO1]
        refine ⟨by rw [hO1 16 1 (by decide) (by decide)]; exact hh, fun i => by simp (disch := decide) only [hO1]; exact hsp i, ?_, ?_⟩
        · funext a b; unfold kle; rw [e1]
        · funext a b; unfold kge; rw [e1]
      obtain ⟨s1, s2, s3, s4⟩ := eS μ' hO
      have hO2 : ∀ x : Int32, ∀ a b : Nat, a ≠ 28 → a ≠ 29 → (up μ' 28 v.toInt.toNat x).1 a b = μ.1 a b := fun x a b n1 n2 => by rw [up_neo _ _ n1]; exact hO a b n1 n2
      have hkb := kge_b hsp h.toInt k
      refine (r_iload_n C dX7_listen_2 rfl rfl (r_iconst C dX7_listen_3 (r_icmp_ge C (tgt := 43) dX7_listen_4 rfl (fun c4 => (r_aload_n C dX7_listen_43 rfl rfl (r_aload_n C dX7_listen_44 rfl rfl (r_getR C dX7_listen_45 fd_X7_44 nK_27 sK_27 rfl (r_iload_n C dX7_listen_48 rfl rfl (r_v1P C yv_X4_biteOf lk_X7_57 dX7_listen_49 rfl nK_18 sK_18 rfl (Nat.le_of_ble_eq_true rfl) (ok_X4_biteOf ?_) (r_putI C dX7_listen_52 fw_X7_63 nK_27 sK_27 rfl (r_aload_n C dX7_listen_55 rfl rfl (r_aload_n C dX7_listen_56 rfl rfl (r_getR C dX7_listen_57 fd_X7_36 nK_27 sK_27 rfl (r_v0P C yv_X9_size lk_X7_67 dX7_listen_60 rfl nK_25 sK_25 rfl (Nat.le_of_ble_eq_true rfl) ok_X9_size (r_iconst C dX7_listen_63 (r_iadd C dX7_listen_64 (r_iconst C dX7_listen_65 (r_idiv C dX7_listen_66 (by decide) (r_bipush C dX7_listen_67 (by decide +kernel) (r_min C mh_X7_71 dX7_listen_69 ⟨rfl, rfl⟩ (Nat.le_of_ble_eq_true rfl) (r_putI C dX7_listen_72 fw_X7_76 nK_27 sK_27 rfl (r_ret C dX7_listen_75 ?_))))))))))))))))))) (fun c4 => (r_aload_n C dX7_listen_7 rfl rfl (r_getR C dX7_listen_8 fd_X7_11 nK_27 sK_27 rfl (r_iload_n C dX7_listen_11 rfl rfl (r_aload_n C dX7_listen_12 rfl rfl (r_getR C dX7_listen_13 fd_X7_40 nK_27 sK_27 rfl (r_iload_n C dX7_listen_16 rfl rfl (r_iload_n C dX7_listen_17 rfl rfl (r_v2P C yv_X3_leastOf lk_X7_48 dX7_listen_18 rfl nK_16 sK_16 rfl (Nat.le_of_ble_eq_true rfl) (ok_X3_leastOf ?_) (r_iast C dX7_listen_21 nK_28 sK_28 ?_ (r_aload_n C dX7_listen_22 rfl rfl (r_getR C dX7_listen_23 fd_X7_17 nK_27 sK_27 rfl (r_iload_n C dX7_listen_26 rfl rfl (r_aload_n C dX7_listen_27 rfl rfl (r_getR C dX7_listen_28 fd_X7_40 nK_27 sK_27 rfl (r_iload_n C dX7_listen_31 rfl rfl (r_iload_n C dX7_listen_32 rfl rfl (r_v2P C yv_X3_greatestOf lk_X7_54 dX7_listen_33 rfl nK_16 sK_16 rfl (Nat.le_of_ble_eq_true rfl) (ok_X3_greatestOf ?_) (r_iast C dX7_listen_36 nK_29 sK_29 ?_ (r_iinc C dX7_listen_37 rfl (by decide) (r_goto C (tgt := 2) dX7_listen_40 rfl ?_))))))))))))))))))))))))
      · unfold kLnOk at hln ⊢
        simp (disch := decide) only [hO]
        exact hln
      · simp (disch := (first | omega | (simp (disch := omega) only [ti_ofInt, ti_addc, ti_subc, ti_mulc, ti_cmul, ti_divc, ti_remc, ti_zero, ti_add, ti_sub, ti_neg, if_lt_ti, if_gt_ti, bP_e0, Classical.not_not, tl_i2l]; omega))) only [ti_ofInt, ti_addc, ti_subc, ti_mulc, ti_cmul, ti_divc, ti_remc, ti_zero, ti_add, ti_sub, ti_neg, if_lt_ti, if_gt_ti, bP_e0, Classical.not_not, tl_i2l] at c4
        have eB : kbi μ' = kbi μ := by
          funext a
          unfold kbi
          simp (disch := decide) only [hO]
        simp (disch := decide) only [up_same, up_neo, up_nek, up_2]
        rw [eB, hO 25 1 (by decide) (by decide)]
        refine ⟨fun j hj => ?_, ?_, ?_, ?_⟩
        · simp (disch := decide) only [up_same, up_neo, up_nek, up_2]
          exact hI j (by omega)
        · simp (disch := decide) only [up_same, up_neo, up_nek, up_2]
          exact ti_ofInt (by omega)
        · simp (disch := decide) only [up_same, up_neo, up_nek, up_2]
          have e1 : ((μ.1 25 1 + Int32.ofInt 1) / Int32.ofInt 2).toInt = ((μ.1 25 1).toInt + 1) / 2 := by
            rw [ti_divc (by rw [ti_addc (by omega)]; omega), ti_addc (by omega)]
          rw [if_lt_ti, e1, ti_ofInt (by omega)]
          omega
        · intro a b n1 n2 n3
          rw [up_ne _ _ (by omega), up_ne _ _ (by omega)]
          exact hO a b n1 n2
      · exact ⟨s1, s2⟩
      · simp (disch := (first | omega | (simp (disch := omega) only [ti_ofInt, ti_addc, ti_subc, ti_mulc, ti_cmul, ti_divc, ti_remc, ti_zero, ti_add, ti_sub, ti_neg, if_lt_ti, if_gt_ti, bP_e0, Classical.not_not, tl_i2l]; omega))) only [ti_ofInt, ti_addc, ti_subc, ti_mulc, ti_cmul, ti_divc, ti_remc, ti_zero, ti_add, ti_sub, ti_neg, if_lt_ti, if_gt_ti, bP_e0, Classical.not_not, tl_i2l] at c4
        omega
      · exact ⟨(eS _ (hO2 _)).1, (eS _ (hO2 _)).2.1⟩
      · simp (disch := (first | omega | (simp (disch := omega) only [ti_ofInt, ti_addc, ti_subc, ti_mulc, ti_cmul, ti_divc, ti_remc, ti_zero, ti_add, ti_sub, ti_neg, if_lt_ti, if_gt_ti, bP_e0, Classical.not_not, tl_i2l]; omega))) only [ti_ofInt, ti_addc, ti_subc, ti_mulc, ti_cmul, ti_divc, ti_remc, ti_zero, ti_add, ti_sub, ti_neg, if_lt_ti, if_gt_ti, bP_e0, Classical.not_not, tl_i2l] at c4
        omega
      · simp (disch := (first | omega | (simp (disch := omega) only [ti_ofInt, ti_addc, ti_subc, ti_mulc, ti_cmul, ti_divc, ti_remc, ti_zero, ti_add, ti_sub, ti_neg, if_lt_ti, if_gt_ti, bP_e0, Classical.not_not, tl_i2l]; omega))) only [ti_ofInt, ti_addc, ti_subc, ti_mulc, ti_cmul, ti_divc, ti_remc, ti_zero, ti_add, ti_sub, ti_neg, if_lt_ti, if_gt_ti, bP_e0, Classical.not_not, tl_i2l] at c4
        rw [(eS _ (hO2 _)).2.2.2, s3, ev]
        refine ih (n - 1) (by omega) (k + 1) _ _ (by omega) (by simp (disch := (first | omega | (simp (disch := omega) only [ti_ofInt, ti_addc, ti_subc, ti_mulc, ti_cmul, ti_divc, ti_remc, ti_zero, ti_add, ti_sub, ti_neg, if_lt_ti, if_gt_ti, bP_e0, Classical.not_not, tl_i2l]; omega))) only [ti_ofInt, ti_addc, ti_subc, ti_mulc, ti_cmul, ti_divc, ti_remc, ti_zero, ti_add, ti_sub, ti_neg, if_lt_ti, if_gt_ti, bP_e0, Classical.not_not, tl_i2l]; omega) ?_ ?_
        · intro j hj
          by_cases e : j = k
          · subst e
            rw [up_same, up_neo _ _ (by decide), up_same, hv]
            exact ⟨ti_ofInt (by omega), ti_ofInt (by omega)⟩
          · refine ⟨?_, ?_⟩
            · rw [up_neo _ _ (by decide), up_nek _ _ e]
              exact (hI j (by omega)).1
            · rw [up_nek _ _ e, up_neo _ _ (by decide)]
              exact (hI j (by omega)).2
        · intro a b n1 n2
          rw [up_neo _ _ n2, up_neo _ _ n1]
          exact hO a b n1 n2
  refine (r_iconst C dX7_listen_0 (r_istore_n C dX7_listen_1 rfl (by decide) ?_))
  exact loop 5 0 _ _ rfl (by simp (disch := (first | omega | (simp (disch := omega) only [ti_ofInt, ti_addc, ti_subc, ti_mulc, ti_cmul, ti_divc, ti_remc, ti_zero, ti_add, ti_sub, ti_neg, if_lt_ti, if_gt_ti, bP_e0, Classical.not_not, tl_i2l]; omega))) only [ti_ofInt, ti_addc, ti_subc, ti_mulc, ti_cmul, ti_divc, ti_remc, ti_zero, ti_add, ti_sub, ti_neg, if_lt_ti, if_gt_ti, bP_e0, Classical.not_not, tl_i2l]; omega) (fun j q => by omega) (fun _ _ _ _ => rfl)
def rsz (μ : kMem) (l : Int) : Nat := (ksz μ l).toInt.toNat
def rkd (μ : kMem) (l : Int) : Nat → Int := fun i => (kkd μ l i).toInt
def rlc (μ : kMem) (j : Nat) (l : Int) : Int := lcst (rcs μ) (rmc μ) (rsz μ l) (rkd μ l) j
theorem ok_X7_letterCost {x l : Int32} {μ : kMem} (h : kRdOk μ ∧ 0 ≤ x.toInt ∧ x.toInt ≤ 1000) : kOk yX7_letterCost cX7_letterCost 8 (some .int) rmX7_letterCost shK 68 [.ref 27, .int x, .int l] μ (kP (Int32.ofInt (rlc μ x.toInt.toNat l.toInt)) μ) := by
  obtain ⟨h, hx, hx2⟩ := h
  have hb := ksz_b h.2.1 l.toInt
  have ht := h.1.1
  have hmc := h.2.2.2.1
  obtain ⟨n, hn⟩ : ∃ n : Nat, (ksz μ l.toInt).toInt = n := ⟨(ksz μ l.toInt).toInt.toNat, by omega⟩
  obtain ⟨j, hj⟩ : ∃ j : Nat, x.toInt = j := ⟨x.toInt.toNat, by omega⟩
  have en : rsz μ l.toInt = n := by unfold rsz; omega
  have em : (rmc μ : Int) = ((μ.1 25 1).toInt + 1) / 2 := by unfold rmc; omega
  obtain ⟨T, hT⟩ : ∃ T, T = rlc μ x.toInt.toNat l.toInt := ⟨_, rfl⟩
  rw [← hT]
  unfold rlc lcst at hT
  rw [en, hj, Int.toNat_natCast] at hT
  have h2n : (Int32.ofInt 2 * ksz μ l.toInt).toInt = 2 * n := by rw [ti_cmul (by omega)]; omega
  have h2j : (Int32.ofInt 2 * x).toInt = 2 * j := by rw [ti_cmul (by omega)]; omega
  have hsb := sumC_b (c := fun p => rcs μ (2 * j + p) (if p % 2 = 0 then rkd μ l.toInt (p / 2) else 2)) (fun p => rcs_b h _ _)
  refine kOk.of rfl (Nat.le_of_ble_eq_true rfl) (fun J C => ?_)
  have C : kR cX7_letterCost RX7 8 rmX7_letterCost shK 68 (some .int) _ J := C
  have loop : ∀ (k p : Nat) (s v : Int32) (z1 z2 : Option Value), p + k = 2 * n - 1 → v.toInt = p → ¬ (n = 0 ∨ rmc μ < j + n) → s.toInt = sumC (fun p => rcs μ (2 * j + p) (if p % 2 = 0 then rkd μ l.toInt (p / 2) else 2)) p → 0 ≤ s.toInt → J 31 [some (.ref 27), some (.int x), some (.int l), some (.int (ksz μ l.toInt)), some (.int s), some (.int v), z1, z2] [] μ := by
    intro k
    induction k using Nat.strongRecOn with
    | ind k ih =>
      intro p s v z1 z2 hk hv hlim hs hs0
      rw [if_neg hlim] at hT
      have hsp := hsb p
      have hcp := rcs_b h (2 * j + p) (if p % 2 = 0 then rkd μ l.toInt (p / 2) else 2)
      have ev : v.toInt.toNat = p := by omega
      have e2x : (Int32.ofInt 2 * x + v).toInt = 2 * j + p := by rw [ti_add (by omega)]; omega
      have e2n : (Int32.ofInt 2 * ksz μ l.toInt - Int32.ofInt 1).toInt = 2 * n - 1 := by rw [ti_subc (by omega)]; omega
      have esucc : sumC (fun p => rcs μ (2 * j + p) (if p % 2 = 0 then rkd μ l.toInt (p / 2) else 2)) (p + 1) = if sumC (fun p => rcs μ (2 * j + p) (if p % 2 = 0 then rkd μ l.toInt (p / 2) else 2)) p = -1 ∨ rcs μ (2 * j + p) (if p % 2 = 0 then rkd μ l.toInt (p / 2) else 2) = -1 then -1 else sumC (fun p => rcs μ (2 * j + p) (if p % 2 = 0 then rkd μ l.toInt (p / 2) else 2)) p + rcs μ (2 * j + p) (if p % 2 = 0 then rkd μ l.toInt (p / 2) else 2) := rfl
      have m1 : (Int32.ofInt (-1)).toInt = -1 := by decide
      have good : p + 1 ≤ 2 * n - 1 → ∀ q : Int, q = rcs μ (2 * j + p) (if p % 2 = 0 then rkd μ l.toInt (p / 2) else 2) → ¬ q = -1 → ∀ z1' z2', J 31 [some (.ref 27), some (.int x), some (.int l), some (.int (ksz μ l.toInt)), some (.int (s + Int32.ofInt q)), some (.int (v + Int32.ofInt 1)), z1', z2'] [] μ := by
        intro q1 q q2 q3 z1' z2'
        rw [← q2] at hcp esucc
        have eq2 : (s + Int32.ofInt q).toInt = s.toInt + q := ti_addc (by omega)
        refine ih (k - 1) (by omega) (p + 1) _ _ _ _ (by omega) (by simp (disch := (first | omega | (simp (disch := omega) only [ti_ofInt, ti_addc, ti_subc, ti_mulc, ti_cmul, ti_divc, ti_remc, ti_zero, ti_add, ti_sub, ti_neg, if_lt_ti, if_gt_ti, bP_e0, Classical.not_not, tl_i2l]; omega))) only [ti_ofInt, ti_addc, ti_subc, ti_mulc, ti_cmul, ti_divc, ti_remc, ti_zero, ti_add, ti_sub, ti_neg, if_lt_ti, if_gt_ti, bP_e0, Classical.not_not, tl_i2l]; omega) hlim ?_ (by rw [eq2]; omega)
        rw [eq2, esucc, if_neg (by omega), hs]
      have bad : p + 1 ≤ 2 * n - 1 → ∀ q : Int, q = rcs μ (2 * j + p) (if p % 2 = 0 then rkd μ l.toInt (p / 2) else 2) → q = -1 → Int32.ofInt (-1) = Int32.ofInt T := by
        intro q1 q q2 q3
        rw [← q2, if_pos (Or.inr q3)] at esucc
        have h9 := sumC_none esucc (2 * n - 1 - (p + 1))
        rw [show p + 1 + (2 * n - 1 - (p + 1)) = 2 * n - 1 by omega] at h9
        rw [hT, h9]
      refine (r_iload C dX7_letterCost_31 rfl (r_iconst C dX7_letterCost_33 (r_iload_n C dX7_letterCost_34 rfl rfl (r_imul C dX7_letterCost_35 (r_iconst C dX7_letterCost_36 (r_isub C dX7_letterCost_37 (r_icmp_ge C (tgt := 101) dX7_letterCost_38 rfl (fun c38 => (r_iload C dX7_letterCost_101 rfl (r_iret C dX7_letterCost_103 ?_))) (fun c38 => (r_iload C dX7_letterCost_41 rfl (r_iconst C dX7_letterCost_43 (r_irem C dX7_letterCost_44 (by decide) (r_if_ne C (tgt := 63) dX7_letterCost_45 rfl (fun c45 => (r_iconst C dX7_letterCost_63 (r_istore C dX7_letterCost_64 (by decide) (r_aload_n C dX7_letterCost_66 rfl rfl (r_iconst C dX7_letterCost_67 (r_iload_n C dX7_letterCost_68 rfl rfl (r_imul C dX7_letterCost_69 (r_iload C dX7_letterCost_70 rfl (r_iadd C dX7_letterCost_72 (r_iload C dX7_letterCost_73 rfl (r_v2P C yv_X7_costOf lk_X7_102 dX7_letterCost_75 rfl nK_27 sK_27 rfl (Nat.le_of_ble_eq_true rfl) (ok_X7_costOf ?_) (r_istore C dX7_letterCost_78 (by decide) (r_iload C dX7_letterCost_80 rfl (r_iconst C dX7_letterCost_82 (r_icmp_ne C (tgt := 88) dX7_letterCost_83 rfl (fun c83 => (r_iload C dX7_letterCost_88 rfl (r_iload C dX7_letterCost_90 rfl (r_iadd C dX7_letterCost_92 (r_istore C dX7_letterCost_93 (by decide) (r_iinc C dX7_letterCost_95 rfl (by decide) (r_goto C (tgt := 31) dX7_letterCost_98 rfl ?_))))))) (fun c83 => (r_iconst C dX7_letterCost_86 (r_iret C dX7_letterCost_87 ?_)))))))))))))))))) (fun c45 => (r_aload_n C dX7_letterCost_48 rfl rfl (r_getR C dX7_letterCost_49 fd_X7_32 nK_27 sK_27 rfl (r_iload_n C dX7_letterCost_52 rfl rfl (r_iload C dX7_letterCost_53 rfl (r_iconst C dX7_letterCost_55 (r_idiv C dX7_letterCost_56 (by decide) (r_v2P C yv_X1_kindOf lk_X7_118 dX7_letterCost_57 rfl nK_3 sK_3 rfl (Nat.le_of_ble_eq_true rfl) (ok_X1_kindOf_3 ?_) (r_goto C (tgt := 64) dX7_letterCost_60 rfl (r_istore C dX7_letterCost_64 (by decide) (r_aload_n C dX7_letterCost_66 rfl rfl (r_iconst C dX7_letterCost_67 (r_iload_n C dX7_letterCost_68 rfl rfl (r_imul C dX7_letterCost_69 (r_iload C dX7_letterCost_70 rfl (r_iadd C dX7_letterCost_72 (r_iload C dX7_letterCost_73 rfl (r_v2P C yv_X7_costOf lk_X7_102 dX7_letterCost_75 rfl nK_27 sK_27 rfl (Nat.le_of_ble_eq_true rfl) (ok_X7_costOf ?_) (r_istore C dX7_letterCost_78 (by decide) (r_iload C dX7_letterCost_80 rfl (r_iconst C dX7_letterCost_82 (r_icmp_ne C (tgt := 88) dX7_letterCost_83 rfl (fun c83 => (r_iload C dX7_letterCost_88 rfl (r_iload C dX7_letterCost_90 rfl (r_iadd C dX7_letterCost_92 (r_istore C dX7_letterCost_93 (by decide) (r_iinc C dX7_letterCost_95 rfl (by decide) (r_goto C (tgt := 31) dX7_letterCost_98 rfl ?_))))))) (fun c83 => (r_iconst C dX7_letterCost_86 (r_iret C dX7_letterCost_87 ?_)))))))))))))))))))))))))))))))))))))
      · rw [e2n] at c38
        refine ⟨ti_ext ?_, rfl⟩
        have e : p = 2 * n - 1 := by omega
        rw [hs, hT, e, ti_ofInt (by have := hsb (2 * n - 1); omega)]
      · exact ⟨h, by rw [e2x]; omega⟩
      · rw [e2n] at c38
        simp (disch := (first | omega | (simp (disch := omega) only [ti_ofInt, ti_addc, ti_subc, ti_mulc, ti_cmul, ti_divc, ti_remc, ti_zero, ti_add, ti_sub, ti_neg, if_lt_ti, if_gt_ti, bP_e0, Classical.not_not, tl_i2l]; omega))) only [ti_ofInt, ti_addc, ti_subc, ti_mulc, ti_cmul, ti_divc, ti_remc, ti_zero, ti_add, ti_sub, ti_neg, if_lt_ti, if_gt_ti, bP_e0, Classical.not_not, tl_i2l] at c45
        rw [e2x, m1] at c83
        rw [e2x]
        rw [show (2 * (j : Int) + p).toNat = 2 * j + p by omega, show (Int32.ofInt 2).toInt = 2 by decide] at c83 ⊢
        have hcc := rcs_b h (2 * j + p) 2
        rw [ti_ofInt (by omega)] at c83
        exact good (by omega) _ (by rw [if_neg (by omega)]) c83 _ _
      · rw [e2n] at c38
        simp (disch := (first | omega | (simp (disch := omega) only [ti_ofInt, ti_addc, ti_subc, ti_mulc, ti_cmul, ti_divc, ti_remc, ti_zero, ti_add, ti_sub, ti_neg, if_lt_ti, if_gt_ti, bP_e0, Classical.not_not, tl_i2l]; omega))) only [ti_ofInt, ti_addc, ti_subc, ti_mulc, ti_cmul, ti_divc, ti_remc, ti_zero, ti_add, ti_sub, ti_neg, if_lt_ti, if_gt_ti, bP_e0, Classical.not_not, tl_i2l] at c45
        rw [e2x, m1] at c83
        rw [show (2 * (j : Int) + p).toNat = 2 * j + p by omega, show (Int32.ofInt 2).toInt = 2 by decide] at c83
        have hcc := rcs_b h (2 * j + p) 2
        rw [ti_ofInt (by omega)] at c83
        exact ⟨bad (by omega) _ (by rw [if_neg (by omega)]) c83, rfl⟩
      · exact h.2.1
      · exact ⟨h, by rw [e2x]; omega⟩
      · rw [e2n] at c38
        simp (disch := (first | omega | (simp (disch := omega) only [ti_ofInt, ti_addc, ti_subc, ti_mulc, ti_cmul, ti_divc, ti_remc, ti_zero, ti_add, ti_sub, ti_neg, if_lt_ti, if_gt_ti, bP_e0, Classical.not_not, tl_i2l]; omega))) only [ti_ofInt, ti_addc, ti_subc, ti_mulc, ti_cmul, ti_divc, ti_remc, ti_zero, ti_add, ti_sub, ti_neg, if_lt_ti, if_gt_ti, bP_e0, Classical.not_not, tl_i2l] at c45
        rw [e2x, m1] at c83
        rw [e2x]
        have ed : (v / Int32.ofInt 2).toInt = ((p / 2 : Nat) : Int) := by rw [ti_divc (by omega), hv]; omega
        rw [show (2 * (j : Int) + p).toNat = 2 * j + p by omega, ed] at c83 ⊢
        have hcc := rcs_b h (2 * j + p) (kkd μ l.toInt ((p / 2 : Nat) : Int)).toInt
        rw [ti_ofInt (by omega)] at c83
        exact good (by omega) _ (by rw [if_pos (by omega)]; rfl) c83 _ _
      · rw [e2n] at c38
        simp (disch := (first | omega | (simp (disch := omega) only [ti_ofInt, ti_addc, ti_subc, ti_mulc, ti_cmul, ti_divc, ti_remc, ti_zero, ti_add, ti_sub, ti_neg, if_lt_ti, if_gt_ti, bP_e0, Classical.not_not, tl_i2l]; omega))) only [ti_ofInt, ti_addc, ti_subc, ti_mulc, ti_cmul, ti_divc, ti_remc, ti_zero, ti_add, ti_sub, ti_neg, if_lt_ti, if_gt_ti, bP_e0, Classical.not_not, tl_i2l] at c45
        rw [e2x, m1] at c83
        have ed : (v / Int32.ofInt 2).toInt = ((p / 2 : Nat) : Int) := by rw [ti_divc (by omega), hv]; omega
        rw [show (2 * (j : Int) + p).toNat = 2 * j + p by omega, ed] at c83
        have hcc := rcs_b h (2 * j + p) (kkd μ l.toInt ((p / 2 : Nat) : Int)).toInt
        rw [ti_ofInt (by omega)] at c83
        exact ⟨bad (by omega) _ (by rw [if_pos (by omega)]; rfl) c83, rfl⟩
  refine (r_aload_n C dX7_letterCost_0 rfl rfl (r_getR C dX7_letterCost_1 fd_X7_32 nK_27 sK_27 rfl (r_iload_n C dX7_letterCost_4 rfl rfl (r_v1P C yv_X1_sizeOf lk_X7_88 dX7_letterCost_5 rfl nK_3 sK_3 rfl (Nat.le_of_ble_eq_true rfl) ok_X1_sizeOf_3 (r_istore_n C dX7_letterCost_8 rfl (by decide) (r_iload_n C dX7_letterCost_9 rfl rfl (r_if_eq C (tgt := 23) dX7_letterCost_10 rfl (fun c10 => (r_iconst C dX7_letterCost_23 (r_iret C dX7_letterCost_24 ?_))) (fun c10 => (r_iload_n C dX7_letterCost_13 rfl rfl (r_iload_n C dX7_letterCost_14 rfl rfl (r_iadd C dX7_letterCost_15 (r_aload_n C dX7_letterCost_16 rfl rfl (r_getI C dX7_letterCost_17 fd_X7_76 nK_27 sK_27 rfl (r_icmp_le C (tgt := 25) dX7_letterCost_20 rfl (fun c20 => (r_iconst C dX7_letterCost_25 (r_istore C dX7_letterCost_26 (by decide) (r_iconst C dX7_letterCost_28 (r_istore C dX7_letterCost_29 (by decide) ?_))))) (fun c20 => (r_iconst C dX7_letterCost_23 (r_iret C dX7_letterCost_24 ?_)))))))))))))))))
  · rw [if_pos (by omega)] at hT
    exact ⟨by rw [hT], rfl⟩
  · rw [ti_add (by omega)] at c20
    exact loop (2 * n - 1) 0 _ _ _ _ (by omega) (by simp (disch := (first | omega | (simp (disch := omega) only [ti_ofInt, ti_addc, ti_subc, ti_mulc, ti_cmul, ti_divc, ti_remc, ti_zero, ti_add, ti_sub, ti_neg, if_lt_ti, if_gt_ti, bP_e0, Classical.not_not, tl_i2l]; omega))) only [ti_ofInt, ti_addc, ti_subc, ti_mulc, ti_cmul, ti_divc, ti_remc, ti_zero, ti_add, ti_sub, ti_neg, if_lt_ti, if_gt_ti, bP_e0, Classical.not_not, tl_i2l]; omega) (by omega) (by simp (disch := (first | omega | (simp (disch := omega) only [ti_ofInt, ti_addc, ti_subc, ti_mulc, ti_cmul, ti_divc, ti_remc, ti_zero, ti_add, ti_sub, ti_neg, if_lt_ti, if_gt_ti, bP_e0, Classical.not_not, tl_i2l]; omega))) only [ti_ofInt, ti_addc, ti_subc, ti_mulc, ti_cmul, ti_divc, ti_remc, ti_zero, ti_add, ti_sub, ti_neg, if_lt_ti, if_gt_ti, bP_e0, Classical.not_not, tl_i2l]; rfl) (by simp (disch := (first | omega | (simp (disch := omega) only [ti_ofInt, ti_addc, ti_subc, ti_mulc, ti_cmul, ti_divc, ti_remc, ti_zero, ti_add, ti_sub, ti_neg, if_lt_ti, if_gt_ti, bP_e0, Classical.not_not, tl_i2l]; omega))) only [ti_ofInt, ti_addc, ti_subc, ti_mulc, ti_cmul, ti_divc, ti_remc, ti_zero, ti_add, ti_sub, ti_neg, if_lt_ti, if_gt_ti, bP_e0, Classical.not_not, tl_i2l]; omega)
  · rw [ti_add (by omega)] at c20
    rw [if_pos (by omega)] at hT
    exact ⟨by rw [hT], rfl⟩
theorem ok_X7_gapCost {x : Int32} {μ : kMem} (h : kRdOk μ ∧ 1 ≤ x.toInt ∧ x.toInt ≤ 1000) : kOk yX7_gapCost cX7_gapCost 4 (some .int) rmX7_gapCost shK 68 [.ref 27, .int x] μ (kP (Int32.ofInt (gcst (rcs μ) x.toInt.toNat)) μ) := by
  obtain ⟨h, hx, hx2⟩ := h
  have b3 := rcs_b h (2 * x.toInt.toNat - 1) 3
  have b4 := rcs_b h (2 * x.toInt.toNat - 1) 4
  have e1 : (Int32.ofInt 2 * x - Int32.ofInt 1).toInt = 2 * x.toInt - 1 := by simp (disch := (first | omega | (simp (disch := (first | omega | (simp (disch := (first | omega | (simp (disch := omega) only [ti_ofInt, ti_addc, ti_subc, ti_mulc, ti_cmul, ti_divc, ti_remc, ti_zero, ti_add, ti_sub, ti_neg, if_lt_ti, if_gt_ti, bP_e0, Classical.not_not, tl_i2l]; omega))) only [ti_ofInt, ti_addc, ti_subc, ti_mulc, ti_cmul, ti_divc, ti_remc, ti_zero, ti_add, ti_sub, ti_neg, if_lt_ti, if_gt_ti, bP_e0, Classical.not_not, tl_i2l]; omega))) only [ti_ofInt, ti_addc, ti_subc, ti_mulc, ti_cmul, ti_divc, ti_remc, ti_zero, ti_add, ti_sub, ti_neg, if_lt_ti, if_gt_ti, bP_e0, Classical.not_not, tl_i2l]; omega))) only [ti_ofInt, ti_addc, ti_subc, ti_mulc, ti_cmul, ti_divc, ti_remc, ti_zero, ti_add, ti_sub, ti_neg, if_lt_ti, if_gt_ti, bP_e0, Classical.not_not, tl_i2l]
  have e2 : (2 * x.toInt - 1).toNat = 2 * x.toInt.toNat - 1 := by omega
  have m1 : (Int32.ofInt (-1)).toInt = -1 := by decide
  have m3 : (Int32.ofInt 3).toInt = 3 := by decide
  have m4 : (Int32.ofInt 4).toInt = 4 := by decide
  have i3 := ti_ofInt (n := rcs μ (2 * x.toInt.toNat - 1) 3) (by omega)
  have i4 := ti_ofInt (n := rcs μ (2 * x.toInt.toNat - 1) 4) (by omega)
  have bg := gcst_b (rcs_b h) x.toInt.toNat
  refine kOk.of rfl (Nat.le_of_ble_eq_true rfl) (fun J C => ?_)
  have C : kR cX7_gapCost RX7 4 rmX7_gapCost shK 68 (some .int) _ J := C
  refine (r_aload_n C dX7_gapCost_0 rfl rfl (r_iconst C dX7_gapCost_1 (r_iload_n C dX7_gapCost_2 rfl rfl (r_imul C dX7_gapCost_3 (r_iconst C dX7_gapCost_4 (r_isub C dX7_gapCost_5 (r_iconst C dX7_gapCost_6 (r_v2P C yv_X7_costOf lk_X7_102 dX7_gapCost_7 rfl nK_27 sK_27 rfl (Nat.le_of_ble_eq_true rfl) (ok_X7_costOf ?_) (r_istore_n C dX7_gapCost_10 rfl (by decide) (r_aload_n C dX7_gapCost_11 rfl rfl (r_iconst C dX7_gapCost_12 (r_iload_n C dX7_gapCost_13 rfl rfl (r_imul C dX7_gapCost_14 (r_iconst C dX7_gapCost_15 (r_isub C dX7_gapCost_16 (r_iconst C dX7_gapCost_17 (r_v2P C yv_X7_costOf lk_X7_102 dX7_gapCost_18 rfl nK_27 sK_27 rfl (Nat.le_of_ble_eq_true rfl) (ok_X7_costOf ?_) (r_istore_n C dX7_gapCost_21 rfl (by decide) (r_iload_n C dX7_gapCost_22 rfl rfl (r_iconst C dX7_gapCost_23 (r_icmp_eq C (tgt := 32) dX7_gapCost_24 rfl (fun c24 => (r_iload_n C dX7_gapCost_32 rfl rfl (r_iload_n C dX7_gapCost_33 rfl rfl (r_max C mh_X7_121 dX7_gapCost_34 ⟨rfl, rfl⟩ (Nat.le_of_ble_eq_true rfl) (r_iret C dX7_gapCost_37 ?_))))) (fun c24 => (r_iload_n C dX7_gapCost_27 rfl rfl (r_iconst C dX7_gapCost_28 (r_icmp_ne C (tgt := 38) dX7_gapCost_29 rfl (fun c29 => (r_iload_n C dX7_gapCost_38 rfl rfl (r_iload_n C dX7_gapCost_39 rfl rfl (r_min C mh_X7_71 dX7_gapCost_40 ⟨rfl, rfl⟩ (Nat.le_of_ble_eq_true rfl) (r_iret C dX7_gapCost_43 ?_))))) (fun c29 => (r_iload_n C dX7_gapCost_32 rfl rfl (r_iload_n C dX7_gapCost_33 rfl rfl (r_max C mh_X7_121 dX7_gapCost_34 ⟨rfl, rfl⟩ (Nat.le_of_ble_eq_true rfl) (r_iret C dX7_gapCost_37 ?_))))))))))))))))))))))))))))))
  · exact ⟨h, by rw [e1]; omega⟩
  · exact ⟨h, by rw [e1]; omega⟩
  · rw [e1, e2, m3, i3, m1] at c24
    rw [e1, e2, m3, m4]
    refine ⟨ti_ext ?_, rfl⟩
    rw [if_gt_ti, i3, i4, ti_ofInt (by omega)]
    unfold gcst
    rw [if_pos (Or.inl c24)]
  · rw [e1, e2, m3, i3, m1] at c24
    rw [e1, e2, m4, i4, m1] at c29
    rw [e1, e2, m3, m4]
    refine ⟨ti_ext ?_, rfl⟩
    rw [if_lt_ti, i3, i4, ti_ofInt (by omega)]
    unfold gcst
    rw [if_neg (by omega)]
  · rw [e1, e2, m3, i3, m1] at c24
    rw [e1, e2, m4, i4, m1] at c29
    rw [e1, e2, m3, m4]
    refine ⟨ti_ext ?_, rfl⟩
    rw [if_gt_ti, i3, i4, ti_ofInt (by omega)]
    unfold gcst
    rw [if_pos (Or.inr c29)]

