/-! ===== the model: what is told ===== -/
theorem ll_c0 : (Int64.ofNat ((0 : Fin 2) : Nat)).toInt = 0 := by decide +kernel
theorem ll_c1 : (Int64.ofNat ((1 : Fin 2) : Nat)).toInt = 1 := by decide +kernel
theorem ll_m1 : (-1 : Int64).toInt = -1 := by decide +kernel
theorem ll_32 : (32 : Int64).toInt = 32 := by decide +kernel
theorem ll_97 : (97 : Int64).toInt = 97 := by decide +kernel
theorem ll_25 : (25 : Int64).toInt = 25 := by decide +kernel
theorem ll_255255 : (255255 : Int64).toInt = 255255 := by decide +kernel
theorem ll_5 : (5 : Int64).toInt = 5 := by decide +kernel
theorem ll_99 : (99 : Int64).toInt = 99 := by decide +kernel
theorem ll_20 : (20 : Int64).toInt = 20 := by decide +kernel
theorem ll_9 : (9 : Int64).toInt = 9 := by decide +kernel
theorem ll_999 : (999 : Int64).toInt = 999 := by decide +kernel
theorem ll_1000000 : (1000000 : Int64).toInt = 1000000 := by decide +kernel
theorem ll_17575 : (17575 : Int64).toInt = 17575 := by decide +kernel
theorem ll_3 : (3 : Int64).toInt = 3 := by decide +kernel
theorem ll_200 : (200 : Int64).toInt = 200 := by decide +kernel
theorem ll_60 : (60 : Int64).toInt = 60 := by decide +kernel
theorem ll_2 : (2 : Int64).toInt = 2 := by decide +kernel
theorem ll_5000 : (5000 : Int64).toInt = 5000 := by decide +kernel
theorem ll_m60 : (-60 : Int64).toInt = -60 := by decide +kernel
theorem ll_m99 : (-99 : Int64).toInt = -99 := by decide +kernel
theorem ok_X12_in {v lo hi : Int64} {μ : kMem} : kOk yX12_in cX12_in 6 (some .boolean) rmX12_in shM 48 [.long v, .long lo, .long hi] μ (kP (bP (lo.toInt ≤ v.toInt ∧ v.toInt ≤ hi.toInt)) μ) := by
  have e1 := tl_cmp v lo
  have e2 := tl_cmp v hi
  refine kOk.of rfl (Nat.le_of_ble_eq_true rfl) (fun J C => ?_)
  have C : kR cX12_in RX12 6 rmX12_in shM 48 (some .boolean) _ J := C
  refine (r_lload_n C dX12_in_0 rfl rfl (r_lload_n C dX12_in_1 rfl rfl (r_lcmp C dX12_in_2 (r_if_lt C (tgt := 17) dX12_in_3 rfl (fun c3 => (r_iconst C dX12_in_17 (r_zret C dX12_in_18 rfl ?_))) (fun c3 => (r_lload_n C dX12_in_6 rfl rfl (r_lload C dX12_in_7 rfl (r_lcmp C dX12_in_9 (r_if_gt C (tgt := 17) dX12_in_10 rfl (fun c10 => (r_iconst C dX12_in_17 (r_zret C dX12_in_18 rfl ?_))) (fun c10 => (r_iconst C dX12_in_13 (r_goto C (tgt := 18) dX12_in_14 rfl (r_zret C dX12_in_18 rfl ?_)))))))))))))
  · rw [e1] at c3
    refine ⟨bP_0 (fun z => ?_), rfl⟩
    split at c3
    · omega
    · split at c3 <;> omega
  · rw [e2] at c10
    refine ⟨bP_0 (fun z => ?_), rfl⟩
    split at c10
    · omega
    · split at c10 <;> omega
  · rw [e1] at c3
    rw [e2] at c10
    refine ⟨bP_1 ?_, rfl⟩
    split at c3
    · omega
    · split at c10
      · omega
      · split at c10 <;> omega
def mTxOk (μ : kMem) : Prop := (0 ≤ (μ.1 0 1).toInt ∧ (μ.1 0 1).toInt ≤ 500) ∧ ∀ i : Nat, -128 ≤ (μ.1 1 i).toInt ∧ (μ.1 1 i).toInt ≤ 127
def mbyte (x : Int32) (i : Nat) : Int32 := (kushr x (Int32.ofInt (24 - 8 * (i : Int)))).toInt8.toInt32
def mAdd (μ : kMem) (f : Nat → Int32) (j : Nat) (μ' : kMem) : Prop := ∀ a b : Nat, μ'.1 a b = if a = 0 ∧ b = 1 then Int32.ofInt ((μ.1 0 1).toInt + j) else if a = 1 ∧ (μ.1 0 1).toInt ≤ (b : Int) ∧ (b : Int) < (μ.1 0 1).toInt + j then f (b - (μ.1 0 1).toInt.toNat) else μ.1 a b
theorem mAdd_sz {μ μ' : kMem} {f : Nat → Int32} {j : Nat} (h0 : 0 ≤ (μ.1 0 1).toInt ∧ (μ.1 0 1).toInt + j ≤ 500) (h : mAdd μ f j μ') : (μ'.1 0 1).toInt = (μ.1 0 1).toInt + j := by
  rw [h 0 1, if_pos ⟨rfl, rfl⟩, ti_ofInt (by omega)]
theorem ok_X12_feeds {x : Int32} {μ : kMem} (h : 0 ≤ (μ.1 0 1).toInt ∧ (μ.1 0 1).toInt + 4 ≤ 500) : kOk yX12_feeds cX12_feeds 3 (none) rmX12_feeds shM 48 [.ref 0, .int x] μ (kN (mAdd μ (mbyte x) 4)) := by
  refine kOk.of rfl (Nat.le_of_ble_eq_true rfl) (fun J C => ?_)
  have C : kR cX12_feeds RX12 3 rmX12_feeds shM 48 (none) _ J := C
  have loop : ∀ (k j : Nat) (v : Int32) (μ' : kMem), j + k = 4 → v.toInt = 3 - (j : Int) → mAdd μ (mbyte x) j μ' → J 2 [some (.ref 0), some (.int x), some (.int v)] [] μ' := by
    intro k
    induction k using Nat.strongRecOn with
    | ind k ih =>
      intro j v μ' hk hv hI
      have e := mAdd_sz (by omega) hI
      have e8 : Int32.ofInt 8 * v = Int32.ofInt (24 - 8 * (j : Int)) := ti_ext (by rw [ti_cmul (by omega), ti_ofInt (by omega), hv]; omega)
      refine (r_iload_n C dX12_feeds_2 rfl rfl (r_if_lt C (tgt := 38) dX12_feeds_3 rfl (fun c3 => (r_ret C dX12_feeds_38 ?_)) (fun c3 => (r_aload_n C dX12_feeds_6 rfl rfl (r_getR C dX12_feeds_7 fd_X12_9 nM_0 sM_0 rfl (r_aload_n C dX12_feeds_10 rfl rfl (r_getI C dX12_feeds_11 fd_X12_147 nM_0 sM_0 rfl (r_iload_n C dX12_feeds_14 rfl rfl (r_bipush C dX12_feeds_15 (by decide +kernel) (r_iload_n C dX12_feeds_17 rfl rfl (r_imul C dX12_feeds_18 (r_iushr C dX12_feeds_19 (r_i2b C dX12_feeds_20 (r_bast C dX12_feeds_21 nM_1 sM_1 ?_ (r_aload_n C dX12_feeds_22 rfl rfl (r_dup C dX12_feeds_23 rfl (r_getI C dX12_feeds_24 fd_X12_147 nM_0 sM_0 rfl (r_iconst C dX12_feeds_27 (r_iadd C dX12_feeds_28 (r_putI C dX12_feeds_29 fw_X12_147 nM_0 sM_0 rfl (r_iinc C dX12_feeds_32 rfl (by decide) (r_goto C (tgt := 2) dX12_feeds_35 rfl ?_))))))))))))))))))))))
      · rw [show (4 : Nat) = j by omega]; exact hI
      · omega
      · have en : (μ'.1 0 1 + Int32.ofInt 1) = Int32.ofInt ((μ.1 0 1).toInt + ((j + 1 : Nat) : Int)) := ti_ext (by rw [ti_addc (by omega), ti_ofInt (by omega)]; omega)
        refine ih (k - 1) (by omega) (j + 1) _ _ (by omega) (by simp (disch := (first | omega | (simp (disch := omega) only [ti_ofInt, ti_addc, ti_subc, ti_mulc, ti_cmul, ti_divc, ti_remc, ti_zero, ti_add, ti_sub, ti_neg, if_lt_ti, if_gt_ti, bP_e0, Classical.not_not, tl_i2l]; omega))) only [ti_ofInt, ti_addc, ti_subc, ti_mulc, ti_cmul, ti_divc, ti_remc, ti_zero, ti_add, ti_sub, ti_neg, if_lt_ti, if_gt_ti, bP_e0, Classical.not_not, tl_i2l]; omega) ?_
        simp (disch := decide) only [up_same, up_neo, up_nek, up_2]
        rw [en, e8]
        intro a b
        have hab := hI a b
        simp only [up]
        by_cases h1 : a = 0 ∧ b = 1
        · rw [if_pos h1, if_pos h1]
        · rw [if_neg h1, if_neg h1]
          rw [if_neg h1] at hab
          by_cases h2 : a = 1 ∧ b = (μ'.1 0 1).toInt.toNat
          · rw [if_pos h2, if_pos (by omega)]
            unfold mbyte
            rw [show b - (μ.1 0 1).toInt.toNat = j by omega]
            simp
          · rw [if_neg h2, hab]
            by_cases h3 : a = 1 ∧ (μ.1 0 1).toInt ≤ (b : Int) ∧ (b : Int) < (μ.1 0 1).toInt + j
            · rw [if_pos h3, if_pos (by omega)]
            · rw [if_neg h3, if_neg (by omega)]
  refine (r_iconst C dX12_feeds_0 (r_istore_n C dX12_feeds_1 rfl (by decide) ?_))
  refine loop 4 0 _ _ rfl (by simp (disch := (first | omega | (simp (disch := omega) only [ti_ofInt, ti_addc, ti_subc, ti_mulc, ti_cmul, ti_divc, ti_remc, ti_zero, ti_add, ti_sub, ti_neg, if_lt_ti, if_gt_ti, bP_e0, Classical.not_not, tl_i2l]; omega))) only [ti_ofInt, ti_addc, ti_subc, ti_mulc, ti_cmul, ti_divc, ti_remc, ti_zero, ti_add, ti_sub, ti_neg, if_lt_ti, if_gt_ti, bP_e0, Classical.not_not, tl_i2l]; rfl) ?_
  intro a b
  by_cases h1 : a = 0 ∧ b = 1
  · obtain ⟨rfl, rfl⟩ := h1
    rw [if_pos ⟨rfl, rfl⟩]
    exact ti_ext (by rw [ti_ofInt (by omega)]; omega)
  · rw [if_neg h1, if_neg (by omega)]
theorem mAdd_go {μ μ1 μ2 : kMem} {f g : Nat → Int32} {j : Nat} (h0 : 0 ≤ (μ.1 0 1).toInt ∧ (μ.1 0 1).toInt + j ≤ 500) (h : mAdd μ f j μ1) (h2 : mAdd μ1 g 4 μ2) : mAdd μ (fun i => if i < j then f i else g (i - j)) (j + 4) μ2 := by
  have e := mAdd_sz h0 h
  intro a b
  have h3 := h2 a b
  rw [e] at h3
  have e2 : (((j + 4 : Nat)) : Int) = (j : Int) + ((4 : Nat) : Int) := by omega
  rw [h3, e2]
  by_cases c1 : a = 0 ∧ b = 1
  · rw [if_pos c1, if_pos c1, Int.add_assoc]
  · rw [if_neg c1, if_neg c1, h a b, if_neg c1]
    by_cases c2 : a = 1 ∧ (μ.1 0 1).toInt ≤ (b : Int) ∧ (b : Int) < (μ.1 0 1).toInt + j
    · rw [if_neg (by omega), if_pos c2, if_pos (by omega)]
      dsimp only
      rw [if_pos (by omega)]
    · rw [if_neg c2]
      by_cases c3 : a = 1 ∧ (μ.1 0 1).toInt + j ≤ (b : Int) ∧ (b : Int) < (μ.1 0 1).toInt + j + ((4 : Nat) : Int)
      · rw [if_pos c3, if_pos (by omega)]
        dsimp only
        rw [if_neg (by omega), show b - ((μ.1 0 1).toInt + (j : Int)).toNat = b - (μ.1 0 1).toInt.toNat - j by omega]
      · rw [if_neg c3, if_neg (by omega)]
def fbM (x1 x2 x3 x4 x5 : Int32) : Nat → Int32 := fun i => if i < 16 then (fun i => if i < 12 then (fun i => if i < 8 then (fun i => if i < 4 then mbyte x1 i else mbyte x2 (i - 4)) i else mbyte x3 (i - 8)) i else mbyte x4 (i - 12)) i else mbyte x5 (i - 16)
theorem ok_X12_feed {x1 x2 x3 x4 x5 : Int32} {μ : kMem} (h : 0 ≤ (μ.1 0 1).toInt ∧ (μ.1 0 1).toInt ≤ 500) : kOk yX12_feed cX12_feed 6 (some .int) rmX12_feed shM 48 [.ref 0, .int x1, .int x2, .int x3, .int x4, .int x5] μ (kI fun r μ' => ((μ.1 0 1).toInt + 20 ≤ 500 ∧ r = Int32.ofInt ((μ.1 0 1).toInt + 20) ∧ mAdd μ (fbM x1 x2 x3 x4 x5) 20 μ') ∨ (¬ (μ.1 0 1).toInt + 20 ≤ 500 ∧ r = Int32.ofInt (-1) ∧ μ' = μ)) := by
  have e20 : (μ.1 0 1 + Int32.ofInt 20).toInt = (μ.1 0 1).toInt + 20 := ti_addc (by omega)
  have m5 : (Int32.ofInt 500).toInt = 500 := by decide
  refine kOk.of rfl (Nat.le_of_ble_eq_true rfl) (fun J C => ?_)
  have C : kR cX12_feed RX12 6 rmX12_feed shM 48 (some .int) _ J := C
  refine (r_aload_n C dX12_feed_0 rfl rfl (r_getI C dX12_feed_1 fd_X12_147 nM_0 sM_0 rfl (r_bipush C dX12_feed_4 (by decide +kernel) (r_iadd C dX12_feed_6 (r_sipush C dX12_feed_7 (by decide +kernel) (r_icmp_le C (tgt := 15) dX12_feed_10 rfl (fun c10 => (r_aload_n C dX12_feed_15 rfl rfl (r_iload_n C dX12_feed_16 rfl rfl (r_v1N C yv_X12_feeds lk_X12_151 dX12_feed_17 rfl nM_0 sM_0 rfl (Nat.le_of_ble_eq_true rfl) (ok_X12_feeds ?_) (fun μ17 h17 => (r_aload_n C dX12_feed_20 rfl rfl (r_iload_n C dX12_feed_21 rfl rfl (r_v1N C yv_X12_feeds lk_X12_151 dX12_feed_22 rfl nM_0 sM_0 rfl (Nat.le_of_ble_eq_true rfl) (ok_X12_feeds ?_) (fun μ22 h22 => (r_aload_n C dX12_feed_25 rfl rfl (r_iload_n C dX12_feed_26 rfl rfl (r_v1N C yv_X12_feeds lk_X12_151 dX12_feed_27 rfl nM_0 sM_0 rfl (Nat.le_of_ble_eq_true rfl) (ok_X12_feeds ?_) (fun μ27 h27 => (r_aload_n C dX12_feed_30 rfl rfl (r_iload C dX12_feed_31 rfl (r_v1N C yv_X12_feeds lk_X12_151 dX12_feed_33 rfl nM_0 sM_0 rfl (Nat.le_of_ble_eq_true rfl) (ok_X12_feeds ?_) (fun μ33 h33 => (r_aload_n C dX12_feed_36 rfl rfl (r_iload C dX12_feed_37 rfl (r_v1N C yv_X12_feeds lk_X12_151 dX12_feed_39 rfl nM_0 sM_0 rfl (Nat.le_of_ble_eq_true rfl) (ok_X12_feeds ?_) (fun μ39 h39 => (r_aload_n C dX12_feed_42 rfl rfl (r_getI C dX12_feed_43 fd_X12_147 nM_0 sM_0 rfl (r_iret C dX12_feed_46 ?_)))))))))))))))))))))))) (fun c10 => (r_iconst C dX12_feed_13 (r_iret C dX12_feed_14 ?_)))))))))
  · rw [e20, m5] at c10
    omega
  · rw [e20, m5] at c10
    have e1 := mAdd_sz (by omega) h17
    omega
  · rw [e20, m5] at c10
    have q2 := mAdd_go (by omega) h17 h22
    have e2 := mAdd_sz (by omega) q2
    omega
  · rw [e20, m5] at c10
    have q2 := mAdd_go (by omega) h17 h22
    have q3 := mAdd_go (by omega) q2 h27
    have e3 := mAdd_sz (by omega) q3
    omega
  · rw [e20, m5] at c10
    have q2 := mAdd_go (by omega) h17 h22
    have q3 := mAdd_go (by omega) q2 h27
    have q4 := mAdd_go (by omega) q3 h33
    have e4 := mAdd_sz (by omega) q4
    omega
  · rw [e20, m5] at c10
    have q2 := mAdd_go (by omega) h17 h22
    have q3 := mAdd_go (by omega) q2 h27
    have q4 := mAdd_go (by omega) q3 h33
    have q5 := mAdd_go (by omega) q4 h39
    exact Or.inl ⟨c10, by rw [q5 0 1, if_pos ⟨rfl, rfl⟩]; rfl, q5⟩
  · rw [e20, m5] at c10
    exact Or.inr ⟨by omega, rfl, rfl⟩
theorem ok_X12_end {x : Int32} {μ : kMem} : kOk yX12_end cX12_end 2 (some .boolean) rmX12_end shM 48 [.ref 0, .int x] μ (kI fun r μ' => (0 ≤ x.toInt ∧ x.toInt ≤ (μ.1 0 1).toInt ∧ r = Int32.ofInt 1 ∧ μ' = up μ 0 1 x) ∨ (¬ (0 ≤ x.toInt ∧ x.toInt ≤ (μ.1 0 1).toInt) ∧ r = Int32.ofInt 0 ∧ μ' = μ)) := by
  refine kOk.of rfl (Nat.le_of_ble_eq_true rfl) (fun J C => ?_)
  have C : kR cX12_end RX12 2 rmX12_end shM 48 (some .boolean) _ J := C
  refine (r_iload_n C dX12_end_0 rfl rfl (r_i2l C dX12_end_1 (r_lconst C dX12_end_2 rfl (r_aload_n C dX12_end_3 rfl rfl (r_getI C dX12_end_4 fd_X12_147 nM_0 sM_0 rfl (r_i2l C dX12_end_7 (r_s3P C ys_X12_in lk_X12_155 dX12_end_8 rfl (Nat.le_of_ble_eq_true rfl) ok_X12_in (r_if_ne C (tgt := 16) dX12_end_11 rfl (fun c11 => (r_aload_n C dX12_end_16 rfl rfl (r_iload_n C dX12_end_17 rfl rfl (r_putI C dX12_end_18 fw_X12_147 nM_0 sM_0 rfl (r_iconst C dX12_end_21 (r_zret C dX12_end_22 rfl ?_)))))) (fun c11 => (r_iconst C dX12_end_14 (r_zret C dX12_end_15 rfl ?_)))))))))))
  · have c := bP_ne c11
    simp only [tl_i2l, ll_c0, ll_c1, ll_m1, ll_32, ll_97, ll_25, ll_255255, ll_5, ll_99, ll_20, ll_9, ll_999, ll_1000000, ll_17575, ll_3, ll_200, ll_60, ll_2, ll_5000, ll_m60, ll_m99] at c
    exact Or.inl ⟨c.1, c.2, rfl, rfl⟩
  · have c := bP_e0.mp c11
    simp only [tl_i2l, ll_c0, ll_c1, ll_m1, ll_32, ll_97, ll_25, ll_255255, ll_5, ll_99, ll_20, ll_9, ll_999, ll_1000000, ll_17575, ll_3, ll_200, ll_60, ll_2, ll_5000, ll_m60, ll_m99] at c
    exact Or.inr ⟨c, rfl, rfl⟩
theorem ok_X12_between {k lo hi : Int32} {μ : kMem} (h : mTxOk μ ∧ 0 ≤ k.toInt) : kOk yX12_between cX12_between 4 (some .boolean) rmX12_between shM 48 [.ref 0, .int k, .int lo, .int hi] μ (kP (bP (k.toInt < (μ.1 0 1).toInt ∧ lo.toInt ≤ (μ.1 1 k.toInt.toNat).toInt ∧ (μ.1 1 k.toInt.toNat).toInt ≤ hi.toInt)) μ) := by
  have h0 := h.1.1
  refine kOk.of rfl (Nat.le_of_ble_eq_true rfl) (fun J C => ?_)
  have C : kR cX12_between RX12 4 rmX12_between shM 48 (some .boolean) _ J := C
  refine (r_iload_n C dX12_between_0 rfl rfl (r_aload_n C dX12_between_1 rfl rfl (r_getI C dX12_between_2 fd_X12_147 nM_0 sM_0 rfl (r_icmp_ge C (tgt := 32) dX12_between_5 rfl (fun c5 => (r_iconst C dX12_between_32 (r_zret C dX12_between_33 rfl ?_))) (fun c5 => (r_aload_n C dX12_between_8 rfl rfl (r_getR C dX12_between_9 fd_X12_9 nM_0 sM_0 rfl (r_iload_n C dX12_between_12 rfl rfl (r_bald C dX12_between_13 nM_1 sM_1 ?_ (r_iload_n C dX12_between_14 rfl rfl (r_icmp_lt C (tgt := 32) dX12_between_15 rfl (fun c15 => (r_iconst C dX12_between_32 (r_zret C dX12_between_33 rfl ?_))) (fun c15 => (r_aload_n C dX12_between_18 rfl rfl (r_getR C dX12_between_19 fd_X12_9 nM_0 sM_0 rfl (r_iload_n C dX12_between_22 rfl rfl (r_bald C dX12_between_23 nM_1 sM_1 ?_ (r_iload_n C dX12_between_24 rfl rfl (r_icmp_gt C (tgt := 32) dX12_between_25 rfl (fun c25 => (r_iconst C dX12_between_32 (r_zret C dX12_between_33 rfl ?_))) (fun c25 => (r_iconst C dX12_between_28 (r_goto C (tgt := 33) dX12_between_29 rfl (r_zret C dX12_between_33 rfl ?_))))))))))))))))))))))
  · exact ⟨bP_0 (by omega), rfl⟩
  · omega
  · exact ⟨bP_0 (by omega), rfl⟩
  · omega
  · exact ⟨bP_0 (by omega), rfl⟩
  · exact ⟨bP_1 (by omega), rfl⟩
theorem ok_X12_isStation {x : Int32} {μ : kMem} : kOk yX12_isStation cX12_isStation 1 (some .boolean) rmX12_isStation shM 48 [.int x] μ (kP (bP (0 ≤ x.toInt ∧ x.toInt < 6)) μ) := by
  refine kOk.of rfl (Nat.le_of_ble_eq_true rfl) (fun J C => ?_)
  have C : kR cX12_isStation RX12 1 rmX12_isStation shM 48 (some .boolean) _ J := C
  refine (r_iload_n C dX12_isStation_0 rfl rfl (r_i2l C dX12_isStation_1 (r_lconst C dX12_isStation_2 rfl (r_ldc2 C dX12_isStation_3 kc_X12_234 (r_s3P C ys_X12_in lk_X12_155 dX12_isStation_6 rfl (Nat.le_of_ble_eq_true rfl) ok_X12_in (r_zret C dX12_isStation_9 ?_ ?_))))))
  · exact bP_nz _
  · refine ⟨bP_iff ?_, rfl⟩
    simp only [tl_i2l, ll_c0, ll_c1, ll_m1, ll_32, ll_97, ll_25, ll_255255, ll_5, ll_99, ll_20, ll_9, ll_999, ll_1000000, ll_17575, ll_3, ll_200, ll_60, ll_2, ll_5000, ll_m60, ll_m99]
    omega
def mHdOk (μ : kMem) : Prop := (0 ≤ (μ.1 0 18).toInt ∧ (μ.1 0 18).toInt ≤ 8) ∧ ∀ i : Nat, 0 ≤ (μ.1 14 i).toInt ∧ (μ.1 14 i).toInt ≤ (μ.1 15 i).toInt ∧ (μ.1 15 i).toInt ≤ 255
def mLnOk (μ : kMem) : Prop := (0 ≤ (μ.1 0 19).toInt ∧ (μ.1 0 19).toInt ≤ 8) ∧ (0 ≤ (μ.1 0 20).toInt ∧ (μ.1 0 20).toInt ≤ 9) ∧ ∀ i : Nat, (0 ≤ (μ.1 18 i).toInt ∧ (μ.1 18 i).toInt ≤ 99) ∧ (0 ≤ (μ.1 19 i).toInt ∧ (μ.1 19 i).toInt ≤ 20) ∧ (0 ≤ (μ.1 16 i).toInt ∧ (μ.1 16 i).toInt ≤ 5) ∧ (0 ≤ (μ.1 17 i).toInt ∧ (μ.1 17 i).toInt ≤ 5)
theorem ok_X12_isLine {x : Int32} {μ : kMem} (h : 0 ≤ (μ.1 0 19).toInt) : kOk yX12_isLine cX12_isLine 2 (some .boolean) rmX12_isLine shM 48 [.ref 0, .int x] μ (kP (bP (0 ≤ x.toInt ∧ x.toInt < (μ.1 0 19).toInt)) μ) := by
  have e : (μ.1 0 19 - Int32.ofInt 1).toInt = (μ.1 0 19).toInt - 1 := by have := ti_hi (μ.1 0 19); rw [ti_subc (by omega)]
  refine kOk.of rfl (Nat.le_of_ble_eq_true rfl) (fun J C => ?_)
  have C : kR cX12_isLine RX12 2 rmX12_isLine shM 48 (some .boolean) _ J := C
  refine (r_iload_n C dX12_isLine_0 rfl rfl (r_i2l C dX12_isLine_1 (r_lconst C dX12_isLine_2 rfl (r_aload_n C dX12_isLine_3 rfl rfl (r_getI C dX12_isLine_4 fd_X12_243 nM_0 sM_0 rfl (r_iconst C dX12_isLine_7 (r_isub C dX12_isLine_8 (r_i2l C dX12_isLine_9 (r_s3P C ys_X12_in lk_X12_155 dX12_isLine_10 rfl (Nat.le_of_ble_eq_true rfl) ok_X12_in (r_zret C dX12_isLine_13 ?_ ?_))))))))))
  · exact bP_nz _
  · refine ⟨bP_iff ?_, rfl⟩
    simp only [tl_i2l, ll_c0, ll_c1, ll_m1, ll_32, ll_97, ll_25, ll_255255, ll_5, ll_99, ll_20, ll_9, ll_999, ll_1000000, ll_17575, ll_3, ll_200, ll_60, ll_2, ll_5000, ll_m60, ll_m99]
    rw [e]
    omega
theorem ok_X12_isHand {x : Int32} {μ : kMem} (h : 0 ≤ (μ.1 0 18).toInt) : kOk yX12_isHand cX12_isHand 2 (some .boolean) rmX12_isHand shM 48 [.ref 0, .int x] μ (kP (bP (0 ≤ x.toInt ∧ x.toInt < (μ.1 0 18).toInt)) μ) := by
  have e : (μ.1 0 18 - Int32.ofInt 1).toInt = (μ.1 0 18).toInt - 1 := by have := ti_hi (μ.1 0 18); rw [ti_subc (by omega)]
  refine kOk.of rfl (Nat.le_of_ble_eq_true rfl) (fun J C => ?_)
  have C : kR cX12_isHand RX12 2 rmX12_isHand shM 48 (some .boolean) _ J := C
  refine (r_iload_n C dX12_isHand_0 rfl rfl (r_i2l C dX12_isHand_1 (r_lconst C dX12_isHand_2 rfl (r_aload_n C dX12_isHand_3 rfl rfl (r_getI C dX12_isHand_4 fd_X12_224 nM_0 sM_0 rfl (r_iconst C dX12_isHand_7 (r_isub C dX12_isHand_8 (r_i2l C dX12_isHand_9 (r_s3P C ys_X12_in lk_X12_155 dX12_isHand_10 rfl (Nat.le_of_ble_eq_true rfl) ok_X12_in (r_zret C dX12_isHand_13 ?_ ?_))))))))))
  · exact bP_nz _
  · refine ⟨bP_iff ?_, rfl⟩
    simp only [tl_i2l, ll_c0, ll_c1, ll_m1, ll_32, ll_97, ll_25, ll_255255, ll_5, ll_99, ll_20, ll_9, ll_999, ll_1000000, ll_17575, ll_3, ll_200, ll_60, ll_2, ll_5000, ll_m60, ll_m99]
    rw [e]
    omega
theorem ok_X12_isEvent {x : Int32} {μ : kMem} (h : 0 ≤ (μ.1 0 54).toInt) : kOk yX12_isEvent cX12_isEvent 2 (some .boolean) rmX12_isEvent shM 48 [.ref 0, .int x] μ (kP (bP (0 ≤ x.toInt ∧ x.toInt < (μ.1 0 54).toInt)) μ) := by
  have e : (μ.1 0 54 - Int32.ofInt 1).toInt = (μ.1 0 54).toInt - 1 := by have := ti_hi (μ.1 0 54); rw [ti_subc (by omega)]
  refine kOk.of rfl (Nat.le_of_ble_eq_true rfl) (fun J C => ?_)
  have C : kR cX12_isEvent RX12 2 rmX12_isEvent shM 48 (some .boolean) _ J := C
  refine (r_iload_n C dX12_isEvent_0 rfl rfl (r_i2l C dX12_isEvent_1 (r_lconst C dX12_isEvent_2 rfl (r_aload_n C dX12_isEvent_3 rfl rfl (r_getI C dX12_isEvent_4 fd_X12_381 nM_0 sM_0 rfl (r_iconst C dX12_isEvent_7 (r_isub C dX12_isEvent_8 (r_i2l C dX12_isEvent_9 (r_s3P C ys_X12_in lk_X12_155 dX12_isEvent_10 rfl (Nat.le_of_ble_eq_true rfl) ok_X12_in (r_zret C dX12_isEvent_13 ?_ ?_))))))))))
  · exact bP_nz _
  · refine ⟨bP_iff ?_, rfl⟩
    simp only [tl_i2l, ll_c0, ll_c1, ll_m1, ll_32, ll_97, ll_25, ll_255255, ll_5, ll_99, ll_20, ll_9, ll_999, ll_1000000, ll_17575, ll_3, ll_200, ll_60, ll_2, ll_5000, ll_m60, ll_m99]
    rw [e]
    omega
def mbi (μ : kMem) (x : Int) : Int := (μ.1 18 x.toNat).toInt + (μ.1 19 x.toNat).toInt * (μ.1 0 20).toInt
theorem mbi_b {μ : kMem} (h : mLnOk μ) (x : Int) : 0 ≤ mbi μ x ∧ mbi μ x ≤ 279 := by
  have h1 := h.2.2 x.toNat
  have := kmul_b h1.2.1 h.2.1
  unfold mbi
  omega
theorem ok_X12_biteOf {x : Int32} {μ : kMem} (h : mLnOk μ ∧ 0 ≤ x.toInt ∧ x.toInt < 8) : kOk yX12_biteOf cX12_biteOf 2 (some .int) rmX12_biteOf shM 48 [.ref 0, .int x] μ (kP (Int32.ofInt (mbi μ x.toInt)) μ) := by
  have hb := mbi_b h.1 x.toInt
  have h1 := h.1.2.2 x.toInt.toNat
  have h2 := kmul_b h1.2.1 h.1.2.1
  have em : (μ.1 19 x.toInt.toNat * μ.1 0 20).toInt = (μ.1 19 x.toInt.toNat).toInt * (μ.1 0 20).toInt := ti_mul (by omega)
  refine kOk.of rfl (Nat.le_of_ble_eq_true rfl) (fun J C => ?_)
  have C : kR cX12_biteOf RX12 2 rmX12_biteOf shM 48 (some .int) _ J := C
  refine (r_aload_n C dX12_biteOf_0 rfl rfl (r_getR C dX12_biteOf_1 fd_X12_57 nM_0 sM_0 rfl (r_iload_n C dX12_biteOf_4 rfl rfl (r_iald C dX12_biteOf_5 nM_18 sM_18 ?_ (r_aload_n C dX12_biteOf_6 rfl rfl (r_getR C dX12_biteOf_7 fd_X12_60 nM_0 sM_0 rfl (r_iload_n C dX12_biteOf_10 rfl rfl (r_iald C dX12_biteOf_11 nM_19 sM_19 ?_ (r_aload_n C dX12_biteOf_12 rfl rfl (r_getI C dX12_biteOf_13 fd_X12_248 nM_0 sM_0 rfl (r_imul C dX12_biteOf_16 (r_iadd C dX12_biteOf_17 (r_iret C dX12_biteOf_18 ?_)))))))))))))
  · omega
  · omega
  · refine ⟨ti_ext ?_, rfl⟩
    rw [ti_add (by rw [em]; omega), em, ti_ofInt (by omega)]
    rfl
theorem ok_X12_bite {x : Int32} {μ : kMem} (h : mLnOk μ) : kOk yX12_bite cX12_bite 2 (some .int) rmX12_bite shM 48 [.ref 0, .int x] μ (kP (if 0 ≤ x.toInt ∧ x.toInt < (μ.1 0 19).toInt then Int32.ofInt (mbi μ x.toInt) else Int32.ofInt (-1)) μ) := by
  have h0 := h.1
  refine kOk.of rfl (Nat.le_of_ble_eq_true rfl) (fun J C => ?_)
  have C : kR cX12_bite RX12 2 rmX12_bite shM 48 (some .int) _ J := C
  refine (r_aload_n C dX12_bite_0 rfl rfl (r_iload_n C dX12_bite_1 rfl rfl (r_v1P C yv_X12_isLine lk_X12_251 dX12_bite_2 rfl nM_0 sM_0 rfl (Nat.le_of_ble_eq_true rfl) (ok_X12_isLine ?_) (r_if_eq C (tgt := 16) dX12_bite_5 rfl (fun c5 => (r_iconst C dX12_bite_16 (r_iret C dX12_bite_17 ?_))) (fun c5 => (r_aload_n C dX12_bite_8 rfl rfl (r_iload_n C dX12_bite_9 rfl rfl (r_v1P C yv_X12_biteOf lk_X12_254 dX12_bite_10 rfl nM_0 sM_0 rfl (Nat.le_of_ble_eq_true rfl) (ok_X12_biteOf ?_) (r_goto C (tgt := 17) dX12_bite_13 rfl (r_iret C dX12_bite_17 ?_))))))))))
  · exact h0.1
  · exact ⟨(if_neg (bP_e0.mp c5)).symm, rfl⟩
  · have := bP_ne c5
    exact ⟨h, by omega, by omega⟩
  · exact ⟨(if_pos (bP_ne c5)).symm, rfl⟩
theorem ok_X12_isSpan {x : Int32} {μ : kMem} : kOk yX12_isSpan cX12_isSpan 1 (some .boolean) rmX12_isSpan shM 48 [.int x] μ (kP (bP (isSp x.toInt)) μ) := by
  have e1 : 0 ≤ x.toInt → (x / Int32.ofInt 1000).toInt = x.toInt / 1000 := fun q => ti_divc (by omega)
  have e2 : 0 ≤ x.toInt → (krem x (Int32.ofInt 1000)).toInt = x.toInt % 1000 := fun q => ti_remc (by omega)
  have m1 : (Int32.ofInt 1).toInt = 1 := by decide
  have m255 : (Int32.ofInt 255).toInt = 255 := by decide
  refine kOk.of rfl (Nat.le_of_ble_eq_true rfl) (fun J C => ?_)
  have C : kR cX12_isSpan RX12 1 rmX12_isSpan shM 48 (some .boolean) _ J := C
  refine (r_iload_n C dX12_isSpan_0 rfl rfl (r_i2l C dX12_isSpan_1 (r_lconst C dX12_isSpan_2 rfl (r_ldc2 C dX12_isSpan_3 kc_X12_222 (r_s3P C ys_X12_in lk_X12_155 dX12_isSpan_6 rfl (Nat.le_of_ble_eq_true rfl) ok_X12_in (r_if_eq C (tgt := 49) dX12_isSpan_9 rfl (fun c9 => (r_iconst C dX12_isSpan_49 (r_zret C dX12_isSpan_50 rfl ?_))) (fun c9 => (r_iload_n C dX12_isSpan_12 rfl rfl (r_sipush C dX12_isSpan_13 (by decide +kernel) (r_idiv C dX12_isSpan_16 (by decide) (r_iconst C dX12_isSpan_17 (r_icmp_lt C (tgt := 49) dX12_isSpan_18 rfl (fun c18 => (r_iconst C dX12_isSpan_49 (r_zret C dX12_isSpan_50 rfl ?_))) (fun c18 => (r_iload_n C dX12_isSpan_21 rfl rfl (r_sipush C dX12_isSpan_22 (by decide +kernel) (r_irem C dX12_isSpan_25 (by decide) (r_sipush C dX12_isSpan_26 (by decide +kernel) (r_icmp_gt C (tgt := 49) dX12_isSpan_29 rfl (fun c29 => (r_iconst C dX12_isSpan_49 (r_zret C dX12_isSpan_50 rfl ?_))) (fun c29 => (r_iload_n C dX12_isSpan_32 rfl rfl (r_sipush C dX12_isSpan_33 (by decide +kernel) (r_irem C dX12_isSpan_36 (by decide) (r_iload_n C dX12_isSpan_37 rfl rfl (r_sipush C dX12_isSpan_38 (by decide +kernel) (r_idiv C dX12_isSpan_41 (by decide) (r_icmp_lt C (tgt := 49) dX12_isSpan_42 rfl (fun c42 => (r_iconst C dX12_isSpan_49 (r_zret C dX12_isSpan_50 rfl ?_))) (fun c42 => (r_iconst C dX12_isSpan_45 (r_goto C (tgt := 50) dX12_isSpan_46 rfl (r_zret C dX12_isSpan_50 rfl ?_))))))))))))))))))))))))))))))
  · have c := bP_e0.mp c9
    simp only [tl_i2l, ll_c0, ll_c1, ll_m1, ll_32, ll_97, ll_25, ll_255255, ll_5, ll_99, ll_20, ll_9, ll_999, ll_1000000, ll_17575, ll_3, ll_200, ll_60, ll_2, ll_5000, ll_m60, ll_m99] at c
    refine ⟨bP_0 (fun z => ?_), rfl⟩
    unfold isSp at z
    omega
  · have c := bP_ne c9
    simp only [tl_i2l, ll_c0, ll_c1, ll_m1, ll_32, ll_97, ll_25, ll_255255, ll_5, ll_99, ll_20, ll_9, ll_999, ll_1000000, ll_17575, ll_3, ll_200, ll_60, ll_2, ll_5000, ll_m60, ll_m99] at c
    rw [e1 c.1, m1] at c18
    refine ⟨bP_0 (fun z => ?_), rfl⟩
    unfold isSp at z
    omega
  · have c := bP_ne c9
    simp only [tl_i2l, ll_c0, ll_c1, ll_m1, ll_32, ll_97, ll_25, ll_255255, ll_5, ll_99, ll_20, ll_9, ll_999, ll_1000000, ll_17575, ll_3, ll_200, ll_60, ll_2, ll_5000, ll_m60, ll_m99] at c
    rw [e2 c.1, m255] at c29
    refine ⟨bP_0 (fun z => ?_), rfl⟩
    unfold isSp at z
    omega
  · have c := bP_ne c9
    simp only [tl_i2l, ll_c0, ll_c1, ll_m1, ll_32, ll_97, ll_25, ll_255255, ll_5, ll_99, ll_20, ll_9, ll_999, ll_1000000, ll_17575, ll_3, ll_200, ll_60, ll_2, ll_5000, ll_m60, ll_m99] at c
    rw [e1 c.1, e2 c.1] at c42
    refine ⟨bP_0 (fun z => ?_), rfl⟩
    unfold isSp at z
    omega
  · have c := bP_ne c9
    simp only [tl_i2l, ll_c0, ll_c1, ll_m1, ll_32, ll_97, ll_25, ll_255255, ll_5, ll_99, ll_20, ll_9, ll_999, ll_1000000, ll_17575, ll_3, ll_200, ll_60, ll_2, ll_5000, ll_m60, ll_m99] at c
    rw [e1 c.1, m1] at c18
    rw [e2 c.1, m255] at c29
    rw [e1 c.1, e2 c.1] at c42
    refine ⟨bP_1 ?_, rfl⟩
    unfold isSp
    omega
theorem ok_X12_span {k v : Int32} {μ : kMem} (h : (0 ≤ (μ.1 0 18).toInt ∧ (μ.1 0 18).toInt < 8) ∧ 0 ≤ k.toInt ∧ k.toInt < 5) : kOk yX12_span cX12_span 3 (none) rmX12_span shM 48 [.ref 0, .int k, .int v] μ (kN fun μ' => μ' = up (up μ 14 ((μ.1 0 18).toInt.toNat * 5 + k.toInt.toNat) (v / Int32.ofInt 1000)) 15 ((μ.1 0 18).toInt.toNat * 5 + k.toInt.toNat) (krem v (Int32.ofInt 1000))) := by
  have e5 : (Int32.ofInt 5 * μ.1 0 18).toInt = 5 * (μ.1 0 18).toInt := ti_cmul (by omega)
  have e : (Int32.ofInt 5 * μ.1 0 18 + k).toInt = 5 * (μ.1 0 18).toInt + k.toInt := by rw [ti_add (by omega), e5]
  have en : (Int32.ofInt 5 * μ.1 0 18 + k).toInt.toNat = (μ.1 0 18).toInt.toNat * 5 + k.toInt.toNat := by omega
  refine kOk.of rfl (Nat.le_of_ble_eq_true rfl) (fun J C => ?_)
  have C : kR cX12_span RX12 3 rmX12_span shM 48 (none) _ J := C
  refine (r_aload_n C dX12_span_0 rfl rfl (r_getR C dX12_span_1 fd_X12_45 nM_0 sM_0 rfl (r_iconst C dX12_span_4 (r_aload_n C dX12_span_5 rfl rfl (r_getI C dX12_span_6 fd_X12_224 nM_0 sM_0 rfl (r_imul C dX12_span_9 (r_iload_n C dX12_span_10 rfl rfl (r_iadd C dX12_span_11 (r_iload_n C dX12_span_12 rfl rfl (r_sipush C dX12_span_13 (by decide +kernel) (r_idiv C dX12_span_16 (by decide) (r_iast C dX12_span_17 nM_14 sM_14 ?_ (r_aload_n C dX12_span_18 rfl rfl (r_getR C dX12_span_19 fd_X12_48 nM_0 sM_0 rfl (r_iconst C dX12_span_22 (r_aload_n C dX12_span_23 rfl rfl (r_getI C dX12_span_24 fd_X12_224 nM_0 sM_0 rfl (r_imul C dX12_span_27 (r_iload_n C dX12_span_28 rfl rfl (r_iadd C dX12_span_29 (r_iload_n C dX12_span_30 rfl rfl (r_sipush C dX12_span_31 (by decide +kernel) (r_irem C dX12_span_34 (by decide) (r_iast C dX12_span_35 nM_15 sM_15 ?_ (r_ret C dX12_span_36 ?_)))))))))))))))))))))))))
  · omega
  · simp (disch := decide) only [up_same, up_neo, up_nek, up_2]
    omega
  · simp (disch := decide) only [up_same, up_neo, up_nek, up_2]
    rw [en]
def mAddH (μ : kMem) (v : Nat → Int32) (μ' : kMem) : Prop := ∀ a b : Nat, μ'.1 a b = if a = 0 ∧ b = 18 then Int32.ofInt ((μ.1 0 18).toInt + 1) else if a = 14 ∧ (μ.1 0 18).toInt.toNat * 5 ≤ b ∧ b < (μ.1 0 18).toInt.toNat * 5 + 5 then v (b - (μ.1 0 18).toInt.toNat * 5) / Int32.ofInt 1000 else if a = 15 ∧ (μ.1 0 18).toInt.toNat * 5 ≤ b ∧ b < (μ.1 0 18).toInt.toNat * 5 + 5 then krem (v (b - (μ.1 0 18).toInt.toNat * 5)) (Int32.ofInt 1000) else μ.1 a b
def mSp (μ : kMem) (n : Nat) (v : Nat → Int32) (j : Nat) (μ' : kMem) : Prop := ∀ a b : Nat, μ'.1 a b = if a = 14 ∧ n * 5 ≤ b ∧ b < n * 5 + j then v (b - n * 5) / Int32.ofInt 1000 else if a = 15 ∧ n * 5 ≤ b ∧ b < n * 5 + j then krem (v (b - n * 5)) (Int32.ofInt 1000) else μ.1 a b
theorem mSp_go {μ μ1 μ2 : kMem} {n j : Nat} {v : Nat → Int32} {x : Int32} (h : mSp μ n v j μ1) (hx : v j = x) (h2 : μ2 = up (up μ1 14 (n * 5 + j) (x / Int32.ofInt 1000)) 15 (n * 5 + j) (krem x (Int32.ofInt 1000))) : mSp μ n v (j + 1) μ2 := by
  intro a b
  rw [h2]
  by_cases c1 : b = n * 5 + j
  · subst c1
    by_cases c2 : a = 15
    · subst c2
      rw [up_same, if_neg (by omega), if_pos (by omega), Nat.add_sub_cancel_left, hx]
    · rw [up_neo _ _ c2]
      by_cases c3 : a = 14
      · subst c3
        rw [up_same, if_pos (by omega), Nat.add_sub_cancel_left, hx]
      · rw [up_neo _ _ c3, h a _, if_neg (by omega), if_neg (by omega), if_neg (by omega), if_neg (by omega)]
  · rw [up_nek _ _ c1, up_nek _ _ c1, h a b]
    by_cases c3 : a = 14 ∧ n * 5 ≤ b ∧ b < n * 5 + j
    · rw [if_pos c3, if_pos (by omega)]
    · rw [if_neg c3]
      by_cases c4 : a = 15 ∧ n * 5 ≤ b ∧ b < n * 5 + j
      · rw [if_pos c4, if_neg (by omega), if_pos (by omega)]
      · rw [if_neg c4, if_neg (by omega), if_neg (by omega)]
theorem ok_X12_hand {x1 x2 x3 x4 x5 : Int32} {μ : kMem} (h : 0 ≤ (μ.1 0 18).toInt ∧ (μ.1 0 18).toInt ≤ 8) : kOk yX12_hand cX12_hand 6 (some .int) rmX12_hand shM 48 [.ref 0, .int x1, .int x2, .int x3, .int x4, .int x5] μ (kI fun r μ' => ((isSp x1.toInt ∧ isSp x2.toInt ∧ isSp x3.toInt ∧ isSp x4.toInt ∧ isSp x5.toInt) ∧ (μ.1 0 18).toInt < 8 ∧ r = μ.1 0 18 ∧ mAddH μ (k5 x1 x2 x3 x4 x5) μ') ∨ (¬ ((isSp x1.toInt ∧ isSp x2.toInt ∧ isSp x3.toInt ∧ isSp x4.toInt ∧ isSp x5.toInt) ∧ (μ.1 0 18).toInt < 8) ∧ r = Int32.ofInt (-1) ∧ μ' = μ)) := by
  have m8 : (Int32.ofInt 8).toInt = 8 := by decide
  have n0 : (Int32.ofInt 0).toInt.toNat = 0 := by decide
  have n1 : (Int32.ofInt 1).toInt.toNat = 1 := by decide
  have n2 : (Int32.ofInt 2).toInt.toNat = 2 := by decide
  have n3 : (Int32.ofInt 3).toInt.toNat = 3 := by decide
  have n4 : (Int32.ofInt 4).toInt.toNat = 4 := by decide
  refine kOk.of rfl (Nat.le_of_ble_eq_true rfl) (fun J C => ?_)
  have C : kR cX12_hand RX12 6 rmX12_hand shM 48 (some .int) _ J := C
  refine (r_iload_n C dX12_hand_0 rfl rfl (r_s1P C ys_X12_isSpan lk_X12_227 dX12_hand_1 rfl (Nat.le_of_ble_eq_true rfl) ok_X12_isSpan (r_if_eq C (tgt := 46) dX12_hand_4 rfl (fun c4 => (r_iconst C dX12_hand_46 (r_iret C dX12_hand_47 ?_))) (fun c4 => (r_iload_n C dX12_hand_7 rfl rfl (r_s1P C ys_X12_isSpan lk_X12_227 dX12_hand_8 rfl (Nat.le_of_ble_eq_true rfl) ok_X12_isSpan (r_if_eq C (tgt := 46) dX12_hand_11 rfl (fun c11 => (r_iconst C dX12_hand_46 (r_iret C dX12_hand_47 ?_))) (fun c11 => (r_iload_n C dX12_hand_14 rfl rfl (r_s1P C ys_X12_isSpan lk_X12_227 dX12_hand_15 rfl (Nat.le_of_ble_eq_true rfl) ok_X12_isSpan (r_if_eq C (tgt := 46) dX12_hand_18 rfl (fun c18 => (r_iconst C dX12_hand_46 (r_iret C dX12_hand_47 ?_))) (fun c18 => (r_iload C dX12_hand_21 rfl (r_s1P C ys_X12_isSpan lk_X12_227 dX12_hand_23 rfl (Nat.le_of_ble_eq_true rfl) ok_X12_isSpan (r_if_eq C (tgt := 46) dX12_hand_26 rfl (fun c26 => (r_iconst C dX12_hand_46 (r_iret C dX12_hand_47 ?_))) (fun c26 => (r_iload C dX12_hand_29 rfl (r_s1P C ys_X12_isSpan lk_X12_227 dX12_hand_31 rfl (Nat.le_of_ble_eq_true rfl) ok_X12_isSpan (r_if_eq C (tgt := 46) dX12_hand_34 rfl (fun c34 => (r_iconst C dX12_hand_46 (r_iret C dX12_hand_47 ?_))) (fun c34 => (r_aload_n C dX12_hand_37 rfl rfl (r_getI C dX12_hand_38 fd_X12_224 nM_0 sM_0 rfl (r_bipush C dX12_hand_41 (by decide +kernel) (r_icmp_ne C (tgt := 48) dX12_hand_43 rfl (fun c43 => (r_aload_n C dX12_hand_48 rfl rfl (r_iconst C dX12_hand_49 (r_iload_n C dX12_hand_50 rfl rfl (r_v2N C yv_X12_span lk_X12_230 dX12_hand_51 rfl nM_0 sM_0 rfl (Nat.le_of_ble_eq_true rfl) (ok_X12_span ?_) (fun μ51 h51 => (r_aload_n C dX12_hand_54 rfl rfl (r_iconst C dX12_hand_55 (r_iload_n C dX12_hand_56 rfl rfl (r_v2N C yv_X12_span lk_X12_230 dX12_hand_57 rfl nM_0 sM_0 rfl (Nat.le_of_ble_eq_true rfl) (ok_X12_span ?_) (fun μ57 h57 => (r_aload_n C dX12_hand_60 rfl rfl (r_iconst C dX12_hand_61 (r_iload_n C dX12_hand_62 rfl rfl (r_v2N C yv_X12_span lk_X12_230 dX12_hand_63 rfl nM_0 sM_0 rfl (Nat.le_of_ble_eq_true rfl) (ok_X12_span ?_) (fun μ63 h63 => (r_aload_n C dX12_hand_66 rfl rfl (r_iconst C dX12_hand_67 (r_iload C dX12_hand_68 rfl (r_v2N C yv_X12_span lk_X12_230 dX12_hand_70 rfl nM_0 sM_0 rfl (Nat.le_of_ble_eq_true rfl) (ok_X12_span ?_) (fun μ70 h70 => (r_aload_n C dX12_hand_73 rfl rfl (r_iconst C dX12_hand_74 (r_iload C dX12_hand_75 rfl (r_v2N C yv_X12_span lk_X12_230 dX12_hand_77 rfl nM_0 sM_0 rfl (Nat.le_of_ble_eq_true rfl) (ok_X12_span ?_) (fun μ77 h77 => (r_aload_n C dX12_hand_80 rfl rfl (r_dup C dX12_hand_81 rfl (r_getI C dX12_hand_82 fd_X12_224 nM_0 sM_0 rfl (r_iconst C dX12_hand_85 (r_iadd C dX12_hand_86 (r_putI C dX12_hand_87 fw_X12_224 nM_0 sM_0 rfl (r_aload_n C dX12_hand_90 rfl rfl (r_getI C dX12_hand_91 fd_X12_224 nM_0 sM_0 rfl (r_iconst C dX12_hand_94 (r_isub C dX12_hand_95 (r_iret C dX12_hand_96 ?_))))))))))))))))))))))))))))))))))))) (fun c43 => (r_iconst C dX12_hand_46 (r_iret C dX12_hand_47 ?_)))))))))))))))))))))))))))
  · exact Or.inr ⟨fun z => bP_e0.mp c4 z.1.1, rfl, rfl⟩
  · exact Or.inr ⟨fun z => bP_e0.mp c11 z.1.2.1, rfl, rfl⟩
  · exact Or.inr ⟨fun z => bP_e0.mp c18 z.1.2.2.1, rfl, rfl⟩
  · exact Or.inr ⟨fun z => bP_e0.mp c26 z.1.2.2.2.1, rfl, rfl⟩
  · exact Or.inr ⟨fun z => bP_e0.mp c34 z.1.2.2.2.2, rfl, rfl⟩
  · rw [m8] at c43
    exact ⟨by omega, by decide⟩
  · rw [m8] at c43
    rw [h51]
    simp (disch := decide) only [up_same, up_neo, up_nek, up_2]
    exact ⟨by omega, by decide⟩
  · rw [m8] at c43
    rw [h57, h51]
    simp (disch := decide) only [up_same, up_neo, up_nek, up_2]
    exact ⟨by omega, by decide⟩
  · rw [m8] at c43
    rw [h63, h57, h51]
    simp (disch := decide) only [up_same, up_neo, up_nek, up_2]
    exact ⟨by omega, by decide⟩
  · rw [m8] at c43
    rw [h70, h63, h57, h51]
    simp (disch := decide) only [up_same, up_neo, up_nek, up_2]
    exact ⟨by omega, by decide⟩
  · rw [m8] at c43
    obtain ⟨n, hn⟩ : ∃ n : Nat, (μ.1 0 18).toInt = n := ⟨(μ.1 0 18).toInt.toNat, by omega⟩
    have en : (μ.1 0 18).toInt.toNat = n := by omega
    have k1 : μ51.1 0 18 = μ.1 0 18 := by rw [h51]; simp (disch := decide) only [up_same, up_neo, up_nek, up_2]
    have k2 : μ57.1 0 18 = μ.1 0 18 := by rw [h57]; simp (disch := decide) only [up_same, up_neo, up_nek, up_2]; exact k1
    have k3 : μ63.1 0 18 = μ.1 0 18 := by rw [h63]; simp (disch := decide) only [up_same, up_neo, up_nek, up_2]; exact k2
    have k4 : μ70.1 0 18 = μ.1 0 18 := by rw [h70]; simp (disch := decide) only [up_same, up_neo, up_nek, up_2]; exact k3
    have k5' : μ77.1 0 18 = μ.1 0 18 := by rw [h77]; simp (disch := decide) only [up_same, up_neo, up_nek, up_2]; exact k4
    have e1 : μ.1 0 18 + Int32.ofInt 1 = Int32.ofInt ((μ.1 0 18).toInt + 1) := ti_ext (by rw [ti_addc (by omega), ti_ofInt (by omega)])
    refine Or.inl ⟨⟨bP_ne c4, bP_ne c11, bP_ne c18, bP_ne c26, bP_ne c34⟩, by omega, ?_, ?_⟩
    · simp (disch := decide) only [up_same, up_neo, up_nek, up_2]
      rw [k5']
      exact ti_ext (by rw [ti_subc (by rw [e1, ti_ofInt (by omega)]; omega), e1, ti_ofInt (by omega)]; omega)
    · rw [en, n0] at h51
      rw [k1, en, n1] at h57
      rw [k2, en, n2] at h63
      rw [k3, en, n3] at h70
      rw [k4, en, n4] at h77
      have s0 : mSp μ n (k5 x1 x2 x3 x4 x5) 0 μ := fun a b => by rw [if_neg (by omega), if_neg (by omega)]
      have s5 := mSp_go (mSp_go (mSp_go (mSp_go (mSp_go s0 rfl h51) rfl h57) rfl h63) rfl h70) rfl h77
      intro a b
      rw [k5', e1]
      by_cases q : a = 0 ∧ b = 18
      · obtain ⟨rfl, rfl⟩ := q
        rw [up_same, if_pos ⟨rfl, rfl⟩]
      · rw [up_ne _ _ q, if_neg q, s5 a b, en]
  · exact Or.inr ⟨fun z => by rw [m8] at c43; omega, rfl, rfl⟩

