/-! ===== Grammar: the TOKENS ===== -/
def kgs (μ : kMem) : Nat := (μ.1 13 5).toInt.toNat
def kSt0 (μ : kMem) : Prop := kTxOk μ ∧ 0 ≤ (μ.1 13 6).toInt ∧ (μ.1 13 6).toInt ≤ kn μ
/-- the grammar stands at a TOKEN -/
def kTok (μ : kMem) : Prop := kTxOk μ ∧ (0 ≤ (μ.1 13 5).toInt ∧ kgs μ ≤ kn μ) ∧ (μ.1 13 4).toInt = kdF (kt μ) (kn μ) (kgs μ) ∧ (μ.1 13 6).toInt = teF (kt μ) (kn μ) (kgs μ)
theorem kn_i {μ : kMem} (h : kTxOk μ) : (kn μ : Int) = (μ.1 1 1).toInt ∧ kn μ ≤ 500 := by
  have := h.1
  unfold kn
  omega
theorem kTok.st {μ : kMem} (h : kTok μ) : (μ.1 13 5).toInt = (kgs μ : Int) := by
  have := h.2.1.1
  unfold kgs
  omega
theorem kTok.te {μ : kMem} (h : kTok μ) : kgs μ ≤ teF (kt μ) (kn μ) (kgs μ) ∧ teF (kt μ) (kn μ) (kgs μ) ≤ kn μ ∧ (kgs μ < kn μ → kgs μ < teF (kt μ) (kn μ) (kgs μ)) := teF_b h.2.1.2
theorem kTok.s0 {μ : kMem} (h : kTok μ) : kSt0 μ := by
  have h1 := h.te
  have h2 := h.2.2.2
  exact ⟨h.1, by omega, by omega⟩
theorem kTok.sz {μ : kMem} (h : kTok μ) : (μ.1 13 6 - μ.1 13 5).toInt = ((teF (kt μ) (kn μ) (kgs μ) - kgs μ : Nat) : Int) := by
  have h1 := h.te
  have h2 := h.2.2.2
  have h3 := h.st
  have h4 := kn_i h.1
  rw [ti_sub (by omega)]
  omega
theorem tx_same {μ μ' : kMem} (h : ∀ a b : Nat, a = 1 ∨ a = 2 → μ'.1 a b = μ.1 a b) : kt μ' = kt μ ∧ kn μ' = kn μ ∧ (kTxOk μ → kTxOk μ') := by
  refine ⟨?_, ?_, ?_⟩
  · unfold kt
    simp (disch := omega) only [h]
  · unfold kn
    simp (disch := omega) only [h]
  · intro q
    unfold kTxOk at q ⊢
    simp (disch := omega) only [h]
    exact q
theorem ckF_4 {c : Int} (h1 : ¬ (97 ≤ c ∧ c ≤ 122)) (h2 : ¬ (48 ≤ c ∧ c ≤ 57)) (h3 : ¬ c = 59) : ckF c = 4 := by
  unfold ckF
  rw [if_neg h1, if_neg h2, if_neg h3]
theorem ok_X2_kindAt {x : Int32} {μ : kMem} (h : kTxOk μ ∧ 0 ≤ x.toInt) : kOk yX2_kindAt cX2_kindAt 3 (some .int) rmX2_kindAt shK 68 [.ref 13, .int x] μ (kP (Int32.ofInt (kdF (kt μ) (kn μ) x.toInt.toNat)) μ) := by
  obtain ⟨hT, hx⟩ := h
  have hn := kn_i hT
  have m1 : (Int32.ofInt (-1)).toInt = -1 := by decide
  have hin : x.toInt < (μ.1 1 1).toInt → (tat μ x.toInt).toInt = kt μ x.toInt.toNat ∧ 0 ≤ kt μ x.toInt.toNat := fun q => ⟨tat_kt hx q, (hT.2 _).1⟩
  have hout : ¬ x.toInt < (μ.1 1 1).toInt → (tat μ x.toInt).toInt = -1 := fun q => by unfold tat; rw [if_neg (by omega)]; exact m1
  have L : ∀ k : Nat, ¬ (tat μ x.toInt).toInt = -1 → ckF (tat μ x.toInt).toInt = k → Int32.ofInt (k : Int) = Int32.ofInt (kdF (kt μ) (kn μ) x.toInt.toNat) := by
    intro k h1 h2
    by_cases q : x.toInt < (μ.1 1 1).toInt
    · rw [kdF_lt (by omega), ← (hin q).1, h2]
    · exact absurd (hout q) h1
  refine kOk.of rfl (Nat.le_of_ble_eq_true rfl) (fun J C => ?_)
  have C : kR cX2_kindAt RX2 3 rmX2_kindAt shK 68 (some .int) _ J := C
  refine (r_aload_n C dX2_kindAt_0 rfl rfl (r_getR C dX2_kindAt_1 fd_X2_20 nK_13 sK_13 rfl (r_iload_n C dX2_kindAt_4 rfl rfl (r_v1P C yv_X10_at lk_X2_67 dX2_kindAt_5 rfl nK_1 sK_1 rfl (Nat.le_of_ble_eq_true rfl) (ok_X10_at ?_) (r_istore_n C dX2_kindAt_8 rfl (by decide) (r_iload_n C dX2_kindAt_9 rfl rfl (r_iconst C dX2_kindAt_10 (r_icmp_ne C (tgt := 16) dX2_kindAt_11 rfl (fun c11 => (r_iload_n C dX2_kindAt_16 rfl rfl (r_bipush C dX2_kindAt_17 (by decide +kernel) (r_icmp_lt C (tgt := 30) dX2_kindAt_19 rfl (fun c19 => (r_iload_n C dX2_kindAt_30 rfl rfl (r_bipush C dX2_kindAt_31 (by decide +kernel) (r_icmp_lt C (tgt := 44) dX2_kindAt_33 rfl (fun c33 => (r_iload_n C dX2_kindAt_44 rfl rfl (r_bipush C dX2_kindAt_45 (by decide +kernel) (r_icmp_ne C (tgt := 54) dX2_kindAt_47 rfl (fun c47 => (r_iconst C dX2_kindAt_54 (r_iret C dX2_kindAt_55 ?_))) (fun c47 => (r_iconst C dX2_kindAt_50 (r_goto C (tgt := 55) dX2_kindAt_51 rfl (r_iret C dX2_kindAt_55 ?_)))))))) (fun c33 => (r_iload_n C dX2_kindAt_36 rfl rfl (r_bipush C dX2_kindAt_37 (by decide +kernel) (r_icmp_gt C (tgt := 44) dX2_kindAt_39 rfl (fun c39 => (r_iload_n C dX2_kindAt_44 rfl rfl (r_bipush C dX2_kindAt_45 (by decide +kernel) (r_icmp_ne C (tgt := 54) dX2_kindAt_47 rfl (fun c47 => (r_iconst C dX2_kindAt_54 (r_iret C dX2_kindAt_55 ?_))) (fun c47 => (r_iconst C dX2_kindAt_50 (r_goto C (tgt := 55) dX2_kindAt_51 rfl (r_iret C dX2_kindAt_55 ?_)))))))) (fun c39 => (r_iconst C dX2_kindAt_42 (r_iret C dX2_kindAt_43 ?_))))))))))) (fun c19 => (r_iload_n C dX2_kindAt_22 rfl rfl (r_bipush C dX2_kindAt_23 (by decide +kernel) (r_icmp_gt C (tgt := 30) dX2_kindAt_25 rfl (fun c25 => (r_iload_n C dX2_kindAt_30 rfl rfl (r_bipush C dX2_kindAt_31 (by decide +kernel) (r_icmp_lt C (tgt := 44) dX2_kindAt_33 rfl (fun c33 => (r_iload_n C dX2_kindAt_44 rfl rfl (r_bipush C dX2_kindAt_45 (by decide +kernel) (r_icmp_ne C (tgt := 54) dX2_kindAt_47 rfl (fun c47 => (r_iconst C dX2_kindAt_54 (r_iret C dX2_kindAt_55 ?_))) (fun c47 => (r_iconst C dX2_kindAt_50 (r_goto C (tgt := 55) dX2_kindAt_51 rfl (r_iret C dX2_kindAt_55 ?_)))))))) (fun c33 => (r_iload_n C dX2_kindAt_36 rfl rfl (r_bipush C dX2_kindAt_37 (by decide +kernel) (r_icmp_gt C (tgt := 44) dX2_kindAt_39 rfl (fun c39 => (r_iload_n C dX2_kindAt_44 rfl rfl (r_bipush C dX2_kindAt_45 (by decide +kernel) (r_icmp_ne C (tgt := 54) dX2_kindAt_47 rfl (fun c47 => (r_iconst C dX2_kindAt_54 (r_iret C dX2_kindAt_55 ?_))) (fun c47 => (r_iconst C dX2_kindAt_50 (r_goto C (tgt := 55) dX2_kindAt_51 rfl (r_iret C dX2_kindAt_55 ?_)))))))) (fun c39 => (r_iconst C dX2_kindAt_42 (r_iret C dX2_kindAt_43 ?_))))))))))) (fun c25 => (r_iconst C dX2_kindAt_28 (r_iret C dX2_kindAt_29 ?_))))))))))) (fun c11 => (r_iconst C dX2_kindAt_14 (r_iret C dX2_kindAt_15 ?_)))))))))))
  · exact hT.1.2
  · rw [m1] at c11
    simp (disch := (first | omega | (simp (disch := omega) only [ti_ofInt, ti_addc, ti_subc, ti_mulc, ti_cmul, ti_divc, ti_remc, ti_zero, ti_add, ti_sub, ti_neg, if_lt_ti, if_gt_ti, bP_e0, Classical.not_not, tl_i2l]; omega))) only [ti_ofInt, ti_addc, ti_subc, ti_mulc, ti_cmul, ti_divc, ti_remc, ti_zero, ti_add, ti_sub, ti_neg, if_lt_ti, if_gt_ti, bP_e0, Classical.not_not, tl_i2l] at c19 c33 c47
    exact ⟨L 4 c11 (ckF_4 (by omega) (by omega) c47), rfl⟩
  · rw [m1] at c11
    simp (disch := (first | omega | (simp (disch := omega) only [ti_ofInt, ti_addc, ti_subc, ti_mulc, ti_cmul, ti_divc, ti_remc, ti_zero, ti_add, ti_sub, ti_neg, if_lt_ti, if_gt_ti, bP_e0, Classical.not_not, tl_i2l]; omega))) only [ti_ofInt, ti_addc, ti_subc, ti_mulc, ti_cmul, ti_divc, ti_remc, ti_zero, ti_add, ti_sub, ti_neg, if_lt_ti, if_gt_ti, bP_e0, Classical.not_not, tl_i2l] at c19 c33 c47
    exact ⟨L 3 c11 (ckF_3.mpr c47), rfl⟩
  · rw [m1] at c11
    simp (disch := (first | omega | (simp (disch := omega) only [ti_ofInt, ti_addc, ti_subc, ti_mulc, ti_cmul, ti_divc, ti_remc, ti_zero, ti_add, ti_sub, ti_neg, if_lt_ti, if_gt_ti, bP_e0, Classical.not_not, tl_i2l]; omega))) only [ti_ofInt, ti_addc, ti_subc, ti_mulc, ti_cmul, ti_divc, ti_remc, ti_zero, ti_add, ti_sub, ti_neg, if_lt_ti, if_gt_ti, bP_e0, Classical.not_not, tl_i2l] at c19 c33 c39 c47
    exact ⟨L 4 c11 (ckF_4 (by omega) (by omega) c47), rfl⟩
  · rw [m1] at c11
    simp (disch := (first | omega | (simp (disch := omega) only [ti_ofInt, ti_addc, ti_subc, ti_mulc, ti_cmul, ti_divc, ti_remc, ti_zero, ti_add, ti_sub, ti_neg, if_lt_ti, if_gt_ti, bP_e0, Classical.not_not, tl_i2l]; omega))) only [ti_ofInt, ti_addc, ti_subc, ti_mulc, ti_cmul, ti_divc, ti_remc, ti_zero, ti_add, ti_sub, ti_neg, if_lt_ti, if_gt_ti, bP_e0, Classical.not_not, tl_i2l] at c19 c33 c39 c47
    exact ⟨L 3 c11 (ckF_3.mpr c47), rfl⟩
  · rw [m1] at c11
    simp (disch := (first | omega | (simp (disch := omega) only [ti_ofInt, ti_addc, ti_subc, ti_mulc, ti_cmul, ti_divc, ti_remc, ti_zero, ti_add, ti_sub, ti_neg, if_lt_ti, if_gt_ti, bP_e0, Classical.not_not, tl_i2l]; omega))) only [ti_ofInt, ti_addc, ti_subc, ti_mulc, ti_cmul, ti_divc, ti_remc, ti_zero, ti_add, ti_sub, ti_neg, if_lt_ti, if_gt_ti, bP_e0, Classical.not_not, tl_i2l] at c19 c33 c39
    exact ⟨L 2 c11 (ckF_2.mpr ⟨by omega, by omega⟩), rfl⟩
  · rw [m1] at c11
    simp (disch := (first | omega | (simp (disch := omega) only [ti_ofInt, ti_addc, ti_subc, ti_mulc, ti_cmul, ti_divc, ti_remc, ti_zero, ti_add, ti_sub, ti_neg, if_lt_ti, if_gt_ti, bP_e0, Classical.not_not, tl_i2l]; omega))) only [ti_ofInt, ti_addc, ti_subc, ti_mulc, ti_cmul, ti_divc, ti_remc, ti_zero, ti_add, ti_sub, ti_neg, if_lt_ti, if_gt_ti, bP_e0, Classical.not_not, tl_i2l] at c19 c25 c33 c47
    exact ⟨L 4 c11 (ckF_4 (by omega) (by omega) c47), rfl⟩
  · rw [m1] at c11
    simp (disch := (first | omega | (simp (disch := omega) only [ti_ofInt, ti_addc, ti_subc, ti_mulc, ti_cmul, ti_divc, ti_remc, ti_zero, ti_add, ti_sub, ti_neg, if_lt_ti, if_gt_ti, bP_e0, Classical.not_not, tl_i2l]; omega))) only [ti_ofInt, ti_addc, ti_subc, ti_mulc, ti_cmul, ti_divc, ti_remc, ti_zero, ti_add, ti_sub, ti_neg, if_lt_ti, if_gt_ti, bP_e0, Classical.not_not, tl_i2l] at c19 c25 c33 c47
    exact ⟨L 3 c11 (ckF_3.mpr c47), rfl⟩
  · rw [m1] at c11
    simp (disch := (first | omega | (simp (disch := omega) only [ti_ofInt, ti_addc, ti_subc, ti_mulc, ti_cmul, ti_divc, ti_remc, ti_zero, ti_add, ti_sub, ti_neg, if_lt_ti, if_gt_ti, bP_e0, Classical.not_not, tl_i2l]; omega))) only [ti_ofInt, ti_addc, ti_subc, ti_mulc, ti_cmul, ti_divc, ti_remc, ti_zero, ti_add, ti_sub, ti_neg, if_lt_ti, if_gt_ti, bP_e0, Classical.not_not, tl_i2l] at c19 c25 c33 c39 c47
    exact ⟨L 4 c11 (ckF_4 (by omega) (by omega) c47), rfl⟩
  · rw [m1] at c11
    simp (disch := (first | omega | (simp (disch := omega) only [ti_ofInt, ti_addc, ti_subc, ti_mulc, ti_cmul, ti_divc, ti_remc, ti_zero, ti_add, ti_sub, ti_neg, if_lt_ti, if_gt_ti, bP_e0, Classical.not_not, tl_i2l]; omega))) only [ti_ofInt, ti_addc, ti_subc, ti_mulc, ti_cmul, ti_divc, ti_remc, ti_zero, ti_add, ti_sub, ti_neg, if_lt_ti, if_gt_ti, bP_e0, Classical.not_not, tl_i2l] at c19 c25 c33 c39 c47
    exact ⟨L 3 c11 (ckF_3.mpr c47), rfl⟩
  · rw [m1] at c11
    simp (disch := (first | omega | (simp (disch := omega) only [ti_ofInt, ti_addc, ti_subc, ti_mulc, ti_cmul, ti_divc, ti_remc, ti_zero, ti_add, ti_sub, ti_neg, if_lt_ti, if_gt_ti, bP_e0, Classical.not_not, tl_i2l]; omega))) only [ti_ofInt, ti_addc, ti_subc, ti_mulc, ti_cmul, ti_divc, ti_remc, ti_zero, ti_add, ti_sub, ti_neg, if_lt_ti, if_gt_ti, bP_e0, Classical.not_not, tl_i2l] at c19 c25 c33 c39
    exact ⟨L 2 c11 (ckF_2.mpr ⟨by omega, by omega⟩), rfl⟩
  · rw [m1] at c11
    simp (disch := (first | omega | (simp (disch := omega) only [ti_ofInt, ti_addc, ti_subc, ti_mulc, ti_cmul, ti_divc, ti_remc, ti_zero, ti_add, ti_sub, ti_neg, if_lt_ti, if_gt_ti, bP_e0, Classical.not_not, tl_i2l]; omega))) only [ti_ofInt, ti_addc, ti_subc, ti_mulc, ti_cmul, ti_divc, ti_remc, ti_zero, ti_add, ti_sub, ti_neg, if_lt_ti, if_gt_ti, bP_e0, Classical.not_not, tl_i2l] at c19 c25
    exact ⟨L 1 c11 (ckF_1.mpr ⟨by omega, by omega⟩), rfl⟩
  · rw [m1] at c11
    refine ⟨?_, rfl⟩
    by_cases q : x.toInt < (μ.1 1 1).toInt
    · have := hin q
      omega
    · rw [kdF_no (by omega)]
      rfl
theorem ok_X2_tokenSize {μ : kMem} : kOk yX2_tokenSize cX2_tokenSize 1 (some .int) rmX2_tokenSize shK 68 [.ref 13] μ (kP (μ.1 13 6 - μ.1 13 5) μ) := by
  refine kOk.of rfl (Nat.le_of_ble_eq_true rfl) (fun J C => ?_)
  have C : kR cX2_tokenSize RX2 1 rmX2_tokenSize shK 68 (some .int) _ J := C
  refine (r_aload_n C dX2_tokenSize_0 rfl rfl (r_getI C dX2_tokenSize_1 fd_X2_31 nK_13 sK_13 rfl (r_aload_n C dX2_tokenSize_4 rfl rfl (r_getI C dX2_tokenSize_5 fd_X2_41 nK_13 sK_13 rfl (r_isub C dX2_tokenSize_8 (r_iret C dX2_tokenSize_9 ?_))))))
  exact ⟨rfl, rfl⟩
def kStp (μ μ' : kMem) : Prop := kTok μ' ∧ kgs μ' = skF (kt μ) (kn μ) (μ.1 13 6).toInt.toNat ∧ ∀ a b : Nat, a ≠ 13 → μ'.1 a b = μ.1 a b
theorem ok_X2_step {μ : kMem} (h : kSt0 μ) : kOk yX2_step cX2_step 2 (none) rmX2_step shK 68 [.ref 13] μ (kN (kStp μ)) := by
  obtain ⟨hT, hb0, hb1⟩ := h
  have hn := kn_i hT
  have m1 : (Int32.ofInt 1).toInt = 1 := by decide
  have m2 : (Int32.ofInt 2).toInt = 2 := by decide
  have m32 : (Int32.ofInt 32).toInt = 32 := by decide
  have m10 : (Int32.ofInt 10).toInt = 10 := by decide
  have fin : ∀ (s e : Nat) (v : Int32) (μ' : kMem), s ≤ kn μ → skF (kt μ) (kn μ) (μ.1 13 6).toInt.toNat = s → teF (kt μ) (kn μ) s = e → v.toInt = e → (μ'.1 13 5).toInt = s → (μ'.1 13 4).toInt = kdF (kt μ) (kn μ) s → (∀ a b : Nat, a ≠ 13 → μ'.1 a b = μ.1 a b) → kStp μ (up μ' 13 6 v) := by
    intro s e v μ' h1 h2 h3 h4 h5 h6 h7
    have hO : ∀ a b : Nat, a ≠ 13 → (up μ' 13 6 v).1 a b = μ.1 a b := fun a b n1 => by rw [up_neo _ _ n1]; exact h7 a b n1
    obtain ⟨x1, x2, x3⟩ := tx_same (μ := μ) (μ' := up μ' 13 6 v) (fun a b q => hO a b (by omega))
    have e5 : ((up μ' 13 6 v).1 13 5).toInt = s := by rw [up_nek _ _ (by decide)]; exact h5
    have es : kgs (up μ' 13 6 v) = s := by unfold kgs; rw [e5]; omega
    refine ⟨⟨x3 hT, ⟨by rw [e5]; omega, by rw [es, x2]; exact h1⟩, ?_, ?_⟩, by rw [es, h2], hO⟩
    · rw [up_nek _ _ (by decide), x1, x2, es]
      exact h6
    · rw [up_same, x1, x2, es, h3]
      exact h4
  refine kOk.of rfl (Nat.le_of_ble_eq_true rfl) (fun J C => ?_)
  have C : kR cX2_step RX2 2 rmX2_step shK 68 (none) _ J := C
  have loop2 : ∀ (k s e : Nat) (v : Int32) (μ' : kMem), e + k = kn μ → v.toInt = e → s < e → (ckF (kt μ s) = 1 ∨ ckF (kt μ s) = 2) → (∀ i, s ≤ i → i < e → ckF (kt μ i) = ckF (kt μ s)) → skF (kt μ) (kn μ) (μ.1 13 6).toInt.toNat = s → (μ'.1 13 5).toInt = s → (μ'.1 13 4).toInt = kdF (kt μ) (kn μ) s → (∀ a b : Nat, a ≠ 13 → μ'.1 a b = μ.1 a b) → J 94 [some (.ref 13), some (.int v)] [] μ' := by
    intro k
    induction k using Nat.strongRecOn with
    | ind k ih =>
      intro s e v μ' hk hv hse hc hI hs h5 h4 hO
      obtain ⟨x1, x2, x3⟩ := tx_same (μ := μ) (μ' := μ') (fun a b q => hO a b (by omega))
      have e11 : (μ'.1 1 1).toInt = kn μ := by rw [hO 1 1 (by decide)]; omega
      have evv : v.toInt.toNat = e := by omega
      have hkb := kdF_b (kt μ) (kn μ) e
      refine (r_iload_n C dX2_step_94 rfl rfl (r_aload_n C dX2_step_95 rfl rfl (r_getR C dX2_step_96 fd_X2_20 nK_13 sK_13 rfl (r_v0P C yv_X10_size lk_X2_110 dX2_step_99 rfl nK_1 sK_1 rfl (Nat.le_of_ble_eq_true rfl) ok_X10_size (r_icmp_ge C (tgt := 123) dX2_step_102 rfl (fun c102 => (r_aload_n C dX2_step_123 rfl rfl (r_iload_n C dX2_step_124 rfl rfl (r_putI C dX2_step_125 fw_X2_31 nK_13 sK_13 rfl (r_ret C dX2_step_128 ?_))))) (fun c102 => (r_aload_n C dX2_step_105 rfl rfl (r_iload_n C dX2_step_106 rfl rfl (r_v1P C yv_X2_kindAt lk_X2_113 dX2_step_107 rfl nK_13 sK_13 rfl (Nat.le_of_ble_eq_true rfl) (ok_X2_kindAt ?_) (r_aload_n C dX2_step_110 rfl rfl (r_getI C dX2_step_111 fd_X2_38 nK_13 sK_13 rfl (r_icmp_ne C (tgt := 123) dX2_step_114 rfl (fun c114 => (r_aload_n C dX2_step_123 rfl rfl (r_iload_n C dX2_step_124 rfl rfl (r_putI C dX2_step_125 fw_X2_31 nK_13 sK_13 rfl (r_ret C dX2_step_128 ?_))))) (fun c114 => (r_iinc C dX2_step_117 rfl (by decide) (r_goto C (tgt := 94) dX2_step_120 rfl ?_)))))))))))))))
      · rw [e11] at c102
        exact fin s e _ μ' (by omega) hs (teF_is hse (by omega) hc hI (Or.inl (by omega))) hv h5 h4 hO
      · exact ⟨x3 hT, by omega⟩
      · rw [e11] at c102
        rw [x1, x2, evv, ti_ofInt (by omega), h4, kdF_lt (by omega), kdF_lt (by omega)] at c114
        exact fin s e _ μ' (by omega) hs (teF_is hse (by omega) hc hI (Or.inr (by omega))) hv h5 h4 hO
      · rw [e11] at c102
        rw [x1, x2, evv, ti_ofInt (by omega), h4, kdF_lt (by omega), kdF_lt (by omega)] at c114
        refine ih (k - 1) (by omega) s (e + 1) _ _ (by omega) (by simp (disch := (first | omega | (simp (disch := omega) only [ti_ofInt, ti_addc, ti_subc, ti_mulc, ti_cmul, ti_divc, ti_remc, ti_zero, ti_add, ti_sub, ti_neg, if_lt_ti, if_gt_ti, bP_e0, Classical.not_not, tl_i2l]; omega))) only [ti_ofInt, ti_addc, ti_subc, ti_mulc, ti_cmul, ti_divc, ti_remc, ti_zero, ti_add, ti_sub, ti_neg, if_lt_ti, if_gt_ti, bP_e0, Classical.not_not, tl_i2l]; omega) (by omega) hc ?_ hs h5 h4 hO
        intro i h1 h2
        by_cases q : i = e
        · subst q; omega
        · exact hI i h1 (by omega)
  have loop1 : ∀ (k i : Nat) (v : Int32), i + k = kn μ → v.toInt = i → (μ.1 13 6).toInt ≤ i → (∀ j, (μ.1 13 6).toInt.toNat ≤ j → j < i → kt μ j = 32 ∨ kt μ j = 10) → J 5 [some (.ref 13), some (.int v)] [] μ := by
    intro k
    induction k using Nat.strongRecOn with
    | ind k ih =>
      intro i v hk hv hbi hI
      have evv : v.toInt.toNat = i := by omega
      have hkb := kdF_b (kt μ) (kn μ) i
      have hO1 : ∀ (K : Int32) (a b : Nat), a ≠ 13 → (up (up μ 13 5 v) 13 4 K).1 a b = μ.1 a b := fun K a b n1 => by rw [up_neo _ _ n1, up_neo _ _ n1]
      obtain ⟨x1, x2, x3⟩ := tx_same (μ := μ) (μ' := up μ 13 5 v) (fun a b q => by rw [up_neo _ _ (by omega)])
      have hK : (Int32.ofInt (kdF (kt (up μ 13 5 v)) (kn (up μ 13 5 v)) v.toInt.toNat)).toInt = kdF (kt μ) (kn μ) i := by rw [x1, x2, evv, ti_ofInt (by omega)]
      have h5 : ∀ K : Int32, ((up (up μ 13 5 v) 13 4 K).1 13 5).toInt = i := fun K => by rw [up_nek _ _ (by decide), up_same]; exact hv
      have h4 : ∀ K : Int32, K.toInt = kdF (kt μ) (kn μ) i → ((up (up μ 13 5 v) 13 4 K).1 13 4).toInt = kdF (kt μ) (kn μ) i := fun K q => by rw [up_same]; exact q
      have hS : (i = kn μ ∨ ¬ (kt μ i = 32 ∨ kt μ i = 10)) → skF (kt μ) (kn μ) (μ.1 13 6).toInt.toNat = i := fun q => skF_is (by omega) (by omega) hI q
      have G94 : ∀ K : Int32, K.toInt = kdF (kt μ) (kn μ) i → (i = kn μ ∨ ¬ (kt μ i = 32 ∨ kt μ i = 10)) → (kdF (kt μ) (kn μ) i = 1 ∨ kdF (kt μ) (kn μ) i = 2) → J 94 [some (.ref 13), some (.int (v + Int32.ofInt 1))] [] (up (up μ 13 5 v) 13 4 K) := by
        intro K q1 q2 q3
        have q4 : i < kn μ := by
          rcases q3 with q | q
          · exact (kdF_pos q (by decide)).1
          · exact (kdF_pos q (by decide)).1
        rw [kdF_lt q4] at q3
        exact loop2 (kn μ - (i + 1)) i (i + 1) _ _ (by omega) (by simp (disch := (first | omega | (simp (disch := omega) only [ti_ofInt, ti_addc, ti_subc, ti_mulc, ti_cmul, ti_divc, ti_remc, ti_zero, ti_add, ti_sub, ti_neg, if_lt_ti, if_gt_ti, bP_e0, Classical.not_not, tl_i2l]; omega))) only [ti_ofInt, ti_addc, ti_subc, ti_mulc, ti_cmul, ti_divc, ti_remc, ti_zero, ti_add, ti_sub, ti_neg, if_lt_ti, if_gt_ti, bP_e0, Classical.not_not, tl_i2l]; omega) (by omega) q3 (fun j a b => by rw [show j = i by omega]) (hS q2) (h5 K) (h4 K q1) (hO1 K)
      have G128 : ∀ K : Int32, K.toInt = kdF (kt μ) (kn μ) i → (i = kn μ ∨ ¬ (kt μ i = 32 ∨ kt μ i = 10)) → ¬ kdF (kt μ) (kn μ) i = 0 → ¬ kdF (kt μ) (kn μ) i = 1 → ¬ kdF (kt μ) (kn μ) i = 2 → kStp μ (up (up (up μ 13 5 v) 13 4 K) 13 6 (v + Int32.ofInt 1)) := by
        intro K q1 q2 q3 q4 q5
        have q6 : i < kn μ := by
          refine Classical.byContradiction (fun z => q3 (kdF_no z))
        rw [kdF_lt q6] at q4 q5
        exact fin i (i + 1) _ _ (by omega) (hS q2) (teF_one q6 (by omega)) (by simp (disch := (first | omega | (simp (disch := omega) only [ti_ofInt, ti_addc, ti_subc, ti_mulc, ti_cmul, ti_divc, ti_remc, ti_zero, ti_add, ti_sub, ti_neg, if_lt_ti, if_gt_ti, bP_e0, Classical.not_not, tl_i2l]; omega))) only [ti_ofInt, ti_addc, ti_subc, ti_mulc, ti_cmul, ti_divc, ti_remc, ti_zero, ti_add, ti_sub, ti_neg, if_lt_ti, if_gt_ti, bP_e0, Classical.not_not, tl_i2l]; omega) (h5 K) (h4 K q1) (hO1 K)
      have G74 : ∀ K : Int32, K.toInt = kdF (kt μ) (kn μ) i → (i = kn μ ∨ ¬ (kt μ i = 32 ∨ kt μ i = 10)) → kdF (kt μ) (kn μ) i = 0 → kStp μ (up (up (up μ 13 5 v) 13 4 K) 13 6 v) := by
        intro K q1 q2 q3
        have q6 : ¬ i < kn μ := by
          intro z
          rw [kdF_lt z] at q3
          have := (ckF_b (kt μ i)).1
          omega
        exact fin i i _ _ (by omega) (hS q2) (teF_hi (by omega)) hv (h5 K) (h4 K q1) (hO1 K)
      have ht : v.toInt < (μ.1 1 1).toInt → (tat μ v.toInt).toInt = kt μ i := fun q => by rw [tat_kt (by omega) q, evv]
      refine (r_iload_n C dX2_step_5 rfl rfl (r_aload_n C dX2_step_6 rfl rfl (r_getR C dX2_step_7 fd_X2_20 nK_13 sK_13 rfl (r_v0P C yv_X10_size lk_X2_110 dX2_step_10 rfl nK_1 sK_1 rfl (Nat.le_of_ble_eq_true rfl) ok_X10_size (r_icmp_ge C (tgt := 48) dX2_step_13 rfl (fun c13 => (r_aload_n C dX2_step_48 rfl rfl (r_iload_n C dX2_step_49 rfl rfl (r_putI C dX2_step_50 fw_X2_41 nK_13 sK_13 rfl (r_aload_n C dX2_step_53 rfl rfl (r_aload_n C dX2_step_54 rfl rfl (r_iload_n C dX2_step_55 rfl rfl (r_v1P C yv_X2_kindAt lk_X2_113 dX2_step_56 rfl nK_13 sK_13 rfl (Nat.le_of_ble_eq_true rfl) (ok_X2_kindAt ?_) (r_putI C dX2_step_59 fw_X2_38 nK_13 sK_13 rfl (r_aload_n C dX2_step_62 rfl rfl (r_getI C dX2_step_63 fd_X2_38 nK_13 sK_13 rfl (r_if_ne C (tgt := 75) dX2_step_66 rfl (fun c66 => (r_iinc C dX2_step_75 rfl (by decide) (r_aload_n C dX2_step_78 rfl rfl (r_getI C dX2_step_79 fd_X2_38 nK_13 sK_13 rfl (r_iconst C dX2_step_82 (r_icmp_eq C (tgt := 94) dX2_step_83 rfl (fun c83 => ?_) (fun c83 => (r_aload_n C dX2_step_86 rfl rfl (r_getI C dX2_step_87 fd_X2_38 nK_13 sK_13 rfl (r_iconst C dX2_step_90 (r_icmp_ne C (tgt := 123) dX2_step_91 rfl (fun c91 => (r_aload_n C dX2_step_123 rfl rfl (r_iload_n C dX2_step_124 rfl rfl (r_putI C dX2_step_125 fw_X2_31 nK_13 sK_13 rfl (r_ret C dX2_step_128 ?_))))) (fun c91 => ?_)))))))))))) (fun c66 => (r_aload_n C dX2_step_69 rfl rfl (r_iload_n C dX2_step_70 rfl rfl (r_putI C dX2_step_71 fw_X2_31 nK_13 sK_13 rfl (r_ret C dX2_step_74 ?_))))))))))))))))) (fun c13 => (r_aload_n C dX2_step_16 rfl rfl (r_getR C dX2_step_17 fd_X2_20 nK_13 sK_13 rfl (r_iload_n C dX2_step_20 rfl rfl (r_v1P C yv_X10_at lk_X2_67 dX2_step_21 rfl nK_1 sK_1 rfl (Nat.le_of_ble_eq_true rfl) (ok_X10_at ?_) (r_bipush C dX2_step_24 (by decide +kernel) (r_icmp_eq C (tgt := 42) dX2_step_26 rfl (fun c26 => (r_iinc C dX2_step_42 rfl (by decide) (r_goto C (tgt := 5) dX2_step_45 rfl ?_))) (fun c26 => (r_aload_n C dX2_step_29 rfl rfl (r_getR C dX2_step_30 fd_X2_20 nK_13 sK_13 rfl (r_iload_n C dX2_step_33 rfl rfl (r_v1P C yv_X10_at lk_X2_67 dX2_step_34 rfl nK_1 sK_1 rfl (Nat.le_of_ble_eq_true rfl) (ok_X10_at ?_) (r_bipush C dX2_step_37 (by decide +kernel) (r_icmp_ne C (tgt := 48) dX2_step_39 rfl (fun c39 => (r_aload_n C dX2_step_48 rfl rfl (r_iload_n C dX2_step_49 rfl rfl (r_putI C dX2_step_50 fw_X2_41 nK_13 sK_13 rfl (r_aload_n C dX2_step_53 rfl rfl (r_aload_n C dX2_step_54 rfl rfl (r_iload_n C dX2_step_55 rfl rfl (r_v1P C yv_X2_kindAt lk_X2_113 dX2_step_56 rfl nK_13 sK_13 rfl (Nat.le_of_ble_eq_true rfl) (ok_X2_kindAt ?_) (r_putI C dX2_step_59 fw_X2_38 nK_13 sK_13 rfl (r_aload_n C dX2_step_62 rfl rfl (r_getI C dX2_step_63 fd_X2_38 nK_13 sK_13 rfl (r_if_ne C (tgt := 75) dX2_step_66 rfl (fun c66 => (r_iinc C dX2_step_75 rfl (by decide) (r_aload_n C dX2_step_78 rfl rfl (r_getI C dX2_step_79 fd_X2_38 nK_13 sK_13 rfl (r_iconst C dX2_step_82 (r_icmp_eq C (tgt := 94) dX2_step_83 rfl (fun c83 => ?_) (fun c83 => (r_aload_n C dX2_step_86 rfl rfl (r_getI C dX2_step_87 fd_X2_38 nK_13 sK_13 rfl (r_iconst C dX2_step_90 (r_icmp_ne C (tgt := 123) dX2_step_91 rfl (fun c91 => (r_aload_n C dX2_step_123 rfl rfl (r_iload_n C dX2_step_124 rfl rfl (r_putI C dX2_step_125 fw_X2_31 nK_13 sK_13 rfl (r_ret C dX2_step_128 ?_))))) (fun c91 => ?_)))))))))))) (fun c66 => (r_aload_n C dX2_step_69 rfl rfl (r_iload_n C dX2_step_70 rfl rfl (r_putI C dX2_step_71 fw_X2_31 nK_13 sK_13 rfl (r_ret C dX2_step_74 ?_))))))))))))))))) (fun c39 => (r_iinc C dX2_step_42 rfl (by decide) (r_goto C (tgt := 5) dX2_step_45 rfl ?_))))))))))))))))))))))
      · exact ⟨x3 hT, by omega⟩
      · rw [up_same, hK] at c66 c83
        rw [m1] at c83
        exact G94 _ hK (Or.inl (by omega)) (Or.inl (by omega))
      · rw [up_same, hK] at c66 c83 c91
        rw [m1] at c83
        rw [m2] at c91
        exact G128 _ hK (Or.inl (by omega)) (by omega) (by omega) (by omega)
      · rw [up_same, hK] at c66 c83 c91
        rw [m1] at c83
        rw [m2] at c91
        exact G94 _ hK (Or.inl (by omega)) (Or.inr (by omega))
      · rw [up_same, hK] at c66
        exact G74 _ hK (Or.inl (by omega)) (by omega)
      · exact hT.1.2
      · rw [ht (by omega), m32] at c26
        refine ih (k - 1) (by omega) (i + 1) _ (by omega) (by simp (disch := (first | omega | (simp (disch := omega) only [ti_ofInt, ti_addc, ti_subc, ti_mulc, ti_cmul, ti_divc, ti_remc, ti_zero, ti_add, ti_sub, ti_neg, if_lt_ti, if_gt_ti, bP_e0, Classical.not_not, tl_i2l]; omega))) only [ti_ofInt, ti_addc, ti_subc, ti_mulc, ti_cmul, ti_divc, ti_remc, ti_zero, ti_add, ti_sub, ti_neg, if_lt_ti, if_gt_ti, bP_e0, Classical.not_not, tl_i2l]; omega) (by omega) ?_
        intro j h1 h2
        by_cases q : j = i
        · subst q; exact Or.inl c26
        · exact hI j h1 (by omega)
      · exact hT.1.2
      · exact ⟨x3 hT, by omega⟩
      · rw [ht (by omega), m32] at c26
        rw [ht (by omega), m10] at c39
        rw [up_same, hK] at c66 c83
        rw [m1] at c83
        exact G94 _ hK (Or.inr (by omega)) (Or.inl (by omega))
      · rw [ht (by omega), m32] at c26
        rw [ht (by omega), m10] at c39
        rw [up_same, hK] at c66 c83 c91
        rw [m1] at c83
        rw [m2] at c91
        exact G128 _ hK (Or.inr (by omega)) (by omega) (by omega) (by omega)
      · rw [ht (by omega), m32] at c26
        rw [ht (by omega), m10] at c39
        rw [up_same, hK] at c66 c83 c91
        rw [m1] at c83
        rw [m2] at c91
        exact G94 _ hK (Or.inr (by omega)) (Or.inr (by omega))
      · rw [ht (by omega), m32] at c26
        rw [ht (by omega), m10] at c39
        rw [up_same, hK] at c66
        exact G74 _ hK (Or.inr (by omega)) (by omega)
      · rw [ht (by omega), m10] at c39
        refine ih (k - 1) (by omega) (i + 1) _ (by omega) (by simp (disch := (first | omega | (simp (disch := omega) only [ti_ofInt, ti_addc, ti_subc, ti_mulc, ti_cmul, ti_divc, ti_remc, ti_zero, ti_add, ti_sub, ti_neg, if_lt_ti, if_gt_ti, bP_e0, Classical.not_not, tl_i2l]; omega))) only [ti_ofInt, ti_addc, ti_subc, ti_mulc, ti_cmul, ti_divc, ti_remc, ti_zero, ti_add, ti_sub, ti_neg, if_lt_ti, if_gt_ti, bP_e0, Classical.not_not, tl_i2l]; omega) (by omega) ?_
        intro j h1 h2
        by_cases q : j = i
        · subst q; exact Or.inr c39
        · exact hI j h1 (by omega)
  refine (r_aload_n C dX2_step_0 rfl rfl (r_getI C dX2_step_1 fd_X2_31 nK_13 sK_13 rfl (r_istore_n C dX2_step_4 rfl (by decide) ?_)))
  exact loop1 (kn μ - (μ.1 13 6).toInt.toNat) (μ.1 13 6).toInt.toNat _ (by omega) (by omega) (by omega) (fun j a b => by omega)
theorem ok_X2_isWord {i : Nat} {μ : kMem} (h : kTok μ ∧ i < 3) : kOk yX2_isWord cX2_isWord 3 (some .boolean) rmX2_isWord shK 68 [.ref 13, .ref (1000 + i)] μ (kP (bP (isW (kt μ) (kn μ) (kgs μ) i)) μ) := by
  obtain ⟨h, hi⟩ := h
  have hn := kn_i h.1
  have hs := h.st
  have hz := h.sz
  have hte := h.te
  have hb := klen_b hi
  have m1 : (Int32.ofInt 1).toInt = 1 := by decide
  have il := ti_ofInt (n := (klen.getD i 0 : Nat)) (by omega)
  refine kOk.of rfl (Nat.le_of_ble_eq_true rfl) (fun J C => ?_)
  have C : kR cX2_isWord RX2 3 rmX2_isWord shK 68 (some .boolean) _ J := C
  have loop : ∀ (k p : Nat) (v : Int32), p + k = klen.getD i 0 → v.toInt = p → kdF (kt μ) (kn μ) (kgs μ) = 1 → teF (kt μ) (kn μ) (kgs μ) - kgs μ = klen.getD i 0 → (∀ q, q < p → kt μ (kgs μ + q) = ((kbyt.getD i []).getD q 0).toInt) → J 23 [some (.ref 13), some (.ref (1000 + i)), some (.int v)] [] μ := by
    intro k
    induction k using Nat.strongRecOn with
    | ind k ih =>
      intro p v hk hv h1 h2 hI
      have ex : p < klen.getD i 0 → (μ.1 13 5 + v).toInt = ((kgs μ + p : Nat) : Int) := fun q => by rw [ti_add (by omega)]; omega
      have et : p < klen.getD i 0 → (tat μ (μ.1 13 5 + v).toInt).toInt = kt μ (kgs μ + p) := fun q => by rw [tat_kt (by rw [ex q]; omega) (by rw [ex q]; omega), ex q, Int.toNat_natCast]
      have ep : v.toInt.toNat = p := by omega
      refine (r_iload_n C dX2_isWord_23 rfl rfl (r_aload_n C dX2_isWord_24 rfl rfl (r_t0P C yv_J0_length_8abf5 rfl lk_X2_116 dX2_isWord_25 rfl ?_ (Nat.le_of_ble_eq_true rfl) (ok_J0_length_8abf5 ?_) (r_icmp_ge C (tgt := 60) dX2_isWord_28 rfl (fun c28 => (r_iconst C dX2_isWord_60 (r_zret C dX2_isWord_61 rfl ?_))) (fun c28 => (r_aload_n C dX2_isWord_31 rfl rfl (r_getR C dX2_isWord_32 fd_X2_20 nK_13 sK_13 rfl (r_aload_n C dX2_isWord_35 rfl rfl (r_getI C dX2_isWord_36 fd_X2_41 nK_13 sK_13 rfl (r_iload_n C dX2_isWord_39 rfl rfl (r_iadd C dX2_isWord_40 (r_v1P C yv_X10_at lk_X2_67 dX2_isWord_41 rfl nK_1 sK_1 rfl (Nat.le_of_ble_eq_true rfl) (ok_X10_at ?_) (r_aload_n C dX2_isWord_44 rfl rfl (r_iload_n C dX2_isWord_45 rfl rfl (r_t1P C yv_J0_charAt_5068e rfl lk_X2_121 dX2_isWord_46 rfl ?_ (Nat.le_of_ble_eq_true rfl) (ok_J0_charAt_5068e ?_) (r_icmp_eq C (tgt := 54) dX2_isWord_49 rfl (fun c49 => (r_iinc C dX2_isWord_54 rfl (by decide) (r_goto C (tgt := 23) dX2_isWord_57 rfl ?_))) (fun c49 => (r_iconst C dX2_isWord_52 (r_zret C dX2_isWord_53 rfl ?_)))))))))))))))))))
      · exact hi
      · exact hi
      · rw [il] at c28
        exact ⟨bP_1 ⟨h1, h2, fun q hq => hI q (by omega)⟩, rfl⟩
      · exact h.1.1.2
      · exact hi
      · rw [il] at c28
        exact ⟨hi, by omega, by omega⟩
      · rw [il] at c28
        rw [et (by omega), ep] at c49
        refine ih (k - 1) (by omega) (p + 1) _ (by omega) (by simp (disch := (first | omega | (simp (disch := omega) only [ti_ofInt, ti_addc, ti_subc, ti_mulc, ti_cmul, ti_divc, ti_remc, ti_zero, ti_add, ti_sub, ti_neg, if_lt_ti, if_gt_ti, bP_e0, Classical.not_not, tl_i2l]; omega))) only [ti_ofInt, ti_addc, ti_subc, ti_mulc, ti_cmul, ti_divc, ti_remc, ti_zero, ti_add, ti_sub, ti_neg, if_lt_ti, if_gt_ti, bP_e0, Classical.not_not, tl_i2l]; omega) h1 h2 ?_
        intro q hq
        by_cases e : q = p
        · subst e; exact c49
        · exact hI q (by omega)
      · rw [il] at c28
        rw [et (by omega), ep] at c49
        exact ⟨bP_0 (fun z => c49 (z.2.2 p (by omega))), rfl⟩
  refine (r_aload_n C dX2_isWord_0 rfl rfl (r_getI C dX2_isWord_1 fd_X2_38 nK_13 sK_13 rfl (r_iconst C dX2_isWord_4 (r_icmp_ne C (tgt := 19) dX2_isWord_5 rfl (fun c5 => (r_iconst C dX2_isWord_19 (r_zret C dX2_isWord_20 rfl ?_))) (fun c5 => (r_aload_n C dX2_isWord_8 rfl rfl (r_v0P C yv_X2_tokenSize lk_X2_71 dX2_isWord_9 rfl nK_13 sK_13 rfl (Nat.le_of_ble_eq_true rfl) ok_X2_tokenSize (r_aload_n C dX2_isWord_12 rfl rfl (r_t0P C yv_J0_length_8abf5 rfl lk_X2_116 dX2_isWord_13 rfl ?_ (Nat.le_of_ble_eq_true rfl) (ok_J0_length_8abf5 ?_) (r_icmp_eq C (tgt := 21) dX2_isWord_16 rfl (fun c16 => (r_iconst C dX2_isWord_21 (r_istore_n C dX2_isWord_22 rfl (by decide) ?_))) (fun c16 => (r_iconst C dX2_isWord_19 (r_zret C dX2_isWord_20 rfl ?_)))))))))))))
  · rw [h.2.2.1, m1] at c5
    exact ⟨bP_0 (fun z => by have := z.1; omega), rfl⟩
  · exact hi
  · exact hi
  · rw [h.2.2.1, m1] at c5
    rw [hz, il] at c16
    exact loop (klen.getD i 0) 0 _ (by omega) (by simp (disch := (first | omega | (simp (disch := omega) only [ti_ofInt, ti_addc, ti_subc, ti_mulc, ti_cmul, ti_divc, ti_remc, ti_zero, ti_add, ti_sub, ti_neg, if_lt_ti, if_gt_ti, bP_e0, Classical.not_not, tl_i2l]; omega))) only [ti_ofInt, ti_addc, ti_subc, ti_mulc, ti_cmul, ti_divc, ti_remc, ti_zero, ti_add, ti_sub, ti_neg, if_lt_ti, if_gt_ti, bP_e0, Classical.not_not, tl_i2l]; rfl) (by omega) (by omega) (fun q hq => absurd hq (Nat.not_lt_zero _))
  · rw [hz, il] at c16
    exact ⟨bP_0 (fun z => by have := z.2.1; omega), rfl⟩
theorem ok_X2_marksHere {μ : kMem} (h : kTok μ) : kOk yX2_marksHere cX2_marksHere 4 (some .int) rmX2_marksHere shK 68 [.ref 13] μ (kP (Int32.ofInt (mkV (kt μ) (kn μ) (kgs μ))) μ) := by
  have hn := kn_i h.1
  have hs := h.st
  have hz := h.sz
  have hte := h.te
  have m1 : (Int32.ofInt 1).toInt = 1 := by decide
  have m2 : (Int32.ofInt 2).toInt = 2 := by decide
  have m5 : (Int32.ofInt 5).toInt = 5 := by decide
  have bad : ¬ mkOk (kt μ) (kn μ) (kgs μ) → Int32.ofInt (-1) = Int32.ofInt (mkV (kt μ) (kn μ) (kgs μ)) := fun q => by unfold mkV; rw [if_neg q]
  refine kOk.of rfl (Nat.le_of_ble_eq_true rfl) (fun J C => ?_)
  have C : kR cX2_marksHere RX2 4 rmX2_marksHere shK 68 (some .int) _ J := C
  have loop : ∀ (k p : Nat) (u v : Int32) (z : Option Value), p + k = teF (kt μ) (kn μ) (kgs μ) - kgs μ → kdF (kt μ) (kn μ) (kgs μ) = 2 → teF (kt μ) (kn μ) (kgs μ) - kgs μ ≤ 5 → v.toInt = ((kgs μ + p : Nat) : Int) → u.toInt = numF (kt μ) (kgs μ) p → (∀ q, q < p → kt μ (kgs μ + q) = 49 ∨ kt μ (kgs μ + q) = 50) → J 25 [some (.ref 13), some (.int u), some (.int v), z] [] μ := by
    intro k
    induction k using Nat.strongRecOn with
    | ind k ih =>
      intro p u v z hk hk2 hk5 hv hu hI
      have hb := h.2.2.2
      have et : v.toInt < (μ.1 1 1).toInt → (tat μ v.toInt).toInt = kt μ (kgs μ + p) := fun q => by rw [tat_kt (by omega) (by omega), hv, Int.toNat_natCast]
      have htb := h.1.2 (kgs μ + p)
      have ekt : kt μ (kgs μ + p) = (μ.1 2 (kgs μ + p)).toInt := rfl
      have ed : v.toInt < (μ.1 1 1).toInt → (tat μ v.toInt - Int32.ofInt 48).toInt = kt μ (kgs μ + p) - 48 := fun q => by rw [ti_subc (by rw [et q]; omega), et q]
      have hnb := numF_5 (t := kt μ) (j := kgs μ) (k := p) (by omega) hI
      have eu : (u * Int32.ofInt 10).toInt = numF (kt μ) (kgs μ) p * 10 := by rw [ti_mulc (by omega), hu]
      have good : v.toInt < (μ.1 1 1).toInt → (kt μ (kgs μ + p) = 49 ∨ kt μ (kgs μ + p) = 50) → p < teF (kt μ) (kn μ) (kgs μ) - kgs μ → ∀ z, J 25 [some (.ref 13), some (.int (u * Int32.ofInt 10 + (tat μ v.toInt - Int32.ofInt 48))), some (.int (v + Int32.ofInt 1)), z] [] μ := by
        intro q1 q2 q3 z
        refine ih (k - 1) (by omega) (p + 1) _ _ _ (by omega) hk2 hk5 (by simp (disch := (first | omega | (simp (disch := omega) only [ti_ofInt, ti_addc, ti_subc, ti_mulc, ti_cmul, ti_divc, ti_remc, ti_zero, ti_add, ti_sub, ti_neg, if_lt_ti, if_gt_ti, bP_e0, Classical.not_not, tl_i2l]; omega))) only [ti_ofInt, ti_addc, ti_subc, ti_mulc, ti_cmul, ti_divc, ti_remc, ti_zero, ti_add, ti_sub, ti_neg, if_lt_ti, if_gt_ti, bP_e0, Classical.not_not, tl_i2l]; omega) ?_ ?_
        · have e := ed q1
          rw [ti_add (by omega), eu, e]
          rfl
        · intro q hq
          by_cases e : q = p
          · subst e; exact q2
          · exact hI q (by omega)
      refine (r_iload_n C dX2_marksHere_25 rfl rfl (r_aload_n C dX2_marksHere_26 rfl rfl (r_getI C dX2_marksHere_27 fd_X2_31 nK_13 sK_13 rfl (r_icmp_ge C (tgt := 70) dX2_marksHere_30 rfl (fun c30 => (r_iload_n C dX2_marksHere_70 rfl rfl (r_iret C dX2_marksHere_71 ?_))) (fun c30 => (r_aload_n C dX2_marksHere_33 rfl rfl (r_getR C dX2_marksHere_34 fd_X2_20 nK_13 sK_13 rfl (r_iload_n C dX2_marksHere_37 rfl rfl (r_v1P C yv_X10_at lk_X2_67 dX2_marksHere_38 rfl nK_1 sK_1 rfl (Nat.le_of_ble_eq_true rfl) (ok_X10_at ?_) (r_bipush C dX2_marksHere_41 (by decide +kernel) (r_isub C dX2_marksHere_43 (r_istore_n C dX2_marksHere_44 rfl (by decide) (r_iload_n C dX2_marksHere_45 rfl rfl (r_iconst C dX2_marksHere_46 (r_icmp_eq C (tgt := 57) dX2_marksHere_47 rfl (fun c47 => (r_iload_n C dX2_marksHere_57 rfl rfl (r_bipush C dX2_marksHere_58 (by decide +kernel) (r_imul C dX2_marksHere_60 (r_iload_n C dX2_marksHere_61 rfl rfl (r_iadd C dX2_marksHere_62 (r_istore_n C dX2_marksHere_63 rfl (by decide) (r_iinc C dX2_marksHere_64 rfl (by decide) (r_goto C (tgt := 25) dX2_marksHere_67 rfl ?_))))))))) (fun c47 => (r_iload_n C dX2_marksHere_50 rfl rfl (r_iconst C dX2_marksHere_51 (r_icmp_eq C (tgt := 57) dX2_marksHere_52 rfl (fun c52 => (r_iload_n C dX2_marksHere_57 rfl rfl (r_bipush C dX2_marksHere_58 (by decide +kernel) (r_imul C dX2_marksHere_60 (r_iload_n C dX2_marksHere_61 rfl rfl (r_iadd C dX2_marksHere_62 (r_istore_n C dX2_marksHere_63 rfl (by decide) (r_iinc C dX2_marksHere_64 rfl (by decide) (r_goto C (tgt := 25) dX2_marksHere_67 rfl ?_))))))))) (fun c52 => (r_iconst C dX2_marksHere_55 (r_iret C dX2_marksHere_56 ?_))))))))))))))))))))))
      · have ep : p = teF (kt μ) (kn μ) (kgs μ) - kgs μ := by omega
        have hok : mkOk (kt μ) (kn μ) (kgs μ) := ⟨hk2, hk5, fun q a b => by
          have := hI (q - kgs μ) (by omega)
          rwa [show kgs μ + (q - kgs μ) = q by omega] at this⟩
        refine ⟨ti_ext ?_, rfl⟩
        unfold mkV
        rw [if_pos hok, ← ep, ti_ofInt (by omega), hu]
      · exact h.1.1.2
      · rw [ed (by omega), m1] at c47
        exact good (by omega) (by omega) (by omega) _
      · rw [ed (by omega), m2] at c52
        exact good (by omega) (by omega) (by omega) _
      · rw [ed (by omega), m1] at c47
        rw [ed (by omega), m2] at c52
        refine ⟨bad (fun q => ?_), rfl⟩
        have := q.2.2 (kgs μ + p) (by omega) (by omega)
        omega
  refine (r_aload_n C dX2_marksHere_0 rfl rfl (r_getI C dX2_marksHere_1 fd_X2_38 nK_13 sK_13 rfl (r_iconst C dX2_marksHere_4 (r_icmp_ne C (tgt := 16) dX2_marksHere_5 rfl (fun c5 => (r_iconst C dX2_marksHere_16 (r_iret C dX2_marksHere_17 ?_))) (fun c5 => (r_aload_n C dX2_marksHere_8 rfl rfl (r_v0P C yv_X2_tokenSize lk_X2_71 dX2_marksHere_9 rfl nK_13 sK_13 rfl (Nat.le_of_ble_eq_true rfl) ok_X2_tokenSize (r_iconst C dX2_marksHere_12 (r_icmp_le C (tgt := 18) dX2_marksHere_13 rfl (fun c13 => (r_iconst C dX2_marksHere_18 (r_istore_n C dX2_marksHere_19 rfl (by decide) (r_aload_n C dX2_marksHere_20 rfl rfl (r_getI C dX2_marksHere_21 fd_X2_41 nK_13 sK_13 rfl (r_istore_n C dX2_marksHere_24 rfl (by decide) ?_)))))) (fun c13 => (r_iconst C dX2_marksHere_16 (r_iret C dX2_marksHere_17 ?_))))))))))))
  · rw [h.2.2.1, m2] at c5
    exact ⟨bad (fun q => by have := q.1; omega), rfl⟩
  · rw [h.2.2.1, m2] at c5
    rw [hz, m5] at c13
    exact loop (teF (kt μ) (kn μ) (kgs μ) - kgs μ) 0 _ _ _ (by omega) (by omega) (by omega) (by omega) (by simp (disch := (first | omega | (simp (disch := omega) only [ti_ofInt, ti_addc, ti_subc, ti_mulc, ti_cmul, ti_divc, ti_remc, ti_zero, ti_add, ti_sub, ti_neg, if_lt_ti, if_gt_ti, bP_e0, Classical.not_not, tl_i2l]; omega))) only [ti_ofInt, ti_addc, ti_subc, ti_mulc, ti_cmul, ti_divc, ti_remc, ti_zero, ti_add, ti_sub, ti_neg, if_lt_ti, if_gt_ti, bP_e0, Classical.not_not, tl_i2l]; rfl) (fun q hq => absurd hq (Nat.not_lt_zero _))
  · rw [hz, m5] at c13
    exact ⟨bad (fun q => by have := q.2.1; omega), rfl⟩

