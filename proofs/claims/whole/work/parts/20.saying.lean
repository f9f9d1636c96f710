/-! ===== Saying ===== -/
def kt (μ : kMem) : Nat → Int := fun i => (μ.1 2 i).toInt
def kn (μ : kMem) : Nat := (μ.1 1 1).toInt.toNat
def kTxOk (μ : kMem) : Prop := (0 ≤ (μ.1 1 1).toInt ∧ (μ.1 1 1).toInt ≤ 500) ∧ ∀ i : Nat, 0 ≤ (μ.1 2 i).toInt ∧ (μ.1 2 i).toInt ≤ 255
theorem tat_kt {μ : kMem} {x : Int} (h : 0 ≤ x) (h2 : x < (μ.1 1 1).toInt) : (tat μ x).toInt = kt μ x.toNat := by
  unfold tat kt
  rw [if_pos ⟨h, h2⟩]
theorem ok_X8_size {μ : kMem} : kOk yX8_size cX8_size 1 (some .int) rmX8_size shK 68 [.ref 34] μ (kP (μ.1 34 4) μ) := by
  refine kOk.of rfl (Nat.le_of_ble_eq_true rfl) (fun J C => ?_)
  have C : kR cX8_size RX8 1 rmX8_size shK 68 (some .int) _ J := C
  refine (r_aload_n C dX8_size_0 rfl rfl (r_getI C dX8_size_1 fd_X8_28 nK_34 sK_34 rfl (r_iret C dX8_size_4 ?_)))
  exact ⟨rfl, rfl⟩
def kki (μ : kMem) (x : Int) : Int32 := if 0 ≤ x ∧ x < (μ.1 34 4).toInt then μ.1 35 x.toNat else Int32.ofInt (-1)
theorem ok_X8_kindAt {x : Int32} {μ : kMem} (h : (μ.1 34 4).toInt ≤ 120) : kOk yX8_kindAt cX8_kindAt 2 (some .int) rmX8_kindAt shK 68 [.ref 34, .int x] μ (kP (kki μ x.toInt) μ) := by
  unfold kki
  refine kOk.of rfl (Nat.le_of_ble_eq_true rfl) (fun J C => ?_)
  have C : kR cX8_kindAt RX8 2 rmX8_kindAt shK 68 (some .int) _ J := C
  refine (r_iload_n C dX8_kindAt_0 rfl rfl (r_if_lt C (tgt := 21) dX8_kindAt_1 rfl (fun c1 => (r_iconst C dX8_kindAt_21 (r_iret C dX8_kindAt_22 ?_))) (fun c1 => (r_iload_n C dX8_kindAt_4 rfl rfl (r_aload_n C dX8_kindAt_5 rfl rfl (r_getI C dX8_kindAt_6 fd_X8_28 nK_34 sK_34 rfl (r_icmp_ge C (tgt := 21) dX8_kindAt_9 rfl (fun c9 => (r_iconst C dX8_kindAt_21 (r_iret C dX8_kindAt_22 ?_))) (fun c9 => (r_aload_n C dX8_kindAt_12 rfl rfl (r_getR C dX8_kindAt_13 fd_X8_11 nK_34 sK_34 rfl (r_iload_n C dX8_kindAt_16 rfl rfl (r_iald C dX8_kindAt_17 nK_35 sK_35 ?_ (r_goto C (tgt := 22) dX8_kindAt_18 rfl (r_iret C dX8_kindAt_22 ?_))))))))))))))
  · exact ⟨(if_neg (by omega)).symm, rfl⟩
  · exact ⟨(if_neg (by omega)).symm, rfl⟩
  · omega
  · exact ⟨(if_pos (by omega)).symm, rfl⟩
theorem ok_X8_isThere {μ : kMem} (h : kTxOk μ) : kOk yX8_isThere cX8_isThere 3 (some .boolean) rmX8_isThere shK 68 [.ref 34] μ (kP (bP (isSay (kn μ) (kt μ))) μ) := by
  have h0 := h.1
  refine kOk.of rfl (Nat.le_of_ble_eq_true rfl) (fun J C => ?_)
  have C : kR cX8_isThere RX8 3 rmX8_isThere shK 68 (some .boolean) _ J := C
  have loop : ∀ (k i : Nat) (a v : Int32), (i : Int) + k = (μ.1 1 1).toInt → v.toInt = i → (∀ j, j < i → isLt (kt μ j) ∨ (kt μ j = 32 ∧ 0 < j ∧ isLt (kt μ (j - 1)))) → a = bP (0 < i ∧ isLt (kt μ (i - 1))) → J 4 [some (.ref 34), some (.int a), some (.int v)] [] μ := by
    intro k
    induction k using Nat.strongRecOn with
    | ind k ih =>
      intro i a v hk hv hI ha
      have ev : v.toInt.toNat = i := by omega
      have ht : (i : Int) < (μ.1 1 1).toInt → (tat μ v.toInt).toInt = kt μ i := fun q => by rw [tat_kt (by omega) (by omega), ev]
      refine (r_iload_n C dX8_isThere_4 rfl rfl (r_aload_n C dX8_isThere_5 rfl rfl (r_getR C dX8_isThere_6 fd_X8_20 nK_34 sK_34 rfl (r_v0P C yv_X10_size lk_X8_32 dX8_isThere_9 rfl nK_1 sK_1 rfl (Nat.le_of_ble_eq_true rfl) ok_X10_size (r_icmp_ge C (tgt := 61) dX8_isThere_12 rfl (fun c12 => (r_iload_n C dX8_isThere_61 rfl rfl (r_zret C dX8_isThere_62 ?_ ?_))) (fun c12 => (r_aload_n C dX8_isThere_15 rfl rfl (r_getR C dX8_isThere_16 fd_X8_20 nK_34 sK_34 rfl (r_iload_n C dX8_isThere_19 rfl rfl (r_v1P C yv_X10_isLetter lk_X8_37 dX8_isThere_20 rfl nK_1 sK_1 rfl (Nat.le_of_ble_eq_true rfl) (ok_X10_isLetter ?_) (r_if_eq C (tgt := 31) dX8_isThere_23 rfl (fun c23 => (r_aload_n C dX8_isThere_31 rfl rfl (r_getR C dX8_isThere_32 fd_X8_20 nK_34 sK_34 rfl (r_iload_n C dX8_isThere_35 rfl rfl (r_v1P C yv_X10_at lk_X8_41 dX8_isThere_36 rfl nK_1 sK_1 rfl (Nat.le_of_ble_eq_true rfl) (ok_X10_at ?_) (r_bipush C dX8_isThere_39 (by decide +kernel) (r_icmp_ne C (tgt := 53) dX8_isThere_41 rfl (fun c41 => (r_iconst C dX8_isThere_53 (r_zret C dX8_isThere_54 rfl ?_))) (fun c41 => (r_iload_n C dX8_isThere_44 rfl rfl (r_if_eq C (tgt := 53) dX8_isThere_45 rfl (fun c45 => (r_iconst C dX8_isThere_53 (r_zret C dX8_isThere_54 rfl ?_))) (fun c45 => (r_iconst C dX8_isThere_48 (r_istore_n C dX8_isThere_49 rfl (by decide) (r_goto C (tgt := 55) dX8_isThere_50 rfl (r_iinc C dX8_isThere_55 rfl (by decide) (r_goto C (tgt := 4) dX8_isThere_58 rfl ?_)))))))))))))))) (fun c23 => (r_iconst C dX8_isThere_26 (r_istore_n C dX8_isThere_27 rfl (by decide) (r_goto C (tgt := 55) dX8_isThere_28 rfl (r_iinc C dX8_isThere_55 rfl (by decide) (r_goto C (tgt := 4) dX8_isThere_58 rfl ?_)))))))))))))))))
      · rw [ha]; exact bP_nz _
      · have hi : i = kn μ := by unfold kn; omega
        refine ⟨?_, rfl⟩
        rw [ha]
        refine bP_iff ⟨fun q => ⟨by omega, fun j hj => ?_⟩, fun q => ⟨by have := q.1; omega, ?_⟩⟩
        · rcases hI j (by omega) with h1 | h1
          · exact Or.inl h1
          · refine Or.inr ⟨h1.1, h1.2.1, ?_, h1.2.2⟩
            rcases (show j + 1 < kn μ ∨ j = i - 1 by omega) with h2 | h2
            · exact h2
            · rw [h2] at h1
              have := q.2
              have := h1.1
              unfold isLt at *
              omega
        · have hp := q.1
          rcases q.2 (i - 1) (by omega) with h1 | h1
          · exact h1
          · have := h1.2.2.1; omega
      · exact h0.2
      · exact h0.2
      · rw [ht (by omega)] at c23 c41
        simp (disch := (first | omega | (simp (disch := omega) only [ti_ofInt, ti_addc, ti_subc, ti_mulc, ti_cmul, ti_divc, ti_remc, ti_zero, ti_add, ti_sub, ti_neg, if_lt_ti, if_gt_ti, bP_e0, Classical.not_not, tl_i2l]; omega))) only [ti_ofInt, ti_addc, ti_subc, ti_mulc, ti_cmul, ti_divc, ti_remc, ti_zero, ti_add, ti_sub, ti_neg, if_lt_ti, if_gt_ti, bP_e0, Classical.not_not, tl_i2l] at c41
        have nl : ¬ isLt (kt μ i) := bP_e0.mp c23
        refine ⟨bP_0 ?_, rfl⟩
        intro q
        rcases q.2 i (by unfold kn; omega) with h1 | h1
        · exact nl h1
        · exact c41 h1.1
      · rw [ht (by omega)] at c23 c41
        simp (disch := (first | omega | (simp (disch := omega) only [ti_ofInt, ti_addc, ti_subc, ti_mulc, ti_cmul, ti_divc, ti_remc, ti_zero, ti_add, ti_sub, ti_neg, if_lt_ti, if_gt_ti, bP_e0, Classical.not_not, tl_i2l]; omega))) only [ti_ofInt, ti_addc, ti_subc, ti_mulc, ti_cmul, ti_divc, ti_remc, ti_zero, ti_add, ti_sub, ti_neg, if_lt_ti, if_gt_ti, bP_e0, Classical.not_not, tl_i2l] at c41
        have nl : ¬ isLt (kt μ i) := bP_e0.mp c23
        rw [ha, bP_e0] at c45
        refine ⟨bP_0 ?_, rfl⟩
        intro q
        rcases q.2 i (by unfold kn; omega) with h1 | h1
        · exact nl h1
        · exact c45 ⟨h1.2.1, h1.2.2.2⟩
      · rw [ht (by omega)] at c23 c41
        simp (disch := (first | omega | (simp (disch := omega) only [ti_ofInt, ti_addc, ti_subc, ti_mulc, ti_cmul, ti_divc, ti_remc, ti_zero, ti_add, ti_sub, ti_neg, if_lt_ti, if_gt_ti, bP_e0, Classical.not_not, tl_i2l]; omega))) only [ti_ofInt, ti_addc, ti_subc, ti_mulc, ti_cmul, ti_divc, ti_remc, ti_zero, ti_add, ti_sub, ti_neg, if_lt_ti, if_gt_ti, bP_e0, Classical.not_not, tl_i2l] at c41
        have nl : ¬ isLt (kt μ i) := bP_e0.mp c23
        rw [ha] at c45
        have c45 := bP_ne c45
        refine ih (k - 1) (by omega) (i + 1) _ _ (by omega) (by simp (disch := (first | omega | (simp (disch := omega) only [ti_ofInt, ti_addc, ti_subc, ti_mulc, ti_cmul, ti_divc, ti_remc, ti_zero, ti_add, ti_sub, ti_neg, if_lt_ti, if_gt_ti, bP_e0, Classical.not_not, tl_i2l]; omega))) only [ti_ofInt, ti_addc, ti_subc, ti_mulc, ti_cmul, ti_divc, ti_remc, ti_zero, ti_add, ti_sub, ti_neg, if_lt_ti, if_gt_ti, bP_e0, Classical.not_not, tl_i2l]; omega) ?_ (bP_0 (fun q => nl q.2))
        intro j hj
        by_cases e : j = i
        · subst e; exact Or.inr ⟨c41, c45.1, c45.2⟩
        · exact hI j (by omega)
      · rw [ht (by omega)] at c23
        have nl : isLt (kt μ i) := bP_ne c23
        refine ih (k - 1) (by omega) (i + 1) _ _ (by omega) (by simp (disch := (first | omega | (simp (disch := omega) only [ti_ofInt, ti_addc, ti_subc, ti_mulc, ti_cmul, ti_divc, ti_remc, ti_zero, ti_add, ti_sub, ti_neg, if_lt_ti, if_gt_ti, bP_e0, Classical.not_not, tl_i2l]; omega))) only [ti_ofInt, ti_addc, ti_subc, ti_mulc, ti_cmul, ti_divc, ti_remc, ti_zero, ti_add, ti_sub, ti_neg, if_lt_ti, if_gt_ti, bP_e0, Classical.not_not, tl_i2l]; omega) ?_ (bP_1 ⟨by omega, nl⟩)
        intro j hj
        by_cases e : j = i
        · subst e; exact Or.inl nl
        · exact hI j (by omega)
  refine (r_iconst C dX8_isThere_0 (r_istore_n C dX8_isThere_1 rfl (by decide) (r_iconst C dX8_isThere_2 (r_istore_n C dX8_isThere_3 rfl (by decide) ?_))))
  exact loop (kn μ) 0 _ _ (by unfold kn; omega) (by simp (disch := (first | omega | (simp (disch := omega) only [ti_ofInt, ti_addc, ti_subc, ti_mulc, ti_cmul, ti_divc, ti_remc, ti_zero, ti_add, ti_sub, ti_neg, if_lt_ti, if_gt_ti, bP_e0, Classical.not_not, tl_i2l]; omega))) only [ti_ofInt, ti_addc, ti_subc, ti_mulc, ti_cmul, ti_divc, ti_remc, ti_zero, ti_add, ti_sub, ti_neg, if_lt_ti, if_gt_ti, bP_e0, Classical.not_not, tl_i2l]; omega) (fun j q => by omega) (bP_0 (by omega))
theorem ok_X8_addKind {x : Int32} {μ : kMem} : kOk yX8_addKind cX8_addKind 2 (none) rmX8_addKind shK 68 [.ref 34, .int x] μ (kN fun μ' => (0 ≤ (μ.1 34 4).toInt ∧ (μ.1 34 4).toInt < 120 ∧ μ' = up (up μ 35 (μ.1 34 4).toInt.toNat x) 34 4 (Int32.ofInt ((μ.1 34 4).toInt + 1))) ∨ (¬ (0 ≤ (μ.1 34 4).toInt ∧ (μ.1 34 4).toInt < 120) ∧ μ' = μ)) := by
  have e1 : (μ.1 34 4).toInt < 120 → μ.1 34 4 + Int32.ofInt 1 = Int32.ofInt ((μ.1 34 4).toInt + 1) := fun q => ti_ext (by have := ti_lo (μ.1 34 4); simp (disch := (first | omega | (simp (disch := omega) only [ti_ofInt, ti_addc, ti_subc, ti_mulc, ti_cmul, ti_divc, ti_remc, ti_zero, ti_add, ti_sub, ti_neg, if_lt_ti, if_gt_ti, bP_e0, Classical.not_not, tl_i2l]; omega))) only [ti_ofInt, ti_addc, ti_subc, ti_mulc, ti_cmul, ti_divc, ti_remc, ti_zero, ti_add, ti_sub, ti_neg, if_lt_ti, if_gt_ti, bP_e0, Classical.not_not, tl_i2l])
  refine kOk.of rfl (Nat.le_of_ble_eq_true rfl) (fun J C => ?_)
  have C : kR cX8_addKind RX8 2 rmX8_addKind shK 68 (none) _ J := C
  refine (r_aload_n C dX8_addKind_0 rfl rfl (r_getI C dX8_addKind_1 fd_X8_28 nK_34 sK_34 rfl (r_if_lt C (tgt := 36) dX8_addKind_4 rfl (fun c4 => (r_ret C dX8_addKind_36 ?_)) (fun c4 => (r_aload_n C dX8_addKind_7 rfl rfl (r_getI C dX8_addKind_8 fd_X8_28 nK_34 sK_34 rfl (r_bipush C dX8_addKind_11 (by decide +kernel) (r_icmp_ge C (tgt := 36) dX8_addKind_13 rfl (fun c13 => (r_ret C dX8_addKind_36 ?_)) (fun c13 => (r_aload_n C dX8_addKind_16 rfl rfl (r_getR C dX8_addKind_17 fd_X8_11 nK_34 sK_34 rfl (r_aload_n C dX8_addKind_20 rfl rfl (r_getI C dX8_addKind_21 fd_X8_28 nK_34 sK_34 rfl (r_iload_n C dX8_addKind_24 rfl rfl (r_iast C dX8_addKind_25 nK_35 sK_35 ?_ (r_aload_n C dX8_addKind_26 rfl rfl (r_dup C dX8_addKind_27 rfl (r_getI C dX8_addKind_28 fd_X8_28 nK_34 sK_34 rfl (r_iconst C dX8_addKind_31 (r_iadd C dX8_addKind_32 (r_putI C dX8_addKind_33 fw_X8_28 nK_34 sK_34 rfl (r_ret C dX8_addKind_36 ?_))))))))))))))))))))))
  · exact Or.inr ⟨by omega, rfl⟩
  · simp (disch := (first | omega | (simp (disch := omega) only [ti_ofInt, ti_addc, ti_subc, ti_mulc, ti_cmul, ti_divc, ti_remc, ti_zero, ti_add, ti_sub, ti_neg, if_lt_ti, if_gt_ti, bP_e0, Classical.not_not, tl_i2l]; omega))) only [ti_ofInt, ti_addc, ti_subc, ti_mulc, ti_cmul, ti_divc, ti_remc, ti_zero, ti_add, ti_sub, ti_neg, if_lt_ti, if_gt_ti, bP_e0, Classical.not_not, tl_i2l] at c13
    exact Or.inr ⟨by omega, rfl⟩
  · simp (disch := (first | omega | (simp (disch := omega) only [ti_ofInt, ti_addc, ti_subc, ti_mulc, ti_cmul, ti_divc, ti_remc, ti_zero, ti_add, ti_sub, ti_neg, if_lt_ti, if_gt_ti, bP_e0, Classical.not_not, tl_i2l]; omega))) only [ti_ofInt, ti_addc, ti_subc, ti_mulc, ti_cmul, ti_divc, ti_remc, ti_zero, ti_add, ti_sub, ti_neg, if_lt_ti, if_gt_ti, bP_e0, Classical.not_not, tl_i2l] at c13
    omega
  · simp (disch := (first | omega | (simp (disch := omega) only [ti_ofInt, ti_addc, ti_subc, ti_mulc, ti_cmul, ti_divc, ti_remc, ti_zero, ti_add, ti_sub, ti_neg, if_lt_ti, if_gt_ti, bP_e0, Classical.not_not, tl_i2l]; omega))) only [ti_ofInt, ti_addc, ti_subc, ti_mulc, ti_cmul, ti_divc, ti_remc, ti_zero, ti_add, ti_sub, ti_neg, if_lt_ti, if_gt_ti, bP_e0, Classical.not_not, tl_i2l] at c13
    exact Or.inl ⟨c4, c13, by rw [← e1 c13]; rfl⟩
/-- nothing but the kinds and their number has changed, and these are as told -/
def kSay (μ : kMem) (ks : List Int) (μ' : kMem) : Prop := (μ'.1 34 4).toInt = ks.length ∧ (∀ j (hj : j < ks.length), (μ'.1 35 j).toInt = ks[j]) ∧ ∀ a b : Nat, ¬ (a = 34 ∧ b = 4) → a ≠ 35 → μ'.1 a b = μ.1 a b
theorem kSay.snoc {μ μ' : kMem} {ks : List Int} (h : kSay μ ks μ') (hl : ks.length < 120) {x : Int32} : kSay μ (ks ++ [x.toInt]) (up (up μ' 35 (μ'.1 34 4).toInt.toNat x) 34 4 (Int32.ofInt ((μ'.1 34 4).toInt + 1))) := by
  obtain ⟨h1, h2, h3⟩ := h
  refine ⟨?_, ?_, ?_⟩
  · rw [up_same, h1, ti_ofInt (by omega), List.length_append]
    rfl
  · intro j hj
    rw [up_neo _ _ (by decide), h1, Int.toNat_natCast]
    rw [List.length_append] at hj
    by_cases e : j = ks.length
    · subst e
      rw [up_same]
      simp
    · rw [up_nek _ _ e, h2 j (by simp at hj; omega), List.getElem_append_left (by simp at hj; omega)]
  · intro a b n1 n2
    rw [up_ne _ _ n1, up_neo _ _ n2]
    exact h3 a b n1 n2
def kCdOk (μ : kMem) : Prop := kSzOk μ
theorem kSay.far {μ μ' : kMem} {ks : List Int} (h : kSay μ ks μ') {a b : Nat} (h1 : a ≠ 34) (h2 : a ≠ 35) : μ'.1 a b = μ.1 a b := h.2.2 a b (fun q => h1 q.1) h2
theorem kSay_ksz {μ μ' : kMem} {ks : List Int} (h : kSay μ ks μ') : ksz μ' = ksz μ := by
  funext x
  unfold ksz
  simp (disch := decide) only [h.far]
theorem kSay_kkd {μ μ' : kMem} {ks : List Int} (h : kSay μ ks μ') : kkd μ' = kkd μ := by
  funext x p
  unfold kkd
  rw [kSay_ksz h]
  simp (disch := decide) only [h.far]
theorem kSay_kSzOk {μ μ' : kMem} {ks : List Int} (h : kSay μ ks μ') (h0 : kSzOk μ) : kSzOk μ' := by
  intro l
  simp (disch := decide) only [h.far]
  exact h0 l
theorem kSay.add {μ0 μ1 μ2 : kMem} {ks : List Int} (h : kSay μ0 ks μ1) (hl : ks.length < 120) {x : Int32} (hx : (0 ≤ (μ1.1 34 4).toInt ∧ (μ1.1 34 4).toInt < 120 ∧ μ2 = up (up μ1 35 (μ1.1 34 4).toInt.toNat x) 34 4 (Int32.ofInt ((μ1.1 34 4).toInt + 1))) ∨ (¬ (0 ≤ (μ1.1 34 4).toInt ∧ (μ1.1 34 4).toInt < 120) ∧ μ2 = μ1)) : kSay μ0 (ks ++ [x.toInt]) μ2 := by
  have := h.1
  rcases hx with ⟨_, _, rfl⟩ | ⟨q, _⟩
  · exact h.snoc hl
  · exact absurd (by omega) q
theorem ok_X8_spellLetter {x g : Int32} {μ μ0 : kMem} {ks : List Int} (h : kSzOk μ0 ∧ kSay μ0 ks μ ∧ ks.length ≤ 120) : kOk yX8_spellLetter cX8_spellLetter 6 (some .boolean) rmX8_spellLetter shK 68 [.ref 34, .int x, .int g] μ (kI fun r μ' => (((ksz μ0 x.toInt).toInt = 0 ∨ 120 < ks.length + 2 * (ksz μ0 x.toInt).toInt) ∧ r = Int32.ofInt 0 ∧ μ' = μ) ∨ (¬ ((ksz μ0 x.toInt).toInt = 0 ∨ 120 < ks.length + 2 * (ksz μ0 x.toInt).toInt) ∧ r = Int32.ofInt 1 ∧ kSay μ0 (ks ++ ((if g.toInt = -1 then [] else [g.toInt]) ++ letK (fun i => (kkd μ0 x.toInt i).toInt) (ksz μ0 x.toInt).toInt.toNat)) μ')) := by
  obtain ⟨hz, hS, hl⟩ := h
  have hb := ksz_b hz x.toInt
  obtain ⟨n, hn⟩ : ∃ n : Nat, (ksz μ0 x.toInt).toInt = n := ⟨(ksz μ0 x.toInt).toInt.toNat, by omega⟩
  rw [hn] at hb
  have hsz := hS.1
  have ez := kSay_ksz hS
  refine kOk.of rfl (Nat.le_of_ble_eq_true rfl) (fun J C => ?_)
  have C : kR cX8_spellLetter RX8 6 rmX8_spellLetter shK 68 (some .boolean) _ J := C
  have loop : ∀ (k j : Nat) (v : Int32) (z : Option Value) (μ' : kMem), j + k = n → v.toInt = j → ¬ (n = 0 ∨ 120 < ks.length + 2 * n) → kSay μ0 (if j = 0 then ks else ks ++ ((if g.toInt = -1 then [] else [g.toInt]) ++ letK (fun i => (kkd μ0 x.toInt i).toInt) j)) μ' → J 31 [some (.ref 34), some (.int x), some (.int g), some (.int (ksz μ0 x.toInt)), some (.int v), z] [] μ' := by
    intro k
    induction k using Nat.strongRecOn with
    | ind k ih =>
      intro j v z μ' hk hv hlim hI
      have eg : ∀ (L : List Int) (μ1 : kMem), kSay μ0 L μ1 → kkd μ1 x.toInt v.toInt = kkd μ0 x.toInt j := fun L μ1 q => by rw [kSay_kkd q, hv]
      have lenL := letK_len (kd := fun i => (kkd μ0 x.toInt i).toInt)
      have lenP : (if g.toInt = -1 then ([] : List Int) else [g.toInt]).length ≤ 1 := by split <;> simp
      have fin : ∀ (L : List Int) (μ1 μ2 : kMem) (z' : Option Value), kSay μ0 L μ1 → L.length < 120 → L ++ [(kkd μ0 x.toInt j).toInt] = ks ++ ((if g.toInt = -1 then [] else [g.toInt]) ++ letK (fun i => (kkd μ0 x.toInt i).toInt) (j + 1)) → j < n → ((0 ≤ (μ1.1 34 4).toInt ∧ (μ1.1 34 4).toInt < 120 ∧ μ2 = up (up μ1 35 (μ1.1 34 4).toInt.toNat (kkd μ1 x.toInt v.toInt)) 34 4 (Int32.ofInt ((μ1.1 34 4).toInt + 1))) ∨ (¬ (0 ≤ (μ1.1 34 4).toInt ∧ (μ1.1 34 4).toInt < 120) ∧ μ2 = μ1)) → J 31 [some (.ref 34), some (.int x), some (.int g), some (.int (ksz μ0 x.toInt)), some (.int (v + Int32.ofInt 1)), z'] [] μ2 := by
        intro L μ1 μ2 z' h1 h2 h3 h4 h5
        have h6 := h1.add h2 h5
        rw [eg L μ1 h1, h3] at h6
        refine ih (k - 1) (by omega) (j + 1) _ _ _ (by omega) (by simp (disch := (first | omega | (simp (disch := omega) only [ti_ofInt, ti_addc, ti_subc, ti_mulc, ti_cmul, ti_divc, ti_remc, ti_zero, ti_add, ti_sub, ti_neg, if_lt_ti, if_gt_ti, bP_e0, Classical.not_not, tl_i2l]; omega))) only [ti_ofInt, ti_addc, ti_subc, ti_mulc, ti_cmul, ti_divc, ti_remc, ti_zero, ti_add, ti_sub, ti_neg, if_lt_ti, if_gt_ti, bP_e0, Classical.not_not, tl_i2l]; omega) hlim ?_
        rw [if_neg (by omega)]
        exact h6
      refine (r_iload C dX8_spellLetter_31 rfl (r_iload_n C dX8_spellLetter_33 rfl rfl (r_icmp_ge C (tgt := 81) dX8_spellLetter_34 rfl (fun c34 => (r_iconst C dX8_spellLetter_81 (r_zret C dX8_spellLetter_82 rfl ?_))) (fun c34 => (r_iload C dX8_spellLetter_37 rfl (r_if_ne C (tgt := 46) dX8_spellLetter_39 rfl (fun c39 => (r_iconst C dX8_spellLetter_46 (r_istore C dX8_spellLetter_47 (by decide) (r_iload C dX8_spellLetter_49 rfl (r_iconst C dX8_spellLetter_51 (r_icmp_eq C (tgt := 61) dX8_spellLetter_52 rfl (fun c52 => (r_aload_n C dX8_spellLetter_61 rfl rfl (r_aload_n C dX8_spellLetter_62 rfl rfl (r_getR C dX8_spellLetter_63 fd_X8_24 nK_34 sK_34 rfl (r_iload_n C dX8_spellLetter_66 rfl rfl (r_iload C dX8_spellLetter_67 rfl (r_v2P C yv_X1_kindOf lk_X8_58 dX8_spellLetter_69 rfl nK_3 sK_3 rfl (Nat.le_of_ble_eq_true rfl) (ok_X1_kindOf_3 ?_) (r_v1N C yv_X8_addKind lk_X8_54 dX8_spellLetter_72 rfl nK_34 sK_34 rfl (Nat.le_of_ble_eq_true rfl) ok_X8_addKind (fun μ72 h72 => (r_iinc C dX8_spellLetter_75 rfl (by decide) (r_goto C (tgt := 31) dX8_spellLetter_78 rfl ?_))))))))))) (fun c52 => (r_aload_n C dX8_spellLetter_55 rfl rfl (r_iload C dX8_spellLetter_56 rfl (r_v1N C yv_X8_addKind lk_X8_54 dX8_spellLetter_58 rfl nK_34 sK_34 rfl (Nat.le_of_ble_eq_true rfl) ok_X8_addKind (fun μ58 h58 => (r_aload_n C dX8_spellLetter_61 rfl rfl (r_aload_n C dX8_spellLetter_62 rfl rfl (r_getR C dX8_spellLetter_63 fd_X8_24 nK_34 sK_34 rfl (r_iload_n C dX8_spellLetter_66 rfl rfl (r_iload C dX8_spellLetter_67 rfl (r_v2P C yv_X1_kindOf lk_X8_58 dX8_spellLetter_69 rfl nK_3 sK_3 rfl (Nat.le_of_ble_eq_true rfl) (ok_X1_kindOf_3 ?_) (r_v1N C yv_X8_addKind lk_X8_54 dX8_spellLetter_72 rfl nK_34 sK_34 rfl (Nat.le_of_ble_eq_true rfl) ok_X8_addKind (fun μ72 h72 => (r_iinc C dX8_spellLetter_75 rfl (by decide) (r_goto C (tgt := 31) dX8_spellLetter_78 rfl ?_))))))))))))))))))))) (fun c39 => (r_iload_n C dX8_spellLetter_42 rfl rfl (r_goto C (tgt := 47) dX8_spellLetter_43 rfl (r_istore C dX8_spellLetter_47 (by decide) (r_iload C dX8_spellLetter_49 rfl (r_iconst C dX8_spellLetter_51 (r_icmp_eq C (tgt := 61) dX8_spellLetter_52 rfl (fun c52 => (r_aload_n C dX8_spellLetter_61 rfl rfl (r_aload_n C dX8_spellLetter_62 rfl rfl (r_getR C dX8_spellLetter_63 fd_X8_24 nK_34 sK_34 rfl (r_iload_n C dX8_spellLetter_66 rfl rfl (r_iload C dX8_spellLetter_67 rfl (r_v2P C yv_X1_kindOf lk_X8_58 dX8_spellLetter_69 rfl nK_3 sK_3 rfl (Nat.le_of_ble_eq_true rfl) (ok_X1_kindOf_3 ?_) (r_v1N C yv_X8_addKind lk_X8_54 dX8_spellLetter_72 rfl nK_34 sK_34 rfl (Nat.le_of_ble_eq_true rfl) ok_X8_addKind (fun μ72 h72 => (r_iinc C dX8_spellLetter_75 rfl (by decide) (r_goto C (tgt := 31) dX8_spellLetter_78 rfl ?_))))))))))) (fun c52 => (r_aload_n C dX8_spellLetter_55 rfl rfl (r_iload C dX8_spellLetter_56 rfl (r_v1N C yv_X8_addKind lk_X8_54 dX8_spellLetter_58 rfl nK_34 sK_34 rfl (Nat.le_of_ble_eq_true rfl) ok_X8_addKind (fun μ58 h58 => (r_aload_n C dX8_spellLetter_61 rfl rfl (r_aload_n C dX8_spellLetter_62 rfl rfl (r_getR C dX8_spellLetter_63 fd_X8_24 nK_34 sK_34 rfl (r_iload_n C dX8_spellLetter_66 rfl rfl (r_iload C dX8_spellLetter_67 rfl (r_v2P C yv_X1_kindOf lk_X8_58 dX8_spellLetter_69 rfl nK_3 sK_3 rfl (Nat.le_of_ble_eq_true rfl) (ok_X1_kindOf_3 ?_) (r_v1N C yv_X8_addKind lk_X8_54 dX8_spellLetter_72 rfl nK_34 sK_34 rfl (Nat.le_of_ble_eq_true rfl) ok_X8_addKind (fun μ72 h72 => (r_iinc C dX8_spellLetter_75 rfl (by decide) (r_goto C (tgt := 31) dX8_spellLetter_78 rfl ?_))))))))))))))))))))))))))))
      · have e : j = n := by omega
        rw [if_neg (by omega), e] at hI
        refine Or.inr ⟨by omega, rfl, ?_⟩
        rw [hn]
        exact hI
      · exact absurd c52 (by decide)
      · exact absurd c52 (by decide)
      · rw [if_neg (by omega)] at hI
        have hlen : (ks ++ ((if g.toInt = -1 then [] else [g.toInt]) ++ letK (fun i => (kkd μ0 x.toInt i).toInt) j)).length < 119 := by
          rw [List.length_append, List.length_append, lenL]
          omega
        exact kSay_kSzOk (hI.add (by omega) h58) hz
      · rw [if_neg (by omega)] at hI
        have hlen : (ks ++ ((if g.toInt = -1 then [] else [g.toInt]) ++ letK (fun i => (kkd μ0 x.toInt i).toInt) j)).length < 119 := by
          rw [List.length_append, List.length_append, lenL]
          omega
        have h1 := hI.add (by omega) h58
        refine fin _ _ _ _ h1 (by rw [List.length_append]; show _ + 1 < 120; omega) ?_ (by omega) h72
        rw [show (Int32.ofInt 2).toInt = 2 by decide]
        show _ = ks ++ (_ ++ (letK _ j ++ (if j = 0 then _ else _)))
        rw [if_neg (show ¬ j = 0 by omega)]
        simp only [List.append_assoc]
        rfl
      · rw [if_pos (by omega)] at hI
        exact kSay_kSzOk hI hz
      · rw [if_pos (by omega)] at hI
        simp (disch := (first | omega | (simp (disch := omega) only [ti_ofInt, ti_addc, ti_subc, ti_mulc, ti_cmul, ti_divc, ti_remc, ti_zero, ti_add, ti_sub, ti_neg, if_lt_ti, if_gt_ti, bP_e0, Classical.not_not, tl_i2l]; omega))) only [ti_ofInt, ti_addc, ti_subc, ti_mulc, ti_cmul, ti_divc, ti_remc, ti_zero, ti_add, ti_sub, ti_neg, if_lt_ti, if_gt_ti, bP_e0, Classical.not_not, tl_i2l] at c52
        refine fin _ _ _ _ hI (by omega) ?_ (by omega) h72
        obtain rfl : j = 0 := by omega
        rw [if_pos c52]
        rfl
      · rw [if_pos (by omega)] at hI
        exact kSay_kSzOk (hI.add (by omega) h58) hz
      · rw [if_pos (by omega)] at hI
        simp (disch := (first | omega | (simp (disch := omega) only [ti_ofInt, ti_addc, ti_subc, ti_mulc, ti_cmul, ti_divc, ti_remc, ti_zero, ti_add, ti_sub, ti_neg, if_lt_ti, if_gt_ti, bP_e0, Classical.not_not, tl_i2l]; omega))) only [ti_ofInt, ti_addc, ti_subc, ti_mulc, ti_cmul, ti_divc, ti_remc, ti_zero, ti_add, ti_sub, ti_neg, if_lt_ti, if_gt_ti, bP_e0, Classical.not_not, tl_i2l] at c52
        have h1 := hI.add (by omega) h58
        refine fin _ _ _ _ h1 (by rw [List.length_append]; simp; omega) ?_ (by omega) h72
        obtain rfl : j = 0 := by omega
        rw [if_neg c52]
        simp only [List.append_assoc]
        rfl
  have h2n : (Int32.ofInt 2 * ksz μ x.toInt).toInt = 2 * n := by
    rw [ez, ti_cmul (by omega)]; omega
  refine (r_aload_n C dX8_spellLetter_0 rfl rfl (r_getR C dX8_spellLetter_1 fd_X8_24 nK_34 sK_34 rfl (r_iload_n C dX8_spellLetter_4 rfl rfl (r_v1P C yv_X1_sizeOf lk_X8_49 dX8_spellLetter_5 rfl nK_3 sK_3 rfl (Nat.le_of_ble_eq_true rfl) ok_X1_sizeOf_3 (r_istore_n C dX8_spellLetter_8 rfl (by decide) (r_iload_n C dX8_spellLetter_9 rfl rfl (r_if_eq C (tgt := 26) dX8_spellLetter_10 rfl (fun c10 => (r_iconst C dX8_spellLetter_26 (r_zret C dX8_spellLetter_27 rfl ?_))) (fun c10 => (r_aload_n C dX8_spellLetter_13 rfl rfl (r_getI C dX8_spellLetter_14 fd_X8_28 nK_34 sK_34 rfl (r_iconst C dX8_spellLetter_17 (r_iload_n C dX8_spellLetter_18 rfl rfl (r_imul C dX8_spellLetter_19 (r_iadd C dX8_spellLetter_20 (r_bipush C dX8_spellLetter_21 (by decide +kernel) (r_icmp_le C (tgt := 28) dX8_spellLetter_23 rfl (fun c23 => (r_iconst C dX8_spellLetter_28 (r_istore C dX8_spellLetter_29 (by decide) ?_))) (fun c23 => (r_iconst C dX8_spellLetter_26 (r_zret C dX8_spellLetter_27 rfl ?_)))))))))))))))))))
  · rw [ez] at c10
    exact Or.inl ⟨Or.inl c10, rfl, rfl⟩
  · rw [ez] at c10
    rw [ti_add (by rw [h2n]; omega), h2n, ti_ofInt (by omega)] at c23
    have e0 := loop n 0 (Int32.ofInt 0) none μ (by omega) (by simp (disch := (first | omega | (simp (disch := omega) only [ti_ofInt, ti_addc, ti_subc, ti_mulc, ti_cmul, ti_divc, ti_remc, ti_zero, ti_add, ti_sub, ti_neg, if_lt_ti, if_gt_ti, bP_e0, Classical.not_not, tl_i2l]; omega))) only [ti_ofInt, ti_addc, ti_subc, ti_mulc, ti_cmul, ti_divc, ti_remc, ti_zero, ti_add, ti_sub, ti_neg, if_lt_ti, if_gt_ti, bP_e0, Classical.not_not, tl_i2l]; omega) (by omega) hS
    rw [← ez] at e0
    exact e0
  · rw [ez] at c10
    rw [ti_add (by rw [h2n]; omega), h2n, ti_ofInt (by omega)] at c23
    exact Or.inl ⟨Or.inr (by omega), rfl, rfl⟩
/-- what a text's lengths are: its kinds, where they are as many as fit -/
def spL (μ : kMem) : Option (List Int) := spK (kt μ) (fun l => (ksz μ l).toInt.toNat) (fun l i => (kkd μ l i).toInt) (kn μ)
theorem ok_X8_spell {μ : kMem} (h : kTxOk μ ∧ kSzOk μ ∧ isSay (kn μ) (kt μ)) : kOk yX8_spell cX8_spell 3 (some .int) rmX8_spell shK 68 [.ref 34] μ (kI fun r μ' => (∃ ks, spL μ = some ks ∧ ks.length ≤ 120 ∧ kSay μ ks μ' ∧ r = Int32.ofInt ks.length) ∨ ((spL μ = none ∨ ∃ ks, spL μ = some ks ∧ 120 < ks.length) ∧ r = Int32.ofInt (-1) ∧ ∃ μ1, (∃ ks, kSay μ ks μ1) ∧ μ' = up μ1 34 4 (Int32.ofInt (-1)))) := by
  obtain ⟨hT, hz, hy⟩ := h
  have h0 := hT.1
  have hkn : (kn μ : Int) = (μ.1 1 1).toInt := by unfold kn; omega
  refine kOk.of rfl (Nat.le_of_ble_eq_true rfl) (fun J C => ?_)
  have C : kR cX8_spell RX8 3 rmX8_spell shK 68 (some .int) _ J := C
  have loop : ∀ (k i : Nat) (g v : Int32) (μ' : kMem) (ks : List Int), i + k = kn μ → v.toInt = i → spK (kt μ) (fun l => (ksz μ l).toInt.toNat) (fun l i => (kkd μ l i).toInt) i = some ks → ks.length ≤ 120 → kSay μ ks μ' → g.toInt = (if i = 0 then -1 else if kt μ (i - 1) = 32 then 4 else 3) → J 9 [some (.ref 34), some (.int g), some (.int v)] [] μ' := by
    intro k
    induction k using Nat.strongRecOn with
    | ind k ih =>
      intro i g v μ' ks hk hv hks hlen hS hg
      have ev : v.toInt.toNat = i := by omega
      have e1 : (μ'.1 1 1) = μ.1 1 1 := hS.far (by decide) (by decide)
      have e2 : tat μ' = tat μ := by
        funext z
        unfold tat
        simp (disch := decide) only [hS.far]
      have hlt : v.toInt < (μ'.1 1 1).toInt → i < kn μ := fun q => by rw [e1] at q; unfold kn; omega
      have ht : (i : Int) < (μ.1 1 1).toInt → (tat μ v.toInt).toInt = kt μ i := fun q => by rw [tat_kt (by omega) (by omega), ev]
      obtain ⟨n, hn⟩ : ∃ n : Nat, (ksz μ (kt μ i - 97)).toInt = n := ⟨(ksz μ (kt μ i - 97)).toInt.toNat, by have := (ksz_b hz (kt μ i - 97)).1; omega⟩
      have hb := ksz_b hz (kt μ i - 97)
      rw [hn] at hb
      have hs : ¬ kt μ i = 32 → spK (kt μ) (fun l => (ksz μ l).toInt.toNat) (fun l i => (kkd μ l i).toInt) (i + 1) = if n = 0 then none else some (ks ++ ((if g.toInt = -1 then [] else [g.toInt]) ++ letK (fun j => (kkd μ (kt μ i - 97) j).toInt) n)) := by
        intro q
        show (match spK (kt μ) (fun l => (ksz μ l).toInt.toNat) (fun l i => (kkd μ l i).toInt) i with | none => none | some ks => _) = _
        rw [hks]
        dsimp only
        simp only [hn, Int.toNat_natCast, if_neg q]
        by_cases e : n = 0
        · rw [if_pos e, if_pos e]
        · rw [if_neg e, if_neg e]
          by_cases e0 : i = 0
          · rw [if_pos e0, if_pos (by rw [hg, if_pos e0])]
          · have hg2 : g.toInt = if kt μ (i - 1) = 32 then 4 else 3 := by rw [hg, if_neg e0]
            rw [if_neg e0, if_neg (show ¬ g.toInt = -1 by rw [hg2]; split <;> omega), ← hg2]
      have exL : v.toInt < (μ'.1 1 1).toInt → (tat μ' v.toInt - Int32.ofInt 97).toInt = kt μ i - 97 := by
        intro q
        have := hT.2 i
        have h5 : (tat μ v.toInt).toInt = kt μ i := ht (by rw [e1] at q; omega)
        have h6 : kt μ i = (μ.1 2 i).toInt := rfl
        rw [e2, ti_subc (by omega), h5]
      have hend : ∀ d, i + 1 + d = kn μ → spL μ = spK (kt μ) (fun l => (ksz μ l).toInt.toNat) (fun l i => (kkd μ l i).toInt) (i + 1 + d) := fun d q => by rw [q]; rfl
      refine (r_iload_n C dX8_spell_9 rfl rfl (r_aload_n C dX8_spell_10 rfl rfl (r_getR C dX8_spell_11 fd_X8_20 nK_34 sK_34 rfl (r_v0P C yv_X10_size lk_X8_32 dX8_spell_14 rfl nK_1 sK_1 rfl (Nat.le_of_ble_eq_true rfl) ok_X10_size (r_icmp_ge C (tgt := 75) dX8_spell_17 rfl (fun c17 => (r_aload_n C dX8_spell_75 rfl rfl (r_getI C dX8_spell_76 fd_X8_28 nK_34 sK_34 rfl (r_iret C dX8_spell_79 ?_)))) (fun c17 => (r_aload_n C dX8_spell_20 rfl rfl (r_getR C dX8_spell_21 fd_X8_20 nK_34 sK_34 rfl (r_iload_n C dX8_spell_24 rfl rfl (r_v1P C yv_X10_at lk_X8_41 dX8_spell_25 rfl nK_1 sK_1 rfl (Nat.le_of_ble_eq_true rfl) (ok_X10_at ?_) (r_bipush C dX8_spell_28 (by decide +kernel) (r_icmp_ne C (tgt := 38) dX8_spell_30 rfl (fun c30 => (r_aload_n C dX8_spell_38 rfl rfl (r_aload_n C dX8_spell_39 rfl rfl (r_getR C dX8_spell_40 fd_X8_20 nK_34 sK_34 rfl (r_iload_n C dX8_spell_43 rfl rfl (r_v1P C yv_X10_at lk_X8_41 dX8_spell_44 rfl nK_1 sK_1 rfl (Nat.le_of_ble_eq_true rfl) (ok_X10_at ?_) (r_bipush C dX8_spell_47 (by decide +kernel) (r_isub C dX8_spell_49 (r_iload_n C dX8_spell_50 rfl rfl (r_v2I C yv_X8_spellLetter lk_X8_45 dX8_spell_51 rfl nK_34 sK_34 rfl (Nat.le_of_ble_eq_true rfl) (ok_X8_spellLetter ⟨hz, hS, hlen⟩) (fun r51 μ51 h51 => (r_if_eq C (tgt := 62) dX8_spell_54 rfl (fun c54 => (r_aload_n C dX8_spell_62 rfl rfl (r_iconst C dX8_spell_63 (r_putI C dX8_spell_64 fw_X8_28 nK_34 sK_34 rfl (r_iconst C dX8_spell_67 (r_iret C dX8_spell_68 ?_)))))) (fun c54 => (r_iconst C dX8_spell_57 (r_istore_n C dX8_spell_58 rfl (by decide) (r_goto C (tgt := 69) dX8_spell_59 rfl (r_iinc C dX8_spell_69 rfl (by decide) (r_goto C (tgt := 9) dX8_spell_72 rfl ?_)))))))))))))))))) (fun c30 => (r_iconst C dX8_spell_33 (r_istore_n C dX8_spell_34 rfl (by decide) (r_goto C (tgt := 69) dX8_spell_35 rfl (r_iinc C dX8_spell_69 rfl (by decide) (r_goto C (tgt := 9) dX8_spell_72 rfl ?_))))))))))))))))))
      · have e : i = kn μ := by rw [e1] at c17; omega
        refine Or.inl ⟨ks, ?_, hlen, hS, ti_ext ?_⟩
        · rw [e] at hks; exact hks
        · rw [hS.1, ti_ofInt (by omega)]
      · rw [e1]; exact h0.2
      · rw [e1]; exact h0.2
      · have hi := hlt c17
        have hx := exL c17
        rw [e2, ht (by rw [e1] at c17; omega)] at c30
        simp (disch := (first | omega | (simp (disch := omega) only [ti_ofInt, ti_addc, ti_subc, ti_mulc, ti_cmul, ti_divc, ti_remc, ti_zero, ti_add, ti_sub, ti_neg, if_lt_ti, if_gt_ti, bP_e0, Classical.not_not, tl_i2l]; omega))) only [ti_ofInt, ti_addc, ti_subc, ti_mulc, ti_cmul, ti_divc, ti_remc, ti_zero, ti_add, ti_sub, ti_neg, if_lt_ti, if_gt_ti, bP_e0, Classical.not_not, tl_i2l] at c30
        rw [hx, hn] at h51
        have h6 := hend (kn μ - (i + 1)) (by omega)
        rcases h51 with ⟨h1, h2, h3⟩ | ⟨h1, h2, h3⟩
        · refine Or.inr ⟨?_, rfl, μ', ⟨ks, hS⟩, by rw [h3]⟩
          by_cases en : n = 0
          · have h4 := hs c30
            rw [if_pos en] at h4
            exact Or.inl (by rw [h6]; exact spK_none h4 _)
          · have h4 := hs c30
            rw [if_neg en] at h4
            cases hq : spL μ with
            | none => exact Or.inl rfl
            | some kf =>
              refine Or.inr ⟨kf, rfl, ?_⟩
              have h7 := spK_mono h4 (kn μ - (i + 1)) kf (by rw [← h6]; exact hq)
              rw [List.length_append, List.length_append, letK_len] at h7
              have : i ≠ 0 := by
                intro e0
                rw [e0] at hks
                cases hks
                have : ([] : List Int).length = 0 := rfl
                omega
              rw [if_neg (by rw [hg, if_neg this]; split <;> omega)] at h7
              have : [g.toInt].length = 1 := rfl
              omega
        · rw [h2] at c54
          exact absurd c54 (by decide)
      · have hi := hlt c17
        have hx := exL c17
        rw [e2, ht (by rw [e1] at c17; omega)] at c30
        simp (disch := (first | omega | (simp (disch := omega) only [ti_ofInt, ti_addc, ti_subc, ti_mulc, ti_cmul, ti_divc, ti_remc, ti_zero, ti_add, ti_sub, ti_neg, if_lt_ti, if_gt_ti, bP_e0, Classical.not_not, tl_i2l]; omega))) only [ti_ofInt, ti_addc, ti_subc, ti_mulc, ti_cmul, ti_divc, ti_remc, ti_zero, ti_add, ti_sub, ti_neg, if_lt_ti, if_gt_ti, bP_e0, Classical.not_not, tl_i2l] at c30
        rw [hx, hn] at h51
        rcases h51 with ⟨h1, h2, h3⟩ | ⟨h1, h2, h3⟩
        · rw [h2] at c54
          exact absurd (by decide) c54
        · have h4 := hs c30
          rw [if_neg (by omega)] at h4
          rw [Int.toNat_natCast] at h3
          have lenP : (if g.toInt = -1 then ([] : List Int) else [g.toInt]).length ≤ 1 := by split <;> simp
          refine ih (k - 1) (by omega) (i + 1) _ _ _ _ (by omega) (by simp (disch := (first | omega | (simp (disch := omega) only [ti_ofInt, ti_addc, ti_subc, ti_mulc, ti_cmul, ti_divc, ti_remc, ti_zero, ti_add, ti_sub, ti_neg, if_lt_ti, if_gt_ti, bP_e0, Classical.not_not, tl_i2l]; omega))) only [ti_ofInt, ti_addc, ti_subc, ti_mulc, ti_cmul, ti_divc, ti_remc, ti_zero, ti_add, ti_sub, ti_neg, if_lt_ti, if_gt_ti, bP_e0, Classical.not_not, tl_i2l]; omega) h4 ?_ h3 ?_
          · rw [List.length_append, List.length_append, letK_len]
            omega
          · rw [if_neg (by omega), Nat.add_sub_cancel, if_neg c30]
            decide
      · have hi := hlt c17
        rw [e2, ht (by rw [e1] at c17; omega)] at c30
        simp (disch := (first | omega | (simp (disch := omega) only [ti_ofInt, ti_addc, ti_subc, ti_mulc, ti_cmul, ti_divc, ti_remc, ti_zero, ti_add, ti_sub, ti_neg, if_lt_ti, if_gt_ti, bP_e0, Classical.not_not, tl_i2l]; omega))) only [ti_ofInt, ti_addc, ti_subc, ti_mulc, ti_cmul, ti_divc, ti_remc, ti_zero, ti_add, ti_sub, ti_neg, if_lt_ti, if_gt_ti, bP_e0, Classical.not_not, tl_i2l] at c30
        refine ih (k - 1) (by omega) (i + 1) _ _ _ _ (by omega) (by simp (disch := (first | omega | (simp (disch := omega) only [ti_ofInt, ti_addc, ti_subc, ti_mulc, ti_cmul, ti_divc, ti_remc, ti_zero, ti_add, ti_sub, ti_neg, if_lt_ti, if_gt_ti, bP_e0, Classical.not_not, tl_i2l]; omega))) only [ti_ofInt, ti_addc, ti_subc, ti_mulc, ti_cmul, ti_divc, ti_remc, ti_zero, ti_add, ti_sub, ti_neg, if_lt_ti, if_gt_ti, bP_e0, Classical.not_not, tl_i2l]; omega) ?_ hlen hS ?_
        · show (match spK (kt μ) (fun l => (ksz μ l).toInt.toNat) (fun l i => (kkd μ l i).toInt) i with | none => none | some ks => _) = _
          rw [hks]
          dsimp only
          rw [if_pos c30]
        · rw [if_neg (by omega), Nat.add_sub_cancel, if_pos c30]
          decide
  refine (r_aload_n C dX8_spell_0 rfl rfl (r_iconst C dX8_spell_1 (r_putI C dX8_spell_2 fw_X8_28 nK_34 sK_34 rfl (r_iconst C dX8_spell_5 (r_istore_n C dX8_spell_6 rfl (by decide) (r_iconst C dX8_spell_7 (r_istore_n C dX8_spell_8 rfl (by decide) ?_)))))))
  refine loop (kn μ) 0 _ _ _ [] (by omega) (by simp (disch := (first | omega | (simp (disch := omega) only [ti_ofInt, ti_addc, ti_subc, ti_mulc, ti_cmul, ti_divc, ti_remc, ti_zero, ti_add, ti_sub, ti_neg, if_lt_ti, if_gt_ti, bP_e0, Classical.not_not, tl_i2l]; omega))) only [ti_ofInt, ti_addc, ti_subc, ti_mulc, ti_cmul, ti_divc, ti_remc, ti_zero, ti_add, ti_sub, ti_neg, if_lt_ti, if_gt_ti, bP_e0, Classical.not_not, tl_i2l]; omega) rfl (by decide) ?_ (by simp (disch := (first | omega | (simp (disch := omega) only [ti_ofInt, ti_addc, ti_subc, ti_mulc, ti_cmul, ti_divc, ti_remc, ti_zero, ti_add, ti_sub, ti_neg, if_lt_ti, if_gt_ti, bP_e0, Classical.not_not, tl_i2l]; omega))) only [ti_ofInt, ti_addc, ti_subc, ti_mulc, ti_cmul, ti_divc, ti_remc, ti_zero, ti_add, ti_sub, ti_neg, if_lt_ti, if_gt_ti, bP_e0, Classical.not_not, tl_i2l]; rfl)
  refine ⟨by rw [up_same]; rfl, fun j hj => absurd hj (Nat.not_lt_zero _), fun a b n1 n2 => up_ne _ _ n1⟩
def drw (μ : kMem) (h s : Int) (i : Nat) : Int := kle μ h (μ.1 35 i).toInt + lcgN s (i + 1) / 256 % (kge μ h (μ.1 35 i).toInt - kle μ h (μ.1 35 i).toInt + 1)
theorem kge_b {μ : kMem} (h : kSpOk μ) (x k : Int) : 0 ≤ kle μ x k ∧ kle μ x k ≤ kge μ x k ∧ kge μ x k ≤ 255 := by
  have h1 := ksp_b h x k
  unfold kle kge
  rcases h1.2.2 with h2 | h2
  · rw [h2]; decide
  · unfold isSp at h2
    omega
theorem ok_X8_draw {h s : Int32} {μ : kMem} (hp : (0 ≤ (μ.1 34 4).toInt ∧ (μ.1 34 4).toInt ≤ 120) ∧ (0 ≤ s.toInt ∧ s.toInt ≤ 1000000) ∧ (μ.1 16 1).toInt ≤ 8 ∧ kSpOk μ) : kOk yX8_draw cX8_draw 10 (none) rmX8_draw shK 68 [.ref 34, .ref 16, .int h, .int s] μ (kN fun μ' => (∀ i : Nat, (i : Int) < (μ.1 34 4).toInt → (μ'.1 36 i).toInt = drw μ h.toInt s.toInt i) ∧ ∀ a b : Nat, a ≠ 36 → μ'.1 a b = μ.1 a b) := by
  obtain ⟨h0, hs, hh, hsp⟩ := hp
  refine kOk.of rfl (Nat.le_of_ble_eq_true rfl) (fun J C => ?_)
  have C : kR cX8_draw RX8 10 rmX8_draw shK 68 (none) _ J := C
  have loop : ∀ (k i : Nat) (x : Int64) (v : Int32) (z1 z2 z3 : Option Value) (μ' : kMem), (i : Int) + k = (μ.1 34 4).toInt → v.toInt = i → x.toInt = lcgN s.toInt i → (∀ j : Nat, j < i → (μ'.1 36 j).toInt = drw μ h.toInt s.toInt j) → (∀ a b : Nat, a ≠ 36 → μ'.1 a b = μ.1 a b) → J 7 [some (.ref 34), some (.ref 16), some (.int h), some (.int s), some (.long x), none, some (.int v), z1, z2, z3] [] μ' := by
    intro k
    induction k using Nat.strongRecOn with
    | ind k ih =>
      intro i x v z1 z2 z3 μ' hk hv hx hI hO
      have ev : v.toInt.toNat = i := by omega
      have e1 := hO 34 4 (by decide)
      have e2 := hO 35 i (by decide)
      have eS : ksp μ' = ksp μ := by
        funext a b
        unfold ksp
        simp (disch := decide) only [hO]
      have eL : kle μ' = kle μ := by funext a b; unfold kle; rw [eS]
      have eG : kge μ' = kge μ := by funext a b; unfold kge; rw [eS]
      have hsp' : kSpOk μ' := fun l => by simp (disch := decide) only [hO]; exact hsp l
      have hh' : (μ'.1 16 1).toInt ≤ 8 := by rw [hO 16 1 (by decide)]; exact hh
      have hkb := kge_b hsp h.toInt (μ.1 35 i).toInt
      have hlc := lcgN_b (s := s.toInt) (by omega) i
      have hlc2 := lcg_b (lcgN s.toInt i)
      have m3 := lcg_step hx hlc
      have m5 : (Int32.ofInt (kge μ h.toInt (μ.1 35 i).toInt - kle μ h.toInt (μ.1 35 i).toInt + 1)).toInt = kge μ h.toInt (μ.1 35 i).toInt - kle μ h.toInt (μ.1 35 i).toInt + 1 := ti_ofInt (by omega)
      refine (r_iload C dX8_draw_7 rfl (r_aload_n C dX8_draw_9 rfl rfl (r_getI C dX8_draw_10 fd_X8_28 nK_34 sK_34 rfl (r_icmp_ge C (tgt := 96) dX8_draw_13 rfl (fun c13 => (r_ret C dX8_draw_96 ?_)) (fun c13 => (r_lload C dX8_draw_16 rfl (r_ldc2 C dX8_draw_18 kc_X8_62 (r_lmul C dX8_draw_21 (r_ldc2 C dX8_draw_22 kc_X8_64 (r_ladd C dX8_draw_25 (r_ldc2 C dX8_draw_26 kc_X8_66 (r_land C dX8_draw_29 (r_lstore C dX8_draw_30 (by decide) (r_aload_n C dX8_draw_32 rfl rfl (r_iload_n C dX8_draw_33 rfl rfl (r_aload_n C dX8_draw_34 rfl rfl (r_getR C dX8_draw_35 fd_X8_11 nK_34 sK_34 rfl (r_iload C dX8_draw_38 rfl (r_iald C dX8_draw_40 nK_35 sK_35 ?_ (r_v2P C yv_X3_choicesOf lk_X8_68 dX8_draw_41 rfl nK_16 sK_16 rfl (Nat.le_of_ble_eq_true rfl) (ok_X3_choicesOf ?_) (r_istore C dX8_draw_44 (by decide) (r_iload C dX8_draw_46 rfl (r_if_le C (tgt := 64) dX8_draw_48 rfl (fun c48 => (r_lconst C dX8_draw_64 rfl (r_lstore C dX8_draw_65 (by decide) (r_aload_n C dX8_draw_67 rfl rfl (r_getR C dX8_draw_68 fd_X8_17 nK_34 sK_34 rfl (r_iload C dX8_draw_71 rfl (r_aload_n C dX8_draw_73 rfl rfl (r_iload_n C dX8_draw_74 rfl rfl (r_aload_n C dX8_draw_75 rfl rfl (r_getR C dX8_draw_76 fd_X8_11 nK_34 sK_34 rfl (r_iload C dX8_draw_79 rfl (r_iald C dX8_draw_81 nK_35 sK_35 ?_ (r_v2P C yv_X3_leastOf lk_X8_75 dX8_draw_82 rfl nK_16 sK_16 rfl (Nat.le_of_ble_eq_true rfl) (ok_X3_leastOf ?_) (r_lload C dX8_draw_85 rfl (r_l2i C dX8_draw_87 (r_iadd C dX8_draw_88 (r_iast C dX8_draw_89 nK_36 sK_36 ?_ (r_iinc C dX8_draw_90 rfl (by decide) (r_goto C (tgt := 7) dX8_draw_93 rfl ?_))))))))))))))))))) (fun c48 => (r_lload C dX8_draw_51 rfl (r_ldc2 C dX8_draw_53 kc_X8_73 (r_ldiv C dX8_draw_56 ?_ (r_iload C dX8_draw_57 rfl (r_i2l C dX8_draw_59 (r_lrem C dX8_draw_60 ?_ (r_goto C (tgt := 65) dX8_draw_61 rfl (r_lstore C dX8_draw_65 (by decide) (r_aload_n C dX8_draw_67 rfl rfl (r_getR C dX8_draw_68 fd_X8_17 nK_34 sK_34 rfl (r_iload C dX8_draw_71 rfl (r_aload_n C dX8_draw_73 rfl rfl (r_iload_n C dX8_draw_74 rfl rfl (r_aload_n C dX8_draw_75 rfl rfl (r_getR C dX8_draw_76 fd_X8_11 nK_34 sK_34 rfl (r_iload C dX8_draw_79 rfl (r_iald C dX8_draw_81 nK_35 sK_35 ?_ (r_v2P C yv_X3_leastOf lk_X8_75 dX8_draw_82 rfl nK_16 sK_16 rfl (Nat.le_of_ble_eq_true rfl) (ok_X3_leastOf ?_) (r_lload C dX8_draw_85 rfl (r_l2i C dX8_draw_87 (r_iadd C dX8_draw_88 (r_iast C dX8_draw_89 nK_36 sK_36 ?_ (r_iinc C dX8_draw_90 rfl (by decide) (r_goto C (tgt := 7) dX8_draw_93 rfl ?_))))))))))))))))))))))))))))))))))))))))))))))))
      · rw [e1] at c13
        refine ⟨fun j hj => hI j (by omega), hO⟩
      · rw [e1] at c13; omega
      · exact ⟨hh', hsp'⟩
      · rw [ev, e2, eL, eG, m5] at c48; omega
      · rw [ev, e2, eL, eG, m5] at c48; omega
      · rw [ev, e2, eL, eG, m5] at c48; omega
      · rw [ev, e2, eL, eG, m5] at c48; omega
      · exact tl_ne0 (by rw [k64_256]; decide)
      · rw [ev, e2, eL, eG] at c48 ⊢
        exact tl_ne0 (by rw [tl_i2l]; omega)
      · rw [e1] at c13; omega
      · exact ⟨hh', hsp'⟩
      · rw [e1] at c13; omega
      · rw [e1] at c13
        rw [ev, e2, eL, eG]
        have m6 := draw_num (lI := Int32.ofInt (kle μ h.toInt (μ.1 35 i).toInt)) m3 hlc2.1 m5 (by omega) (ti_ofInt (by omega)) (by omega)
        refine ih (k - 1) (by omega) (i + 1) _ _ _ _ _ _ (by omega) (by simp (disch := (first | omega | (simp (disch := omega) only [ti_ofInt, ti_addc, ti_subc, ti_mulc, ti_cmul, ti_divc, ti_remc, ti_zero, ti_add, ti_sub, ti_neg, if_lt_ti, if_gt_ti, bP_e0, Classical.not_not, tl_i2l]; omega))) only [ti_ofInt, ti_addc, ti_subc, ti_mulc, ti_cmul, ti_divc, ti_remc, ti_zero, ti_add, ti_sub, ti_neg, if_lt_ti, if_gt_ti, bP_e0, Classical.not_not, tl_i2l]; omega) m3 ?_ ?_
        · intro j hj
          by_cases e : j = i
          · subst e
            rw [up_same, m6]
            rfl
          · rw [up_nek _ _ e]
            exact hI j (by omega)
        · intro a b hn
          rw [up_neo _ _ hn]
          exact hO a b hn
  refine (r_iload_n C dX8_draw_0 rfl rfl (r_i2l C dX8_draw_1 (r_lstore C dX8_draw_2 (by decide) (r_iconst C dX8_draw_4 (r_istore C dX8_draw_5 (by decide) ?_)))))
  exact loop (μ.1 34 4).toInt.toNat 0 _ _ _ _ _ _ (by omega) (by simp (disch := (first | omega | (simp (disch := omega) only [ti_ofInt, ti_addc, ti_subc, ti_mulc, ti_cmul, ti_divc, ti_remc, ti_zero, ti_add, ti_sub, ti_neg, if_lt_ti, if_gt_ti, bP_e0, Classical.not_not, tl_i2l]; omega))) only [ti_ofInt, ti_addc, ti_subc, ti_mulc, ti_cmul, ti_divc, ti_remc, ti_zero, ti_add, ti_sub, ti_neg, if_lt_ti, if_gt_ti, bP_e0, Classical.not_not, tl_i2l]; omega) (by rw [tl_i2l]; rfl) (fun j q => by omega) (fun _ _ _ => rfl)
/-- the tape holds this row -/
def kTp (μ0 : kMem) (L : List Int) (μ : kMem) : Prop := (μ.1 25 1).toInt = L.length ∧ (∀ j (hj : j < L.length), (μ.1 26 j).toInt = L[j]) ∧ ∀ j : Nat, L.length ≤ j → μ.1 26 j = μ0.1 26 j
theorem kTp.snoc {L : List Int} {μ0 μ : kMem} (h : kTp μ0 L μ) (hl : L.length < 120) {x : Int32} {r : Int32} {μ' : kMem} (hx : ((μ.1 25 1).toInt < 120 ∧ r = Int32.ofInt ((μ.1 25 1).toInt + 1) ∧ μ' = up (up μ 26 (μ.1 25 1).toInt.toNat x) 25 1 (Int32.ofInt ((μ.1 25 1).toInt + 1))) ∨ ((μ.1 25 1).toInt = 120 ∧ r = Int32.ofInt (-1) ∧ μ' = μ)) : kTp μ0 (L ++ [x.toInt]) μ' ∧ ∀ a b : Nat, ¬ (a = 25 ∧ b = 1) → a ≠ 26 → μ'.1 a b = μ.1 a b := by
  obtain ⟨h1, h2, h3⟩ := h
  rcases hx with ⟨q, -, rfl⟩ | ⟨q, -, -⟩
  · refine ⟨⟨?_, ?_, ?_⟩, ?_⟩
    · rw [up_same, h1, ti_ofInt (by omega), List.length_append]
      rfl
    · intro j hj
      rw [up_neo _ _ (by decide), h1, Int.toNat_natCast]
      rw [List.length_append] at hj
      by_cases e : j = L.length
      · subst e
        rw [up_same]
        simp
      · rw [up_nek _ _ e, h2 j (by simp at hj; omega), List.getElem_append_left (by simp at hj; omega)]
    · intro j hj
      rw [List.length_append] at hj
      have e9 : [x.toInt].length = 1 := rfl
      rw [up_neo _ _ (by decide), h1, Int.toNat_natCast, up_nek _ _ (by omega)]
      exact h3 j (by omega)
    · intro a b n1 n2
      rw [up_ne _ _ n1, up_neo _ _ n2]
  · omega
theorem ok_X8_sendThrough {b : Int32} {μ : kMem} (hp : (0 ≤ (μ.1 34 4).toInt ∧ (μ.1 34 4).toInt ≤ 120) ∧ (0 ≤ b.toInt ∧ b.toInt ≤ 279) ∧ (∀ i : Nat, (i : Int) < (μ.1 34 4).toInt → 0 ≤ (μ.1 36 i).toInt ∧ (μ.1 36 i).toInt ≤ 255) ∧ 0 ≤ (μ.1 25 1).toInt) : kOk yX8_sendThrough cX8_sendThrough 6 (none) rmX8_sendThrough shK 68 [.ref 34, .int b, .ref 25] μ (kN fun μ' => kTp μ (sendF b.toInt (fun i => (μ.1 36 i).toInt) (μ.1 34 4).toInt.toNat).1 μ' ∧ ∀ a b : Nat, ¬ (a = 25 ∧ b = 1) → a ≠ 26 → μ'.1 a b = μ.1 a b) := by
  obtain ⟨h0, hb, hd, ht⟩ := hp
  refine kOk.of rfl (Nat.le_of_ble_eq_true rfl) (fun J C => ?_)
  have C : kR cX8_sendThrough RX8 6 rmX8_sendThrough shK 68 (none) _ J := C
  have loop : ∀ (k i : Nat) (g v : Int32) (z : Option Value) (μ' : kMem), (i : Int) + k = (μ.1 34 4).toInt → v.toInt = i → g.toInt = (sendF b.toInt (fun i => (μ.1 36 i).toInt) i).2 → kTp μ (sendF b.toInt (fun i => (μ.1 36 i).toInt) i).1 μ' → (∀ a b : Nat, ¬ (a = 25 ∧ b = 1) → a ≠ 26 → μ'.1 a b = μ.1 a b) → J 11 [some (.ref 34), some (.int b), some (.ref 25), some (.int g), some (.int v), z] [] μ' := by
    intro k
    induction k using Nat.strongRecOn with
    | ind k ih =>
      intro i g v z μ' hk hv hg hI hO
      have ev : v.toInt.toNat = i := by omega
      have e1 := hO 34 4 (by decide) (by decide)
      have e2 := hO 36 i (by omega) (by decide)
      have hL := sendF_len (b := b.toInt) (d := fun i => (μ.1 36 i).toInt) i
      have hG := sendF_gap (b := b.toInt) (d := fun i => (μ.1 36 i).toInt) (M := 255) (by decide) i (fun j hj => hd j (by omega))
      have hdi := hd i
      have hstep : sendF b.toInt (fun i => (μ.1 36 i).toInt) (i + 1) = if i % 2 = 1 ∨ (μ.1 36 i).toInt ≤ b.toInt then ((sendF b.toInt (fun i => (μ.1 36 i).toInt) i).1, (sendF b.toInt (fun i => (μ.1 36 i).toInt) i).2 + (μ.1 36 i).toInt) else ((sendF b.toInt (fun i => (μ.1 36 i).toInt) i).1 ++ ((if (sendF b.toInt (fun i => (μ.1 36 i).toInt) i).1 = [] then [] else [min ((sendF b.toInt (fun i => (μ.1 36 i).toInt) i).2 + b.toInt) 999]) ++ [(μ.1 36 i).toInt - b.toInt]), 0) := rfl
      obtain ⟨S, hSeq⟩ : ∃ S, S = sendF b.toInt (fun i => (μ.1 36 i).toInt) i := ⟨_, rfl⟩
      rw [← hSeq] at hL hG hstep hg hI
      obtain ⟨Lr, gp⟩ := S
      have hsz := hI.1
      dsimp only at hL hG hsz hstep hg hI
      have hgap : (i : Int) < (μ.1 34 4).toInt → (i % 2 = 1 ∨ (μ.1 36 i).toInt ≤ b.toInt) → ∀ z', J 11 [some (.ref 34), some (.int b), some (.ref 25), some (.int (g + μ.1 36 i)), some (.int (v + Int32.ofInt 1)), z'] [] μ' := by
        intro q1 q2 z'
        rw [if_pos q2] at hstep
        have := hdi q1
        refine ih (k - 1) (by omega) (i + 1) _ _ _ _ (by omega) (by simp (disch := (first | omega | (simp (disch := omega) only [ti_ofInt, ti_addc, ti_subc, ti_mulc, ti_cmul, ti_divc, ti_remc, ti_zero, ti_add, ti_sub, ti_neg, if_lt_ti, if_gt_ti, bP_e0, Classical.not_not, tl_i2l]; omega))) only [ti_ofInt, ti_addc, ti_subc, ti_mulc, ti_cmul, ti_divc, ti_remc, ti_zero, ti_add, ti_sub, ti_neg, if_lt_ti, if_gt_ti, bP_e0, Classical.not_not, tl_i2l]; omega) ?_ ?_ hO
        · rw [hstep, ti_add (by omega), hg]
        · rw [hstep]; exact hI
      have hsnd : (i : Int) < (μ.1 34 4).toInt → ¬ (i % 2 = 1 ∨ (μ.1 36 i).toInt ≤ b.toInt) → ∀ (M : List Int) (μ1 μ2 : kMem) (r : Int32) (z' : Option Value), kTp μ M μ1 → M ++ [(μ.1 36 i).toInt - b.toInt] = Lr ++ ((if Lr = [] then [] else [min (gp + b.toInt) 999]) ++ [(μ.1 36 i).toInt - b.toInt]) → M.length < 120 → (∀ a b : Nat, ¬ (a = 25 ∧ b = 1) → a ≠ 26 → μ1.1 a b = μ.1 a b) → (((μ1.1 25 1).toInt < 120 ∧ r = Int32.ofInt ((μ1.1 25 1).toInt + 1) ∧ μ2 = up (up μ1 26 (μ1.1 25 1).toInt.toNat (μ.1 36 i - b)) 25 1 (Int32.ofInt ((μ1.1 25 1).toInt + 1))) ∨ ((μ1.1 25 1).toInt = 120 ∧ r = Int32.ofInt (-1) ∧ μ2 = μ1)) → J 11 [some (.ref 34), some (.int b), some (.ref 25), some (.int (Int32.ofInt 0)), some (.int (v + Int32.ofInt 1)), z'] [] μ2 := by
        intro q1 q2 M μ1 μ2 r z' a1 a2 a3 a4 a5
        have hdi := hdi q1
        rw [if_neg q2] at hstep
        obtain ⟨b1, b2⟩ := a1.snoc a3 a5
        rw [ti_sub (by omega), a2] at b1
        refine ih (k - 1) (by omega) (i + 1) _ _ _ _ (by omega) (by simp (disch := (first | omega | (simp (disch := omega) only [ti_ofInt, ti_addc, ti_subc, ti_mulc, ti_cmul, ti_divc, ti_remc, ti_zero, ti_add, ti_sub, ti_neg, if_lt_ti, if_gt_ti, bP_e0, Classical.not_not, tl_i2l]; omega))) only [ti_ofInt, ti_addc, ti_subc, ti_mulc, ti_cmul, ti_divc, ti_remc, ti_zero, ti_add, ti_sub, ti_neg, if_lt_ti, if_gt_ti, bP_e0, Classical.not_not, tl_i2l]; omega) ?_ ?_ ?_
        · rw [hstep]; exact ti_ofInt (by decide)
        · rw [hstep]; exact b1
        · intro a b n1 n2
          rw [b2 a b n1 n2]
          exact a4 a b n1 n2
      refine (r_iload C dX8_sendThrough_11 rfl (r_aload_n C dX8_sendThrough_13 rfl rfl (r_getI C dX8_sendThrough_14 fd_X8_28 nK_34 sK_34 rfl (r_icmp_ge C (tgt := 89) dX8_sendThrough_17 rfl (fun c17 => (r_ret C dX8_sendThrough_89 ?_)) (fun c17 => (r_aload_n C dX8_sendThrough_20 rfl rfl (r_getR C dX8_sendThrough_21 fd_X8_17 nK_34 sK_34 rfl (r_iload C dX8_sendThrough_24 rfl (r_iald C dX8_sendThrough_26 nK_36 sK_36 ?_ (r_istore C dX8_sendThrough_27 (by decide) (r_iload C dX8_sendThrough_29 rfl (r_iconst C dX8_sendThrough_31 (r_irem C dX8_sendThrough_32 (by decide) (r_iconst C dX8_sendThrough_33 (r_icmp_eq C (tgt := 43) dX8_sendThrough_34 rfl (fun c34 => (r_iload_n C dX8_sendThrough_43 rfl rfl (r_iload C dX8_sendThrough_44 rfl (r_iadd C dX8_sendThrough_46 (r_istore_n C dX8_sendThrough_47 rfl (by decide) (r_goto C (tgt := 83) dX8_sendThrough_48 rfl (r_iinc C dX8_sendThrough_83 rfl (by decide) (r_goto C (tgt := 11) dX8_sendThrough_86 rfl ?_)))))))) (fun c34 => (r_iload C dX8_sendThrough_37 rfl (r_iload_n C dX8_sendThrough_39 rfl rfl (r_icmp_gt C (tgt := 51) dX8_sendThrough_40 rfl (fun c40 => (r_aload_n C dX8_sendThrough_51 rfl rfl (r_v0P C yv_X9_size lk_X8_81 dX8_sendThrough_52 rfl nK_25 sK_25 rfl (Nat.le_of_ble_eq_true rfl) ok_X9_size (r_if_le C (tgt := 72) dX8_sendThrough_55 rfl (fun c55 => (r_aload_n C dX8_sendThrough_72 rfl rfl (r_iload C dX8_sendThrough_73 rfl (r_iload_n C dX8_sendThrough_75 rfl rfl (r_isub C dX8_sendThrough_76 (r_v1I C yv_X9_add lk_X8_87 dX8_sendThrough_77 rfl nK_25 sK_25 rfl (Nat.le_of_ble_eq_true rfl) (ok_X9_add ?_) (fun r77 μ77 h77 => (r_pop C dX8_sendThrough_80 rfl (r_iconst C dX8_sendThrough_81 (r_istore_n C dX8_sendThrough_82 rfl (by decide) (r_iinc C dX8_sendThrough_83 rfl (by decide) (r_goto C (tgt := 11) dX8_sendThrough_86 rfl ?_)))))))))))) (fun c55 => (r_aload_n C dX8_sendThrough_58 rfl rfl (r_iload_n C dX8_sendThrough_59 rfl rfl (r_iload_n C dX8_sendThrough_60 rfl rfl (r_iadd C dX8_sendThrough_61 (r_sipush C dX8_sendThrough_62 (by decide +kernel) (r_min C mh_X8_82 dX8_sendThrough_65 ⟨rfl, rfl⟩ (Nat.le_of_ble_eq_true rfl) (r_v1I C yv_X9_add lk_X8_87 dX8_sendThrough_68 rfl nK_25 sK_25 rfl (Nat.le_of_ble_eq_true rfl) (ok_X9_add ?_) (fun r68 μ68 h68 => (r_pop C dX8_sendThrough_71 rfl (r_aload_n C dX8_sendThrough_72 rfl rfl (r_iload C dX8_sendThrough_73 rfl (r_iload_n C dX8_sendThrough_75 rfl rfl (r_isub C dX8_sendThrough_76 (r_v1I C yv_X9_add lk_X8_87 dX8_sendThrough_77 rfl nK_25 sK_25 rfl (Nat.le_of_ble_eq_true rfl) (ok_X9_add ?_) (fun r77 μ77 h77 => (r_pop C dX8_sendThrough_80 rfl (r_iconst C dX8_sendThrough_81 (r_istore_n C dX8_sendThrough_82 rfl (by decide) (r_iinc C dX8_sendThrough_83 rfl (by decide) (r_goto C (tgt := 11) dX8_sendThrough_86 rfl ?_))))))))))))))))))))))))) (fun c40 => (r_iload_n C dX8_sendThrough_43 rfl rfl (r_iload C dX8_sendThrough_44 rfl (r_iadd C dX8_sendThrough_46 (r_istore_n C dX8_sendThrough_47 rfl (by decide) (r_goto C (tgt := 83) dX8_sendThrough_48 rfl (r_iinc C dX8_sendThrough_83 rfl (by decide) (r_goto C (tgt := 11) dX8_sendThrough_86 rfl ?_)))))))))))))))))))))))))))
      · rw [e1] at c17
        rw [show (μ.1 34 4).toInt.toNat = i by omega, ← hSeq]
        exact ⟨hI, hO⟩
      · rw [e1] at c17; omega
      · rw [e1] at c17
        simp (disch := (first | omega | (simp (disch := omega) only [ti_ofInt, ti_addc, ti_subc, ti_mulc, ti_cmul, ti_divc, ti_remc, ti_zero, ti_add, ti_sub, ti_neg, if_lt_ti, if_gt_ti, bP_e0, Classical.not_not, tl_i2l]; omega))) only [ti_ofInt, ti_addc, ti_subc, ti_mulc, ti_cmul, ti_divc, ti_remc, ti_zero, ti_add, ti_sub, ti_neg, if_lt_ti, if_gt_ti, bP_e0, Classical.not_not, tl_i2l] at c34
        rw [ev, e2]
        exact hgap (by omega) (Or.inl (by omega)) _
      · rw [e1] at c17; omega
      · rw [e1] at c17
        simp (disch := (first | omega | (simp (disch := omega) only [ti_ofInt, ti_addc, ti_subc, ti_mulc, ti_cmul, ti_divc, ti_remc, ti_zero, ti_add, ti_sub, ti_neg, if_lt_ti, if_gt_ti, bP_e0, Classical.not_not, tl_i2l]; omega))) only [ti_ofInt, ti_addc, ti_subc, ti_mulc, ti_cmul, ti_divc, ti_remc, ti_zero, ti_add, ti_sub, ti_neg, if_lt_ti, if_gt_ti, bP_e0, Classical.not_not, tl_i2l] at c34
        rw [ev, e2] at c40 h77 ⊢
        have hn : Lr = [] := List.length_eq_zero_iff.mp (by omega)
        refine hsnd (by omega) (by omega) Lr μ' _ _ _ hI ?_ (by omega) hO h77
        rw [if_pos hn]
        rfl
      · rw [e1] at c17; omega
      · rw [e1] at c17
        simp (disch := (first | omega | (simp (disch := omega) only [ti_ofInt, ti_addc, ti_subc, ti_mulc, ti_cmul, ti_divc, ti_remc, ti_zero, ti_add, ti_sub, ti_neg, if_lt_ti, if_gt_ti, bP_e0, Classical.not_not, tl_i2l]; omega))) only [ti_ofInt, ti_addc, ti_subc, ti_mulc, ti_cmul, ti_divc, ti_remc, ti_zero, ti_add, ti_sub, ti_neg, if_lt_ti, if_gt_ti, bP_e0, Classical.not_not, tl_i2l] at c34
        have hlen : Lr.length < 119 := by
          rcases hL.2 with q | q
          · rw [q]; decide
          · omega
        obtain ⟨b1, b2⟩ := hI.snoc (by omega) h68
        have h9 := b1.1
        rw [List.length_append] at h9
        have : ∀ y : Int, ([y] : List Int).length = 1 := fun _ => rfl
        rw [this] at h9
        omega
      · rw [e1] at c17
        simp (disch := (first | omega | (simp (disch := omega) only [ti_ofInt, ti_addc, ti_subc, ti_mulc, ti_cmul, ti_divc, ti_remc, ti_zero, ti_add, ti_sub, ti_neg, if_lt_ti, if_gt_ti, bP_e0, Classical.not_not, tl_i2l]; omega))) only [ti_ofInt, ti_addc, ti_subc, ti_mulc, ti_cmul, ti_divc, ti_remc, ti_zero, ti_add, ti_sub, ti_neg, if_lt_ti, if_gt_ti, bP_e0, Classical.not_not, tl_i2l] at c34
        rw [ev, e2] at c40 h77 ⊢
        have hne : ¬ Lr = [] := by intro q; rw [q] at hsz; have : ([] : List Int).length = 0 := rfl; omega
        have hlen : Lr.length < 119 := by
          rcases hL.2 with q | q
          · exact absurd q hne
          · omega
        obtain ⟨b1, b2⟩ := hI.snoc (by omega) h68
        rw [if_lt_ti, ti_add (by omega), ti_ofInt (by omega), hg] at b1
        have e3 : ∀ y : Int, ([y] : List Int).length = 1 := fun _ => rfl
        refine hsnd (by omega) (by omega) _ μ68 _ _ _ b1 ?_ (by rw [List.length_append, e3]; omega) ?_ h77
        · rw [if_neg hne, List.append_assoc]
        · intro a b n1 n2
          rw [b2 a b n1 n2]
          exact hO a b n1 n2
      · rw [e1] at c17
        rw [ev, e2] at c40 ⊢
        exact hgap (by omega) (Or.inr c40) _
  refine (r_aload_n C dX8_sendThrough_0 rfl rfl (r_iconst C dX8_sendThrough_1 (r_v1I C yv_X9_keep lk_X8_78 dX8_sendThrough_2 rfl nK_25 sK_25 rfl (Nat.le_of_ble_eq_true rfl) ok_X9_keep (fun r2 μ2 h2 => (r_pop C dX8_sendThrough_5 rfl (r_iconst C dX8_sendThrough_6 (r_istore_n C dX8_sendThrough_7 rfl (by decide) (r_iconst C dX8_sendThrough_8 (r_istore C dX8_sendThrough_9 (by decide) ?_)))))))))
  refine loop (μ.1 34 4).toInt.toNat 0 _ _ _ _ ?_ (by simp (disch := (first | omega | (simp (disch := omega) only [ti_ofInt, ti_addc, ti_subc, ti_mulc, ti_cmul, ti_divc, ti_remc, ti_zero, ti_add, ti_sub, ti_neg, if_lt_ti, if_gt_ti, bP_e0, Classical.not_not, tl_i2l]; omega))) only [ti_ofInt, ti_addc, ti_subc, ti_mulc, ti_cmul, ti_divc, ti_remc, ti_zero, ti_add, ti_sub, ti_neg, if_lt_ti, if_gt_ti, bP_e0, Classical.not_not, tl_i2l]; omega) (by simp (disch := (first | omega | (simp (disch := omega) only [ti_ofInt, ti_addc, ti_subc, ti_mulc, ti_cmul, ti_divc, ti_remc, ti_zero, ti_add, ti_sub, ti_neg, if_lt_ti, if_gt_ti, bP_e0, Classical.not_not, tl_i2l]; omega))) only [ti_ofInt, ti_addc, ti_subc, ti_mulc, ti_cmul, ti_divc, ti_remc, ti_zero, ti_add, ti_sub, ti_neg, if_lt_ti, if_gt_ti, bP_e0, Classical.not_not, tl_i2l]; rfl) ?_ ?_
  · omega
  · rcases h2 with ⟨_, _, _, rfl⟩ | ⟨q, _⟩
    · refine ⟨by rw [up_same]; rfl, fun j hj => absurd hj (Nat.not_lt_zero _), fun j _ => by rw [up_neo _ _ (by decide)]⟩
    · simp (disch := (first | omega | (simp (disch := omega) only [ti_ofInt, ti_addc, ti_subc, ti_mulc, ti_cmul, ti_divc, ti_remc, ti_zero, ti_add, ti_sub, ti_neg, if_lt_ti, if_gt_ti, bP_e0, Classical.not_not, tl_i2l]; omega))) only [ti_ofInt, ti_addc, ti_subc, ti_mulc, ti_cmul, ti_divc, ti_remc, ti_zero, ti_add, ti_sub, ti_neg, if_lt_ti, if_gt_ti, bP_e0, Classical.not_not, tl_i2l] at q
      omega
  · intro a b n1 n2
    rcases h2 with ⟨_, _, _, rfl⟩ | ⟨_, _, rfl⟩
    · exact up_ne _ _ n1
    · rfl

