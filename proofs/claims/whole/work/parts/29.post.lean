/-! ===== Post ===== -/
def kpE (μ : kMem) (m : Nat) : Nat := (μ.1 39 m).toInt.toNat
def kpS (μ : kMem) (m : Nat) : Nat := (μ.1 38 m).toInt.toNat
noncomputable def kpd (μ : kMem) : kPd := ((μ.1 37 6).toInt.toNat, kln μ, fun m => (μ.1 41 m).toInt, fun m => (μ.1 40 m).toInt, fun m => (μ.1 42 m).toInt, fun m => kds μ (kpE μ m) (kpS μ m), fun m h => kfl μ (kpE μ m) (ksn μ (kpE μ m) (kpS μ m) h))
def kPsOk (μ : kMem) : Prop := (0 ≤ (μ.1 37 6).toInt ∧ (μ.1 37 6).toInt ≤ 20) ∧ ∀ m : Nat, (m : Int) < (μ.1 37 6).toInt → (0 ≤ (μ.1 38 m).toInt ∧ (μ.1 38 m).toInt ≤ 5) ∧ (0 ≤ (μ.1 39 m).toInt ∧ (μ.1 39 m).toInt ≤ 5) ∧ (0 ≤ (μ.1 40 m).toInt ∧ (μ.1 40 m).toInt ≤ 200) ∧ (1 ≤ (μ.1 41 m).toInt ∧ (μ.1 41 m).toInt ≤ 60) ∧ (μ.1 38 m).toInt ≠ (μ.1 39 m).toInt ∧ kds μ (kpE μ m) (kpS μ m) < 6
theorem route_ok {st en : Nat → Nat} {n to s : Nat} (h0 : s ≠ to) (h : dsF st en n to s < 6) : (1 ≤ dsF st en n to s ∧ dsF st en n to s ≤ 5) ∧ (∀ i, i < dsF st en n to s → flF st en n to (snF st en n to s i) < n) ∧ (∀ i j, i < dsF st en n to s → j < dsF st en n to s → flF st en n to (snF st en n to s i) = flF st en n to (snF st en n to s j) → i = j) := by
  have hz : dsF st en n to s ≠ 0 := fun q => h0 (dsF_zero.mp q)
  have key : ∀ i, i < dsF st en n to s → dsF st en n to (snF st en n to s i) + i = dsF st en n to s ∧ flF st en n to (snF st en n to s i) < n ∧ st (flF st en n to (snF st en n to s i)) = snF st en n to s i := by
    intro i hi
    have h1 := snF_ds h i (by omega)
    have h2 := flF_ok (st := st) (en := en) (n := n) (to := to) (s := snF st en n to s i) (by omega) (by omega)
    exact ⟨h1, h2.1, h2.2.1⟩
  refine ⟨by omega, fun i hi => (key i hi).2.1, fun i j hi hj q => ?_⟩
  have a := key i hi
  have b := key j hj
  have e : snF st en n to s i = snF st en n to s j := by rw [← a.2.2, ← b.2.2, q]
  rw [e] at a
  omega
theorem kpd_ok {μ : kMem} (h : kLnOk μ) (hp : kPsOk μ) : pOk (kpd μ) := by
  have hn := kLn_n h
  refine ⟨?_, hn.2, fun m hm => ?_⟩
  · show (μ.1 37 6).toInt.toNat ≤ 20
    have := hp.1
    omega
  · have hm : m < (μ.1 37 6).toInt.toNat := hm
    obtain ⟨a, b, c, e, f, g⟩ := hp.2 m (by omega)
    have hne : kpS μ m ≠ kpE μ m := by unfold kpS kpE; omega
    have hr := route_ok hne g
    exact ⟨e, c, hr.1, hr.2.1, hr.2.2⟩
/-- nothing but what runAll writes has changed -/
def pSame (μ μ' : kMem) : Prop := ∀ a b : Nat, ¬ (a = 18 ∧ b = 6) → a ≠ 23 → a ≠ 24 → (a < 43 ∨ 48 < a) → μ'.1 a b = μ.1 a b
theorem pSame_l {μ μ' : kMem} (h : pSame μ μ') : lSame μ μ' := ⟨fun b n1 => h _ _ (by omega) (by omega) (by omega) (by omega), fun a b n1 n2 => h _ _ (by omega) (by omega) (by omega) (by omega)⟩
theorem pSame_all {μ μ' : kMem} (h : pSame μ μ') : kpd μ' = kpd μ ∧ (kPsOk μ → kPsOk μ') ∧ (kLnOk μ → kLnOk μ') ∧ kpE μ' = kpE μ ∧ kpS μ' = kpS μ := by
  have hl := lSame_all (pSame_l h)
  unfold pSame at h
  have e1 : kpE μ' = kpE μ := by funext m; unfold kpE; simp (disch := omega) only [h]
  have e2 : kpS μ' = kpS μ := by funext m; unfold kpS; simp (disch := omega) only [h]
  refine ⟨?_, ?_, hl.2.2.2.1, e1, e2⟩
  · unfold kpd
    rw [e1, e2, hl.1, hl.2.1, hl.2.2.1, hl.2.2.2.2.2.2.1]
    simp (disch := omega) only [h]
    rfl
  · intro q
    unfold kPsOk at q ⊢
    rw [e1, e2, hl.1]
    simp (disch := omega) only [h]
    exact q
theorem pSame_trans {μ μ' μ'' : kMem} (h : pSame μ μ') (h2 : pSame μ' μ'') : pSame μ μ'' := fun a b n1 n2 n3 n4 => by rw [h2 a b n1 n2 n3 n4, h a b n1 n2 n3 n4]
/-- the memory holds a state of the post -/
def kPr (s : kPs) (μ : kMem) : Prop := (∀ m, m < pNm (kpd μ) → (μ.1 45 m).toInt = pZ (kpd μ) m ∧ (∀ h, h < pZ (kpd μ) m → (μ.1 43 (m * 5 + h)).toInt = pR (kpd μ) m h)) ∧ (∀ m, m < pNm (kpd μ) → sG s m ≤ pZ (kpd μ) m ∧ (μ.1 46 m).toInt = sG s m ∧ (μ.1 47 m).toInt = sS s m ∧ ∀ h, h < sG s m → (μ.1 44 (m * 5 + h)).toInt = sB s m h) ∧ ∀ l, l < 8 → (μ.1 48 l).toInt = sF s l
def kPo (s : kPs) (μ : kMem) : Prop := kLnOk μ ∧ kPsOk μ ∧ kPr s μ
theorem kp_n {μ : kMem} (h : kPsOk μ) : (pNm (kpd μ) : Int) = (μ.1 37 6).toInt ∧ pNm (kpd μ) ≤ 20 := by
  have := h.1
  have e : pNm (kpd μ) = (μ.1 37 6).toInt.toNat := rfl
  omega
theorem ok_X5_size {μ : kMem} : kOk yX5_size cX5_size 1 (some .int) rmX5_size shK 68 [.ref 37] μ (kP (μ.1 37 6) μ) := by
  refine kOk.of rfl (Nat.le_of_ble_eq_true rfl) (fun J C => ?_)
  have C : kR cX5_size RX5 1 rmX5_size shK 68 (some .int) _ J := C
  refine (r_aload_n C dX5_size_0 rfl rfl (r_getI C dX5_size_1 fd_X5_51 nK_37 sK_37 rfl (r_iret C dX5_size_4 ?_)))
  exact ⟨rfl, rfl⟩
theorem ok_X5_has {x : Int32} {μ : kMem} : kOk yX5_has cX5_has 2 (some .boolean) rmX5_has shK 68 [.ref 37, .int x] μ (kP (bP (0 ≤ x.toInt ∧ x.toInt < (μ.1 37 6).toInt)) μ) := by
  refine kOk.of rfl (Nat.le_of_ble_eq_true rfl) (fun J C => ?_)
  have C : kR cX5_has RX5 2 rmX5_has shK 68 (some .boolean) _ J := C
  refine (r_iload_n C dX5_has_0 rfl rfl (r_if_lt C (tgt := 16) dX5_has_1 rfl (fun c1 => (r_iconst C dX5_has_16 (r_zret C dX5_has_17 rfl ?_))) (fun c1 => (r_iload_n C dX5_has_4 rfl rfl (r_aload_n C dX5_has_5 rfl rfl (r_getI C dX5_has_6 fd_X5_51 nK_37 sK_37 rfl (r_icmp_ge C (tgt := 16) dX5_has_9 rfl (fun c9 => (r_iconst C dX5_has_16 (r_zret C dX5_has_17 rfl ?_))) (fun c9 => (r_iconst C dX5_has_12 (r_goto C (tgt := 17) dX5_has_13 rfl (r_zret C dX5_has_17 rfl ?_)))))))))))
  · exact ⟨bP_0 (by omega), rfl⟩
  · exact ⟨bP_0 (by omega), rfl⟩
  · exact ⟨bP_1 (by omega), rfl⟩
theorem ok_X5_add {x1 x2 x3 x4 x5 : Int32} {μ : kMem} (h : 0 ≤ (μ.1 37 6).toInt ∧ (μ.1 37 6).toInt ≤ 20) : kOk yX5_add cX5_add 6 (some .int) rmX5_add shK 68 [.ref 37, .int x1, .int x2, .int x3, .int x4, .int x5] μ (kI fun r μ' => ((μ.1 37 6).toInt < 20 ∧ r = μ.1 37 6 ∧ μ' = up (up (up (up (up (up μ 38 (μ.1 37 6).toInt.toNat x1) 39 (μ.1 37 6).toInt.toNat x2) 40 (μ.1 37 6).toInt.toNat x3) 41 (μ.1 37 6).toInt.toNat x4) 42 (μ.1 37 6).toInt.toNat x5) 37 6 (Int32.ofInt ((μ.1 37 6).toInt + 1))) ∨ ((μ.1 37 6).toInt = 20 ∧ r = Int32.ofInt (-1) ∧ μ' = μ)) := by
  have e1 : μ.1 37 6 + Int32.ofInt 1 = Int32.ofInt ((μ.1 37 6).toInt + 1) := ti_ext (by simp (disch := (first | omega | (simp (disch := omega) only [ti_ofInt, ti_addc, ti_subc, ti_mulc, ti_cmul, ti_divc, ti_remc, ti_zero, ti_add, ti_sub, ti_neg, if_lt_ti, if_gt_ti, bP_e0, Classical.not_not, tl_i2l]; omega))) only [ti_ofInt, ti_addc, ti_subc, ti_mulc, ti_cmul, ti_divc, ti_remc, ti_zero, ti_add, ti_sub, ti_neg, if_lt_ti, if_gt_ti, bP_e0, Classical.not_not, tl_i2l])
  have e2 : (μ.1 37 6 + Int32.ofInt 1 - Int32.ofInt 1) = μ.1 37 6 := ti_ext (by simp (disch := (first | omega | (simp (disch := (first | omega | (simp (disch := (first | omega | (simp (disch := omega) only [ti_ofInt, ti_addc, ti_subc, ti_mulc, ti_cmul, ti_divc, ti_remc, ti_zero, ti_add, ti_sub, ti_neg, if_lt_ti, if_gt_ti, bP_e0, Classical.not_not, tl_i2l]; omega))) only [ti_ofInt, ti_addc, ti_subc, ti_mulc, ti_cmul, ti_divc, ti_remc, ti_zero, ti_add, ti_sub, ti_neg, if_lt_ti, if_gt_ti, bP_e0, Classical.not_not, tl_i2l]; omega))) only [ti_ofInt, ti_addc, ti_subc, ti_mulc, ti_cmul, ti_divc, ti_remc, ti_zero, ti_add, ti_sub, ti_neg, if_lt_ti, if_gt_ti, bP_e0, Classical.not_not, tl_i2l]; omega))) only [ti_ofInt, ti_addc, ti_subc, ti_mulc, ti_cmul, ti_divc, ti_remc, ti_zero, ti_add, ti_sub, ti_neg, if_lt_ti, if_gt_ti, bP_e0, Classical.not_not, tl_i2l]; omega)
  refine kOk.of rfl (Nat.le_of_ble_eq_true rfl) (fun J C => ?_)
  have C : kR cX5_add RX5 6 rmX5_add shK 68 (some .int) _ J := C
  refine (r_aload_n C dX5_add_0 rfl rfl (r_getI C dX5_add_1 fd_X5_51 nK_37 sK_37 rfl (r_bipush C dX5_add_4 (by decide +kernel) (r_icmp_lt C (tgt := 11) dX5_add_6 rfl (fun c6 => (r_aload_n C dX5_add_11 rfl rfl (r_getR C dX5_add_12 fd_X5_13 nK_37 sK_37 rfl (r_aload_n C dX5_add_15 rfl rfl (r_getI C dX5_add_16 fd_X5_51 nK_37 sK_37 rfl (r_iload_n C dX5_add_19 rfl rfl (r_iast C dX5_add_20 nK_38 sK_38 ?_ (r_aload_n C dX5_add_21 rfl rfl (r_getR C dX5_add_22 fd_X5_17 nK_37 sK_37 rfl (r_aload_n C dX5_add_25 rfl rfl (r_getI C dX5_add_26 fd_X5_51 nK_37 sK_37 rfl (r_iload_n C dX5_add_29 rfl rfl (r_iast C dX5_add_30 nK_39 sK_39 ?_ (r_aload_n C dX5_add_31 rfl rfl (r_getR C dX5_add_32 fd_X5_20 nK_37 sK_37 rfl (r_aload_n C dX5_add_35 rfl rfl (r_getI C dX5_add_36 fd_X5_51 nK_37 sK_37 rfl (r_iload_n C dX5_add_39 rfl rfl (r_iast C dX5_add_40 nK_40 sK_40 ?_ (r_aload_n C dX5_add_41 rfl rfl (r_getR C dX5_add_42 fd_X5_23 nK_37 sK_37 rfl (r_aload_n C dX5_add_45 rfl rfl (r_getI C dX5_add_46 fd_X5_51 nK_37 sK_37 rfl (r_iload C dX5_add_49 rfl (r_iast C dX5_add_51 nK_41 sK_41 ?_ (r_aload_n C dX5_add_52 rfl rfl (r_getR C dX5_add_53 fd_X5_26 nK_37 sK_37 rfl (r_aload_n C dX5_add_56 rfl rfl (r_getI C dX5_add_57 fd_X5_51 nK_37 sK_37 rfl (r_iload C dX5_add_60 rfl (r_iast C dX5_add_62 nK_42 sK_42 ?_ (r_aload_n C dX5_add_63 rfl rfl (r_dup C dX5_add_64 rfl (r_getI C dX5_add_65 fd_X5_51 nK_37 sK_37 rfl (r_iconst C dX5_add_68 (r_iadd C dX5_add_69 (r_putI C dX5_add_70 fw_X5_51 nK_37 sK_37 rfl (r_aload_n C dX5_add_73 rfl rfl (r_getI C dX5_add_74 fd_X5_51 nK_37 sK_37 rfl (r_iconst C dX5_add_77 (r_isub C dX5_add_78 (r_iret C dX5_add_79 ?_)))))))))))))))))))))))))))))))))))))))))) (fun c6 => (r_iconst C dX5_add_9 (r_iret C dX5_add_10 ?_)))))))
  · simp (disch := (first | omega | (simp (disch := omega) only [ti_ofInt, ti_addc, ti_subc, ti_mulc, ti_cmul, ti_divc, ti_remc, ti_zero, ti_add, ti_sub, ti_neg, if_lt_ti, if_gt_ti, bP_e0, Classical.not_not, tl_i2l]; omega))) only [ti_ofInt, ti_addc, ti_subc, ti_mulc, ti_cmul, ti_divc, ti_remc, ti_zero, ti_add, ti_sub, ti_neg, if_lt_ti, if_gt_ti, bP_e0, Classical.not_not, tl_i2l] at c6
    omega
  · simp (disch := (first | omega | (simp (disch := omega) only [ti_ofInt, ti_addc, ti_subc, ti_mulc, ti_cmul, ti_divc, ti_remc, ti_zero, ti_add, ti_sub, ti_neg, if_lt_ti, if_gt_ti, bP_e0, Classical.not_not, tl_i2l]; omega))) only [ti_ofInt, ti_addc, ti_subc, ti_mulc, ti_cmul, ti_divc, ti_remc, ti_zero, ti_add, ti_sub, ti_neg, if_lt_ti, if_gt_ti, bP_e0, Classical.not_not, tl_i2l] at c6
    exact (by omega : 0 ≤ (μ.1 37 6).toInt ∧ (μ.1 37 6).toInt < 20)
  · simp (disch := (first | omega | (simp (disch := omega) only [ti_ofInt, ti_addc, ti_subc, ti_mulc, ti_cmul, ti_divc, ti_remc, ti_zero, ti_add, ti_sub, ti_neg, if_lt_ti, if_gt_ti, bP_e0, Classical.not_not, tl_i2l]; omega))) only [ti_ofInt, ti_addc, ti_subc, ti_mulc, ti_cmul, ti_divc, ti_remc, ti_zero, ti_add, ti_sub, ti_neg, if_lt_ti, if_gt_ti, bP_e0, Classical.not_not, tl_i2l] at c6
    exact (by omega : 0 ≤ (μ.1 37 6).toInt ∧ (μ.1 37 6).toInt < 20)
  · simp (disch := (first | omega | (simp (disch := omega) only [ti_ofInt, ti_addc, ti_subc, ti_mulc, ti_cmul, ti_divc, ti_remc, ti_zero, ti_add, ti_sub, ti_neg, if_lt_ti, if_gt_ti, bP_e0, Classical.not_not, tl_i2l]; omega))) only [ti_ofInt, ti_addc, ti_subc, ti_mulc, ti_cmul, ti_divc, ti_remc, ti_zero, ti_add, ti_sub, ti_neg, if_lt_ti, if_gt_ti, bP_e0, Classical.not_not, tl_i2l] at c6
    exact (by omega : 0 ≤ (μ.1 37 6).toInt ∧ (μ.1 37 6).toInt < 20)
  · simp (disch := (first | omega | (simp (disch := omega) only [ti_ofInt, ti_addc, ti_subc, ti_mulc, ti_cmul, ti_divc, ti_remc, ti_zero, ti_add, ti_sub, ti_neg, if_lt_ti, if_gt_ti, bP_e0, Classical.not_not, tl_i2l]; omega))) only [ti_ofInt, ti_addc, ti_subc, ti_mulc, ti_cmul, ti_divc, ti_remc, ti_zero, ti_add, ti_sub, ti_neg, if_lt_ti, if_gt_ti, bP_e0, Classical.not_not, tl_i2l] at c6
    exact (by omega : 0 ≤ (μ.1 37 6).toInt ∧ (μ.1 37 6).toInt < 20)
  · simp (disch := (first | omega | (simp (disch := omega) only [ti_ofInt, ti_addc, ti_subc, ti_mulc, ti_cmul, ti_divc, ti_remc, ti_zero, ti_add, ti_sub, ti_neg, if_lt_ti, if_gt_ti, bP_e0, Classical.not_not, tl_i2l]; omega))) only [ti_ofInt, ti_addc, ti_subc, ti_mulc, ti_cmul, ti_divc, ti_remc, ti_zero, ti_add, ti_sub, ti_neg, if_lt_ti, if_gt_ti, bP_e0, Classical.not_not, tl_i2l] at c6
    exact Or.inl ⟨c6, e2, by rw [← e1]; rfl⟩
  · simp (disch := (first | omega | (simp (disch := omega) only [ti_ofInt, ti_addc, ti_subc, ti_mulc, ti_cmul, ti_divc, ti_remc, ti_zero, ti_add, ti_sub, ti_neg, if_lt_ti, if_gt_ti, bP_e0, Classical.not_not, tl_i2l]; omega))) only [ti_ofInt, ti_addc, ti_subc, ti_mulc, ti_cmul, ti_divc, ti_remc, ti_zero, ti_add, ti_sub, ti_neg, if_lt_ti, if_gt_ti, bP_e0, Classical.not_not, tl_i2l] at c6
    exact Or.inr ⟨by omega, rfl, rfl⟩
noncomputable def knl (s : kPs) (μ : kMem) (m : Nat) : Int := if sG s m < pZ (kpd μ) m then (pR (kpd μ) m (sG s m) : Int) else -1
theorem ok_X5_nextLine {x : Int32} {s : kPs} {μ : kMem} (h : kPo s μ ∧ 0 ≤ x.toInt ∧ x.toInt < (μ.1 37 6).toInt) : kOk yX5_nextLine cX5_nextLine 4 (some .int) rmX5_nextLine shK 68 [.ref 37, .int x] μ (kP (Int32.ofInt (knl s μ x.toInt.toNat)) μ) := by
  obtain ⟨⟨hl, hp, hr⟩, hx, hx2⟩ := h
  obtain ⟨m, hm⟩ : ∃ m : Nat, x.toInt = m := ⟨x.toInt.toNat, by omega⟩
  have em : x.toInt.toNat = m := by omega
  rw [em]
  have hn := kp_n hp
  have hd := kpd_ok hl hp
  have hdm := hd.2.2 m (by omega)
  have hln := kLn_n hl
  obtain ⟨r1, r2⟩ := hr.1 m (by omega)
  obtain ⟨s1, s2, s3, s4⟩ := hr.2.1 m (by omega)
  have m5 : (Int32.ofInt 5).toInt = 5 := by decide
  have e5 : (x * Int32.ofInt 5 + μ.1 46 m).toInt = ((m * 5 + sG s m : Nat) : Int) := by
    have a : (x * Int32.ofInt 5).toInt = x.toInt * 5 := ti_mulc (by omega)
    rw [ti_add (by omega), a]
    omega
  have m1 : (Int32.ofInt (-1)).toInt = -1 := by decide
  have no : ¬ sG s m < pZ (kpd μ) m → Int32.ofInt (-1) = Int32.ofInt (knl s μ m) := fun q => by unfold knl; rw [if_neg q]
  have hrg : sG s m < pZ (kpd μ) m → (μ.1 43 (x * Int32.ofInt 5 + μ.1 46 m).toInt.toNat).toInt = pR (kpd μ) m (sG s m) ∧ pR (kpd μ) m (sG s m) < kln μ := by
    intro q
    rw [e5, Int.toNat_natCast]
    exact ⟨r2 _ q, hdm.2.2.2.1 _ q⟩
  refine kOk.of rfl (Nat.le_of_ble_eq_true rfl) (fun J C => ?_)
  have C : kR cX5_nextLine RX5 4 rmX5_nextLine shK 68 (some .int) _ J := C
  refine (r_aload_n C dX5_nextLine_0 rfl rfl (r_getR C dX5_nextLine_1 fd_X5_38 nK_37 sK_37 rfl (r_iload_n C dX5_nextLine_4 rfl rfl (r_iald C dX5_nextLine_5 nK_46 sK_46 ?_ (r_istore_n C dX5_nextLine_6 rfl (by decide) (r_iload_n C dX5_nextLine_7 rfl rfl (r_aload_n C dX5_nextLine_8 rfl rfl (r_getR C dX5_nextLine_9 fd_X5_35 nK_37 sK_37 rfl (r_iload_n C dX5_nextLine_12 rfl rfl (r_iald C dX5_nextLine_13 nK_45 sK_45 ?_ (r_icmp_ge C (tgt := 35) dX5_nextLine_14 rfl (fun c14 => (r_iconst C dX5_nextLine_35 (r_istore_n C dX5_nextLine_36 rfl (by decide) (r_aload_n C dX5_nextLine_37 rfl rfl (r_getR C dX5_nextLine_38 fd_X5_47 nK_37 sK_37 rfl (r_iload_n C dX5_nextLine_41 rfl rfl (r_v1P C yv_X4_has lk_X5_87 dX5_nextLine_42 rfl nK_18 sK_18 rfl (Nat.le_of_ble_eq_true rfl) ok_X4_has (r_if_eq C (tgt := 52) dX5_nextLine_45 rfl (fun c45 => (r_iconst C dX5_nextLine_52 (r_iret C dX5_nextLine_53 ?_))) (fun c45 => (r_iload_n C dX5_nextLine_48 rfl rfl (r_goto C (tgt := 53) dX5_nextLine_49 rfl (r_iret C dX5_nextLine_53 ?_)))))))))))) (fun c14 => (r_iload_n C dX5_nextLine_17 rfl rfl (r_iconst C dX5_nextLine_18 (r_icmp_ge C (tgt := 35) dX5_nextLine_19 rfl (fun c19 => (r_iconst C dX5_nextLine_35 (r_istore_n C dX5_nextLine_36 rfl (by decide) (r_aload_n C dX5_nextLine_37 rfl rfl (r_getR C dX5_nextLine_38 fd_X5_47 nK_37 sK_37 rfl (r_iload_n C dX5_nextLine_41 rfl rfl (r_v1P C yv_X4_has lk_X5_87 dX5_nextLine_42 rfl nK_18 sK_18 rfl (Nat.le_of_ble_eq_true rfl) ok_X4_has (r_if_eq C (tgt := 52) dX5_nextLine_45 rfl (fun c45 => (r_iconst C dX5_nextLine_52 (r_iret C dX5_nextLine_53 ?_))) (fun c45 => (r_iload_n C dX5_nextLine_48 rfl rfl (r_goto C (tgt := 53) dX5_nextLine_49 rfl (r_iret C dX5_nextLine_53 ?_)))))))))))) (fun c19 => (r_aload_n C dX5_nextLine_22 rfl rfl (r_getR C dX5_nextLine_23 fd_X5_29 nK_37 sK_37 rfl (r_iload_n C dX5_nextLine_26 rfl rfl (r_iconst C dX5_nextLine_27 (r_imul C dX5_nextLine_28 (r_iload_n C dX5_nextLine_29 rfl rfl (r_iadd C dX5_nextLine_30 (r_iald C dX5_nextLine_31 nK_43 sK_43 ?_ (r_goto C (tgt := 36) dX5_nextLine_32 rfl (r_istore_n C dX5_nextLine_36 rfl (by decide) (r_aload_n C dX5_nextLine_37 rfl rfl (r_getR C dX5_nextLine_38 fd_X5_47 nK_37 sK_37 rfl (r_iload_n C dX5_nextLine_41 rfl rfl (r_v1P C yv_X4_has lk_X5_87 dX5_nextLine_42 rfl nK_18 sK_18 rfl (Nat.le_of_ble_eq_true rfl) ok_X4_has (r_if_eq C (tgt := 52) dX5_nextLine_45 rfl (fun c45 => (r_iconst C dX5_nextLine_52 (r_iret C dX5_nextLine_53 ?_))) (fun c45 => (r_iload_n C dX5_nextLine_48 rfl rfl (r_goto C (tgt := 53) dX5_nextLine_49 rfl (r_iret C dX5_nextLine_53 ?_)))))))))))))))))))))))))))))))))))
  · omega
  · omega
  · rw [em, s2, r1] at c14
    exact ⟨no (by omega), rfl⟩
  · have := bP_ne c45
    rw [m1] at this
    omega
  · rw [em, s2, m5] at c19
    exact ⟨no (by omega), rfl⟩
  · have := bP_ne c45
    rw [m1] at this
    omega
  · rw [em, s2, m5] at c19
    rw [em, e5]
    omega
  · rw [em, s2, r1] at c14
    rw [em] at c45
    have := hrg (by omega)
    have c := bP_e0.mp c45
    omega
  · rw [em, s2, r1] at c14
    have := hrg (by omega)
    rw [em]
    refine ⟨ti_ext ?_, rfl⟩
    unfold knl
    rw [if_pos (by omega), this.1, ti_ofInt (by omega)]
theorem ok_X5_goesAhead {x y : Int32} {s : kPs} {μ : kMem} (h : kPo s μ ∧ (0 ≤ x.toInt ∧ x.toInt < (μ.1 37 6).toInt) ∧ 0 ≤ y.toInt ∧ y.toInt < (μ.1 37 6).toInt) : kOk yX5_goesAhead cX5_goesAhead 3 (some .boolean) rmX5_goesAhead shK 68 [.ref 37, .int x, .int y] μ (kP (bP (pAh (kpd μ) s x.toInt.toNat y.toInt.toNat)) μ) := by
  obtain ⟨⟨hl, hp, hr⟩, ⟨hx, hx2⟩, hy, hy2⟩ := h
  have hn := kp_n hp
  obtain ⟨-, -, s3, -⟩ := hr.2.1 x.toInt.toNat (by omega)
  obtain ⟨-, -, s4, -⟩ := hr.2.1 y.toInt.toNat (by omega)
  have e1 : pP (kpd μ) x.toInt.toNat = (μ.1 42 x.toInt.toNat).toInt := rfl
  have e2 : pP (kpd μ) y.toInt.toNat = (μ.1 42 y.toInt.toNat).toInt := rfl
  unfold pAh
  rw [e1, e2, ← s3, ← s4]
  refine kOk.of rfl (Nat.le_of_ble_eq_true rfl) (fun J C => ?_)
  have C : kR cX5_goesAhead RX5 3 rmX5_goesAhead shK 68 (some .boolean) _ J := C
  refine (r_aload_n C dX5_goesAhead_0 rfl rfl (r_getR C dX5_goesAhead_1 fd_X5_26 nK_37 sK_37 rfl (r_iload_n C dX5_goesAhead_4 rfl rfl (r_iald C dX5_goesAhead_5 nK_42 sK_42 ?_ (r_aload_n C dX5_goesAhead_6 rfl rfl (r_getR C dX5_goesAhead_7 fd_X5_26 nK_37 sK_37 rfl (r_iload_n C dX5_goesAhead_10 rfl rfl (r_iald C dX5_goesAhead_11 nK_42 sK_42 ?_ (r_icmp_eq C (tgt := 36) dX5_goesAhead_12 rfl (fun c12 => (r_aload_n C dX5_goesAhead_36 rfl rfl (r_getR C dX5_goesAhead_37 fd_X5_41 nK_37 sK_37 rfl (r_iload_n C dX5_goesAhead_40 rfl rfl (r_iald C dX5_goesAhead_41 nK_47 sK_47 ?_ (r_aload_n C dX5_goesAhead_42 rfl rfl (r_getR C dX5_goesAhead_43 fd_X5_41 nK_37 sK_37 rfl (r_iload_n C dX5_goesAhead_46 rfl rfl (r_iald C dX5_goesAhead_47 nK_47 sK_47 ?_ (r_icmp_ge C (tgt := 55) dX5_goesAhead_48 rfl (fun c48 => (r_iconst C dX5_goesAhead_55 (r_zret C dX5_goesAhead_56 rfl ?_))) (fun c48 => (r_iconst C dX5_goesAhead_51 (r_goto C (tgt := 56) dX5_goesAhead_52 rfl (r_zret C dX5_goesAhead_56 rfl ?_)))))))))))))) (fun c12 => (r_aload_n C dX5_goesAhead_15 rfl rfl (r_getR C dX5_goesAhead_16 fd_X5_26 nK_37 sK_37 rfl (r_iload_n C dX5_goesAhead_19 rfl rfl (r_iald C dX5_goesAhead_20 nK_42 sK_42 ?_ (r_aload_n C dX5_goesAhead_21 rfl rfl (r_getR C dX5_goesAhead_22 fd_X5_26 nK_37 sK_37 rfl (r_iload_n C dX5_goesAhead_25 rfl rfl (r_iald C dX5_goesAhead_26 nK_42 sK_42 ?_ (r_icmp_le C (tgt := 34) dX5_goesAhead_27 rfl (fun c27 => (r_iconst C dX5_goesAhead_34 (r_zret C dX5_goesAhead_35 rfl ?_))) (fun c27 => (r_iconst C dX5_goesAhead_30 (r_goto C (tgt := 35) dX5_goesAhead_31 rfl (r_zret C dX5_goesAhead_35 rfl ?_)))))))))))))))))))))))
  all_goals first | omega | exact ⟨bP_0 (by omega), rfl⟩ | exact ⟨bP_1 (by omega), rfl⟩
theorem ok_X5_begin {x l t : Int32} {s : kPs} {μ : kMem} (h : kPo s μ ∧ (0 ≤ x.toInt ∧ x.toInt < (μ.1 37 6).toInt) ∧ (0 ≤ l.toInt ∧ l.toInt < 8) ∧ (0 ≤ t.toInt ∧ t.toInt ≤ 10000) ∧ sG s x.toInt.toNat < pZ (kpd μ) x.toInt.toNat) : kOk yX5_begin cX5_begin 4 (none) rmX5_begin shK 68 [.ref 37, .int x, .int l, .int t] μ (kN fun μ' => kPo (pBg (kpd μ) s x.toInt.toNat l.toInt.toNat t.toInt) μ' ∧ pSame μ μ') := by
  obtain ⟨⟨hl, hp, hr⟩, ⟨hx, hx2⟩, ⟨hl1, hl2⟩, ⟨ht1, ht2⟩, hz⟩ := h
  obtain ⟨m, hm⟩ : ∃ m : Nat, x.toInt = m := ⟨x.toInt.toNat, by omega⟩
  have em : x.toInt.toNat = m := by omega
  obtain ⟨k, hk⟩ : ∃ k : Nat, l.toInt = k := ⟨l.toInt.toNat, by omega⟩
  have ek : l.toInt.toNat = k := by omega
  rw [em] at hz
  have hn := kp_n hp
  have hd := kpd_ok hl hp
  have hdm := hd.2.2 m (by omega)
  obtain ⟨s1, s2, s3, s4⟩ := hr.2.1 m (by omega)
  have eW : (μ.1 41 m).toInt = pW (kpd μ) m := rfl
  have e5 : (x * Int32.ofInt 5 + μ.1 46 m).toInt = ((m * 5 + sG s m : Nat) : Int) := by
    have a : (x * Int32.ofInt 5).toInt = x.toInt * 5 := ti_mulc (by omega)
    rw [ti_add (by omega), a]
    omega
  have eg : (μ.1 46 m + Int32.ofInt 1).toInt = sG s m + 1 := by rw [ti_addc (by omega)]; omega
  have etw : (t + μ.1 41 m).toInt = t.toInt + pW (kpd μ) m := by rw [ti_add (by omega)]; omega
  simp only [em, ek]
  refine kOk.of rfl (Nat.le_of_ble_eq_true rfl) (fun J C => ?_)
  have C : kR cX5_begin RX5 4 rmX5_begin shK 68 (none) _ J := C
  refine (r_aload_n C dX5_begin_0 rfl rfl (r_getR C dX5_begin_1 fd_X5_32 nK_37 sK_37 rfl (r_iload_n C dX5_begin_4 rfl rfl (r_iconst C dX5_begin_5 (r_imul C dX5_begin_6 (r_aload_n C dX5_begin_7 rfl rfl (r_getR C dX5_begin_8 fd_X5_38 nK_37 sK_37 rfl (r_iload_n C dX5_begin_11 rfl rfl (r_iald C dX5_begin_12 nK_46 sK_46 ?_ (r_iadd C dX5_begin_13 (r_iload_n C dX5_begin_14 rfl rfl (r_iast C dX5_begin_15 nK_44 sK_44 ?_ (r_aload_n C dX5_begin_16 rfl rfl (r_getR C dX5_begin_17 fd_X5_38 nK_37 sK_37 rfl (r_iload_n C dX5_begin_20 rfl rfl (r_dup2 C dX5_begin_21 rfl rfl (r_iald C dX5_begin_22 nK_46 sK_46 ?_ (r_iconst C dX5_begin_23 (r_iadd C dX5_begin_24 (r_iast C dX5_begin_25 nK_46 sK_46 ?_ (r_aload_n C dX5_begin_26 rfl rfl (r_getR C dX5_begin_27 fd_X5_41 nK_37 sK_37 rfl (r_iload_n C dX5_begin_30 rfl rfl (r_iload_n C dX5_begin_31 rfl rfl (r_aload_n C dX5_begin_32 rfl rfl (r_getR C dX5_begin_33 fd_X5_23 nK_37 sK_37 rfl (r_iload_n C dX5_begin_36 rfl rfl (r_iald C dX5_begin_37 nK_41 sK_41 ?_ (r_iadd C dX5_begin_38 (r_iast C dX5_begin_39 nK_47 sK_47 ?_ (r_aload_n C dX5_begin_40 rfl rfl (r_getR C dX5_begin_41 fd_X5_44 nK_37 sK_37 rfl (r_iload_n C dX5_begin_44 rfl rfl (r_iload_n C dX5_begin_45 rfl rfl (r_aload_n C dX5_begin_46 rfl rfl (r_getR C dX5_begin_47 fd_X5_23 nK_37 sK_37 rfl (r_iload_n C dX5_begin_50 rfl rfl (r_iald C dX5_begin_51 nK_41 sK_41 ?_ (r_iadd C dX5_begin_52 (r_iast C dX5_begin_53 nK_48 sK_48 ?_ (r_ret C dX5_begin_54 ?_)))))))))))))))))))))))))))))))))))))))))
  · omega
  · rw [em, e5]; omega
  · omega
  · omega
  · omega
  · omega
  · omega
  · omega
  · rw [em, ek, e5, Int.toNat_natCast]
    simp (disch := decide) only [up_same, up_neo, up_nek, up_2]
    obtain ⟨μ2, hμ2⟩ : ∃ μ2, μ2 = up (up (up (up μ 44 (m * 5 + sG s m) t) 46 m (μ.1 46 m + Int32.ofInt 1)) 47 m (t + μ.1 41 m)) 48 k (t + μ.1 41 m) := ⟨_, rfl⟩
    rw [← hμ2]
    have hS : pSame μ μ2 := by
      intro a b n1 n2 n3 n4
      rw [hμ2, up_neo _ _ (by omega), up_neo _ _ (by omega), up_neo _ _ (by omega), up_neo _ _ (by omega)]
    have hA := pSame_all hS
    refine ⟨⟨hA.2.2.1 hl, hA.2.1 hp, ?_⟩, hS⟩
    unfold kPr
    rw [hA.1, pBg_G, pBg_S, pBg_F, pBg_B, hμ2]
    refine ⟨fun i hi => ?_, fun i hi => ?_, fun j hj => ?_⟩
    · simp (disch := decide) only [up_same, up_neo, up_nek, up_2]
      exact hr.1 i hi
    · obtain ⟨q1, q2, q3, q4⟩ := hr.2.1 i hi
      have hdi := hd.2.2 i hi
      by_cases e : i = m
      · subst e
        simp only [if_true, true_and]
        simp (disch := decide) only [up_same, up_neo, up_nek, up_2]
        refine ⟨by omega, by omega, etw, fun h hh => ?_⟩
        by_cases e2 : h = sG s i
        · rw [if_pos e2, e2, up_same]
        · rw [if_neg e2, up_nek _ _ (by omega)]
          exact q4 h (by omega)
      · simp only [if_neg e, e, false_and, if_false]
        simp (disch := decide) only [up_same, up_neo, up_nek, up_2]
        rw [up_nek _ _ e, up_nek _ _ e]
        refine ⟨q1, q2, q3, fun h hh => ?_⟩
        rw [up_nek _ _ (by omega)]
        exact q4 h hh
    · by_cases e : j = k
      · subst e
        dsimp only
        rw [if_pos rfl, up_same]
        exact etw
      · dsimp only
        rw [if_neg e, up_nek _ _ e]
        simp (disch := decide) only [up_same, up_neo, up_nek, up_2]
        exact hr.2.2 j hj
def optI : Option Nat → Int32
  | none => Int32.ofInt (-1)
  | some m => Int32.ofInt m
theorem optI_none {o : Option Nat} (h : ∀ b, o = some b → b < 20) : (optI o).toInt = -1 ↔ o = none := by
  cases o with
  | none => exact ⟨fun _ => rfl, fun _ => by decide⟩
  | some b =>
    have := h b rfl
    refine ⟨fun q => ?_, fun q => by simp at q⟩
    unfold optI at q
    rw [ti_ofInt (by omega)] at q
    omega
theorem optI_some {b : Nat} (h : b < 20) : (optI (some b)).toInt = b := ti_ofInt (by omega)
theorem ok_X5_chosenFor {l t : Int32} {s : kPs} {μ : kMem} (h : kPo s μ ∧ 0 ≤ l.toInt ∧ l.toInt < 8) : kOk yX5_chosenFor cX5_chosenFor 5 (some .int) rmX5_chosenFor shK 68 [.ref 37, .int l, .int t] μ (kP (optI (pCh (kpd μ) s l.toInt.toNat t.toInt)) μ) := by
  obtain ⟨⟨hl, hp, hr⟩, hl1, hl2⟩ := h
  obtain ⟨k, hk⟩ : ∃ k : Nat, l.toInt = k := ⟨l.toInt.toNat, by omega⟩
  have ek : l.toInt.toNat = k := by omega
  have hn := kp_n hp
  have hd := kpd_ok hl hp
  have hln := kLn_n hl
  have m1 : (Int32.ofInt (-1)).toInt = -1 := by decide
  unfold pCh
  rw [ek]
  refine kOk.of rfl (Nat.le_of_ble_eq_true rfl) (fun J C => ?_)
  have C : kR cX5_chosenFor RX5 5 rmX5_chosenFor shK 68 (some .int) _ J := C
  have loop : ∀ (n i : Nat) (v r : Int32), i + n = pNm (kpd μ) → v.toInt = i → r = optI (chF (pCa (kpd μ) s k t.toInt) (pAh (kpd μ) s) i) → J 5 [some (.ref 37), some (.int l), some (.int t), some (.int r), some (.int v)] [] μ := by
    intro n
    induction n using Nat.strongRecOn with
    | ind n ih =>
      intro i v r hi hv hr2
      have evi : v.toInt.toNat = i := by omega
      have hb : ∀ b, chF (pCa (kpd μ) s k t.toInt) (pAh (kpd μ) s) i = some b → b < i ∧ pCa (kpd μ) s k t.toInt b := fun b q => chF_some _ _ q
      have e1 : chF (pCa (kpd μ) s k t.toInt) (pAh (kpd μ) s) (i + 1) = @ite _ (pCa (kpd μ) s k t.toInt i ∧ ∀ b, chF (pCa (kpd μ) s k t.toInt) (pAh (kpd μ) s) i = some b → pAh (kpd μ) s i b) (Classical.propDecidable _) (some i) (chF (pCa (kpd μ) s k t.toInt) (pAh (kpd μ) s) i) := rfl
      have hp1 : i < pNm (kpd μ) → kPo s μ ∧ 0 ≤ v.toInt ∧ v.toInt < (μ.1 37 6).toInt := fun q => ⟨⟨hl, hp, hr⟩, by omega, by omega⟩
      have hno := optI_none (o := chF (pCa (kpd μ) s k t.toInt) (pAh (kpd μ) s) i) (fun b q => by have := hb b q; omega)
      have keep : i < pNm (kpd μ) → ¬ (pCa (kpd μ) s k t.toInt i ∧ ∀ b, chF (pCa (kpd μ) s k t.toInt) (pAh (kpd μ) s) i = some b → pAh (kpd μ) s i b) → J 5 [some (.ref 37), some (.int l), some (.int t), some (.int r), some (.int (v + Int32.ofInt 1))] [] μ := by
        intro q1 q2
        exact ih (n - 1) (by omega) (i + 1) _ _ (by omega) (by simp (disch := (first | omega | (simp (disch := omega) only [ti_ofInt, ti_addc, ti_subc, ti_mulc, ti_cmul, ti_divc, ti_remc, ti_zero, ti_add, ti_sub, ti_neg, if_lt_ti, if_gt_ti, bP_e0, Classical.not_not, tl_i2l]; omega))) only [ti_ofInt, ti_addc, ti_subc, ti_mulc, ti_cmul, ti_divc, ti_remc, ti_zero, ti_add, ti_sub, ti_neg, if_lt_ti, if_gt_ti, bP_e0, Classical.not_not, tl_i2l]; omega) (by rw [e1, if_neg q2]; exact hr2)
      have take : i < pNm (kpd μ) → (pCa (kpd μ) s k t.toInt i ∧ ∀ b, chF (pCa (kpd μ) s k t.toInt) (pAh (kpd μ) s) i = some b → pAh (kpd μ) s i b) → J 5 [some (.ref 37), some (.int l), some (.int t), some (.int v), some (.int (v + Int32.ofInt 1))] [] μ := by
        intro q1 q2
        refine ih (n - 1) (by omega) (i + 1) _ _ (by omega) (by simp (disch := (first | omega | (simp (disch := omega) only [ti_ofInt, ti_addc, ti_subc, ti_mulc, ti_cmul, ti_divc, ti_remc, ti_zero, ti_add, ti_sub, ti_neg, if_lt_ti, if_gt_ti, bP_e0, Classical.not_not, tl_i2l]; omega))) only [ti_ofInt, ti_addc, ti_subc, ti_mulc, ti_cmul, ti_divc, ti_remc, ti_zero, ti_add, ti_sub, ti_neg, if_lt_ti, if_gt_ti, bP_e0, Classical.not_not, tl_i2l]; omega) ?_
        rw [e1, if_pos q2]
        exact ti_ext (by rw [optI_some (by omega)]; exact hv)
      have ca : i < pNm (kpd μ) → ((Int32.ofInt (knl s μ v.toInt.toNat)).toInt = l.toInt ∧ (μ.1 47 v.toInt.toNat).toInt ≤ t.toInt ↔ pCa (kpd μ) s k t.toInt i) := by
        intro q
        obtain ⟨s1, s2, s3, s4⟩ := hr.2.1 i q
        have hdm := hd.2.2 i q
        rw [evi, s3]
        unfold knl pCa
        by_cases c : sG s i < pZ (kpd μ) i
        · rw [if_pos c]
          have := hdm.2.2.2.1 _ c
          have hl9 : pNl (kpd μ) = kln μ := rfl
          rw [ti_ofInt (by omega)]
          constructor
          · rintro ⟨a, b⟩; exact ⟨c, by omega, b⟩
          · rintro ⟨-, a, b⟩; exact ⟨by omega, b⟩
        · rw [if_neg c, m1]
          constructor
          · rintro ⟨a, b⟩; omega
          · rintro ⟨a, b⟩; exact absurd a c
      have hp2 : i < pNm (kpd μ) → ¬ r.toInt = (Int32.ofInt (-1)).toInt → ∃ b : Nat, r.toInt = b ∧ b < i ∧ chF (pCa (kpd μ) s k t.toInt) (pAh (kpd μ) s) i = some b ∧ (kPo s μ ∧ (0 ≤ v.toInt ∧ v.toInt < (μ.1 37 6).toInt) ∧ 0 ≤ r.toInt ∧ r.toInt < (μ.1 37 6).toInt) := by
        intro q1 q
        cases ho : chF (pCa (kpd μ) s k t.toInt) (pAh (kpd μ) s) i with
        | none => rw [ho] at hr2; exact absurd (by rw [hr2]; rfl) q
        | some b =>
          have := hb b ho
          rw [ho] at hr2
          have e := optI_some (b := b) (by omega)
          rw [← hr2] at e
          exact ⟨b, e, this.1, rfl, ⟨hl, hp, hr⟩, ⟨by omega, by omega⟩, by omega, by omega⟩
      have hp3 : i < pNm (kpd μ) → ¬ r.toInt = (Int32.ofInt (-1)).toInt → kPo s μ ∧ (0 ≤ v.toInt ∧ v.toInt < (μ.1 37 6).toInt) ∧ 0 ≤ r.toInt ∧ r.toInt < (μ.1 37 6).toInt := by
        intro q1 q
        obtain ⟨b, -, -, -, h⟩ := hp2 q1 q
        exact h
      refine (r_iload C dX5_chosenFor_5 rfl (r_aload_n C dX5_chosenFor_7 rfl rfl (r_getI C dX5_chosenFor_8 fd_X5_51 nK_37 sK_37 rfl (r_icmp_ge C (tgt := 59) dX5_chosenFor_11 rfl (fun c11 => (r_iload_n C dX5_chosenFor_59 rfl rfl (r_iret C dX5_chosenFor_60 ?_))) (fun c11 => (r_aload_n C dX5_chosenFor_14 rfl rfl (r_iload C dX5_chosenFor_15 rfl (r_v1P C yv_X5_nextLine lk_X5_79 dX5_chosenFor_17 rfl nK_37 sK_37 rfl (Nat.le_of_ble_eq_true rfl) (ok_X5_nextLine (hp1 (by omega))) (r_iload_n C dX5_chosenFor_20 rfl rfl (r_icmp_ne C (tgt := 53) dX5_chosenFor_21 rfl (fun c21 => (r_iinc C dX5_chosenFor_53 rfl (by decide) (r_goto C (tgt := 5) dX5_chosenFor_56 rfl ?_))) (fun c21 => (r_aload_n C dX5_chosenFor_24 rfl rfl (r_getR C dX5_chosenFor_25 fd_X5_41 nK_37 sK_37 rfl (r_iload C dX5_chosenFor_28 rfl (r_iald C dX5_chosenFor_30 nK_47 sK_47 ?_ (r_iload_n C dX5_chosenFor_31 rfl rfl (r_icmp_gt C (tgt := 53) dX5_chosenFor_32 rfl (fun c32 => (r_iinc C dX5_chosenFor_53 rfl (by decide) (r_goto C (tgt := 5) dX5_chosenFor_56 rfl ?_))) (fun c32 => (r_iload_n C dX5_chosenFor_35 rfl rfl (r_iconst C dX5_chosenFor_36 (r_icmp_eq C (tgt := 50) dX5_chosenFor_37 rfl (fun c37 => (r_iload C dX5_chosenFor_50 rfl (r_istore_n C dX5_chosenFor_52 rfl (by decide) (r_iinc C dX5_chosenFor_53 rfl (by decide) (r_goto C (tgt := 5) dX5_chosenFor_56 rfl ?_))))) (fun c37 => (r_aload_n C dX5_chosenFor_40 rfl rfl (r_iload C dX5_chosenFor_41 rfl (r_iload_n C dX5_chosenFor_43 rfl rfl (r_v2P C yv_X5_goesAhead lk_X5_91 dX5_chosenFor_44 rfl nK_37 sK_37 rfl (Nat.le_of_ble_eq_true rfl) (ok_X5_goesAhead (hp3 (by omega) c37)) (r_if_eq C (tgt := 53) dX5_chosenFor_47 rfl (fun c47 => (r_iinc C dX5_chosenFor_53 rfl (by decide) (r_goto C (tgt := 5) dX5_chosenFor_56 rfl ?_))) (fun c47 => (r_iload C dX5_chosenFor_50 rfl (r_istore_n C dX5_chosenFor_52 rfl (by decide) (r_iinc C dX5_chosenFor_53 rfl (by decide) (r_goto C (tgt := 5) dX5_chosenFor_56 rfl ?_))))))))))))))))))))))))))))))))
      · have e : i = pNm (kpd μ) := by omega
        subst e
        exact ⟨hr2, rfl⟩
      · exact keep (by omega) (fun z => c21 ((ca (by omega)).mpr z.1).1)
      · omega
      · exact keep (by omega) (fun z => by have := ((ca (by omega)).mpr z.1).2; omega)
      · refine take (by omega) ⟨(ca (by omega)).mp ⟨c21, c32⟩, fun b q => ?_⟩
        rw [hr2, m1] at c37
        rw [hno.mp c37] at q
        exact absurd q (by simp)
      · obtain ⟨b, b1, b2, b3, -⟩ := hp2 (by omega) c37
        refine keep (by omega) (fun z => ?_)
        have := z.2 b b3
        have c := bP_e0.mp c47
        rw [evi, b1, Int.toNat_natCast] at c
        exact c this
      · obtain ⟨b, b1, b2, b3, -⟩ := hp2 (by omega) c37
        refine take (by omega) ⟨(ca (by omega)).mp ⟨c21, c32⟩, fun b' q => ?_⟩
        rw [b3] at q
        injection q with q
        have c := bP_ne c47
        rw [evi, b1, Int.toNat_natCast, q] at c
        exact c
  refine (r_iconst C dX5_chosenFor_0 (r_istore_n C dX5_chosenFor_1 rfl (by decide) (r_iconst C dX5_chosenFor_2 (r_istore C dX5_chosenFor_3 (by decide) ?_))))
  exact loop (pNm (kpd μ)) 0 _ _ (by omega) (by simp (disch := (first | omega | (simp (disch := omega) only [ti_ofInt, ti_addc, ti_subc, ti_mulc, ti_cmul, ti_divc, ti_remc, ti_zero, ti_add, ti_sub, ti_neg, if_lt_ti, if_gt_ti, bP_e0, Classical.not_not, tl_i2l]; omega))) only [ti_ofInt, ti_addc, ti_subc, ti_mulc, ti_cmul, ti_divc, ti_remc, ti_zero, ti_add, ti_sub, ti_neg, if_lt_ti, if_gt_ti, bP_e0, Classical.not_not, tl_i2l]; rfl) rfl

