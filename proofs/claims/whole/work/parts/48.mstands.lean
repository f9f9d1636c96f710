/-! ===== the model: letters that stand, readings ===== -/
theorem sumC_all {c : Nat → Int} (h : ∀ p, -1 ≤ c p) : ∀ p, (0 ≤ sumC c p ∨ sumC c p = -1) ∧ (¬ sumC c p = -1 ↔ ∀ q, q < p → ¬ c q = -1) := by
  intro p
  induction p with
  | zero => exact ⟨Or.inl (Int.le_refl _), fun _ q hq => absurd hq (Nat.not_lt_zero _), fun _ => by show ¬ (0 : Int) = -1; decide⟩
  | succ p ih =>
    have hp := h p
    unfold sumC
    by_cases q : sumC c p = -1 ∨ c p = -1
    · rw [if_pos q]
      refine ⟨Or.inr rfl, fun z => absurd rfl z, fun z => ?_⟩
      rcases q with q | q
      · exact absurd q (ih.2.mpr (fun i hi => z i (by omega)))
      · exact absurd q (z p (by omega))
    · rw [if_neg q]
      refine ⟨by omega, fun z i hi => ?_, fun z => by omega⟩
      by_cases e : i = p
      · subst e; exact fun y => q (Or.inr y)
      · exact ih.2.mp (fun y => q (Or.inl y)) i (by omega)
theorem sumC_step {c : Nat → Int} {p : Nat} (h1 : ¬ sumC c p = -1) (h2 : ¬ c p = -1) : sumC c (p + 1) = sumC c p + c p := by
  have e : sumC c (p + 1) = if sumC c p = -1 ∨ c p = -1 then -1 else sumC c p + c p := rfl
  rw [e, if_neg (fun z => z.elim h1 h2)]
theorem pKd_b {m : Int} (h : mdOk m) {i : Nat} (hi : i < dnF 5 m) : 0 ≤ pKd m i ∧ pKd m i ≤ 1 := by
  unfold pKd
  rw [if_pos hi]
  have := h.2.2 (dnF 5 m - 1 - i) (by omega)
  omega
def mlc (μ : kMem) (m : Int) (j : Nat) : Int := lcst (mrs μ) (mmc μ) (pSz m) (pKd m) j
theorem ok_X12_stands {x m : Int32} {μ : kMem} (h : mRd μ ∧ (0 ≤ x.toInt ∧ x.toInt < (μ.1 0 21).toInt ∧ x.toInt % 2 = 0) ∧ mdOk m.toInt ∧ 0 < m.toInt) : kOk yX12_stands cX12_stands 5 (some .boolean) rmX12_stands shM 48 [.ref 0, .int x, .int m] μ (kP (bP (¬ mlc μ m.toInt (x.toInt.toNat / 2) = -1)) μ) := by
  obtain ⟨h, ⟨hx, hx2, hx3⟩, hm, hm0⟩ := h
  have hn := mRd_n h
  obtain ⟨j, hj⟩ : ∃ j : Nat, x.toInt = 2 * (j : Int) := ⟨x.toInt.toNat / 2, by omega⟩
  have ej : x.toInt.toNat / 2 = j := by omega
  rw [ej]
  have hdl := dnF_le 5 m.toInt
  have hdp := dnF_pos.mpr hm0
  have eN := ti_ofInt (n := (dnF 5 m.toInt : Int)) (by omega)
  have hcb := fun p => mrs_b h.2.1 (2 * j + p) (if p % 2 = 0 then pKd m.toInt (p / 2) else 2)
  have hall := sumC_all (c := fun p => mrs μ (2 * j + p) (if p % 2 = 0 then pKd m.toInt (p / 2) else 2)) (fun p => (hcb p).1) (2 * dnF 5 m.toInt - 1)
  have eL : mlc μ m.toInt j = if dnF 5 m.toInt = 0 ∨ mmc μ < j + dnF 5 m.toInt then -1 else sumC (fun p => mrs μ (2 * j + p) (if p % 2 = 0 then pKd m.toInt (p / 2) else 2)) (2 * dnF 5 m.toInt - 1) := rfl
  have m2 : (Int32.ofInt 2).toInt = 2 := by decide
  have e2n : (Int32.ofInt 2 * Int32.ofInt (dnF 5 m.toInt)).toInt = 2 * (dnF 5 m.toInt : Int) := by rw [ti_cmul (by omega), eN]
  have exn : (x + Int32.ofInt 2 * Int32.ofInt (dnF 5 m.toInt)).toInt = x.toInt + 2 * (dnF 5 m.toInt : Int) := by rw [ti_add (by omega), e2n]
  have ex : (x + Int32.ofInt 2 * Int32.ofInt (dnF 5 m.toInt) - Int32.ofInt 1).toInt = x.toInt + 2 * (dnF 5 m.toInt : Int) - 1 := by rw [ti_subc (by omega), exn]
  refine kOk.of rfl (Nat.le_of_ble_eq_true rfl) (fun J C => ?_)
  have C : kR cX12_stands RX12 5 rmX12_stands shM 48 (some .boolean) _ J := C
  have loop : ∀ (k i : Nat) (v : Int32), i + k = dnF 5 m.toInt → v.toInt = i → j + dnF 5 m.toInt ≤ mmc μ → (∀ q, q + 1 < 2 * i → ¬ mrs μ (2 * j + q) (if q % 2 = 0 then pKd m.toInt (q / 2) else 2) = -1) → J 24 [some (.ref 0), some (.int x), some (.int m), some (.int (Int32.ofInt (dnF 5 m.toInt))), some (.int v)] [] μ := by
    intro k
    induction k using Nat.strongRecOn with
    | ind k ih =>
      intro i v hk hv hle hI
      rw [if_neg (by omega)] at eL
      have ev : v.toInt.toNat = i := by omega
      have e2v : (Int32.ofInt 2 * v).toInt = 2 * (i : Int) := by rw [ti_cmul (by omega), hv]
      have exv : (x + Int32.ofInt 2 * v).toInt = ((2 * j + 2 * i : Nat) : Int) := by rw [ti_add (by omega), e2v]; omega
      have exv1 : (x + Int32.ofInt 2 * v - Int32.ofInt 1).toInt = x.toInt + 2 * (i : Int) - 1 := by rw [ti_subc (by omega), exv]; omega
      have hkb : i < dnF 5 m.toInt → 0 ≤ pKd m.toInt i ∧ pKd m.toInt i ≤ 1 := fun q => pKd_b hm q
      have eK : i < dnF 5 m.toInt → (Int32.ofInt (pKd m.toInt v.toInt.toNat)).toInt = pKd m.toInt i := fun q => by have := hkb q; rw [ev, ti_ofInt (by omega)]
      have c1 : i < dnF 5 m.toInt → (mrs μ (x + Int32.ofInt 2 * v).toInt.toNat (Int32.ofInt (pKd m.toInt v.toInt.toNat)).toInt = mrs μ (2 * j + 2 * i) (if (2 * i) % 2 = 0 then pKd m.toInt ((2 * i) / 2) else 2)) := fun q => by
        rw [eK q, exv, Int.toNat_natCast, if_pos (by omega), show 2 * i / 2 = i by omega]
      have c2 : i < dnF 5 m.toInt → 0 < i → (mrs μ (x + Int32.ofInt 2 * v - Int32.ofInt 1).toInt.toNat (Int32.ofInt 2).toInt = mrs μ (2 * j + (2 * i - 1)) (if (2 * i - 1) % 2 = 0 then pKd m.toInt ((2 * i - 1) / 2) else 2)) := fun q q2 => by
        rw [exv1, m2, if_neg (by omega), show (x.toInt + 2 * (i : Int) - 1).toNat = 2 * j + (2 * i - 1) by omega]
      have bad : ∀ p, p < 2 * dnF 5 m.toInt - 1 → mrs μ (2 * j + p) (if p % 2 = 0 then pKd m.toInt (p / 2) else 2) = -1 → Int32.ofInt 0 = bP (¬ mlc μ m.toInt j = -1) := fun p q1 q2 => bP_0 (fun z => by
        rw [eL] at z
        exact hall.2.mp z p q1 q2)
      have go : i < dnF 5 m.toInt → ¬ mrs μ (2 * j + 2 * i) (if (2 * i) % 2 = 0 then pKd m.toInt ((2 * i) / 2) else 2) = -1 → (0 < i → ¬ mrs μ (2 * j + (2 * i - 1)) (if (2 * i - 1) % 2 = 0 then pKd m.toInt ((2 * i - 1) / 2) else 2) = -1) → J 24 [some (.ref 0), some (.int x), some (.int m), some (.int (Int32.ofInt (dnF 5 m.toInt))), some (.int (v + Int32.ofInt 1))] [] μ := by
        intro q1 q2 q3
        refine ih (k - 1) (by omega) (i + 1) _ (by omega) (by simp (disch := (first | omega | (simp (disch := omega) only [ti_ofInt, ti_addc, ti_subc, ti_mulc, ti_cmul, ti_divc, ti_remc, ti_zero, ti_add, ti_sub, ti_neg, if_lt_ti, if_gt_ti, bP_e0, Classical.not_not, tl_i2l]; omega))) only [ti_ofInt, ti_addc, ti_subc, ti_mulc, ti_cmul, ti_divc, ti_remc, ti_zero, ti_add, ti_sub, ti_neg, if_lt_ti, if_gt_ti, bP_e0, Classical.not_not, tl_i2l]; omega) hle (fun q hq => ?_)
        by_cases a : q = 2 * i
        · subst a; exact q2
        · by_cases b : 0 < i ∧ q = 2 * i - 1
          · rw [b.2]; exact q3 b.1
          · exact hI q (by omega)
      refine (r_iload C dX12_stands_24 rfl (r_iload_n C dX12_stands_26 rfl rfl (r_icmp_ge C (tgt := 78) dX12_stands_27 rfl (fun c27 => (r_iconst C dX12_stands_78 (r_zret C dX12_stands_79 rfl ?_))) (fun c27 => (r_aload_n C dX12_stands_30 rfl rfl (r_iload_n C dX12_stands_31 rfl rfl (r_iconst C dX12_stands_32 (r_iload C dX12_stands_33 rfl (r_imul C dX12_stands_35 (r_iadd C dX12_stands_36 (r_iload_n C dX12_stands_37 rfl rfl (r_iload C dX12_stands_38 rfl (r_s2P C ys_X12_kindOf lk_X12_280 dX12_stands_40 rfl (Nat.le_of_ble_eq_true rfl) (ok_X12_kindOf ?_) (r_v2P C yv_X12_isOf lk_X12_284 dX12_stands_43 rfl nM_0 sM_0 rfl (Nat.le_of_ble_eq_true rfl) (ok_X12_isOf ?_) (r_if_eq C (tgt := 70) dX12_stands_46 rfl (fun c46 => (r_iconst C dX12_stands_70 (r_zret C dX12_stands_71 rfl ?_))) (fun c46 => (r_iload C dX12_stands_49 rfl (r_if_le C (tgt := 72) dX12_stands_51 rfl (fun c51 => (r_iinc C dX12_stands_72 rfl (by decide) (r_goto C (tgt := 24) dX12_stands_75 rfl ?_))) (fun c51 => (r_aload_n C dX12_stands_54 rfl rfl (r_iload_n C dX12_stands_55 rfl rfl (r_iconst C dX12_stands_56 (r_iload C dX12_stands_57 rfl (r_imul C dX12_stands_59 (r_iadd C dX12_stands_60 (r_iconst C dX12_stands_61 (r_isub C dX12_stands_62 (r_iconst C dX12_stands_63 (r_v2P C yv_X12_isOf lk_X12_284 dX12_stands_64 rfl nM_0 sM_0 rfl (Nat.le_of_ble_eq_true rfl) (ok_X12_isOf ?_) (r_if_ne C (tgt := 72) dX12_stands_67 rfl (fun c67 => (r_iinc C dX12_stands_72 rfl (by decide) (r_goto C (tgt := 24) dX12_stands_75 rfl ?_))) (fun c67 => (r_iconst C dX12_stands_70 (r_zret C dX12_stands_71 rfl ?_)))))))))))))))))))))))))))))))))
      · rw [eN] at c27
        refine ⟨bP_1 ?_, rfl⟩
        rw [eL]
        exact hall.2.mpr (fun q hq => hI q (by omega))
      · rw [eN] at c27
        exact ⟨hm, by omega, by omega⟩
      · rw [eN] at c27
        have := hkb (by omega)
        rw [eK (by omega), exv]
        exact ⟨h, by omega, by omega, by omega⟩
      · rw [eN] at c27
        have c := bP_e0.mp c46
        rw [c1 (by omega), Classical.not_not] at c
        exact ⟨bad (2 * i) (by omega) c, rfl⟩
      · rw [eN] at c27
        have c := bP_ne c46
        rw [c1 (by omega)] at c
        exact go (by omega) c (fun q => by omega)
      · rw [eN] at c27
        rw [exv1]
        exact ⟨h, by omega, by decide⟩
      · rw [eN] at c27
        have c := bP_ne c46
        have d := bP_ne c67
        rw [c1 (by omega)] at c
        rw [c2 (by omega) (by omega)] at d
        exact go (by omega) c (fun _ => d)
      · rw [eN] at c27
        have d := bP_e0.mp c67
        rw [c2 (by omega) (by omega), Classical.not_not] at d
        exact ⟨bad (2 * i - 1) (by omega) d, rfl⟩
  refine (r_iload_n C dX12_stands_0 rfl rfl (r_s1P C ys_X12_marksMany lk_X12_277 dX12_stands_1 rfl (Nat.le_of_ble_eq_true rfl) (ok_X12_marksMany ?_) (r_istore_n C dX12_stands_4 rfl (by decide) (r_iload_n C dX12_stands_5 rfl rfl (r_iconst C dX12_stands_6 (r_iload_n C dX12_stands_7 rfl rfl (r_imul C dX12_stands_8 (r_iadd C dX12_stands_9 (r_iconst C dX12_stands_10 (r_isub C dX12_stands_11 (r_aload_n C dX12_stands_12 rfl rfl (r_getI C dX12_stands_13 fd_X12_260 nM_0 sM_0 rfl (r_icmp_le C (tgt := 21) dX12_stands_16 rfl (fun c16 => (r_iconst C dX12_stands_21 (r_istore C dX12_stands_22 (by decide) ?_))) (fun c16 => (r_iconst C dX12_stands_19 (r_zret C dX12_stands_20 rfl ?_))))))))))))))))
  · exact ⟨hm.1, hm.2.1⟩
  · rw [ex] at c16
    exact loop (dnF 5 m.toInt) 0 _ (by omega) (by simp (disch := (first | omega | (simp (disch := omega) only [ti_ofInt, ti_addc, ti_subc, ti_mulc, ti_cmul, ti_divc, ti_remc, ti_zero, ti_add, ti_sub, ti_neg, if_lt_ti, if_gt_ti, bP_e0, Classical.not_not, tl_i2l]; omega))) only [ti_ofInt, ti_addc, ti_subc, ti_mulc, ti_cmul, ti_divc, ti_remc, ti_zero, ti_add, ti_sub, ti_neg, if_lt_ti, if_gt_ti, bP_e0, Classical.not_not, tl_i2l]; rfl) (by omega) (fun q hq => by omega)
  · rw [ex] at c16
    rw [if_pos (by omega)] at eL
    exact ⟨bP_0 (fun z => z eL), rfl⟩
theorem ok_X12_costFrom {x m : Int32} {μ : kMem} (h : mRd μ ∧ (0 ≤ x.toInt ∧ x.toInt < (μ.1 0 21).toInt ∧ x.toInt % 2 = 0) ∧ mdOk m.toInt ∧ ¬ mlc μ m.toInt (x.toInt.toNat / 2) = -1) : kOk yX12_costFrom cX12_costFrom 5 (some .int) rmX12_costFrom shM 48 [.ref 0, .int x, .int m] μ (kP (Int32.ofInt (mlc μ m.toInt (x.toInt.toNat / 2))) μ) := by
  obtain ⟨h, ⟨hx, hx2, hx3⟩, hm, hL⟩ := h
  have hn := mRd_n h
  obtain ⟨j, hj⟩ : ∃ j : Nat, x.toInt = 2 * (j : Int) := ⟨x.toInt.toNat / 2, by omega⟩
  have ej : x.toInt.toNat / 2 = j := by omega
  rw [ej] at hL ⊢
  have hdl := dnF_le 5 m.toInt
  have eN := ti_ofInt (n := (dnF 5 m.toInt : Int)) (by omega)
  have hcb := fun p => mrs_b h.2.1 (2 * j + p) (if p % 2 = 0 then pKd m.toInt (p / 2) else 2)
  have hln := lcst_n hL
  have hpz : pSz m.toInt = dnF 5 m.toInt := rfl
  have eL : mlc μ m.toInt j = if dnF 5 m.toInt = 0 ∨ mmc μ < j + dnF 5 m.toInt then -1 else sumC (fun p => mrs μ (2 * j + p) (if p % 2 = 0 then pKd m.toInt (p / 2) else 2)) (2 * dnF 5 m.toInt - 1) := rfl
  rw [if_neg (by omega)] at eL
  have hall := fun p => sumC_all (c := fun p => mrs μ (2 * j + p) (if p % 2 = 0 then pKd m.toInt (p / 2) else 2)) (fun p => (hcb p).1) p
  have hsb := fun p => sumC_b (c := fun p => mrs μ (2 * j + p) (if p % 2 = 0 then pKd m.toInt (p / 2) else 2)) (fun p => hcb p) p
  have hok : ∀ q, q < 2 * dnF 5 m.toInt - 1 → ¬ mrs μ (2 * j + q) (if q % 2 = 0 then pKd m.toInt (q / 2) else 2) = -1 := (hall _).2.mp (by rw [← eL]; exact hL)
  have hsum : ∀ p, p ≤ 2 * dnF 5 m.toInt - 1 → ¬ sumC (fun p => mrs μ (2 * j + p) (if p % 2 = 0 then pKd m.toInt (p / 2) else 2)) p = -1 := fun p hp => (hall p).2.mpr (fun q hq => hok q (by omega))
  have m2 : (Int32.ofInt 2).toInt = 2 := by decide
  refine kOk.of rfl (Nat.le_of_ble_eq_true rfl) (fun J C => ?_)
  have C : kR cX12_costFrom RX12 5 rmX12_costFrom shM 48 (some .int) _ J := C
  have loop : ∀ (k i : Nat) (s v : Int32), i + k = dnF 5 m.toInt → v.toInt = i → s.toInt = sumC (fun p => mrs μ (2 * j + p) (if p % 2 = 0 then pKd m.toInt (p / 2) else 2)) (2 * i - 1) → J 5 [some (.ref 0), some (.int x), some (.int m), some (.int s), some (.int v)] [] μ := by
    intro k
    induction k using Nat.strongRecOn with
    | ind k ih =>
      intro i s v hk hv hs
      have ev : v.toInt.toNat = i := by omega
      have e2v : (Int32.ofInt 2 * v).toInt = 2 * (i : Int) := by rw [ti_cmul (by omega), hv]
      have exv : (x + Int32.ofInt 2 * v).toInt = ((2 * j + 2 * i : Nat) : Int) := by rw [ti_add (by omega), e2v]; omega
      have exv1 : (x + Int32.ofInt 2 * v - Int32.ofInt 1).toInt = x.toInt + 2 * (i : Int) - 1 := by rw [ti_subc (by omega), exv]; omega
      have hkb : i < dnF 5 m.toInt → 0 ≤ pKd m.toInt i ∧ pKd m.toInt i ≤ 1 := fun q => pKd_b hm q
      have eK : i < dnF 5 m.toInt → (Int32.ofInt (pKd m.toInt v.toInt.toNat)).toInt = pKd m.toInt i := fun q => by have := hkb q; rw [ev, ti_ofInt (by omega)]
      have c1 : i < dnF 5 m.toInt → (mrs μ (x + Int32.ofInt 2 * v).toInt.toNat (Int32.ofInt (pKd m.toInt v.toInt.toNat)).toInt = mrs μ (2 * j + 2 * i) (if (2 * i) % 2 = 0 then pKd m.toInt ((2 * i) / 2) else 2)) := fun q => by
        rw [eK q, exv, Int.toNat_natCast, if_pos (by omega), show 2 * i / 2 = i by omega]
      have c2 : i < dnF 5 m.toInt → 0 < i → (mrs μ (x + Int32.ofInt 2 * v - Int32.ofInt 1).toInt.toNat (Int32.ofInt 2).toInt = mrs μ (2 * j + (2 * i - 1)) (if (2 * i - 1) % 2 = 0 then pKd m.toInt ((2 * i - 1) / 2) else 2)) := fun q q2 => by
        rw [exv1, m2, if_neg (by omega), show (x.toInt + 2 * (i : Int) - 1).toNat = 2 * j + (2 * i - 1) by omega]
      have hS1 := hsb (2 * i - 1)
      have hS2 := hsb (2 * i)
      have b1 := hcb (2 * i)
      have b2 := hcb (2 * i - 1)
      refine (r_iload C dX12_costFrom_5 rfl (r_iload_n C dX12_costFrom_7 rfl rfl (r_s1P C ys_X12_marksMany lk_X12_277 dX12_costFrom_8 rfl (Nat.le_of_ble_eq_true rfl) (ok_X12_marksMany ?_) (r_icmp_ge C (tgt := 62) dX12_costFrom_11 rfl (fun c11 => (r_iload_n C dX12_costFrom_62 rfl rfl (r_iret C dX12_costFrom_63 ?_))) (fun c11 => (r_iload_n C dX12_costFrom_14 rfl rfl (r_aload_n C dX12_costFrom_15 rfl rfl (r_iload_n C dX12_costFrom_16 rfl rfl (r_iconst C dX12_costFrom_17 (r_iload C dX12_costFrom_18 rfl (r_imul C dX12_costFrom_20 (r_iadd C dX12_costFrom_21 (r_iload_n C dX12_costFrom_22 rfl rfl (r_iload C dX12_costFrom_23 rfl (r_s2P C ys_X12_kindOf lk_X12_280 dX12_costFrom_25 rfl (Nat.le_of_ble_eq_true rfl) (ok_X12_kindOf ?_) (r_v2P C yv_X12_costOf lk_X12_288 dX12_costFrom_28 rfl nM_0 sM_0 rfl (Nat.le_of_ble_eq_true rfl) (ok_X12_costOf ?_) (r_iload C dX12_costFrom_31 rfl (r_if_le C (tgt := 52) dX12_costFrom_33 rfl (fun c33 => (r_iconst C dX12_costFrom_52 (r_iadd C dX12_costFrom_53 (r_iadd C dX12_costFrom_54 (r_istore_n C dX12_costFrom_55 rfl (by decide) (r_iinc C dX12_costFrom_56 rfl (by decide) (r_goto C (tgt := 5) dX12_costFrom_59 rfl ?_))))))) (fun c33 => (r_aload_n C dX12_costFrom_36 rfl rfl (r_iload_n C dX12_costFrom_37 rfl rfl (r_iconst C dX12_costFrom_38 (r_iload C dX12_costFrom_39 rfl (r_imul C dX12_costFrom_41 (r_iadd C dX12_costFrom_42 (r_iconst C dX12_costFrom_43 (r_isub C dX12_costFrom_44 (r_iconst C dX12_costFrom_45 (r_v2P C yv_X12_costOf lk_X12_288 dX12_costFrom_46 rfl nM_0 sM_0 rfl (Nat.le_of_ble_eq_true rfl) (ok_X12_costOf ?_) (r_goto C (tgt := 53) dX12_costFrom_49 rfl (r_iadd C dX12_costFrom_53 (r_iadd C dX12_costFrom_54 (r_istore_n C dX12_costFrom_55 rfl (by decide) (r_iinc C dX12_costFrom_56 rfl (by decide) (r_goto C (tgt := 5) dX12_costFrom_59 rfl ?_)))))))))))))))))))))))))))))))))))
      · exact ⟨hm.1, hm.2.1⟩
      · rw [eN] at c11
        have e : i = dnF 5 m.toInt := by omega
        refine ⟨ti_ext ?_, rfl⟩
        rw [eL, hs, e, ti_ofInt (by have := hsb (2 * dnF 5 m.toInt - 1); omega)]
      · rw [eN] at c11
        exact ⟨hm, by omega, by omega⟩
      · rw [eN] at c11
        have := hkb (by omega)
        rw [c1 (by omega), eK (by omega), exv]
        exact ⟨h, ⟨by omega, by omega⟩, ⟨by omega, by omega⟩, hok (2 * i) (by omega)⟩
      · rw [eN] at c11
        have i0 : i = 0 := by omega
        rw [c1 (by omega)]
        have ic := ti_ofInt (n := mrs μ (2 * j + 2 * i) (if (2 * i) % 2 = 0 then pKd m.toInt ((2 * i) / 2) else 2)) (by omega)
        have z0 : (Int32.ofInt 0).toInt = 0 := by decide
        have es : (Int32.ofInt (mrs μ (2 * j + 2 * i) (if (2 * i) % 2 = 0 then pKd m.toInt ((2 * i) / 2) else 2)) + Int32.ofInt 0).toInt = mrs μ (2 * j + 2 * i) (if (2 * i) % 2 = 0 then pKd m.toInt ((2 * i) / 2) else 2) := by rw [ti_addc (by omega), ic, Int.add_zero]
        refine ih (k - 1) (by omega) (i + 1) _ _ (by omega) (by simp (disch := (first | omega | (simp (disch := omega) only [ti_ofInt, ti_addc, ti_subc, ti_mulc, ti_cmul, ti_divc, ti_remc, ti_zero, ti_add, ti_sub, ti_neg, if_lt_ti, if_gt_ti, bP_e0, Classical.not_not, tl_i2l]; omega))) only [ti_ofInt, ti_addc, ti_subc, ti_mulc, ti_cmul, ti_divc, ti_remc, ti_zero, ti_add, ti_sub, ti_neg, if_lt_ti, if_gt_ti, bP_e0, Classical.not_not, tl_i2l]; omega) ?_
        rw [ti_add (by rw [es]; omega), es, hs]
        have h1 := sumC_step (hsum (2 * i) (by omega)) (hok (2 * i) (by omega))
        rw [show 2 * (i + 1) - 1 = 2 * i + 1 by omega, h1, show 2 * i - 1 = 2 * i by omega]
      · rw [eN] at c11
        rw [c2 (by omega) (by omega), exv1]
        exact ⟨h, ⟨by omega, by omega⟩, by decide, hok (2 * i - 1) (by omega)⟩
      · rw [eN] at c11
        rw [c1 (by omega), c2 (by omega) (by omega)]
        have ic := ti_ofInt (n := mrs μ (2 * j + 2 * i) (if (2 * i) % 2 = 0 then pKd m.toInt ((2 * i) / 2) else 2)) (by omega)
        have id' := ti_ofInt (n := mrs μ (2 * j + (2 * i - 1)) (if (2 * i - 1) % 2 = 0 then pKd m.toInt ((2 * i - 1) / 2) else 2)) (by omega)
        have es : (Int32.ofInt (mrs μ (2 * j + 2 * i) (if (2 * i) % 2 = 0 then pKd m.toInt ((2 * i) / 2) else 2)) + Int32.ofInt (mrs μ (2 * j + (2 * i - 1)) (if (2 * i - 1) % 2 = 0 then pKd m.toInt ((2 * i - 1) / 2) else 2))).toInt = mrs μ (2 * j + 2 * i) (if (2 * i) % 2 = 0 then pKd m.toInt ((2 * i) / 2) else 2) + mrs μ (2 * j + (2 * i - 1)) (if (2 * i - 1) % 2 = 0 then pKd m.toInt ((2 * i - 1) / 2) else 2) := by rw [ti_add (by omega), ic, id']
        refine ih (k - 1) (by omega) (i + 1) _ _ (by omega) (by simp (disch := (first | omega | (simp (disch := omega) only [ti_ofInt, ti_addc, ti_subc, ti_mulc, ti_cmul, ti_divc, ti_remc, ti_zero, ti_add, ti_sub, ti_neg, if_lt_ti, if_gt_ti, bP_e0, Classical.not_not, tl_i2l]; omega))) only [ti_ofInt, ti_addc, ti_subc, ti_mulc, ti_cmul, ti_divc, ti_remc, ti_zero, ti_add, ti_sub, ti_neg, if_lt_ti, if_gt_ti, bP_e0, Classical.not_not, tl_i2l]; omega) ?_
        rw [ti_add (by rw [es]; omega), es, hs]
        have h1 := sumC_step (hsum (2 * i) (by omega)) (hok (2 * i) (by omega))
        have h2 := sumC_step (hsum (2 * i - 1) (by omega)) (hok (2 * i - 1) (by omega))
        rw [show 2 * i - 1 + 1 = 2 * i by omega] at h2
        rw [show 2 * (i + 1) - 1 = 2 * i + 1 by omega, h1, h2]
        omega
  refine (r_iconst C dX12_costFrom_0 (r_istore_n C dX12_costFrom_1 rfl (by decide) (r_iconst C dX12_costFrom_2 (r_istore C dX12_costFrom_3 (by decide) ?_))))
  exact loop (dnF 5 m.toInt) 0 _ _ (by omega) (by simp (disch := (first | omega | (simp (disch := omega) only [ti_ofInt, ti_addc, ti_subc, ti_mulc, ti_cmul, ti_divc, ti_remc, ti_zero, ti_add, ti_sub, ti_neg, if_lt_ti, if_gt_ti, bP_e0, Classical.not_not, tl_i2l]; omega))) only [ti_ofInt, ti_addc, ti_subc, ti_mulc, ti_cmul, ti_divc, ti_remc, ti_zero, ti_add, ti_sub, ti_neg, if_lt_ti, if_gt_ti, bP_e0, Classical.not_not, tl_i2l]; rfl) (by simp (disch := (first | omega | (simp (disch := omega) only [ti_ofInt, ti_addc, ti_subc, ti_mulc, ti_cmul, ti_divc, ti_remc, ti_zero, ti_add, ti_sub, ti_neg, if_lt_ti, if_gt_ti, bP_e0, Classical.not_not, tl_i2l]; omega))) only [ti_ofInt, ti_addc, ti_subc, ti_mulc, ti_cmul, ti_divc, ti_remc, ti_zero, ti_add, ti_sub, ti_neg, if_lt_ti, if_gt_ti, bP_e0, Classical.not_not, tl_i2l]; rfl)
def mcan (μ : kMem) (h l : Int) : Prop := (0 ≤ h ∧ h < (μ.1 0 18).toInt) ∧ (0 ≤ l ∧ l < (μ.1 0 19).toInt) ∧ (μ.1 0 21).toInt % 2 = 1
def mRI (μ : kMem) : Prop := mTpOk μ ∧ mHdOk μ ∧ mLnOk μ ∧ mCdOk μ
def mcs (μ : kMem) (h l : Int) : Nat → Int → Int := cst (fun i => (μ.1 20 i).toInt) (mtn μ) (mbi μ l) (mle μ h) (mge μ h)
theorem ok_X12_takes {x y : Int32} {μ : kMem} (h : mRI μ) : kOk yX12_takes cX12_takes 3 (some .boolean) rmX12_takes shM 48 [.ref 0, .int x, .int y] μ (kI fun r μ' => (¬ mcan μ x.toInt y.toInt ∧ r = Int32.ofInt 0 ∧ μ' = μ) ∨ (mcan μ x.toInt y.toInt ∧ r = Int32.ofInt 1 ∧ μ' = up (up μ 0 22 x) 0 23 (Int32.ofInt (mbi μ y.toInt)))) := by
  have h1 := h.1.1
  have h2 := h.2.1.1
  have h3 := h.2.2.1.1
  have er : (krem (μ.1 0 21) (Int32.ofInt 2)).toInt = (μ.1 0 21).toInt % 2 := ti_remc (by omega)
  have eb : mbi (up μ 0 22 x) y.toInt = mbi μ y.toInt := by
    unfold mbi
    simp (disch := decide) only [up_same, up_neo, up_nek, up_2]
  refine kOk.of rfl (Nat.le_of_ble_eq_true rfl) (fun J C => ?_)
  have C : kR cX12_takes RX12 3 rmX12_takes shM 48 (some .boolean) _ J := C
  refine (r_aload_n C dX12_takes_0 rfl rfl (r_iload_n C dX12_takes_1 rfl rfl (r_v1P C yv_X12_isHand lk_X12_291 dX12_takes_2 rfl nM_0 sM_0 rfl (Nat.le_of_ble_eq_true rfl) (ok_X12_isHand ?_) (r_if_eq C (tgt := 25) dX12_takes_5 rfl (fun c5 => (r_iconst C dX12_takes_25 (r_zret C dX12_takes_26 rfl ?_))) (fun c5 => (r_aload_n C dX12_takes_8 rfl rfl (r_iload_n C dX12_takes_9 rfl rfl (r_v1P C yv_X12_isLine lk_X12_251 dX12_takes_10 rfl nM_0 sM_0 rfl (Nat.le_of_ble_eq_true rfl) (ok_X12_isLine ?_) (r_if_eq C (tgt := 25) dX12_takes_13 rfl (fun c13 => (r_iconst C dX12_takes_25 (r_zret C dX12_takes_26 rfl ?_))) (fun c13 => (r_aload_n C dX12_takes_16 rfl rfl (r_getI C dX12_takes_17 fd_X12_260 nM_0 sM_0 rfl (r_iconst C dX12_takes_20 (r_irem C dX12_takes_21 (by decide) (r_if_ne C (tgt := 27) dX12_takes_22 rfl (fun c22 => (r_aload_n C dX12_takes_27 rfl rfl (r_iload_n C dX12_takes_28 rfl rfl (r_putI C dX12_takes_29 fw_X12_269 nM_0 sM_0 rfl (r_aload_n C dX12_takes_32 rfl rfl (r_aload_n C dX12_takes_33 rfl rfl (r_iload_n C dX12_takes_34 rfl rfl (r_v1P C yv_X12_biteOf lk_X12_254 dX12_takes_35 rfl nM_0 sM_0 rfl (Nat.le_of_ble_eq_true rfl) (ok_X12_biteOf ?_) (r_putI C dX12_takes_38 fw_X12_263 nM_0 sM_0 rfl (r_iconst C dX12_takes_41 (r_zret C dX12_takes_42 rfl ?_))))))))))) (fun c22 => (r_iconst C dX12_takes_25 (r_zret C dX12_takes_26 rfl ?_))))))))))))))))))
  · exact h2.1
  · exact Or.inl ⟨fun z => bP_e0.mp c5 z.1, rfl, rfl⟩
  · exact h3.1
  · exact Or.inl ⟨fun z => bP_e0.mp c13 z.2.1, rfl, rfl⟩
  · have c := bP_ne c13
    refine ⟨?_, by omega, by omega⟩
    have hl := h.2.2.1
    unfold mLnOk at hl ⊢
    simp (disch := decide) only [up_same, up_neo, up_nek, up_2]
    exact hl
  · rw [er] at c22
    rw [eb]
    exact Or.inr ⟨⟨bP_ne c5, bP_ne c13, by omega⟩, rfl, rfl⟩
  · rw [er] at c22
    exact Or.inl ⟨fun z => by have := z.2.2; omega, rfl, rfl⟩

