/-! ===== the model: routes asked, messages ===== -/
theorem mFarO_sm {μ μ' : kMem} (h : ∀ a b : Nat, a ≠ 31 → μ'.1 a b = μ.1 a b) : mSm μ μ' := fun a b q => h a b (by unfold relM at q; omega)
theorem mFarO_l {μ μ' : kMem} (h : ∀ a b : Nat, a ≠ 31 → μ'.1 a b = μ.1 a b) : mLsame μ μ' := fun a b q => h a b (by omega)
theorem ok_X12_route {x y k : Int32} {μ : kMem} (h : mLnOk μ) : kOk yX12_route cX12_route 7 (some .int) rmX12_route shM 48 [.ref 0, .int x, .int y, .int k] μ (kI fun r μ' => mSm μ μ' ∧ r.toInt = rouA (mst_ μ) (men_ μ) (mln μ) x.toInt y.toInt k.toInt) := by
  have mm : (Int32.ofInt (-1)).toInt = -1 := by decide
  have hd : ∀ a b : Nat, dsF (mst_ μ) (men_ μ) (mln μ) a b = mds μ a b := fun _ _ => rfl
  have hz : ∀ a b : Nat, mds μ a b = 0 ↔ b = a := fun a b => dsF_zero
  have hn := mLn_n h
  refine kOk.of rfl (Nat.le_of_ble_eq_true rfl) (fun J C => ?_)
  have C : kR cX12_route RX12 7 rmX12_route shM 48 (some .int) _ J := C
  have loop : ∀ (s to : Nat), x.toInt = s → y.toInt = to → s < 6 → to < 6 → 0 < mds μ to s → mds μ to s < 6 → ∀ (n i : Nat) (v u : Int32) (z : Option Value) (μ' : kMem), i + n = mds μ to s → u.toInt = i → v.toInt = msn μ to s i → (0 ≤ k.toInt → (i : Int) ≤ k.toInt) → (∀ a b : Nat, a ≠ 31 → μ'.1 a b = μ.1 a b) → J 32 [some (.ref 0), some (.int x), some (.int y), some (.int k), some (.int v), some (.int u), z] [] μ' := by
    intro s to hs hto hs6 ht6 h0 h6 n
    have hc : (((0 ≤ x.toInt ∧ x.toInt < 6) ∧ (0 ≤ y.toInt ∧ y.toInt < 6) ∧ ¬ x.toInt = y.toInt) ∧ dsF (mst_ μ) (men_ μ) (mln μ) y.toInt.toNat x.toInt.toNat < 6) := by
      have e := hz to s
      refine ⟨⟨⟨by omega, by omega⟩, ⟨by omega, by omega⟩, fun q => ?_⟩, ?_⟩
      · have := e.mpr (by omega)
        omega
      · rw [hd, hs, hto]; exact h6
    have hA : rouA (mst_ μ) (men_ μ) (mln μ) x.toInt y.toInt k.toInt = if k.toInt = -1 then (mds μ to s : Int) else if 0 ≤ k.toInt ∧ k.toInt < (mds μ to s : Int) then (mfl μ to (msn μ to s k.toInt.toNat) : Int) else -1 := by
      unfold rouA
      rw [if_pos hc, hs, hto]
      rfl
    induction n using Nat.strongRecOn with
    | ind n ih =>
      intro i v u z μ' hin hu hv hk hO
      have hds : mds μ to (msn μ to s i) + i = mds μ to s := snF_ds h6 i (show i ≤ mds μ to s by omega)
      have hls := mLsame_all (mFarO_l hO)
      by_cases hi : i = mds μ to s
      · have e0 : msn μ to s i = to := (hz to (msn μ to s i)).mp (by omega)
        refine (r_iload C dX12_route_32 rfl (r_iload_n C dX12_route_34 rfl rfl (r_icmp_eq C (tgt := 71) dX12_route_35 rfl (fun c35 => (r_iload_n C dX12_route_71 rfl rfl (r_iconst C dX12_route_72 (r_icmp_ne C (tgt := 81) dX12_route_73 rfl (fun c73 => (r_iconst C dX12_route_81 (r_iret C dX12_route_82 ?_))) (fun c73 => (r_iload C dX12_route_76 rfl (r_goto C (tgt := 82) dX12_route_78 rfl (r_iret C dX12_route_82 ?_)))))))) (fun c35 => (r_aload_n C dX12_route_38 rfl rfl (r_iload C dX12_route_39 rfl (r_iload_n C dX12_route_41 rfl rfl (r_v2I C yv_X12_firstLine lk_X12_352 dX12_route_42 rfl nM_0 sM_0 rfl (Nat.le_of_ble_eq_true rfl) (ok_X12_firstLine ?_) (fun r42 μ42 h42 => (r_istore C dX12_route_45 (by decide) (r_iload C dX12_route_47 rfl (r_iload_n C dX12_route_49 rfl rfl (r_icmp_ne C (tgt := 56) dX12_route_50 rfl (fun c50 => (r_iinc C dX12_route_56 rfl (by decide) (r_aload_n C dX12_route_59 rfl rfl (r_getR C dX12_route_60 fd_X12_54 nM_0 sM_0 rfl (r_iload C dX12_route_63 rfl (r_iald C dX12_route_65 nM_17 sM_17 ?_ (r_istore C dX12_route_66 (by decide) (r_goto C (tgt := 32) dX12_route_68 rfl ?_)))))))) (fun c50 => (r_iload C dX12_route_53 rfl (r_iret C dX12_route_55 ?_))))))))))))))))
        · rw [mm] at c73
          refine ⟨mFarO_sm hO, ?_⟩
          rw [hA, if_neg c73, if_neg (by omega), mm]
        · rw [mm] at c73
          refine ⟨mFarO_sm hO, ?_⟩
          rw [hA, if_pos c73]
          omega
        all_goals (exfalso; omega)
      · have e0 : ¬ msn μ to s i = to := fun q => by have := (hz to (msn μ to s i)).mpr q; omega
        have fl := flF_ok (st := mst_ μ) (en := men_ μ) (n := mln μ) (to := to) (s := msn μ to s i) (by rw [hd]; omega) (by rw [hd]; omega)
        have fl1 : mfl μ to (msn μ to s i) < mln μ := fl.1
        have hs6' : msn μ to s i < 6 := by
          have q := (mLn_st h (mfl μ to (msn μ to s i))).1
          have e : mst_ μ (mfl μ to (msn μ to s i)) = msn μ to s i := fl.2.1
          omega
        have eL : mfL μ to (msn μ to s i) = (mfl μ to (msn μ to s i) : Int) := by unfold mfL; rw [if_pos (by omega)]
        have eto : y.toInt.toNat = to := by omega
        have ev : v.toInt.toNat = msn μ to s i := by omega
        have e7 : mfL μ' = mfL μ := by funext a b; unfold mfL; rw [hls.2.2.2.2.1, hls.2.2.2.2.2.1]
        refine (r_iload C dX12_route_32 rfl (r_iload_n C dX12_route_34 rfl rfl (r_icmp_eq C (tgt := 71) dX12_route_35 rfl (fun c35 => (r_iload_n C dX12_route_71 rfl rfl (r_iconst C dX12_route_72 (r_icmp_ne C (tgt := 81) dX12_route_73 rfl (fun c73 => (r_iconst C dX12_route_81 (r_iret C dX12_route_82 ?_))) (fun c73 => (r_iload C dX12_route_76 rfl (r_goto C (tgt := 82) dX12_route_78 rfl (r_iret C dX12_route_82 ?_)))))))) (fun c35 => (r_aload_n C dX12_route_38 rfl rfl (r_iload C dX12_route_39 rfl (r_iload_n C dX12_route_41 rfl rfl (r_v2I C yv_X12_firstLine lk_X12_352 dX12_route_42 rfl nM_0 sM_0 rfl (Nat.le_of_ble_eq_true rfl) (ok_X12_firstLine ?_) (fun r42 μ42 h42 => (r_istore C dX12_route_45 (by decide) (r_iload C dX12_route_47 rfl (r_iload_n C dX12_route_49 rfl rfl (r_icmp_ne C (tgt := 56) dX12_route_50 rfl (fun c50 => (r_iinc C dX12_route_56 rfl (by decide) (r_aload_n C dX12_route_59 rfl rfl (r_getR C dX12_route_60 fd_X12_54 nM_0 sM_0 rfl (r_iload C dX12_route_63 rfl (r_iald C dX12_route_65 nM_17 sM_17 ?_ (r_istore C dX12_route_66 (by decide) (r_goto C (tgt := 32) dX12_route_68 rfl ?_)))))))) (fun c50 => (r_iload C dX12_route_53 rfl (r_iret C dX12_route_55 ?_))))))))))))))))
        · exfalso; omega
        · exfalso; omega
        · exact ⟨hls.2.2.2.1 h, ⟨by omega, by omega⟩, by omega, by omega⟩
        · obtain ⟨g1, g2⟩ := h42
          rw [e7, eto, ev, eL] at g1
          omega
        · obtain ⟨g1, g2⟩ := h42
          rw [e7, eto, ev, eL] at g1
          have e17 : μ42.1 17 r42.toInt.toNat = μ.1 17 (mfl μ to (msn μ to s i)) := by
            rw [g1, Int.toNat_natCast, g2 17 _ (by decide), hO 17 _ (by decide)]
          refine ih (n - 1) (by omega) (i + 1) _ _ _ _ (by omega) (by simp (disch := (first | omega | (simp (disch := omega) only [ti_ofInt, ti_addc, ti_subc, ti_mulc, ti_cmul, ti_divc, ti_remc, ti_zero, ti_add, ti_sub, ti_neg, if_lt_ti, if_gt_ti, bP_e0, Classical.not_not, tl_i2l]; omega))) only [ti_ofInt, ti_addc, ti_subc, ti_mulc, ti_cmul, ti_divc, ti_remc, ti_zero, ti_add, ti_sub, ti_neg, if_lt_ti, if_gt_ti, bP_e0, Classical.not_not, tl_i2l]; omega) ?_ (by omega) (fun a b q => by rw [g2 a b q]; exact hO a b q)
          rw [e17]
          have := (mLn_st h (mfl μ to (msn μ to s i))).2.2.2
          have e9 : msn μ to s (i + 1) = men_ μ (mfl μ to (msn μ to s i)) := rfl
          omega
        · obtain ⟨g1, g2⟩ := h42
          rw [e7, eto, ev, eL] at g1
          refine ⟨mFarO_sm (fun a b q => by rw [g2 a b q]; exact hO a b q), ?_⟩
          rw [hA, if_neg (by omega), if_pos (by omega), g1, show k.toInt.toNat = i by omega]
  refine (r_iload_n C dX12_route_0 rfl rfl (r_s1P C ys_X12_isStation lk_X12_236 dX12_route_1 rfl (Nat.le_of_ble_eq_true rfl) ok_X12_isStation (r_if_eq C (tgt := 24) dX12_route_4 rfl (fun c4 => (r_iconst C dX12_route_24 (r_iret C dX12_route_25 ?_))) (fun c4 => (r_iload_n C dX12_route_7 rfl rfl (r_s1P C ys_X12_isStation lk_X12_236 dX12_route_8 rfl (Nat.le_of_ble_eq_true rfl) ok_X12_isStation (r_if_eq C (tgt := 24) dX12_route_11 rfl (fun c11 => (r_iconst C dX12_route_24 (r_iret C dX12_route_25 ?_))) (fun c11 => (r_aload_n C dX12_route_14 rfl rfl (r_iload_n C dX12_route_15 rfl rfl (r_iload_n C dX12_route_16 rfl rfl (r_v2I C yv_X12_firstLine lk_X12_352 dX12_route_17 rfl nM_0 sM_0 rfl (Nat.le_of_ble_eq_true rfl) (ok_X12_firstLine ?_) (fun r17 μ17 h17 => (r_iconst C dX12_route_20 (r_icmp_ne C (tgt := 26) dX12_route_21 rfl (fun c21 => (r_iload_n C dX12_route_26 rfl rfl (r_istore C dX12_route_27 (by decide) (r_iconst C dX12_route_29 (r_istore C dX12_route_30 (by decide) ?_))))) (fun c21 => (r_iconst C dX12_route_24 (r_iret C dX12_route_25 ?_))))))))))))))))))
  · refine ⟨mSm.rf, ?_⟩
    have c := bP_e0.mp c4
    unfold rouA
    rw [if_neg (fun z => c z.1.1), mm]
  · refine ⟨mSm.rf, ?_⟩
    have c := bP_e0.mp c11
    unfold rouA
    rw [if_neg (fun z => c z.1.2.1), mm]
  · exact ⟨h, bP_ne c4, bP_ne c11⟩
  · have t1 := bP_ne c4
    have t2 := bP_ne c11
    obtain ⟨g1, g2⟩ := h17
    rw [mm, g1] at c21
    have q : 0 < mds μ y.toInt.toNat x.toInt.toNat ∧ mds μ y.toInt.toNat x.toInt.toNat < 6 := by
      unfold mfL at c21
      by_cases q : 0 < mds μ y.toInt.toNat x.toInt.toNat ∧ mds μ y.toInt.toNat x.toInt.toNat < 6
      · exact q
      · rw [if_neg q] at c21; exact absurd rfl c21
    exact loop x.toInt.toNat y.toInt.toNat (by omega) (by omega) (by omega) (by omega) q.1 q.2 (mds μ y.toInt.toNat x.toInt.toNat) 0 _ _ _ _ (by omega) (by simp (disch := (first | omega | (simp (disch := omega) only [ti_ofInt, ti_addc, ti_subc, ti_mulc, ti_cmul, ti_divc, ti_remc, ti_zero, ti_add, ti_sub, ti_neg, if_lt_ti, if_gt_ti, bP_e0, Classical.not_not, tl_i2l]; omega))) only [ti_ofInt, ti_addc, ti_subc, ti_mulc, ti_cmul, ti_divc, ti_remc, ti_zero, ti_add, ti_sub, ti_neg, if_lt_ti, if_gt_ti, bP_e0, Classical.not_not, tl_i2l]; rfl) (by show x.toInt = (x.toInt.toNat : Int); omega) (by omega) g2
  · have t1 := bP_ne c4
    have t2 := bP_ne c11
    obtain ⟨g1, g2⟩ := h17
    rw [mm, g1] at c21
    refine ⟨mFarO_sm g2, ?_⟩
    unfold rouA
    rw [if_neg, mm]
    intro z
    have e := hz y.toInt.toNat x.toInt.toNat
    have z1 := z.1.2.2
    have z2 : mds μ y.toInt.toNat x.toInt.toNat < 6 := z.2
    unfold mfL at c21
    rw [if_pos ⟨by
      rcases Nat.eq_zero_or_pos (mds μ y.toInt.toNat x.toInt.toNat) with q | q
      · have := e.mp q
        omega
      · exact q, z2⟩] at c21
    omega
def mMsgC (μ : kMem) (x y p : Int) : Prop := 0 ≤ x ∧ 0 ≤ y ∧ (0 ≤ p ∧ p ≤ 3) ∧ ((0 ≤ x / 10 ∧ x / 10 < 6) ∧ (0 ≤ x % 10 ∧ x % 10 < 6) ∧ ¬ x / 10 = x % 10) ∧ y / 100 ≤ 200 ∧ (1 ≤ y % 100 ∧ y % 100 ≤ 60) ∧ mds μ (x % 10).toNat (x / 10).toNat < 6
theorem ok_X12_message {x y p : Int32} {μ : kMem} (h : mLnOk μ ∧ 0 ≤ (μ.1 0 36).toInt ∧ (μ.1 0 36).toInt ≤ 20) : kOk yX12_message cX12_message 4 (some .int) rmX12_message shM 48 [.ref 0, .int x, .int y, .int p] μ (kI fun r μ' => (mMsgC μ x.toInt y.toInt p.toInt ∧ (μ.1 0 36).toInt < 20 ∧ r = μ.1 0 36 ∧ ((μ'.1 26 (μ.1 0 36).toInt.toNat).toInt = x.toInt / 10 ∧ (μ'.1 27 (μ.1 0 36).toInt.toNat).toInt = x.toInt % 10 ∧ (μ'.1 28 (μ.1 0 36).toInt.toNat).toInt = y.toInt / 100 ∧ (μ'.1 29 (μ.1 0 36).toInt.toNat).toInt = y.toInt % 100 ∧ (μ'.1 30 (μ.1 0 36).toInt.toNat).toInt = p.toInt ∧ (μ'.1 0 36).toInt = (μ.1 0 36).toInt + 1) ∧ ∀ a b : Nat, relM a b → ¬ (a = 0 ∧ b = 36) → ¬ (26 ≤ a ∧ a ≤ 30 ∧ b = (μ.1 0 36).toInt.toNat) → μ'.1 a b = μ.1 a b) ∨ (¬ (mMsgC μ x.toInt y.toInt p.toInt ∧ (μ.1 0 36).toInt < 20) ∧ r = Int32.ofInt (-1) ∧ mSm μ μ')) := by
  obtain ⟨hl, h0, h20⟩ := h
  have mm : (Int32.ofInt (-1)).toInt = -1 := by decide
  have m20 : (Int32.ofInt 20).toInt = 20 := by decide
  have hz : ∀ a b : Nat, mds μ a b = 0 ↔ b = a := fun a b => dsF_zero
  have ex1 : 0 ≤ x.toInt → (x / Int32.ofInt 10).toInt = x.toInt / 10 := fun q => ti_divc (by omega)
  have ex2 : 0 ≤ x.toInt → (krem x (Int32.ofInt 10)).toInt = x.toInt % 10 := fun q => ti_remc (by omega)
  have ey1 : 0 ≤ y.toInt → (y / Int32.ofInt 100).toInt = y.toInt / 100 := fun q => ti_divc (by omega)
  have ey2 : 0 ≤ y.toInt → (krem y (Int32.ofInt 100)).toInt = y.toInt % 100 := fun q => ti_remc (by omega)
  refine kOk.of rfl (Nat.le_of_ble_eq_true rfl) (fun J C => ?_)
  have C : kR cX12_message RX12 4 rmX12_message shM 48 (some .int) _ J := C
  refine (r_iload_n C dX12_message_0 rfl rfl (r_if_lt C (tgt := 79) dX12_message_1 rfl (fun c1 => (r_iconst C dX12_message_79 (r_iret C dX12_message_80 ?_))) (fun c1 => (r_iload_n C dX12_message_4 rfl rfl (r_if_lt C (tgt := 79) dX12_message_5 rfl (fun c5 => (r_iconst C dX12_message_79 (r_iret C dX12_message_80 ?_))) (fun c5 => (r_iload_n C dX12_message_8 rfl rfl (r_bipush C dX12_message_9 (by decide +kernel) (r_idiv C dX12_message_11 (by decide) (r_s1P C ys_X12_isStation lk_X12_236 dX12_message_12 rfl (Nat.le_of_ble_eq_true rfl) ok_X12_isStation (r_if_eq C (tgt := 79) dX12_message_15 rfl (fun c15 => (r_iconst C dX12_message_79 (r_iret C dX12_message_80 ?_))) (fun c15 => (r_iload_n C dX12_message_18 rfl rfl (r_bipush C dX12_message_19 (by decide +kernel) (r_irem C dX12_message_21 (by decide) (r_s1P C ys_X12_isStation lk_X12_236 dX12_message_22 rfl (Nat.le_of_ble_eq_true rfl) ok_X12_isStation (r_if_eq C (tgt := 79) dX12_message_25 rfl (fun c25 => (r_iconst C dX12_message_79 (r_iret C dX12_message_80 ?_))) (fun c25 => (r_iload_n C dX12_message_28 rfl rfl (r_bipush C dX12_message_29 (by decide +kernel) (r_idiv C dX12_message_31 (by decide) (r_i2l C dX12_message_32 (r_lconst C dX12_message_33 rfl (r_ldc2 C dX12_message_34 kc_X12_355 (r_s3P C ys_X12_in lk_X12_155 dX12_message_37 rfl (Nat.le_of_ble_eq_true rfl) ok_X12_in (r_if_eq C (tgt := 79) dX12_message_40 rfl (fun c40 => (r_iconst C dX12_message_79 (r_iret C dX12_message_80 ?_))) (fun c40 => (r_iload_n C dX12_message_43 rfl rfl (r_bipush C dX12_message_44 (by decide +kernel) (r_irem C dX12_message_46 (by decide) (r_i2l C dX12_message_47 (r_lconst C dX12_message_48 rfl (r_ldc2 C dX12_message_49 kc_X12_357 (r_s3P C ys_X12_in lk_X12_155 dX12_message_52 rfl (Nat.le_of_ble_eq_true rfl) ok_X12_in (r_if_eq C (tgt := 79) dX12_message_55 rfl (fun c55 => (r_iconst C dX12_message_79 (r_iret C dX12_message_80 ?_))) (fun c55 => (r_iload_n C dX12_message_58 rfl rfl (r_i2l C dX12_message_59 (r_lconst C dX12_message_60 rfl (r_ldc2 C dX12_message_61 kc_X12_347 (r_s3P C ys_X12_in lk_X12_155 dX12_message_64 rfl (Nat.le_of_ble_eq_true rfl) ok_X12_in (r_if_eq C (tgt := 79) dX12_message_67 rfl (fun c67 => (r_iconst C dX12_message_79 (r_iret C dX12_message_80 ?_))) (fun c67 => (r_aload_n C dX12_message_70 rfl rfl (r_getI C dX12_message_71 fd_X12_359 nM_0 sM_0 rfl (r_bipush C dX12_message_74 (by decide +kernel) (r_icmp_ne C (tgt := 81) dX12_message_76 rfl (fun c76 => ?_) (fun c76 => (r_iconst C dX12_message_79 (r_iret C dX12_message_80 ?_))))))))))))))))))))))))))))))))))))))))))))))))))
  · exact Or.inr ⟨fun z => by have := z.1.1; omega, rfl, mSm.rf⟩
  · exact Or.inr ⟨fun z => by have := z.1.2.1; omega, rfl, mSm.rf⟩
  · rw [ex1 (by omega)] at c15
    exact Or.inr ⟨fun z => bP_e0.mp c15 z.1.2.2.2.1.1, rfl, mSm.rf⟩
  · rw [ex2 (by omega)] at c25
    exact Or.inr ⟨fun z => bP_e0.mp c25 z.1.2.2.2.1.2.1, rfl, mSm.rf⟩
  · have c := bP_e0.mp c40
    simp only [tl_i2l, ll_c0, ll_c1, ll_m1, ll_32, ll_97, ll_25, ll_255255, ll_5, ll_99, ll_20, ll_9, ll_999, ll_1000000, ll_17575, ll_3, ll_200, ll_60, ll_2, ll_5000, ll_m60, ll_m99] at c
    rw [ey1 (by omega)] at c
    exact Or.inr ⟨fun z => c ⟨by have := z.1.2.1; omega, z.1.2.2.2.2.1⟩, rfl, mSm.rf⟩
  · have c := bP_e0.mp c55
    simp only [tl_i2l, ll_c0, ll_c1, ll_m1, ll_32, ll_97, ll_25, ll_255255, ll_5, ll_99, ll_20, ll_9, ll_999, ll_1000000, ll_17575, ll_3, ll_200, ll_60, ll_2, ll_5000, ll_m60, ll_m99] at c
    rw [ey2 (by omega)] at c
    exact Or.inr ⟨fun z => c z.1.2.2.2.2.2.1, rfl, mSm.rf⟩
  · have c := bP_e0.mp c67
    simp only [tl_i2l, ll_c0, ll_c1, ll_m1, ll_32, ll_97, ll_25, ll_255255, ll_5, ll_99, ll_20, ll_9, ll_999, ll_1000000, ll_17575, ll_3, ll_200, ll_60, ll_2, ll_5000, ll_m60, ll_m99] at c
    exact Or.inr ⟨fun z => c z.1.2.2.1, rfl, mSm.rf⟩
  · rw [ex1 (by omega)] at c15
    rw [ex2 (by omega)] at c25
    have q1 := bP_ne c15
    have q2 := bP_ne c25
    have q3 := bP_ne c40
    have q4 := bP_ne c55
    have q5 := bP_ne c67
    simp only [tl_i2l, ll_c0, ll_c1, ll_m1, ll_32, ll_97, ll_25, ll_255255, ll_5, ll_99, ll_20, ll_9, ll_999, ll_1000000, ll_17575, ll_3, ll_200, ll_60, ll_2, ll_5000, ll_m60, ll_m99] at q3
    simp only [tl_i2l, ll_c0, ll_c1, ll_m1, ll_32, ll_97, ll_25, ll_255255, ll_5, ll_99, ll_20, ll_9, ll_999, ll_1000000, ll_17575, ll_3, ll_200, ll_60, ll_2, ll_5000, ll_m60, ll_m99] at q4
    simp only [tl_i2l, ll_c0, ll_c1, ll_m1, ll_32, ll_97, ll_25, ll_255255, ll_5, ll_99, ll_20, ll_9, ll_999, ll_1000000, ll_17575, ll_3, ll_200, ll_60, ll_2, ll_5000, ll_m60, ll_m99] at q5
    rw [ey1 (by omega)] at q3
    rw [ey2 (by omega)] at q4
    rw [m20] at c76
    have hfl : ∀ r : Int32, r.toInt = mfL μ (krem x (Int32.ofInt 10)).toInt.toNat (x / Int32.ofInt 10).toInt.toNat → (¬ r.toInt = -1 ↔ ((¬ x.toInt / 10 = x.toInt % 10) ∧ mds μ (x.toInt % 10).toNat (x.toInt / 10).toNat < 6)) := fun r e => by
      rw [ex1 (by omega), ex2 (by omega)] at e
      have e2 := hz (x.toInt % 10).toNat (x.toInt / 10).toNat
      unfold mfL at e
      by_cases q : 0 < mds μ (x.toInt % 10).toNat (x.toInt / 10).toNat ∧ mds μ (x.toInt % 10).toNat (x.toInt / 10).toNat < 6
      · rw [if_pos q] at e
        exact ⟨fun _ => ⟨fun z => by have := e2.mpr (by omega); omega, q.2⟩, fun _ => by omega⟩
      · rw [if_neg q] at e
        refine ⟨fun z => absurd e z, fun z => ?_⟩
        exfalso
        refine q ⟨?_, z.2⟩
        rcases Nat.eq_zero_or_pos (mds μ (x.toInt % 10).toNat (x.toInt / 10).toNat) with w | w
        · have := e2.mp w
          omega
        · exact w
    refine (r_aload_n C dX12_message_81 rfl rfl (r_iload_n C dX12_message_82 rfl rfl (r_bipush C dX12_message_83 (by decide +kernel) (r_idiv C dX12_message_85 (by decide) (r_iload_n C dX12_message_86 rfl rfl (r_bipush C dX12_message_87 (by decide +kernel) (r_irem C dX12_message_89 (by decide) (r_v2I C yv_X12_firstLine lk_X12_352 dX12_message_90 rfl nM_0 sM_0 rfl (Nat.le_of_ble_eq_true rfl) (ok_X12_firstLine ?_) (fun r90 μ90 h90 => (r_iconst C dX12_message_93 (r_icmp_ne C (tgt := 99) dX12_message_94 rfl (fun c94 => (r_aload_n C dX12_message_99 rfl rfl (r_getR C dX12_message_100 fd_X12_81 nM_0 sM_0 rfl (r_aload_n C dX12_message_103 rfl rfl (r_getI C dX12_message_104 fd_X12_359 nM_0 sM_0 rfl (r_iload_n C dX12_message_107 rfl rfl (r_bipush C dX12_message_108 (by decide +kernel) (r_idiv C dX12_message_110 (by decide) (r_iast C dX12_message_111 nM_26 sM_26 ?_ (r_aload_n C dX12_message_112 rfl rfl (r_getR C dX12_message_113 fd_X12_84 nM_0 sM_0 rfl (r_aload_n C dX12_message_116 rfl rfl (r_getI C dX12_message_117 fd_X12_359 nM_0 sM_0 rfl (r_iload_n C dX12_message_120 rfl rfl (r_bipush C dX12_message_121 (by decide +kernel) (r_irem C dX12_message_123 (by decide) (r_iast C dX12_message_124 nM_27 sM_27 ?_ (r_aload_n C dX12_message_125 rfl rfl (r_getR C dX12_message_126 fd_X12_87 nM_0 sM_0 rfl (r_aload_n C dX12_message_129 rfl rfl (r_getI C dX12_message_130 fd_X12_359 nM_0 sM_0 rfl (r_iload_n C dX12_message_133 rfl rfl (r_bipush C dX12_message_134 (by decide +kernel) (r_idiv C dX12_message_136 (by decide) (r_iast C dX12_message_137 nM_28 sM_28 ?_ (r_aload_n C dX12_message_138 rfl rfl (r_getR C dX12_message_139 fd_X12_90 nM_0 sM_0 rfl (r_aload_n C dX12_message_142 rfl rfl (r_getI C dX12_message_143 fd_X12_359 nM_0 sM_0 rfl (r_iload_n C dX12_message_146 rfl rfl (r_bipush C dX12_message_147 (by decide +kernel) (r_irem C dX12_message_149 (by decide) (r_iast C dX12_message_150 nM_29 sM_29 ?_ (r_aload_n C dX12_message_151 rfl rfl (r_getR C dX12_message_152 fd_X12_93 nM_0 sM_0 rfl (r_aload_n C dX12_message_155 rfl rfl (r_getI C dX12_message_156 fd_X12_359 nM_0 sM_0 rfl (r_iload_n C dX12_message_159 rfl rfl (r_iast C dX12_message_160 nM_30 sM_30 ?_ (r_aload_n C dX12_message_161 rfl rfl (r_dup C dX12_message_162 rfl (r_getI C dX12_message_163 fd_X12_359 nM_0 sM_0 rfl (r_iconst C dX12_message_166 (r_iadd C dX12_message_167 (r_putI C dX12_message_168 fw_X12_359 nM_0 sM_0 rfl (r_aload_n C dX12_message_171 rfl rfl (r_getI C dX12_message_172 fd_X12_359 nM_0 sM_0 rfl (r_iconst C dX12_message_175 (r_isub C dX12_message_176 (r_iret C dX12_message_177 ?_)))))))))))))))))))))))))))))))))))))))))))))))))) (fun c94 => (r_iconst C dX12_message_97 (r_iret C dX12_message_98 ?_))))))))))))))
    · rw [ex1 (by omega), ex2 (by omega)]
      exact ⟨hl, q1, q2⟩
    · have e36 := h90.2 0 36 (by decide)
      rw [e36]; omega
    · have e36 := h90.2 0 36 (by decide)
      simp (disch := decide) only [up_same, up_neo, up_nek, up_2]
      rw [e36]; omega
    · have e36 := h90.2 0 36 (by decide)
      simp (disch := decide) only [up_same, up_neo, up_nek, up_2]
      rw [e36]; omega
    · have e36 := h90.2 0 36 (by decide)
      simp (disch := decide) only [up_same, up_neo, up_nek, up_2]
      rw [e36]; omega
    · have e36 := h90.2 0 36 (by decide)
      simp (disch := decide) only [up_same, up_neo, up_nek, up_2]
      rw [e36]; omega
    · have e36 := h90.2 0 36 (by decide)
      rw [mm] at c94
      have hc := (hfl r90 h90.1).mp c94
      refine Or.inl ⟨⟨by omega, by omega, q5, ⟨q1, q2, hc.1⟩, q3.2, q4, hc.2⟩, by omega, ?_, ?_, fun a b q n1 n2 => ?_⟩
      · simp (disch := decide) only [up_same, up_neo, up_nek, up_2]
        rw [e36]
        exact ti_ext (by rw [ti_subc (by rw [ti_addc (by omega)]; omega), ti_addc (by omega)]; omega)
      · simp (disch := decide) only [up_same, up_neo, up_nek, up_2]
        rw [e36]
        simp (disch := decide) only [up_same, up_neo, up_nek, up_2]
        refine ⟨ex1 (by omega), ex2 (by omega), ey1 (by omega), ey2 (by omega), ?_, ti_addc (by omega)⟩
        first | trivial | rfl
      · simp (disch := decide) only [up_same, up_neo, up_nek, up_2]
        rw [e36]
        rw [up_ne _ _ n1, up_ne _ _ (by omega), up_ne _ _ (by omega), up_ne _ _ (by omega), up_ne _ _ (by omega), up_ne _ _ (by omega)]
        exact mFarO_sm h90.2 a b q
    · rw [mm] at c94
      exact Or.inr ⟨fun z => (hfl r90 h90.1).mpr ⟨z.1.2.2.2.1.2.2, z.1.2.2.2.2.2.2⟩ c94, rfl, mFarO_sm h90.2⟩
  · rw [m20] at c76
    exact Or.inr ⟨fun z => by omega, rfl, mSm.rf⟩

