/-! ===== Post: what is asked ===== -/
theorem ok_X5_arrivalOf {x : Int32} {s : kPs} {μ : kMem} (h : kPo s μ) : kOk yX5_arrivalOf cX5_arrivalOf 2 (some .int) rmX5_arrivalOf shK 68 [.ref 37, .int x] μ (kP (if 0 ≤ x.toInt ∧ x.toInt < (μ.1 37 6).toInt then Int32.ofInt (sS s x.toInt.toNat) else Int32.ofInt (-1)) μ) := by
  obtain ⟨hl, hp, hr⟩ := h
  have hn := kp_n hp
  refine kOk.of rfl (Nat.le_of_ble_eq_true rfl) (fun J C => ?_)
  have C : kR cX5_arrivalOf RX5 2 rmX5_arrivalOf shK 68 (some .int) _ J := C
  refine (r_aload_n C dX5_arrivalOf_0 rfl rfl (r_iload_n C dX5_arrivalOf_1 rfl rfl (r_v1P C yv_X5_has lk_X5_95 dX5_arrivalOf_2 rfl nK_37 sK_37 rfl (Nat.le_of_ble_eq_true rfl) ok_X5_has (r_if_eq C (tgt := 17) dX5_arrivalOf_5 rfl (fun c5 => (r_iconst C dX5_arrivalOf_17 (r_iret C dX5_arrivalOf_18 ?_))) (fun c5 => (r_aload_n C dX5_arrivalOf_8 rfl rfl (r_getR C dX5_arrivalOf_9 fd_X5_41 nK_37 sK_37 rfl (r_iload_n C dX5_arrivalOf_12 rfl rfl (r_iald C dX5_arrivalOf_13 nK_47 sK_47 ?_ (r_goto C (tgt := 18) dX5_arrivalOf_14 rfl (r_iret C dX5_arrivalOf_18 ?_)))))))))))
  · exact ⟨(if_neg (bP_e0.mp c5)).symm, rfl⟩
  · have := bP_ne c5; omega
  · have q := bP_ne c5
    rw [if_pos q]
    obtain ⟨-, -, s3, -⟩ := hr.2.1 x.toInt.toNat (by omega)
    rw [← s3]
    exact ⟨(ti_self _).symm, rfl⟩
theorem pIv_b {d : kPd} {s : kPs} {t : Int} (hd : pOk d) (h : pIv d s t) (ht : 200 ≤ t) {m : Nat} (hm : m < pNm d) : 0 ≤ sS s m ∧ sS s m ≤ t + 60 ∧ sG s m ≤ 5 ∧ (∀ h, h < sG s m → 0 ≤ sB s m h ∧ sB s m h < t) ∧ 0 ≤ (sG s m : Int) * pW d m ∧ (sG s m : Int) * pW d m ≤ 300 := by
  obtain ⟨a, b, c, e, f⟩ := h.1 m hm
  obtain ⟨g1, g2, g3, -⟩ := hd.2.2 m hm
  have k : 0 ≤ sS s m ∧ sS s m ≤ t + 60 := by
    rcases Nat.eq_zero_or_pos (sG s m) with q | q
    · have := b q; omega
    · have q1 := c q
      have q2 := e (sG s m - 1) (by omega)
      omega
  refine ⟨k.1, k.2, by omega, fun h q => ?_, Int.mul_nonneg (by omega) (by omega), ?_⟩
  · have := e h q; omega
  · have : (sG s m : Int) * pW d m ≤ 5 * 60 := Int.mul_le_mul (by omega) (by omega) (by omega) (by omega)
    omega
theorem ok_X5_waitOf {x : Int32} {s : kPs} {μ : kMem} (h : kPo s μ ∧ pIv (kpd μ) s 8001) : kOk yX5_waitOf cX5_waitOf 2 (some .int) rmX5_waitOf shK 68 [.ref 37, .int x] μ (kP (if 0 ≤ x.toInt ∧ x.toInt < (μ.1 37 6).toInt then Int32.ofInt (sS s x.toInt.toNat - pT (kpd μ) x.toInt.toNat - sG s x.toInt.toNat * pW (kpd μ) x.toInt.toNat) else Int32.ofInt (-1)) μ) := by
  obtain ⟨⟨hl, hp, hr⟩, hI⟩ := h
  have hn := kp_n hp
  have hd := kpd_ok hl hp
  refine kOk.of rfl (Nat.le_of_ble_eq_true rfl) (fun J C => ?_)
  have C : kR cX5_waitOf RX5 2 rmX5_waitOf shK 68 (some .int) _ J := C
  refine (r_aload_n C dX5_waitOf_0 rfl rfl (r_iload_n C dX5_waitOf_1 rfl rfl (r_v1P C yv_X5_has lk_X5_95 dX5_waitOf_2 rfl nK_37 sK_37 rfl (Nat.le_of_ble_eq_true rfl) ok_X5_has (r_if_ne C (tgt := 10) dX5_waitOf_5 rfl (fun c5 => (r_aload_n C dX5_waitOf_10 rfl rfl (r_getR C dX5_waitOf_11 fd_X5_41 nK_37 sK_37 rfl (r_iload_n C dX5_waitOf_14 rfl rfl (r_iald C dX5_waitOf_15 nK_47 sK_47 ?_ (r_aload_n C dX5_waitOf_16 rfl rfl (r_getR C dX5_waitOf_17 fd_X5_20 nK_37 sK_37 rfl (r_iload_n C dX5_waitOf_20 rfl rfl (r_iald C dX5_waitOf_21 nK_40 sK_40 ?_ (r_isub C dX5_waitOf_22 (r_aload_n C dX5_waitOf_23 rfl rfl (r_getR C dX5_waitOf_24 fd_X5_38 nK_37 sK_37 rfl (r_iload_n C dX5_waitOf_27 rfl rfl (r_iald C dX5_waitOf_28 nK_46 sK_46 ?_ (r_aload_n C dX5_waitOf_29 rfl rfl (r_getR C dX5_waitOf_30 fd_X5_23 nK_37 sK_37 rfl (r_iload_n C dX5_waitOf_33 rfl rfl (r_iald C dX5_waitOf_34 nK_41 sK_41 ?_ (r_imul C dX5_waitOf_35 (r_isub C dX5_waitOf_36 (r_iret C dX5_waitOf_37 ?_))))))))))))))))))))) (fun c5 => (r_iconst C dX5_waitOf_8 (r_iret C dX5_waitOf_9 ?_)))))))
  · have q := bP_ne c5; omega
  · have q := bP_ne c5; omega
  · have q := bP_ne c5; omega
  · have q := bP_ne c5; omega
  · have q := bP_ne c5
    rw [if_pos q]
    obtain ⟨m, hm⟩ : ∃ m : Nat, x.toInt = m := ⟨x.toInt.toNat, by omega⟩
    have em : x.toInt.toNat = m := by omega
    rw [em]
    have hm2 : m < pNm (kpd μ) := by omega
    obtain ⟨-, s2, s3, -⟩ := hr.2.1 m hm2
    have hb := pIv_b hd hI (by decide) hm2
    have hT := (hd.2.2 m hm2).2.1
    have e40 : (μ.1 40 m).toInt = pT (kpd μ) m := rfl
    have e41 : (μ.1 41 m).toInt = pW (kpd μ) m := rfl
    have i1 : (μ.1 47 m - μ.1 40 m).toInt = sS s m - pT (kpd μ) m := by rw [ti_sub (by omega), s3, e40]
    have i2 : (μ.1 46 m * μ.1 41 m).toInt = sG s m * pW (kpd μ) m := by rw [ti_mul (by rw [s2, e41]; omega), s2, e41]
    refine ⟨ti_ext ?_, rfl⟩
    rw [ti_sub (by rw [i1, i2]; omega), i1, i2, ti_ofInt (by omega)]
  · exact ⟨(if_neg (bP_e0.mp c5)).symm, rfl⟩
/-- where a message is in a minute -/
noncomputable def kwh (μ : kMem) (s : kPs) (m : Nat) (t : Int) : Int := if t < pT (kpd μ) m then -1 else if lstF (fun h => t < sB s m h + pW (kpd μ) m) (sG s m) < sG s m ∧ sB s m (lstF (fun h => t < sB s m h + pW (kpd μ) m) (sG s m)) ≤ t then 10 + (pR (kpd μ) m (lstF (fun h => t < sB s m h + pW (kpd μ) m) (sG s m)) : Int) else (ksn μ (kpE μ m) (kpS μ m) (lstF (fun h => t < sB s m h + pW (kpd μ) m) (sG s m)) : Int)
theorem ok_X5_whereIs {x t : Int32} {s : kPs} {μ : kMem} (h : kPo s μ ∧ pIv (kpd μ) s 8001) : kOk yX5_whereIs cX5_whereIs 7 (some .int) rmX5_whereIs shK 68 [.ref 37, .int x, .int t] μ (kP (if 0 ≤ x.toInt ∧ x.toInt < (μ.1 37 6).toInt then Int32.ofInt (kwh μ s x.toInt.toNat t.toInt) else Int32.ofInt (-1)) μ) := by
  obtain ⟨⟨hl, hp, hr⟩, hI⟩ := h
  have hn := kp_n hp
  have hd := kpd_ok hl hp
  have hln := kLn_n hl
  by_cases q : 0 ≤ x.toInt ∧ x.toInt < (μ.1 37 6).toInt
  · rw [if_pos q]
    obtain ⟨m, hm⟩ : ∃ m : Nat, x.toInt = m := ⟨x.toInt.toNat, by omega⟩
    have em : x.toInt.toNat = m := by omega
    rw [em]
    have hm2 : m < pNm (kpd μ) := by omega
    obtain ⟨r1, r2⟩ := hr.1 m hm2
    obtain ⟨s1, s2, s3, s4⟩ := hr.2.1 m hm2
    have hb := pIv_b hd hI (by decide) hm2
    have hdm := hd.2.2 m hm2
    have hI1 := hI.1 m hm2
    have e40 : (μ.1 40 m).toInt = pT (kpd μ) m := rfl
    have e41 : (μ.1 41 m).toInt = pW (kpd μ) m := rfl
    have e38 : (μ.1 38 m).toInt = kpS μ m := by
      have := (hp.2 m (by omega)).1
      unfold kpS
      omega
    have m5 : (Int32.ofInt 5).toInt = 5 := by decide
    have m10 : (Int32.ofInt 10).toInt = 10 := by decide
    refine kOk.of rfl (Nat.le_of_ble_eq_true rfl) (fun J C => ?_)
    have C : kR cX5_whereIs RX5 7 rmX5_whereIs shK 68 (some .int) _ J := C
    have loop : ∀ (n h : Nat) (v u : Int32) (z1 z2 : Option Value), h + n = sG s m → u.toInt = h → v.toInt = ksn μ (kpE μ m) (kpS μ m) h → ¬ t.toInt < pT (kpd μ) m → (∀ i, i < h → ¬ t.toInt < sB s m i + pW (kpd μ) m) → J 30 [some (.ref 37), some (.int x), some (.int t), some (.int v), some (.int u), z1, z2] [] μ := by
      intro n
      induction n using Nat.strongRecOn with
      | ind n ih =>
        intro h v u z1 z2 hh hu hv ht hno
        have e5 : h < 5 → (x * Int32.ofInt 5 + u).toInt = ((m * 5 + h : Nat) : Int) := by
          intro q
          have a : (x * Int32.ofInt 5).toInt = x.toInt * 5 := ti_mulc (by omega)
          rw [ti_add (by omega), a]
          omega
        have e43 : h < sG s m → (μ.1 43 (x * Int32.ofInt 5 + u).toInt.toNat).toInt = pR (kpd μ) m h := by
          intro q
          rw [e5 (by omega), Int.toNat_natCast]
          exact r2 h (by omega)
        have e44 : h < sG s m → (μ.1 44 (x * Int32.ofInt 5 + u).toInt.toNat).toInt = sB s m h := by
          intro q
          rw [e5 (by omega), Int.toNat_natCast]
          exact s4 h q
        have ebw : h < sG s m → (μ.1 44 (x * Int32.ofInt 5 + u).toInt.toNat + μ.1 41 x.toInt.toNat).toInt = sB s m h + pW (kpd μ) m := by
          intro q
          have := hb.2.2.2.1 h q
          have := hdm.1
          have e := e44 q
          rw [em, ti_add (by omega), e, e41]
        have hRl : h < sG s m → pR (kpd μ) m h < kln μ := fun q => hdm.2.2.2.1 h (by omega)
        have est : h < sG s m → (ken μ (μ.1 43 (x * Int32.ofInt 5 + u).toInt.toNat).toInt).toInt = ksn μ (kpE μ m) (kpS μ m) (h + 1) := by
          intro q
          have h1 := hRl q
          have h2 := kLn_st hl (pR (kpd μ) m h)
          rw [e43 q]
          unfold ken
          rw [if_pos (by omega), Int.toNat_natCast, ← h2.2.2.2]
          rfl
        have done : h = sG s m → v = Int32.ofInt (kwh μ s m t.toInt) := by
          intro q
          subst q
          have e : lstF (fun h => t.toInt < sB s m h + pW (kpd μ) m) (sG s m) = sG s m := lstF_no hno
          have := ti_hi v
          refine ti_ext ?_
          unfold kwh
          rw [e, if_neg ht, if_neg (by omega), ti_ofInt (by omega), hv]
        refine (r_iload C dX5_whereIs_30 rfl (r_aload_n C dX5_whereIs_32 rfl rfl (r_getR C dX5_whereIs_33 fd_X5_38 nK_37 sK_37 rfl (r_iload_n C dX5_whereIs_36 rfl rfl (r_iald C dX5_whereIs_37 nK_46 sK_46 ?_ (r_icmp_ge C (tgt := 116) dX5_whereIs_38 rfl (fun c38 => (r_iload_n C dX5_whereIs_116 rfl rfl (r_iret C dX5_whereIs_117 ?_))) (fun c38 => (r_iload C dX5_whereIs_41 rfl (r_iconst C dX5_whereIs_43 (r_icmp_ge C (tgt := 116) dX5_whereIs_44 rfl (fun c44 => (r_iload_n C dX5_whereIs_116 rfl rfl (r_iret C dX5_whereIs_117 ?_))) (fun c44 => (r_aload_n C dX5_whereIs_47 rfl rfl (r_getR C dX5_whereIs_48 fd_X5_29 nK_37 sK_37 rfl (r_iload_n C dX5_whereIs_51 rfl rfl (r_iconst C dX5_whereIs_52 (r_imul C dX5_whereIs_53 (r_iload C dX5_whereIs_54 rfl (r_iadd C dX5_whereIs_56 (r_iald C dX5_whereIs_57 nK_43 sK_43 ?_ (r_istore C dX5_whereIs_58 (by decide) (r_aload_n C dX5_whereIs_60 rfl rfl (r_getR C dX5_whereIs_61 fd_X5_32 nK_37 sK_37 rfl (r_iload_n C dX5_whereIs_64 rfl rfl (r_iconst C dX5_whereIs_65 (r_imul C dX5_whereIs_66 (r_iload C dX5_whereIs_67 rfl (r_iadd C dX5_whereIs_69 (r_iald C dX5_whereIs_70 nK_44 sK_44 ?_ (r_istore C dX5_whereIs_71 (by decide) (r_iload_n C dX5_whereIs_73 rfl rfl (r_iload C dX5_whereIs_74 rfl (r_icmp_ge C (tgt := 81) dX5_whereIs_76 rfl (fun c76 => (r_iload_n C dX5_whereIs_81 rfl rfl (r_iload C dX5_whereIs_82 rfl (r_aload_n C dX5_whereIs_84 rfl rfl (r_getR C dX5_whereIs_85 fd_X5_23 nK_37 sK_37 rfl (r_iload_n C dX5_whereIs_88 rfl rfl (r_iald C dX5_whereIs_89 nK_41 sK_41 ?_ (r_iadd C dX5_whereIs_90 (r_icmp_ge C (tgt := 100) dX5_whereIs_91 rfl (fun c91 => (r_aload_n C dX5_whereIs_100 rfl rfl (r_getR C dX5_whereIs_101 fd_X5_47 nK_37 sK_37 rfl (r_iload C dX5_whereIs_104 rfl (r_v1P C yv_X4_endOf lk_X5_96 dX5_whereIs_106 rfl nK_18 sK_18 rfl (Nat.le_of_ble_eq_true rfl) (ok_X4_endOf ?_) (r_istore_n C dX5_whereIs_109 rfl (by decide) (r_iinc C dX5_whereIs_110 rfl (by decide) (r_goto C (tgt := 30) dX5_whereIs_113 rfl ?_)))))))) (fun c91 => (r_bipush C dX5_whereIs_94 (by decide +kernel) (r_iload C dX5_whereIs_96 rfl (r_iadd C dX5_whereIs_98 (r_iret C dX5_whereIs_99 ?_)))))))))))))) (fun c76 => (r_iload_n C dX5_whereIs_79 rfl rfl (r_iret C dX5_whereIs_80 ?_)))))))))))))))))))))))))))))))))))
        · omega
        · rw [em, s2] at c38
          exact ⟨done (by omega), rfl⟩
        · rw [em, s2] at c38
          rw [m5] at c44
          omega
        · rw [em, s2] at c38
          rw [e5 (by omega)]
          omega
        · rw [em, s2] at c38
          rw [e5 (by omega)]
          omega
        · omega
        · omega
        · rw [em, s2] at c38
          rw [ebw (by omega)] at c91
          refine ih (n - 1) (by omega) (h + 1) _ _ _ _ (by omega) (by simp (disch := (first | omega | (simp (disch := omega) only [ti_ofInt, ti_addc, ti_subc, ti_mulc, ti_cmul, ti_divc, ti_remc, ti_zero, ti_add, ti_sub, ti_neg, if_lt_ti, if_gt_ti, bP_e0, Classical.not_not, tl_i2l]; omega))) only [ti_ofInt, ti_addc, ti_subc, ti_mulc, ti_cmul, ti_divc, ti_remc, ti_zero, ti_add, ti_sub, ti_neg, if_lt_ti, if_gt_ti, bP_e0, Classical.not_not, tl_i2l]; omega) (est (by omega)) ht (fun i hi => ?_)
          by_cases e : i = h
          · subst e; omega
          · exact hno i (by omega)
        · rw [em, s2] at c38
          rw [e44 (by omega)] at c76
          rw [ebw (by omega)] at c91
          have e : lstF (fun h => t.toInt < sB s m h + pW (kpd μ) m) (sG s m) = h := lstF_is (by omega) (by omega) hno
          have h1 := hRl (by omega)
          have h2 := e43 (by omega)
          refine ⟨ti_ext ?_, rfl⟩
          unfold kwh
          rw [e, if_neg ht, if_pos ⟨by omega, c76⟩, ti_ofInt (by omega), ti_add (by rw [m10]; omega), m10, h2]
        · rw [em, s2] at c38
          rw [e44 (by omega)] at c76
          have := hdm.1
          have e : lstF (fun h => t.toInt < sB s m h + pW (kpd μ) m) (sG s m) = h := lstF_is (by omega) (by omega) hno
          have h9 := ti_hi v
          refine ⟨ti_ext ?_, rfl⟩
          unfold kwh
          rw [e, if_neg ht, if_neg (by omega), ti_ofInt (by omega), hv]
    refine (r_aload_n C dX5_whereIs_0 rfl rfl (r_iload_n C dX5_whereIs_1 rfl rfl (r_v1P C yv_X5_has lk_X5_95 dX5_whereIs_2 rfl nK_37 sK_37 rfl (Nat.le_of_ble_eq_true rfl) ok_X5_has (r_if_eq C (tgt := 18) dX5_whereIs_5 rfl (fun c5 => (r_iconst C dX5_whereIs_18 (r_iret C dX5_whereIs_19 ?_))) (fun c5 => (r_iload_n C dX5_whereIs_8 rfl rfl (r_aload_n C dX5_whereIs_9 rfl rfl (r_getR C dX5_whereIs_10 fd_X5_20 nK_37 sK_37 rfl (r_iload_n C dX5_whereIs_13 rfl rfl (r_iald C dX5_whereIs_14 nK_40 sK_40 ?_ (r_icmp_ge C (tgt := 20) dX5_whereIs_15 rfl (fun c15 => (r_aload_n C dX5_whereIs_20 rfl rfl (r_getR C dX5_whereIs_21 fd_X5_13 nK_37 sK_37 rfl (r_iload_n C dX5_whereIs_24 rfl rfl (r_iald C dX5_whereIs_25 nK_38 sK_38 ?_ (r_istore_n C dX5_whereIs_26 rfl (by decide) (r_iconst C dX5_whereIs_27 (r_istore C dX5_whereIs_28 (by decide) ?_)))))))) (fun c15 => (r_iconst C dX5_whereIs_18 (r_iret C dX5_whereIs_19 ?_))))))))))))))
    · exact absurd q (bP_e0.mp c5)
    · omega
    · omega
    · rw [em, e40] at c15
      rw [em]
      refine loop (sG s m) 0 _ _ _ _ (by omega) (by simp (disch := (first | omega | (simp (disch := omega) only [ti_ofInt, ti_addc, ti_subc, ti_mulc, ti_cmul, ti_divc, ti_remc, ti_zero, ti_add, ti_sub, ti_neg, if_lt_ti, if_gt_ti, bP_e0, Classical.not_not, tl_i2l]; omega))) only [ti_ofInt, ti_addc, ti_subc, ti_mulc, ti_cmul, ti_divc, ti_remc, ti_zero, ti_add, ti_sub, ti_neg, if_lt_ti, if_gt_ti, bP_e0, Classical.not_not, tl_i2l]; rfl) (by rw [e38]; rfl) (by omega) (fun i hi => absurd hi (Nat.not_lt_zero _))
    · rw [em, e40] at c15
      refine ⟨?_, rfl⟩
      unfold kwh
      rw [if_pos (by omega)]
  · rw [if_neg q]
    refine kOk.of rfl (Nat.le_of_ble_eq_true rfl) (fun J C => ?_)
    have C : kR cX5_whereIs RX5 7 rmX5_whereIs shK 68 (some .int) _ J := C
    refine (r_aload_n C dX5_whereIs_0 rfl rfl (r_iload_n C dX5_whereIs_1 rfl rfl (r_v1P C yv_X5_has lk_X5_95 dX5_whereIs_2 rfl nK_37 sK_37 rfl (Nat.le_of_ble_eq_true rfl) ok_X5_has (r_if_eq C (tgt := 18) dX5_whereIs_5 rfl (fun c5 => (r_iconst C dX5_whereIs_18 (r_iret C dX5_whereIs_19 ?_))) (fun c5 => (r_iload_n C dX5_whereIs_8 rfl rfl (r_aload_n C dX5_whereIs_9 rfl rfl (r_getR C dX5_whereIs_10 fd_X5_20 nK_37 sK_37 rfl (r_iload_n C dX5_whereIs_13 rfl rfl (r_iald C dX5_whereIs_14 nK_40 sK_40 ?_ (r_icmp_ge C (tgt := 20) dX5_whereIs_15 rfl (fun c15 => (r_aload_n C dX5_whereIs_20 rfl rfl (r_getR C dX5_whereIs_21 fd_X5_13 nK_37 sK_37 rfl (r_iload_n C dX5_whereIs_24 rfl rfl (r_iald C dX5_whereIs_25 nK_38 sK_38 ?_ (r_istore_n C dX5_whereIs_26 rfl (by decide) (r_iconst C dX5_whereIs_27 (r_istore C dX5_whereIs_28 (by decide) ?_)))))))) (fun c15 => (r_iconst C dX5_whereIs_18 (r_iret C dX5_whereIs_19 ?_))))))))))))))
    · exact ⟨rfl, rfl⟩
    · exact absurd (bP_ne c5) q
    · exact absurd (bP_ne c5) q
    · exact absurd (bP_ne c5) q
    · exact absurd (bP_ne c5) q

