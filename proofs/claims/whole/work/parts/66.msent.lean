/-! ===== the model: what is sent, what is tapped ===== -/
/-- at the end all has arrived -/
theorem mEnd {μ μ' : kMem} {tp : Int} (hl : mLnOk μ) (hp : mPsOk μ) (h : mPr (mpd μ) (msnm μ) (fun m => pT (mpd μ) m < 8000 + 1) (fun m => sS (pRun (mpd μ) 8001) m < 8000 + 1) 8000 (pRun (mpd μ) 8001) tp μ') {m : Nat} (hm : m < pNm (mpd μ)) : (μ'.1 35 m).toInt = sS (pRun (mpd μ) 8001) m ∧ (μ'.1 36 m).toInt = (sG (pRun (mpd μ) 8001) m : Int) * pW (mpd μ) m ∧ (0 ≤ sS (pRun (mpd μ) 8001) m ∧ sS (pRun (mpd μ) 8001) m ≤ 6200) ∧ (0 ≤ pT (mpd μ) m ∧ pT (mpd μ) m ≤ 200) ∧ 0 ≤ (sG (pRun (mpd μ) 8001) m : Int) * pW (mpd μ) m ∧ (sG (pRun (mpd μ) 8001) m : Int) * pW (mpd μ) m ≤ 300 := by
  have hd := mpd_ok hl hp
  obtain ⟨d1, d2⟩ := pDone hd
  have hI : pIv (mpd μ) (pRun (mpd μ) 8001) ((8001 : Nat) : Int) := pIv_run hd 8001
  have hb := pIv_b hd hI (by decide) hm
  have hdm := hd.2.2 m hm
  have a1 := d1 m hm
  have a2 := d2 m hm
  have a3 := (hI.1 m hm).1
  obtain ⟨p1, p2, p3, p4⟩ := h.1 m hm
  have q := p3 (by omega) (by omega)
  exact ⟨q.2.2.1 (by omega), p1, ⟨hb.1, a2⟩, hdm.2.1, hb.2.2.2.2.1, hb.2.2.2.2.2⟩
theorem ok_X12_sent {m w t : Int32} {μ : kMem} (h : mLnOk μ ∧ mPsOk μ) : kOk yX12_sent cX12_sent 4 (some .int) rmX12_sent shM 48 [.ref 0, .int m, .int w, .int t] μ (kI fun r μ' => mSm μ μ' ∧ r.toInt = senA (mpd μ) (msnm μ) m.toInt w.toInt t.toInt) := by
  obtain ⟨hl, hp⟩ := h
  have mm : (Int32.ofInt (-1)).toInt = -1 := by decide
  have m2 : (Int32.ofInt 2).toInt = 2 := by decide
  have m8 : (Int32.ofInt 8000).toInt = 8000 := by decide
  have hd := mpd_ok hl hp
  have hmn := hp.1
  have em1 : (μ.1 0 36 - Int32.ofInt 1).toInt = (μ.1 0 36).toInt - 1 := ti_subc (by omega)
  have enm : (pNm (mpd μ) : Int) = (μ.1 0 36).toInt := by
    show (((μ.1 0 36).toInt.toNat : Nat) : Int) = _
    omega
  have no1 : ¬ (0 ≤ m.toInt ∧ m.toInt ≤ (μ.1 0 36).toInt - 1) → (Int32.ofInt (-1)).toInt = senA (mpd μ) (msnm μ) m.toInt w.toInt t.toInt := fun q => by
    unfold senA
    rw [if_neg (by omega), mm]
  have no2 : ¬ (0 ≤ w.toInt ∧ w.toInt ≤ 2 ∧ (w.toInt = 2 → 0 ≤ t.toInt ∧ t.toInt ≤ 5000)) → (Int32.ofInt (-1)).toInt = senA (mpd μ) (msnm μ) m.toInt w.toInt t.toInt := fun q => by
    unfold senA
    by_cases c : 0 ≤ m.toInt ∧ m.toInt < (pNm (mpd μ) : Int)
    · rw [if_pos c, if_neg (by omega), if_neg (by omega), if_neg (by omega), mm]
    · rw [if_neg c, mm]
  refine kOk.of rfl (Nat.le_of_ble_eq_true rfl) (fun J C => ?_)
  have C : kR cX12_sent RX12 4 rmX12_sent shM 48 (some .int) _ J := C
  have body : (0 ≤ m.toInt ∧ m.toInt ≤ (μ.1 0 36).toInt - 1) → (0 ≤ w.toInt ∧ w.toInt ≤ 2) → (w.toInt = 2 → 0 ≤ t.toInt ∧ t.toInt ≤ 5000) → J 47 [some (.ref 0), some (.int m), some (.int w), some (.int t)] [] μ := by
    intro q1 q2 q3
    have hm0 : m.toInt.toNat < pNm (mpd μ) := by omega
    have hS0 : 0 ≤ m.toInt ∧ m.toInt < (pNm (mpd μ) : Int) := by omega
    refine (r_aload_n C dX12_sent_47 rfl rfl (r_iload_n C dX12_sent_48 rfl rfl (r_iconst C dX12_sent_49 (r_icmp_ne C (tgt := 57) dX12_sent_50 rfl (fun c50 => (r_sipush C dX12_sent_57 (by decide +kernel) (r_iconst C dX12_sent_60 (r_v2N C yv_X12_runs lk_X12_376 dX12_sent_61 rfl nM_0 sM_0 rfl (Nat.le_of_ble_eq_true rfl) (ok_X12_runs ?_) (fun μ61 h61 => ?_))))) (fun c50 => (r_iload_n C dX12_sent_53 rfl rfl (r_goto C (tgt := 60) dX12_sent_54 rfl (r_iconst C dX12_sent_60 (r_v2N C yv_X12_runs lk_X12_376 dX12_sent_61 rfl nM_0 sM_0 rfl (Nat.le_of_ble_eq_true rfl) (ok_X12_runs ?_) (fun μ61 h61 => ?_))))))))))
    · rw [m8, mm]
      exact ⟨hl, hp, by omega, Or.inl rfl⟩
    · rw [m2] at c50
      obtain ⟨g1, g2⟩ := h61
      rw [m8] at g2
      obtain ⟨e1, e2, e3, e4, e5⟩ := mEnd hl hp g2 hm0
      have hm20 : pNm (mpd μ) ≤ 20 := hd.1
      have e28 : (μ61.1 28 m.toInt.toNat).toInt = pT (mpd μ) m.toInt.toNat := by rw [g1 28 _ (by omega) (by omega)]; rfl
      refine (r_iload_n C dX12_sent_64 rfl rfl (r_iconst C dX12_sent_65 (r_icmp_ne C (tgt := 78) dX12_sent_66 rfl (fun c66 => (r_iload_n C dX12_sent_78 rfl rfl (r_if_ne C (tgt := 91) dX12_sent_79 rfl (fun c79 => (r_aload_n C dX12_sent_91 rfl rfl (r_getR C dX12_sent_92 fd_X12_108 nM_0 sM_0 rfl (r_iload_n C dX12_sent_95 rfl rfl (r_iald C dX12_sent_96 nM_35 sM_35 ?_ (r_aload_n C dX12_sent_97 rfl rfl (r_getR C dX12_sent_98 fd_X12_87 nM_0 sM_0 rfl (r_iload_n C dX12_sent_101 rfl rfl (r_iald C dX12_sent_102 nM_28 sM_28 ?_ (r_isub C dX12_sent_103 (r_aload_n C dX12_sent_104 rfl rfl (r_getR C dX12_sent_105 fd_X12_111 nM_0 sM_0 rfl (r_iload_n C dX12_sent_108 rfl rfl (r_iald C dX12_sent_109 nM_36 sM_36 ?_ (r_isub C dX12_sent_110 (r_iret C dX12_sent_111 ?_)))))))))))))))) (fun c79 => (r_aload_n C dX12_sent_82 rfl rfl (r_getR C dX12_sent_83 fd_X12_108 nM_0 sM_0 rfl (r_iload_n C dX12_sent_86 rfl rfl (r_iald C dX12_sent_87 nM_35 sM_35 ?_ (r_goto C (tgt := 111) dX12_sent_88 rfl (r_iret C dX12_sent_111 ?_)))))))))) (fun c66 => (r_aload_n C dX12_sent_69 rfl rfl (r_getR C dX12_sent_70 fd_X12_99 nM_0 sM_0 rfl (r_iload_n C dX12_sent_73 rfl rfl (r_iald C dX12_sent_74 nM_32 sM_32 ?_ (r_goto C (tgt := 111) dX12_sent_75 rfl (r_iret C dX12_sent_111 ?_))))))))))
      · omega
      · omega
      · omega
      · refine ⟨g1.sm, ?_⟩
        unfold senA
        have d1 : (μ61.1 35 m.toInt.toNat - μ61.1 28 m.toInt.toNat).toInt = (μ61.1 35 m.toInt.toNat).toInt - (μ61.1 28 m.toInt.toNat).toInt := ti_sub (by omega)
        rw [if_pos hS0, if_neg (by omega), if_pos (by omega), ti_sub (by omega), d1, e1, e2, e28]
      · omega
      · refine ⟨g1.sm, ?_⟩
        unfold senA
        rw [if_pos hS0, if_pos (by omega), e1]
      · rw [m2] at c66; omega
      · rw [m2] at c66; omega
    · rw [m2] at c50
      exact ⟨hl, hp, by have := q3 c50; omega, Or.inl mm⟩
    · rw [m2] at c50
      have q4 := q3 c50
      obtain ⟨g1, g2⟩ := h61
      have hm20 : pNm (mpd μ) ≤ 20 := hd.1
      obtain ⟨T, hT⟩ : ∃ T : Nat, t.toInt = T := ⟨t.toInt.toNat, by omega⟩
      have eT : t.toInt.toNat = T := by omega
      rw [hT, Int.toNat_natCast] at g2
      have hdm := hd.2.2 m.toInt.toNat hm0
      have hI : pIv (mpd μ) (pRun (mpd μ) (T + 1)) ((T + 1 : Nat) : Int) := pIv_run hd (T + 1)
      refine (r_iload_n C dX12_sent_64 rfl rfl (r_iconst C dX12_sent_65 (r_icmp_ne C (tgt := 78) dX12_sent_66 rfl (fun c66 => (r_iload_n C dX12_sent_78 rfl rfl (r_if_ne C (tgt := 91) dX12_sent_79 rfl (fun c79 => (r_aload_n C dX12_sent_91 rfl rfl (r_getR C dX12_sent_92 fd_X12_108 nM_0 sM_0 rfl (r_iload_n C dX12_sent_95 rfl rfl (r_iald C dX12_sent_96 nM_35 sM_35 ?_ (r_aload_n C dX12_sent_97 rfl rfl (r_getR C dX12_sent_98 fd_X12_87 nM_0 sM_0 rfl (r_iload_n C dX12_sent_101 rfl rfl (r_iald C dX12_sent_102 nM_28 sM_28 ?_ (r_isub C dX12_sent_103 (r_aload_n C dX12_sent_104 rfl rfl (r_getR C dX12_sent_105 fd_X12_111 nM_0 sM_0 rfl (r_iload_n C dX12_sent_108 rfl rfl (r_iald C dX12_sent_109 nM_36 sM_36 ?_ (r_isub C dX12_sent_110 (r_iret C dX12_sent_111 ?_)))))))))))))))) (fun c79 => (r_aload_n C dX12_sent_82 rfl rfl (r_getR C dX12_sent_83 fd_X12_108 nM_0 sM_0 rfl (r_iload_n C dX12_sent_86 rfl rfl (r_iald C dX12_sent_87 nM_35 sM_35 ?_ (r_goto C (tgt := 111) dX12_sent_88 rfl (r_iret C dX12_sent_111 ?_)))))))))) (fun c66 => (r_aload_n C dX12_sent_69 rfl rfl (r_getR C dX12_sent_70 fd_X12_99 nM_0 sM_0 rfl (r_iload_n C dX12_sent_73 rfl rfl (r_iald C dX12_sent_74 nM_32 sM_32 ?_ (r_goto C (tgt := 111) dX12_sent_75 rfl (r_iret C dX12_sent_111 ?_))))))))))
      · rw [m2] at c66; omega
      · rw [m2] at c66; omega
      · rw [m2] at c66; omega
      · rw [m2] at c66; omega
      · rw [m2] at c66; omega
      · rw [m2] at c66; omega
      · omega
      · refine ⟨g1.sm, ?_⟩
        unfold senA
        rw [if_pos hS0, if_neg (by omega), if_neg (by omega), if_pos ⟨c50, q4⟩, hT, pWh_at hd (by omega) hm0]
        obtain ⟨p1, p2, p3, p4⟩ := g2.1 _ hm0
        by_cases u : (T : Int) < pT (mpd μ) m.toInt.toNat
        · rw [if_pos u]
          exact (p2 (by omega)).1
        · rw [if_neg u]
          by_cases v : sS (pRun (mpd μ) (T + 1)) m.toInt.toNat < (T : Int) + 1
          · rw [if_pos v]
            exact (p3 (by omega) v).1
          · rw [if_neg v]
            exact (p4 (by omega) v).2.1
  refine (r_iload_n C dX12_sent_0 rfl rfl (r_i2l C dX12_sent_1 (r_lconst C dX12_sent_2 rfl (r_aload_n C dX12_sent_3 rfl rfl (r_getI C dX12_sent_4 fd_X12_359 nM_0 sM_0 rfl (r_iconst C dX12_sent_7 (r_isub C dX12_sent_8 (r_i2l C dX12_sent_9 (r_s3P C ys_X12_in lk_X12_155 dX12_sent_10 rfl (Nat.le_of_ble_eq_true rfl) ok_X12_in (r_if_eq C (tgt := 45) dX12_sent_13 rfl (fun c13 => (r_iconst C dX12_sent_45 (r_iret C dX12_sent_46 ?_))) (fun c13 => (r_iload_n C dX12_sent_16 rfl rfl (r_i2l C dX12_sent_17 (r_lconst C dX12_sent_18 rfl (r_ldc2 C dX12_sent_19 kc_X12_372 (r_s3P C ys_X12_in lk_X12_155 dX12_sent_22 rfl (Nat.le_of_ble_eq_true rfl) ok_X12_in (r_if_eq C (tgt := 45) dX12_sent_25 rfl (fun c25 => (r_iconst C dX12_sent_45 (r_iret C dX12_sent_46 ?_))) (fun c25 => (r_iload_n C dX12_sent_28 rfl rfl (r_iconst C dX12_sent_29 (r_icmp_ne C (tgt := 47) dX12_sent_30 rfl (fun c30 => ?_) (fun c30 => (r_iload_n C dX12_sent_33 rfl rfl (r_i2l C dX12_sent_34 (r_lconst C dX12_sent_35 rfl (r_ldc2 C dX12_sent_36 kc_X12_374 (r_s3P C ys_X12_in lk_X12_155 dX12_sent_39 rfl (Nat.le_of_ble_eq_true rfl) ok_X12_in (r_if_ne C (tgt := 47) dX12_sent_42 rfl (fun c42 => ?_) (fun c42 => (r_iconst C dX12_sent_45 (r_iret C dX12_sent_46 ?_)))))))))))))))))))))))))))))))
  · have c := bP_e0.mp c13
    simp only [tl_i2l, ll_c0, ll_c1, ll_m1, ll_32, ll_97, ll_25, ll_255255, ll_5, ll_99, ll_20, ll_9, ll_999, ll_1000000, ll_17575, ll_3, ll_200, ll_60, ll_2, ll_5000, ll_m60, ll_m99] at c
    rw [em1] at c
    exact ⟨mSm.rf, no1 c⟩
  · have c := bP_e0.mp c25
    simp only [tl_i2l, ll_c0, ll_c1, ll_m1, ll_32, ll_97, ll_25, ll_255255, ll_5, ll_99, ll_20, ll_9, ll_999, ll_1000000, ll_17575, ll_3, ll_200, ll_60, ll_2, ll_5000, ll_m60, ll_m99] at c
    exact ⟨mSm.rf, no2 (fun z => c ⟨z.1, z.2.1⟩)⟩
  · have c1 := bP_ne c13
    have c2 := bP_ne c25
    simp only [tl_i2l, ll_c0, ll_c1, ll_m1, ll_32, ll_97, ll_25, ll_255255, ll_5, ll_99, ll_20, ll_9, ll_999, ll_1000000, ll_17575, ll_3, ll_200, ll_60, ll_2, ll_5000, ll_m60, ll_m99] at c1
    simp only [tl_i2l, ll_c0, ll_c1, ll_m1, ll_32, ll_97, ll_25, ll_255255, ll_5, ll_99, ll_20, ll_9, ll_999, ll_1000000, ll_17575, ll_3, ll_200, ll_60, ll_2, ll_5000, ll_m60, ll_m99] at c2
    rw [em1] at c1
    rw [m2] at c30
    exact body c1 c2 (fun q => absurd q c30)
  · have c1 := bP_ne c13
    have c2 := bP_ne c25
    have c3 := bP_ne c42
    simp only [tl_i2l, ll_c0, ll_c1, ll_m1, ll_32, ll_97, ll_25, ll_255255, ll_5, ll_99, ll_20, ll_9, ll_999, ll_1000000, ll_17575, ll_3, ll_200, ll_60, ll_2, ll_5000, ll_m60, ll_m99] at c1
    simp only [tl_i2l, ll_c0, ll_c1, ll_m1, ll_32, ll_97, ll_25, ll_255255, ll_5, ll_99, ll_20, ll_9, ll_999, ll_1000000, ll_17575, ll_3, ll_200, ll_60, ll_2, ll_5000, ll_m60, ll_m99] at c2
    simp only [tl_i2l, ll_c0, ll_c1, ll_m1, ll_32, ll_97, ll_25, ll_255255, ll_5, ll_99, ll_20, ll_9, ll_999, ll_1000000, ll_17575, ll_3, ll_200, ll_60, ll_2, ll_5000, ll_m60, ll_m99] at c3
    rw [em1] at c1
    exact body c1 c2 (fun _ => c3)
  · have c3 := bP_e0.mp c42
    simp only [tl_i2l, ll_c0, ll_c1, ll_m1, ll_32, ll_97, ll_25, ll_255255, ll_5, ll_99, ll_20, ll_9, ll_999, ll_1000000, ll_17575, ll_3, ll_200, ll_60, ll_2, ll_5000, ll_m60, ll_m99] at c3
    rw [m2] at c30
    exact ⟨mSm.rf, no2 (fun z => c3 (z.2.2 c30))⟩
theorem ok_X12_tap {l k : Int32} {μ : kMem} (h : mLnOk μ ∧ mPsOk μ) : kOk yX12_tap cX12_tap 3 (some .int) rmX12_tap shM 48 [.ref 0, .int l, .int k] μ (kI fun r μ' => mSm μ μ' ∧ r.toInt = if 0 ≤ l.toInt ∧ l.toInt < (μ.1 0 19).toInt then khd (sH (pRun (mpd μ) 8001) l.toInt.toNat) k.toInt else -1) := by
  obtain ⟨hl, hp⟩ := h
  have mm : (Int32.ofInt (-1)).toInt = -1 := by decide
  have m8 : (Int32.ofInt 8000).toInt = 8000 := by decide
  have hd := mpd_ok hl hp
  have hll := hl.1
  have hI : pIv (mpd μ) (pRun (mpd μ) 8001) ((8001 : Nat) : Int) := pIv_run hd 8001
  have hlen : (sH (pRun (mpd μ) 8001) l.toInt.toNat).length ≤ 20 := by
    have q := (hI.2 l.toInt.toNat).2.2.2.2
    have q2 := cntF_le (fun m => ∃ h, h < sG (pRun (mpd μ) 8001) m ∧ pR (mpd μ) m h = l.toInt.toNat) (pNm (mpd μ))
    have := hd.1
    omega
  have key : ∀ μ1 : kMem, (0 ≤ l.toInt ∧ l.toInt < (μ.1 0 19).toInt) → mPr (mpd μ) (msnm μ) (fun m => pT (mpd μ) m < 8000 + 1) (fun m => sS (pRun (mpd μ) 8001) m < 8000 + 1) 8000 (pRun (mpd μ) 8001) l.toInt μ1 → (μ1.1 0 45).toInt = ((sH (pRun (mpd μ) 8001) l.toInt.toNat).length : Int) ∧ (∀ j (hj : j < (sH (pRun (mpd μ) 8001) l.toInt.toNat).length), (μ1.1 38 j).toInt = (((sH (pRun (mpd μ) 8001) l.toInt.toNat)[j]).1 : Int)) ∧ (μ1.1 0 45 - Int32.ofInt 1).toInt = ((sH (pRun (mpd μ) 8001) l.toInt.toNat).length : Int) - 1 := fun μ1 q g => by
    obtain ⟨a, b⟩ := g.2.2 l.toInt.toNat (by omega)
    exact ⟨a, b, by rw [ti_subc (by omega), a]⟩
  refine kOk.of rfl (Nat.le_of_ble_eq_true rfl) (fun J C => ?_)
  have C : kR cX12_tap RX12 3 rmX12_tap shM 48 (some .int) _ J := C
  refine (r_aload_n C dX12_tap_0 rfl rfl (r_iload_n C dX12_tap_1 rfl rfl (r_v1P C yv_X12_isLine lk_X12_251 dX12_tap_2 rfl nM_0 sM_0 rfl (Nat.le_of_ble_eq_true rfl) (ok_X12_isLine ?_) (r_if_ne C (tgt := 10) dX12_tap_5 rfl (fun c5 => (r_aload_n C dX12_tap_10 rfl rfl (r_sipush C dX12_tap_11 (by decide +kernel) (r_iload_n C dX12_tap_14 rfl rfl (r_v2N C yv_X12_runs lk_X12_376 dX12_tap_15 rfl nM_0 sM_0 rfl (Nat.le_of_ble_eq_true rfl) (ok_X12_runs ?_) (fun μ15 h15 => (r_iload_n C dX12_tap_18 rfl rfl (r_iconst C dX12_tap_19 (r_icmp_ne C (tgt := 30) dX12_tap_20 rfl (fun c20 => (r_iload_n C dX12_tap_30 rfl rfl (r_i2l C dX12_tap_31 (r_lconst C dX12_tap_32 rfl (r_aload_n C dX12_tap_33 rfl rfl (r_getI C dX12_tap_34 fd_X12_362 nM_0 sM_0 rfl (r_iconst C dX12_tap_37 (r_isub C dX12_tap_38 (r_i2l C dX12_tap_39 (r_s3P C ys_X12_in lk_X12_155 dX12_tap_40 rfl (Nat.le_of_ble_eq_true rfl) ok_X12_in (r_if_eq C (tgt := 55) dX12_tap_43 rfl (fun c43 => (r_iconst C dX12_tap_55 (r_iret C dX12_tap_56 ?_))) (fun c43 => (r_aload_n C dX12_tap_46 rfl rfl (r_getR C dX12_tap_47 fd_X12_117 nM_0 sM_0 rfl (r_iload_n C dX12_tap_50 rfl rfl (r_iald C dX12_tap_51 nM_38 sM_38 ?_ (r_goto C (tgt := 56) dX12_tap_52 rfl (r_iret C dX12_tap_56 ?_)))))))))))))))))) (fun c20 => (r_aload_n C dX12_tap_23 rfl rfl (r_getI C dX12_tap_24 fd_X12_362 nM_0 sM_0 rfl (r_goto C (tgt := 56) dX12_tap_27 rfl (r_iret C dX12_tap_56 ?_)))))))))))))) (fun c5 => (r_iconst C dX12_tap_8 (r_iret C dX12_tap_9 ?_)))))))
  · exact hll.1
  · have c := bP_ne c5
    rw [m8]
    exact ⟨hl, hp, by omega, Or.inr c⟩
  · have c := bP_ne c5
    obtain ⟨g1, g2⟩ := h15
    rw [m8] at g2
    obtain ⟨k1, k2, k3⟩ := key _ c g2
    have c2 := bP_e0.mp c43
    simp only [tl_i2l, ll_c0, ll_c1, ll_m1, ll_32, ll_97, ll_25, ll_255255, ll_5, ll_99, ll_20, ll_9, ll_999, ll_1000000, ll_17575, ll_3, ll_200, ll_60, ll_2, ll_5000, ll_m60, ll_m99] at c2
    rw [k3] at c2
    rw [mm] at c20
    refine ⟨g1.sm, ?_⟩
    rw [if_pos c]
    unfold khd
    rw [if_neg c20, dif_neg (by omega), mm]
  · have c := bP_ne c5
    obtain ⟨g1, g2⟩ := h15
    rw [m8] at g2
    obtain ⟨k1, k2, k3⟩ := key _ c g2
    have c2 := bP_ne c43
    simp only [tl_i2l, ll_c0, ll_c1, ll_m1, ll_32, ll_97, ll_25, ll_255255, ll_5, ll_99, ll_20, ll_9, ll_999, ll_1000000, ll_17575, ll_3, ll_200, ll_60, ll_2, ll_5000, ll_m60, ll_m99] at c2
    rw [k3] at c2
    omega
  · have c := bP_ne c5
    obtain ⟨g1, g2⟩ := h15
    rw [m8] at g2
    obtain ⟨k1, k2, k3⟩ := key _ c g2
    have c2 := bP_ne c43
    simp only [tl_i2l, ll_c0, ll_c1, ll_m1, ll_32, ll_97, ll_25, ll_255255, ll_5, ll_99, ll_20, ll_9, ll_999, ll_1000000, ll_17575, ll_3, ll_200, ll_60, ll_2, ll_5000, ll_m60, ll_m99] at c2
    rw [k3] at c2
    rw [mm] at c20
    refine ⟨g1.sm, ?_⟩
    rw [if_pos c]
    unfold khd
    rw [if_neg c20, dif_pos ⟨c2.1, by omega⟩]
    exact k2 _ _
  · have c := bP_ne c5
    obtain ⟨g1, g2⟩ := h15
    rw [m8] at g2
    obtain ⟨k1, k2, k3⟩ := key _ c g2
    rw [mm] at c20
    refine ⟨g1.sm, ?_⟩
    rw [if_pos c]
    unfold khd
    rw [if_pos c20, k1]
  · have c := bP_e0.mp c5
    exact ⟨mSm.rf, by rw [if_neg c, mm]⟩

