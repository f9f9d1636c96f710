/-! ===== the model: which is likelier, what is keyed ===== -/
def mLikC (μ : kMem) (x y l : Int) : Prop := mcan μ x l ∧ mcan μ y l ∧ isSay (mn μ) (mt μ) ∧ saysP (mcs μ x l) (mtn μ) (mSpl μ) ∧ saysP (mcs μ y l) (mtn μ) (mSpl μ)
theorem mSay2_iff {μ μ1 : kMem} {ks : List Int} (h : mSy μ μ1) (hk : mSpl μ = some ks) (a b : Int) : mSay2 μ1 ks a b ↔ mcan μ a b ∧ saysP (mcs μ a b) (mtn μ) (mSpl μ) := by
  obtain ⟨a1, a2, a3, a4, a5, a6, a7, a8⟩ := mSy_all h
  unfold mSay2 saysP
  rw [a1, a2, a5, hk]
  refine ⟨fun q => ⟨q.1, ks, rfl, q.2⟩, fun q => ⟨q.1, ?_⟩⟩
  obtain ⟨-, ks', e', q1, q2⟩ := q
  injection e' with e'
  subst e'
  exact ⟨q1, q2⟩
theorem mpv_far {o : Nat} {μ μ' : kMem} (h : ∀ i, i < 80 → μ'.1 25 (o + i) = μ.1 25 (o + i)) : mpv o μ' = mpv o μ ∧ (mpn o μ → mpn o μ') := ⟨pvF_congr (fun i hi => by rw [h i hi]), fun q i hi => by rw [h i hi]; exact q i hi⟩
theorem ok_X12_likelier {x y l : Int32} {μ : kMem} (h : mRI μ ∧ mTxOk μ) : kOk yX12_likelier cX12_likelier 5 (some .int) rmX12_likelier shM 48 [.ref 0, .int x, .int y, .int l] μ (kI fun r μ' => mSm μ μ' ∧ r.toInt = likA (mLikC μ x.toInt y.toInt l.toInt) (pdP (mchK μ x.toInt) (mSpl μ)) (pdP (mchK μ y.toInt) (mSpl μ))) := by
  obtain ⟨h, hT⟩ := h
  have z0 : (Int32.ofInt 0).toInt = 0 := by decide
  have o1 : (Int32.ofInt 1).toInt = 1 := by decide
  have o2 : (Int32.ofInt 2).toInt = 2 := by decide
  have m1 : (Int32.ofInt (-1)).toInt = -1 := by decide
  have htp := h.1.1
  have hh := h.2.1.1
  have hl := h.2.2.1.1
  have no : ¬ mLikC μ x.toInt y.toInt l.toInt → (Int32.ofInt (-1)).toInt = likA (mLikC μ x.toInt y.toInt l.toInt) (pdP (mchK μ x.toInt) (mSpl μ)) (pdP (mchK μ y.toInt) (mSpl μ)) := fun q => by
    unfold likA
    rw [if_neg q, m1]
  refine kOk.of rfl (Nat.le_of_ble_eq_true rfl) (fun J C => ?_)
  have C : kR cX12_likelier RX12 5 rmX12_likelier shM 48 (some .int) _ J := C
  refine (r_aload_n C dX12_likelier_0 rfl rfl (r_iload_n C dX12_likelier_1 rfl rfl (r_v1P C yv_X12_isHand lk_X12_291 dX12_likelier_2 rfl nM_0 sM_0 rfl (Nat.le_of_ble_eq_true rfl) (ok_X12_isHand ?_) (r_if_eq C (tgt := 56) dX12_likelier_5 rfl (fun c5 => (r_iconst C dX12_likelier_56 (r_iret C dX12_likelier_57 ?_))) (fun c5 => (r_aload_n C dX12_likelier_8 rfl rfl (r_iload_n C dX12_likelier_9 rfl rfl (r_v1P C yv_X12_isHand lk_X12_291 dX12_likelier_10 rfl nM_0 sM_0 rfl (Nat.le_of_ble_eq_true rfl) (ok_X12_isHand ?_) (r_if_eq C (tgt := 56) dX12_likelier_13 rfl (fun c13 => (r_iconst C dX12_likelier_56 (r_iret C dX12_likelier_57 ?_))) (fun c13 => (r_aload_n C dX12_likelier_16 rfl rfl (r_iload_n C dX12_likelier_17 rfl rfl (r_v1P C yv_X12_isLine lk_X12_251 dX12_likelier_18 rfl nM_0 sM_0 rfl (Nat.le_of_ble_eq_true rfl) (ok_X12_isLine ?_) (r_if_eq C (tgt := 56) dX12_likelier_21 rfl (fun c21 => (r_iconst C dX12_likelier_56 (r_iret C dX12_likelier_57 ?_))) (fun c21 => (r_aload_n C dX12_likelier_24 rfl rfl (r_v0P C yv_X12_canSay lk_X12_320 dX12_likelier_25 rfl nM_0 sM_0 rfl (Nat.le_of_ble_eq_true rfl) (ok_X12_canSay ?_) (r_if_eq C (tgt := 56) dX12_likelier_28 rfl (fun c28 => (r_iconst C dX12_likelier_56 (r_iret C dX12_likelier_57 ?_))) (fun c28 => (r_aload_n C dX12_likelier_31 rfl rfl (r_v0I C yv_X12_lays lk_X12_323 dX12_likelier_32 rfl nM_0 sM_0 rfl (Nat.le_of_ble_eq_true rfl) (ok_X12_lays ?_) (fun r32 μ32 h32 => (r_if_eq C (tgt := 56) dX12_likelier_35 rfl (fun c35 => (r_iconst C dX12_likelier_56 (r_iret C dX12_likelier_57 ?_))) (fun c35 => ?_))))))))))))))))))))))))
  · exact hh.1
  · exact ⟨mSm.rf, no (fun z => bP_e0.mp c5 z.1.1)⟩
  · exact hh.1
  · exact ⟨mSm.rf, no (fun z => bP_e0.mp c13 z.2.1.1)⟩
  · exact hl.1
  · exact ⟨mSm.rf, no (fun z => bP_e0.mp c21 z.1.2.1)⟩
  · exact ⟨hT, htp.1⟩
  · exact ⟨mSm.rf, no (fun z => bP_e0.mp c28 ⟨z.1.2.2, z.2.2.1⟩)⟩
  · exact ⟨hT, h.2.2.2, (bP_ne c28).2⟩
  · rcases h32 with ⟨ks, a, b, c⟩ | ⟨a, b, ks, c⟩
    · rw [c] at c35; exact absurd c35 (by decide)
    · refine ⟨c.sy.sm, no (fun z => ?_)⟩
      obtain ⟨ks', e', -⟩ := z.2.2.2.1
      rw [a] at e'
      cases e'
  · rcases h32 with ⟨ks, a, b, -⟩ | ⟨-, b, -⟩
    · have hS := bP_ne c28
      have hk5 := mSpl_b h.2.2.2 hS.2 a
      have s1 := b.sy
      refine (r_aload_n C dX12_likelier_38 rfl rfl (r_iload_n C dX12_likelier_39 rfl rfl (r_iload_n C dX12_likelier_40 rfl rfl (r_v2I C yv_X12_saysBy lk_X12_326 dX12_likelier_41 rfl nM_0 sM_0 rfl (Nat.le_of_ble_eq_true rfl) (ok_X12_saysBy (show mRI μ32 ∧ mK2 ks μ32 ∧ _ from ⟨(mSy_all s1).2.2.1 h, b.k2, hk5⟩)) (fun r41 μ41 h41 => (r_if_eq C (tgt := 56) dX12_likelier_44 rfl (fun c44 => (r_iconst C dX12_likelier_56 (r_iret C dX12_likelier_57 ?_))) (fun c44 => (r_aload_n C dX12_likelier_47 rfl rfl (r_iload_n C dX12_likelier_48 rfl rfl (r_iload_n C dX12_likelier_49 rfl rfl (r_v2I C yv_X12_saysBy lk_X12_326 dX12_likelier_50 rfl nM_0 sM_0 rfl (Nat.le_of_ble_eq_true rfl) (ok_X12_saysBy (show mRI μ41 ∧ mK2 ks μ41 ∧ _ from ⟨(mSy_all (s1.tr h41.2.1)).2.2.1 h, h41.2.2, hk5⟩)) (fun r50 μ50 h50 => (r_if_ne C (tgt := 58) dX12_likelier_53 rfl (fun c53 => ?_) (fun c53 => (r_iconst C dX12_likelier_56 (r_iret C dX12_likelier_57 ?_))))))))))))))))
      · rw [h41.1] at c44
        refine ⟨(s1.tr h41.2.1).sm, no (fun z => bP_e0.mp c44 ?_)⟩
        exact (mSay2_iff s1 a _ _).mpr ⟨z.1, z.2.2.2.1⟩
      · have s2 := s1.tr h41.2.1
        have s3 := s2.tr h50.2.1
        rw [h41.1] at c44
        rw [h50.1] at c53
        have y1 := (mSay2_iff s1 a _ _).mp (bP_ne c44)
        have y2 := (mSay2_iff s2 a _ _).mp (bP_ne c53)
        have hkl : ks.length ≤ 120 := by
          obtain ⟨ks', e', q1, -⟩ := y1.2
          rw [a] at e'
          injection e' with e'
          subst e'
          have : mtn μ ≤ 120 := by unfold mtn; omega
          omega
        have hc1 := y1.1.1
        have hc2 := y2.1.1
        obtain ⟨a1, a2, a3, a4, a5, a6, a7, a8⟩ := mSy_all s3
        have R3 := a3 h
        have hck : ∀ z : Int, mchK μ50 z = mchK μ z := fun z => by funext k; unfold mchK; rw [a4.1, a4.2.1]
        refine (r_aload_n C dX12_likelier_58 rfl rfl (r_iconst C dX12_likelier_59 (r_iload_n C dX12_likelier_60 rfl rfl (r_v2N C yv_X12_product lk_X12_332 dX12_likelier_61 rfl nM_0 sM_0 rfl (Nat.le_of_ble_eq_true rfl) (ok_X12_product (o := 0) (ks := ks) ⟨⟨rfl, Or.inl rfl⟩, ⟨by omega, by omega⟩, R3.2.1, h50.2.2, hk5, hkl⟩) (fun μ61 h61 => (r_aload_n C dX12_likelier_64 rfl rfl (r_bipush C dX12_likelier_65 (by decide +kernel) (r_iload_n C dX12_likelier_67 rfl rfl (r_v2N C yv_X12_product lk_X12_332 dX12_likelier_68 rfl nM_0 sM_0 rfl (Nat.le_of_ble_eq_true rfl) (ok_X12_product (o := 80) (ks := ks) ?_) (fun μ68 h68 => (r_bipush C dX12_likelier_71 (by decide +kernel) (r_istore C dX12_likelier_73 (by decide) ?_))))))))))))
        · obtain ⟨g1, g2, g3⟩ := h61
          refine ⟨⟨by decide, Or.inr rfl⟩, ⟨by omega, by omega⟩, ?_, ⟨?_, fun j hj hj2 => ?_⟩, hk5, hkl⟩
          · have e1 : ∀ i, μ61.1 14 i = μ50.1 14 i := fun i => g1 14 i (by omega)
            have e2 : ∀ i, μ61.1 15 i = μ50.1 15 i := fun i => g1 15 i (by omega)
            have q := R3.2.1
            unfold mHdOk at q ⊢
            rw [g1 0 18 (by omega)]
            refine ⟨q.1, fun i => ?_⟩
            rw [e1, e2]
            exact q.2 i
          · rw [g1 0 28 (by omega)]; exact h50.2.2.1
          · rw [g1 24 j (by omega)]; exact h50.2.2.2 j hj hj2
        · obtain ⟨g1, g2, g3⟩ := h61
          obtain ⟨f1, f2, f3⟩ := h68
          have q0 := mpv_far (o := 0) (μ := μ61) (μ' := μ68) (fun i hi => f1 25 (0 + i) (by omega))
          have p1 : mpv 0 μ68 = pdP (mchK μ x.toInt) (mSpl μ) := by rw [q0.1, g3, hck, a]
          have e61 : mchK μ61 y.toInt = mchK μ y.toInt := by
            rw [← hck]
            have e1 : ∀ i, μ61.1 14 i = μ50.1 14 i := fun i => g1 14 i (by omega)
            have e2 : ∀ i, μ61.1 15 i = μ50.1 15 i := fun i => g1 15 i (by omega)
            funext k
            unfold mchK mge mle
            simp only [e1, e2]
          have p2 : mpv 80 μ68 = pdP (mchK μ y.toInt) (mSpl μ) := by rw [f3, e61, a]
          have n0 := q0.2 g2
          have hsm : mSm μ μ68 := fun u w q => by
            rw [f1 u w (by unfold relM at q; omega), g1 u w (by unfold relM at q; omega)]
            exact s3.sm u w q
          have hC : mLikC μ x.toInt y.toInt l.toInt := ⟨y1.1, y2.1, hS.2, y1.2, y2.2⟩
          have ys : ∀ r : Int32, r.toInt = (if mpv 0 μ68 = mpv 80 μ68 then 0 else if mpv 0 μ68 < mpv 80 μ68 then 1 else 2) → r.toInt = likA (mLikC μ x.toInt y.toInt l.toInt) (pdP (mchK μ x.toInt) (mSpl μ)) (pdP (mchK μ y.toInt) (mSpl μ)) := fun r q => by
            rw [q, p1, p2]
            unfold likA
            rw [if_pos hC]
          have loop : ∀ (i : Nat) (v : Int32), i ≤ 80 → v.toInt = (i : Int) - 1 → (∀ j, i ≤ j → j < 80 → (μ68.1 25 (0 + j)).toInt = (μ68.1 25 (80 + j)).toInt) → J 75 [some (.ref 0), some (.int x), some (.int y), some (.int l), some (.int v)] [] μ68 := by
            intro i
            induction i with
            | zero =>
              intro v hi hv hI
              refine (r_iload C dX12_likelier_75 rfl (r_if_lt C (tgt := 132) dX12_likelier_77 rfl (fun c77 => (r_iconst C dX12_likelier_132 (r_iret C dX12_likelier_133 ?_))) (fun c77 => (r_aload_n C dX12_likelier_80 rfl rfl (r_getR C dX12_likelier_81 fd_X12_78 nM_0 sM_0 rfl (r_iload C dX12_likelier_84 rfl (r_iald C dX12_likelier_86 nM_25 sM_25 ?_ (r_aload_n C dX12_likelier_87 rfl rfl (r_getR C dX12_likelier_88 fd_X12_78 nM_0 sM_0 rfl (r_bipush C dX12_likelier_91 (by decide +kernel) (r_iload C dX12_likelier_93 rfl (r_iadd C dX12_likelier_95 (r_iald C dX12_likelier_96 nM_25 sM_25 ?_ (r_icmp_eq C (tgt := 126) dX12_likelier_97 rfl (fun c97 => (r_iinc C dX12_likelier_126 rfl (by decide) (r_goto C (tgt := 75) dX12_likelier_129 rfl ?_))) (fun c97 => (r_aload_n C dX12_likelier_100 rfl rfl (r_getR C dX12_likelier_101 fd_X12_78 nM_0 sM_0 rfl (r_iload C dX12_likelier_104 rfl (r_iald C dX12_likelier_106 nM_25 sM_25 ?_ (r_aload_n C dX12_likelier_107 rfl rfl (r_getR C dX12_likelier_108 fd_X12_78 nM_0 sM_0 rfl (r_bipush C dX12_likelier_111 (by decide +kernel) (r_iload C dX12_likelier_113 rfl (r_iadd C dX12_likelier_115 (r_iald C dX12_likelier_116 nM_25 sM_25 ?_ (r_icmp_ge C (tgt := 124) dX12_likelier_117 rfl (fun c117 => (r_iconst C dX12_likelier_124 (r_iret C dX12_likelier_125 ?_))) (fun c117 => (r_iconst C dX12_likelier_120 (r_goto C (tgt := 125) dX12_likelier_121 rfl (r_iret C dX12_likelier_125 ?_))))))))))))))))))))))))))))))
              · refine ⟨hsm, ys _ ?_⟩
                have q : mpv 0 μ68 = mpv 80 μ68 := pvF_congr (fun j hj => hI j (by omega) hj)
                rw [if_pos q, z0]
              all_goals (exfalso; omega)
            | succ i ih =>
              intro v hi hv hI
              have ev : v.toInt.toNat = 0 + i := by omega
              have e80 : (Int32.ofInt 80 + v).toInt = 80 + (i : Int) := by
                have m80 : (Int32.ofInt 80).toInt = 80 := by decide
                rw [ti_add (by omega)]
                omega
              have ew : (Int32.ofInt 80 + v).toInt.toNat = 80 + i := by omega
              refine (r_iload C dX12_likelier_75 rfl (r_if_lt C (tgt := 132) dX12_likelier_77 rfl (fun c77 => (r_iconst C dX12_likelier_132 (r_iret C dX12_likelier_133 ?_))) (fun c77 => (r_aload_n C dX12_likelier_80 rfl rfl (r_getR C dX12_likelier_81 fd_X12_78 nM_0 sM_0 rfl (r_iload C dX12_likelier_84 rfl (r_iald C dX12_likelier_86 nM_25 sM_25 ?_ (r_aload_n C dX12_likelier_87 rfl rfl (r_getR C dX12_likelier_88 fd_X12_78 nM_0 sM_0 rfl (r_bipush C dX12_likelier_91 (by decide +kernel) (r_iload C dX12_likelier_93 rfl (r_iadd C dX12_likelier_95 (r_iald C dX12_likelier_96 nM_25 sM_25 ?_ (r_icmp_eq C (tgt := 126) dX12_likelier_97 rfl (fun c97 => (r_iinc C dX12_likelier_126 rfl (by decide) (r_goto C (tgt := 75) dX12_likelier_129 rfl ?_))) (fun c97 => (r_aload_n C dX12_likelier_100 rfl rfl (r_getR C dX12_likelier_101 fd_X12_78 nM_0 sM_0 rfl (r_iload C dX12_likelier_104 rfl (r_iald C dX12_likelier_106 nM_25 sM_25 ?_ (r_aload_n C dX12_likelier_107 rfl rfl (r_getR C dX12_likelier_108 fd_X12_78 nM_0 sM_0 rfl (r_bipush C dX12_likelier_111 (by decide +kernel) (r_iload C dX12_likelier_113 rfl (r_iadd C dX12_likelier_115 (r_iald C dX12_likelier_116 nM_25 sM_25 ?_ (r_icmp_ge C (tgt := 124) dX12_likelier_117 rfl (fun c117 => (r_iconst C dX12_likelier_124 (r_iret C dX12_likelier_125 ?_))) (fun c117 => (r_iconst C dX12_likelier_120 (r_goto C (tgt := 125) dX12_likelier_121 rfl (r_iret C dX12_likelier_125 ?_))))))))))))))))))))))))))))))
              · exfalso; omega
              · omega
              · rw [e80]; omega
              · rw [ev, ew] at c97
                refine ih _ (by omega) (by simp (disch := (first | omega | (simp (disch := omega) only [ti_ofInt, ti_addc, ti_subc, ti_mulc, ti_cmul, ti_divc, ti_remc, ti_zero, ti_add, ti_sub, ti_neg, if_lt_ti, if_gt_ti, bP_e0, Classical.not_not, tl_i2l]; omega))) only [ti_ofInt, ti_addc, ti_subc, ti_mulc, ti_cmul, ti_divc, ti_remc, ti_zero, ti_add, ti_sub, ti_neg, if_lt_ti, if_gt_ti, bP_e0, Classical.not_not, tl_i2l]; omega) (fun j h1 h2 => ?_)
                by_cases e : j = i
                · subst e; exact c97
                · exact hI j (by omega) h2
              · omega
              · rw [e80]; omega
              · rw [ev, ew] at c97 c117
                have q : mpv 80 μ68 < mpv 0 μ68 := pvF_lt (by decide) (i := i) (by omega) f2 n0 (fun j h1 h2 => (hI j (by omega) h2).symm) (by omega)
                refine ⟨hsm, ys _ ?_⟩
                rw [if_neg (by omega), if_neg (by omega), o2]
              · rw [ev, ew] at c97 c117
                have q : mpv 0 μ68 < mpv 80 μ68 := pvF_lt (by decide) (i := i) (by omega) n0 f2 (fun j h1 h2 => hI j (by omega) h2) (by omega)
                refine ⟨hsm, ys _ ?_⟩
                rw [if_neg (by omega), if_pos q, o1]
          exact loop 80 _ (Nat.le_refl _) (by simp (disch := (first | omega | (simp (disch := omega) only [ti_ofInt, ti_addc, ti_subc, ti_mulc, ti_cmul, ti_divc, ti_remc, ti_zero, ti_add, ti_sub, ti_neg, if_lt_ti, if_gt_ti, bP_e0, Classical.not_not, tl_i2l]; omega))) only [ti_ofInt, ti_addc, ti_subc, ti_mulc, ti_cmul, ti_divc, ti_remc, ti_zero, ti_add, ti_sub, ti_neg, if_lt_ti, if_gt_ti, bP_e0, Classical.not_not, tl_i2l]; rfl) (fun j h1 h2 => by omega)
      · rw [h50.1] at c53
        have s2 := s1.tr h41.2.1
        refine ⟨(s2.tr h50.2.1).sm, no (fun z => bP_e0.mp c53 ?_)⟩
        exact (mSay2_iff s2 a _ _).mpr ⟨z.2.1, z.2.2.2.2⟩
    · rw [b] at c35
      exact absurd z0 c35
def mKeyC (μ : kMem) (h l s : Int) : Prop := (0 ≤ h ∧ h < (μ.1 0 18).toInt) ∧ (0 ≤ l ∧ l < (μ.1 0 19).toInt) ∧ (0 ≤ s ∧ s ≤ 1000000) ∧ isSay (mn μ) (mt μ) ∧ ∃ ks, mSpl μ = some ks ∧ ks.length ≤ 120
/-- the tape holds this row -/
def mTp (μ0 : kMem) (L : List Int) (μ : kMem) : Prop := (μ.1 0 21).toInt = L.length ∧ (∀ j (hj : j < L.length), (μ.1 20 j).toInt = L[j]) ∧ ∀ j : Nat, L.length ≤ j → μ.1 20 j = μ0.1 20 j
theorem mTp.snoc {L : List Int} {μ0 μ : kMem} (h : mTp μ0 L μ) (hl : L.length < 120) {x : Int32} {y : Int} (hy : x.toInt = y) : mTp μ0 (L ++ [y]) (up (up μ 20 (μ.1 0 21).toInt.toNat x) 0 21 (μ.1 0 21 + Int32.ofInt 1)) := by
  obtain ⟨h1, h2, h3⟩ := h
  have e9 : [y].length = 1 := rfl
  refine ⟨?_, fun j hj => ?_, fun j hj => ?_⟩
  · rw [up_same, ti_addc (by omega), h1, List.length_append]
    rfl
  · rw [List.length_append, e9] at hj
    rw [up_neo _ _ (by decide), h1, Int.toNat_natCast]
    by_cases e : j = L.length
    · subst e
      rw [up_same]
      simp [hy]
    · rw [up_nek _ _ e, h2 j (by omega), List.getElem_append_left (by omega)]
  · rw [List.length_append, e9] at hj
    rw [up_neo _ _ (by decide), h1, Int.toNat_natCast, up_nek _ _ (by omega)]
    exact h3 j (by omega)
theorem ok_X12_key {x l s : Int32} {μ : kMem} (h : mRI μ ∧ mTxOk μ) : kOk yX12_key cX12_key 12 (some .int) rmX12_key shM 48 [.ref 0, .int x, .int l, .int s] μ (kI fun r μ' => (¬ mKeyC μ x.toInt l.toInt s.toInt ∧ r = Int32.ofInt (-1) ∧ mSm μ μ') ∨ (mKeyC μ x.toInt l.toInt s.toInt ∧ r = μ'.1 0 21 ∧ mTp μ (kyL (mle μ x.toInt) (mge μ x.toInt) (mbi μ l.toInt) s.toInt (mSpl μ)) μ' ∧ ∀ a b : Nat, relM a b → ¬ (a = 0 ∧ b = 21) → a ≠ 20 → μ'.1 a b = μ.1 a b)) := by
  obtain ⟨h, hT⟩ := h
  have z0 : (Int32.ofInt 0).toInt = 0 := by decide
  have o1 : (Int32.ofInt 1).toInt = 1 := by decide
  have m120 : (Int32.ofInt 120).toInt = 120 := by decide
  have htp := h.1.1
  have hh := h.2.1.1
  have hl := h.2.2.1.1
  have hmb := mbi_b h.2.2.1 l.toInt
  refine kOk.of rfl (Nat.le_of_ble_eq_true rfl) (fun J C => ?_)
  have C : kR cX12_key RX12 12 rmX12_key shM 48 (some .int) _ J := C
  refine (r_aload_n C dX12_key_0 rfl rfl (r_iload_n C dX12_key_1 rfl rfl (r_v1P C yv_X12_isHand lk_X12_291 dX12_key_2 rfl nM_0 sM_0 rfl (Nat.le_of_ble_eq_true rfl) (ok_X12_isHand ?_) (r_if_eq C (tgt := 51) dX12_key_5 rfl (fun c5 => (r_iconst C dX12_key_51 (r_iret C dX12_key_52 ?_))) (fun c5 => (r_aload_n C dX12_key_8 rfl rfl (r_iload_n C dX12_key_9 rfl rfl (r_v1P C yv_X12_isLine lk_X12_251 dX12_key_10 rfl nM_0 sM_0 rfl (Nat.le_of_ble_eq_true rfl) (ok_X12_isLine ?_) (r_if_eq C (tgt := 51) dX12_key_13 rfl (fun c13 => (r_iconst C dX12_key_51 (r_iret C dX12_key_52 ?_))) (fun c13 => (r_iload_n C dX12_key_16 rfl rfl (r_i2l C dX12_key_17 (r_lconst C dX12_key_18 rfl (r_ldc2 C dX12_key_19 kc_X12_335 (r_s3P C ys_X12_in lk_X12_155 dX12_key_22 rfl (Nat.le_of_ble_eq_true rfl) ok_X12_in (r_if_eq C (tgt := 51) dX12_key_25 rfl (fun c25 => (r_iconst C dX12_key_51 (r_iret C dX12_key_52 ?_))) (fun c25 => (r_aload_n C dX12_key_28 rfl rfl (r_v0P C yv_X12_isSaying lk_X12_317 dX12_key_29 rfl nM_0 sM_0 rfl (Nat.le_of_ble_eq_true rfl) (ok_X12_isSaying ?_) (r_if_eq C (tgt := 51) dX12_key_32 rfl (fun c32 => (r_iconst C dX12_key_51 (r_iret C dX12_key_52 ?_))) (fun c32 => (r_aload_n C dX12_key_35 rfl rfl (r_v0I C yv_X12_lays lk_X12_323 dX12_key_36 rfl nM_0 sM_0 rfl (Nat.le_of_ble_eq_true rfl) (ok_X12_lays ?_) (fun r36 μ36 h36 => (r_if_eq C (tgt := 51) dX12_key_39 rfl (fun c39 => (r_iconst C dX12_key_51 (r_iret C dX12_key_52 ?_))) (fun c39 => (r_aload_n C dX12_key_42 rfl rfl (r_getI C dX12_key_43 fd_X12_311 nM_0 sM_0 rfl (r_bipush C dX12_key_46 (by decide +kernel) (r_icmp_le C (tgt := 53) dX12_key_48 rfl (fun c48 => ?_) (fun c48 => (r_iconst C dX12_key_51 (r_iret C dX12_key_52 ?_)))))))))))))))))))))))))))))))))
  · exact hh.1
  · exact Or.inl ⟨fun z => bP_e0.mp c5 z.1, rfl, mSm.rf⟩
  · exact hl.1
  · exact Or.inl ⟨fun z => bP_e0.mp c13 z.2.1, rfl, mSm.rf⟩
  · have c := bP_e0.mp c25
    simp only [tl_i2l, ll_c0, ll_c1, ll_m1, ll_32, ll_97, ll_25, ll_255255, ll_5, ll_99, ll_20, ll_9, ll_999, ll_1000000, ll_17575, ll_3, ll_200, ll_60, ll_2, ll_5000, ll_m60, ll_m99] at c
    exact Or.inl ⟨fun z => c z.2.2.1, rfl, mSm.rf⟩
  · exact hT
  · exact Or.inl ⟨fun z => bP_e0.mp c32 z.2.2.2.1, rfl, mSm.rf⟩
  · exact ⟨hT, h.2.2.2, bP_ne c32⟩
  · rcases h36 with ⟨ks, a, b, c⟩ | ⟨a, b, ks, c⟩
    · rw [c] at c39; exact absurd c39 (by decide)
    · refine Or.inl ⟨fun z => ?_, rfl, c.sy.sm⟩
      obtain ⟨ks', e', -⟩ := z.2.2.2.2
      rw [a] at e'
      cases e'
  · rcases h36 with ⟨ks, a, b, -⟩ | ⟨-, b, -⟩
    · have hS := bP_ne c32
      have hk5 := mSpl_b h.2.2.2 hS a
      have hx := bP_ne c5
      have hlb := bP_ne c13
      have hs := bP_ne c25
      simp only [tl_i2l, ll_c0, ll_c1, ll_m1, ll_32, ll_97, ll_25, ll_255255, ll_5, ll_99, ll_20, ll_9, ll_999, ll_1000000, ll_17575, ll_3, ll_200, ll_60, ll_2, ll_5000, ll_m60, ll_m99] at hs
      have s1 := b.sy
      rw [b.1, m120] at c48
      have hkl : ks.length ≤ 120 := by omega
      have hC : mKeyC μ x.toInt l.toInt s.toInt := ⟨hx, hlb, hs, hS, ks, a, hkl⟩
      obtain ⟨a1, a2, a3, a4, a5, a6, a7, a8⟩ := mSy_all s1
      have R1 := a3 h
      obtain ⟨B, hB⟩ : ∃ B : Int32, B = Int32.ofInt (mbi μ36 l.toInt) := ⟨_, rfl⟩
      have hBv : B.toInt = mbi μ l.toInt := by rw [hB, a4.2.2, ti_ofInt (by omega)]
      obtain ⟨dd, hdd⟩ : ∃ dd : Nat → Int, dd = kyD (mle μ x.toInt) (mge μ x.toInt) s.toInt ks := ⟨_, rfl⟩
      have hdb : ∀ i, 0 ≤ dd i ∧ dd i ≤ 255 := fun i => by
        have q := mle_b h.2.1 x.toInt (ks.getD i 0)
        have h1 := Int.emod_nonneg (lcgN s.toInt (i + 1) / 256) (b := mge μ x.toInt (ks.getD i 0) - mle μ x.toInt (ks.getD i 0) + 1) (by omega)
        have h2 := Int.emod_lt_of_pos (lcgN s.toInt (i + 1) / 256) (b := mge μ x.toInt (ks.getD i 0) - mle μ x.toInt (ks.getD i 0) + 1) (by omega)
        rw [hdd]
        unfold kyD
        omega
      have e5 : (Int32.ofInt 5 * x).toInt = 5 * x.toInt := ti_cmul (by omega)
      have loop : ∀ (n i : Nat) (X : Int64) (g any v : Int32) (z1 z2 : Option Value) (μ' : kMem), i + n = ks.length → v.toInt = i → X.toInt = lcgN s.toInt i → g.toInt = (sendF (mbi μ l.toInt) dd i).2 → (any.toInt = 0 ↔ (sendF (mbi μ l.toInt) dd i).1 = []) → mTp μ (sendF (mbi μ l.toInt) dd i).1 μ' → (∀ a b : Nat, ¬ (a = 0 ∧ b = 21) → a ≠ 20 → μ'.1 a b = μ36.1 a b) → J 78 [some (.ref 0), some (.int x), some (.int l), some (.int s), some (.long X), none, some (.int B), some (.int g), some (.int any), some (.int v), z1, z2] [] μ' := by
        intro n
        induction n using Nat.strongRecOn with
        | ind n ih =>
          intro i X g any v z1 z2 μ' hin hv hX hg hany hI hO
          have ev : v.toInt.toNat = i := by omega
          have e28 : μ'.1 0 28 = μ36.1 0 28 := hO 0 28 (by omega) (by decide)
          have hkd : ∀ q : i < ks.length, (μ'.1 24 v.toInt.toNat).toInt = ks[i] ∧ (0 ≤ ks[i] ∧ ks[i] < 5) ∧ ks.getD i 0 = ks[i] := fun q => by
            rw [ev, hO 24 i (by omega) (by decide)]
            exact ⟨b.2.1 i q (by omega), hk5 _ (List.getElem_mem q), by rw [List.getD_eq_getElem?_getD, List.getElem?_eq_getElem q]; rfl⟩
          have eix : ∀ q : i < ks.length, (Int32.ofInt 5 * x + μ'.1 24 v.toInt.toNat).toInt = x.toInt * 5 + ks[i] := fun q => by
            have := hkd q
            rw [ti_add (by omega), e5]
            omega
          have eLe : ∀ q : i < ks.length, (μ'.1 14 (Int32.ofInt 5 * x + μ'.1 24 v.toInt.toNat).toInt.toNat).toInt = mle μ x.toInt (ks.getD i 0) := fun q => by
            have k1 := hkd q
            rw [eix q, hO 14 _ (by omega) (by decide), b.2.2 14 _ (by omega) (by decide), k1.2.2]
            unfold mle
            rw [if_pos k1.2.1]
          have eGe : ∀ q : i < ks.length, (μ'.1 15 (Int32.ofInt 5 * x + μ'.1 24 v.toInt.toNat).toInt.toNat).toInt = mge μ x.toInt (ks.getD i 0) := fun q => by
            have k1 := hkd q
            rw [eix q, hO 15 _ (by omega) (by decide), b.2.2 15 _ (by omega) (by decide), k1.2.2]
            unfold mge
            rw [if_pos k1.2.1]
          have hLG := mle_b h.2.1 x.toInt (ks.getD i 0)
          have hch : ∀ q : i < ks.length, (μ'.1 15 (Int32.ofInt 5 * x + μ'.1 24 v.toInt.toNat).toInt.toNat - μ'.1 14 (Int32.ofInt 5 * x + μ'.1 24 v.toInt.toNat).toInt.toNat + Int32.ofInt 1).toInt = mge μ x.toInt (ks.getD i 0) - mle μ x.toInt (ks.getD i 0) + 1 := fun q => by
            have q1 := eLe q
            have q2 := eGe q
            rw [ti_addc (by rw [ti_sub (by omega)]; omega), ti_sub (by omega), q1, q2]
          have hL := sendF_len (b := mbi μ l.toInt) (d := dd) i
          have hG := sendF_gap (b := mbi μ l.toInt) (d := dd) (M := 255) (by decide) i (fun j _ => hdb j)
          have hdi := hdb i
          have hstep : sendF (mbi μ l.toInt) dd (i + 1) = if i % 2 = 1 ∨ dd i ≤ mbi μ l.toInt then ((sendF (mbi μ l.toInt) dd i).1, (sendF (mbi μ l.toInt) dd i).2 + dd i) else ((sendF (mbi μ l.toInt) dd i).1 ++ ((if (sendF (mbi μ l.toInt) dd i).1 = [] then [] else [min ((sendF (mbi μ l.toInt) dd i).2 + mbi μ l.toInt) 999]) ++ [dd i - mbi μ l.toInt]), 0) := rfl
          obtain ⟨S, hSeq⟩ : ∃ S, S = sendF (mbi μ l.toInt) dd i := ⟨_, rfl⟩
          rw [← hSeq] at hL hG hstep hg hI hany
          obtain ⟨Lr, gp⟩ := S
          have hsz := hI.1
          dsimp only at hL hG hsz hstep hg hI hany
          have erem : (krem v (Int32.ofInt 2)).toInt = (i : Int) % 2 := by rw [ti_remc (by omega), hv]
          have hgap : ∀ (X' : Int64) (u w : Int32), X'.toInt = lcgN s.toInt (i + 1) → i < ks.length → u.toInt = dd i → (i % 2 = 1 ∨ dd i ≤ mbi μ l.toInt) → J 78 [some (.ref 0), some (.int x), some (.int l), some (.int s), some (.long X'), none, some (.int B), some (.int (g + u)), some (.int any), some (.int (v + Int32.ofInt 1)), some (.int w), some (.int u)] [] μ' := by
            intro X' u w m3 q1 qu q2
            rw [if_pos q2] at hstep
            refine ih (n - 1) (by omega) (i + 1) _ _ _ _ _ _ _ (by omega) (by simp (disch := (first | omega | (simp (disch := omega) only [ti_ofInt, ti_addc, ti_subc, ti_mulc, ti_cmul, ti_divc, ti_remc, ti_zero, ti_add, ti_sub, ti_neg, if_lt_ti, if_gt_ti, bP_e0, Classical.not_not, tl_i2l]; omega))) only [ti_ofInt, ti_addc, ti_subc, ti_mulc, ti_cmul, ti_divc, ti_remc, ti_zero, ti_add, ti_sub, ti_neg, if_lt_ti, if_gt_ti, bP_e0, Classical.not_not, tl_i2l]; omega) m3 ?_ ?_ ?_ hO
            · rw [hstep, ti_add (by omega), hg, qu]
            · rw [hstep]; exact hany
            · rw [hstep]; exact hI
          have hsnd : ∀ (X' : Int64) (M : List Int) (μ1 : kMem) (u w t : Int32), X'.toInt = lcgN s.toInt (i + 1) → i < ks.length → u.toInt = dd i → ¬ (i % 2 = 1 ∨ dd i ≤ mbi μ l.toInt) → t.toInt = dd i - mbi μ l.toInt → mTp μ M μ1 → M ++ [dd i - mbi μ l.toInt] = Lr ++ ((if Lr = [] then [] else [min (gp + mbi μ l.toInt) 999]) ++ [dd i - mbi μ l.toInt]) → M.length < 120 → (∀ a b : Nat, ¬ (a = 0 ∧ b = 21) → a ≠ 20 → μ1.1 a b = μ36.1 a b) → J 78 [some (.ref 0), some (.int x), some (.int l), some (.int s), some (.long X'), none, some (.int B), some (.int (Int32.ofInt 0)), some (.int (Int32.ofInt 1)), some (.int (v + Int32.ofInt 1)), some (.int w), some (.int u)] [] (up (up μ1 20 (μ1.1 0 21).toInt.toNat t) 0 21 (μ1.1 0 21 + Int32.ofInt 1)) := by
            intro X' M μ1 u w t m3 q1 qu q2 qt a1 a2 a3 a4
            rw [if_neg q2] at hstep
            have b1 := a1.snoc a3 qt
            rw [a2] at b1
            refine ih (n - 1) (by omega) (i + 1) _ _ _ _ _ _ _ (by omega) (by simp (disch := (first | omega | (simp (disch := omega) only [ti_ofInt, ti_addc, ti_subc, ti_mulc, ti_cmul, ti_divc, ti_remc, ti_zero, ti_add, ti_sub, ti_neg, if_lt_ti, if_gt_ti, bP_e0, Classical.not_not, tl_i2l]; omega))) only [ti_ofInt, ti_addc, ti_subc, ti_mulc, ti_cmul, ti_divc, ti_remc, ti_zero, ti_add, ti_sub, ti_neg, if_lt_ti, if_gt_ti, bP_e0, Classical.not_not, tl_i2l]; omega) m3 ?_ ?_ ?_ ?_
            · rw [hstep]; exact z0
            · rw [hstep, o1]
              refine ⟨fun q => absurd q (by decide), fun q => ?_⟩
              have := congrArg List.length q
              simp only [List.length_append, List.length_cons, List.length_nil] at this
              omega
            · rw [hstep]; exact b1
            · intro a b n1 n2
              rw [up_ne _ _ n1, up_neo _ _ n2]
              exact a4 a b n1 n2
          have body : ∀ (X' : Int64) (w u : Int32), X'.toInt = lcgN s.toInt (i + 1) → i < ks.length → u.toInt = dd i → J 156 [some (.ref 0), some (.int x), some (.int l), some (.int s), some (.long X'), none, some (.int B), some (.int g), some (.int any), some (.int v), some (.int w), some (.int u)] [] μ' := by
            intro X' w u m3 hil hu
            refine (r_iload C dX12_key_156 rfl (r_iconst C dX12_key_158 (r_irem C dX12_key_159 (by decide) (r_iconst C dX12_key_160 (r_icmp_eq C (tgt := 171) dX12_key_161 rfl (fun c161 => (r_iload C dX12_key_171 rfl (r_iload C dX12_key_173 rfl (r_iadd C dX12_key_175 (r_istore C dX12_key_176 (by decide) (r_goto C (tgt := 246) dX12_key_178 rfl (r_iinc C dX12_key_246 rfl (by decide) (r_goto C (tgt := 78) dX12_key_249 rfl ?_)))))))) (fun c161 => (r_iload C dX12_key_164 rfl (r_iload C dX12_key_166 rfl (r_icmp_gt C (tgt := 181) dX12_key_168 rfl (fun c168 => (r_iload C dX12_key_181 rfl (r_if_eq C (tgt := 216) dX12_key_183 rfl (fun c183 => (r_aload_n C dX12_key_216 rfl rfl (r_getR C dX12_key_217 fd_X12_63 nM_0 sM_0 rfl (r_aload_n C dX12_key_220 rfl rfl (r_getI C dX12_key_221 fd_X12_260 nM_0 sM_0 rfl (r_iload C dX12_key_224 rfl (r_iload C dX12_key_226 rfl (r_isub C dX12_key_228 (r_iast C dX12_key_229 nM_20 sM_20 ?_ (r_aload_n C dX12_key_230 rfl rfl (r_dup C dX12_key_231 rfl (r_getI C dX12_key_232 fd_X12_260 nM_0 sM_0 rfl (r_iconst C dX12_key_235 (r_iadd C dX12_key_236 (r_putI C dX12_key_237 fw_X12_260 nM_0 sM_0 rfl (r_iconst C dX12_key_240 (r_istore C dX12_key_241 (by decide) (r_iconst C dX12_key_243 (r_istore C dX12_key_244 (by decide) (r_iinc C dX12_key_246 rfl (by decide) (r_goto C (tgt := 78) dX12_key_249 rfl ?_))))))))))))))))))))) (fun c183 => (r_aload_n C dX12_key_186 rfl rfl (r_getR C dX12_key_187 fd_X12_63 nM_0 sM_0 rfl (r_aload_n C dX12_key_190 rfl rfl (r_getI C dX12_key_191 fd_X12_260 nM_0 sM_0 rfl (r_sipush C dX12_key_194 (by decide +kernel) (r_iload C dX12_key_197 rfl (r_iload C dX12_key_199 rfl (r_iadd C dX12_key_201 (r_min C mh_X12_301 dX12_key_202 ⟨rfl, rfl⟩ (Nat.le_of_ble_eq_true rfl) (r_iast C dX12_key_205 nM_20 sM_20 ?_ (r_aload_n C dX12_key_206 rfl rfl (r_dup C dX12_key_207 rfl (r_getI C dX12_key_208 fd_X12_260 nM_0 sM_0 rfl (r_iconst C dX12_key_211 (r_iadd C dX12_key_212 (r_putI C dX12_key_213 fw_X12_260 nM_0 sM_0 rfl (r_aload_n C dX12_key_216 rfl rfl (r_getR C dX12_key_217 fd_X12_63 nM_0 sM_0 rfl (r_aload_n C dX12_key_220 rfl rfl (r_getI C dX12_key_221 fd_X12_260 nM_0 sM_0 rfl (r_iload C dX12_key_224 rfl (r_iload C dX12_key_226 rfl (r_isub C dX12_key_228 (r_iast C dX12_key_229 nM_20 sM_20 ?_ (r_aload_n C dX12_key_230 rfl rfl (r_dup C dX12_key_231 rfl (r_getI C dX12_key_232 fd_X12_260 nM_0 sM_0 rfl (r_iconst C dX12_key_235 (r_iadd C dX12_key_236 (r_putI C dX12_key_237 fw_X12_260 nM_0 sM_0 rfl (r_iconst C dX12_key_240 (r_istore C dX12_key_241 (by decide) (r_iconst C dX12_key_243 (r_istore C dX12_key_244 (by decide) (r_iinc C dX12_key_246 rfl (by decide) (r_goto C (tgt := 78) dX12_key_249 rfl ?_)))))))))))))))))))))))))))))))))))))))) (fun c168 => (r_iload C dX12_key_171 rfl (r_iload C dX12_key_173 rfl (r_iadd C dX12_key_175 (r_istore C dX12_key_176 (by decide) (r_goto C (tgt := 246) dX12_key_178 rfl (r_iinc C dX12_key_246 rfl (by decide) (r_goto C (tgt := 78) dX12_key_249 rfl ?_)))))))))))))))))
            · rw [erem, o1] at c161
              exact hgap _ _ _ m3 hil hu (Or.inl (by omega))
            · omega
            · rw [erem, o1] at c161
              rw [hu, hBv] at c168
              have hn : Lr = [] := hany.mp (by omega)
              simp (disch := decide) only [up_same, up_neo, up_nek, up_2]
              refine hsnd X' Lr μ' _ _ _ m3 hil hu (by omega) (by rw [ti_sub (by omega), hu, hBv]) hI ?_ (by omega) hO
              rw [if_pos hn]
              rfl
            · omega
            · rw [erem, o1] at c161
              have hne : ¬ Lr = [] := fun q => c183 (hany.mpr q)
              have hlen : Lr.length < 119 := by
                rcases hL.2 with q | q
                · exact absurd q hne
                · omega
              simp (disch := decide) only [up_same, up_neo, up_nek, up_2]
              rw [ti_addc (by omega)]
              omega
            · rw [erem, o1] at c161
              rw [hu, hBv] at c168
              have hne : ¬ Lr = [] := fun q => c183 (hany.mpr q)
              have hlen : Lr.length < 119 := by
                rcases hL.2 with q | q
                · exact absurd q hne
                · omega
              have egB : (g + B).toInt = gp + mbi μ l.toInt := by rw [ti_add (by omega)]; omega
              have m999 : (Int32.ofInt 999).toInt = 999 := by decide
              have emin : (if g + B < Int32.ofInt 999 then g + B else Int32.ofInt 999).toInt = min (gp + mbi μ l.toInt) 999 := by
                rw [if_lt_ti, egB, m999]
                omega
              have b1 := hI.snoc (by omega) emin
              have e3 : ∀ y : Int, ([y] : List Int).length = 1 := fun _ => rfl
              have hh := hsnd X' _ _ u w _ m3 hil hu (by omega) (show (u - B).toInt = _ by rw [ti_sub (by omega), hu, hBv]) b1 (by rw [if_neg hne, List.append_assoc]) (by rw [List.length_append, e3]; omega) (fun u w n1 n2 => by rw [up_ne _ _ n1, up_neo _ _ n2]; exact hO u w n1 n2)
              simp (disch := decide) only [up_same, up_neo, up_nek, up_2] at hh ⊢
              exact hh
            · rw [hu, hBv] at c168
              exact hgap _ _ _ m3 hil hu (Or.inr (by omega))
          refine (r_iload C dX12_key_78 rfl (r_aload_n C dX12_key_80 rfl rfl (r_getI C dX12_key_81 fd_X12_311 nM_0 sM_0 rfl (r_icmp_ge C (tgt := 252) dX12_key_84 rfl (fun c84 => (r_aload_n C dX12_key_252 rfl rfl (r_getI C dX12_key_253 fd_X12_260 nM_0 sM_0 rfl (r_iret C dX12_key_256 ?_)))) (fun c84 => (r_lload C dX12_key_87 rfl (r_ldc2 C dX12_key_89 kc_X12_337 (r_lmul C dX12_key_92 (r_ldc2 C dX12_key_93 kc_X12_339 (r_ladd C dX12_key_96 (r_ldc2 C dX12_key_97 kc_X12_341 (r_land C dX12_key_100 (r_lstore C dX12_key_101 (by decide) (r_aload_n C dX12_key_103 rfl rfl (r_getR C dX12_key_104 fd_X12_45 nM_0 sM_0 rfl (r_iconst C dX12_key_107 (r_iload_n C dX12_key_108 rfl rfl (r_imul C dX12_key_109 (r_aload_n C dX12_key_110 rfl rfl (r_getR C dX12_key_111 fd_X12_75 nM_0 sM_0 rfl (r_iload C dX12_key_114 rfl (r_iald C dX12_key_116 nM_24 sM_24 ?_ (r_iadd C dX12_key_117 (r_iald C dX12_key_118 nM_14 sM_14 ?_ (r_istore C dX12_key_119 (by decide) (r_iload C dX12_key_121 rfl (r_lload C dX12_key_123 rfl (r_ldc2 C dX12_key_125 kc_X12_343 (r_ldiv C dX12_key_128 ?_ (r_aload_n C dX12_key_129 rfl rfl (r_getR C dX12_key_130 fd_X12_48 nM_0 sM_0 rfl (r_iconst C dX12_key_133 (r_iload_n C dX12_key_134 rfl rfl (r_imul C dX12_key_135 (r_aload_n C dX12_key_136 rfl rfl (r_getR C dX12_key_137 fd_X12_75 nM_0 sM_0 rfl (r_iload C dX12_key_140 rfl (r_iald C dX12_key_142 nM_24 sM_24 ?_ (r_iadd C dX12_key_143 (r_iald C dX12_key_144 nM_15 sM_15 ?_ (r_iload C dX12_key_145 rfl (r_isub C dX12_key_147 (r_iconst C dX12_key_148 (r_iadd C dX12_key_149 (r_i2l C dX12_key_150 (r_lrem C dX12_key_151 ?_ (r_l2i C dX12_key_152 (r_iadd C dX12_key_153 (r_istore C dX12_key_154 (by decide) ?_)))))))))))))))))))))))))))))))))))))))))))))))))
          · rw [e28, b.1] at c84
            have ei : i = ks.length := by omega
            refine Or.inr ⟨hC, rfl, ?_, fun u w q n1 n2 => by rw [hO u w n1 n2]; exact s1.sm u w q⟩
            have eL : kyL (mle μ x.toInt) (mge μ x.toInt) (mbi μ l.toInt) s.toInt (mSpl μ) = Lr := by
              rw [a]
              show (sendF (mbi μ l.toInt) (kyD (mle μ x.toInt) (mge μ x.toInt) s.toInt ks) ks.length).1 = Lr
              rw [← hdd, ← ei, ← hSeq]
            rw [eL]
            exact hI
          · rw [e28, b.1] at c84
            omega
          · rw [e28, b.1] at c84
            rw [eix (by omega)]
            have := hkd (by omega)
            omega
          · exact tl_ne0 (by rw [k64_256]; decide)
          · rw [e28, b.1] at c84
            omega
          · rw [e28, b.1] at c84
            rw [eix (by omega)]
            have := hkd (by omega)
            omega
          · rw [e28, b.1] at c84
            exact tl_ne0 (by rw [tl_i2l, hch (by omega)]; omega)
          · rw [e28, b.1] at c84
            have hil : i < ks.length := by omega
            exact body _ _ _ (lcg_step hX (lcgN_b (s := s.toInt) (by omega) i)) hil (by
              rw [draw_num (lcg_step hX (lcgN_b (s := s.toInt) (by omega) i)) (lcg_b (lcgN s.toInt i)).1 (hch hil) (by omega) (eLe hil) (by omega), hdd]
              rfl)
      refine (r_iload_n C dX12_key_53 rfl rfl (r_i2l C dX12_key_54 (r_lstore C dX12_key_55 (by decide) (r_aload_n C dX12_key_57 rfl rfl (r_iload_n C dX12_key_58 rfl rfl (r_v1P C yv_X12_biteOf lk_X12_254 dX12_key_59 rfl nM_0 sM_0 rfl (Nat.le_of_ble_eq_true rfl) (ok_X12_biteOf ?_) (r_istore C dX12_key_62 (by decide) (r_aload_n C dX12_key_64 rfl rfl (r_iconst C dX12_key_65 (r_putI C dX12_key_66 fw_X12_260 nM_0 sM_0 rfl (r_iconst C dX12_key_69 (r_istore C dX12_key_70 (by decide) (r_iconst C dX12_key_72 (r_istore C dX12_key_73 (by decide) (r_iconst C dX12_key_75 (r_istore C dX12_key_76 (by decide) ?_))))))))))))))))
      · exact ⟨R1.2.2.1, by omega, by omega⟩
      · rw [← hB]
        refine loop ks.length 0 _ _ _ _ _ _ _ (by omega) (by simp (disch := (first | omega | (simp (disch := omega) only [ti_ofInt, ti_addc, ti_subc, ti_mulc, ti_cmul, ti_divc, ti_remc, ti_zero, ti_add, ti_sub, ti_neg, if_lt_ti, if_gt_ti, bP_e0, Classical.not_not, tl_i2l]; omega))) only [ti_ofInt, ti_addc, ti_subc, ti_mulc, ti_cmul, ti_divc, ti_remc, ti_zero, ti_add, ti_sub, ti_neg, if_lt_ti, if_gt_ti, bP_e0, Classical.not_not, tl_i2l]; rfl) (by rw [tl_i2l]; rfl) z0 ⟨fun _ => rfl, fun _ => z0⟩ ⟨by rw [up_same]; rfl, fun j hj => absurd hj (Nat.not_lt_zero _), fun j _ => ?_⟩ (fun u w n1 n2 => up_ne _ _ n1)
        rw [up_neo _ _ (by decide)]
        exact b.2.2 20 j (by omega) (by decide)
    · rw [b] at c39
      exact absurd z0 c39
  · rcases h36 with ⟨ks, a, b, -⟩ | ⟨-, b, -⟩
    · refine Or.inl ⟨fun z => ?_, rfl, b.sy.sm⟩
      obtain ⟨ks', e', q⟩ := z.2.2.2.2
      rw [a] at e'
      injection e' with e'
      subst e'
      rw [b.1, m120] at c48
      omega
    · rw [b] at c39
      exact absurd z0 c39

