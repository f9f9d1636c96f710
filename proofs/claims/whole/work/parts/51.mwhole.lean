/-! ===== the model: a letter and a gap ===== -/
def mC (μ : kMem) : Nat → Int := fun i => (μ.1 22 (2 * i)).toInt
def mwv (μ : kMem) (j : Nat) (l k : Int) : Int := pWv (mrs μ) (mmc μ) (msz μ l) (mkd μ l) (mC μ) j k
theorem ok_X12_whole {x c k : Int32} {μ : kMem} (h : mRd μ ∧ (0 ≤ x.toInt ∧ x.toInt < (μ.1 0 21).toInt ∧ x.toInt % 2 = 0) ∧ (0 ≤ c.toInt ∧ c.toInt < 26) ∧ (3 ≤ k.toInt ∧ k.toInt ≤ 4) ∧ ∀ i, x.toInt.toNat / 2 < i → i < mmc μ → -1 ≤ mC μ i ∧ mC μ i ≤ 510 * ((mmc μ : Int) - i)) : kOk yX12_whole cX12_whole 6 (some .int) rmX12_whole shM 48 [.ref 0, .int x, .int c, .int k] μ (kP (Int32.ofInt (mwv μ (x.toInt.toNat / 2) c.toInt k.toInt)) μ) := by
  obtain ⟨h, ⟨hx, hx2, hx3⟩, ⟨hc, hc2⟩, ⟨hk, hk2⟩, hC⟩ := h
  have hn := mRd_n h
  obtain ⟨j, hj⟩ : ∃ j : Nat, x.toInt = 2 * (j : Int) := ⟨x.toInt.toNat / 2, by omega⟩
  have ej : x.toInt.toNat / 2 = j := by omega
  rw [ej] at hC ⊢
  have hb := pWv_b (mrs_b h.2.1) (n := msz μ c.toInt) (kd := mkd μ c.toInt) hC k.toInt
  have mm : (Int32.ofInt (-1)).toInt = -1 := by decide
  have m3 : (Int32.ofInt 3).toInt = 3 := by decide
  have em : (μ.1 3 c.toInt.toNat).toInt = mmk μ c.toInt := by unfold mmk; rw [if_pos ⟨hc, hc2⟩]
  have hmd : mdOk (μ.1 3 c.toInt.toNat).toInt := h.2.2.1 _ (by omega)
  have eN : dnF 5 (μ.1 3 c.toInt.toNat).toInt = msz μ c.toInt := by rw [em]; rfl
  have eLs : mlc μ (μ.1 3 c.toInt.toNat).toInt (x.toInt.toNat / 2) = lcst (mrs μ) (mmc μ) (msz μ c.toInt) (mkd μ c.toInt) j := by rw [em, ej]; rfl
  have hlb := lcst_b (mrs_b h.2.1) (mc := mmc μ) (n := msz μ c.toInt) (kd := mkd μ c.toInt) (j := j)
  obtain ⟨L, hL⟩ : ∃ L, L = lcst (mrs μ) (mmc μ) (msz μ c.toInt) (mkd μ c.toInt) j := ⟨_, rfl⟩
  obtain ⟨nn, hnn⟩ : ∃ nn, nn = msz μ c.toInt := ⟨_, rfl⟩
  have hnL : ¬ L = -1 → 0 < nn ∧ j + nn ≤ mmc μ := fun q => by rw [hL] at q; rw [hnn]; exact lcst_n q
  have hdl := dnF_le 5 (μ.1 3 c.toInt.toNat).toInt
  have hW : ∀ _ : True, mwv μ j c.toInt k.toInt = if L = -1 then -1 else if j + nn = mmc μ then (if k.toInt = 3 then L else -1) else if mrs μ (2 * (j + nn) - 1) k.toInt = -1 ∨ mC μ (j + nn) = -1 then -1 else L + mrs μ (2 * (j + nn) - 1) k.toInt + mC μ (j + nn) := by
    intro _
    rw [hL, hnn]
    rfl
  rw [← hL] at eLs hlb
  rw [← hnn] at eN hlb
  have hb : -1 ≤ mwv μ j c.toInt k.toInt ∧ (mwv μ j c.toInt k.toInt = -1 ∨ mwv μ j c.toInt k.toInt ≤ 510 * ((mmc μ : Int) - j)) := hb
  have i1 : (Int32.ofInt (dnF 5 (μ.1 3 c.toInt.toNat).toInt)).toInt = nn := by rw [ti_ofInt (by omega), eN]
  have i2 : (Int32.ofInt 2 * Int32.ofInt (dnF 5 (μ.1 3 c.toInt.toNat).toInt)).toInt = 2 * (nn : Int) := by rw [ti_cmul (by omega), i1]
  have i3 : (x + Int32.ofInt 2 * Int32.ofInt (dnF 5 (μ.1 3 c.toInt.toNat).toInt)).toInt = 2 * (j : Int) + 2 * nn := by rw [ti_add (by omega), i2]; omega
  have i4 : (x + Int32.ofInt 2 * Int32.ofInt (dnF 5 (μ.1 3 c.toInt.toNat).toInt) - Int32.ofInt 1).toInt = 2 * (j : Int) + 2 * nn - 1 := by rw [ti_subc (by omega), i3]
  have i5 : (x + Int32.ofInt 2 * Int32.ofInt (dnF 5 (μ.1 3 c.toInt.toNat).toInt) - Int32.ofInt 1 + Int32.ofInt 1).toInt = ((2 * (j + nn) : Nat) : Int) := by rw [ti_addc (by omega), i4]; omega
  have e22 : (μ.1 22 (x + Int32.ofInt 2 * Int32.ofInt (dnF 5 (μ.1 3 c.toInt.toNat).toInt) - Int32.ofInt 1 + Int32.ofInt 1).toInt.toNat).toInt = mC μ (j + nn) := by rw [i5, Int.toNat_natCast]; rfl
  have eg : ¬ L = -1 → (x + Int32.ofInt 2 * Int32.ofInt (dnF 5 (μ.1 3 c.toInt.toNat).toInt) - Int32.ofInt 1).toInt.toNat = 2 * (j + nn) - 1 := fun q => by have := hnL q; omega
  have hst : 0 < (μ.1 3 c.toInt.toNat).toInt → mRd μ ∧ (0 ≤ x.toInt ∧ x.toInt < (μ.1 0 21).toInt ∧ x.toInt % 2 = 0) ∧ mdOk (μ.1 3 c.toInt.toNat).toInt ∧ 0 < (μ.1 3 c.toInt.toNat).toInt := fun q => ⟨h, ⟨hx, hx2, hx3⟩, hmd, q⟩
  have hcf : ¬ L = -1 → mRd μ ∧ (0 ≤ x.toInt ∧ x.toInt < (μ.1 0 21).toInt ∧ x.toInt % 2 = 0) ∧ mdOk (μ.1 3 c.toInt.toNat).toInt ∧ ¬ mlc μ (μ.1 3 c.toInt.toNat).toInt (x.toInt.toNat / 2) = -1 := fun q => ⟨h, ⟨hx, hx2, hx3⟩, hmd, by rw [eLs]; exact q⟩
  have hgb := mrs_b h.2.1 (2 * (j + nn) - 1) k.toInt
  refine kOk.of rfl (Nat.le_of_ble_eq_true rfl) (fun J C => ?_)
  have C : kR cX12_whole RX12 6 rmX12_whole shM 48 (some .int) _ J := C
  refine (r_aload_n C dX12_whole_0 rfl rfl (r_getR C dX12_whole_1 fd_X12_15 nM_0 sM_0 rfl (r_iconst C dX12_whole_4 (r_aald C (r := 3) dX12_whole_5 nM_2 (by decide) sM_2 (by decide) (by decide) (r_iload_n C dX12_whole_6 rfl rfl (r_iald C dX12_whole_7 nM_3 sM_3 ?_ (r_istore C dX12_whole_8 (by decide) (r_iload C dX12_whole_10 rfl (r_if_eq C (tgt := 25) dX12_whole_12 rfl (fun c12 => (r_iconst C dX12_whole_25 (r_iret C dX12_whole_26 ?_))) (fun c12 => (r_aload_n C dX12_whole_15 rfl rfl (r_iload_n C dX12_whole_16 rfl rfl (r_iload C dX12_whole_17 rfl (r_v2P C yv_X12_stands lk_X12_297 dX12_whole_19 rfl nM_0 sM_0 rfl (Nat.le_of_ble_eq_true rfl) (ok_X12_stands ?_) (r_if_ne C (tgt := 27) dX12_whole_22 rfl (fun c22 => (r_iload_n C dX12_whole_27 rfl rfl (r_iconst C dX12_whole_28 (r_iload C dX12_whole_29 rfl (r_s1P C ys_X12_marksMany lk_X12_277 dX12_whole_31 rfl (Nat.le_of_ble_eq_true rfl) (ok_X12_marksMany ?_) (r_imul C dX12_whole_34 (r_iadd C dX12_whole_35 (r_iconst C dX12_whole_36 (r_isub C dX12_whole_37 (r_istore C dX12_whole_38 (by decide) (r_iload C dX12_whole_40 rfl (r_aload_n C dX12_whole_42 rfl rfl (r_getI C dX12_whole_43 fd_X12_260 nM_0 sM_0 rfl (r_icmp_ne C (tgt := 66) dX12_whole_46 rfl (fun c46 => (r_aload_n C dX12_whole_66 rfl rfl (r_iload C dX12_whole_67 rfl (r_iload_n C dX12_whole_69 rfl rfl (r_v2P C yv_X12_isOf lk_X12_284 dX12_whole_70 rfl nM_0 sM_0 rfl (Nat.le_of_ble_eq_true rfl) (ok_X12_isOf ?_) (r_if_eq C (tgt := 89) dX12_whole_73 rfl (fun c73 => (r_iconst C dX12_whole_89 (r_iret C dX12_whole_90 ?_))) (fun c73 => (r_aload_n C dX12_whole_76 rfl rfl (r_getR C dX12_whole_77 fd_X12_69 nM_0 sM_0 rfl (r_iload C dX12_whole_80 rfl (r_iconst C dX12_whole_82 (r_iadd C dX12_whole_83 (r_iald C dX12_whole_84 nM_22 sM_22 ?_ (r_iconst C dX12_whole_85 (r_icmp_ne C (tgt := 91) dX12_whole_86 rfl (fun c86 => (r_aload_n C dX12_whole_91 rfl rfl (r_iload_n C dX12_whole_92 rfl rfl (r_iload C dX12_whole_93 rfl (r_v2P C yv_X12_costFrom lk_X12_304 dX12_whole_95 rfl nM_0 sM_0 rfl (Nat.le_of_ble_eq_true rfl) (ok_X12_costFrom ?_) (r_aload_n C dX12_whole_98 rfl rfl (r_iload C dX12_whole_99 rfl (r_iload_n C dX12_whole_101 rfl rfl (r_v2P C yv_X12_costOf lk_X12_288 dX12_whole_102 rfl nM_0 sM_0 rfl (Nat.le_of_ble_eq_true rfl) (ok_X12_costOf ?_) (r_iadd C dX12_whole_105 (r_aload_n C dX12_whole_106 rfl rfl (r_getR C dX12_whole_107 fd_X12_69 nM_0 sM_0 rfl (r_iload C dX12_whole_110 rfl (r_iconst C dX12_whole_112 (r_iadd C dX12_whole_113 (r_iald C dX12_whole_114 nM_22 sM_22 ?_ (r_iadd C dX12_whole_115 (r_iret C dX12_whole_116 ?_)))))))))))))))))) (fun c86 => (r_iconst C dX12_whole_89 (r_iret C dX12_whole_90 ?_)))))))))))))))))) (fun c46 => (r_iload_n C dX12_whole_49 rfl rfl (r_iconst C dX12_whole_50 (r_icmp_ne C (tgt := 64) dX12_whole_51 rfl (fun c51 => (r_iconst C dX12_whole_64 (r_iret C dX12_whole_65 ?_))) (fun c51 => (r_aload_n C dX12_whole_54 rfl rfl (r_iload_n C dX12_whole_55 rfl rfl (r_iload C dX12_whole_56 rfl (r_v2P C yv_X12_costFrom lk_X12_304 dX12_whole_58 rfl nM_0 sM_0 rfl (Nat.le_of_ble_eq_true rfl) (ok_X12_costFrom ?_) (r_goto C (tgt := 65) dX12_whole_61 rfl (r_iret C dX12_whole_65 ?_))))))))))))))))))))))))) (fun c22 => (r_iconst C dX12_whole_25 (r_iret C dX12_whole_26 ?_))))))))))))))))))
  · omega
  · have e0 : nn = 0 := by rw [← eN, c12]; exact dnF_zero (Int.le_refl _)
    have : L = -1 := Classical.byContradiction (fun z => by have := hnL z; omega)
    rw [hW trivial, if_pos this]
    exact ⟨rfl, rfl⟩
  · exact hst (by have := hmd.1; omega)
  · exact ⟨hmd.1, hmd.2.1⟩
  · have d := bP_ne c22
    rw [eLs] at d
    have := hnL d
    rw [i4] at c46 ⊢
    exact ⟨h, ⟨by omega, by omega⟩, by omega, by omega⟩
  · have d := bP_ne c22
    rw [eLs] at d
    have := hnL d
    rw [i4] at c46
    have cc := bP_e0.mp c73
    rw [eg d, Classical.not_not] at cc
    rw [hW trivial, if_neg d, if_neg (by omega), if_pos (Or.inl cc)]
    exact ⟨rfl, rfl⟩
  · have d := bP_ne c22
    rw [eLs] at d
    have := hnL d
    rw [i5]
    omega
  · have d := bP_ne c22
    rw [eLs] at d
    exact hcf d
  · have d := bP_ne c22
    rw [eLs] at d
    have := hnL d
    have cc := bP_ne c73
    rw [i4] at c46
    have e4 := eg d
    rw [e4] at cc
    refine ⟨h, ⟨by omega, by omega⟩, ⟨by omega, by omega⟩, ?_⟩
    rw [e4]
    exact cc
  · have d := bP_ne c22
    rw [eLs] at d
    have := hnL d
    rw [i5]
    omega
  · have d := bP_ne c22
    rw [eLs] at d
    have h9 := hnL d
    have cc := bP_ne c73
    rw [i4] at c46
    rw [e22, mm] at c86
    rw [eg d] at cc ⊢
    rw [eLs]
    have hCb := hC (j + nn) (by omega) (by omega)
    have hW := hW trivial
    rw [if_neg d, if_neg (by omega), if_neg (by omega)] at hW
    have j1 := ti_ofInt (n := L) (by omega)
    have j2 := ti_ofInt (n := mrs μ (2 * (j + nn) - 1) k.toInt) (by omega)
    have j3 : (Int32.ofInt L + Int32.ofInt (mrs μ (2 * (j + nn) - 1) k.toInt)).toInt = L + mrs μ (2 * (j + nn) - 1) k.toInt := by rw [ti_add (by omega), j1, j2]
    refine ⟨ti_ext ?_, rfl⟩
    rw [ti_add (by omega), j3, e22, hW, ti_ofInt (by omega)]
  · have d := bP_ne c22
    rw [eLs] at d
    have := hnL d
    rw [i4] at c46
    rw [e22, mm] at c86
    rw [hW trivial, if_neg d, if_neg (by omega), if_pos (Or.inr c86)]
    exact ⟨rfl, rfl⟩
  · have d := bP_ne c22
    rw [eLs] at d
    have := hnL d
    rw [i4] at c46
    rw [m3] at c51
    rw [hW trivial, if_neg d, if_pos (by omega), if_neg c51]
    exact ⟨rfl, rfl⟩
  · have d := bP_ne c22
    rw [eLs] at d
    exact hcf d
  · have d := bP_ne c22
    rw [eLs] at d
    have := hnL d
    rw [i4] at c46
    rw [m3] at c51
    rw [eLs, hW trivial, if_neg d, if_pos (by omega), if_pos c51]
    exact ⟨rfl, rfl⟩
  · have d := bP_e0.mp c22
    rw [eLs, Classical.not_not] at d
    rw [hW trivial, if_pos d]
    exact ⟨rfl, rfl⟩

