/-! ===== the model: TOKENS ===== -/
def mts (μ : kMem) : Nat := (μ.1 0 2).toInt.toNat
/-- the model stands at a TOKEN -/
def mtk (μ : kMem) : Prop := mTxOk μ ∧ (0 ≤ (μ.1 0 2).toInt ∧ mts μ ≤ mn μ) ∧ (μ.1 0 3).toInt = teF (mt μ) (mn μ) (mts μ)
theorem mtk.st {μ : kMem} (h : mtk μ) : (μ.1 0 2).toInt = (mts μ : Int) := by
  have := h.2.1.1
  unfold mts
  omega
theorem mtk.te {μ : kMem} (h : mtk μ) : mts μ ≤ teF (mt μ) (mn μ) (mts μ) ∧ teF (mt μ) (mn μ) (mts μ) ≤ mn μ ∧ (mts μ < mn μ → mts μ < teF (mt μ) (mn μ) (mts μ)) := teF_b h.2.1.2
theorem mtk.sz {μ : kMem} (h : mtk μ) : (μ.1 0 3 - μ.1 0 2).toInt = ((teF (mt μ) (mn μ) (mts μ) - mts μ : Nat) : Int) := by
  have h1 := h.st
  have h2 := h.2.2
  have h3 := h.te
  have h4 := mn_i h.1
  rw [ti_sub (by omega)]
  omega
def mFr (μ μ' : kMem) : Prop := (∀ a b : Nat, ¬ (a = 0 ∧ (b = 2 ∨ b = 3)) → μ'.1 a b = μ.1 a b) ∧ μ'.2 = μ.2
theorem mFr.tx {μ μ' : kMem} (h : mFr μ μ') : mt μ' = mt μ ∧ mn μ' = mn μ ∧ (mTxOk μ → mTxOk μ') := mt_same (h.1 0 1 (by omega)) (fun i => h.1 1 i (by omega))
/-- one TOKEN on -/
def mNx (μ μ' : kMem) : Prop := (μ'.1 0 2).toInt = skF (mt μ) (mn μ) (μ.1 0 3).toInt.toNat ∧ (μ'.1 0 3).toInt = teF (mt μ) (mn μ) (skF (mt μ) (mn μ) (μ.1 0 3).toInt.toNat) ∧ mFr μ μ'
theorem mNx.tk {μ μ' : kMem} (hT : mTxOk μ) (ht : 0 ≤ (μ.1 0 3).toInt ∧ (μ.1 0 3).toInt ≤ mn μ) (h : mNx μ μ') : mtk μ' ∧ mts μ' = skF (mt μ) (mn μ) (μ.1 0 3).toInt.toNat ∧ mt μ' = mt μ ∧ mn μ' = mn μ := by
  obtain ⟨h1, h2, h3⟩ := h
  obtain ⟨a, b, c⟩ := h3.tx
  have hs := skF_b (t := mt μ) (n := mn μ) (i := (μ.1 0 3).toInt.toNat) (by omega)
  have e : mts μ' = skF (mt μ) (mn μ) (μ.1 0 3).toInt.toNat := by unfold mts; rw [h1, Int.toNat_natCast]
  refine ⟨⟨c hT, ⟨by omega, by rw [e, b]; exact hs.2⟩, ?_⟩, e, a, b⟩
  rw [a, b, e]
  exact h2
theorem mck1 {μ : kMem} (h : mTxOk μ) (i : Nat) : (97 ≤ (μ.1 1 i).toInt ∧ (μ.1 1 i).toInt ≤ 122) ↔ ckF (mt μ i) = 1 := by
  rw [ckF_1]
  exact mt_in h i (by decide) (by decide)
theorem mck2 {μ : kMem} (h : mTxOk μ) (i : Nat) : (48 ≤ (μ.1 1 i).toInt ∧ (μ.1 1 i).toInt ≤ 57) ↔ ckF (mt μ i) = 2 := by
  rw [ckF_2]
  exact mt_in h i (by decide) (by decide)
theorem ok_X12_next {μ : kMem} (h : mTxOk μ ∧ 0 ≤ (μ.1 0 3).toInt ∧ (μ.1 0 3).toInt ≤ mn μ) : kOk yX12_next cX12_next 1 (none) rmX12_next shM 48 [.ref 0] μ (kN (mNx μ)) := by
  obtain ⟨h, ht0, ht1⟩ := h
  have hn := mn_i h
  have m32 : (Int32.ofInt 32).toInt = 32 := by decide
  have m10 : (Int32.ofInt 10).toInt = 10 := by decide
  have m97 : (Int32.ofInt 97).toInt = 97 := by decide
  have m122 : (Int32.ofInt 122).toInt = 122 := by decide
  have m48 : (Int32.ofInt 48).toInt = 48 := by decide
  have m57 : (Int32.ofInt 57).toInt = 57 := by decide
  obtain ⟨t0, ht⟩ : ∃ t0 : Nat, t0 = (μ.1 0 3).toInt.toNat := ⟨_, rfl⟩
  have hsk := skF_b (t := mt μ) (n := mn μ) (i := t0) (by omega)
  refine kOk.of rfl (Nat.le_of_ble_eq_true rfl) (fun J C => ?_)
  have C : kR cX12_next RX12 1 rmX12_next shM 48 (none) _ J := C
  have run : ∀ (pc : Nat) (c : Nat) (lo hi : Int32), ((pc = 83 ∧ c = 1 ∧ lo = Int32.ofInt 97 ∧ hi = Int32.ofInt 122) ∨ (pc = 126 ∧ c = 2 ∧ lo = Int32.ofInt 48 ∧ hi = Int32.ofInt 57)) → ∀ (s k e : Nat) (μ' : kMem), e + k = mn μ → s ≤ e → s < mn μ → ckF (mt μ s) = c → (∀ i, s ≤ i → i < e → ckF (mt μ i) = c) → (μ'.1 0 2).toInt = s → (μ'.1 0 3).toInt = e → mFr μ μ' → s = skF (mt μ) (mn μ) t0 → J pc [some (.ref 0)] [] μ' := by
    intro pc c lo hi hpc s k
    induction k using Nat.strongRecOn with
    | ind k ih =>
      intro e μ' hk hse hsn hcs hI h2 h3 hF hs
      obtain ⟨x1, x2, x3⟩ := hF.tx
      have ee : (μ'.1 0 3).toInt.toNat = e := by omega
      have n1 := hF.1 0 1 (by omega)
      have t1 := hF.1 1 e (by omega)
      have hc12 : ckF (mt μ s) = 1 ∨ ckF (mt μ s) = 2 := by omega
      have fin : ¬ (e < mn μ ∧ ckF (mt μ e) = c) → mNx μ μ' := fun q => by
        have hlt : s < e := by
          rcases (show s < e ∨ s = e by omega) with w | w
          · exact w
          · subst w; exact absurd ⟨hsn, hcs⟩ q
        refine ⟨by rw [h2, hs, ht], ?_, hF⟩
        rw [h3, ← ht, ← hs, teF_is hlt (by omega) hc12 (fun i a b => by rw [hI i a b, hcs]) (by rw [hcs]; omega)]
      have go : (e < mn μ ∧ ckF (mt μ e) = c) → J pc [some (.ref 0)] [] (up μ' 0 3 (μ'.1 0 3 + Int32.ofInt 1)) := fun q => by
        refine ih (k - 1) (by omega) (e + 1) _ (by omega) (by omega) hsn hcs (fun i a b => ?_) (by simp (disch := decide) only [up_same, up_neo, up_nek, up_2]; exact h2) (by simp (disch := decide) only [up_same, up_neo, up_nek, up_2]; rw [ti_addc (by omega), h3]; omega) ⟨fun a b q => by rw [up_ne _ _ (by omega)]; exact hF.1 a b q, hF.2⟩ hs
        by_cases w : i = e
        · subst w; exact q.2
        · exact hI i a (by omega)
      rcases hpc with ⟨rfl, rfl, -, -⟩ | ⟨rfl, rfl, -, -⟩
      · refine (r_aload_n C dX12_next_83 rfl rfl (r_aload_n C dX12_next_84 rfl rfl (r_getI C dX12_next_85 fd_X12_159 nM_0 sM_0 rfl (r_bipush C dX12_next_88 (by decide +kernel) (r_bipush C dX12_next_90 (by decide +kernel) (r_v3P C yv_X12_between lk_X12_165 dX12_next_92 rfl nM_0 sM_0 rfl (Nat.le_of_ble_eq_true rfl) (ok_X12_between ?_) (r_if_eq C (tgt := 175) dX12_next_95 rfl (fun c95 => (r_ret C dX12_next_175 ?_)) (fun c95 => (r_aload_n C dX12_next_98 rfl rfl (r_dup C dX12_next_99 rfl (r_getI C dX12_next_100 fd_X12_159 nM_0 sM_0 rfl (r_iconst C dX12_next_103 (r_iadd C dX12_next_104 (r_putI C dX12_next_105 fw_X12_159 nM_0 sM_0 rfl (r_goto C (tgt := 83) dX12_next_108 rfl ?_)))))))))))))))
        · exact ⟨x3 h, by omega⟩
        · have q := bP_e0.mp c95
          rw [ee, n1, t1, m97, m122, mck1 h] at q
          exact fin (fun z => q ⟨by omega, z.2⟩)
        · have q := bP_ne c95
          rw [ee, n1, t1, m97, m122, mck1 h] at q
          exact go ⟨by omega, q.2⟩
      · refine (r_aload_n C dX12_next_126 rfl rfl (r_aload_n C dX12_next_127 rfl rfl (r_getI C dX12_next_128 fd_X12_159 nM_0 sM_0 rfl (r_bipush C dX12_next_131 (by decide +kernel) (r_bipush C dX12_next_133 (by decide +kernel) (r_v3P C yv_X12_between lk_X12_165 dX12_next_135 rfl nM_0 sM_0 rfl (Nat.le_of_ble_eq_true rfl) (ok_X12_between ?_) (r_if_eq C (tgt := 175) dX12_next_138 rfl (fun c138 => (r_ret C dX12_next_175 ?_)) (fun c138 => (r_aload_n C dX12_next_141 rfl rfl (r_dup C dX12_next_142 rfl (r_getI C dX12_next_143 fd_X12_159 nM_0 sM_0 rfl (r_iconst C dX12_next_146 (r_iadd C dX12_next_147 (r_putI C dX12_next_148 fw_X12_159 nM_0 sM_0 rfl (r_goto C (tgt := 126) dX12_next_151 rfl ?_)))))))))))))))
        · exact ⟨x3 h, by omega⟩
        · have q := bP_e0.mp c138
          rw [ee, n1, t1, m48, m57, mck2 h] at q
          exact fin (fun z => q ⟨by omega, z.2⟩)
        · have q := bP_ne c138
          rw [ee, n1, t1, m48, m57, mck2 h] at q
          exact go ⟨by omega, q.2⟩
  have skip : ∀ (k j : Nat) (μ' : kMem), j + k = mn μ → t0 ≤ j → (μ'.1 0 2).toInt = j → mFr μ μ' → (∀ i, t0 ≤ i → i < j → mt μ i = 32 ∨ mt μ i = 10) → J 8 [some (.ref 0)] [] μ' := by
    intro k
    induction k using Nat.strongRecOn with
    | ind k ih =>
      intro j μ' hk htj h2 hF hI
      obtain ⟨x1, x2, x3⟩ := hF.tx
      have ej : (μ'.1 0 2).toInt.toNat = j := by omega
      have n1 := hF.1 0 1 (by omega)
      have t1 := hF.1 1 j (by omega)
      have v32 := mt_is h j (c := 32) (by decide)
      have v10 := mt_is h j (c := 10) (by decide)
      have go : j < mn μ → (mt μ j = 32 ∨ mt μ j = 10) → J 8 [some (.ref 0)] [] (up μ' 0 2 (μ'.1 0 2 + Int32.ofInt 1)) := fun q1 q2 => by
        refine ih (k - 1) (by omega) (j + 1) _ (by omega) (by omega) (by simp (disch := decide) only [up_same, up_neo, up_nek, up_2]; rw [ti_addc (by omega), h2]; omega) ⟨fun a b q => by rw [up_ne _ _ (by omega)]; exact hF.1 a b q, hF.2⟩ (fun i a b => ?_)
        by_cases w : i = j
        · subst w; exact q2
        · exact hI i a (by omega)
      have stop : (j = mn μ ∨ ¬ (mt μ j = 32 ∨ mt μ j = 10)) → J 60 [some (.ref 0)] [] μ' := fun q => by
        have es : j = skF (mt μ) (mn μ) t0 := (skF_is htj (by omega) hI q).symm
        have hF2 : mFr μ (up μ' 0 3 (μ'.1 0 2)) := ⟨fun a b q => by rw [up_ne _ _ (by omega)]; exact hF.1 a b q, hF.2⟩
        have e2 : ((up μ' 0 3 (μ'.1 0 2)).1 0 2).toInt = j := by simp (disch := decide) only [up_same, up_neo, up_nek, up_2]; exact h2
        have e3 : ((up μ' 0 3 (μ'.1 0 2)).1 0 3).toInt = j := by simp (disch := decide) only [up_same, up_neo, up_nek, up_2]; exact h2
        have e1n : (up μ' 0 3 (μ'.1 0 2)).1 0 1 = μ.1 0 1 := hF2.1 0 1 (by omega)
        have e1t : (up μ' 0 3 (μ'.1 0 2)).1 1 j = μ.1 1 j := hF2.1 1 j (by omega)
        have x3' := hF2.tx.2.2 h
        obtain ⟨μ2, hμ2⟩ : ∃ μ2, μ2 = up μ' 0 3 (μ'.1 0 2) := ⟨_, rfl⟩
        have e2n : (μ2.1 0 2).toInt.toNat = j := by rw [hμ2]; omega
        refine (r_aload_n C dX12_next_60 rfl rfl (r_aload_n C dX12_next_61 rfl rfl (r_getI C dX12_next_62 fd_X12_162 nM_0 sM_0 rfl (r_putI C dX12_next_65 fw_X12_159 nM_0 sM_0 rfl (r_aload_n C dX12_next_68 rfl rfl (r_aload_n C dX12_next_69 rfl rfl (r_getI C dX12_next_70 fd_X12_162 nM_0 sM_0 rfl (r_bipush C dX12_next_73 (by decide +kernel) (r_bipush C dX12_next_75 (by decide +kernel) (r_v3P C yv_X12_between lk_X12_165 dX12_next_77 rfl nM_0 sM_0 rfl (Nat.le_of_ble_eq_true rfl) (ok_X12_between ?_) (r_if_eq C (tgt := 111) dX12_next_80 rfl (fun c80 => (r_aload_n C dX12_next_111 rfl rfl (r_aload_n C dX12_next_112 rfl rfl (r_getI C dX12_next_113 fd_X12_162 nM_0 sM_0 rfl (r_bipush C dX12_next_116 (by decide +kernel) (r_bipush C dX12_next_118 (by decide +kernel) (r_v3P C yv_X12_between lk_X12_165 dX12_next_120 rfl nM_0 sM_0 rfl (Nat.le_of_ble_eq_true rfl) (ok_X12_between ?_) (r_if_eq C (tgt := 154) dX12_next_123 rfl (fun c123 => (r_aload_n C dX12_next_154 rfl rfl (r_getI C dX12_next_155 fd_X12_162 nM_0 sM_0 rfl (r_aload_n C dX12_next_158 rfl rfl (r_getI C dX12_next_159 fd_X12_147 nM_0 sM_0 rfl (r_icmp_ge C (tgt := 175) dX12_next_162 rfl (fun c162 => (r_ret C dX12_next_175 ?_)) (fun c162 => (r_aload_n C dX12_next_165 rfl rfl (r_dup C dX12_next_166 rfl (r_getI C dX12_next_167 fd_X12_159 nM_0 sM_0 rfl (r_iconst C dX12_next_170 (r_iadd C dX12_next_171 (r_putI C dX12_next_172 fw_X12_159 nM_0 sM_0 rfl (r_ret C dX12_next_175 ?_)))))))))))))) (fun c123 => ?_))))))))) (fun c80 => ?_))))))))))))
        · exact ⟨x3', by rw [e2]; omega⟩
        · exact ⟨x3', by rw [e2]; omega⟩
        · rw [← hμ2] at c80 c123 c162 ⊢ e1n e1t hF2 e2 e3
          have q1 := bP_e0.mp c80
          have q2 := bP_e0.mp c123
          rw [e2n, e1n, e1t, m97, m122, mck1 h] at q1
          rw [e2n, e1n, e1t, m48, m57, mck2 h] at q2
          rw [e1n] at c162
          refine ⟨by rw [e2, es, ht], ?_, hF2⟩
          rw [e3, ← ht, ← es, teF_hi (by omega)]
        · rw [← hμ2] at c80 c123 c162 ⊢ e1n e1t hF2 e2 e3
          have q1 := bP_e0.mp c80
          have q2 := bP_e0.mp c123
          rw [e2n, e1n, e1t, m97, m122, mck1 h] at q1
          rw [e2n, e1n, e1t, m48, m57, mck2 h] at q2
          rw [e1n] at c162
          refine ⟨by simp (disch := decide) only [up_same, up_neo, up_nek, up_2]; rw [e2, es, ht], ?_, fun a b q => by rw [up_ne _ _ (by omega)]; exact hF2.1 a b q, hF2.2⟩
          simp (disch := decide) only [up_same, up_neo, up_nek, up_2]
          rw [ti_addc (by omega), e3, ← ht, ← es, teF_one (by omega) (by omega)]
          omega
        · rw [← hμ2] at c80 c123 ⊢ e1n e1t hF2 e2 e3
          have q2 := bP_ne c123
          rw [e2n, e1n, e1t, m48, m57, mck2 h] at q2
          exact run 126 2 _ _ (Or.inr ⟨rfl, rfl, rfl, rfl⟩) j (mn μ - j) j μ2 (by omega) (Nat.le_refl _) (by omega) q2.2 (fun i a b => by omega) e2 e3 hF2 es
        · rw [← hμ2] at c80 ⊢ e1n e1t hF2 e2 e3
          have q1 := bP_ne c80
          rw [e2n, e1n, e1t, m97, m122, mck1 h] at q1
          exact run 83 1 _ _ (Or.inl ⟨rfl, rfl, rfl, rfl⟩) j (mn μ - j) j μ2 (by omega) (Nat.le_refl _) (by omega) q1.2 (fun i a b => by omega) e2 e3 hF2 es
      refine (r_aload_n C dX12_next_8 rfl rfl (r_getI C dX12_next_9 fd_X12_162 nM_0 sM_0 rfl (r_aload_n C dX12_next_12 rfl rfl (r_getI C dX12_next_13 fd_X12_147 nM_0 sM_0 rfl (r_icmp_ge C (tgt := 60) dX12_next_16 rfl (fun c16 => ?_) (fun c16 => (r_aload_n C dX12_next_19 rfl rfl (r_getR C dX12_next_20 fd_X12_9 nM_0 sM_0 rfl (r_aload_n C dX12_next_23 rfl rfl (r_getI C dX12_next_24 fd_X12_162 nM_0 sM_0 rfl (r_bald C dX12_next_27 nM_1 sM_1 ?_ (r_bipush C dX12_next_28 (by decide +kernel) (r_icmp_eq C (tgt := 47) dX12_next_30 rfl (fun c30 => (r_aload_n C dX12_next_47 rfl rfl (r_dup C dX12_next_48 rfl (r_getI C dX12_next_49 fd_X12_162 nM_0 sM_0 rfl (r_iconst C dX12_next_52 (r_iadd C dX12_next_53 (r_putI C dX12_next_54 fw_X12_162 nM_0 sM_0 rfl (r_goto C (tgt := 8) dX12_next_57 rfl ?_)))))))) (fun c30 => (r_aload_n C dX12_next_33 rfl rfl (r_getR C dX12_next_34 fd_X12_9 nM_0 sM_0 rfl (r_aload_n C dX12_next_37 rfl rfl (r_getI C dX12_next_38 fd_X12_162 nM_0 sM_0 rfl (r_bald C dX12_next_41 nM_1 sM_1 ?_ (r_bipush C dX12_next_42 (by decide +kernel) (r_icmp_ne C (tgt := 60) dX12_next_44 rfl (fun c44 => ?_) (fun c44 => (r_aload_n C dX12_next_47 rfl rfl (r_dup C dX12_next_48 rfl (r_getI C dX12_next_49 fd_X12_162 nM_0 sM_0 rfl (r_iconst C dX12_next_52 (r_iadd C dX12_next_53 (r_putI C dX12_next_54 fw_X12_162 nM_0 sM_0 rfl (r_goto C (tgt := 8) dX12_next_57 rfl ?_)))))))))))))))))))))))))))))
      · rw [n1] at c16
        exact stop (Or.inl (by omega))
      · rw [n1] at c16; omega
      · rw [n1] at c16
        rw [ej, t1, m32, v32] at c30
        exact go (by omega) (Or.inl c30)
      · rw [n1] at c16; omega
      · rw [ej, t1, m32, v32] at c30
        rw [ej, t1, m10, v10] at c44
        exact stop (Or.inr (fun z => z.elim c30 c44))
      · rw [n1] at c16
        rw [ej, t1, m10, v10] at c44
        exact go (by omega) (Or.inr c44)
  refine (r_aload_n C dX12_next_0 rfl rfl (r_aload_n C dX12_next_1 rfl rfl (r_getI C dX12_next_2 fd_X12_159 nM_0 sM_0 rfl (r_putI C dX12_next_5 fw_X12_162 nM_0 sM_0 rfl ?_))))
  refine skip (mn μ - t0) t0 _ (by omega) (Nat.le_refl _) (by simp (disch := decide) only [up_same, up_neo, up_nek, up_2]; omega) ⟨fun a b q => up_ne _ _ (by omega), rfl⟩ (fun i a b => by omega)
theorem ok_X12_passes {x : Int32} {μ : kMem} (h : (mTxOk μ ∧ 0 ≤ (μ.1 0 3).toInt ∧ (μ.1 0 3).toInt ≤ mn μ) ∧ (μ.1 0 4).toInt = -1) : kOk yX12_passes cX12_passes 2 (some .boolean) rmX12_passes shM 48 [.ref 0, .int x] μ (kI fun r μ' => (¬ x.toInt = 0 ∧ r = Int32.ofInt 1 ∧ mNx μ μ') ∨ (x.toInt = 0 ∧ r = Int32.ofInt 0 ∧ μ' = up μ 0 4 (μ.1 0 2))) := by
  have mm : (Int32.ofInt (-1)).toInt = -1 := by decide
  refine kOk.of rfl (Nat.le_of_ble_eq_true rfl) (fun J C => ?_)
  have C : kR cX12_passes RX12 2 rmX12_passes shM 48 (some .boolean) _ J := C
  refine (r_iload_n C dX12_passes_0 rfl rfl (r_if_ne C (tgt := 22) dX12_passes_1 rfl (fun c1 => (r_aload_n C dX12_passes_22 rfl rfl (r_v0N C yv_X12_next lk_X12_172 dX12_passes_23 rfl nM_0 sM_0 rfl (Nat.le_of_ble_eq_true rfl) (ok_X12_next ?_) (fun μ23 h23 => (r_iconst C dX12_passes_26 (r_zret C dX12_passes_27 rfl ?_)))))) (fun c1 => (r_aload_n C dX12_passes_4 rfl rfl (r_getI C dX12_passes_5 fd_X12_169 nM_0 sM_0 rfl (r_iconst C dX12_passes_8 (r_icmp_ne C (tgt := 20) dX12_passes_9 rfl (fun c9 => (r_iconst C dX12_passes_20 (r_zret C dX12_passes_21 rfl ?_))) (fun c9 => (r_aload_n C dX12_passes_12 rfl rfl (r_aload_n C dX12_passes_13 rfl rfl (r_getI C dX12_passes_14 fd_X12_162 nM_0 sM_0 rfl (r_putI C dX12_passes_17 fw_X12_169 nM_0 sM_0 rfl (r_iconst C dX12_passes_20 (r_zret C dX12_passes_21 rfl ?_))))))))))))))
  · exact h.1
  · exact Or.inl ⟨c1, rfl, h23⟩
  · rw [mm] at c9
    exact absurd h.2 c9
  · exact Or.inr ⟨c1, rfl, rfl⟩
theorem ok_X12_isWord {i : Int32} {μ : kMem} (h : mtk μ ∧ 0 ≤ i.toInt ∧ i.toInt < 3) : kOk yX12_isWord cX12_isWord 3 (some .boolean) rmX12_isWord shM 48 [.ref 0, .int i] μ (kP (bP (isW (mt μ) (mn μ) (mts μ) i.toInt.toNat)) μ) := by
  obtain ⟨h, hi0, hi3⟩ := h
  have hn := mn_i h.1
  have hs := h.st
  have hz := h.sz
  have hte := h.te
  obtain ⟨w, hw⟩ : ∃ w : Nat, w = i.toInt.toNat := ⟨_, rfl⟩
  have hw3 : w < 3 := by omega
  have hb := klen_b hw3
  have hpos : 0 < klen.getD w 0 := by
    rcases (show w = 0 ∨ w = 1 ∨ w = 2 by omega) with e | e | e <;> rw [e] <;> decide
  have hfirst : 97 ≤ ((kbyt.getD w []).getD 0 0).toInt ∧ ((kbyt.getD w []).getD 0 0).toInt ≤ 122 := by
    rcases (show w = 0 ∨ w = 1 ∨ w = 2 by omega) with e | e | e <;> rw [e] <;> decide
  have il := ti_ofInt (n := (klen.getD w 0 : Nat)) (by omega)
  refine kOk.of rfl (Nat.le_of_ble_eq_true rfl) (fun J C => ?_)
  have C : kR cX12_isWord RX12 3 rmX12_isWord shM 48 (some .boolean) _ J := C
  have loop : ∀ (k p : Nat) (v : Int32), p + k = klen.getD w 0 → v.toInt = ((mts μ + p : Nat) : Int) → mts μ < mn μ → teF (mt μ) (mn μ) (mts μ) - mts μ = klen.getD w 0 → (∀ q, q < p → mt μ (mts μ + q) = ((kbyt.getD w []).getD q 0).toInt) → J 39 [some (.ref 0), some (.int i), some (.int v)] [] μ := by
    intro k
    induction k using Nat.strongRecOn with
    | ind k ih =>
      intro p v hk hv hsn hsz hI
      have hte2 := h.2.2
      have ev : v.toInt.toNat = mts μ + p := by omega
      have ep : p < klen.getD w 0 → (v - μ.1 0 2).toInt = (p : Int) := fun q => by rw [ti_sub (by omega)]; omega
      have epn : p < klen.getD w 0 → (v - μ.1 0 2).toInt.toNat = p := fun q => by have := ep q; omega
      have hbk := kbyt_b (i := w) (k := p)
      have ec := mt_is h.1 (mts μ + p) (c := ((kbyt.getD w []).getD p 0).toInt) ⟨hbk.1, hbk.2.1⟩
      refine (r_iload_n C dX12_isWord_39 rfl rfl (r_aload_n C dX12_isWord_40 rfl rfl (r_getI C dX12_isWord_41 fd_X12_159 nM_0 sM_0 rfl (r_icmp_ge C (tgt := 79) dX12_isWord_44 rfl (fun c44 => (r_iconst C dX12_isWord_79 (r_zret C dX12_isWord_80 rfl ?_))) (fun c44 => (r_aload_n C dX12_isWord_47 rfl rfl (r_getR C dX12_isWord_48 fd_X12_9 nM_0 sM_0 rfl (r_iload_n C dX12_isWord_51 rfl rfl (r_bald C dX12_isWord_52 nM_1 sM_1 ?_ (r_aload_n C dX12_isWord_53 rfl rfl (r_getR C dX12_isWord_54 fd_X12_41 nM_0 sM_0 rfl (r_iload_n C dX12_isWord_57 rfl rfl (r_aald C dX12_isWord_58 nM_13 (by decide) sM_13 ?_ rfl (r_iload_n C dX12_isWord_59 rfl rfl (r_aload_n C dX12_isWord_60 rfl rfl (r_getI C dX12_isWord_61 fd_X12_162 nM_0 sM_0 rfl (r_isub C dX12_isWord_64 (r_t1P C yv_J0_charAt_5068e rfl lk_X12_179 dX12_isWord_65 rfl ?_ (Nat.le_of_ble_eq_true rfl) (ok_J0_charAt_5068e_M ?_) (r_icmp_eq C (tgt := 73) dX12_isWord_68 rfl (fun c68 => (r_iinc C dX12_isWord_73 rfl (by decide) (r_goto C (tgt := 39) dX12_isWord_76 rfl ?_))) (fun c68 => (r_iconst C dX12_isWord_71 (r_zret C dX12_isWord_72 rfl ?_))))))))))))))))))))))
      · have ek : p = klen.getD w 0 := by omega
        refine ⟨bP_1 ?_, rfl⟩
        rw [← hw]
        refine ⟨?_, hsz, fun q hq => hI q (by omega)⟩
        have q0 := hI 0 (by omega)
        rw [kdF_lt hsn, ckF_1]
        have : mt μ (mts μ + 0) = mt μ (mts μ) := rfl
        omega
      · omega
      · exact ⟨hi0, hi3⟩
      · omega
      · rw [← hw, ep (by omega)]
        exact ⟨hw3, by omega, by omega⟩
      · have hpk : p < klen.getD w 0 := by omega
        rw [ev, ← hw, epn hpk, ec] at c68
        refine ih (k - 1) (by omega) (p + 1) _ (by omega) (by simp (disch := (first | omega | (simp (disch := omega) only [ti_ofInt, ti_addc, ti_subc, ti_mulc, ti_cmul, ti_divc, ti_remc, ti_zero, ti_add, ti_sub, ti_neg, if_lt_ti, if_gt_ti, bP_e0, Classical.not_not, tl_i2l]; omega))) only [ti_ofInt, ti_addc, ti_subc, ti_mulc, ti_cmul, ti_divc, ti_remc, ti_zero, ti_add, ti_sub, ti_neg, if_lt_ti, if_gt_ti, bP_e0, Classical.not_not, tl_i2l]; omega) hsn hsz (fun q hq => ?_)
        by_cases e : q = p
        · subst e; exact c68
        · exact hI q (by omega)
      · have hpk : p < klen.getD w 0 := by omega
        rw [ev, ← hw, epn hpk, ec] at c68
        exact ⟨bP_0 (fun z => by rw [← hw] at z; exact c68 (z.2.2 p hpk)), rfl⟩
  refine (r_aload_n C dX12_isWord_0 rfl rfl (r_getI C dX12_isWord_1 fd_X12_162 nM_0 sM_0 rfl (r_aload_n C dX12_isWord_4 rfl rfl (r_getI C dX12_isWord_5 fd_X12_147 nM_0 sM_0 rfl (r_icmp_eq C (tgt := 32) dX12_isWord_8 rfl (fun c8 => (r_iconst C dX12_isWord_32 (r_zret C dX12_isWord_33 rfl ?_))) (fun c8 => (r_aload_n C dX12_isWord_11 rfl rfl (r_getI C dX12_isWord_12 fd_X12_159 nM_0 sM_0 rfl (r_aload_n C dX12_isWord_15 rfl rfl (r_getI C dX12_isWord_16 fd_X12_162 nM_0 sM_0 rfl (r_isub C dX12_isWord_19 (r_aload_n C dX12_isWord_20 rfl rfl (r_getR C dX12_isWord_21 fd_X12_41 nM_0 sM_0 rfl (r_iload_n C dX12_isWord_24 rfl rfl (r_aald C dX12_isWord_25 nM_13 (by decide) sM_13 ?_ rfl (r_t0P C yv_J0_length_8abf5 rfl lk_X12_175 dX12_isWord_26 rfl ?_ (Nat.le_of_ble_eq_true rfl) (ok_J0_length_8abf5_M ?_) (r_icmp_eq C (tgt := 34) dX12_isWord_29 rfl (fun c29 => (r_aload_n C dX12_isWord_34 rfl rfl (r_getI C dX12_isWord_35 fd_X12_162 nM_0 sM_0 rfl (r_istore_n C dX12_isWord_38 rfl (by decide) ?_)))) (fun c29 => (r_iconst C dX12_isWord_32 (r_zret C dX12_isWord_33 rfl ?_))))))))))))))))))))
  · refine ⟨bP_0 (fun z => ?_), rfl⟩
    have q := kdF_pos z.1 (by decide)
    omega
  · exact ⟨hi0, hi3⟩
  · omega
  · omega
  · rw [← hw, hz, il] at c29
    exact loop (klen.getD w 0) 0 _ (by omega) (by omega) (by omega) (by omega) (fun q hq => absurd hq (Nat.not_lt_zero _))
  · rw [← hw, hz, il] at c29
    exact ⟨bP_0 (fun z => by rw [← hw] at z; have := z.2.1; omega), rfl⟩
theorem ok_X12_closes {μ : kMem} (h : mtk μ ∧ (μ.1 0 4).toInt = -1) : kOk yX12_closes cX12_closes 1 (some .boolean) rmX12_closes shM 48 [.ref 0] μ (kI fun r μ' => (kdF (mt μ) (mn μ) (mts μ) = 3 ∧ r = Int32.ofInt 1 ∧ mNx μ μ') ∨ (¬ kdF (mt μ) (mn μ) (mts μ) = 3 ∧ r = Int32.ofInt 0 ∧ μ' = up μ 0 4 (μ.1 0 2))) := by
  obtain ⟨h, hf⟩ := h
  have hn := mn_i h.1
  have hs := h.st
  have hte := h.te
  have e2 := h.2.2
  have m59 : (Int32.ofInt 59).toInt = 59 := by decide
  have z0 : (Int32.ofInt 0).toInt = 0 := by decide
  have es : (μ.1 0 2).toInt.toNat = mts μ := rfl
  have e59 := mt_is h.1 (mts μ) (c := 59) (by decide)
  have hp : (mTxOk μ ∧ 0 ≤ (μ.1 0 3).toInt ∧ (μ.1 0 3).toInt ≤ mn μ) ∧ (μ.1 0 4).toInt = -1 := ⟨⟨h.1, by omega, by omega⟩, hf⟩
  have k3 : kdF (mt μ) (mn μ) (mts μ) = 3 ↔ (mts μ < mn μ ∧ mt μ (mts μ) = 59) := ⟨fun q => by
    have q2 := kdF_pos q (by decide)
    exact ⟨q2.1, ckF_3.mp q2.2⟩, fun q => by rw [kdF_lt q.1]; exact ckF_3.mpr q.2⟩
  have nz : ∀ {x r : Int32} {μ' : kMem}, ((¬ x.toInt = 0 ∧ r = Int32.ofInt 1 ∧ mNx μ μ') ∨ (x.toInt = 0 ∧ r = Int32.ofInt 0 ∧ μ' = up μ 0 4 (μ.1 0 2))) → narrow .boolean (.int r) = .int r := fun q => two_nz (q.elim (fun q => Or.inl q.2.1) (fun q => Or.inr q.2.1))
  have no : ∀ {r : Int32} {μ' : kMem}, ((¬ (Int32.ofInt 0).toInt = 0 ∧ r = Int32.ofInt 1 ∧ mNx μ μ') ∨ ((Int32.ofInt 0).toInt = 0 ∧ r = Int32.ofInt 0 ∧ μ' = up μ 0 4 (μ.1 0 2))) → ¬ kdF (mt μ) (mn μ) (mts μ) = 3 → (kdF (mt μ) (mn μ) (mts μ) = 3 ∧ r = Int32.ofInt 1 ∧ mNx μ μ') ∨ (¬ kdF (mt μ) (mn μ) (mts μ) = 3 ∧ r = Int32.ofInt 0 ∧ μ' = up μ 0 4 (μ.1 0 2)) := fun q q2 => q.elim (fun q => absurd z0 q.1) (fun q => Or.inr ⟨q2, q.2⟩)
  refine kOk.of rfl (Nat.le_of_ble_eq_true rfl) (fun J C => ?_)
  have C : kR cX12_closes RX12 1 rmX12_closes shM 48 (some .boolean) _ J := C
  refine (r_aload_n C dX12_closes_0 rfl rfl (r_aload_n C dX12_closes_1 rfl rfl (r_getI C dX12_closes_2 fd_X12_162 nM_0 sM_0 rfl (r_aload_n C dX12_closes_5 rfl rfl (r_getI C dX12_closes_6 fd_X12_147 nM_0 sM_0 rfl (r_icmp_ge C (tgt := 30) dX12_closes_9 rfl (fun c9 => (r_iconst C dX12_closes_30 (r_v1I C yv_X12_passes lk_X12_183 dX12_closes_31 rfl nM_0 sM_0 rfl (Nat.le_of_ble_eq_true rfl) (ok_X12_passes ?_) (fun r31 μ31 h31 => (r_zret C dX12_closes_34 ?_ ?_))))) (fun c9 => (r_aload_n C dX12_closes_12 rfl rfl (r_getR C dX12_closes_13 fd_X12_9 nM_0 sM_0 rfl (r_aload_n C dX12_closes_16 rfl rfl (r_getI C dX12_closes_17 fd_X12_162 nM_0 sM_0 rfl (r_bald C dX12_closes_20 nM_1 sM_1 ?_ (r_bipush C dX12_closes_21 (by decide +kernel) (r_icmp_ne C (tgt := 30) dX12_closes_23 rfl (fun c23 => (r_iconst C dX12_closes_30 (r_v1I C yv_X12_passes lk_X12_183 dX12_closes_31 rfl nM_0 sM_0 rfl (Nat.le_of_ble_eq_true rfl) (ok_X12_passes ?_) (fun r31 μ31 h31 => (r_zret C dX12_closes_34 ?_ ?_))))) (fun c23 => (r_iconst C dX12_closes_26 (r_goto C (tgt := 31) dX12_closes_27 rfl (r_v1I C yv_X12_passes lk_X12_183 dX12_closes_31 rfl nM_0 sM_0 rfl (Nat.le_of_ble_eq_true rfl) (ok_X12_passes ?_) (fun r31 μ31 h31 => (r_zret C dX12_closes_34 ?_ ?_))))))))))))))))))))
  · exact hp
  · exact nz h31
  · exact no h31 (fun z => by have := k3.mp z; omega)
  · omega
  · exact hp
  · exact nz h31
  · rw [es, m59, e59] at c23
    exact no h31 (fun z => c23 (k3.mp z).2)
  · exact hp
  · exact nz h31
  · rw [es, m59, e59] at c23
    exact h31.elim (fun q => Or.inl ⟨k3.mpr ⟨by omega, c23⟩, q.2⟩) (fun q => absurd q.1 (by decide))
def lBm (μ : kMem) : Prop := mkOk (mt μ) (mn μ) (mts μ) ∧ ∀ l, l < 26 → ¬ (μ.1 4 l).toInt = numF (mt μ) (mts μ) (teF (mt μ) (mn μ) (mts μ) - mts μ)
noncomputable def mmV (μ : kMem) : Int := @ite _ (lBm μ) (Classical.propDecidable _) (numF (mt μ) (mts μ) (teF (mt μ) (mn μ) (mts μ) - mts μ)) (-1)
theorem ok_X12_marksHere {μ : kMem} (h : mtk μ) : kOk yX12_marksHere cX12_marksHere 3 (some .int) rmX12_marksHere shM 48 [.ref 0] μ (kP (Int32.ofInt (mmV μ)) μ) := by
  have hn := mn_i h.1
  have hs := h.st
  have hz := h.sz
  have hte := h.te
  have e2 := h.2.2
  have m5 : (Int32.ofInt 5).toInt = 5 := by decide
  have m26 : (Int32.ofInt 26).toInt = 26 := by decide
  have m48 : (Int32.ofInt 48).toInt = 48 := by decide
  have m49 : (Int32.ofInt 49).toInt = 49 := by decide
  have m50 : (Int32.ofInt 50).toInt = 50 := by decide
  have m57 : (Int32.ofInt 57).toInt = 57 := by decide
  have es : (μ.1 0 2).toInt.toNat = mts μ := rfl
  have k2 : kdF (mt μ) (mn μ) (mts μ) = 2 ↔ (mts μ < mn μ ∧ ckF (mt μ (mts μ)) = 2) := ⟨fun q => kdF_pos q (by decide), fun q => by rw [kdF_lt q.1]; exact q.2⟩
  have bad : ¬ lBm μ → Int32.ofInt (-1) = Int32.ofInt (mmV μ) := fun q => by unfold mmV; rw [if_neg q]
  refine kOk.of rfl (Nat.le_of_ble_eq_true rfl) (fun J C => ?_)
  have C : kR cX12_marksHere RX12 3 rmX12_marksHere shM 48 (some .int) _ J := C
  have last : ∀ (acc : Int32), mkOk (mt μ) (mn μ) (mts μ) → acc.toInt = numF (mt μ) (mts μ) (teF (mt μ) (mn μ) (mts μ) - mts μ) → ∀ (k l : Nat) (v : Int32), l + k = 26 → v.toInt = l → (∀ j, j < l → ¬ (μ.1 4 j).toInt = acc.toInt) → J 82 [some (.ref 0), some (.int acc), some (.int v)] [] μ := by
    intro acc hok hacc k
    induction k using Nat.strongRecOn with
    | ind k ih =>
      intro l v hk hv hI
      have ev : v.toInt.toNat = l := by omega
      refine (r_iload_n C dX12_marksHere_82 rfl rfl (r_bipush C dX12_marksHere_83 (by decide +kernel) (r_icmp_ge C (tgt := 108) dX12_marksHere_85 rfl (fun c85 => (r_iload_n C dX12_marksHere_108 rfl rfl (r_iret C dX12_marksHere_109 ?_))) (fun c85 => (r_aload_n C dX12_marksHere_88 rfl rfl (r_getR C dX12_marksHere_89 fd_X12_15 nM_0 sM_0 rfl (r_iconst C dX12_marksHere_92 (r_aald C (r := 4) dX12_marksHere_93 nM_2 (by decide) sM_2 (by decide) (by decide) (r_iload_n C dX12_marksHere_94 rfl rfl (r_iald C dX12_marksHere_95 nM_4 sM_4 ?_ (r_iload_n C dX12_marksHere_96 rfl rfl (r_icmp_ne C (tgt := 102) dX12_marksHere_97 rfl (fun c97 => (r_iinc C dX12_marksHere_102 rfl (by decide) (r_goto C (tgt := 82) dX12_marksHere_105 rfl ?_))) (fun c97 => (r_iconst C dX12_marksHere_100 (r_iret C dX12_marksHere_101 ?_)))))))))))))))
      · rw [m26] at c85
        refine ⟨ti_ext ?_, rfl⟩
        have hl : lBm μ := ⟨hok, fun j hj => by rw [← hacc]; exact hI j (by omega)⟩
        unfold mmV
        rw [if_pos hl, ← hacc, ti_ofInt ⟨ti_lo acc, ti_hi acc⟩]
      · rw [m26] at c85; omega
      · rw [m26] at c85
        rw [ev] at c97
        refine ih (k - 1) (by omega) (l + 1) _ (by omega) (by simp (disch := (first | omega | (simp (disch := omega) only [ti_ofInt, ti_addc, ti_subc, ti_mulc, ti_cmul, ti_divc, ti_remc, ti_zero, ti_add, ti_sub, ti_neg, if_lt_ti, if_gt_ti, bP_e0, Classical.not_not, tl_i2l]; omega))) only [ti_ofInt, ti_addc, ti_subc, ti_mulc, ti_cmul, ti_divc, ti_remc, ti_zero, ti_add, ti_sub, ti_neg, if_lt_ti, if_gt_ti, bP_e0, Classical.not_not, tl_i2l]; omega) (fun j hj => ?_)
        by_cases e : j = l
        · subst e; exact c97
        · exact hI j (by omega)
      · rw [m26] at c85
        rw [ev] at c97
        exact ⟨bad (fun z => z.2 l (by omega) (by rw [← hacc]; exact c97)), rfl⟩
  have loop : ∀ (k p : Nat) (u v : Int32), p + k = teF (mt μ) (mn μ) (mts μ) - mts μ → kdF (mt μ) (mn μ) (mts μ) = 2 → teF (mt μ) (mn μ) (mts μ) - mts μ ≤ 5 → v.toInt = ((mts μ + p : Nat) : Int) → u.toInt = numF (mt μ) (mts μ) p → (∀ q, q < p → mt μ (mts μ + q) = 49 ∨ mt μ (mts μ + q) = 50) → J 37 [some (.ref 0), some (.int u), some (.int v)] [] μ := by
    intro k
    induction k using Nat.strongRecOn with
    | ind k ih =>
      intro p u v hk hk2 hk5 hv hu hI
      have ev : v.toInt.toNat = mts μ + p := by omega
      have hnb := numF_5 (t := mt μ) (j := mts μ) (k := p) (by omega) hI
      have eu : (Int32.ofInt 10 * u).toInt = 10 * numF (mt μ) (mts μ) p := by rw [ti_cmul (by omega), hu]
      have ein := mt_in h.1 (mts μ + p) (lo := 49) (hi := 50) (by decide) (by decide)
      refine (r_iload_n C dX12_marksHere_37 rfl rfl (r_aload_n C dX12_marksHere_38 rfl rfl (r_getI C dX12_marksHere_39 fd_X12_159 nM_0 sM_0 rfl (r_icmp_ge C (tgt := 80) dX12_marksHere_42 rfl (fun c42 => (r_iconst C dX12_marksHere_80 (r_istore_n C dX12_marksHere_81 rfl (by decide) ?_))) (fun c42 => (r_aload_n C dX12_marksHere_45 rfl rfl (r_iload_n C dX12_marksHere_46 rfl rfl (r_bipush C dX12_marksHere_47 (by decide +kernel) (r_bipush C dX12_marksHere_49 (by decide +kernel) (r_v3P C yv_X12_between lk_X12_165 dX12_marksHere_51 rfl nM_0 sM_0 rfl (Nat.le_of_ble_eq_true rfl) (ok_X12_between ?_) (r_if_ne C (tgt := 59) dX12_marksHere_54 rfl (fun c54 => (r_bipush C dX12_marksHere_59 (by decide +kernel) (r_iload_n C dX12_marksHere_61 rfl rfl (r_imul C dX12_marksHere_62 (r_aload_n C dX12_marksHere_63 rfl rfl (r_getR C dX12_marksHere_64 fd_X12_9 nM_0 sM_0 rfl (r_iload_n C dX12_marksHere_67 rfl rfl (r_bald C dX12_marksHere_68 nM_1 sM_1 ?_ (r_iadd C dX12_marksHere_69 (r_bipush C dX12_marksHere_70 (by decide +kernel) (r_isub C dX12_marksHere_72 (r_istore_n C dX12_marksHere_73 rfl (by decide) (r_iinc C dX12_marksHere_74 rfl (by decide) (r_goto C (tgt := 37) dX12_marksHere_77 rfl ?_)))))))))))))) (fun c54 => (r_iconst C dX12_marksHere_57 (r_iret C dX12_marksHere_58 ?_))))))))))))))
      · have ep : p = teF (mt μ) (mn μ) (mts μ) - mts μ := by omega
        have hok : mkOk (mt μ) (mn μ) (mts μ) := ⟨hk2, hk5, fun q a b => by
          have := hI (q - mts μ) (by omega)
          rwa [show mts μ + (q - mts μ) = q by omega] at this⟩
        exact last u hok (by rw [hu, ep]) 26 0 _ rfl (by simp (disch := (first | omega | (simp (disch := omega) only [ti_ofInt, ti_addc, ti_subc, ti_mulc, ti_cmul, ti_divc, ti_remc, ti_zero, ti_add, ti_sub, ti_neg, if_lt_ti, if_gt_ti, bP_e0, Classical.not_not, tl_i2l]; omega))) only [ti_ofInt, ti_addc, ti_subc, ti_mulc, ti_cmul, ti_divc, ti_remc, ti_zero, ti_add, ti_sub, ti_neg, if_lt_ti, if_gt_ti, bP_e0, Classical.not_not, tl_i2l]; rfl) (fun j hj => absurd hj (Nat.not_lt_zero _))
      · exact ⟨h.1, by omega⟩
      · omega
      · have q := bP_ne c54
        rw [ev, m49, m50, ein] at q
        have hb := h.1.2 (mts μ + p)
        have ed : (μ.1 1 (mts μ + p)).toInt = mt μ (mts μ + p) := by unfold mt; omega
        have e1 : (Int32.ofInt 10 * u + μ.1 1 v.toInt.toNat).toInt = 10 * numF (mt μ) (mts μ) p + mt μ (mts μ + p) := by rw [ev, ti_add (by omega), eu, ed]
        refine ih (k - 1) (by omega) (p + 1) _ _ (by omega) hk2 hk5 (by simp (disch := (first | omega | (simp (disch := omega) only [ti_ofInt, ti_addc, ti_subc, ti_mulc, ti_cmul, ti_divc, ti_remc, ti_zero, ti_add, ti_sub, ti_neg, if_lt_ti, if_gt_ti, bP_e0, Classical.not_not, tl_i2l]; omega))) only [ti_ofInt, ti_addc, ti_subc, ti_mulc, ti_cmul, ti_divc, ti_remc, ti_zero, ti_add, ti_sub, ti_neg, if_lt_ti, if_gt_ti, bP_e0, Classical.not_not, tl_i2l]; omega) ?_ (fun j hj => ?_)
        · rw [ti_subc (by omega), e1]
          show _ = numF (mt μ) (mts μ) p * 10 + (mt μ (mts μ + p) - 48)
          omega
        · by_cases e : j = p
          · subst e; omega
          · exact hI j (by omega)
      · have q := bP_e0.mp c54
        rw [ev, m49, m50, ein] at q
        refine ⟨bad (fun z => ?_), rfl⟩
        have := z.1.2.2 (mts μ + p) (by omega) (by omega)
        exact q ⟨by omega, by omega⟩
  refine (r_aload_n C dX12_marksHere_0 rfl rfl (r_aload_n C dX12_marksHere_1 rfl rfl (r_getI C dX12_marksHere_2 fd_X12_162 nM_0 sM_0 rfl (r_bipush C dX12_marksHere_5 (by decide +kernel) (r_bipush C dX12_marksHere_7 (by decide +kernel) (r_v3P C yv_X12_between lk_X12_165 dX12_marksHere_9 rfl nM_0 sM_0 rfl (Nat.le_of_ble_eq_true rfl) (ok_X12_between ?_) (r_if_eq C (tgt := 28) dX12_marksHere_12 rfl (fun c12 => (r_iconst C dX12_marksHere_28 (r_iret C dX12_marksHere_29 ?_))) (fun c12 => (r_aload_n C dX12_marksHere_15 rfl rfl (r_getI C dX12_marksHere_16 fd_X12_159 nM_0 sM_0 rfl (r_aload_n C dX12_marksHere_19 rfl rfl (r_getI C dX12_marksHere_20 fd_X12_162 nM_0 sM_0 rfl (r_isub C dX12_marksHere_23 (r_iconst C dX12_marksHere_24 (r_icmp_le C (tgt := 30) dX12_marksHere_25 rfl (fun c25 => (r_iconst C dX12_marksHere_30 (r_istore_n C dX12_marksHere_31 rfl (by decide) (r_aload_n C dX12_marksHere_32 rfl rfl (r_getI C dX12_marksHere_33 fd_X12_162 nM_0 sM_0 rfl (r_istore_n C dX12_marksHere_36 rfl (by decide) ?_)))))) (fun c25 => (r_iconst C dX12_marksHere_28 (r_iret C dX12_marksHere_29 ?_))))))))))))))))))
  · exact ⟨h.1, by omega⟩
  · have q := bP_e0.mp c12
    rw [es, m48, m57, mck2 h.1] at q
    exact ⟨bad (fun z => by have := k2.mp z.1.1; exact q ⟨by omega, this.2⟩), rfl⟩
  · have q := bP_ne c12
    rw [es, m48, m57, mck2 h.1] at q
    rw [hz, m5] at c25
    exact loop (teF (mt μ) (mn μ) (mts μ) - mts μ) 0 _ _ (by omega) (k2.mpr ⟨by omega, q.2⟩) (by omega) (by omega) (by simp (disch := (first | omega | (simp (disch := omega) only [ti_ofInt, ti_addc, ti_subc, ti_mulc, ti_cmul, ti_divc, ti_remc, ti_zero, ti_add, ti_sub, ti_neg, if_lt_ti, if_gt_ti, bP_e0, Classical.not_not, tl_i2l]; omega))) only [ti_ofInt, ti_addc, ti_subc, ti_mulc, ti_cmul, ti_divc, ti_remc, ti_zero, ti_add, ti_sub, ti_neg, if_lt_ti, if_gt_ti, bP_e0, Classical.not_not, tl_i2l]; rfl) (fun q hq => absurd hq (Nat.not_lt_zero _))
  · rw [hz, m5] at c25
    exact ⟨bad (fun z => by have := z.1.2.1; omega), rfl⟩

