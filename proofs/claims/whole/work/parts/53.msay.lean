/-! ===== the model: sayings ===== -/
def mt (μ : kMem) : Nat → Int := fun i => (μ.1 1 i).toInt % 256
def mn (μ : kMem) : Nat := (μ.1 0 1).toInt.toNat
theorem mn_i {μ : kMem} (h : mTxOk μ) : (mn μ : Int) = (μ.1 0 1).toInt ∧ mn μ ≤ 500 := by
  have := h.1
  unfold mn
  omega
theorem mt_in {μ : kMem} (h : mTxOk μ) (i : Nat) {lo hi : Int} (h0 : 0 ≤ lo) (h1 : hi ≤ 127) : (lo ≤ (μ.1 1 i).toInt ∧ (μ.1 1 i).toInt ≤ hi) ↔ (lo ≤ mt μ i ∧ mt μ i ≤ hi) := by
  have := h.2 i
  unfold mt
  omega
theorem mt_is {μ : kMem} (h : mTxOk μ) (i : Nat) {c : Int} (h0 : 0 ≤ c ∧ c ≤ 127) : (μ.1 1 i).toInt = c ↔ mt μ i = c := by
  have := h.2 i
  unfold mt
  omega
theorem mt_same {μ μ' : kMem} (h1 : μ'.1 0 1 = μ.1 0 1) (h2 : ∀ i : Nat, μ'.1 1 i = μ.1 1 i) : mt μ' = mt μ ∧ mn μ' = mn μ ∧ (mTxOk μ → mTxOk μ') := by
  refine ⟨funext fun i => by unfold mt; rw [h2], by unfold mn; rw [h1], fun h => ⟨by rw [h1]; exact h.1, fun i => by rw [h2]; exact h.2 i⟩⟩
theorem ok_X12_isSaying {μ : kMem} (h : mTxOk μ) : kOk yX12_isSaying cX12_isSaying 3 (some .boolean) rmX12_isSaying shM 48 [.ref 0] μ (kP (bP (isSay (mn μ) (mt μ))) μ) := by
  have h0 := h.1
  have hn := mn_i h
  have z0 : (Int32.ofInt 0).toInt = 0 := by decide
  have m32 : (Int32.ofInt 32).toInt = 32 := by decide
  have m97 : (Int32.ofInt 97).toInt = 97 := by decide
  have m122 : (Int32.ofInt 122).toInt = 122 := by decide
  have em1 : (μ.1 0 1 - Int32.ofInt 1).toInt = (μ.1 0 1).toInt - 1 := ti_subc (by omega)
  refine kOk.of rfl (Nat.le_of_ble_eq_true rfl) (fun J C => ?_)
  have C : kR cX12_isSaying RX12 3 rmX12_isSaying shM 48 (some .boolean) _ J := C
  have loop : ∀ (k i : Nat) (v : Int32) (z : Option Value), i + k = mn μ → v.toInt = i → (∀ j, j < i → isLt (mt μ j) ∨ (mt μ j = 32 ∧ 0 < j ∧ j + 1 < mn μ ∧ isLt (mt μ (j - 1)))) → J 2 [some (.ref 0), some (.int v), z] [] μ := by
    intro k
    induction k using Nat.strongRecOn with
    | ind k ih =>
      intro i v z hk hv hI
      have ev : v.toInt.toNat = i := by omega
      have e32 := mt_is h i (c := 32) (by decide)
      have eL := mt_in h i (lo := 97) (hi := 122) (by decide) (by decide)
      have ev1 : 0 < i → (v - Int32.ofInt 1).toInt = (i : Int) - 1 := fun q => by rw [ti_subc (by omega), hv]
      have ev2 : 0 < i → (v - Int32.ofInt 1).toInt.toNat = i - 1 := fun q => by rw [ev1 q]; omega
      have no : (i < mn μ ∧ ¬ isLt (mt μ i) ∧ ¬ (mt μ i = 32 ∧ 0 < i ∧ i + 1 < mn μ ∧ isLt (mt μ (i - 1)))) → Int32.ofInt 0 = bP (isSay (mn μ) (mt μ)) := fun q => bP_0 (fun z => (z.2 i q.1).elim q.2.1 q.2.2)
      have nl : mt μ i = 32 → ¬ isLt (mt μ i) := fun q z => by unfold isLt at z; omega
      have go : (isLt (mt μ i) ∨ (mt μ i = 32 ∧ 0 < i ∧ i + 1 < mn μ ∧ isLt (mt μ (i - 1)))) → i < mn μ → ∀ z, J 2 [some (.ref 0), some (.int (v + Int32.ofInt 1)), z] [] μ := by
        intro q q2 z
        refine ih (k - 1) (by omega) (i + 1) _ _ (by omega) (by simp (disch := (first | omega | (simp (disch := omega) only [ti_ofInt, ti_addc, ti_subc, ti_mulc, ti_cmul, ti_divc, ti_remc, ti_zero, ti_add, ti_sub, ti_neg, if_lt_ti, if_gt_ti, bP_e0, Classical.not_not, tl_i2l]; omega))) only [ti_ofInt, ti_addc, ti_subc, ti_mulc, ti_cmul, ti_divc, ti_remc, ti_zero, ti_add, ti_sub, ti_neg, if_lt_ti, if_gt_ti, bP_e0, Classical.not_not, tl_i2l]; omega) (fun j hj => ?_)
        by_cases e : j = i
        · subst e; exact q
        · exact hI j (by omega)
      refine (r_iload_n C dX12_isSaying_2 rfl rfl (r_aload_n C dX12_isSaying_3 rfl rfl (r_getI C dX12_isSaying_4 fd_X12_147 nM_0 sM_0 rfl (r_icmp_ge C (tgt := 84) dX12_isSaying_7 rfl (fun c7 => (r_aload_n C dX12_isSaying_84 rfl rfl (r_getI C dX12_isSaying_85 fd_X12_147 nM_0 sM_0 rfl (r_if_le C (tgt := 95) dX12_isSaying_88 rfl (fun c88 => (r_iconst C dX12_isSaying_95 (r_zret C dX12_isSaying_96 rfl ?_))) (fun c88 => (r_iconst C dX12_isSaying_91 (r_goto C (tgt := 96) dX12_isSaying_92 rfl (r_zret C dX12_isSaying_96 rfl ?_)))))))) (fun c7 => (r_aload_n C dX12_isSaying_10 rfl rfl (r_getR C dX12_isSaying_11 fd_X12_9 nM_0 sM_0 rfl (r_iload_n C dX12_isSaying_14 rfl rfl (r_bald C dX12_isSaying_15 nM_1 sM_1 ?_ (r_bipush C dX12_isSaying_16 (by decide +kernel) (r_icmp_ne C (tgt := 25) dX12_isSaying_18 rfl (fun c18 => (r_iconst C dX12_isSaying_25 (r_istore_n C dX12_isSaying_26 rfl (by decide) (r_iload_n C dX12_isSaying_27 rfl rfl (r_if_ne C (tgt := 45) dX12_isSaying_28 rfl (fun c28 => absurd c28 (by decide +kernel)) (fun c28 => (r_aload_n C dX12_isSaying_31 rfl rfl (r_iload_n C dX12_isSaying_32 rfl rfl (r_bipush C dX12_isSaying_33 (by decide +kernel) (r_bipush C dX12_isSaying_35 (by decide +kernel) (r_v3P C yv_X12_between lk_X12_165 dX12_isSaying_37 rfl nM_0 sM_0 rfl (Nat.le_of_ble_eq_true rfl) (ok_X12_between ?_) (r_if_ne C (tgt := 45) dX12_isSaying_40 rfl (fun c40 => (r_iload_n C dX12_isSaying_45 rfl rfl (r_if_eq C (tgt := 78) dX12_isSaying_46 rfl (fun c46 => (r_iinc C dX12_isSaying_78 rfl (by decide) (r_goto C (tgt := 2) dX12_isSaying_81 rfl ?_))) (fun c46 => absurd c46 (by decide +kernel))))) (fun c40 => (r_iconst C dX12_isSaying_43 (r_zret C dX12_isSaying_44 rfl ?_))))))))))))))) (fun c18 => (r_iconst C dX12_isSaying_21 (r_goto C (tgt := 26) dX12_isSaying_22 rfl (r_istore_n C dX12_isSaying_26 rfl (by decide) (r_iload_n C dX12_isSaying_27 rfl rfl (r_if_ne C (tgt := 45) dX12_isSaying_28 rfl (fun c28 => (r_iload_n C dX12_isSaying_45 rfl rfl (r_if_eq C (tgt := 78) dX12_isSaying_46 rfl (fun c46 => absurd c46 (by decide +kernel)) (fun c46 => (r_iload_n C dX12_isSaying_49 rfl rfl (r_if_eq C (tgt := 76) dX12_isSaying_50 rfl (fun c50 => (r_iconst C dX12_isSaying_76 (r_zret C dX12_isSaying_77 rfl ?_))) (fun c50 => (r_iload_n C dX12_isSaying_53 rfl rfl (r_aload_n C dX12_isSaying_54 rfl rfl (r_getI C dX12_isSaying_55 fd_X12_147 nM_0 sM_0 rfl (r_iconst C dX12_isSaying_58 (r_isub C dX12_isSaying_59 (r_icmp_eq C (tgt := 76) dX12_isSaying_60 rfl (fun c60 => (r_iconst C dX12_isSaying_76 (r_zret C dX12_isSaying_77 rfl ?_))) (fun c60 => (r_aload_n C dX12_isSaying_63 rfl rfl (r_getR C dX12_isSaying_64 fd_X12_9 nM_0 sM_0 rfl (r_iload_n C dX12_isSaying_67 rfl rfl (r_iconst C dX12_isSaying_68 (r_isub C dX12_isSaying_69 (r_bald C dX12_isSaying_70 nM_1 sM_1 ?_ (r_bipush C dX12_isSaying_71 (by decide +kernel) (r_icmp_ne C (tgt := 78) dX12_isSaying_73 rfl (fun c73 => (r_iinc C dX12_isSaying_78 rfl (by decide) (r_goto C (tgt := 2) dX12_isSaying_81 rfl ?_))) (fun c73 => (r_iconst C dX12_isSaying_76 (r_zret C dX12_isSaying_77 rfl ?_))))))))))))))))))))))))) (fun c28 => absurd c28 (by decide +kernel)))))))))))))))))))
      · exact ⟨bP_0 (fun z => by have := z.1; omega), rfl⟩
      · have ei : i = mn μ := by omega
        exact ⟨bP_1 ⟨by omega, fun j hj => hI j (by omega)⟩, rfl⟩
      · omega
      · exact ⟨h, by omega⟩
      · have c := bP_ne c40
        rw [ev, m97, m122] at c
        exact go (Or.inl (eL.mp c.2)) (by omega) _
      · have c := bP_e0.mp c40
        rw [ev, m97, m122] at c
        rw [ev, m32, e32] at c18
        refine ⟨no ⟨by omega, fun z => c ⟨by omega, eL.mpr z⟩, fun z => c18 z.1⟩, rfl⟩
      · rw [ev, m32, e32] at c18
        exact ⟨no ⟨by omega, nl c18, fun z => by have := z.2.1; omega⟩, rfl⟩
      · rw [ev, m32, e32] at c18
        rw [em1] at c60
        exact ⟨no ⟨by omega, nl c18, fun z => by have := z.2.2.1; omega⟩, rfl⟩
      · rw [ev1 (by omega)]
        omega
      · rw [ev, m32, e32] at c18
        rw [em1] at c60
        rw [ev2 (by omega), m32, mt_is h (i - 1) (c := 32) (by decide)] at c73
        refine go (Or.inr ⟨c18, by omega, by omega, ?_⟩) (by omega) _
        rcases hI (i - 1) (by omega) with q | q
        · exact q
        · exact absurd q.1 c73
      · rw [ev, m32, e32] at c18
        rw [ev2 (by omega), m32, mt_is h (i - 1) (c := 32) (by decide)] at c73
        exact ⟨no ⟨by omega, nl c18, fun z => by have := z.2.2.2; unfold isLt at this; omega⟩, rfl⟩
  refine (r_iconst C dX12_isSaying_0 (r_istore_n C dX12_isSaying_1 rfl (by decide) ?_))
  exact loop (mn μ) 0 _ _ (by omega) (by simp (disch := (first | omega | (simp (disch := omega) only [ti_ofInt, ti_addc, ti_subc, ti_mulc, ti_cmul, ti_divc, ti_remc, ti_zero, ti_add, ti_sub, ti_neg, if_lt_ti, if_gt_ti, bP_e0, Classical.not_not, tl_i2l]; omega))) only [ti_ofInt, ti_addc, ti_subc, ti_mulc, ti_cmul, ti_divc, ti_remc, ti_zero, ti_add, ti_sub, ti_neg, if_lt_ti, if_gt_ti, bP_e0, Classical.not_not, tl_i2l]; rfl) (fun j q => by omega)
def mCanS (μ : kMem) : Prop := (μ.1 0 21).toInt % 2 = 1 ∧ isSay (mn μ) (mt μ)
theorem ok_X12_canSay {μ : kMem} (h : mTxOk μ ∧ 0 ≤ (μ.1 0 21).toInt) : kOk yX12_canSay cX12_canSay 1 (some .boolean) rmX12_canSay shM 48 [.ref 0] μ (kP (bP (mCanS μ)) μ) := by
  have e2 : (krem (μ.1 0 21) (Int32.ofInt 2)).toInt = (μ.1 0 21).toInt % 2 := ti_remc (by omega)
  have m1 : (Int32.ofInt 1).toInt = 1 := by decide
  refine kOk.of rfl (Nat.le_of_ble_eq_true rfl) (fun J C => ?_)
  have C : kR cX12_canSay RX12 1 rmX12_canSay shM 48 (some .boolean) _ J := C
  refine (r_aload_n C dX12_canSay_0 rfl rfl (r_getI C dX12_canSay_1 fd_X12_260 nM_0 sM_0 rfl (r_iconst C dX12_canSay_4 (r_irem C dX12_canSay_5 (by decide) (r_iconst C dX12_canSay_6 (r_icmp_ne C (tgt := 21) dX12_canSay_7 rfl (fun c7 => (r_iconst C dX12_canSay_21 (r_zret C dX12_canSay_22 rfl ?_))) (fun c7 => (r_aload_n C dX12_canSay_10 rfl rfl (r_v0P C yv_X12_isSaying lk_X12_317 dX12_canSay_11 rfl nM_0 sM_0 rfl (Nat.le_of_ble_eq_true rfl) (ok_X12_isSaying ?_) (r_if_eq C (tgt := 21) dX12_canSay_14 rfl (fun c14 => (r_iconst C dX12_canSay_21 (r_zret C dX12_canSay_22 rfl ?_))) (fun c14 => (r_iconst C dX12_canSay_17 (r_goto C (tgt := 22) dX12_canSay_18 rfl (r_zret C dX12_canSay_22 rfl ?_))))))))))))))
  · rw [e2, m1] at c7
    exact ⟨bP_0 (fun z => c7 z.1), rfl⟩
  · exact h.1
  · exact ⟨bP_0 (fun z => bP_e0.mp c14 z.2), rfl⟩
  · rw [e2, m1] at c7
    exact ⟨bP_1 ⟨by omega, bP_ne c14⟩, rfl⟩
/-- nothing but the kinds and their number has changed, and these are as told -/
def mKs (μ0 : kMem) (ks : List Int) (μ : kMem) : Prop := (μ.1 0 28).toInt = ks.length ∧ (∀ j (hj : j < ks.length), j ≤ 120 → (μ.1 24 j).toInt = ks[j]) ∧ ∀ a b : Nat, ¬ (a = 0 ∧ b = 28) → a ≠ 24 → μ.1 a b = μ0.1 a b
theorem mKs.snoc {μ0 μ μ' : kMem} {ks : List Int} (h : mKs μ0 ks μ) (hl : ks.length < 100000) {x : Int32} {y : Int} (hy : x.toInt = y) (e : μ' = up (if (μ.1 0 28).toInt ≤ 120 then up μ 24 (μ.1 0 28).toInt.toNat x else μ) 0 28 (Int32.ofInt ((μ.1 0 28).toInt + 1))) : mKs μ0 (ks ++ [y]) μ' := by
  obtain ⟨h1, h2, h3⟩ := h
  have e9 : [y].length = 1 := rfl
  subst e
  refine ⟨?_, fun j hj hj2 => ?_, fun a b n1 n2 => ?_⟩
  · rw [up_same, h1, ti_ofInt (by omega), List.length_append]
    rfl
  · rw [List.length_append, e9] at hj
    rw [up_neo _ _ (by decide)]
    by_cases e : j = ks.length
    · subst e
      rw [if_pos (by omega), h1, Int.toNat_natCast, up_same]
      simp [hy]
    · rw [List.getElem_append_left (by omega), ← h2 j (by omega) hj2]
      by_cases c : (μ.1 0 28).toInt ≤ 120
      · rw [if_pos c, h1, Int.toNat_natCast, up_nek _ _ e]
      · rw [if_neg c]
  · rw [up_ne _ _ n1]
    by_cases c : (μ.1 0 28).toInt ≤ 120
    · rw [if_pos c, up_neo _ _ n2]
      exact h3 a b n1 n2
    · rw [if_neg c]
      exact h3 a b n1 n2
theorem ok_X12_adds {x : Int32} {μ : kMem} (h : 0 ≤ (μ.1 0 28).toInt ∧ (μ.1 0 28).toInt ≤ 100000) : kOk yX12_adds cX12_adds 2 (none) rmX12_adds shM 48 [.ref 0, .int x] μ (kN fun μ' => μ' = up (if (μ.1 0 28).toInt ≤ 120 then up μ 24 (μ.1 0 28).toInt.toNat x else μ) 0 28 (Int32.ofInt ((μ.1 0 28).toInt + 1))) := by
  have m120 : (Int32.ofInt 120).toInt = 120 := by decide
  have e1 : μ.1 0 28 + Int32.ofInt 1 = Int32.ofInt ((μ.1 0 28).toInt + 1) := ti_ext (by rw [ti_addc (by omega), ti_ofInt (by omega)])
  refine kOk.of rfl (Nat.le_of_ble_eq_true rfl) (fun J C => ?_)
  have C : kR cX12_adds RX12 2 rmX12_adds shM 48 (none) _ J := C
  refine (r_aload_n C dX12_adds_0 rfl rfl (r_getI C dX12_adds_1 fd_X12_311 nM_0 sM_0 rfl (r_bipush C dX12_adds_4 (by decide +kernel) (r_icmp_gt C (tgt := 19) dX12_adds_6 rfl (fun c6 => (r_aload_n C dX12_adds_19 rfl rfl (r_dup C dX12_adds_20 rfl (r_getI C dX12_adds_21 fd_X12_311 nM_0 sM_0 rfl (r_iconst C dX12_adds_24 (r_iadd C dX12_adds_25 (r_putI C dX12_adds_26 fw_X12_311 nM_0 sM_0 rfl (r_ret C dX12_adds_29 ?_)))))))) (fun c6 => (r_aload_n C dX12_adds_9 rfl rfl (r_getR C dX12_adds_10 fd_X12_75 nM_0 sM_0 rfl (r_aload_n C dX12_adds_13 rfl rfl (r_getI C dX12_adds_14 fd_X12_311 nM_0 sM_0 rfl (r_iload_n C dX12_adds_17 rfl rfl (r_iast C dX12_adds_18 nM_24 sM_24 ?_ (r_aload_n C dX12_adds_19 rfl rfl (r_dup C dX12_adds_20 rfl (r_getI C dX12_adds_21 fd_X12_311 nM_0 sM_0 rfl (r_iconst C dX12_adds_24 (r_iadd C dX12_adds_25 (r_putI C dX12_adds_26 fw_X12_311 nM_0 sM_0 rfl (r_ret C dX12_adds_29 ?_))))))))))))))))))
  · rw [m120] at c6
    rw [if_neg (by omega), e1]
  · rw [m120] at c6
    omega
  · rw [m120] at c6
    simp (disch := decide) only [up_same, up_neo, up_nek, up_2]
    rw [if_pos (by omega), e1]
/-- a text's kinds -/
def mSpl (μ : kMem) : Option (List Int) := spK (mt μ) (msz μ) (mkd μ) (mn μ)
theorem ok_X12_lays {μ : kMem} (h : mTxOk μ ∧ mCdOk μ ∧ isSay (mn μ) (mt μ)) : kOk yX12_lays cX12_lays 4 (some .boolean) rmX12_lays shM 48 [.ref 0] μ (kI fun r μ' => (∃ ks, mSpl μ = some ks ∧ mKs μ ks μ' ∧ r = Int32.ofInt 1) ∨ (mSpl μ = none ∧ r = Int32.ofInt 0 ∧ ∃ ks, mKs μ ks μ')) := by
  obtain ⟨h, hC, hS⟩ := h
  have hn := mn_i h
  have z0 : (Int32.ofInt 0).toInt = 0 := by decide
  have m32 : (Int32.ofInt 32).toInt = 32 := by decide
  have m97 : (Int32.ofInt 97).toInt = 97 := by decide
  have m2 : (Int32.ofInt 2).toInt = 2 := by decide
  have m3 : (Int32.ofInt 3).toInt = 3 := by decide
  have m4 : (Int32.ofInt 4).toInt = 4 := by decide
  refine kOk.of rfl (Nat.le_of_ble_eq_true rfl) (fun J C => ?_)
  have C : kR cX12_lays RX12 4 rmX12_lays shM 48 (some .boolean) _ J := C
  have outer : ∀ (n i : Nat) (v : Int32) (ks : List Int) (μ' : kMem) (z2 z3 : Option Value), i + n = mn μ → v.toInt = i → spK (mt μ) (msz μ) (mkd μ) i = some ks → ks.length ≤ 10 * i → mKs μ ks μ' → J 7 [some (.ref 0), some (.int v), z2, z3] [] μ' := by
    intro n
    induction n using Nat.strongRecOn with
    | ind n ih =>
      intro i v ks μ' z2 z3 hin hv hks hlen hK
      have ev : v.toInt.toNat = i := by omega
      have eT : ∀ j : Nat, μ'.1 1 j = μ.1 1 j := fun j => hK.2.2 1 j (by omega) (by decide)
      have eN : μ'.1 0 1 = μ.1 0 1 := hK.2.2 0 1 (by decide) (by decide)
      have eM : ∀ j : Nat, μ'.1 3 j = μ.1 3 j := fun j => hK.2.2 3 j (by omega) (by decide)
      have e32 := mt_is h i (c := 32) (by decide)
      have hs := hS.2 i
      have hstep : spK (mt μ) (msz μ) (mkd μ) (i + 1) = if mt μ i = 32 then some ks else if msz μ (mt μ i - 97) = 0 then none else some (ks ++ ((if i = 0 then [] else [if mt μ (i - 1) = 32 then 4 else 3]) ++ letK (mkd μ (mt μ i - 97)) (msz μ (mt μ i - 97)))) := by
        conv => lhs; unfold spK
        rw [hks]
      by_cases hi : i < mn μ
      · by_cases hb : mt μ i = 32
        · have ht : (μ.1 1 i).toInt = 32 := e32.mpr hb
          rw [if_pos hb] at hstep
          have no : ¬ (μ'.1 1 v.toInt.toNat).toInt = (Int32.ofInt 32).toInt → False := fun c => by rw [eT, ev, m32] at c; exact c ht
          refine (r_iload_n C dX12_lays_7 rfl rfl (r_aload_n C dX12_lays_8 rfl rfl (r_getI C dX12_lays_9 fd_X12_147 nM_0 sM_0 rfl (r_icmp_ge C (tgt := 118) dX12_lays_12 rfl (fun c12 => (r_iconst C dX12_lays_118 (r_zret C dX12_lays_119 rfl ?_))) (fun c12 => (r_aload_n C dX12_lays_15 rfl rfl (r_getR C dX12_lays_16 fd_X12_9 nM_0 sM_0 rfl (r_iload_n C dX12_lays_19 rfl rfl (r_bald C dX12_lays_20 nM_1 sM_1 ?_ (r_bipush C dX12_lays_21 (by decide +kernel) (r_icmp_ne C (tgt := 29) dX12_lays_23 rfl (fun c23 => (r_aload_n C dX12_lays_29 rfl rfl (r_getR C dX12_lays_30 fd_X12_15 nM_0 sM_0 rfl (r_iconst C dX12_lays_33 (r_aald C (r := 3) dX12_lays_34 nM_2 (by decide) sM_2 (by decide) (by decide) (r_aload_n C dX12_lays_35 rfl rfl (r_getR C dX12_lays_36 fd_X12_9 nM_0 sM_0 rfl (r_iload_n C dX12_lays_39 rfl rfl (r_bald C dX12_lays_40 nM_1 sM_1 ?_ (r_bipush C dX12_lays_41 (by decide +kernel) (r_isub C dX12_lays_43 (r_iald C dX12_lays_44 nM_3 sM_3 ?_ (r_istore_n C dX12_lays_45 rfl (by decide) (r_iload_n C dX12_lays_46 rfl rfl (r_if_ne C (tgt := 52) dX12_lays_47 rfl (fun c47 => (r_iload_n C dX12_lays_52 rfl rfl (r_if_le C (tgt := 78) dX12_lays_53 rfl (fun c53 => (r_iconst C dX12_lays_78 (r_istore_n C dX12_lays_79 rfl (by decide) ?_))) (fun c53 => (r_aload_n C dX12_lays_56 rfl rfl (r_aload_n C dX12_lays_57 rfl rfl (r_getR C dX12_lays_58 fd_X12_9 nM_0 sM_0 rfl (r_iload_n C dX12_lays_61 rfl rfl (r_iconst C dX12_lays_62 (r_isub C dX12_lays_63 (r_bald C dX12_lays_64 nM_1 sM_1 ?_ (r_bipush C dX12_lays_65 (by decide +kernel) (r_icmp_ne C (tgt := 74) dX12_lays_67 rfl (fun c67 => (r_iconst C dX12_lays_74 (r_v1N C yv_X12_adds lk_X12_314 dX12_lays_75 rfl nM_0 sM_0 rfl (Nat.le_of_ble_eq_true rfl) (ok_X12_adds ?_) (fun μ75 h75 => (r_iconst C dX12_lays_78 (r_istore_n C dX12_lays_79 rfl (by decide) ?_)))))) (fun c67 => (r_iconst C dX12_lays_70 (r_goto C (tgt := 75) dX12_lays_71 rfl (r_v1N C yv_X12_adds lk_X12_314 dX12_lays_75 rfl nM_0 sM_0 rfl (Nat.le_of_ble_eq_true rfl) (ok_X12_adds ?_) (fun μ75 h75 => (r_iconst C dX12_lays_78 (r_istore_n C dX12_lays_79 rfl (by decide) ?_)))))))))))))))))))) (fun c47 => (r_iconst C dX12_lays_50 (r_zret C dX12_lays_51 rfl ?_)))))))))))))))))) (fun c23 => (r_goto C (tgt := 112) dX12_lays_26 rfl (r_iinc C dX12_lays_112 rfl (by decide) (r_goto C (tgt := 7) dX12_lays_115 rfl ?_)))))))))))))))
          · rw [eN] at c12; omega
          · rw [eN] at c12; omega
          · exact (no c23).elim
          · exact (no c23).elim
          · exact (no c23).elim
          · exact (no c23).elim
          · exact (no c23).elim
          · exact (no c23).elim
          · exact (no c23).elim
          · exact (no c23).elim
          · exact (no c23).elim
          · exact ih (n - 1) (by omega) (i + 1) _ ks μ' _ _ (by omega) (by simp (disch := (first | omega | (simp (disch := omega) only [ti_ofInt, ti_addc, ti_subc, ti_mulc, ti_cmul, ti_divc, ti_remc, ti_zero, ti_add, ti_sub, ti_neg, if_lt_ti, if_gt_ti, bP_e0, Classical.not_not, tl_i2l]; omega))) only [ti_ofInt, ti_addc, ti_subc, ti_mulc, ti_cmul, ti_divc, ti_remc, ti_zero, ti_add, ti_sub, ti_neg, if_lt_ti, if_gt_ti, bP_e0, Classical.not_not, tl_i2l]; omega) hstep (by omega) hK
        · have hL : isLt (mt μ i) := (hs hi).elim id (fun q => absurd q.1 hb)
          have hL' : 97 ≤ mt μ i ∧ mt μ i ≤ 122 := hL
          have ht : (μ.1 1 i).toInt = mt μ i := (mt_is h i (c := mt μ i) (by omega)).mpr rfl
          rw [if_neg hb] at hstep
          obtain ⟨l, hl⟩ : ∃ l : Nat, mt μ i = 97 + (l : Int) := ⟨(mt μ i - 97).toNat, by omega⟩
          have el : mt μ i - 97 = (l : Int) := by omega
          have e44 : (μ'.1 1 v.toInt.toNat - Int32.ofInt 97).toInt = l := by rw [eT, ev, ti_subc (by omega)]; omega
          have e44n : (μ'.1 1 v.toInt.toNat - Int32.ofInt 97).toInt.toNat = l := by rw [e44]; rfl
          obtain ⟨m, hm⟩ : ∃ m : Int32, m = μ.1 3 l := ⟨_, rfl⟩
          have hmd : mdOk m.toInt := by rw [hm]; exact hC l (by omega)
          have emk : mmk μ (l : Int) = m.toInt := by
            unfold mmk
            rw [if_pos (by omega), Int.toNat_natCast, hm]
          have esz : msz μ (l : Int) = dnF 5 m.toInt := by unfold msz pSz; rw [emk]
          have ekd : mkd μ (l : Int) = pKd m.toInt := by unfold mkd; rw [emk]
          rw [el, esz, ekd] at hstep
          have hd5 := dnF_le 5 m.toInt
          have eD := ti_ofInt (n := (dnF 5 m.toInt : Int)) (by omega)
          obtain ⟨gp, hgp⟩ : ∃ gp : List Int, gp = if i = 0 then [] else [if mt μ (i - 1) = 32 then 4 else 3] := ⟨_, rfl⟩
          rw [← hgp] at hstep
          have hgl : gp.length ≤ 1 := by rw [hgp]; split <;> simp
          have inner : ¬ dnF 5 m.toInt = 0 → ∀ (d p : Nat) (u : Int32) (μ2 : kMem), p + d = dnF 5 m.toInt → u.toInt = p → mKs μ (ks ++ (gp ++ letK (pKd m.toInt) p)) μ2 → J 80 [some (.ref 0), some (.int v), some (.int m), some (.int u)] [] μ2 := by
            intro hne d
            induction d using Nat.strongRecOn with
            | ind d ihd =>
              intro p u μ2 hp hu hK2
              have epn : u.toInt.toNat = p := by omega
              have hkl := letK_len (kd := pKd m.toInt) p
              have hll : (ks ++ (gp ++ letK (pKd m.toInt) p)).length ≤ 10 * i + 1 + (2 * p - 1) := by
                rw [List.length_append, List.length_append]
                omega
              have h28 := hK2.1
              have hkb : p < dnF 5 m.toInt → 0 ≤ pKd m.toInt p ∧ pKd m.toInt p ≤ 1 := fun q => pKd_b hmd q
              have eK : p < dnF 5 m.toInt → (Int32.ofInt (pKd m.toInt u.toInt.toNat)).toInt = pKd m.toInt p := fun q => by have := hkb q; rw [epn, ti_ofInt (by omega)]
              have hk : letK (pKd m.toInt) (p + 1) = letK (pKd m.toInt) p ++ (if p = 0 then [pKd m.toInt p] else [2, pKd m.toInt p]) := rfl
              refine (r_iload_n C dX12_lays_80 rfl rfl (r_iload_n C dX12_lays_81 rfl rfl (r_s1P C ys_X12_marksMany lk_X12_277 dX12_lays_82 rfl (Nat.le_of_ble_eq_true rfl) (ok_X12_marksMany ?_) (r_icmp_ge C (tgt := 112) dX12_lays_85 rfl (fun c85 => (r_iinc C dX12_lays_112 rfl (by decide) (r_goto C (tgt := 7) dX12_lays_115 rfl ?_))) (fun c85 => (r_iload_n C dX12_lays_88 rfl rfl (r_if_le C (tgt := 97) dX12_lays_89 rfl (fun c89 => (r_aload_n C dX12_lays_97 rfl rfl (r_iload_n C dX12_lays_98 rfl rfl (r_iload_n C dX12_lays_99 rfl rfl (r_s2P C ys_X12_kindOf lk_X12_280 dX12_lays_100 rfl (Nat.le_of_ble_eq_true rfl) (ok_X12_kindOf ?_) (r_v1N C yv_X12_adds lk_X12_314 dX12_lays_103 rfl nM_0 sM_0 rfl (Nat.le_of_ble_eq_true rfl) (ok_X12_adds ?_) (fun μ103 h103 => (r_iinc C dX12_lays_106 rfl (by decide) (r_goto C (tgt := 80) dX12_lays_109 rfl ?_))))))))) (fun c89 => (r_aload_n C dX12_lays_92 rfl rfl (r_iconst C dX12_lays_93 (r_v1N C yv_X12_adds lk_X12_314 dX12_lays_94 rfl nM_0 sM_0 rfl (Nat.le_of_ble_eq_true rfl) (ok_X12_adds ?_) (fun μ94 h94 => (r_aload_n C dX12_lays_97 rfl rfl (r_iload_n C dX12_lays_98 rfl rfl (r_iload_n C dX12_lays_99 rfl rfl (r_s2P C ys_X12_kindOf lk_X12_280 dX12_lays_100 rfl (Nat.le_of_ble_eq_true rfl) (ok_X12_kindOf ?_) (r_v1N C yv_X12_adds lk_X12_314 dX12_lays_103 rfl nM_0 sM_0 rfl (Nat.le_of_ble_eq_true rfl) (ok_X12_adds ?_) (fun μ103 h103 => (r_iinc C dX12_lays_106 rfl (by decide) (r_goto C (tgt := 80) dX12_lays_109 rfl ?_))))))))))))))))))))
              · exact ⟨hmd.1, hmd.2.1⟩
              · rw [eD] at c85
                have ep : p = dnF 5 m.toInt := by omega
                rw [if_neg hne, ← ep] at hstep
                exact ih (n - 1) (by omega) (i + 1) _ _ μ2 _ _ (by omega) (by simp (disch := (first | omega | (simp (disch := omega) only [ti_ofInt, ti_addc, ti_subc, ti_mulc, ti_cmul, ti_divc, ti_remc, ti_zero, ti_add, ti_sub, ti_neg, if_lt_ti, if_gt_ti, bP_e0, Classical.not_not, tl_i2l]; omega))) only [ti_ofInt, ti_addc, ti_subc, ti_mulc, ti_cmul, ti_divc, ti_remc, ti_zero, ti_add, ti_sub, ti_neg, if_lt_ti, if_gt_ti, bP_e0, Classical.not_not, tl_i2l]; omega) hstep (by omega) hK2
              · rw [eD] at c85
                exact ⟨hmd, by omega, by omega⟩
              · omega
              · rw [eD] at c85
                have p0 : p = 0 := by omega
                rw [if_pos p0] at hk
                refine ihd (d - 1) (by omega) (p + 1) _ _ (by omega) (by simp (disch := (first | omega | (simp (disch := omega) only [ti_ofInt, ti_addc, ti_subc, ti_mulc, ti_cmul, ti_divc, ti_remc, ti_zero, ti_add, ti_sub, ti_neg, if_lt_ti, if_gt_ti, bP_e0, Classical.not_not, tl_i2l]; omega))) only [ti_ofInt, ti_addc, ti_subc, ti_mulc, ti_cmul, ti_divc, ti_remc, ti_zero, ti_add, ti_sub, ti_neg, if_lt_ti, if_gt_ti, bP_e0, Classical.not_not, tl_i2l]; omega) ?_
                rw [hk, ← List.append_assoc gp, ← List.append_assoc ks]
                exact hK2.snoc (by omega) (eK (by omega)) h103
              · omega
              · rw [eD] at c85
                exact ⟨hmd, by omega, by omega⟩
              · rw [h94]
                simp (disch := decide) only [up_same, up_neo, up_nek, up_2]
                rw [ti_ofInt (by omega)]
                omega
              · rw [eD] at c85
                have p0 : ¬ p = 0 := by omega
                rw [if_neg p0] at hk
                refine ihd (d - 1) (by omega) (p + 1) _ _ (by omega) (by simp (disch := (first | omega | (simp (disch := omega) only [ti_ofInt, ti_addc, ti_subc, ti_mulc, ti_cmul, ti_divc, ti_remc, ti_zero, ti_add, ti_sub, ti_neg, if_lt_ti, if_gt_ti, bP_e0, Classical.not_not, tl_i2l]; omega))) only [ti_ofInt, ti_addc, ti_subc, ti_mulc, ti_cmul, ti_divc, ti_remc, ti_zero, ti_add, ti_sub, ti_neg, if_lt_ti, if_gt_ti, bP_e0, Classical.not_not, tl_i2l]; omega) ?_
                have q1 := hK2.snoc (by omega) m2 h94
                have q2 := q1.snoc (by rw [List.length_append]; simp only [List.length_cons, List.length_nil]; omega) (eK (by omega)) h103
                rw [hk, show ([2, pKd m.toInt p] : List Int) = [2] ++ [pKd m.toInt p] from rfl, ← List.append_assoc (letK (pKd m.toInt) p), ← List.append_assoc gp, ← List.append_assoc gp, ← List.append_assoc ks, ← List.append_assoc ks]
                exact q2
          have begin0 : ¬ m.toInt = 0 → ∀ (μ2 : kMem), mKs μ (ks ++ gp) μ2 → J 80 [some (.ref 0), some (.int v), some (.int m), some (.int (Int32.ofInt 0))] [] μ2 := fun q μ2 q2 => by
            have := dnF_pos.mpr (show 0 < m.toInt by have := hmd.1; omega)
            refine inner (by omega) (dnF 5 m.toInt) 0 _ μ2 (by omega) (by simp (disch := (first | omega | (simp (disch := omega) only [ti_ofInt, ti_addc, ti_subc, ti_mulc, ti_cmul, ti_divc, ti_remc, ti_zero, ti_add, ti_sub, ti_neg, if_lt_ti, if_gt_ti, bP_e0, Classical.not_not, tl_i2l]; omega))) only [ti_ofInt, ti_addc, ti_subc, ti_mulc, ti_cmul, ti_divc, ti_remc, ti_zero, ti_add, ti_sub, ti_neg, if_lt_ti, if_gt_ti, bP_e0, Classical.not_not, tl_i2l]; rfl) ?_
            show mKs μ (ks ++ (gp ++ [])) μ2
            rw [List.append_nil]
            exact q2
          have em : μ'.1 3 (μ'.1 1 v.toInt.toNat - Int32.ofInt 97).toInt.toNat = m := by rw [eM, e44n, hm]
          have hprev : 0 < i → ((μ'.1 1 (v - Int32.ofInt 1).toInt.toNat).toInt = 32 ↔ mt μ (i - 1) = 32) := fun q => by
            rw [eT, show (v - Int32.ofInt 1).toInt.toNat = i - 1 by rw [ti_subc (by omega), hv]; omega]
            exact mt_is h (i - 1) (by decide)
          refine (r_iload_n C dX12_lays_7 rfl rfl (r_aload_n C dX12_lays_8 rfl rfl (r_getI C dX12_lays_9 fd_X12_147 nM_0 sM_0 rfl (r_icmp_ge C (tgt := 118) dX12_lays_12 rfl (fun c12 => (r_iconst C dX12_lays_118 (r_zret C dX12_lays_119 rfl ?_))) (fun c12 => (r_aload_n C dX12_lays_15 rfl rfl (r_getR C dX12_lays_16 fd_X12_9 nM_0 sM_0 rfl (r_iload_n C dX12_lays_19 rfl rfl (r_bald C dX12_lays_20 nM_1 sM_1 ?_ (r_bipush C dX12_lays_21 (by decide +kernel) (r_icmp_ne C (tgt := 29) dX12_lays_23 rfl (fun c23 => (r_aload_n C dX12_lays_29 rfl rfl (r_getR C dX12_lays_30 fd_X12_15 nM_0 sM_0 rfl (r_iconst C dX12_lays_33 (r_aald C (r := 3) dX12_lays_34 nM_2 (by decide) sM_2 (by decide) (by decide) (r_aload_n C dX12_lays_35 rfl rfl (r_getR C dX12_lays_36 fd_X12_9 nM_0 sM_0 rfl (r_iload_n C dX12_lays_39 rfl rfl (r_bald C dX12_lays_40 nM_1 sM_1 ?_ (r_bipush C dX12_lays_41 (by decide +kernel) (r_isub C dX12_lays_43 (r_iald C dX12_lays_44 nM_3 sM_3 ?_ (r_istore_n C dX12_lays_45 rfl (by decide) (r_iload_n C dX12_lays_46 rfl rfl (r_if_ne C (tgt := 52) dX12_lays_47 rfl (fun c47 => (r_iload_n C dX12_lays_52 rfl rfl (r_if_le C (tgt := 78) dX12_lays_53 rfl (fun c53 => (r_iconst C dX12_lays_78 (r_istore_n C dX12_lays_79 rfl (by decide) ?_))) (fun c53 => (r_aload_n C dX12_lays_56 rfl rfl (r_aload_n C dX12_lays_57 rfl rfl (r_getR C dX12_lays_58 fd_X12_9 nM_0 sM_0 rfl (r_iload_n C dX12_lays_61 rfl rfl (r_iconst C dX12_lays_62 (r_isub C dX12_lays_63 (r_bald C dX12_lays_64 nM_1 sM_1 ?_ (r_bipush C dX12_lays_65 (by decide +kernel) (r_icmp_ne C (tgt := 74) dX12_lays_67 rfl (fun c67 => (r_iconst C dX12_lays_74 (r_v1N C yv_X12_adds lk_X12_314 dX12_lays_75 rfl nM_0 sM_0 rfl (Nat.le_of_ble_eq_true rfl) (ok_X12_adds ?_) (fun μ75 h75 => (r_iconst C dX12_lays_78 (r_istore_n C dX12_lays_79 rfl (by decide) ?_)))))) (fun c67 => (r_iconst C dX12_lays_70 (r_goto C (tgt := 75) dX12_lays_71 rfl (r_v1N C yv_X12_adds lk_X12_314 dX12_lays_75 rfl nM_0 sM_0 rfl (Nat.le_of_ble_eq_true rfl) (ok_X12_adds ?_) (fun μ75 h75 => (r_iconst C dX12_lays_78 (r_istore_n C dX12_lays_79 rfl (by decide) ?_)))))))))))))))))))) (fun c47 => (r_iconst C dX12_lays_50 (r_zret C dX12_lays_51 rfl ?_)))))))))))))))))) (fun c23 => (r_goto C (tgt := 112) dX12_lays_26 rfl (r_iinc C dX12_lays_112 rfl (by decide) (r_goto C (tgt := 7) dX12_lays_115 rfl ?_)))))))))))))))
          · rw [eN] at c12; omega
          · rw [eN] at c12; omega
          · rw [eN] at c12; omega
          · rw [e44]; omega
          · rw [em] at c47 ⊢
            have i0 : i = 0 := by omega
            rw [if_pos i0] at hgp
            refine begin0 c47 μ' ?_
            rw [hgp, List.append_nil]
            exact hK
          · rw [ti_subc (by omega)]
            have := h.1
            rw [eN] at c12
            omega
          · have := hK.1
            omega
          · rw [em] at c47 ⊢
            rw [m32, hprev (by omega)] at c67
            rw [if_neg (by omega), if_neg c67] at hgp
            refine begin0 c47 μ75 ?_
            rw [hgp]
            exact hK.snoc (by omega) m3 h75
          · have := hK.1
            omega
          · rw [em] at c47 ⊢
            rw [m32, hprev (by omega)] at c67
            rw [if_neg (by omega), if_pos c67] at hgp
            refine begin0 c47 μ75 ?_
            rw [hgp]
            exact hK.snoc (by omega) m4 h75
          · rw [em] at c47
            rw [if_pos (dnF_zero (by omega))] at hstep
            refine Or.inr ⟨?_, rfl, ks, hK⟩
            have := spK_none hstep (mn μ - (i + 1))
            rw [show i + 1 + (mn μ - (i + 1)) = mn μ by omega] at this
            exact this
          · rw [eT, ev, m32] at c23; omega
      · have ei : i = mn μ := by omega
        subst ei
        refine (r_iload_n C dX12_lays_7 rfl rfl (r_aload_n C dX12_lays_8 rfl rfl (r_getI C dX12_lays_9 fd_X12_147 nM_0 sM_0 rfl (r_icmp_ge C (tgt := 118) dX12_lays_12 rfl (fun c12 => (r_iconst C dX12_lays_118 (r_zret C dX12_lays_119 rfl ?_))) (fun c12 => (r_aload_n C dX12_lays_15 rfl rfl (r_getR C dX12_lays_16 fd_X12_9 nM_0 sM_0 rfl (r_iload_n C dX12_lays_19 rfl rfl (r_bald C dX12_lays_20 nM_1 sM_1 ?_ (r_bipush C dX12_lays_21 (by decide +kernel) (r_icmp_ne C (tgt := 29) dX12_lays_23 rfl (fun c23 => (r_aload_n C dX12_lays_29 rfl rfl (r_getR C dX12_lays_30 fd_X12_15 nM_0 sM_0 rfl (r_iconst C dX12_lays_33 (r_aald C (r := 3) dX12_lays_34 nM_2 (by decide) sM_2 (by decide) (by decide) (r_aload_n C dX12_lays_35 rfl rfl (r_getR C dX12_lays_36 fd_X12_9 nM_0 sM_0 rfl (r_iload_n C dX12_lays_39 rfl rfl (r_bald C dX12_lays_40 nM_1 sM_1 ?_ (r_bipush C dX12_lays_41 (by decide +kernel) (r_isub C dX12_lays_43 (r_iald C dX12_lays_44 nM_3 sM_3 ?_ (r_istore_n C dX12_lays_45 rfl (by decide) (r_iload_n C dX12_lays_46 rfl rfl (r_if_ne C (tgt := 52) dX12_lays_47 rfl (fun c47 => (r_iload_n C dX12_lays_52 rfl rfl (r_if_le C (tgt := 78) dX12_lays_53 rfl (fun c53 => (r_iconst C dX12_lays_78 (r_istore_n C dX12_lays_79 rfl (by decide) ?_))) (fun c53 => (r_aload_n C dX12_lays_56 rfl rfl (r_aload_n C dX12_lays_57 rfl rfl (r_getR C dX12_lays_58 fd_X12_9 nM_0 sM_0 rfl (r_iload_n C dX12_lays_61 rfl rfl (r_iconst C dX12_lays_62 (r_isub C dX12_lays_63 (r_bald C dX12_lays_64 nM_1 sM_1 ?_ (r_bipush C dX12_lays_65 (by decide +kernel) (r_icmp_ne C (tgt := 74) dX12_lays_67 rfl (fun c67 => (r_iconst C dX12_lays_74 (r_v1N C yv_X12_adds lk_X12_314 dX12_lays_75 rfl nM_0 sM_0 rfl (Nat.le_of_ble_eq_true rfl) (ok_X12_adds ?_) (fun μ75 h75 => (r_iconst C dX12_lays_78 (r_istore_n C dX12_lays_79 rfl (by decide) ?_)))))) (fun c67 => (r_iconst C dX12_lays_70 (r_goto C (tgt := 75) dX12_lays_71 rfl (r_v1N C yv_X12_adds lk_X12_314 dX12_lays_75 rfl nM_0 sM_0 rfl (Nat.le_of_ble_eq_true rfl) (ok_X12_adds ?_) (fun μ75 h75 => (r_iconst C dX12_lays_78 (r_istore_n C dX12_lays_79 rfl (by decide) ?_)))))))))))))))))))) (fun c47 => (r_iconst C dX12_lays_50 (r_zret C dX12_lays_51 rfl ?_)))))))))))))))))) (fun c23 => (r_goto C (tgt := 112) dX12_lays_26 rfl (r_iinc C dX12_lays_112 rfl (by decide) (r_goto C (tgt := 7) dX12_lays_115 rfl ?_)))))))))))))))
        · exact Or.inl ⟨ks, hks, hK, rfl⟩
        all_goals (exfalso; rw [eN] at c12; omega)
  refine (r_aload_n C dX12_lays_0 rfl rfl (r_iconst C dX12_lays_1 (r_putI C dX12_lays_2 fw_X12_311 nM_0 sM_0 rfl (r_iconst C dX12_lays_5 (r_istore_n C dX12_lays_6 rfl (by decide) ?_)))))
  refine outer (mn μ) 0 _ [] _ _ _ (by omega) (by simp (disch := (first | omega | (simp (disch := omega) only [ti_ofInt, ti_addc, ti_subc, ti_mulc, ti_cmul, ti_divc, ti_remc, ti_zero, ti_add, ti_sub, ti_neg, if_lt_ti, if_gt_ti, bP_e0, Classical.not_not, tl_i2l]; omega))) only [ti_ofInt, ti_addc, ti_subc, ti_mulc, ti_cmul, ti_divc, ti_remc, ti_zero, ti_add, ti_sub, ti_neg, if_lt_ti, if_gt_ti, bP_e0, Classical.not_not, tl_i2l]; rfl) rfl (by simp) ⟨by rw [up_same]; rfl, fun j hj => absurd hj (Nat.not_lt_zero _), fun a b n1 n2 => up_ne _ _ n1⟩

