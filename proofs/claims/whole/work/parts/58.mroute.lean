/-! ===== the model: routes ===== -/
def mst_ (μ : kMem) : Nat → Nat := fun l => (μ.1 16 l).toInt.toNat
def men_ (μ : kMem) : Nat → Nat := fun l => (μ.1 17 l).toInt.toNat
noncomputable def mds (μ : kMem) (to s : Nat) : Nat := dsF (mst_ μ) (men_ μ) (mln μ) to s
noncomputable def mfl (μ : kMem) (to s : Nat) : Nat := flF (mst_ μ) (men_ μ) (mln μ) to s
noncomputable def msn (μ : kMem) (to s : Nat) : Nat → Nat := snF (mst_ μ) (men_ μ) (mln μ) to s
theorem mLn_st {μ : kMem} (h : mLnOk μ) (l : Nat) : mst_ μ l < 6 ∧ men_ μ l < 6 ∧ (mst_ μ l : Int) = (μ.1 16 l).toInt ∧ (men_ μ l : Int) = (μ.1 17 l).toInt := by
  have h1 := h.2.2 l
  unfold mst_ men_
  omega
theorem mLn_n {μ : kMem} (h : mLnOk μ) : (mln μ : Int) = (μ.1 0 19).toInt ∧ mln μ ≤ 8 := by
  have h1 := h.1
  unfold mln
  omega
def mLsame (μ μ' : kMem) : Prop := ∀ a b : Nat, (a = 0 ∧ (b = 19 ∨ b = 20)) ∨ (16 ≤ a ∧ a ≤ 19) → μ'.1 a b = μ.1 a b
theorem mLsame_all {μ μ' : kMem} (h : mLsame μ μ') : mst_ μ' = mst_ μ ∧ men_ μ' = men_ μ ∧ mln μ' = mln μ ∧ (mLnOk μ → mLnOk μ') ∧ mds μ' = mds μ ∧ mfl μ' = mfl μ ∧ msn μ' = msn μ := by
  unfold mLsame at h
  have e1 : mst_ μ' = mst_ μ := by funext l; unfold mst_; simp (disch := omega) only [h]
  have e2 : men_ μ' = men_ μ := by funext l; unfold men_; simp (disch := omega) only [h]
  have e3 : mln μ' = mln μ := by unfold mln; simp (disch := omega) only [h]
  refine ⟨e1, e2, e3, fun q => ?_, ?_, ?_, ?_⟩
  · unfold mLnOk at q ⊢
    simp (disch := omega) only [h]
    exact q
  · funext a b; unfold mds; rw [e1, e2, e3]
  · funext a b; unfold mfl; rw [e1, e2, e3]
  · funext a b; unfold msn; rw [e1, e2, e3]
def mFar (μ0 : kMem) (to : Nat) (μ : kMem) : Prop := ∀ s : Nat, s < 6 → (μ.1 31 s).toInt = if mds μ0 to s < 6 then (mds μ0 to s : Int) else -1
theorem ok_X12_leads {x : Int32} {μ : kMem} (h : mLnOk μ ∧ 0 ≤ x.toInt ∧ x.toInt < 6) : kOk yX12_leads cX12_leads 4 (none) rmX12_leads shM 48 [.ref 0, .int x] μ (kN fun μ' => mFar μ x.toInt.toNat μ' ∧ ∀ a b : Nat, a ≠ 31 → μ'.1 a b = μ.1 a b) := by
  obtain ⟨h, hx, hx2⟩ := h
  have m6 : (Int32.ofInt 6).toInt = 6 := by decide
  have mm : (Int32.ofInt (-1)).toInt = -1 := by decide
  have z0 : (Int32.ofInt 0).toInt = 0 := by decide
  have hn := mLn_n h
  have hst := mLn_st h
  obtain ⟨to, hto⟩ : ∃ to : Nat, x.toInt = to := ⟨x.toInt.toNat, by omega⟩
  have eto : x.toInt.toNat = to := by omega
  rw [eto]
  have hsE : ∀ l, l < mln μ → mst_ μ l < 6 ∧ men_ μ l < 6 := fun l _ => ⟨(hst l).1, (hst l).2.1⟩
  refine kOk.of rfl (Nat.le_of_ble_eq_true rfl) (fun J C => ?_)
  have C : kR cX12_leads RX12 4 rmX12_leads shM 48 (none) _ J := C
  have loop2 : ∀ (j k : Nat) (v : Int32) (z : Option Value) (μ' : kMem), k + j = 6 → v.toInt = k → lvI (mst_ μ) (men_ μ) (mln μ) to k 0 (fun s => (μ'.1 31 s).toInt) → (∀ a b : Nat, a ≠ 31 → μ'.1 a b = μ.1 a b) → J 32 [some (.ref 0), some (.int x), some (.int v), z] [] μ' := by
    intro j
    induction j using Nat.strongRecOn with
    | ind j ih =>
      intro k v z μ' hj hv hI hO
      have inner : k < 6 → ∀ (m l : Nat) (u : Int32) (μ' : kMem), l + m = mln μ → u.toInt = l → lvI (mst_ μ) (men_ μ) (mln μ) to k l (fun s => (μ'.1 31 s).toInt) → (∀ a b : Nat, a ≠ 31 → μ'.1 a b = μ.1 a b) → J 40 [some (.ref 0), some (.int x), some (.int v), some (.int u)] [] μ' := by
        intro hk m
        induction m using Nat.strongRecOn with
        | ind m ihm =>
          intro l u μ' hm hu hI hO
          have eu : u.toInt.toNat = l := by omega
          have e19 : μ'.1 0 19 = μ.1 0 19 := hO 0 19 (by decide)
          have e16 : μ'.1 16 u.toInt.toNat = μ.1 16 l := by rw [eu]; exact hO 16 l (by decide)
          have e17 : μ'.1 17 u.toInt.toNat = μ.1 17 l := by rw [eu]; exact hO 17 l (by decide)
          have hl := hst l
          have t16 : (μ.1 16 l).toInt.toNat = mst_ μ l := rfl
          have t17 : (μ.1 17 l).toInt.toNat = men_ μ l := rfl
          have ek1 : (v + Int32.ofInt 1).toInt = (k : Int) + 1 := by rw [ti_addc (by omega), hv]
          refine (r_iload_n C dX12_leads_40 rfl rfl (r_aload_n C dX12_leads_41 rfl rfl (r_getI C dX12_leads_42 fd_X12_243 nM_0 sM_0 rfl (r_icmp_ge C (tgt := 98) dX12_leads_45 rfl (fun c45 => (r_iinc C dX12_leads_98 rfl (by decide) (r_goto C (tgt := 32) dX12_leads_101 rfl ?_))) (fun c45 => (r_aload_n C dX12_leads_48 rfl rfl (r_getR C dX12_leads_49 fd_X12_96 nM_0 sM_0 rfl (r_aload_n C dX12_leads_52 rfl rfl (r_getR C dX12_leads_53 fd_X12_54 nM_0 sM_0 rfl (r_iload_n C dX12_leads_56 rfl rfl (r_iald C dX12_leads_57 nM_17 sM_17 ?_ (r_iald C dX12_leads_58 nM_31 sM_31 ?_ (r_iload_n C dX12_leads_59 rfl rfl (r_icmp_ne C (tgt := 92) dX12_leads_60 rfl (fun c60 => (r_iinc C dX12_leads_92 rfl (by decide) (r_goto C (tgt := 40) dX12_leads_95 rfl ?_))) (fun c60 => (r_aload_n C dX12_leads_63 rfl rfl (r_getR C dX12_leads_64 fd_X12_96 nM_0 sM_0 rfl (r_aload_n C dX12_leads_67 rfl rfl (r_getR C dX12_leads_68 fd_X12_51 nM_0 sM_0 rfl (r_iload_n C dX12_leads_71 rfl rfl (r_iald C dX12_leads_72 nM_16 sM_16 ?_ (r_iald C dX12_leads_73 nM_31 sM_31 ?_ (r_iconst C dX12_leads_74 (r_icmp_ne C (tgt := 92) dX12_leads_75 rfl (fun c75 => (r_iinc C dX12_leads_92 rfl (by decide) (r_goto C (tgt := 40) dX12_leads_95 rfl ?_))) (fun c75 => (r_aload_n C dX12_leads_78 rfl rfl (r_getR C dX12_leads_79 fd_X12_96 nM_0 sM_0 rfl (r_aload_n C dX12_leads_82 rfl rfl (r_getR C dX12_leads_83 fd_X12_51 nM_0 sM_0 rfl (r_iload_n C dX12_leads_86 rfl rfl (r_iald C dX12_leads_87 nM_16 sM_16 ?_ (r_iload_n C dX12_leads_88 rfl rfl (r_iconst C dX12_leads_89 (r_iadd C dX12_leads_90 (r_iast C dX12_leads_91 nM_31 sM_31 ?_ (r_iinc C dX12_leads_92 rfl (by decide) (r_goto C (tgt := 40) dX12_leads_95 rfl ?_)))))))))))))))))))))))))))))))))))))
          · rw [e19] at c45
            have el : l = mln μ := by omega
            subst el
            exact ih (j - 1) (by omega) (k + 1) _ _ μ' (by omega) (by simp (disch := (first | omega | (simp (disch := omega) only [ti_ofInt, ti_addc, ti_subc, ti_mulc, ti_cmul, ti_divc, ti_remc, ti_zero, ti_add, ti_sub, ti_neg, if_lt_ti, if_gt_ti, bP_e0, Classical.not_not, tl_i2l]; omega))) only [ti_ofInt, ti_addc, ti_subc, ti_mulc, ti_cmul, ti_divc, ti_remc, ti_zero, ti_add, ti_sub, ti_neg, if_lt_ti, if_gt_ti, bP_e0, Classical.not_not, tl_i2l]; omega) (lvI_round hI) hO
          · rw [e19] at c45; omega
          · rw [e17]; omega
          · rw [e19] at c45
            rw [e17, t17, hv] at c60
            exact ihm (m - 1) (by omega) (l + 1) _ μ' (by omega) (by simp (disch := (first | omega | (simp (disch := omega) only [ti_ofInt, ti_addc, ti_subc, ti_mulc, ti_cmul, ti_divc, ti_remc, ti_zero, ti_add, ti_sub, ti_neg, if_lt_ti, if_gt_ti, bP_e0, Classical.not_not, tl_i2l]; omega))) only [ti_ofInt, ti_addc, ti_subc, ti_mulc, ti_cmul, ti_divc, ti_remc, ti_zero, ti_add, ti_sub, ti_neg, if_lt_ti, if_gt_ti, bP_e0, Classical.not_not, tl_i2l]; omega) (lvI_no hsE hk (by omega) hI (fun q => c60 q.1)) hO
          · rw [e19] at c45; omega
          · rw [e16]; omega
          · rw [e19] at c45
            rw [e16, t16, mm] at c75
            exact ihm (m - 1) (by omega) (l + 1) _ μ' (by omega) (by simp (disch := (first | omega | (simp (disch := omega) only [ti_ofInt, ti_addc, ti_subc, ti_mulc, ti_cmul, ti_divc, ti_remc, ti_zero, ti_add, ti_sub, ti_neg, if_lt_ti, if_gt_ti, bP_e0, Classical.not_not, tl_i2l]; omega))) only [ti_ofInt, ti_addc, ti_subc, ti_mulc, ti_cmul, ti_divc, ti_remc, ti_zero, ti_add, ti_sub, ti_neg, if_lt_ti, if_gt_ti, bP_e0, Classical.not_not, tl_i2l]; omega) (lvI_no hsE hk (by omega) hI (fun q => c75 q.2)) hO
          · rw [e19] at c45; omega
          · rw [e16]; omega
          · rw [e19] at c45
            rw [e17, t17, hv] at c60
            rw [e16, t16, mm] at c75
            rw [e16, t16]
            refine ihm (m - 1) (by omega) (l + 1) _ _ (by omega) (by simp (disch := (first | omega | (simp (disch := omega) only [ti_ofInt, ti_addc, ti_subc, ti_mulc, ti_cmul, ti_divc, ti_remc, ti_zero, ti_add, ti_sub, ti_neg, if_lt_ti, if_gt_ti, bP_e0, Classical.not_not, tl_i2l]; omega))) only [ti_ofInt, ti_addc, ti_subc, ti_mulc, ti_cmul, ti_divc, ti_remc, ti_zero, ti_add, ti_sub, ti_neg, if_lt_ti, if_gt_ti, bP_e0, Classical.not_not, tl_i2l]; omega) (lvI_yes (by omega) hsE hk (by omega) hI c60 c75 ?_ ?_) (fun a b n1 => by rw [up_neo _ _ n1]; exact hO a b n1)
            · show ((up μ' 31 (mst_ μ l) (v + Int32.ofInt 1)).1 31 (mst_ μ l)).toInt = _
              rw [up_same, ek1]
            · intro s hs
              show ((up μ' 31 (mst_ μ l) (v + Int32.ofInt 1)).1 31 s).toInt = _
              rw [up_nek _ _ hs]
      refine (r_iload_n C dX12_leads_32 rfl rfl (r_bipush C dX12_leads_33 (by decide +kernel) (r_icmp_ge C (tgt := 104) dX12_leads_35 rfl (fun c35 => (r_ret C dX12_leads_104 ?_)) (fun c35 => (r_iconst C dX12_leads_38 (r_istore_n C dX12_leads_39 rfl (by decide) ?_))))))
      · rw [m6] at c35
        have ek : k = 6 := by omega
        subst ek
        exact ⟨fun s hs => lvI_end hI hs, hO⟩
      · rw [m6] at c35
        exact inner (by omega) (mln μ) 0 _ μ' (by omega) (by simp (disch := (first | omega | (simp (disch := omega) only [ti_ofInt, ti_addc, ti_subc, ti_mulc, ti_cmul, ti_divc, ti_remc, ti_zero, ti_add, ti_sub, ti_neg, if_lt_ti, if_gt_ti, bP_e0, Classical.not_not, tl_i2l]; omega))) only [ti_ofInt, ti_addc, ti_subc, ti_mulc, ti_cmul, ti_divc, ti_remc, ti_zero, ti_add, ti_sub, ti_neg, if_lt_ti, if_gt_ti, bP_e0, Classical.not_not, tl_i2l]; rfl) hI hO
  have loop : ∀ (k s : Nat) (v : Int32) (z : Option Value) (μ' : kMem), s + k = 6 → v.toInt = s → (∀ i, i < s → (μ'.1 31 i).toInt = if i = to then 0 else -1) → (∀ a b : Nat, a ≠ 31 → μ'.1 a b = μ.1 a b) → J 2 [some (.ref 0), some (.int x), some (.int v), z] [] μ' := by
    intro k
    induction k using Nat.strongRecOn with
    | ind k ih =>
      intro s v z μ' hk hv hI hO
      have evs : v.toInt.toNat = s := by omega
      refine (r_iload_n C dX12_leads_2 rfl rfl (r_bipush C dX12_leads_3 (by decide +kernel) (r_icmp_ge C (tgt := 30) dX12_leads_5 rfl (fun c5 => (r_iconst C dX12_leads_30 (r_istore_n C dX12_leads_31 rfl (by decide) ?_))) (fun c5 => (r_aload_n C dX12_leads_8 rfl rfl (r_getR C dX12_leads_9 fd_X12_96 nM_0 sM_0 rfl (r_iload_n C dX12_leads_12 rfl rfl (r_iload_n C dX12_leads_13 rfl rfl (r_iload_n C dX12_leads_14 rfl rfl (r_icmp_ne C (tgt := 22) dX12_leads_15 rfl (fun c15 => (r_iconst C dX12_leads_22 (r_iast C dX12_leads_23 nM_31 sM_31 ?_ (r_iinc C dX12_leads_24 rfl (by decide) (r_goto C (tgt := 2) dX12_leads_27 rfl ?_))))) (fun c15 => (r_iconst C dX12_leads_18 (r_goto C (tgt := 23) dX12_leads_19 rfl (r_iast C dX12_leads_23 nM_31 sM_31 ?_ (r_iinc C dX12_leads_24 rfl (by decide) (r_goto C (tgt := 2) dX12_leads_27 rfl ?_))))))))))))))))
      · rw [m6] at c5
        have es : s = 6 := by omega
        subst es
        exact loop2 6 0 _ _ _ rfl (by simp (disch := (first | omega | (simp (disch := omega) only [ti_ofInt, ti_addc, ti_subc, ti_mulc, ti_cmul, ti_divc, ti_remc, ti_zero, ti_add, ti_sub, ti_neg, if_lt_ti, if_gt_ti, bP_e0, Classical.not_not, tl_i2l]; omega))) only [ti_ofInt, ti_addc, ti_subc, ti_mulc, ti_cmul, ti_divc, ti_remc, ti_zero, ti_add, ti_sub, ti_neg, if_lt_ti, if_gt_ti, bP_e0, Classical.not_not, tl_i2l]; rfl) (lvI_zero hI) hO
      · rw [m6] at c5; omega
      · rw [m6] at c5
        refine ih (k - 1) (by omega) (s + 1) _ _ _ (by omega) (by simp (disch := (first | omega | (simp (disch := omega) only [ti_ofInt, ti_addc, ti_subc, ti_mulc, ti_cmul, ti_divc, ti_remc, ti_zero, ti_add, ti_sub, ti_neg, if_lt_ti, if_gt_ti, bP_e0, Classical.not_not, tl_i2l]; omega))) only [ti_ofInt, ti_addc, ti_subc, ti_mulc, ti_cmul, ti_divc, ti_remc, ti_zero, ti_add, ti_sub, ti_neg, if_lt_ti, if_gt_ti, bP_e0, Classical.not_not, tl_i2l]; omega) ?_ (fun a b n1 => by rw [up_neo _ _ n1]; exact hO a b n1)
        intro i hi
        rw [evs]
        by_cases e : i = s
        · subst e
          rw [up_same, if_neg (by omega), mm]
        · rw [up_nek _ _ e]
          exact hI i (by omega)
      · rw [m6] at c5; omega
      · rw [m6] at c5
        refine ih (k - 1) (by omega) (s + 1) _ _ _ (by omega) (by simp (disch := (first | omega | (simp (disch := omega) only [ti_ofInt, ti_addc, ti_subc, ti_mulc, ti_cmul, ti_divc, ti_remc, ti_zero, ti_add, ti_sub, ti_neg, if_lt_ti, if_gt_ti, bP_e0, Classical.not_not, tl_i2l]; omega))) only [ti_ofInt, ti_addc, ti_subc, ti_mulc, ti_cmul, ti_divc, ti_remc, ti_zero, ti_add, ti_sub, ti_neg, if_lt_ti, if_gt_ti, bP_e0, Classical.not_not, tl_i2l]; omega) ?_ (fun a b n1 => by rw [up_neo _ _ n1]; exact hO a b n1)
        intro i hi
        rw [evs]
        by_cases e : i = s
        · subst e
          rw [up_same, if_pos (by omega), z0]
        · rw [up_nek _ _ e]
          exact hI i (by omega)
  refine (r_iconst C dX12_leads_0 (r_istore_n C dX12_leads_1 rfl (by decide) ?_))
  exact loop 6 0 _ _ _ rfl (by simp (disch := (first | omega | (simp (disch := omega) only [ti_ofInt, ti_addc, ti_subc, ti_mulc, ti_cmul, ti_divc, ti_remc, ti_zero, ti_add, ti_sub, ti_neg, if_lt_ti, if_gt_ti, bP_e0, Classical.not_not, tl_i2l]; omega))) only [ti_ofInt, ti_addc, ti_subc, ti_mulc, ti_cmul, ti_divc, ti_remc, ti_zero, ti_add, ti_sub, ti_neg, if_lt_ti, if_gt_ti, bP_e0, Classical.not_not, tl_i2l]; rfl) (fun i hi => by omega) (fun _ _ _ => rfl)
/-- the line that leads on: -1 if there is none -/
noncomputable def mfL (μ : kMem) (to s : Nat) : Int := if 0 < mds μ to s ∧ mds μ to s < 6 then (mfl μ to s : Int) else -1
theorem ok_X12_firstLine {x y : Int32} {μ : kMem} (h : mLnOk μ ∧ (0 ≤ x.toInt ∧ x.toInt < 6) ∧ 0 ≤ y.toInt ∧ y.toInt < 6) : kOk yX12_firstLine cX12_firstLine 4 (some .int) rmX12_firstLine shM 48 [.ref 0, .int x, .int y] μ (kI fun r μ' => r.toInt = mfL μ y.toInt.toNat x.toInt.toNat ∧ ∀ a b : Nat, a ≠ 31 → μ'.1 a b = μ.1 a b) := by
  obtain ⟨h, ⟨hx, hx2⟩, hy⟩ := h
  have mm : (Int32.ofInt (-1)).toInt = -1 := by decide
  have z0 : (Int32.ofInt 0).toInt = 0 := by decide
  have hn := mLn_n h
  have hst := mLn_st h
  obtain ⟨s, hs⟩ : ∃ s : Nat, x.toInt = s := ⟨x.toInt.toNat, by omega⟩
  have es : x.toInt.toNat = s := by omega
  obtain ⟨to, hto⟩ : ∃ to : Nat, to = y.toInt.toNat := ⟨_, rfl⟩
  rw [← hto, es]
  refine kOk.of rfl (Nat.le_of_ble_eq_true rfl) (fun J C => ?_)
  have C : kR cX12_firstLine RX12 4 rmX12_firstLine shM 48 (some .int) _ J := C
  have loop : ∀ (μ1 : kMem), mFar μ to μ1 → (∀ a b : Nat, a ≠ 31 → μ1.1 a b = μ.1 a b) → 0 < mds μ to s → mds μ to s < 6 → ∀ (k l : Nat) (v : Int32), l + k = mln μ → v.toInt = l → (∀ i, i < l → ¬ (mst_ μ i = s ∧ mds μ to (men_ μ i) + 1 = mds μ to s)) → J 18 [some (.ref 0), some (.int x), some (.int y), some (.int v)] [] μ1 := by
    intro μ1 hF hO h0 h6 k
    obtain ⟨f1, f2, f3, f4⟩ := flF_ok (st := mst_ μ) (en := men_ μ) (n := mln μ) h0 h6
    have f1 : mfl μ to s < mln μ := f1
    have f2 : mst_ μ (mfl μ to s) = s := f2
    have f3 : mds μ to (men_ μ (mfl μ to s)) + 1 = mds μ to s := f3
    have f4 : ∀ i, i < mfl μ to s → ¬ (mst_ μ i = s ∧ mds μ to (men_ μ i) + 1 = mds μ to s) := f4
    have eR : mfL μ to s = (mfl μ to s : Int) := by unfold mfL; rw [if_pos ⟨h0, h6⟩]
    have hFs := hF s (by omega)
    rw [if_pos h6] at hFs
    induction k using Nat.strongRecOn with
    | ind k ih =>
      intro l v hk hv hI
      have ev : v.toInt.toNat = l := by omega
      have e19 : μ1.1 0 19 = μ.1 0 19 := hO 0 19 (by decide)
      have e16 : μ1.1 16 v.toInt.toNat = μ.1 16 l := by rw [ev]; exact hO 16 l (by decide)
      have e17 : μ1.1 17 v.toInt.toNat = μ.1 17 l := by rw [ev]; exact hO 17 l (by decide)
      have hl := hst l
      have t16 : (μ.1 16 l).toInt.toNat = mst_ μ l := rfl
      have t17 : (μ.1 17 l).toInt.toNat = men_ μ l := rfl
      have hFe := hF (men_ μ l) hl.2.1
      have e54 : (μ1.1 31 x.toInt.toNat - Int32.ofInt 1).toInt = (mds μ to s : Int) - 1 := by rw [es, ti_subc (by omega), hFs]
      have q2 : (μ1.1 31 (men_ μ l)).toInt = (mds μ to s : Int) - 1 ↔ mds μ to (men_ μ l) + 1 = mds μ to s := by
        rw [hFe]
        split <;> omega
      have more : ¬ (mst_ μ l = s ∧ mds μ to (men_ μ l) + 1 = mds μ to s) → l < mln μ → J 18 [some (.ref 0), some (.int x), some (.int y), some (.int (v + Int32.ofInt 1))] [] μ1 := fun q q3 => by
        refine ih (k - 1) (by omega) (l + 1) _ (by omega) (by simp (disch := (first | omega | (simp (disch := omega) only [ti_ofInt, ti_addc, ti_subc, ti_mulc, ti_cmul, ti_divc, ti_remc, ti_zero, ti_add, ti_sub, ti_neg, if_lt_ti, if_gt_ti, bP_e0, Classical.not_not, tl_i2l]; omega))) only [ti_ofInt, ti_addc, ti_subc, ti_mulc, ti_cmul, ti_divc, ti_remc, ti_zero, ti_add, ti_sub, ti_neg, if_lt_ti, if_gt_ti, bP_e0, Classical.not_not, tl_i2l]; omega) (fun i hi => ?_)
        by_cases e : i = l
        · subst e; exact q
        · exact hI i (by omega)
      refine (r_iload_n C dX12_firstLine_18 rfl rfl (r_aload_n C dX12_firstLine_19 rfl rfl (r_getI C dX12_firstLine_20 fd_X12_243 nM_0 sM_0 rfl (r_icmp_ge C (tgt := 66) dX12_firstLine_23 rfl (fun c23 => (r_iconst C dX12_firstLine_66 (r_iret C dX12_firstLine_67 ?_))) (fun c23 => (r_aload_n C dX12_firstLine_26 rfl rfl (r_getR C dX12_firstLine_27 fd_X12_51 nM_0 sM_0 rfl (r_iload_n C dX12_firstLine_30 rfl rfl (r_iald C dX12_firstLine_31 nM_16 sM_16 ?_ (r_iload_n C dX12_firstLine_32 rfl rfl (r_icmp_ne C (tgt := 60) dX12_firstLine_33 rfl (fun c33 => (r_iinc C dX12_firstLine_60 rfl (by decide) (r_goto C (tgt := 18) dX12_firstLine_63 rfl ?_))) (fun c33 => (r_aload_n C dX12_firstLine_36 rfl rfl (r_getR C dX12_firstLine_37 fd_X12_96 nM_0 sM_0 rfl (r_aload_n C dX12_firstLine_40 rfl rfl (r_getR C dX12_firstLine_41 fd_X12_54 nM_0 sM_0 rfl (r_iload_n C dX12_firstLine_44 rfl rfl (r_iald C dX12_firstLine_45 nM_17 sM_17 ?_ (r_iald C dX12_firstLine_46 nM_31 sM_31 ?_ (r_aload_n C dX12_firstLine_47 rfl rfl (r_getR C dX12_firstLine_48 fd_X12_96 nM_0 sM_0 rfl (r_iload_n C dX12_firstLine_51 rfl rfl (r_iald C dX12_firstLine_52 nM_31 sM_31 ?_ (r_iconst C dX12_firstLine_53 (r_isub C dX12_firstLine_54 (r_icmp_ne C (tgt := 60) dX12_firstLine_55 rfl (fun c55 => (r_iinc C dX12_firstLine_60 rfl (by decide) (r_goto C (tgt := 18) dX12_firstLine_63 rfl ?_))) (fun c55 => (r_iload_n C dX12_firstLine_58 rfl rfl (r_iret C dX12_firstLine_59 ?_)))))))))))))))))))))))))))))
      · rw [e19] at c23
        exact absurd ⟨f2, f3⟩ (hI _ (by omega))
      · rw [e19] at c23; omega
      · rw [e19] at c23
        rw [e16] at c33
        exact more (fun q => c33 (by omega)) (by omega)
      · rw [e19] at c23; omega
      · rw [e17]; omega
      · omega
      · rw [e19] at c23
        rw [e17, t17, e54, q2] at c55
        exact more (fun q => c55 q.2) (by omega)
      · rw [e19] at c23
        rw [e16] at c33
        rw [e17, t17, e54, q2] at c55
        have e : mfl μ to s = l := by
          rcases Nat.lt_trichotomy (mfl μ to s) l with a | a | a
          · exact absurd ⟨f2, f3⟩ (hI _ a)
          · exact a
          · exact absurd ⟨by omega, c55⟩ (f4 l a)
        exact ⟨by rw [eR, e, hv], hO⟩
  refine (r_aload_n C dX12_firstLine_0 rfl rfl (r_iload_n C dX12_firstLine_1 rfl rfl (r_v1N C yv_X12_leads lk_X12_349 dX12_firstLine_2 rfl nM_0 sM_0 rfl (Nat.le_of_ble_eq_true rfl) (ok_X12_leads ?_) (fun μ2 h2 => (r_aload_n C dX12_firstLine_5 rfl rfl (r_getR C dX12_firstLine_6 fd_X12_96 nM_0 sM_0 rfl (r_iload_n C dX12_firstLine_9 rfl rfl (r_iald C dX12_firstLine_10 nM_31 sM_31 ?_ (r_if_gt C (tgt := 16) dX12_firstLine_11 rfl (fun c11 => (r_iconst C dX12_firstLine_16 (r_istore_n C dX12_firstLine_17 rfl (by decide) ?_))) (fun c11 => (r_iconst C dX12_firstLine_14 (r_iret C dX12_firstLine_15 ?_))))))))))))
  · exact ⟨h, hy⟩
  · omega
  · obtain ⟨hF, hO⟩ := h2
    rw [← hto] at hF
    have hFs := hF s (by omega)
    rw [es] at c11
    have c : 0 < mds μ to s ∧ mds μ to s < 6 := by
      split at hFs <;> omega
    exact loop μ2 hF hO c.1 c.2 (mln μ) 0 _ (by omega) (by simp (disch := (first | omega | (simp (disch := omega) only [ti_ofInt, ti_addc, ti_subc, ti_mulc, ti_cmul, ti_divc, ti_remc, ti_zero, ti_add, ti_sub, ti_neg, if_lt_ti, if_gt_ti, bP_e0, Classical.not_not, tl_i2l]; omega))) only [ti_ofInt, ti_addc, ti_subc, ti_mulc, ti_cmul, ti_divc, ti_remc, ti_zero, ti_add, ti_sub, ti_neg, if_lt_ti, if_gt_ti, bP_e0, Classical.not_not, tl_i2l]; rfl) (fun i hi => absurd hi (Nat.not_lt_zero _))
  · obtain ⟨hF, hO⟩ := h2
    rw [← hto] at hF
    have hFs := hF s (by omega)
    rw [es] at c11
    refine ⟨?_, hO⟩
    unfold mfL
    rw [if_neg (fun c => by rw [if_pos c.2] at hFs; omega), mm]

