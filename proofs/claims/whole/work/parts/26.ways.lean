/-! ===== Lines: routes ===== -/
def kst_ (μ : kMem) : Nat → Nat := fun l => (μ.1 19 l).toInt.toNat
def ken_ (μ : kMem) : Nat → Nat := fun l => (μ.1 20 l).toInt.toNat
def kln (μ : kMem) : Nat := (μ.1 18 7).toInt.toNat
noncomputable def kds (μ : kMem) (to s : Nat) : Nat := dsF (kst_ μ) (ken_ μ) (kln μ) to s
noncomputable def kfl (μ : kMem) (to s : Nat) : Nat := flF (kst_ μ) (ken_ μ) (kln μ) to s
noncomputable def ksn (μ : kMem) (to s : Nat) : Nat → Nat := snF (kst_ μ) (ken_ μ) (kln μ) to s
/-- the lines themselves have not changed -/
def lSame (μ μ' : kMem) : Prop := (∀ b : Nat, b ≠ 6 → μ'.1 18 b = μ.1 18 b) ∧ ∀ a b : Nat, 18 < a → a < 23 → μ'.1 a b = μ.1 a b
theorem lSame_all {μ μ' : kMem} (h : lSame μ μ') : kds μ' = kds μ ∧ kfl μ' = kfl μ ∧ ksn μ' = ksn μ ∧ (kLnOk μ → kLnOk μ') ∧ kst_ μ' = kst_ μ ∧ ken_ μ' = ken_ μ ∧ kln μ' = kln μ ∧ kbi μ' = kbi μ := by
  obtain ⟨h1, h2⟩ := h
  have e1 : kst_ μ' = kst_ μ := by unfold kst_; simp (disch := omega) only [h2]
  have e2 : ken_ μ' = ken_ μ := by unfold ken_; simp (disch := omega) only [h2]
  have e3 : kln μ' = kln μ := by unfold kln; simp (disch := omega) only [h1]
  refine ⟨?_, ?_, ?_, ?_, e1, e2, e3, ?_⟩
  · unfold kds; rw [e1, e2, e3]
  · unfold kfl; rw [e1, e2, e3]
  · unfold ksn; rw [e1, e2, e3]
  · intro q
    unfold kLnOk at q ⊢
    simp (disch := omega) only [h1, h2]
    exact q
  · funext x
    unfold kbi
    simp (disch := omega) only [h1, h2]
theorem kLn_st {μ : kMem} (h : kLnOk μ) (l : Nat) : kst_ μ l < 6 ∧ ken_ μ l < 6 ∧ (kst_ μ l : Int) = (μ.1 19 l).toInt ∧ (ken_ μ l : Int) = (μ.1 20 l).toInt := by
  have := h.2.2 l
  unfold kst_ ken_
  omega
theorem kLn_n {μ : kMem} (h : kLnOk μ) : (kln μ : Int) = (μ.1 18 7).toInt ∧ kln μ ≤ 8 := by
  have := h.1
  unfold kln
  omega
def kDis (μ0 : kMem) (to : Nat) (μ : kMem) : Prop := ∀ s : Nat, s < 6 → (μ.1 23 s).toInt = if kds μ0 to s < 6 then (kds μ0 to s : Int) else 1000
theorem ok_X4_measureDistances {x : Int32} {μ : kMem} (h : kLnOk μ ∧ 0 ≤ x.toInt ∧ x.toInt < 6) : kOk yX4_measureDistances cX4_measureDistances 5 (none) rmX4_measureDistances shK 68 [.ref 18, .int x] μ (kN fun μ' => kDis μ x.toInt.toNat μ' ∧ ∀ a b : Nat, a ≠ 23 → μ'.1 a b = μ.1 a b) := by
  obtain ⟨h, hx, hx2⟩ := h
  obtain ⟨to, hto⟩ : ∃ to : Nat, x.toInt = to := ⟨x.toInt.toNat, by omega⟩
  have eto : x.toInt.toNat = to := by omega
  rw [eto]
  have hn := kLn_n h
  have m6 : (Int32.ofInt 6).toInt = 6 := by decide
  have m5 : (Int32.ofInt 5).toInt = 5 := by decide
  refine kOk.of rfl (Nat.le_of_ble_eq_true rfl) (fun J C => ?_)
  have C : kR cX4_measureDistances RX4 5 rmX4_measureDistances shK 68 (none) _ J := C
  have loop2 : ∀ (k r : Nat) (v : Int32) (μ' : kMem) (z1 z2 : Option Value), r + k = 5 → v.toInt = r → bfI (kst_ μ) (ken_ μ) (kln μ) to r 0 (fun s => (μ'.1 23 s).toInt) → (∀ a b : Nat, a ≠ 23 → μ'.1 a b = μ.1 a b) → J 34 [some (.ref 18), some (.int x), some (.int v), z1, z2] [] μ' := by
    intro k
    induction k using Nat.strongRecOn with
    | ind k ih =>
      intro r v μ' z1 z2 hk hv hI hO
      have loop3 : ∀ (j l : Nat) (u : Int32) (μ1 : kMem) (z : Option Value), l + j = kln μ → r < 5 → u.toInt = l → bfI (kst_ μ) (ken_ μ) (kln μ) to r l (fun s => (μ1.1 23 s).toInt) → (∀ a b : Nat, a ≠ 23 → μ1.1 a b = μ.1 a b) → J 41 [some (.ref 18), some (.int x), some (.int v), some (.int u), z] [] μ1 := by
        intro j
        induction j using Nat.strongRecOn with
        | ind j ih3 =>
          intro l u μ1 z hj hr hu hI1 hO1
          have hst := kLn_st h l
          have eul : u.toInt.toNat = l := by omega
          have hsz : (μ1.1 18 7).toInt = kln μ := by rw [hO1 18 7 (by decide)]; omega
          have e19 : (μ1.1 19 u.toInt.toNat).toInt = kst_ μ l := by rw [eul, hO1 19 l (by decide)]; omega
          have e20 : (μ1.1 20 u.toInt.toNat).toInt = ken_ μ l := by rw [eul, hO1 20 l (by decide)]; omega
          have b1 := hI1.1 _ hst.1
          have b2 := hI1.1 _ hst.2.1
          dsimp only at b1 b2
          have min1 : (if μ1.1 23 (ken_ μ l) + Int32.ofInt 1 < μ1.1 23 (kst_ μ l) then μ1.1 23 (ken_ μ l) + Int32.ofInt 1 else μ1.1 23 (kst_ μ l)).toInt = min (μ1.1 23 (kst_ μ l)).toInt ((μ1.1 23 (ken_ μ l)).toInt + 1) := by
            rw [if_lt_ti, ti_addc (by omega)]
          refine (r_iload_n C dX4_measureDistances_41 rfl rfl (r_aload_n C dX4_measureDistances_42 rfl rfl (r_getI C dX4_measureDistances_43 fd_X4_30 nK_18 sK_18 rfl (r_icmp_ge C (tgt := 97) dX4_measureDistances_46 rfl (fun c46 => (r_iinc C dX4_measureDistances_97 rfl (by decide) (r_goto C (tgt := 34) dX4_measureDistances_100 rfl ?_))) (fun c46 => (r_aload_n C dX4_measureDistances_49 rfl rfl (r_getR C dX4_measureDistances_50 fd_X4_24 nK_18 sK_18 rfl (r_aload_n C dX4_measureDistances_53 rfl rfl (r_getR C dX4_measureDistances_54 fd_X4_15 nK_18 sK_18 rfl (r_iload_n C dX4_measureDistances_57 rfl rfl (r_iald C dX4_measureDistances_58 nK_20 sK_20 ?_ (r_iald C dX4_measureDistances_59 nK_23 sK_23 ?_ (r_iconst C dX4_measureDistances_60 (r_iadd C dX4_measureDistances_61 (r_istore C dX4_measureDistances_62 (by decide) (r_aload_n C dX4_measureDistances_64 rfl rfl (r_getR C dX4_measureDistances_65 fd_X4_24 nK_18 sK_18 rfl (r_aload_n C dX4_measureDistances_68 rfl rfl (r_getR C dX4_measureDistances_69 fd_X4_11 nK_18 sK_18 rfl (r_iload_n C dX4_measureDistances_72 rfl rfl (r_iald C dX4_measureDistances_73 nK_19 sK_19 ?_ (r_aload_n C dX4_measureDistances_74 rfl rfl (r_getR C dX4_measureDistances_75 fd_X4_24 nK_18 sK_18 rfl (r_aload_n C dX4_measureDistances_78 rfl rfl (r_getR C dX4_measureDistances_79 fd_X4_11 nK_18 sK_18 rfl (r_iload_n C dX4_measureDistances_82 rfl rfl (r_iald C dX4_measureDistances_83 nK_19 sK_19 ?_ (r_iald C dX4_measureDistances_84 nK_23 sK_23 ?_ (r_iload C dX4_measureDistances_85 rfl (r_min C mh_X4_56 dX4_measureDistances_87 ⟨rfl, rfl⟩ (Nat.le_of_ble_eq_true rfl) (r_iast C dX4_measureDistances_90 nK_23 sK_23 ?_ (r_iinc C dX4_measureDistances_91 rfl (by decide) (r_goto C (tgt := 41) dX4_measureDistances_94 rfl ?_)))))))))))))))))))))))))))))))))
          · have el : l = kln μ := by omega
            subst el
            exact ih (k - 1) (by omega) (r + 1) _ _ _ _ (by omega) (by simp (disch := (first | omega | (simp (disch := omega) only [ti_ofInt, ti_addc, ti_subc, ti_mulc, ti_cmul, ti_divc, ti_remc, ti_zero, ti_add, ti_sub, ti_neg, if_lt_ti, if_gt_ti, bP_e0, Classical.not_not, tl_i2l]; omega))) only [ti_ofInt, ti_addc, ti_subc, ti_mulc, ti_cmul, ti_divc, ti_remc, ti_zero, ti_add, ti_sub, ti_neg, if_lt_ti, if_gt_ti, bP_e0, Classical.not_not, tl_i2l]; omega) (bfI_round hI1) hO1
          · omega
          · omega
          · omega
          · omega
          · omega
          · omega
          · rw [e19, e20, Int.toNat_natCast, Int.toNat_natCast]
            refine ih3 (j - 1) (by omega) (l + 1) _ _ _ (by omega) hr (by simp (disch := (first | omega | (simp (disch := omega) only [ti_ofInt, ti_addc, ti_subc, ti_mulc, ti_cmul, ti_divc, ti_remc, ti_zero, ti_add, ti_sub, ti_neg, if_lt_ti, if_gt_ti, bP_e0, Classical.not_not, tl_i2l]; omega))) only [ti_ofInt, ti_addc, ti_subc, ti_mulc, ti_cmul, ti_divc, ti_remc, ti_zero, ti_add, ti_sub, ti_neg, if_lt_ti, if_gt_ti, bP_e0, Classical.not_not, tl_i2l]; omega) ?_ ?_
            · refine bfI_step (by omega) ⟨hst.1, hst.2.1⟩ hI1 ?_ ?_
              · rw [up_same, min1]
              · intro s hs
                rw [up_nek _ _ hs]
            · intro a b n1
              rw [up_neo _ _ n1]
              exact hO1 a b n1
      refine (r_iload_n C dX4_measureDistances_34 rfl rfl (r_iconst C dX4_measureDistances_35 (r_icmp_ge C (tgt := 103) dX4_measureDistances_36 rfl (fun c36 => (r_ret C dX4_measureDistances_103 ?_)) (fun c36 => (r_iconst C dX4_measureDistances_39 (r_istore_n C dX4_measureDistances_40 rfl (by decide) ?_))))))
      · have er : r = 5 := by omega
        subst er
        refine ⟨fun s hs => ?_, hO⟩
        exact bfI_end (by omega) (fun l _ => (kLn_st h l).1) hI hs
      · exact loop3 (kln μ) 0 _ _ _ (by omega) (by omega) (by simp (disch := (first | omega | (simp (disch := omega) only [ti_ofInt, ti_addc, ti_subc, ti_mulc, ti_cmul, ti_divc, ti_remc, ti_zero, ti_add, ti_sub, ti_neg, if_lt_ti, if_gt_ti, bP_e0, Classical.not_not, tl_i2l]; omega))) only [ti_ofInt, ti_addc, ti_subc, ti_mulc, ti_cmul, ti_divc, ti_remc, ti_zero, ti_add, ti_sub, ti_neg, if_lt_ti, if_gt_ti, bP_e0, Classical.not_not, tl_i2l]; rfl) hI hO
  have loop : ∀ (k s : Nat) (v : Int32) (μ' : kMem) (z1 z2 : Option Value), s + k = 6 → v.toInt = s → (∀ i : Nat, i < s → (μ'.1 23 i).toInt = if i = to then 0 else 1000) → (∀ a b : Nat, a ≠ 23 → μ'.1 a b = μ.1 a b) → J 2 [some (.ref 18), some (.int x), some (.int v), z1, z2] [] μ' := by
    intro k
    induction k using Nat.strongRecOn with
    | ind k ih =>
      intro s v μ' z1 z2 hk hv hI hO
      have evs : v.toInt.toNat = s := by omega
      refine (r_iload_n C dX4_measureDistances_2 rfl rfl (r_bipush C dX4_measureDistances_3 (by decide +kernel) (r_icmp_ge C (tgt := 32) dX4_measureDistances_5 rfl (fun c5 => (r_iconst C dX4_measureDistances_32 (r_istore_n C dX4_measureDistances_33 rfl (by decide) ?_))) (fun c5 => (r_aload_n C dX4_measureDistances_8 rfl rfl (r_getR C dX4_measureDistances_9 fd_X4_24 nK_18 sK_18 rfl (r_iload_n C dX4_measureDistances_12 rfl rfl (r_iload_n C dX4_measureDistances_13 rfl rfl (r_iload_n C dX4_measureDistances_14 rfl rfl (r_icmp_ne C (tgt := 22) dX4_measureDistances_15 rfl (fun c15 => (r_sipush C dX4_measureDistances_22 (by decide +kernel) (r_iast C dX4_measureDistances_25 nK_23 sK_23 ?_ (r_iinc C dX4_measureDistances_26 rfl (by decide) (r_goto C (tgt := 2) dX4_measureDistances_29 rfl ?_))))) (fun c15 => (r_iconst C dX4_measureDistances_18 (r_goto C (tgt := 25) dX4_measureDistances_19 rfl (r_iast C dX4_measureDistances_25 nK_23 sK_23 ?_ (r_iinc C dX4_measureDistances_26 rfl (by decide) (r_goto C (tgt := 2) dX4_measureDistances_29 rfl ?_))))))))))))))))
      · have es : s = 6 := by omega
        subst es
        exact loop2 5 0 _ _ _ _ rfl (by simp (disch := (first | omega | (simp (disch := omega) only [ti_ofInt, ti_addc, ti_subc, ti_mulc, ti_cmul, ti_divc, ti_remc, ti_zero, ti_add, ti_sub, ti_neg, if_lt_ti, if_gt_ti, bP_e0, Classical.not_not, tl_i2l]; omega))) only [ti_ofInt, ti_addc, ti_subc, ti_mulc, ti_cmul, ti_divc, ti_remc, ti_zero, ti_add, ti_sub, ti_neg, if_lt_ti, if_gt_ti, bP_e0, Classical.not_not, tl_i2l]; rfl) (bfI_zero (D := fun s => (μ'.1 23 s).toInt) hI (by omega)) hO
      · omega
      · refine ih (k - 1) (by omega) (s + 1) _ _ _ _ (by omega) (by simp (disch := (first | omega | (simp (disch := omega) only [ti_ofInt, ti_addc, ti_subc, ti_mulc, ti_cmul, ti_divc, ti_remc, ti_zero, ti_add, ti_sub, ti_neg, if_lt_ti, if_gt_ti, bP_e0, Classical.not_not, tl_i2l]; omega))) only [ti_ofInt, ti_addc, ti_subc, ti_mulc, ti_cmul, ti_divc, ti_remc, ti_zero, ti_add, ti_sub, ti_neg, if_lt_ti, if_gt_ti, bP_e0, Classical.not_not, tl_i2l]; omega) ?_ ?_
        · intro i hi
          rw [evs]
          by_cases e : i = s
          · subst e
            rw [up_same, if_neg (by omega)]
            decide
          · rw [up_nek _ _ e]
            exact hI i (by omega)
        · intro a b n1
          rw [up_neo _ _ n1]
          exact hO a b n1
      · omega
      · refine ih (k - 1) (by omega) (s + 1) _ _ _ _ (by omega) (by simp (disch := (first | omega | (simp (disch := omega) only [ti_ofInt, ti_addc, ti_subc, ti_mulc, ti_cmul, ti_divc, ti_remc, ti_zero, ti_add, ti_sub, ti_neg, if_lt_ti, if_gt_ti, bP_e0, Classical.not_not, tl_i2l]; omega))) only [ti_ofInt, ti_addc, ti_subc, ti_mulc, ti_cmul, ti_divc, ti_remc, ti_zero, ti_add, ti_sub, ti_neg, if_lt_ti, if_gt_ti, bP_e0, Classical.not_not, tl_i2l]; omega) ?_ ?_
        · intro i hi
          rw [evs]
          by_cases e : i = s
          · subst e
            rw [up_same, if_pos (by omega)]
            decide
          · rw [up_nek _ _ e]
            exact hI i (by omega)
        · intro a b n1
          rw [up_neo _ _ n1]
          exact hO a b n1
  refine (r_iconst C dX4_measureDistances_0 (r_istore_n C dX4_measureDistances_1 rfl (by decide) ?_))
  exact loop 6 0 _ _ _ _ rfl (by simp (disch := (first | omega | (simp (disch := omega) only [ti_ofInt, ti_addc, ti_subc, ti_mulc, ti_cmul, ti_divc, ti_remc, ti_zero, ti_add, ti_sub, ti_neg, if_lt_ti, if_gt_ti, bP_e0, Classical.not_not, tl_i2l]; omega))) only [ti_ofInt, ti_addc, ti_subc, ti_mulc, ti_cmul, ti_divc, ti_remc, ti_zero, ti_add, ti_sub, ti_neg, if_lt_ti, if_gt_ti, bP_e0, Classical.not_not, tl_i2l]; rfl) (fun i hi => by omega) (fun _ _ _ => rfl)
theorem ok_X4_firstTowards {x : Int32} {to : Nat} {μ : kMem} (h : kLnOk μ ∧ kDis μ to μ ∧ 0 ≤ x.toInt ∧ x.toInt < 6 ∧ 0 < kds μ to x.toInt.toNat ∧ kds μ to x.toInt.toNat < 6) : kOk yX4_firstTowards cX4_firstTowards 3 (some .int) rmX4_firstTowards shK 68 [.ref 18, .int x] μ (kP (Int32.ofInt (kfl μ to x.toInt.toNat)) μ) := by
  obtain ⟨h, hD, hx, hx2, h0, h6⟩ := h
  obtain ⟨s, hs⟩ : ∃ s : Nat, x.toInt = s := ⟨x.toInt.toNat, by omega⟩
  have es : x.toInt.toNat = s := by omega
  rw [es] at h0 h6 ⊢
  have hn := kLn_n h
  obtain ⟨f1, f2, f3, f4⟩ := flF_ok h0 h6
  have f1 : kfl μ to s < kln μ := f1
  have f4 : ∀ i, i < kfl μ to s → ¬ (kst_ μ i = s ∧ kds μ to (ken_ μ i) + 1 = kds μ to s) := f4
  have f2 : kst_ μ (kfl μ to s) = s := f2
  have f3 : kds μ to (ken_ μ (kfl μ to s)) + 1 = kds μ to s := f3
  have hDs := hD s (by omega)
  rw [if_pos h6] at hDs
  refine kOk.of rfl (Nat.le_of_ble_eq_true rfl) (fun J C => ?_)
  have C : kR cX4_firstTowards RX4 3 rmX4_firstTowards shK 68 (some .int) _ J := C
  have loop : ∀ (k l : Nat) (v : Int32), l + k = kln μ → v.toInt = l → l ≤ kfl μ to s → J 2 [some (.ref 18), some (.int x), some (.int v)] [] μ := by
    intro k
    induction k using Nat.strongRecOn with
    | ind k ih =>
      intro l v hk hv hl
      have evl : v.toInt.toNat = l := by omega
      have hst := kLn_st h l
      have e19 : (μ.1 19 v.toInt.toNat).toInt = kst_ μ l := by rw [evl]; omega
      have e20 : (μ.1 20 v.toInt.toNat).toInt = ken_ μ l := by rw [evl]; omega
      have hDl := hD (ken_ μ l) hst.2.1
      have m1 : (μ.1 23 s - Int32.ofInt 1).toInt = (kds μ to s : Int) - 1 := by rw [ti_subc (by omega), hDs]
      have next : ¬ l = kfl μ to s → J 2 [some (.ref 18), some (.int x), some (.int (v + Int32.ofInt 1))] [] μ := fun q => ih (k - 1) (by omega) (l + 1) _ (by omega) (by simp (disch := (first | omega | (simp (disch := omega) only [ti_ofInt, ti_addc, ti_subc, ti_mulc, ti_cmul, ti_divc, ti_remc, ti_zero, ti_add, ti_sub, ti_neg, if_lt_ti, if_gt_ti, bP_e0, Classical.not_not, tl_i2l]; omega))) only [ti_ofInt, ti_addc, ti_subc, ti_mulc, ti_cmul, ti_divc, ti_remc, ti_zero, ti_add, ti_sub, ti_neg, if_lt_ti, if_gt_ti, bP_e0, Classical.not_not, tl_i2l]; omega) (by omega)
      refine (r_iload_n C dX4_firstTowards_2 rfl rfl (r_aload_n C dX4_firstTowards_3 rfl rfl (r_getI C dX4_firstTowards_4 fd_X4_30 nK_18 sK_18 rfl (r_icmp_ge C (tgt := 50) dX4_firstTowards_7 rfl (fun c7 => (r_iconst C dX4_firstTowards_50 (r_iret C dX4_firstTowards_51 ?_))) (fun c7 => (r_aload_n C dX4_firstTowards_10 rfl rfl (r_getR C dX4_firstTowards_11 fd_X4_11 nK_18 sK_18 rfl (r_iload_n C dX4_firstTowards_14 rfl rfl (r_iald C dX4_firstTowards_15 nK_19 sK_19 ?_ (r_iload_n C dX4_firstTowards_16 rfl rfl (r_icmp_ne C (tgt := 44) dX4_firstTowards_17 rfl (fun c17 => (r_iinc C dX4_firstTowards_44 rfl (by decide) (r_goto C (tgt := 2) dX4_firstTowards_47 rfl ?_))) (fun c17 => (r_aload_n C dX4_firstTowards_20 rfl rfl (r_getR C dX4_firstTowards_21 fd_X4_24 nK_18 sK_18 rfl (r_aload_n C dX4_firstTowards_24 rfl rfl (r_getR C dX4_firstTowards_25 fd_X4_15 nK_18 sK_18 rfl (r_iload_n C dX4_firstTowards_28 rfl rfl (r_iald C dX4_firstTowards_29 nK_20 sK_20 ?_ (r_iald C dX4_firstTowards_30 nK_23 sK_23 ?_ (r_aload_n C dX4_firstTowards_31 rfl rfl (r_getR C dX4_firstTowards_32 fd_X4_24 nK_18 sK_18 rfl (r_iload_n C dX4_firstTowards_35 rfl rfl (r_iald C dX4_firstTowards_36 nK_23 sK_23 ?_ (r_iconst C dX4_firstTowards_37 (r_isub C dX4_firstTowards_38 (r_icmp_ne C (tgt := 44) dX4_firstTowards_39 rfl (fun c39 => (r_iinc C dX4_firstTowards_44 rfl (by decide) (r_goto C (tgt := 2) dX4_firstTowards_47 rfl ?_))) (fun c39 => (r_iload_n C dX4_firstTowards_42 rfl rfl (r_iret C dX4_firstTowards_43 ?_)))))))))))))))))))))))))))))
      · omega
      · omega
      · exact next (fun q => by rw [q] at e19; omega)
      · omega
      · omega
      · omega
      · rw [es, e20, Int.toNat_natCast, hDl, m1] at c39
        exact next (fun q => by
          rw [q] at c39
          rw [if_pos (by omega)] at c39
          omega)
      · rw [es, e20, Int.toNat_natCast, hDl, m1] at c39
        have el : ¬ l < kfl μ to s := fun q => f4 l q ⟨by omega, by
          split at c39 <;> omega⟩
        refine ⟨ti_ext ?_, rfl⟩
        rw [ti_ofInt (by omega)]
        omega
  refine (r_iconst C dX4_firstTowards_0 (r_istore_n C dX4_firstTowards_1 rfl (by decide) ?_))
  exact loop (kln μ) 0 _ (by omega) (by simp (disch := (first | omega | (simp (disch := omega) only [ti_ofInt, ti_addc, ti_subc, ti_mulc, ti_cmul, ti_divc, ti_remc, ti_zero, ti_add, ti_sub, ti_neg, if_lt_ti, if_gt_ti, bP_e0, Classical.not_not, tl_i2l]; omega))) only [ti_ofInt, ti_addc, ti_subc, ti_mulc, ti_cmul, ti_divc, ti_remc, ti_zero, ti_add, ti_sub, ti_neg, if_lt_ti, if_gt_ti, bP_e0, Classical.not_not, tl_i2l]; rfl) (by omega)
theorem ok_X4_findRoute {x y : Int32} {μ : kMem} (h : kLnOk μ) : kOk yX4_findRoute cX4_findRoute 7 (some .int) rmX4_findRoute shK 68 [.ref 18, .int x, .int y] μ (kI fun r μ' => (∀ a b : Nat, ¬ (a = 18 ∧ b = 6) → a ≠ 23 → a ≠ 24 → μ'.1 a b = μ.1 a b) ∧ ((r = Int32.ofInt (-1) ∧ (μ'.1 18 6).toInt = 0 ∧ ((0 ≤ x.toInt ∧ x.toInt < 6 ∧ 0 ≤ y.toInt ∧ y.toInt < 6 ∧ x.toInt ≠ y.toInt) → ¬ kds μ y.toInt.toNat x.toInt.toNat < 6)) ∨ ((0 ≤ x.toInt ∧ x.toInt < 6 ∧ 0 ≤ y.toInt ∧ y.toInt < 6 ∧ x.toInt ≠ y.toInt) ∧ kds μ y.toInt.toNat x.toInt.toNat < 6 ∧ r.toInt = kds μ y.toInt.toNat x.toInt.toNat ∧ (μ'.1 18 6).toInt = r.toInt ∧ ∀ i, i < kds μ y.toInt.toNat x.toInt.toNat → (μ'.1 24 i).toInt = kfl μ y.toInt.toNat (ksn μ y.toInt.toNat x.toInt.toNat i)))) := by
  have m5 : (Int32.ofInt 5).toInt = 5 := by decide
  by_cases hxy : 0 ≤ x.toInt ∧ x.toInt < 6 ∧ 0 ≤ y.toInt ∧ y.toInt < 6 ∧ x.toInt ≠ y.toInt
  · obtain ⟨s, hs⟩ : ∃ s : Nat, x.toInt = s := ⟨x.toInt.toNat, by omega⟩
    obtain ⟨to, hto⟩ : ∃ to : Nat, y.toInt = to := ⟨y.toInt.toNat, by omega⟩
    have es : x.toInt.toNat = s := by omega
    have eto : y.toInt.toNat = to := by omega
    have d0 : 0 < kds μ to s := by
      rcases Nat.eq_zero_or_pos (kds μ to s) with q | q
      · have q : s = to := dsF_zero.mp q
        omega
      · exact q
    have eS : ∀ μ' : kMem, (∀ a b : Nat, ¬ (a = 18 ∧ b = 6) → a ≠ 23 → a ≠ 24 → μ'.1 a b = μ.1 a b) → lSame μ μ' := fun μ' hO => ⟨fun b n1 => hO _ _ (by omega) (by omega) (by omega), fun a b n1 n2 => hO _ _ (by omega) (by omega) (by omega)⟩
    have eO : ∀ μ' : kMem, (∀ a b : Nat, a ≠ 23 → μ'.1 a b = (up μ 18 6 (Int32.ofInt 0)).1 a b) → ∀ a b : Nat, ¬ (a = 18 ∧ b = 6) → a ≠ 23 → a ≠ 24 → μ'.1 a b = μ.1 a b := fun μ' q a b n1 n2 n3 => by rw [q a b n2, up_ne _ _ (by omega)]
    have s0 := lSame_all (eS _ (eO (up μ 18 6 (Int32.ofInt 0)) (fun _ _ _ => rfl)))
    simp only [es, eto]
    refine kOk.of rfl (Nat.le_of_ble_eq_true rfl) (fun J C => ?_)
    have C : kR cX4_findRoute RX4 7 rmX4_findRoute shK 68 (some .int) _ J := C
    have loop : ∀ (k i : Nat) (v u d : Int32) (μ' : kMem) (z : Option Value), kds μ to s < 6 → d.toInt = kds μ to s → i + k = kds μ to s → v.toInt = ksn μ to s i → u.toInt = i → (μ'.1 18 6).toInt = 0 → kDis μ to μ' → (∀ j, j < i → (μ'.1 24 j).toInt = kfl μ to (ksn μ to s j)) → (∀ a b : Nat, ¬ (a = 18 ∧ b = 6) → a ≠ 23 → a ≠ 24 → μ'.1 a b = μ.1 a b) → J 40 [some (.ref 18), some (.int x), some (.int y), some (.int d), some (.int v), some (.int u), z] [] μ' := by
      intro k
      induction k using Nat.strongRecOn with
      | ind k ih =>
        intro i v u d μ' z h6 hd hk hv hu h186 hD hF hO
        have sA := lSame_all (eS μ' hO)
        have hDi : kds μ to (ksn μ to s i) + i = kds μ to s := snF_ds h6 i (show i ≤ kds μ to s by omega)
        have hq : i < kds μ to s → kfl μ to (ksn μ to s i) < kln μ ∧ kst_ μ (kfl μ to (ksn μ to s i)) = ksn μ to s i := by
          intro q
          have := flF_ok (st := kst_ μ) (en := ken_ μ) (n := kln μ) (to := to) (s := ksn μ to s i) (show 0 < kds μ to (ksn μ to s i) by omega) (show kds μ to (ksn μ to s i) < 6 by omega)
          exact ⟨this.1, this.2.1⟩
        have hn := kLn_n h
        have ev : v.toInt.toNat = ksn μ to s i := by omega
        have hp : i < kds μ to s → kLnOk μ' ∧ kDis μ' to μ' ∧ 0 ≤ v.toInt ∧ v.toInt < 6 ∧ 0 < kds μ' to v.toInt.toNat ∧ kds μ' to v.toInt.toNat < 6 := by
          intro q
          have h1 := hq q
          have h2 := kLn_st h (kfl μ to (ksn μ to s i))
          rw [h1.2] at h2
          rw [ev, sA.1]
          refine ⟨sA.2.2.2.1 h, ?_, by omega, by omega, by omega, by omega⟩
          unfold kDis at hD ⊢
          rw [sA.1]
          exact hD
        have ef : Int32.ofInt (kfl μ' to v.toInt.toNat) = Int32.ofInt (kfl μ to (ksn μ to s i)) := by rw [sA.2.1, ev]
        have if_ : i < kds μ to s → (Int32.ofInt (kfl μ to (ksn μ to s i))).toInt = kfl μ to (ksn μ to s i) := fun q => ti_ofInt (by have := hq q; omega)
        have m1 : (Int32.ofInt (-1)).toInt = -1 := by decide
        have eui : u.toInt.toNat = i := by omega
        refine (r_iload C dX4_findRoute_40 rfl (r_iload_n C dX4_findRoute_42 rfl rfl (r_icmp_ge C (tgt := 86) dX4_findRoute_43 rfl (fun c43 => (r_aload_n C dX4_findRoute_86 rfl rfl (r_iload_n C dX4_findRoute_87 rfl rfl (r_putI C dX4_findRoute_88 fw_X4_41 nK_18 sK_18 rfl (r_iload_n C dX4_findRoute_91 rfl rfl (r_iret C dX4_findRoute_92 ?_)))))) (fun c43 => (r_aload_n C dX4_findRoute_46 rfl rfl (r_iload C dX4_findRoute_47 rfl (r_v1P C yv_X4_firstTowards lk_X4_52 dX4_findRoute_49 rfl nK_18 sK_18 rfl (Nat.le_of_ble_eq_true rfl) (ok_X4_firstTowards (hp (by omega))) (r_istore C dX4_findRoute_52 (by decide) (r_iload C dX4_findRoute_54 rfl (r_iconst C dX4_findRoute_56 (r_icmp_ne C (tgt := 62) dX4_findRoute_57 rfl (fun c57 => (r_aload_n C dX4_findRoute_62 rfl rfl (r_getR C dX4_findRoute_63 fd_X4_27 nK_18 sK_18 rfl (r_iload C dX4_findRoute_66 rfl (r_iload C dX4_findRoute_68 rfl (r_iast C dX4_findRoute_70 nK_24 sK_24 ?_ (r_aload_n C dX4_findRoute_71 rfl rfl (r_getR C dX4_findRoute_72 fd_X4_15 nK_18 sK_18 rfl (r_iload C dX4_findRoute_75 rfl (r_iald C dX4_findRoute_77 nK_20 sK_20 ?_ (r_istore C dX4_findRoute_78 (by decide) (r_iinc C dX4_findRoute_80 rfl (by decide) (r_goto C (tgt := 40) dX4_findRoute_83 rfl ?_))))))))))))) (fun c57 => (r_iconst C dX4_findRoute_60 (r_iret C dX4_findRoute_61 ?_))))))))))))))
        · have ei : i = kds μ to s := by omega
          refine ⟨fun a b n1 n2 n3 => by rw [up_ne _ _ (by omega)]; exact hO a b n1 n2 n3, Or.inr ⟨hxy, h6, hd, by rw [up_same], fun j hj => ?_⟩⟩
          simp (disch := decide) only [up_same, up_neo, up_nek, up_2]
          exact hF j (by omega)
        · omega
        · have q : i < kds μ to s := by omega
          have h1 := hq q
          have h2 := if_ q
          rw [ef]
          omega
        · have q : i < kds μ to s := by omega
          have h1 := hq q
          have h2 := if_ q
          have h3 := kLn_st h (kfl μ to (ksn μ to s i))
          rw [ef, eui]
          refine ih (k - 1) (by omega) (i + 1) _ _ _ _ _ h6 hd (by omega) ?_ (by simp (disch := (first | omega | (simp (disch := omega) only [ti_ofInt, ti_addc, ti_subc, ti_mulc, ti_cmul, ti_divc, ti_remc, ti_zero, ti_add, ti_sub, ti_neg, if_lt_ti, if_gt_ti, bP_e0, Classical.not_not, tl_i2l]; omega))) only [ti_ofInt, ti_addc, ti_subc, ti_mulc, ti_cmul, ti_divc, ti_remc, ti_zero, ti_add, ti_sub, ti_neg, if_lt_ti, if_gt_ti, bP_e0, Classical.not_not, tl_i2l]; omega) ?_ ?_ ?_ ?_
          · simp (disch := decide) only [up_same, up_neo, up_nek, up_2]
            rw [h2, Int.toNat_natCast, hO 20 _ (by omega) (by decide) (by decide)]
            exact h3.2.2.2.symm
          · simp (disch := decide) only [up_same, up_neo, up_nek, up_2]
            exact h186
          · intro s' hs'
            simp (disch := decide) only [up_same, up_neo, up_nek, up_2]
            exact hD s' hs'
          · intro j hj
            by_cases e : j = i
            · subst e
              rw [up_same]
              exact h2
            · rw [up_nek _ _ e]
              exact hF j (by omega)
          · intro a b n1 n2 n3
            rw [up_neo _ _ n3]
            exact hO a b n1 n2 n3
        · exfalso
          have q : i < kds μ to s := by omega
          have h2 := if_ q
          rw [ef, m1] at c57
          omega
    refine (r_aload_n C dX4_findRoute_0 rfl rfl (r_iconst C dX4_findRoute_1 (r_putI C dX4_findRoute_2 fw_X4_41 nK_18 sK_18 rfl (r_iload_n C dX4_findRoute_5 rfl rfl (r_iload_n C dX4_findRoute_6 rfl rfl (r_n2P C ys_X11_areTwoStations lk_X4_44 dX4_findRoute_7 rfl (Nat.le_of_ble_eq_true rfl) ok_X11_areTwoStations (r_if_ne C (tgt := 15) dX4_findRoute_10 rfl (fun c10 => (r_aload_n C dX4_findRoute_15 rfl rfl (r_iload_n C dX4_findRoute_16 rfl rfl (r_v1N C yv_X4_measureDistances lk_X4_48 dX4_findRoute_17 rfl nK_18 sK_18 rfl (Nat.le_of_ble_eq_true rfl) (ok_X4_measureDistances ⟨s0.2.2.2.1 h, by omega, by omega⟩) (fun μ17 h17 => (r_aload_n C dX4_findRoute_20 rfl rfl (r_getR C dX4_findRoute_21 fd_X4_24 nK_18 sK_18 rfl (r_iload_n C dX4_findRoute_24 rfl rfl (r_iald C dX4_findRoute_25 nK_23 sK_23 ?_ (r_istore_n C dX4_findRoute_26 rfl (by decide) (r_iload_n C dX4_findRoute_27 rfl rfl (r_iconst C dX4_findRoute_28 (r_icmp_le C (tgt := 34) dX4_findRoute_29 rfl (fun c29 => (r_iload_n C dX4_findRoute_34 rfl rfl (r_istore C dX4_findRoute_35 (by decide) (r_iconst C dX4_findRoute_37 (r_istore C dX4_findRoute_38 (by decide) ?_))))) (fun c29 => (r_iconst C dX4_findRoute_32 (r_iret C dX4_findRoute_33 ?_)))))))))))))))) (fun c10 => (r_iconst C dX4_findRoute_13 (r_iret C dX4_findRoute_14 ?_))))))))))
    · have hD1 : kDis μ to μ17 := by
        have := h17.1
        rw [eto] at this
        unfold kDis at this ⊢
        rw [s0.1] at this
        exact this
      omega
    · have hD1 : kDis μ to μ17 := by
        have := h17.1
        rw [eto] at this
        unfold kDis at this ⊢
        rw [s0.1] at this
        exact this
      have hDs := hD1 s (by omega)
      rw [es, m5] at c29
      rw [es]
      have h6 : kds μ to s < 6 := by
        by_cases q : kds μ to s < 6
        · exact q
        · rw [if_neg q] at hDs; omega
      rw [if_pos h6] at hDs
      refine loop (kds μ to s) 0 _ _ _ μ17 _ h6 hDs (by omega) (by rw [hs]; rfl) (by simp (disch := (first | omega | (simp (disch := omega) only [ti_ofInt, ti_addc, ti_subc, ti_mulc, ti_cmul, ti_divc, ti_remc, ti_zero, ti_add, ti_sub, ti_neg, if_lt_ti, if_gt_ti, bP_e0, Classical.not_not, tl_i2l]; omega))) only [ti_ofInt, ti_addc, ti_subc, ti_mulc, ti_cmul, ti_divc, ti_remc, ti_zero, ti_add, ti_sub, ti_neg, if_lt_ti, if_gt_ti, bP_e0, Classical.not_not, tl_i2l]; rfl) ?_ hD1 (fun j hj => by omega) (eO μ17 h17.2)
      rw [h17.2 18 6 (by decide), up_same]
      decide
    · have hD1 : kDis μ to μ17 := by
        have := h17.1
        rw [eto] at this
        unfold kDis at this ⊢
        rw [s0.1] at this
        exact this
      have hDs := hD1 s (by omega)
      rw [es, m5] at c29
      refine ⟨eO μ17 h17.2, Or.inl ⟨rfl, ?_, fun _ h6 => ?_⟩⟩
      · rw [h17.2 18 6 (by decide), up_same]
        decide
      · rw [if_pos h6] at hDs
        omega
    · exact absurd (bP_e0.mp c10) (fun z => z ⟨⟨hxy.1, hxy.2.1⟩, ⟨hxy.2.2.1, hxy.2.2.2.1⟩, hxy.2.2.2.2⟩)
  · have hno : ¬ ((0 ≤ x.toInt ∧ x.toInt < 6) ∧ (0 ≤ y.toInt ∧ y.toInt < 6) ∧ ¬ x.toInt = y.toInt) := fun z => hxy ⟨z.1.1, z.1.2, z.2.1.1, z.2.1.2, z.2.2⟩
    refine kOk.of rfl (Nat.le_of_ble_eq_true rfl) (fun J C => ?_)
    have C : kR cX4_findRoute RX4 7 rmX4_findRoute shK 68 (some .int) _ J := C
    refine (r_aload_n C dX4_findRoute_0 rfl rfl (r_iconst C dX4_findRoute_1 (r_putI C dX4_findRoute_2 fw_X4_41 nK_18 sK_18 rfl (r_iload_n C dX4_findRoute_5 rfl rfl (r_iload_n C dX4_findRoute_6 rfl rfl (r_n2P C ys_X11_areTwoStations lk_X4_44 dX4_findRoute_7 rfl (Nat.le_of_ble_eq_true rfl) ok_X11_areTwoStations (r_if_ne C (tgt := 15) dX4_findRoute_10 rfl (fun c10 => ?_) (fun c10 => (r_iconst C dX4_findRoute_13 (r_iret C dX4_findRoute_14 ?_))))))))))
    · exact absurd (bP_ne c10) hno
    · refine ⟨fun a b n1 n2 n3 => by rw [up_ne _ _ (by omega)], Or.inl ⟨rfl, by rw [up_same]; decide, fun z => absurd z hxy⟩⟩

