/-! ===== Post: runAll ===== -/
theorem ok_X5_runAll {μ : kMem} (h : kLnOk μ ∧ kPsOk μ) : kOk yX5_runAll cX5_runAll 5 (none) rmX5_runAll shK 68 [.ref 37] μ (kN fun μ' => kPo (pRun (kpd μ) 8001) μ' ∧ pSame μ μ') := by
  obtain ⟨hl, hp⟩ := h
  have hn := kp_n hp
  have hd := kpd_ok hl hp
  have hln := kLn_n hl
  have m1 : (Int32.ofInt (-1)).toInt = -1 := by decide
  have m100 : (Int32.ofInt 100).toInt = 100 := by decide
  refine kOk.of rfl (Nat.le_of_ble_eq_true rfl) (fun J C => ?_)
  have C : kR cX5_runAll RX5 5 rmX5_runAll shK 68 (none) _ J := C
  have loop : ∀ (n i : Nat) (v : Int32) (s : kPs) (μ' : kMem) (z1 z2 z3 : Option Value), i + n = 100 → v.toInt = i → pKi (kpd μ) s i → kPo s μ' → pSame μ μ' → J 6 [some (.ref 37), some (.int v), z1, z2, z3] [] μ' := by
    intro n
    induction n using Nat.strongRecOn with
    | ind n ih =>
      intro i v s μ' z1 z2 z3 hi hv hK hP hS
      have hA := pSame_all hS
      have hF : ∀ l, 0 ≤ sF s l := by
        obtain ⟨⟨T, hT, -⟩, -⟩ := hK
        have := pIv_run hd T
        rw [← hT] at this
        exact fun l => (this.2 l).1
      have loop2 : ∀ (k l : Nat) (u t : Int32) (μ1 : kMem) (z : Option Value), i < 100 → l + k = kln μ → u.toInt = l → 0 ≤ t.toInt → pMin (kpd μ) s t.toInt → kPo (pLn (kpd μ) t.toInt s l) μ1 → pSame μ μ1 → J 25 [some (.ref 37), some (.int v), some (.int t), some (.int u), z] [] μ1 := by
        intro k
        induction k using Nat.strongRecOn with
        | ind k ih2 =>
          intro l u t μ1 z hi2 hk hu ht hM hP1 hS1
          have hA1 := pSame_all hS1
          have elu : u.toInt.toNat = l := by omega
          have hb := pMin_b hd hK hM
          have e18 : (μ1.1 18 7).toInt = kln μ := by rw [hS1 18 7 (by decide) (by decide) (by decide) (by decide)]; omega
          have e37 : (μ1.1 37 6).toInt = pNm (kpd μ) := by rw [hS1 37 6 (by decide) (by decide) (by decide) (by decide)]; omega
          have e48 : l < kln μ → (μ1.1 48 u.toInt.toNat).toInt = sF (pLn (kpd μ) t.toInt s l) l := fun q => by rw [elu]; exact hP1.2.2.2.2 l (by omega)
          have nx : l < kln μ → (u + Int32.ofInt 1).toInt = ((l + 1 : Nat) : Int) := fun q => by rw [ti_addc (by omega)]; omega
          have hp49 : l < kln μ → kPo (pLn (kpd μ) t.toInt s l) μ1 ∧ 0 ≤ u.toInt ∧ u.toInt < 8 := fun q => ⟨hP1, by omega, by omega⟩
          have ech : pCh (kpd μ1) (pLn (kpd μ) t.toInt s l) u.toInt.toNat t.toInt = pCh (kpd μ) (pLn (kpd μ) t.toInt s l) l t.toInt := by rw [hA1.1, elu]
          have hch : ∀ b, pCh (kpd μ) (pLn (kpd μ) t.toInt s l) l t.toInt = some b → b < pNm (kpd μ) ∧ pCa (kpd μ) (pLn (kpd μ) t.toInt s l) l t.toInt b := fun b q => chF_some _ _ q
          have hno := optI_none (o := pCh (kpd μ) (pLn (kpd μ) t.toInt s l) l t.toInt) (fun b q => by have := hch b q; omega)
          have e1 : pLn (kpd μ) t.toInt s (l + 1) = if sF (pLn (kpd μ) t.toInt s l) l ≤ t.toInt then (match pCh (kpd μ) (pLn (kpd μ) t.toInt s l) l t.toInt with | none => pLn (kpd μ) t.toInt s l | some m => pBg (kpd μ) (pLn (kpd μ) t.toInt s l) m l t.toInt) else pLn (kpd μ) t.toInt s l := rfl
          have keep : l < kln μ → pLn (kpd μ) t.toInt s (l + 1) = pLn (kpd μ) t.toInt s l → ∀ z, J 25 [some (.ref 37), some (.int v), some (.int t), some (.int (u + Int32.ofInt 1)), z] [] μ1 := fun q e z => ih2 (k - 1) (by omega) (l + 1) _ t μ1 z hi2 (by omega) (nx q) ht hM (by rw [e]; exact hP1) hS1
          have hbeg : l < kln μ → sF (pLn (kpd μ) t.toInt s l) l ≤ t.toInt → ¬ (optI (pCh (kpd μ1) (pLn (kpd μ) t.toInt s l) u.toInt.toNat t.toInt)).toInt = (Int32.ofInt (-1)).toInt → ∃ b : Nat, (optI (pCh (kpd μ1) (pLn (kpd μ) t.toInt s l) u.toInt.toNat t.toInt)).toInt = b ∧ b < pNm (kpd μ) ∧ sG (pLn (kpd μ) t.toInt s l) b < pZ (kpd μ) b ∧ pLn (kpd μ) t.toInt s (l + 1) = pBg (kpd μ) (pLn (kpd μ) t.toInt s l) b l t.toInt := by
            intro q1 q2 q3
            rw [ech, m1] at q3
            rw [ech]
            cases ho : pCh (kpd μ) (pLn (kpd μ) t.toInt s l) l t.toInt with
            | none => rw [ho] at q3; exact absurd (by decide) q3
            | some b =>
              have := hch b ho
              rw [ho, if_pos q2] at e1
              exact ⟨b, optI_some (by omega), this.1, this.2.1, e1⟩
          have hp69 : l < kln μ → (μ1.1 48 u.toInt.toNat).toInt ≤ t.toInt → ¬ (optI (pCh (kpd μ1) (pLn (kpd μ) t.toInt s l) u.toInt.toNat t.toInt)).toInt = (Int32.ofInt (-1)).toInt → kPo (pLn (kpd μ) t.toInt s l) μ1 ∧ (0 ≤ (optI (pCh (kpd μ1) (pLn (kpd μ) t.toInt s l) u.toInt.toNat t.toInt)).toInt ∧ (optI (pCh (kpd μ1) (pLn (kpd μ) t.toInt s l) u.toInt.toNat t.toInt)).toInt < (μ1.1 37 6).toInt) ∧ (0 ≤ u.toInt ∧ u.toInt < 8) ∧ (0 ≤ t.toInt ∧ t.toInt ≤ 10000) ∧ sG (pLn (kpd μ) t.toInt s l) (optI (pCh (kpd μ1) (pLn (kpd μ) t.toInt s l) u.toInt.toNat t.toInt)).toInt.toNat < pZ (kpd μ1) (optI (pCh (kpd μ1) (pLn (kpd μ) t.toInt s l) u.toInt.toNat t.toInt)).toInt.toNat := by
            intro q1 q2 q3
            rw [e48 q1] at q2
            obtain ⟨b, b1, b2, b3, b4⟩ := hbeg q1 q2 q3
            rw [b1, Int.toNat_natCast, hA1.1]
            exact ⟨hP1, ⟨by omega, by omega⟩, ⟨by omega, by omega⟩, ⟨ht, by omega⟩, b3⟩
          refine (r_iload_n C dX5_runAll_25 rfl rfl (r_aload_n C dX5_runAll_26 rfl rfl (r_getR C dX5_runAll_27 fd_X5_47 nK_37 sK_37 rfl (r_v0P C yv_X4_size lk_X5_62 dX5_runAll_30 rfl nK_18 sK_18 rfl (Nat.le_of_ble_eq_true rfl) ok_X4_size (r_icmp_ge C (tgt := 78) dX5_runAll_33 rfl (fun c33 => (r_iinc C dX5_runAll_78 rfl (by decide) (r_goto C (tgt := 6) dX5_runAll_81 rfl ?_))) (fun c33 => (r_aload_n C dX5_runAll_36 rfl rfl (r_getR C dX5_runAll_37 fd_X5_44 nK_37 sK_37 rfl (r_iload_n C dX5_runAll_40 rfl rfl (r_iald C dX5_runAll_41 nK_48 sK_48 ?_ (r_iload_n C dX5_runAll_42 rfl rfl (r_icmp_gt C (tgt := 55) dX5_runAll_43 rfl (fun c43 => (r_iconst C dX5_runAll_55 (r_istore C dX5_runAll_56 (by decide) (r_iload C dX5_runAll_58 rfl (r_iconst C dX5_runAll_60 (r_icmp_eq C (tgt := 72) dX5_runAll_61 rfl (fun c61 => (r_iinc C dX5_runAll_72 rfl (by decide) (r_goto C (tgt := 25) dX5_runAll_75 rfl ?_))) (fun c61 => (r_aload_n C dX5_runAll_64 rfl rfl (r_iload C dX5_runAll_65 rfl (r_iload_n C dX5_runAll_67 rfl rfl (r_iload_n C dX5_runAll_68 rfl rfl (r_v3N C yv_X5_begin lk_X5_68 dX5_runAll_69 rfl nK_37 sK_37 rfl (Nat.le_of_ble_eq_true rfl) (ok_X5_begin (show kPo (pLn (kpd μ) t.toInt s l) μ1 ∧ _ from (by first | exact absurd rfl c61 | exact hp69 (by omega) (by omega) c61))) (fun μ69 h69 => (r_iinc C dX5_runAll_72 rfl (by decide) (r_goto C (tgt := 25) dX5_runAll_75 rfl ?_))))))))))))))) (fun c43 => (r_aload_n C dX5_runAll_46 rfl rfl (r_iload_n C dX5_runAll_47 rfl rfl (r_iload_n C dX5_runAll_48 rfl rfl (r_v2P C yv_X5_chosenFor lk_X5_64 dX5_runAll_49 rfl nK_37 sK_37 rfl (Nat.le_of_ble_eq_true rfl) (ok_X5_chosenFor (hp49 (by omega))) (r_goto C (tgt := 56) dX5_runAll_52 rfl (r_istore C dX5_runAll_56 (by decide) (r_iload C dX5_runAll_58 rfl (r_iconst C dX5_runAll_60 (r_icmp_eq C (tgt := 72) dX5_runAll_61 rfl (fun c61 => (r_iinc C dX5_runAll_72 rfl (by decide) (r_goto C (tgt := 25) dX5_runAll_75 rfl ?_))) (fun c61 => (r_aload_n C dX5_runAll_64 rfl rfl (r_iload C dX5_runAll_65 rfl (r_iload_n C dX5_runAll_67 rfl rfl (r_iload_n C dX5_runAll_68 rfl rfl (r_v3N C yv_X5_begin lk_X5_68 dX5_runAll_69 rfl nK_37 sK_37 rfl (Nat.le_of_ble_eq_true rfl) (ok_X5_begin (show kPo (pLn (kpd μ) t.toInt s l) μ1 ∧ _ from (by first | exact absurd rfl c61 | exact hp69 (by omega) (by omega) c61))) (fun μ69 h69 => (r_iinc C dX5_runAll_72 rfl (by decide) (r_goto C (tgt := 25) dX5_runAll_75 rfl ?_)))))))))))))))))))))))))))))))
          · have e : l = pNl (kpd μ) := by
              have : pNl (kpd μ) = kln μ := rfl
              omega
            subst e
            exact ih (n - 1) (by omega) (i + 1) _ _ μ1 _ _ _ (by omega) (by simp (disch := (first | omega | (simp (disch := omega) only [ti_ofInt, ti_addc, ti_subc, ti_mulc, ti_cmul, ti_divc, ti_remc, ti_zero, ti_add, ti_sub, ti_neg, if_lt_ti, if_gt_ti, bP_e0, Classical.not_not, tl_i2l]; omega))) only [ti_ofInt, ti_addc, ti_subc, ti_mulc, ti_cmul, ti_divc, ti_remc, ti_zero, ti_add, ti_sub, ti_neg, if_lt_ti, if_gt_ti, bP_e0, Classical.not_not, tl_i2l]; omega) (pKi_step hd hK hM) hP1 hS1
          · omega
          · refine keep (by omega) ?_ _
            rw [e1, if_neg (by rw [← e48 (by omega)]; omega)]
          · exact absurd rfl c61
          · refine keep (by omega) ?_ _
            rw [ech, m1] at c61
            rw [e1, hno.mp c61]
            split <;> rfl
          · have h9 : sF (pLn (kpd μ) t.toInt s l) l ≤ t.toInt := by rw [← e48 (by omega)]; exact c43
            obtain ⟨b, b1, b2, b3, b4⟩ := hbeg (by omega) h9 c61
            have h10 := h69
            rw [b1, Int.toNat_natCast, elu, hA1.1, ← b4] at h10
            exact ih2 (k - 1) (by omega) (l + 1) _ t μ69 _ hi2 (by omega) (nx (by omega)) ht hM h10.1 (pSame_trans hS1 h10.2)
      refine (r_iload_n C dX5_runAll_6 rfl rfl (r_bipush C dX5_runAll_7 (by decide +kernel) (r_icmp_ge C (tgt := 84) dX5_runAll_9 rfl (fun c9 => (r_ret C dX5_runAll_84 ?_)) (fun c9 => (r_aload_n C dX5_runAll_12 rfl rfl (r_v0I C yv_X5_nextBegin lk_X5_58 dX5_runAll_13 rfl nK_37 sK_37 rfl (Nat.le_of_ble_eq_true rfl) (ok_X5_nextBegin ⟨hP, hF⟩) (fun r13 μ13 h13 => (r_istore_n C dX5_runAll_16 rfl (by decide) (r_iload_n C dX5_runAll_17 rfl rfl (r_iconst C dX5_runAll_18 (r_icmp_ne C (tgt := 23) dX5_runAll_19 rfl (fun c19 => (r_iconst C dX5_runAll_23 (r_istore_n C dX5_runAll_24 rfl (by decide) ?_))) (fun c19 => (r_ret C dX5_runAll_22 ?_)))))))))))))
      · rw [m100] at c9
        have e : i = 100 := by omega
        subst e
        have := pKi_end hK (by omega) (pKi_full hd hK)
        rw [this] at hP
        exact ⟨hP, hS⟩
      · rw [m100] at c9
        obtain ⟨q1, q2⟩ := h13
        subst q1
        rw [hA.1] at q2
        rcases q2 with ⟨q2, -⟩ | ⟨q2, q3⟩
        · exact absurd (by rw [q2]) c19
        · exact loop2 (kln μ) 0 _ r13 _ _ (by omega) (by omega) (by simp (disch := (first | omega | (simp (disch := omega) only [ti_ofInt, ti_addc, ti_subc, ti_mulc, ti_cmul, ti_divc, ti_remc, ti_zero, ti_add, ti_sub, ti_neg, if_lt_ti, if_gt_ti, bP_e0, Classical.not_not, tl_i2l]; omega))) only [ti_ofInt, ti_addc, ti_subc, ti_mulc, ti_cmul, ti_divc, ti_remc, ti_zero, ti_add, ti_sub, ti_neg, if_lt_ti, if_gt_ti, bP_e0, Classical.not_not, tl_i2l]; rfl) q2 q3 hP hS
      · rw [m100] at c9
        obtain ⟨q1, q2⟩ := h13
        subst q1
        rw [hA.1] at q2
        rcases q2 with ⟨q2, q3⟩ | ⟨q2, q3⟩
        · have := pKi_end hK (by omega) q3
          rw [this] at hP
          exact ⟨hP, hS⟩
        · rw [m1] at c19
          omega
  refine (r_aload_n C dX5_runAll_0 rfl rfl (r_v0N C yv_X5_prepare lk_X5_55 dX5_runAll_1 rfl nK_37 sK_37 rfl (Nat.le_of_ble_eq_true rfl) (ok_X5_prepare ⟨hl, hp⟩) (fun μ1 h1 => (r_iconst C dX5_runAll_4 (r_istore_n C dX5_runAll_5 rfl (by decide) ?_)))))
  exact loop 100 0 _ _ μ1 _ _ _ (by omega) (by simp (disch := (first | omega | (simp (disch := omega) only [ti_ofInt, ti_addc, ti_subc, ti_mulc, ti_cmul, ti_divc, ti_remc, ti_zero, ti_add, ti_sub, ti_neg, if_lt_ti, if_gt_ti, bP_e0, Classical.not_not, tl_i2l]; omega))) only [ti_ofInt, ti_addc, ti_subc, ti_mulc, ti_cmul, ti_divc, ti_remc, ti_zero, ti_add, ti_sub, ti_neg, if_lt_ti, if_gt_ti, bP_e0, Classical.not_not, tl_i2l]; rfl) (pKi_zero hd) h1.1 h1.2

