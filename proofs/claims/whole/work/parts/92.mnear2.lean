theorem near_kl1 {Ψ : Int32 → kMem → Prop} {J : kJ} {x y k v u w : Int32} {μ3 : kMem} {z7 : Option Value} (C : kR cX12_nearest RX12 8 rmX12_nearest shM 48 (some .int) (kI Ψ) J) (hpre : Unit → (mRd μ3 ∧ (0 ≤ v.toInt ∧ v.toInt < (μ3.1 0 21).toInt ∧ v.toInt % 2 = 0) ∧ (0 ≤ u.toInt ∧ u.toInt < 26) ∧ (3 ≤ w.toInt ∧ w.toInt ≤ 4) ∧ ∀ i, v.toInt.toNat / 2 < i → i < mmc μ3 → -1 ≤ mC μ3 i ∧ mC μ3 i ≤ 510 * ((mmc μ3 : Int) - i))) {b wv : Int} (hb : (μ3.1 22 v.toInt.toNat).toInt = b) (hw : (Int32.ofInt (mwv μ3 (v.toInt.toNat / 2) u.toInt w.toInt)).toInt = wv) (hv : 0 ≤ v.toInt ∧ v.toInt < 122) (keep : ¬ (¬ wv = -1 ∧ (b = -1 ∨ wv < b)) → ∀ z7 : Option Value, J 45 [some (.ref 0), some (.int x), some (.int y), some (.int k), some (.int v), some (.int u), some (.int (w + Int32.ofInt 1)), z7] [] μ3) (store : (¬ wv = -1 ∧ (b = -1 ∨ wv < b)) → ∀ z7 : Option Value, J 45 [some (.ref 0), some (.int x), some (.int y), some (.int k), some (.int v), some (.int u), some (.int (w + Int32.ofInt 1)), z7] [] (up μ3 22 v.toInt.toNat (Int32.ofInt (mwv μ3 (v.toInt.toNat / 2) u.toInt w.toInt)))) : J 45 [some (.ref 0), some (.int x), some (.int y), some (.int k), some (.int v), some (.int u), some (.int w), z7] [] μ3 := by
  have m4 : (Int32.ofInt 4).toInt = 4 := by decide
  have mm : (Int32.ofInt (-1)).toInt = -1 := by decide
  have hw4 := (hpre ()).2.2.2.1.2
  refine (r_iload C dX12_nearest_45 rfl (r_iconst C dX12_nearest_47 (r_icmp_gt C (tgt := 107) dX12_nearest_48 rfl (fun c48 => (r_iinc C dX12_nearest_107 rfl (by decide) (r_goto C (tgt := 35) dX12_nearest_110 rfl ?_))) (fun c48 => (r_aload_n C dX12_nearest_51 rfl rfl (r_iload C dX12_nearest_52 rfl (r_iload C dX12_nearest_54 rfl (r_iload C dX12_nearest_56 rfl (r_v3P C yv_X12_whole lk_X12_307 dX12_nearest_58 rfl nM_0 sM_0 rfl (Nat.le_of_ble_eq_true rfl) (ok_X12_whole ?_) (r_istore C dX12_nearest_61 (by decide) (r_iload C dX12_nearest_63 rfl (r_iconst C dX12_nearest_65 (r_icmp_eq C (tgt := 101) dX12_nearest_66 rfl (fun c66 => (r_iinc C dX12_nearest_101 rfl (by decide) (r_goto C (tgt := 45) dX12_nearest_104 rfl ?_))) (fun c66 => (r_aload_n C dX12_nearest_69 rfl rfl (r_getR C dX12_nearest_70 fd_X12_69 nM_0 sM_0 rfl (r_iload C dX12_nearest_73 rfl (r_iald C dX12_nearest_75 nM_22 sM_22 ?_ (r_iconst C dX12_nearest_76 (r_icmp_eq C (tgt := 92) dX12_nearest_77 rfl (fun c77 => (r_aload_n C dX12_nearest_92 rfl rfl (r_getR C dX12_nearest_93 fd_X12_69 nM_0 sM_0 rfl (r_iload C dX12_nearest_96 rfl (r_iload C dX12_nearest_98 rfl (r_iast C dX12_nearest_100 nM_22 sM_22 ?_ (r_iinc C dX12_nearest_101 rfl (by decide) (r_goto C (tgt := 45) dX12_nearest_104 rfl ?_)))))))) (fun c77 => (r_iload C dX12_nearest_80 rfl (r_aload_n C dX12_nearest_82 rfl rfl (r_getR C dX12_nearest_83 fd_X12_69 nM_0 sM_0 rfl (r_iload C dX12_nearest_86 rfl (r_iald C dX12_nearest_88 nM_22 sM_22 ?_ (r_icmp_ge C (tgt := 101) dX12_nearest_89 rfl (fun c89 => (r_iinc C dX12_nearest_101 rfl (by decide) (r_goto C (tgt := 45) dX12_nearest_104 rfl ?_))) (fun c89 => (r_aload_n C dX12_nearest_92 rfl rfl (r_getR C dX12_nearest_93 fd_X12_69 nM_0 sM_0 rfl (r_iload C dX12_nearest_96 rfl (r_iload C dX12_nearest_98 rfl (r_iast C dX12_nearest_100 nM_22 sM_22 ?_ (r_iinc C dX12_nearest_101 rfl (by decide) (r_goto C (tgt := 45) dX12_nearest_104 rfl ?_)))))))))))))))))))))))))))))))))))
  · exfalso
    rw [m4] at c48
    omega
  · exact hpre ()
  · rw [hw, mm] at c66
    exact keep (fun z => z.1 c66) _
  · omega
  · omega
  · rw [hw, mm] at c66
    rw [hb, mm] at c77
    exact store ⟨c66, Or.inl c77⟩ _
  · omega
  · rw [hw, mm] at c66
    rw [hb, mm] at c77
    rw [hw, hb] at c89
    exact keep (fun z => z.2.elim c77 (by omega)) _
  · omega
  · rw [hw, mm] at c66
    rw [hb, mm] at c77
    rw [hw, hb] at c89
    exact store ⟨c66, Or.inr c89⟩ _
set_option maxHeartbeats 4000000 in
theorem ok_X12_nearest {x y k : Int32} {μ : kMem} (h : mRI μ) : kOk yX12_nearest cX12_nearest 8 (some .int) rmX12_nearest shM 48 [.ref 0, .int x, .int y, .int k] μ (kI fun r μ' => (¬ mcan μ x.toInt y.toInt ∧ r = Int32.ofInt (-1) ∧ μ' = μ) ∨ (mcan μ x.toInt y.toInt ∧ mSm μ μ' ∧ nrA (mcs μ x.toInt y.toInt) (mmc μ) (msz μ) (mkd μ) k.toInt r.toInt)) := by
  have z0 : (Int32.ofInt 0).toInt = 0 := by decide
  have n0 : (Int32.ofInt 0).toInt.toNat = 2 * 0 := by decide
  have m26 : (Int32.ofInt 26).toInt = 26 := by decide
  have m3 : (Int32.ofInt 3).toInt = 3 := by decide
  have m4 : (Int32.ofInt 4).toInt = 4 := by decide
  have mm : (Int32.ofInt (-1)).toInt = -1 := by decide
  have m2 : (Int32.ofInt (-2)).toInt = -2 := by decide
  have m97 : (Int32.ofInt 97).toInt = 97 := by decide
  have m32 : (Int32.ofInt 32).toInt = 32 := by decide
  refine kOk.of rfl (Nat.le_of_ble_eq_true rfl) (fun J C => ?_)
  have C : kR cX12_nearest RX12 8 rmX12_nearest shM 48 (some .int) _ J := C
  have main : ∀ μ1 : kMem, mRd μ1 → (∀ (r : Int32) (μ' : kMem), mNk μ1 μ' → nrA (mrs μ1) (mmc μ1) (msz μ1) (mkd μ1) k.toInt r.toInt → ((¬ mcan μ x.toInt y.toInt ∧ r = Int32.ofInt (-1) ∧ μ' = μ) ∨ (mcan μ x.toInt y.toInt ∧ mSm μ μ' ∧ nrA (mcs μ x.toInt y.toInt) (mmc μ) (msz μ) (mkd μ) k.toInt r.toInt))) → ∀ (jj : Nat) (v : Int32) (μ' : kMem) (z5 z6 z7 : Option Value), jj ≤ mmc μ1 → v.toInt = 2 * (jj : Int) - 2 → mNr μ1 μ' jj → mNk μ1 μ' → J 19 [some (.ref 0), some (.int x), some (.int y), some (.int k), some (.int v), z5, z6, z7] [] μ' := by
    intro μ1 hR fin
    have hn := mRd_n hR
    intro jj
    induction jj using Nat.strongRecOn with
    | ind jj ih =>
      intro v μ' z5 z6 z7 hjj hv hI hK
      obtain ⟨r1, r2, r3, r4, r5, r6, r7⟩ := mNk_rs hK
      by_cases hj0 : jj = 0
      · subst hj0
        have hN : pNr (mrs μ1) (mmc μ1) (msz μ1) (mkd μ1) (mC μ') (mF μ1 (mC μ')) := fun i hi => ⟨(hI i (Nat.zero_le _) hi).1, rfl⟩
        have e0 : (μ'.1 22 (Int32.ofInt 0).toInt.toNat).toInt = mC μ' 0 := by rw [n0]; rfl
        refine (r_iload C dX12_nearest_19 rfl (r_if_lt C (tgt := 119) dX12_nearest_21 rfl (fun c21 => (r_aload_n C dX12_nearest_119 rfl rfl (r_getR C dX12_nearest_120 fd_X12_69 nM_0 sM_0 rfl (r_iconst C dX12_nearest_123 (r_iald C dX12_nearest_124 nM_22 sM_22 (by decide) (r_iconst C dX12_nearest_125 (r_icmp_ne C (tgt := 131) dX12_nearest_126 rfl (fun c126 => (r_iload_n C dX12_nearest_131 rfl rfl (r_bipush C dX12_nearest_132 (by decide +kernel) (r_icmp_ne C (tgt := 144) dX12_nearest_134 rfl (fun c134 => (r_iconst C dX12_nearest_144 (r_istore C dX12_nearest_145 (by decide) (r_iconst C dX12_nearest_147 (r_istore C dX12_nearest_148 (by decide) ?_))))) (fun c134 => (r_aload_n C dX12_nearest_137 rfl rfl (r_getR C dX12_nearest_138 fd_X12_69 nM_0 sM_0 rfl (r_iconst C dX12_nearest_141 (r_iald C dX12_nearest_142 nM_22 sM_22 (by decide) (r_iret C dX12_nearest_143 ?_)))))))))) (fun c126 => (r_iconst C dX12_nearest_129 (r_iret C dX12_nearest_130 ?_)))))))))) (fun c21 => (r_aload_n C dX12_nearest_24 rfl rfl (r_getR C dX12_nearest_25 fd_X12_69 nM_0 sM_0 rfl (r_iload C dX12_nearest_28 rfl (r_iconst C dX12_nearest_30 (r_iast C dX12_nearest_31 nM_22 sM_22 ?_ (r_iconst C dX12_nearest_32 (r_istore C dX12_nearest_33 (by decide) ?_))))))))))
        · rw [e0, mm] at c126
          rw [m2] at c134
          exact near_walk C hR fin (mC μ') hN (fun i hi => (hI i (Nat.zero_le _) hi).2) (by omega) 60 0 [] _ _ μ' _ _ (Nat.le_refl _) (by simp (disch := (first | omega | (simp (disch := omega) only [ti_ofInt, ti_addc, ti_subc, ti_mulc, ti_cmul, ti_divc, ti_remc, ti_zero, ti_add, ti_sub, ti_neg, if_lt_ti, if_gt_ti, bP_e0, Classical.not_not, tl_i2l]; omega))) only [ti_ofInt, ti_addc, ti_subc, ti_mulc, ti_cmul, ti_divc, ti_remc, ti_zero, ti_add, ti_sub, ti_neg, if_lt_ti, if_gt_ti, bP_e0, Classical.not_not, tl_i2l]; rfl) (by simp (disch := (first | omega | (simp (disch := omega) only [ti_ofInt, ti_addc, ti_subc, ti_mulc, ti_cmul, ti_divc, ti_remc, ti_zero, ti_add, ti_sub, ti_neg, if_lt_ti, if_gt_ti, bP_e0, Classical.not_not, tl_i2l]; omega))) only [ti_ofInt, ti_addc, ti_subc, ti_mulc, ti_cmul, ti_divc, ti_remc, ti_zero, ti_add, ti_sub, ti_neg, if_lt_ti, if_gt_ti, bP_e0, Classical.not_not, tl_i2l]; rfl) (fun j hj => absurd hj (Nat.not_lt_zero _)) (by simp only [List.length_nil]; omega) (Nat.zero_le _) (by omega) (fun _ => c126) (fun _ _ => rfl) rfl hK
        · rw [m2] at c134
          refine fin _ μ' hK ⟨mC μ', mF μ1 (mC μ'), hN, ?_⟩
          rw [if_pos (Or.inr c134), e0]
        · rw [e0, mm] at c126
          refine fin _ μ' hK ⟨mC μ', mF μ1 (mC μ'), hN, ?_⟩
          rw [if_pos (Or.inl c126), mm, c126]
        · omega
        · omega
      obtain ⟨j, ej⟩ : ∃ j, jj = j + 1 := ⟨jj - 1, by omega⟩
      subst ej
      have evj : v.toInt.toNat = 2 * j := by omega
      have hCb : ∀ i, j < i → i < mmc μ1 → -1 ≤ mC μ' i ∧ mC μ' i ≤ 510 * ((mmc μ1 : Int) - i) := fun i a b => (hI i (by omega) b).2
      have hNb := mNv_b hR.2.1 hCb
      have hBb := bestF_b hNb
      have cl : ∀ (n c : Nat) (u : Int32) (μ2 : kMem) (z6 z7 : Option Value), c + n = 26 → u.toInt = c → (∀ i, j < i → i < mmc μ1 → mC μ2 i = mC μ' i) → mC μ2 j = (bestF (mNv μ1 (mC μ') j) c).1 → mNk μ1 μ2 → J 35 [some (.ref 0), some (.int x), some (.int y), some (.int k), some (.int v), some (.int u), z6, z7] [] μ2 := by
        intro n
        induction n using Nat.strongRecOn with
        | ind n ihc =>
          intro c u μ2 z6 z7 hcn hu hA hB hK2
          refine (r_iload C dX12_nearest_35 rfl (r_bipush C dX12_nearest_37 (by decide +kernel) (r_icmp_ge C (tgt := 113) dX12_nearest_39 rfl (fun c39 => (r_iinc C dX12_nearest_113 rfl (by decide) (r_goto C (tgt := 19) dX12_nearest_116 rfl ?_))) (fun c39 => (r_iconst C dX12_nearest_42 (r_istore C dX12_nearest_43 (by decide) ?_))))))
          · rw [m26] at c39
            have ec : c = 26 := by omega
            subst ec
            refine ih j (by omega) _ μ2 _ _ _ (by omega) (by simp (disch := (first | omega | (simp (disch := omega) only [ti_ofInt, ti_addc, ti_subc, ti_mulc, ti_cmul, ti_divc, ti_remc, ti_zero, ti_add, ti_sub, ti_neg, if_lt_ti, if_gt_ti, bP_e0, Classical.not_not, tl_i2l]; omega))) only [ti_ofInt, ti_addc, ti_subc, ti_mulc, ti_cmul, ti_divc, ti_remc, ti_zero, ti_add, ti_sub, ti_neg, if_lt_ti, if_gt_ti, bP_e0, Classical.not_not, tl_i2l]; omega) ?_ hK2
            intro i a b
            have e : (bestF (mNv μ1 (mC μ2) i) 26).1 = (bestF (mNv μ1 (mC μ') i) 26).1 := congrArg Prod.fst (bestF_congr 26 (fun l _ => show mNv μ1 (mC μ2) i l = mNv μ1 (mC μ') i l from pNv_congr (fun q a2 b2 => hA q (by omega) b2) l))
            rw [e]
            by_cases e2 : i = j
            · subst e2
              have := hBb 26
              rw [hB]
              exact ⟨rfl, by omega, by omega⟩
            · rw [hA i (by omega) b]
              exact hI i (by omega) b
          · rw [m26] at c39
            have hc26 : c < 26 := by omega
            have ekl : (bestF (mNv μ1 (mC μ') j) (c + 1)).1 = updB (updB (bestF (mNv μ1 (mC μ') j) c).1 (pWv (mrs μ1) (mmc μ1) (msz μ1 c) (mkd μ1 c) (mC μ') j 3)) (pWv (mrs μ1) (mmc μ1) (msz μ1 c) (mkd μ1 c) (mC μ') j 4) := by
              have hcomb := pWv_comb (mrs_b hR.2.1) (mc := mmc μ1) (n := msz μ1 c) (kd := mkd μ1 c) (C := mC μ') (j := j) (fun i a b => (hCb i a b).1)
              have hw3 := pWv_b (mrs_b hR.2.1) (n := msz μ1 c) (kd := mkd μ1 c) hCb 3
              have hw4 := pWv_b (mrs_b hR.2.1) (n := msz μ1 c) (kd := mkd μ1 c) hCb 4
              have hupd := updB_2 (hBb c).1 ⟨hw3.1, hw4.1⟩ hcomb.1 (fun z => ⟨(hcomb.2 z).1, (hcomb.2 z).2.1, (hcomb.2 z).2.2.1⟩)
              rw [hupd, bestF_s]
              rfl
            obtain ⟨Bq, b0, b1, b2⟩ : ∃ Bq : Nat → Int, Bq 0 = (bestF (mNv μ1 (mC μ') j) c).1 ∧ (∀ q, q < 2 → Bq (q + 1) = updB (Bq q) (pWv (mrs μ1) (mmc μ1) (msz μ1 c) (mkd μ1 c) (mC μ') j (3 + (q : Int)))) ∧ Bq 2 = (bestF (mNv μ1 (mC μ') j) (c + 1)).1 := by
              refine ⟨fun q => if q = 0 then (bestF (mNv μ1 (mC μ') j) c).1 else if q = 1 then updB (bestF (mNv μ1 (mC μ') j) c).1 (pWv (mrs μ1) (mmc μ1) (msz μ1 c) (mkd μ1 c) (mC μ') j 3) else (bestF (mNv μ1 (mC μ') j) (c + 1)).1, rfl, fun q hq => ?_, rfl⟩
              rcases (show q = 0 ∨ q = 1 by omega) with rfl | rfl
              · rfl
              · exact ekl
            have kl : ∀ (d q : Nat) (w : Int32) (μ3 : kMem) (z7 : Option Value), q + d = 2 → w.toInt = 3 + (q : Int) → (∀ i, j < i → i < mmc μ1 → mC μ3 i = mC μ' i) → mC μ3 j = Bq q → mNk μ1 μ3 → J 45 [some (.ref 0), some (.int x), some (.int y), some (.int k), some (.int v), some (.int u), some (.int w), z7] [] μ3 := by
              intro d
              induction d with
              | zero =>
                intro q w μ3 z7 hq hw hA3 hB3 hK3
                have q2 : q = 2 := by omega
                subst q2
                rw [b2] at hB3
                refine (r_iload C dX12_nearest_45 rfl (r_iconst C dX12_nearest_47 (r_icmp_gt C (tgt := 107) dX12_nearest_48 rfl (fun c48 => (r_iinc C dX12_nearest_107 rfl (by decide) (r_goto C (tgt := 35) dX12_nearest_110 rfl ?_))) (fun c48 => (r_aload_n C dX12_nearest_51 rfl rfl (r_iload C dX12_nearest_52 rfl (r_iload C dX12_nearest_54 rfl (r_iload C dX12_nearest_56 rfl (r_v3P C yv_X12_whole lk_X12_307 dX12_nearest_58 rfl nM_0 sM_0 rfl (Nat.le_of_ble_eq_true rfl) (ok_X12_whole ?_) (r_istore C dX12_nearest_61 (by decide) (r_iload C dX12_nearest_63 rfl (r_iconst C dX12_nearest_65 (r_icmp_eq C (tgt := 101) dX12_nearest_66 rfl (fun c66 => (r_iinc C dX12_nearest_101 rfl (by decide) (r_goto C (tgt := 45) dX12_nearest_104 rfl ?_))) (fun c66 => (r_aload_n C dX12_nearest_69 rfl rfl (r_getR C dX12_nearest_70 fd_X12_69 nM_0 sM_0 rfl (r_iload C dX12_nearest_73 rfl (r_iald C dX12_nearest_75 nM_22 sM_22 ?_ (r_iconst C dX12_nearest_76 (r_icmp_eq C (tgt := 92) dX12_nearest_77 rfl (fun c77 => (r_aload_n C dX12_nearest_92 rfl rfl (r_getR C dX12_nearest_93 fd_X12_69 nM_0 sM_0 rfl (r_iload C dX12_nearest_96 rfl (r_iload C dX12_nearest_98 rfl (r_iast C dX12_nearest_100 nM_22 sM_22 ?_ (r_iinc C dX12_nearest_101 rfl (by decide) (r_goto C (tgt := 45) dX12_nearest_104 rfl ?_)))))))) (fun c77 => (r_iload C dX12_nearest_80 rfl (r_aload_n C dX12_nearest_82 rfl rfl (r_getR C dX12_nearest_83 fd_X12_69 nM_0 sM_0 rfl (r_iload C dX12_nearest_86 rfl (r_iald C dX12_nearest_88 nM_22 sM_22 ?_ (r_icmp_ge C (tgt := 101) dX12_nearest_89 rfl (fun c89 => (r_iinc C dX12_nearest_101 rfl (by decide) (r_goto C (tgt := 45) dX12_nearest_104 rfl ?_))) (fun c89 => (r_aload_n C dX12_nearest_92 rfl rfl (r_getR C dX12_nearest_93 fd_X12_69 nM_0 sM_0 rfl (r_iload C dX12_nearest_96 rfl (r_iload C dX12_nearest_98 rfl (r_iast C dX12_nearest_100 nM_22 sM_22 ?_ (r_iinc C dX12_nearest_101 rfl (by decide) (r_goto C (tgt := 45) dX12_nearest_104 rfl ?_)))))))))))))))))))))))))))))))))))
                · exact ihc (n - 1) (by omega) (c + 1) _ μ3 _ _ (by omega) (by simp (disch := (first | omega | (simp (disch := omega) only [ti_ofInt, ti_addc, ti_subc, ti_mulc, ti_cmul, ti_divc, ti_remc, ti_zero, ti_add, ti_sub, ti_neg, if_lt_ti, if_gt_ti, bP_e0, Classical.not_not, tl_i2l]; omega))) only [ti_ofInt, ti_addc, ti_subc, ti_mulc, ti_cmul, ti_divc, ti_remc, ti_zero, ti_add, ti_sub, ti_neg, if_lt_ti, if_gt_ti, bP_e0, Classical.not_not, tl_i2l]; omega) hA3 hB3 hK3
                all_goals (exfalso; rw [m4] at c48; omega)
              | succ d ihd =>
                intro q w μ3 z7 hq hw hA3 hB3 hK3
                obtain ⟨s1, s2, s3, s4, s5, s6, s7⟩ := mNk_rs hK3
                have hq2 : q < 2 := by omega
                have hb1 := b1 q hq2
                have hwb := pWv_b (mrs_b hR.2.1) (n := msz μ1 c) (kd := mkd μ1 c) hCb (3 + (q : Int))
                have ej2 : v.toInt.toNat / 2 = j := by omega
                obtain ⟨wv, hwv⟩ : ∃ wv, wv = pWv (mrs μ1) (mmc μ1) (msz μ1 c) (mkd μ1 c) (mC μ') j (3 + (q : Int)) := ⟨_, rfl⟩
                rw [← hwv] at hwb hb1
                have emw : mwv μ3 (v.toInt.toNat / 2) u.toInt w.toInt = wv := by
                  unfold mwv
                  rw [s1, s2, s3, s4, ej2, hu, hw, hwv]
                  exact pWv_congr hA3 _
                have iw := ti_ofInt (n := wv) (by omega)
                have e22 : (μ3.1 22 v.toInt.toNat).toInt = Bq q := by rw [evj, ← hB3]; rfl
                have eWj : ∀ t : Int32, mC (up μ3 22 v.toInt.toNat t) j = t.toInt := fun t => by
                  unfold mC
                  rw [evj, up_same]
                have keep : Bq (q + 1) = Bq q → ∀ z7, J 45 [some (.ref 0), some (.int x), some (.int y), some (.int k), some (.int v), some (.int u), some (.int (w + Int32.ofInt 1)), z7] [] μ3 := fun e z7 => ihd (q + 1) _ μ3 z7 (by omega) (by simp (disch := (first | omega | (simp (disch := omega) only [ti_ofInt, ti_addc, ti_subc, ti_mulc, ti_cmul, ti_divc, ti_remc, ti_zero, ti_add, ti_sub, ti_neg, if_lt_ti, if_gt_ti, bP_e0, Classical.not_not, tl_i2l]; omega))) only [ti_ofInt, ti_addc, ti_subc, ti_mulc, ti_cmul, ti_divc, ti_remc, ti_zero, ti_add, ti_sub, ti_neg, if_lt_ti, if_gt_ti, bP_e0, Classical.not_not, tl_i2l]; omega) hA3 (by rw [e]; exact hB3) hK3
                have store : Bq (q + 1) = wv → ∀ z7, J 45 [some (.ref 0), some (.int x), some (.int y), some (.int k), some (.int v), some (.int u), some (.int (w + Int32.ofInt 1)), z7] [] (up μ3 22 v.toInt.toNat (Int32.ofInt (mwv μ3 (v.toInt.toNat / 2) u.toInt w.toInt))) := fun e z7 => by
                  refine ihd (q + 1) _ _ z7 (by omega) (by simp (disch := (first | omega | (simp (disch := omega) only [ti_ofInt, ti_addc, ti_subc, ti_mulc, ti_cmul, ti_divc, ti_remc, ti_zero, ti_add, ti_sub, ti_neg, if_lt_ti, if_gt_ti, bP_e0, Classical.not_not, tl_i2l]; omega))) only [ti_ofInt, ti_addc, ti_subc, ti_mulc, ti_cmul, ti_divc, ti_remc, ti_zero, ti_add, ti_sub, ti_neg, if_lt_ti, if_gt_ti, bP_e0, Classical.not_not, tl_i2l]; omega) ?_ ?_ ?_
                  · intro i a b
                    have : ∀ t : Int32, mC (up μ3 22 v.toInt.toNat t) i = mC μ3 i := fun t => by
                      unfold mC
                      rw [up_nek _ _ (by omega)]
                    rw [this]
                    exact hA3 i a b
                  · rw [eWj, emw, iw, e]
                  · intro a b n1 n2
                    rw [up_neo _ _ n1]
                    exact hK3 a b n1 n2
                refine near_kl1 C (fun _ => ?_) e22 (by rw [emw, iw]) (by omega) (fun q => keep ?_) (fun q => store ?_)
                · rw [hK3 0 21 (by decide) (by decide), ej2, s2]
                  exact ⟨s5 hR, ⟨by omega, by omega, by omega⟩, ⟨by omega, by omega⟩, ⟨by omega, by omega⟩, fun i a b => by rw [hA3 i a b]; exact hCb i a b⟩
                · rw [hb1]
                  unfold updB
                  rw [if_neg q]
                · rw [hb1]
                  unfold updB
                  rw [if_pos q]
            exact kl 2 0 _ μ2 _ rfl (by rw [m3]; rfl) hA (by rw [b0]; exact hB) hK2
      refine (r_iload C dX12_nearest_19 rfl (r_if_lt C (tgt := 119) dX12_nearest_21 rfl (fun c21 => (r_aload_n C dX12_nearest_119 rfl rfl (r_getR C dX12_nearest_120 fd_X12_69 nM_0 sM_0 rfl (r_iconst C dX12_nearest_123 (r_iald C dX12_nearest_124 nM_22 sM_22 (by decide) (r_iconst C dX12_nearest_125 (r_icmp_ne C (tgt := 131) dX12_nearest_126 rfl (fun c126 => (r_iload_n C dX12_nearest_131 rfl rfl (r_bipush C dX12_nearest_132 (by decide +kernel) (r_icmp_ne C (tgt := 144) dX12_nearest_134 rfl (fun c134 => (r_iconst C dX12_nearest_144 (r_istore C dX12_nearest_145 (by decide) (r_iconst C dX12_nearest_147 (r_istore C dX12_nearest_148 (by decide) ?_))))) (fun c134 => (r_aload_n C dX12_nearest_137 rfl rfl (r_getR C dX12_nearest_138 fd_X12_69 nM_0 sM_0 rfl (r_iconst C dX12_nearest_141 (r_iald C dX12_nearest_142 nM_22 sM_22 (by decide) (r_iret C dX12_nearest_143 ?_)))))))))) (fun c126 => (r_iconst C dX12_nearest_129 (r_iret C dX12_nearest_130 ?_)))))))))) (fun c21 => (r_aload_n C dX12_nearest_24 rfl rfl (r_getR C dX12_nearest_25 fd_X12_69 nM_0 sM_0 rfl (r_iload C dX12_nearest_28 rfl (r_iconst C dX12_nearest_30 (r_iast C dX12_nearest_31 nM_22 sM_22 ?_ (r_iconst C dX12_nearest_32 (r_istore C dX12_nearest_33 (by decide) ?_))))))))))
      · omega
      · omega
      · omega
      · omega
      · refine cl 26 0 _ _ _ _ rfl (by rw [z0]; rfl) ?_ ?_ ?_
        · intro i a b
          unfold mC
          rw [up_nek _ _ (by omega)]
        · unfold mC
          rw [evj, up_same, mm]
          rfl
        · intro a b n1 n2
          rw [up_neo _ _ n1]
          exact hK a b n1 n2
  refine (r_aload_n C dX12_nearest_0 rfl rfl (r_iload_n C dX12_nearest_1 rfl rfl (r_iload_n C dX12_nearest_2 rfl rfl (r_v2I C yv_X12_takes lk_X12_294 dX12_nearest_3 rfl nM_0 sM_0 rfl (Nat.le_of_ble_eq_true rfl) (ok_X12_takes ?_) (fun r3 μ3 h3 => (r_if_ne C (tgt := 11) dX12_nearest_6 rfl (fun c6 => (r_aload_n C dX12_nearest_11 rfl rfl (r_getI C dX12_nearest_12 fd_X12_260 nM_0 sM_0 rfl (r_iconst C dX12_nearest_15 (r_isub C dX12_nearest_16 (r_istore C dX12_nearest_17 (by decide) ?_)))))) (fun c6 => (r_iconst C dX12_nearest_9 (r_iret C dX12_nearest_10 ?_)))))))))
  · exact h
  · rcases h3 with ⟨-, q, -⟩ | ⟨hc, -, e⟩
    · rw [q, z0] at c6
      exact absurd rfl c6
    · obtain ⟨t1, t2, t3, t4, t5, t6, t7⟩ := mTk_all h hc e
      have hn := mRd_n t1
      refine main μ3 t1 ?_ (mmc μ3) _ μ3 _ _ _ (Nat.le_refl _) (by rw [ti_subc (by omega)]; omega) (fun i a b => by omega) (fun _ _ _ _ => rfl)
      intro r μ' w1 w2
      refine Or.inr ⟨hc, fun a b q => by rw [w1 a b (by unfold relM at q; omega) (by unfold relM at q; omega)]; exact t6 a b q, ?_⟩
      rw [← t2, ← t3, ← t4, ← t5]
      exact w2
  · rcases h3 with ⟨q1, -, q3⟩ | ⟨-, q, -⟩
    · exact Or.inl ⟨q1, rfl, q3⟩
    · rw [q] at c6
      exact absurd c6 (by decide)

