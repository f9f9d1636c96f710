/-! ===== KeyFists: sayings ===== -/
def kSyZ (μ : kMem) : Prop := -1 ≤ (μ.1 34 4).toInt ∧ (μ.1 34 4).toInt ≤ 120
def kSay2 (μ : kMem) (h l : Int) : Prop := (μ.1 34 4).toInt = (μ.1 25 1).toInt ∧ ∀ p : Nat, (p : Int) < (μ.1 34 4).toInt → ¬ kcs μ h l p (μ.1 35 p).toInt = -1
theorem ok_X11_tapeSaysIt {x y : Int32} {μ : kMem} (h : kRI μ ∧ kSyZ μ) : kOk yX11_tapeSaysIt cX11_tapeSaysIt 4 (some .boolean) rmX11_tapeSaysIt shK 68 [.ref 0, .int x, .int y] μ (kI fun r μ' => r = bP (kSay2 μ x.toInt y.toInt) ∧ kLisO μ μ') := by
  obtain ⟨h, hz⟩ := h
  have ht := h.2.2.2.1.1
  have m1 : (Int32.ofInt (-1)).toInt = -1 := by decide
  refine kOk.of rfl (Nat.le_of_ble_eq_true rfl) (fun J C => ?_)
  have C : kR cX11_tapeSaysIt RX11 4 rmX11_tapeSaysIt shK 68 (some .boolean) _ J := C
  have loop : ∀ (n p : Nat) (v : Int32) (μ' : kMem), (p : Int) + n = (μ.1 34 4).toInt → v.toInt = p → (μ.1 34 4).toInt = (μ.1 25 1).toInt → kLis μ x.toInt y.toInt μ' → (∀ q : Nat, q < p → ¬ kcs μ x.toInt y.toInt q (μ.1 35 q).toInt = -1) → J 30 [some (.ref 0), some (.int x), some (.int y), some (.int v)] [] μ' := by
    intro n
    induction n using Nat.strongRecOn with
    | ind n ih =>
      intro p v μ' hn hv hst hL hI
      obtain ⟨a1, a2, a3, a4, a5, a6⟩ := kLis_all h hL
      have e34 : μ'.1 34 4 = μ.1 34 4 := hL.2.2.2 34 4 (by decide) (by decide) (by omega)
      have e35 : μ'.1 35 p = μ.1 35 p := hL.2.2.2 35 p (by decide) (by decide) (by omega)
      have ep : v.toInt.toNat = p := by omega
      have ek : (p : Int) < (μ.1 34 4).toInt → kki μ' v.toInt = μ.1 35 p := fun q => by
        unfold kki
        rw [e34, if_pos (by omega), ep, e35]
      have hb := rcs_b a1 v.toInt.toNat (kki μ' v.toInt).toInt
      refine (r_iload_n C dX11_tapeSaysIt_30 rfl rfl (r_aload_n C dX11_tapeSaysIt_31 rfl rfl (r_getR C dX11_tapeSaysIt_32 fd_X11_68 nK_0 sK_0 rfl (r_v0P C yv_X8_size lk_X11_211 dX11_tapeSaysIt_35 rfl nK_34 sK_34 rfl (Nat.le_of_ble_eq_true rfl) ok_X8_size (r_icmp_ge C (tgt := 69) dX11_tapeSaysIt_38 rfl (fun c38 => (r_iconst C dX11_tapeSaysIt_69 (r_zret C dX11_tapeSaysIt_70 rfl ?_))) (fun c38 => (r_aload_n C dX11_tapeSaysIt_41 rfl rfl (r_getR C dX11_tapeSaysIt_42 fd_X11_61 nK_0 sK_0 rfl (r_iload_n C dX11_tapeSaysIt_45 rfl rfl (r_aload_n C dX11_tapeSaysIt_46 rfl rfl (r_getR C dX11_tapeSaysIt_47 fd_X11_68 nK_0 sK_0 rfl (r_iload_n C dX11_tapeSaysIt_50 rfl rfl (r_v1P C yv_X8_kindAt lk_X11_213 dX11_tapeSaysIt_51 rfl nK_34 sK_34 rfl (Nat.le_of_ble_eq_true rfl) (ok_X8_kindAt ?_) (r_v2P C yv_X7_costOf lk_X11_216 dX11_tapeSaysIt_54 rfl nK_27 sK_27 rfl (Nat.le_of_ble_eq_true rfl) (ok_X7_costOf ?_) (r_iconst C dX11_tapeSaysIt_57 (r_icmp_ne C (tgt := 63) dX11_tapeSaysIt_58 rfl (fun c58 => (r_iinc C dX11_tapeSaysIt_63 rfl (by decide) (r_goto C (tgt := 30) dX11_tapeSaysIt_66 rfl ?_))) (fun c58 => (r_iconst C dX11_tapeSaysIt_61 (r_zret C dX11_tapeSaysIt_62 rfl ?_)))))))))))))))))))
      · rw [e34] at c38
        exact ⟨(bP_t ⟨hst, fun q hq => hI q (by omega)⟩).symm, hL.2.2.2⟩
      · rw [e34]; exact hz.2
      · exact ⟨a1, by omega⟩
      · rw [e34] at c38
        rw [m1, ti_ofInt (by omega), ek (by omega), ep, a2] at c58
        refine ih (n - 1) (by omega) (p + 1) _ _ (by omega) (by simp (disch := (first | omega | (simp (disch := omega) only [ti_ofInt, ti_addc, ti_subc, ti_mulc, ti_cmul, ti_divc, ti_remc, ti_zero, ti_add, ti_sub, ti_neg, if_lt_ti, if_gt_ti, bP_e0, Classical.not_not, tl_i2l]; omega))) only [ti_ofInt, ti_addc, ti_subc, ti_mulc, ti_cmul, ti_divc, ti_remc, ti_zero, ti_add, ti_sub, ti_neg, if_lt_ti, if_gt_ti, bP_e0, Classical.not_not, tl_i2l]; omega) hst hL ?_
        intro q hq
        by_cases e : q = p
        · subst e; exact c58
        · exact hI q (by omega)
      · rw [e34] at c38
        rw [m1, ti_ofInt (by omega), ek (by omega), ep, a2] at c58
        exact ⟨(bP_f (fun z => z.2 p (by omega) c58)).symm, hL.2.2.2⟩
  refine (r_aload_n C dX11_tapeSaysIt_0 rfl rfl (r_getR C dX11_tapeSaysIt_1 fd_X11_68 nK_0 sK_0 rfl (r_v0P C yv_X8_size lk_X11_211 dX11_tapeSaysIt_4 rfl nK_34 sK_34 rfl (Nat.le_of_ble_eq_true rfl) ok_X8_size (r_aload_n C dX11_tapeSaysIt_7 rfl rfl (r_getR C dX11_tapeSaysIt_8 fd_X11_52 nK_0 sK_0 rfl (r_v0P C yv_X9_size lk_X11_212 dX11_tapeSaysIt_11 rfl nK_25 sK_25 rfl (Nat.le_of_ble_eq_true rfl) ok_X9_size (r_icmp_eq C (tgt := 19) dX11_tapeSaysIt_14 rfl (fun c14 => (r_aload_n C dX11_tapeSaysIt_19 rfl rfl (r_getR C dX11_tapeSaysIt_20 fd_X11_61 nK_0 sK_0 rfl (r_iload_n C dX11_tapeSaysIt_23 rfl rfl (r_iload_n C dX11_tapeSaysIt_24 rfl rfl (r_v2N C yv_X7_listen lk_X11_169 dX11_tapeSaysIt_25 rfl nK_27 sK_27 rfl (Nat.le_of_ble_eq_true rfl) (ok_X7_listen ?_) (fun μ25 h25 => (r_iconst C dX11_tapeSaysIt_28 (r_istore_n C dX11_tapeSaysIt_29 rfl (by decide) ?_))))))))) (fun c14 => (r_iconst C dX11_tapeSaysIt_17 (r_zret C dX11_tapeSaysIt_18 rfl ?_))))))))))
  · exact ⟨h.1.2, h.2.1, h.2.2.1, h.2.2.2.1⟩
  · exact loop (μ.1 34 4).toInt.toNat 0 _ _ (by omega) (by simp (disch := (first | omega | (simp (disch := omega) only [ti_ofInt, ti_addc, ti_subc, ti_mulc, ti_cmul, ti_divc, ti_remc, ti_zero, ti_add, ti_sub, ti_neg, if_lt_ti, if_gt_ti, bP_e0, Classical.not_not, tl_i2l]; omega))) only [ti_ofInt, ti_addc, ti_subc, ti_mulc, ti_cmul, ti_divc, ti_remc, ti_zero, ti_add, ti_sub, ti_neg, if_lt_ti, if_gt_ti, bP_e0, Classical.not_not, tl_i2l]; rfl) c14 h25 (fun q hq => absurd hq (Nat.not_lt_zero _))
  · exact ⟨(bP_f (fun z => c14 z.1)).symm, fun _ _ _ _ _ => rfl⟩
def kch (μ : kMem) (h : Int) (p : Nat) : Int := kge μ h (μ.1 35 p).toInt - kle μ h (μ.1 35 p).toInt + 1
theorem kch_b {μ : kMem} (h : kSpOk μ) (x : Int) (p : Nat) : 1 ≤ kch μ x p ∧ kch μ x p ≤ 255 := by
  have h1 := ksp_b h x (μ.1 35 p).toInt
  unfold kch kle kge
  rcases h1.2.2 with h2 | h2
  · rw [h2]; decide
  · unfold isSp at h2
    omega
theorem ok_X11_multiplyChoices {o : Nat} {x : Int32} {μ : kMem} (h : (o = 64 ∨ o = 66) ∧ (0 ≤ (μ.1 34 4).toInt ∧ (μ.1 34 4).toInt ≤ 120) ∧ (μ.1 16 1).toInt ≤ 8 ∧ kSpOk μ) : kOk yX11_multiplyChoices cX11_multiplyChoices 4 (none) rmX11_multiplyChoices shK 68 [.ref 0, .ref o, .int x] μ (kN fun μ' => (o = 64 → kpo64 μ μ' ∧ kpn64 μ' ∧ kpv64 μ' = prdF (kch μ x.toInt) (μ.1 34 4).toInt.toNat) ∧ (o = 66 → kpo66 μ μ' ∧ kpn66 μ' ∧ kpv66 μ' = prdF (kch μ x.toInt) (μ.1 34 4).toInt.toNat)) := by
  obtain ⟨ho, h0, hh, hsp⟩ := h
  have hpb := prdF_b (f := kch μ x.toInt) (fun i => kch_b hsp x.toInt i)
  rcases ho with rfl | rfl
  · refine kOk.of rfl (Nat.le_of_ble_eq_true rfl) (fun J C => ?_)
    have C : kR cX11_multiplyChoices RX11 4 rmX11_multiplyChoices shK 68 (none) _ J := C
    have loop : ∀ (n p : Nat) (v : Int32) (μ' : kMem), (p : Int) + n = (μ.1 34 4).toInt → v.toInt = p → kpo64 μ μ' → kpn64 μ' → kpv64 μ' = prdF (kch μ x.toInt) p → J 6 [some (.ref 0), some (.ref 64), some (.int x), some (.int v)] [] μ' := by
      intro n
      induction n using Nat.strongRecOn with
      | ind n ih =>
        intro p v μ' hn hv hO hN hV
        have ep : v.toInt.toNat = p := by omega
        have e34 : μ'.1 34 4 = μ.1 34 4 := hO 34 4 (by decide)
        have e35 : μ'.1 35 p = μ.1 35 p := hO 35 p (by decide)
        have e1 : ksp μ' = ksp μ := by funext a b; unfold ksp; rw [hO 16 1 (by decide), hO 17 _ (by decide)]
        have e2 : kle μ' = kle μ := by funext a b; unfold kle; rw [e1]
        have e3 : kge μ' = kge μ := by funext a b; unfold kge; rw [e1]
        have ek : (p : Int) < (μ.1 34 4).toInt → kki μ' v.toInt = μ.1 35 p := fun q => by
          unfold kki
          rw [e34, if_pos (by omega), ep, e35]
        have hs' : (μ'.1 16 1).toInt ≤ 8 ∧ kSpOk μ' := ⟨by rw [hO 16 1 (by decide)]; exact hh, fun i => by rw [hO 17 i (by decide)]; exact hsp i⟩
        have hcb := kch_b hsp x.toInt p
        have hc : (p : Int) < (μ.1 34 4).toInt → (Int32.ofInt (kge μ' x.toInt (kki μ' v.toInt).toInt - kle μ' x.toInt (kki μ' v.toInt).toInt + 1)).toInt = kch μ x.toInt p := fun q => by
          rw [ek q, e2, e3]
          have e : kge μ x.toInt (μ.1 35 p).toInt - kle μ x.toInt (μ.1 35 p).toInt + 1 = kch μ x.toInt p := rfl
          rw [e, ti_ofInt (by omega)]
        have hmul : (p : Int) < (μ.1 34 4).toInt → kpv64 μ' * kch μ x.toInt p < 1048576 ^ 49 := fun q => by
          have h1 := hpb p
          have h2 := pow255 (n := p) (by omega)
          have h3 : prdF (kch μ x.toInt) p * kch μ x.toInt p ≤ 255 ^ p * 255 := Int.mul_le_mul h1.2 hcb.2 (by omega) (Int.le_of_lt (Int.pow_pos (by decide)))
          rw [hV]
          omega
        refine (r_iload_n C dX11_multiplyChoices_6 rfl rfl (r_aload_n C dX11_multiplyChoices_7 rfl rfl (r_getR C dX11_multiplyChoices_8 fd_X11_68 nK_0 sK_0 rfl (r_v0P C yv_X8_size lk_X11_211 dX11_multiplyChoices_11 rfl nK_34 sK_34 rfl (Nat.le_of_ble_eq_true rfl) ok_X8_size (r_icmp_ge C (tgt := 43) dX11_multiplyChoices_14 rfl (fun c14 => (r_ret C dX11_multiplyChoices_43 ?_)) (fun c14 => (r_aload_n C dX11_multiplyChoices_17 rfl rfl (r_aload_n C dX11_multiplyChoices_18 rfl rfl (r_getR C dX11_multiplyChoices_19 fd_X11_38 nK_0 sK_0 rfl (r_iload_n C dX11_multiplyChoices_22 rfl rfl (r_aload_n C dX11_multiplyChoices_23 rfl rfl (r_getR C dX11_multiplyChoices_24 fd_X11_68 nK_0 sK_0 rfl (r_iload_n C dX11_multiplyChoices_27 rfl rfl (r_v1P C yv_X8_kindAt lk_X11_213 dX11_multiplyChoices_28 rfl nK_34 sK_34 rfl (Nat.le_of_ble_eq_true rfl) (ok_X8_kindAt ?_) (r_v2P C yv_X3_choicesOf lk_X11_223 dX11_multiplyChoices_31 rfl nK_16 sK_16 rfl (Nat.le_of_ble_eq_true rfl) (ok_X3_choicesOf ?_) (r_v1N C yv_X6_multiply lk_X11_226 dX11_multiplyChoices_34 rfl nK_64 sK_64 rfl (Nat.le_of_ble_eq_true rfl) (ok_X6_multiply_64 ?_) (fun μ34 h34 => (r_iinc C dX11_multiplyChoices_37 rfl (by decide) (r_goto C (tgt := 6) dX11_multiplyChoices_40 rfl ?_)))))))))))))))))))
        · rw [e34] at c14
          have e : p = (μ.1 34 4).toInt.toNat := by omega
          subst e
          exact ⟨fun q => by first | exact ⟨hO, hN, hV⟩ | exact absurd q (by decide), fun q => by first | exact ⟨hO, hN, hV⟩ | exact absurd q (by decide)⟩
        · rw [e34]; exact h0.2
        · exact hs'
        · rw [e34] at c14
          have q : (p : Int) < (μ.1 34 4).toInt := by omega
          rw [hc q]
          exact ⟨hN, by omega, by omega, hmul q⟩
        · rw [e34] at c14
          have q : (p : Int) < (μ.1 34 4).toInt := by omega
          obtain ⟨k1, k2, k3⟩ := h34
          rw [hc q] at k3
          refine ih (n - 1) (by omega) (p + 1) _ _ (by omega) (by simp (disch := (first | omega | (simp (disch := omega) only [ti_ofInt, ti_addc, ti_subc, ti_mulc, ti_cmul, ti_divc, ti_remc, ti_zero, ti_add, ti_sub, ti_neg, if_lt_ti, if_gt_ti, bP_e0, Classical.not_not, tl_i2l]; omega))) only [ti_ofInt, ti_addc, ti_subc, ti_mulc, ti_cmul, ti_divc, ti_remc, ti_zero, ti_add, ti_sub, ti_neg, if_lt_ti, if_gt_ti, bP_e0, Classical.not_not, tl_i2l]; omega) (fun a b n1 => by rw [k1 a b n1]; exact hO a b n1) k2 ?_
          rw [k3, hV]
          rfl
    refine (r_aload_n C dX11_multiplyChoices_0 rfl rfl (r_v0N C yv_X6_becomeOne lk_X11_220 dX11_multiplyChoices_1 rfl nK_64 sK_64 rfl (Nat.le_of_ble_eq_true rfl) ok_X6_becomeOne_64 (fun μ1 h1 => (r_iconst C dX11_multiplyChoices_4 (r_istore_n C dX11_multiplyChoices_5 rfl (by decide) ?_)))))
    obtain ⟨k1, k2, k3⟩ := h1
    exact loop (μ.1 34 4).toInt.toNat 0 _ _ (by omega) (by simp (disch := (first | omega | (simp (disch := omega) only [ti_ofInt, ti_addc, ti_subc, ti_mulc, ti_cmul, ti_divc, ti_remc, ti_zero, ti_add, ti_sub, ti_neg, if_lt_ti, if_gt_ti, bP_e0, Classical.not_not, tl_i2l]; omega))) only [ti_ofInt, ti_addc, ti_subc, ti_mulc, ti_cmul, ti_divc, ti_remc, ti_zero, ti_add, ti_sub, ti_neg, if_lt_ti, if_gt_ti, bP_e0, Classical.not_not, tl_i2l]; rfl) k1 k2 k3
  · refine kOk.of rfl (Nat.le_of_ble_eq_true rfl) (fun J C => ?_)
    have C : kR cX11_multiplyChoices RX11 4 rmX11_multiplyChoices shK 68 (none) _ J := C
    have loop : ∀ (n p : Nat) (v : Int32) (μ' : kMem), (p : Int) + n = (μ.1 34 4).toInt → v.toInt = p → kpo66 μ μ' → kpn66 μ' → kpv66 μ' = prdF (kch μ x.toInt) p → J 6 [some (.ref 0), some (.ref 66), some (.int x), some (.int v)] [] μ' := by
      intro n
      induction n using Nat.strongRecOn with
      | ind n ih =>
        intro p v μ' hn hv hO hN hV
        have ep : v.toInt.toNat = p := by omega
        have e34 : μ'.1 34 4 = μ.1 34 4 := hO 34 4 (by decide)
        have e35 : μ'.1 35 p = μ.1 35 p := hO 35 p (by decide)
        have e1 : ksp μ' = ksp μ := by funext a b; unfold ksp; rw [hO 16 1 (by decide), hO 17 _ (by decide)]
        have e2 : kle μ' = kle μ := by funext a b; unfold kle; rw [e1]
        have e3 : kge μ' = kge μ := by funext a b; unfold kge; rw [e1]
        have ek : (p : Int) < (μ.1 34 4).toInt → kki μ' v.toInt = μ.1 35 p := fun q => by
          unfold kki
          rw [e34, if_pos (by omega), ep, e35]
        have hs' : (μ'.1 16 1).toInt ≤ 8 ∧ kSpOk μ' := ⟨by rw [hO 16 1 (by decide)]; exact hh, fun i => by rw [hO 17 i (by decide)]; exact hsp i⟩
        have hcb := kch_b hsp x.toInt p
        have hc : (p : Int) < (μ.1 34 4).toInt → (Int32.ofInt (kge μ' x.toInt (kki μ' v.toInt).toInt - kle μ' x.toInt (kki μ' v.toInt).toInt + 1)).toInt = kch μ x.toInt p := fun q => by
          rw [ek q, e2, e3]
          have e : kge μ x.toInt (μ.1 35 p).toInt - kle μ x.toInt (μ.1 35 p).toInt + 1 = kch μ x.toInt p := rfl
          rw [e, ti_ofInt (by omega)]
        have hmul : (p : Int) < (μ.1 34 4).toInt → kpv66 μ' * kch μ x.toInt p < 1048576 ^ 49 := fun q => by
          have h1 := hpb p
          have h2 := pow255 (n := p) (by omega)
          have h3 : prdF (kch μ x.toInt) p * kch μ x.toInt p ≤ 255 ^ p * 255 := Int.mul_le_mul h1.2 hcb.2 (by omega) (Int.le_of_lt (Int.pow_pos (by decide)))
          rw [hV]
          omega
        refine (r_iload_n C dX11_multiplyChoices_6 rfl rfl (r_aload_n C dX11_multiplyChoices_7 rfl rfl (r_getR C dX11_multiplyChoices_8 fd_X11_68 nK_0 sK_0 rfl (r_v0P C yv_X8_size lk_X11_211 dX11_multiplyChoices_11 rfl nK_34 sK_34 rfl (Nat.le_of_ble_eq_true rfl) ok_X8_size (r_icmp_ge C (tgt := 43) dX11_multiplyChoices_14 rfl (fun c14 => (r_ret C dX11_multiplyChoices_43 ?_)) (fun c14 => (r_aload_n C dX11_multiplyChoices_17 rfl rfl (r_aload_n C dX11_multiplyChoices_18 rfl rfl (r_getR C dX11_multiplyChoices_19 fd_X11_38 nK_0 sK_0 rfl (r_iload_n C dX11_multiplyChoices_22 rfl rfl (r_aload_n C dX11_multiplyChoices_23 rfl rfl (r_getR C dX11_multiplyChoices_24 fd_X11_68 nK_0 sK_0 rfl (r_iload_n C dX11_multiplyChoices_27 rfl rfl (r_v1P C yv_X8_kindAt lk_X11_213 dX11_multiplyChoices_28 rfl nK_34 sK_34 rfl (Nat.le_of_ble_eq_true rfl) (ok_X8_kindAt ?_) (r_v2P C yv_X3_choicesOf lk_X11_223 dX11_multiplyChoices_31 rfl nK_16 sK_16 rfl (Nat.le_of_ble_eq_true rfl) (ok_X3_choicesOf ?_) (r_v1N C yv_X6_multiply lk_X11_226 dX11_multiplyChoices_34 rfl nK_66 sK_66 rfl (Nat.le_of_ble_eq_true rfl) (ok_X6_multiply_66 ?_) (fun μ34 h34 => (r_iinc C dX11_multiplyChoices_37 rfl (by decide) (r_goto C (tgt := 6) dX11_multiplyChoices_40 rfl ?_)))))))))))))))))))
        · rw [e34] at c14
          have e : p = (μ.1 34 4).toInt.toNat := by omega
          subst e
          exact ⟨fun q => by first | exact ⟨hO, hN, hV⟩ | exact absurd q (by decide), fun q => by first | exact ⟨hO, hN, hV⟩ | exact absurd q (by decide)⟩
        · rw [e34]; exact h0.2
        · exact hs'
        · rw [e34] at c14
          have q : (p : Int) < (μ.1 34 4).toInt := by omega
          rw [hc q]
          exact ⟨hN, by omega, by omega, hmul q⟩
        · rw [e34] at c14
          have q : (p : Int) < (μ.1 34 4).toInt := by omega
          obtain ⟨k1, k2, k3⟩ := h34
          rw [hc q] at k3
          refine ih (n - 1) (by omega) (p + 1) _ _ (by omega) (by simp (disch := (first | omega | (simp (disch := omega) only [ti_ofInt, ti_addc, ti_subc, ti_mulc, ti_cmul, ti_divc, ti_remc, ti_zero, ti_add, ti_sub, ti_neg, if_lt_ti, if_gt_ti, bP_e0, Classical.not_not, tl_i2l]; omega))) only [ti_ofInt, ti_addc, ti_subc, ti_mulc, ti_cmul, ti_divc, ti_remc, ti_zero, ti_add, ti_sub, ti_neg, if_lt_ti, if_gt_ti, bP_e0, Classical.not_not, tl_i2l]; omega) (fun a b n1 => by rw [k1 a b n1]; exact hO a b n1) k2 ?_
          rw [k3, hV]
          rfl
    refine (r_aload_n C dX11_multiplyChoices_0 rfl rfl (r_v0N C yv_X6_becomeOne lk_X11_220 dX11_multiplyChoices_1 rfl nK_66 sK_66 rfl (Nat.le_of_ble_eq_true rfl) ok_X6_becomeOne_66 (fun μ1 h1 => (r_iconst C dX11_multiplyChoices_4 (r_istore_n C dX11_multiplyChoices_5 rfl (by decide) ?_)))))
    obtain ⟨k1, k2, k3⟩ := h1
    exact loop (μ.1 34 4).toInt.toNat 0 _ _ (by omega) (by simp (disch := (first | omega | (simp (disch := omega) only [ti_ofInt, ti_addc, ti_subc, ti_mulc, ti_cmul, ti_divc, ti_remc, ti_zero, ti_add, ti_sub, ti_neg, if_lt_ti, if_gt_ti, bP_e0, Classical.not_not, tl_i2l]; omega))) only [ti_ofInt, ti_addc, ti_subc, ti_mulc, ti_cmul, ti_divc, ti_remc, ti_zero, ti_add, ti_sub, ti_neg, if_lt_ti, if_gt_ti, bP_e0, Classical.not_not, tl_i2l]; rfl) k1 k2 k3
/-- what is spelled, and whether a tape says it -/
def kSpl (μ μ' : kMem) : Prop := (∃ ks, spL μ = some ks ∧ ks.length ≤ 120 ∧ kSay μ ks μ') ∨ ((spL μ = none ∨ ∃ ks, spL μ = some ks ∧ 120 < ks.length) ∧ ∃ μ1, (∃ ks, kSay μ ks μ1) ∧ μ' = up μ1 34 4 (Int32.ofInt (-1)))
theorem kSpl_sm {μ μ' : kMem} (h : kSpl μ μ') : kSm μ μ' ∧ kSyZ μ' ∧ ∀ a b : Nat, ¬ (a = 34 ∧ b = 4) → a ≠ 35 → μ'.1 a b = μ.1 a b := by
  have key : ∀ a b : Nat, ¬ (a = 34 ∧ b = 4) → a ≠ 35 → μ'.1 a b = μ.1 a b := by
    rcases h with ⟨ks, -, -, h⟩ | ⟨-, μ1, ⟨ks, h⟩, rfl⟩
    · exact h.2.2
    · intro a b n1 n2
      rw [up_ne _ _ n1]
      exact h.2.2 a b n1 n2
  refine ⟨fun a b q => key a b (by unfold relK at q; omega) (by unfold relK at q; omega), ?_, key⟩
  rcases h with ⟨ks, -, h1, h⟩ | ⟨-, μ1, ⟨ks, h⟩, rfl⟩
  · have := h.1
    exact ⟨by omega, by omega⟩
  · unfold kSyZ
    rw [up_same]
    decide
theorem kSpl_says {μ μ1 μ' : kMem} (ht : 0 ≤ (μ.1 25 1).toInt ∧ (μ.1 25 1).toInt ≤ 120) (h : kSpl μ μ1) (hO : kLisO μ1 μ') (x y : Int) : kSay2 μ' x y ↔ saysP (kcs μ x y) (ktn μ) (spL μ) := by
  obtain ⟨s1, s2, s3⟩ := kSpl_sm h
  have s4 : kSm μ μ' := fun a b q => by rw [kLisO_sm hO a b q]; exact s1 a b q
  have e25 : μ'.1 25 1 = μ.1 25 1 := s4 25 1 (by unfold relK; omega)
  have e34 : μ'.1 34 4 = μ1.1 34 4 := hO 34 4 (by decide) (by decide) (by omega)
  have e35 : ∀ p : Nat, μ'.1 35 p = μ1.1 35 p := fun p => hO 35 p (by decide) (by decide) (by omega)
  unfold kSay2
  rw [(kSm_rd s4).1, e25, e34]
  simp only [e35]
  rcases h with ⟨ks, h1, h2, h3⟩ | ⟨h1, μ2, ⟨ks, h2⟩, h3⟩
  · rw [h1, h3.1]
    constructor
    · rintro ⟨a, b⟩
      refine ⟨ks, rfl, by unfold ktn; omega, fun p hp => ?_⟩
      have := b p (by omega)
      rw [h3.2.1 p hp] at this
      exact this
    · rintro ⟨ks', a, b, c⟩
      injection a with a
      subst a
      refine ⟨by unfold ktn at b; omega, fun p hp => ?_⟩
      rw [h3.2.1 p (by omega)]
      exact c p (by omega)
  · rw [h3, up_same]
    constructor
    · rintro ⟨a, b⟩
      have m1 : (Int32.ofInt (-1)).toInt = -1 := by decide
      omega
    · rintro ⟨ks', a, b, c⟩
      exfalso
      rcases h1 with h1 | ⟨ks2, h1, h4⟩
      · rw [h1] at a; cases a
      · rw [h1] at a
        injection a with a
        subst a
        unfold ktn at b
        omega
def kNh (μ : kMem) : Nat := (μ.1 16 1).toInt.toNat
def kCanS (μ : kMem) : Prop := (μ.1 25 1).toInt % 2 = 1 ∧ isSay (kn μ) (kt μ)
theorem ok_X11_suspects {k : Int32} {μ : kMem} (h : kRI μ ∧ kTxOk μ) : kOk yX11_suspects cX11_suspects 5 (some .int) rmX11_suspects shK 68 [.ref 0, .int k] μ (kI fun r μ' => (¬ kCanS μ ∧ r = Int32.ofInt (-1) ∧ μ' = μ) ∨ (kCanS μ ∧ kSm μ μ' ∧ r.toInt = susF (susP (fun h l => kcs μ h l) (kln μ) (ktn μ) (spL μ)) coup k.toInt (kNh μ * 8) 0 0)) := by
  obtain ⟨h, hT⟩ := h
  have ht := h.2.2.2.1.1
  have hh := h.1
  have hln := kLn_n h.2.2.1
  have m1 : (Int32.ofInt (-1)).toInt = -1 := by decide
  have enh : (kNh μ : Int) = (μ.1 16 1).toInt := by unfold kNh; omega
  have hnh : kNh μ ≤ 8 := by omega
  obtain ⟨T, hTT⟩ : ∃ T, T = susF (susP (fun h l => kcs μ h l) (kln μ) (ktn μ) (spL μ)) coup k.toInt (kNh μ * 8) 0 0 := ⟨_, rfl⟩
  refine kOk.of rfl (Nat.le_of_ble_eq_true rfl) (fun J C => ?_)
  have C : kR cX11_suspects RX11 5 rmX11_suspects shK 68 (some .int) _ J := C
  have loop : ∀ (μ26 : kMem), kSpl μ μ26 → kCanS μ → ∀ (n i : Nat) (v f : Int32) (z : Option Value) (g : Nat) (μ' : kMem), i + n = kNh μ → v.toInt = i → f.toInt = g → g ≤ i * 8 → kLisO μ26 μ' → T = susF (susP (fun h l => kcs μ h l) (kln μ) (ktn μ) (spL μ)) coup k.toInt (n * 8) (i * 8) g → J 34 [some (.ref 0), some (.int k), some (.int f), some (.int v), z] [] μ' := by
    intro μ26 hS hC n
    induction n using Nat.strongRecOn with
    | ind n ih =>
      intro i v f z g μ' hi hv hf hg hO hR
      have s4 : kSm μ μ' := fun a b q => by rw [kLisO_sm hO a b q]; exact (kSpl_sm hS).1 a b q
      have e16 : μ'.1 16 1 = μ.1 16 1 := s4 16 1 (by unfold relK; omega)
      have inner : ∀ (m j : Nat) (u f : Int32) (g : Nat) (μ' : kMem), i < kNh μ → j + m = kln μ → u.toInt = j → f.toInt = g → g ≤ i * 8 + j → kLisO μ26 μ' → T = susF (susP (fun h l => kcs μ h l) (kln μ) (ktn μ) (spL μ)) coup k.toInt (n * 8 - j) (i * 8 + j) g → J 48 [some (.ref 0), some (.int k), some (.int f), some (.int v), some (.int u)] [] μ' := by
        intro m
        induction m using Nat.strongRecOn with
        | ind m ihm =>
          intro j u f g μ' hin hj hu hf hg hO hR
          have s4 : kSm μ μ' := fun a b q => by rw [kLisO_sm hO a b q]; exact (kSpl_sm hS).1 a b q
          have e18 : μ'.1 18 7 = μ.1 18 7 := s4 18 7 (by unfold relK; omega)
          have e34 : μ'.1 34 4 = μ26.1 34 4 := hO 34 4 (by decide) (by decide) (by omega)
          have hq : j < kln μ → (kSay2 μ' v.toInt u.toInt ↔ susP (fun h l => kcs μ h l) (kln μ) (ktn μ) (spL μ) (i * 8 + j)) := by
            intro c
            rw [kSpl_says ht hS hO, hv, hu]
            unfold susP
            rw [show (i * 8 + j) / 8 = i by omega, show (i * 8 + j) % 8 = j by omega]
            exact ⟨fun q => ⟨c, q⟩, fun q => q.2⟩
          refine (r_iload C dX11_suspects_48 rfl (r_aload_n C dX11_suspects_50 rfl rfl (r_getR C dX11_suspects_51 fd_X11_45 nK_0 sK_0 rfl (r_v0P C yv_X4_size lk_X11_199 dX11_suspects_54 rfl nK_18 sK_18 rfl (Nat.le_of_ble_eq_true rfl) ok_X4_size (r_icmp_ge C (tgt := 92) dX11_suspects_57 rfl (fun c57 => (r_iinc C dX11_suspects_92 rfl (by decide) (r_goto C (tgt := 34) dX11_suspects_95 rfl ?_))) (fun c57 => (r_aload_n C dX11_suspects_60 rfl rfl (r_iload_n C dX11_suspects_61 rfl rfl (r_iload C dX11_suspects_62 rfl (r_v2I C yv_X11_tapeSaysIt lk_X11_200 dX11_suspects_64 rfl nK_0 sK_0 rfl (Nat.le_of_ble_eq_true rfl) (ok_X11_tapeSaysIt ?_) (fun r64 μ64 h64 => (r_if_eq C (tgt := 86) dX11_suspects_67 rfl (fun c67 => (r_iinc C dX11_suspects_86 rfl (by decide) (r_goto C (tgt := 48) dX11_suspects_89 rfl ?_))) (fun c67 => (r_iload_n C dX11_suspects_70 rfl rfl (r_iload_n C dX11_suspects_71 rfl rfl (r_icmp_ne C (tgt := 83) dX11_suspects_72 rfl (fun c72 => (r_iinc C dX11_suspects_83 rfl (by decide) (r_iinc C dX11_suspects_86 rfl (by decide) (r_goto C (tgt := 48) dX11_suspects_89 rfl ?_)))) (fun c72 => (r_iload_n C dX11_suspects_75 rfl rfl (r_bipush C dX11_suspects_76 (by decide +kernel) (r_imul C dX11_suspects_78 (r_iload C dX11_suspects_79 rfl (r_iadd C dX11_suspects_81 (r_iret C dX11_suspects_82 ?_)))))))))))))))))))))))
          · rw [e18] at c57
            have ej : j = kln μ := by omega
            subst ej
            refine ih (n - 1) (by omega) (i + 1) _ _ _ g μ' (by omega) (by simp (disch := (first | omega | (simp (disch := omega) only [ti_ofInt, ti_addc, ti_subc, ti_mulc, ti_cmul, ti_divc, ti_remc, ti_zero, ti_add, ti_sub, ti_neg, if_lt_ti, if_gt_ti, bP_e0, Classical.not_not, tl_i2l]; omega))) only [ti_ofInt, ti_addc, ti_subc, ti_mulc, ti_cmul, ti_divc, ti_remc, ti_zero, ti_add, ti_sub, ti_neg, if_lt_ti, if_gt_ti, bP_e0, Classical.not_not, tl_i2l]; omega) hf (by omega) hO ?_
            rw [hR]
            have := susF_skip (p := susP (fun h l => kcs μ h l) (kln μ) (ktn μ) (spL μ)) (g := coup) (k := k.toInt) (f := g) (8 - kln μ) ((n - 1) * 8) (i * 8 + kln μ) (fun p a b z => by
              have := z.1
              omega)
            rw [show n * 8 - kln μ = 8 - kln μ + (n - 1) * 8 by omega, this, show i * 8 + kln μ + (8 - kln μ) = (i + 1) * 8 by omega]
          · exact ⟨(kSm_rd s4).2.2.2.2.1 h, by unfold kSyZ; rw [e34]; exact (kSpl_sm hS).2.1⟩
          · rw [e18] at c57
            rw [h64.1] at c67
            have hjl : j < kln μ := by omega
            have hno : ¬ susP (fun h l => kcs μ h l) (kln μ) (ktn μ) (spL μ) (i * 8 + j) := fun z => bP_e0.mp c67 ((hq hjl).mpr z)
            refine ihm (m - 1) (by omega) (j + 1) _ _ g _ hin (by omega) (by simp (disch := (first | omega | (simp (disch := omega) only [ti_ofInt, ti_addc, ti_subc, ti_mulc, ti_cmul, ti_divc, ti_remc, ti_zero, ti_add, ti_sub, ti_neg, if_lt_ti, if_gt_ti, bP_e0, Classical.not_not, tl_i2l]; omega))) only [ti_ofInt, ti_addc, ti_subc, ti_mulc, ti_cmul, ti_divc, ti_remc, ti_zero, ti_add, ti_sub, ti_neg, if_lt_ti, if_gt_ti, bP_e0, Classical.not_not, tl_i2l]; omega) hf (by omega) (fun a b n1 n2 n3 => by rw [h64.2 a b n1 n2 n3]; exact hO a b n1 n2 n3) ?_
            rw [hR, show n * 8 - j = n * 8 - (j + 1) + 1 by omega, susF_f hno]
            rfl
          · rw [e18] at c57
            rw [h64.1] at c67
            have hjl : j < kln μ := by omega
            have hys := (hq hjl).mp (bP_ne c67)
            refine ihm (m - 1) (by omega) (j + 1) _ _ (g + 1) _ hin (by omega) (by simp (disch := (first | omega | (simp (disch := omega) only [ti_ofInt, ti_addc, ti_subc, ti_mulc, ti_cmul, ti_divc, ti_remc, ti_zero, ti_add, ti_sub, ti_neg, if_lt_ti, if_gt_ti, bP_e0, Classical.not_not, tl_i2l]; omega))) only [ti_ofInt, ti_addc, ti_subc, ti_mulc, ti_cmul, ti_divc, ti_remc, ti_zero, ti_add, ti_sub, ti_neg, if_lt_ti, if_gt_ti, bP_e0, Classical.not_not, tl_i2l]; omega) (by simp (disch := (first | omega | (simp (disch := omega) only [ti_ofInt, ti_addc, ti_subc, ti_mulc, ti_cmul, ti_divc, ti_remc, ti_zero, ti_add, ti_sub, ti_neg, if_lt_ti, if_gt_ti, bP_e0, Classical.not_not, tl_i2l]; omega))) only [ti_ofInt, ti_addc, ti_subc, ti_mulc, ti_cmul, ti_divc, ti_remc, ti_zero, ti_add, ti_sub, ti_neg, if_lt_ti, if_gt_ti, bP_e0, Classical.not_not, tl_i2l]; omega) (by omega) (fun a b n1 n2 n3 => by rw [h64.2 a b n1 n2 n3]; exact hO a b n1 n2 n3) ?_
            rw [hR, show n * 8 - j = n * 8 - (j + 1) + 1 by omega, susF_t hys, if_neg (by omega)]
            rfl
          · rw [e18] at c57
            rw [h64.1] at c67
            have hjl : j < kln μ := by omega
            have hys := (hq hjl).mp (bP_ne c67)
            refine Or.inr ⟨hC, fun a b q => by rw [kLisO_sm h64.2 a b q]; exact s4 a b q, ?_⟩
            rw [← hTT, hR, show n * 8 - j = n * 8 - (j + 1) + 1 by omega, susF_t hys, if_pos (by omega)]
            unfold coup
            rw [show (i * 8 + j) / 8 = i by omega, show (i * 8 + j) % 8 = j by omega]
            have e : (v * Int32.ofInt 10).toInt = v.toInt * 10 := ti_mulc (by omega)
            rw [ti_add (by omega), e]
            omega
      refine (r_iload_n C dX11_suspects_34 rfl rfl (r_aload_n C dX11_suspects_35 rfl rfl (r_getR C dX11_suspects_36 fd_X11_38 nK_0 sK_0 rfl (r_v0P C yv_X3_size lk_X11_198 dX11_suspects_39 rfl nK_16 sK_16 rfl (Nat.le_of_ble_eq_true rfl) ok_X3_size (r_icmp_ge C (tgt := 98) dX11_suspects_42 rfl (fun c42 => (r_iload_n C dX11_suspects_98 rfl rfl (r_iconst C dX11_suspects_99 (r_icmp_ne C (tgt := 107) dX11_suspects_100 rfl (fun c100 => (r_iconst C dX11_suspects_107 (r_iret C dX11_suspects_108 ?_))) (fun c100 => (r_iload_n C dX11_suspects_103 rfl rfl (r_goto C (tgt := 108) dX11_suspects_104 rfl (r_iret C dX11_suspects_108 ?_)))))))) (fun c42 => (r_iconst C dX11_suspects_45 (r_istore C dX11_suspects_46 (by decide) ?_))))))))
      · rw [e16] at c42
        rw [m1] at c100
        have en : n = 0 := by omega
        subst en
        refine Or.inr ⟨hC, s4, ?_⟩
        rw [← hTT, hR]
        show _ = if k.toInt = -1 then (g : Int) else -1
        rw [if_neg c100, m1]
      · rw [e16] at c42
        rw [m1] at c100
        have en : n = 0 := by omega
        subst en
        refine Or.inr ⟨hC, s4, ?_⟩
        rw [← hTT, hR]
        show _ = if k.toInt = -1 then (g : Int) else -1
        rw [if_pos c100, hf]
      · rw [e16] at c42
        exact inner (kln μ) 0 _ _ g μ' (by omega) (by omega) (by simp (disch := (first | omega | (simp (disch := omega) only [ti_ofInt, ti_addc, ti_subc, ti_mulc, ti_cmul, ti_divc, ti_remc, ti_zero, ti_add, ti_sub, ti_neg, if_lt_ti, if_gt_ti, bP_e0, Classical.not_not, tl_i2l]; omega))) only [ti_ofInt, ti_addc, ti_subc, ti_mulc, ti_cmul, ti_divc, ti_remc, ti_zero, ti_add, ti_sub, ti_neg, if_lt_ti, if_gt_ti, bP_e0, Classical.not_not, tl_i2l]; rfl) hf (by omega) hO hR
  refine (r_aload_n C dX11_suspects_0 rfl rfl (r_getR C dX11_suspects_1 fd_X11_52 nK_0 sK_0 rfl (r_v0P C yv_X9_isWhole lk_X11_189 dX11_suspects_4 rfl nK_25 sK_25 rfl (Nat.le_of_ble_eq_true rfl) (ok_X9_isWhole ?_) (r_if_eq C (tgt := 20) dX11_suspects_7 rfl (fun c7 => (r_iconst C dX11_suspects_20 (r_iret C dX11_suspects_21 ?_))) (fun c7 => (r_aload_n C dX11_suspects_10 rfl rfl (r_getR C dX11_suspects_11 fd_X11_68 nK_0 sK_0 rfl (r_v0P C yv_X8_isThere lk_X11_192 dX11_suspects_14 rfl nK_34 sK_34 rfl (Nat.le_of_ble_eq_true rfl) (ok_X8_isThere ?_) (r_if_ne C (tgt := 22) dX11_suspects_17 rfl (fun c17 => (r_aload_n C dX11_suspects_22 rfl rfl (r_getR C dX11_suspects_23 fd_X11_68 nK_0 sK_0 rfl (r_v0I C yv_X8_spell lk_X11_195 dX11_suspects_26 rfl nK_34 sK_34 rfl (Nat.le_of_ble_eq_true rfl) (ok_X8_spell ?_) (fun r26 μ26 h26 => (r_pop C dX11_suspects_29 rfl (r_iconst C dX11_suspects_30 (r_istore_n C dX11_suspects_31 rfl (by decide) (r_iconst C dX11_suspects_32 (r_istore_n C dX11_suspects_33 rfl (by decide) ?_)))))))))) (fun c17 => (r_iconst C dX11_suspects_20 (r_iret C dX11_suspects_21 ?_))))))))))))
  · exact ht.1
  · exact Or.inl ⟨fun z => bP_e0.mp c7 z.1, rfl, rfl⟩
  · exact hT
  · exact ⟨hT, h.2.2.2.2, bP_ne c17⟩
  · have hS : kSpl μ μ26 := by
      rcases h26 with ⟨ks, a, b, c, -⟩ | ⟨a, -, c⟩
      · exact Or.inl ⟨ks, a, b, c⟩
      · exact Or.inr ⟨a, c⟩
    exact loop μ26 hS ⟨bP_ne c7, bP_ne c17⟩ (kNh μ) 0 _ _ _ 0 μ26 (by omega) (by simp (disch := (first | omega | (simp (disch := omega) only [ti_ofInt, ti_addc, ti_subc, ti_mulc, ti_cmul, ti_divc, ti_remc, ti_zero, ti_add, ti_sub, ti_neg, if_lt_ti, if_gt_ti, bP_e0, Classical.not_not, tl_i2l]; omega))) only [ti_ofInt, ti_addc, ti_subc, ti_mulc, ti_cmul, ti_divc, ti_remc, ti_zero, ti_add, ti_sub, ti_neg, if_lt_ti, if_gt_ti, bP_e0, Classical.not_not, tl_i2l]; rfl) (by simp (disch := (first | omega | (simp (disch := omega) only [ti_ofInt, ti_addc, ti_subc, ti_mulc, ti_cmul, ti_divc, ti_remc, ti_zero, ti_add, ti_sub, ti_neg, if_lt_ti, if_gt_ti, bP_e0, Classical.not_not, tl_i2l]; omega))) only [ti_ofInt, ti_addc, ti_subc, ti_mulc, ti_cmul, ti_divc, ti_remc, ti_zero, ti_add, ti_sub, ti_neg, if_lt_ti, if_gt_ti, bP_e0, Classical.not_not, tl_i2l]; rfl) (by omega) (fun _ _ _ _ _ => rfl) hTT
  · exact Or.inl ⟨fun z => bP_e0.mp c17 z.2, rfl, rfl⟩

