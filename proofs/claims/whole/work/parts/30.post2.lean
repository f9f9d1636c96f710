/-! ===== Post: the run ===== -/
theorem ok_X5_nextBegin {s : kPs} {μ : kMem} (h : kPo s μ ∧ ∀ l, 0 ≤ sF s l) : kOk yX5_nextBegin cX5_nextBegin 5 (some .int) rmX5_nextBegin shK 68 [.ref 37] μ (kI fun r μ' => μ' = μ ∧ ((r = Int32.ofInt (-1) ∧ ∀ m, m < pNm (kpd μ) → ¬ sG s m < pZ (kpd μ) m) ∨ (0 ≤ r.toInt ∧ pMin (kpd μ) s r.toInt))) := by
  obtain ⟨⟨hl, hp, hr⟩, hF⟩ := h
  have hn := kp_n hp
  have hd := kpd_ok hl hp
  have hln := kLn_n hl
  have m1 : (Int32.ofInt (-1)).toInt = -1 := by decide
  refine kOk.of rfl (Nat.le_of_ble_eq_true rfl) (fun J C => ?_)
  have C : kR cX5_nextBegin RX5 5 rmX5_nextBegin shK 68 (some .int) _ J := C
  have loop : ∀ (n i : Nat) (v r : Int32) (z1 z2 : Option Value), i + n = pNm (kpd μ) → v.toInt = i → ((r = Int32.ofInt (-1) ∧ ∀ m, m < i → ¬ sG s m < pZ (kpd μ) m) ∨ (0 ≤ r.toInt ∧ (∃ m, m < i ∧ sG s m < pZ (kpd μ) m ∧ r.toInt = max (sS s m) (sF s (pR (kpd μ) m (sG s m)))) ∧ ∀ m, m < i → sG s m < pZ (kpd μ) m → r.toInt ≤ max (sS s m) (sF s (pR (kpd μ) m (sG s m))))) → J 4 [some (.ref 37), some (.int r), some (.int v), z1, z2] [] μ := by
    intro n
    induction n using Nat.strongRecOn with
    | ind n ih =>
      intro i v r z1 z2 hi hv hr2
      have evi : v.toInt.toNat = i := by omega
      have hp1 : i < pNm (kpd μ) → kPo s μ ∧ 0 ≤ v.toInt ∧ v.toInt < (μ.1 37 6).toInt := fun q => ⟨⟨hl, hp, hr⟩, by omega, by omega⟩
      have nx : i < pNm (kpd μ) → (v + Int32.ofInt 1).toInt = ((i + 1 : Nat) : Int) := fun q => by rw [ti_addc (by omega)]; omega
      have kno : i < pNm (kpd μ) → (Int32.ofInt (knl s μ v.toInt.toNat)).toInt = -1 → ¬ sG s i < pZ (kpd μ) i := by
        intro q1 q2 q3
        rw [evi] at q2
        unfold knl at q2
        rw [if_pos q3] at q2
        have := (hd.2.2 i q1).2.2.2.1 _ q3
        have hl9 : pNl (kpd μ) = kln μ := rfl
        rw [ti_ofInt (by omega)] at q2
        omega
      have kys : i < pNm (kpd μ) → ¬ (Int32.ofInt (knl s μ v.toInt.toNat)).toInt = -1 → sG s i < pZ (kpd μ) i ∧ (Int32.ofInt (knl s μ v.toInt.toNat)).toInt = pR (kpd μ) i (sG s i) ∧ pR (kpd μ) i (sG s i) < 8 := by
        intro q1 q2
        rw [evi] at q2 ⊢
        by_cases q3 : sG s i < pZ (kpd μ) i
        · have := (hd.2.2 i q1).2.2.2.1 _ q3
          have hl9 : pNl (kpd μ) = kln μ := rfl
          unfold knl
          rw [if_pos q3, ti_ofInt (by omega)]
          exact ⟨q3, rfl, by omega⟩
        · unfold knl at q2
          rw [if_neg q3] at q2
          exact absurd m1 q2
      have emx : i < pNm (kpd μ) → ¬ (Int32.ofInt (knl s μ v.toInt.toNat)).toInt = -1 → (if μ.1 47 v.toInt.toNat < μ.1 48 (Int32.ofInt (knl s μ v.toInt.toNat)).toInt.toNat then μ.1 48 (Int32.ofInt (knl s μ v.toInt.toNat)).toInt.toNat else μ.1 47 v.toInt.toNat).toInt = max (sS s i) (sF s (pR (kpd μ) i (sG s i))) := by
        intro q1 q2
        obtain ⟨k1, k2, k3⟩ := kys q1 q2
        rw [if_gt_ti, k2, Int.toNat_natCast, evi, (hr.2.1 i q1).2.2.1, hr.2.2 _ k3]
      refine (r_iload_n C dX5_nextBegin_4 rfl rfl (r_aload_n C dX5_nextBegin_5 rfl rfl (r_getI C dX5_nextBegin_6 fd_X5_51 nK_37 sK_37 rfl (r_icmp_ge C (tgt := 60) dX5_nextBegin_9 rfl (fun c9 => (r_iload_n C dX5_nextBegin_60 rfl rfl (r_iret C dX5_nextBegin_61 ?_))) (fun c9 => (r_aload_n C dX5_nextBegin_12 rfl rfl (r_iload_n C dX5_nextBegin_13 rfl rfl (r_v1P C yv_X5_nextLine lk_X5_79 dX5_nextBegin_14 rfl nK_37 sK_37 rfl (Nat.le_of_ble_eq_true rfl) (ok_X5_nextLine (hp1 (by omega))) (r_istore_n C dX5_nextBegin_17 rfl (by decide) (r_iload_n C dX5_nextBegin_18 rfl rfl (r_iconst C dX5_nextBegin_19 (r_icmp_eq C (tgt := 54) dX5_nextBegin_20 rfl (fun c20 => (r_iinc C dX5_nextBegin_54 rfl (by decide) (r_goto C (tgt := 4) dX5_nextBegin_57 rfl ?_))) (fun c20 => (r_aload_n C dX5_nextBegin_23 rfl rfl (r_getR C dX5_nextBegin_24 fd_X5_41 nK_37 sK_37 rfl (r_iload_n C dX5_nextBegin_27 rfl rfl (r_iald C dX5_nextBegin_28 nK_47 sK_47 ?_ (r_aload_n C dX5_nextBegin_29 rfl rfl (r_getR C dX5_nextBegin_30 fd_X5_44 nK_37 sK_37 rfl (r_iload_n C dX5_nextBegin_33 rfl rfl (r_iald C dX5_nextBegin_34 nK_48 sK_48 ?_ (r_max C mh_X5_82 dX5_nextBegin_35 ⟨rfl, rfl⟩ (Nat.le_of_ble_eq_true rfl) (r_istore C dX5_nextBegin_38 (by decide) (r_iload_n C dX5_nextBegin_40 rfl rfl (r_iconst C dX5_nextBegin_41 (r_icmp_eq C (tgt := 51) dX5_nextBegin_42 rfl (fun c42 => (r_iload C dX5_nextBegin_51 rfl (r_istore_n C dX5_nextBegin_53 rfl (by decide) (r_iinc C dX5_nextBegin_54 rfl (by decide) (r_goto C (tgt := 4) dX5_nextBegin_57 rfl ?_))))) (fun c42 => (r_iload C dX5_nextBegin_45 rfl (r_iload_n C dX5_nextBegin_47 rfl rfl (r_icmp_ge C (tgt := 54) dX5_nextBegin_48 rfl (fun c48 => (r_iinc C dX5_nextBegin_54 rfl (by decide) (r_goto C (tgt := 4) dX5_nextBegin_57 rfl ?_))) (fun c48 => (r_iload C dX5_nextBegin_51 rfl (r_istore_n C dX5_nextBegin_53 rfl (by decide) (r_iinc C dX5_nextBegin_54 rfl (by decide) (r_goto C (tgt := 4) dX5_nextBegin_57 rfl ?_)))))))))))))))))))))))))))))))))))
      · have e : i = pNm (kpd μ) := by omega
        subst e
        refine ⟨rfl, ?_⟩
        rcases hr2 with ⟨q1, q2⟩ | ⟨q0, q1, q2⟩
        · exact Or.inl ⟨q1, q2⟩
        · exact Or.inr ⟨q0, q1, q2⟩
      · have h1 := kno (by omega) (by rw [m1] at c20; exact c20)
        refine ih (n - 1) (by omega) (i + 1) _ _ _ _ (by omega) (nx (by omega)) ?_
        rcases hr2 with ⟨q1, q2⟩ | ⟨q0, ⟨m, a, b, c⟩, q2⟩
        · refine Or.inl ⟨q1, fun m hm => ?_⟩
          by_cases e : m = i
          · subst e; exact h1
          · exact q2 m (by omega)
        · refine Or.inr ⟨q0, ⟨m, by omega, b, c⟩, fun m' hm hg => ?_⟩
          by_cases e : m' = i
          · subst e; exact absurd hg h1
          · exact q2 m' (by omega) hg
      · omega
      · rw [m1] at c20
        have := kys (by omega) c20
        omega
      · rw [m1] at c20
        have h1 := kys (by omega) c20
        have h2 := emx (by omega) c20
        have h3 := hF (pR (kpd μ) i (sG s i))
        refine ih (n - 1) (by omega) (i + 1) _ _ _ _ (by omega) (nx (by omega)) (Or.inr ⟨by rw [h2]; omega, ⟨i, by omega, h1.1, h2⟩, fun m hm hg => ?_⟩)
        by_cases e : m = i
        · subst e; rw [h2]; exact Int.le_refl _
        · rcases hr2 with ⟨q1, q2⟩ | ⟨q0, q1, q2⟩
          · exact absurd hg (q2 m (by omega))
          · omega
      · rw [m1] at c20
        have h1 := kys (by omega) c20
        have h2 := emx (by omega) c20
        rw [h2] at c48
        refine ih (n - 1) (by omega) (i + 1) _ _ _ _ (by omega) (nx (by omega)) ?_
        rcases hr2 with ⟨q1, q2⟩ | ⟨q0, ⟨m, a, b, c⟩, q2⟩
        · exact absurd (by rw [q1]) c42
        · refine Or.inr ⟨q0, ⟨m, by omega, b, c⟩, fun m' hm hg => ?_⟩
          by_cases e : m' = i
          · subst e; exact c48
          · exact q2 m' (by omega) hg
      · rw [m1] at c20
        have h1 := kys (by omega) c20
        have h2 := emx (by omega) c20
        have h3 := hF (pR (kpd μ) i (sG s i))
        rw [h2] at c48
        refine ih (n - 1) (by omega) (i + 1) _ _ _ _ (by omega) (nx (by omega)) (Or.inr ⟨by rw [h2]; omega, ⟨i, by omega, h1.1, h2⟩, fun m hm hg => ?_⟩)
        by_cases e : m = i
        · subst e; rw [h2]; exact Int.le_refl _
        · rcases hr2 with ⟨q1, q2⟩ | ⟨q0, q1, q2⟩
          · exact absurd hg (q2 m (by omega))
          · have := q2 m (by omega) hg
            omega
  refine (r_iconst C dX5_nextBegin_0 (r_istore_n C dX5_nextBegin_1 rfl (by decide) (r_iconst C dX5_nextBegin_2 (r_istore_n C dX5_nextBegin_3 rfl (by decide) ?_))))
  exact loop (pNm (kpd μ)) 0 _ _ _ _ (by omega) (by simp (disch := (first | omega | (simp (disch := omega) only [ti_ofInt, ti_addc, ti_subc, ti_mulc, ti_cmul, ti_divc, ti_remc, ti_zero, ti_add, ti_sub, ti_neg, if_lt_ti, if_gt_ti, bP_e0, Classical.not_not, tl_i2l]; omega))) only [ti_ofInt, ti_addc, ti_subc, ti_mulc, ti_cmul, ti_divc, ti_remc, ti_zero, ti_add, ti_sub, ti_neg, if_lt_ti, if_gt_ti, bP_e0, Classical.not_not, tl_i2l]; rfl) (Or.inl ⟨rfl, fun m hm => absurd hm (Nat.not_lt_zero _)⟩)
theorem ok_X5_prepare {μ : kMem} (h : kLnOk μ ∧ kPsOk μ) : kOk yX5_prepare cX5_prepare 3 (none) rmX5_prepare shK 68 [.ref 37] μ (kN fun μ' => kPo (pRun (kpd μ) 0) μ' ∧ pSame μ μ') := by
  obtain ⟨hl, hp⟩ := h
  have hn := kp_n hp
  have hd := kpd_ok hl hp
  have hln := kLn_n hl
  have m1 : (Int32.ofInt (-1)).toInt = -1 := by decide
  have m5 : (Int32.ofInt 5).toInt = 5 := by decide
  have m8 : (Int32.ofInt 8).toInt = 8 := by decide
  refine kOk.of rfl (Nat.le_of_ble_eq_true rfl) (fun J C => ?_)
  have C : kR cX5_prepare RX5 3 rmX5_prepare shK 68 (none) _ J := C
  have loop3 : ∀ (n i : Nat) (v : Int32) (μ' : kMem) (z : Option Value), i + n = 8 → v.toInt = i → (∀ m, m < pNm (kpd μ) → ((μ'.1 45 m).toInt = pZ (kpd μ) m ∧ (∀ h, h < pZ (kpd μ) m → (μ'.1 43 (m * 5 + h)).toInt = pR (kpd μ) m h)) ∧ (μ'.1 46 m).toInt = 0 ∧ (μ'.1 47 m).toInt = pT (kpd μ) m) → (∀ j, j < i → (μ'.1 48 j).toInt = 0) → pSame μ μ' → J 107 [some (.ref 37), some (.int v), z] [] μ' := by
    intro n
    induction n using Nat.strongRecOn with
    | ind n ih =>
      intro i v μ' z hi hv hM hF hS
      have evi : v.toInt.toNat = i := by omega
      refine (r_iload_n C dX5_prepare_107 rfl rfl (r_bipush C dX5_prepare_108 (by decide +kernel) (r_icmp_ge C (tgt := 126) dX5_prepare_110 rfl (fun c110 => (r_ret C dX5_prepare_126 ?_)) (fun c110 => (r_aload_n C dX5_prepare_113 rfl rfl (r_getR C dX5_prepare_114 fd_X5_44 nK_37 sK_37 rfl (r_iload_n C dX5_prepare_117 rfl rfl (r_iconst C dX5_prepare_118 (r_iast C dX5_prepare_119 nK_48 sK_48 ?_ (r_iinc C dX5_prepare_120 rfl (by decide) (r_goto C (tgt := 107) dX5_prepare_123 rfl ?_)))))))))))
      · have hA := pSame_all hS
        refine ⟨⟨hA.2.2.1 hl, hA.2.1 hp, ?_⟩, hS⟩
        unfold kPr
        rw [hA.1]
        refine ⟨fun m hm => (hM m hm).1, fun m hm => ⟨Nat.zero_le _, (hM m hm).2.1, (hM m hm).2.2, fun h q => absurd q (Nat.not_lt_zero _)⟩, fun j hj => hF j (by omega)⟩
      · omega
      · refine ih (n - 1) (by omega) (i + 1) _ _ _ (by omega) (by simp (disch := (first | omega | (simp (disch := omega) only [ti_ofInt, ti_addc, ti_subc, ti_mulc, ti_cmul, ti_divc, ti_remc, ti_zero, ti_add, ti_sub, ti_neg, if_lt_ti, if_gt_ti, bP_e0, Classical.not_not, tl_i2l]; omega))) only [ti_ofInt, ti_addc, ti_subc, ti_mulc, ti_cmul, ti_divc, ti_remc, ti_zero, ti_add, ti_sub, ti_neg, if_lt_ti, if_gt_ti, bP_e0, Classical.not_not, tl_i2l]; omega) ?_ ?_ ?_
        · intro m hm
          simp (disch := decide) only [up_same, up_neo, up_nek, up_2]
          exact hM m hm
        · intro j hj
          rw [evi]
          by_cases e : j = i
          · subst e; rw [up_same]; decide
          · rw [up_nek _ _ e]; exact hF j (by omega)
        · exact pSame_trans hS (fun a b n1 n2 n3 n4 => up_neo _ _ (by omega))
  have loop : ∀ (n i : Nat) (v : Int32) (μ' : kMem) (z : Option Value), i + n = pNm (kpd μ) → v.toInt = i → (∀ m, m < i → ((μ'.1 45 m).toInt = pZ (kpd μ) m ∧ (∀ h, h < pZ (kpd μ) m → (μ'.1 43 (m * 5 + h)).toInt = pR (kpd μ) m h)) ∧ (μ'.1 46 m).toInt = 0 ∧ (μ'.1 47 m).toInt = pT (kpd μ) m) → pSame μ μ' → J 2 [some (.ref 37), some (.int v), z] [] μ' := by
    intro n
    induction n using Nat.strongRecOn with
    | ind n ih =>
      intro i v μ' z hi hv hM hS
      have evi : v.toInt.toNat = i := by omega
      have e37 : (μ'.1 37 6).toInt = pNm (kpd μ) := by rw [hS 37 6 (by decide) (by decide) (by decide) (by decide)]; omega
      have hA := pSame_all hS
      have loop2 : ∀ (k h : Nat) (u : Int32) (μ1 : kMem), i < pNm (kpd μ) → h + k = pZ (kpd μ) i → u.toInt = h → (∀ m, m < i → ((μ1.1 45 m).toInt = pZ (kpd μ) m ∧ (∀ h, h < pZ (kpd μ) m → (μ1.1 43 (m * 5 + h)).toInt = pR (kpd μ) m h)) ∧ (μ1.1 46 m).toInt = 0 ∧ (μ1.1 47 m).toInt = pT (kpd μ) m) → (∀ j, j < h → (μ1.1 43 (i * 5 + j)).toInt = pR (kpd μ) i j) → (μ1.1 18 6).toInt = pZ (kpd μ) i → (∀ j, j < pZ (kpd μ) i → (μ1.1 24 j).toInt = pR (kpd μ) i j) → pSame μ μ1 → J 32 [some (.ref 37), some (.int v), some (.int u)] [] μ1 := by
        intro k
        induction k using Nat.strongRecOn with
        | ind k ih2 =>
          intro h u μ1 hin hk hu hM1 hR1 h186 h24 hS1
          have hdi := hd.2.2 i hin
          have euh : u.toInt.toNat = h := by omega
          have hra : h < pZ (kpd μ) i → (kra μ1 u.toInt).toInt = pR (kpd μ) i h := by
            intro q
            unfold kra
            rw [if_pos (by omega), euh]
            exact h24 h q
          have hra2 : ¬ h < pZ (kpd μ) i → (kra μ1 u.toInt).toInt = -1 := by
            intro q
            unfold kra
            rw [if_neg (by omega), m1]
          have e40 : (μ1.1 40 i).toInt = pT (kpd μ) i := by rw [hS1 40 i (by omega) (by omega) (by omega) (by omega)]; rfl
          have e5 : h < 5 → (v * Int32.ofInt 5 + u).toInt = ((i * 5 + h : Nat) : Int) := by
            intro q
            have a : (v * Int32.ofInt 5).toInt = v.toInt * 5 := ti_mulc (by omega)
            rw [ti_add (by omega), a]
            omega
          have done : h = pZ (kpd μ) i → J 2 [some (.ref 37), some (.int (v + Int32.ofInt 1)), some (.int u)] [] (up (up (up μ1 45 i u) 46 i (Int32.ofInt 0)) 47 i (μ1.1 40 i)) := by
            intro q
            refine ih (n - 1) (by omega) (i + 1) _ _ _ (by omega) (by simp (disch := (first | omega | (simp (disch := omega) only [ti_ofInt, ti_addc, ti_subc, ti_mulc, ti_cmul, ti_divc, ti_remc, ti_zero, ti_add, ti_sub, ti_neg, if_lt_ti, if_gt_ti, bP_e0, Classical.not_not, tl_i2l]; omega))) only [ti_ofInt, ti_addc, ti_subc, ti_mulc, ti_cmul, ti_divc, ti_remc, ti_zero, ti_add, ti_sub, ti_neg, if_lt_ti, if_gt_ti, bP_e0, Classical.not_not, tl_i2l]; omega) ?_ ?_
            · intro m hm
              simp (disch := decide) only [up_same, up_neo, up_nek, up_2]
              by_cases e : m = i
              · subst e
                rw [up_same, up_same, up_same]
                exact ⟨⟨by omega, fun j hj => hR1 j (by omega)⟩, by decide, e40⟩
              · simp (disch := first | decide | exact e) only [up_nek, up_neo]
                exact hM1 m (by omega)
            · exact pSame_trans hS1 (fun a b n1 n2 n3 n4 => by rw [up_neo _ _ (by omega), up_neo _ _ (by omega), up_neo _ _ (by omega)])
          refine (r_iload_n C dX5_prepare_32 rfl rfl (r_iconst C dX5_prepare_33 (r_icmp_ge C (tgt := 73) dX5_prepare_34 rfl (fun c34 => (r_aload_n C dX5_prepare_73 rfl rfl (r_getR C dX5_prepare_74 fd_X5_35 nK_37 sK_37 rfl (r_iload_n C dX5_prepare_77 rfl rfl (r_iload_n C dX5_prepare_78 rfl rfl (r_iast C dX5_prepare_79 nK_45 sK_45 ?_ (r_aload_n C dX5_prepare_80 rfl rfl (r_getR C dX5_prepare_81 fd_X5_38 nK_37 sK_37 rfl (r_iload_n C dX5_prepare_84 rfl rfl (r_iconst C dX5_prepare_85 (r_iast C dX5_prepare_86 nK_46 sK_46 ?_ (r_aload_n C dX5_prepare_87 rfl rfl (r_getR C dX5_prepare_88 fd_X5_41 nK_37 sK_37 rfl (r_iload_n C dX5_prepare_91 rfl rfl (r_aload_n C dX5_prepare_92 rfl rfl (r_getR C dX5_prepare_93 fd_X5_20 nK_37 sK_37 rfl (r_iload_n C dX5_prepare_96 rfl rfl (r_iald C dX5_prepare_97 nK_40 sK_40 ?_ (r_iast C dX5_prepare_98 nK_47 sK_47 ?_ (r_iinc C dX5_prepare_99 rfl (by decide) (r_goto C (tgt := 2) dX5_prepare_102 rfl ?_))))))))))))))))))))) (fun c34 => (r_aload_n C dX5_prepare_37 rfl rfl (r_getR C dX5_prepare_38 fd_X5_47 nK_37 sK_37 rfl (r_iload_n C dX5_prepare_41 rfl rfl (r_v1P C yv_X4_routeAt lk_X5_75 dX5_prepare_42 rfl nK_18 sK_18 rfl (Nat.le_of_ble_eq_true rfl) (ok_X4_routeAt ?_) (r_iconst C dX5_prepare_45 (r_icmp_eq C (tgt := 73) dX5_prepare_46 rfl (fun c46 => (r_aload_n C dX5_prepare_73 rfl rfl (r_getR C dX5_prepare_74 fd_X5_35 nK_37 sK_37 rfl (r_iload_n C dX5_prepare_77 rfl rfl (r_iload_n C dX5_prepare_78 rfl rfl (r_iast C dX5_prepare_79 nK_45 sK_45 ?_ (r_aload_n C dX5_prepare_80 rfl rfl (r_getR C dX5_prepare_81 fd_X5_38 nK_37 sK_37 rfl (r_iload_n C dX5_prepare_84 rfl rfl (r_iconst C dX5_prepare_85 (r_iast C dX5_prepare_86 nK_46 sK_46 ?_ (r_aload_n C dX5_prepare_87 rfl rfl (r_getR C dX5_prepare_88 fd_X5_41 nK_37 sK_37 rfl (r_iload_n C dX5_prepare_91 rfl rfl (r_aload_n C dX5_prepare_92 rfl rfl (r_getR C dX5_prepare_93 fd_X5_20 nK_37 sK_37 rfl (r_iload_n C dX5_prepare_96 rfl rfl (r_iald C dX5_prepare_97 nK_40 sK_40 ?_ (r_iast C dX5_prepare_98 nK_47 sK_47 ?_ (r_iinc C dX5_prepare_99 rfl (by decide) (r_goto C (tgt := 2) dX5_prepare_102 rfl ?_))))))))))))))))))))) (fun c46 => (r_aload_n C dX5_prepare_49 rfl rfl (r_getR C dX5_prepare_50 fd_X5_29 nK_37 sK_37 rfl (r_iload_n C dX5_prepare_53 rfl rfl (r_iconst C dX5_prepare_54 (r_imul C dX5_prepare_55 (r_iload_n C dX5_prepare_56 rfl rfl (r_iadd C dX5_prepare_57 (r_aload_n C dX5_prepare_58 rfl rfl (r_getR C dX5_prepare_59 fd_X5_47 nK_37 sK_37 rfl (r_iload_n C dX5_prepare_62 rfl rfl (r_v1P C yv_X4_routeAt lk_X5_75 dX5_prepare_63 rfl nK_18 sK_18 rfl (Nat.le_of_ble_eq_true rfl) (ok_X4_routeAt ?_) (r_iast C dX5_prepare_66 nK_43 sK_43 ?_ (r_iinc C dX5_prepare_67 rfl (by decide) (r_goto C (tgt := 32) dX5_prepare_70 rfl ?_)))))))))))))))))))))))))
          · omega
          · omega
          · omega
          · omega
          · rw [evi]
            simp (disch := decide) only [up_same, up_neo, up_nek, up_2]
            exact done (by omega)
          · omega
          · omega
          · omega
          · omega
          · omega
          · rw [m1] at c46
            rw [evi]
            simp (disch := decide) only [up_same, up_neo, up_nek, up_2]
            refine done ?_
            by_cases q : h < pZ (kpd μ) i
            · have := hra q; omega
            · omega
          · omega
          · rw [e5 (by omega)]
            omega
          · rw [m1] at c46
            have q : h < pZ (kpd μ) i := Classical.byContradiction (fun z => c46 (hra2 z))
            rw [e5 (by omega), Int.toNat_natCast]
            refine ih2 (k - 1) (by omega) (h + 1) _ _ hin (by omega) (by simp (disch := (first | omega | (simp (disch := omega) only [ti_ofInt, ti_addc, ti_subc, ti_mulc, ti_cmul, ti_divc, ti_remc, ti_zero, ti_add, ti_sub, ti_neg, if_lt_ti, if_gt_ti, bP_e0, Classical.not_not, tl_i2l]; omega))) only [ti_ofInt, ti_addc, ti_subc, ti_mulc, ti_cmul, ti_divc, ti_remc, ti_zero, ti_add, ti_sub, ti_neg, if_lt_ti, if_gt_ti, bP_e0, Classical.not_not, tl_i2l]; omega) ?_ ?_ ?_ ?_ ?_
            · intro m hm
              simp (disch := decide) only [up_same, up_neo, up_nek, up_2]
              refine ⟨⟨(hM1 m hm).1.1, fun j hj => ?_⟩, (hM1 m hm).2⟩
              have := (hd.2.2 m (by omega)).2.2.1.2
              rw [up_nek _ _ (by omega)]
              exact (hM1 m hm).1.2 j hj
            · intro j hj
              by_cases e : j = h
              · subst e
                rw [up_same]
                exact hra q
              · rw [up_nek _ _ (by omega)]
                exact hR1 j (by omega)
            · simp (disch := decide) only [up_same, up_neo, up_nek, up_2]
              exact h186
            · intro j hj
              simp (disch := decide) only [up_same, up_neo, up_nek, up_2]
              exact h24 j hj
            · exact pSame_trans hS1 (fun a b n1 n2 n3 n4 => up_neo _ _ (by omega))
      refine (r_iload_n C dX5_prepare_2 rfl rfl (r_aload_n C dX5_prepare_3 rfl rfl (r_getI C dX5_prepare_4 fd_X5_51 nK_37 sK_37 rfl (r_icmp_ge C (tgt := 105) dX5_prepare_7 rfl (fun c7 => (r_iconst C dX5_prepare_105 (r_istore_n C dX5_prepare_106 rfl (by decide) ?_))) (fun c7 => (r_aload_n C dX5_prepare_10 rfl rfl (r_getR C dX5_prepare_11 fd_X5_47 nK_37 sK_37 rfl (r_aload_n C dX5_prepare_14 rfl rfl (r_getR C dX5_prepare_15 fd_X5_13 nK_37 sK_37 rfl (r_iload_n C dX5_prepare_18 rfl rfl (r_iald C dX5_prepare_19 nK_38 sK_38 ?_ (r_aload_n C dX5_prepare_20 rfl rfl (r_getR C dX5_prepare_21 fd_X5_17 nK_37 sK_37 rfl (r_iload_n C dX5_prepare_24 rfl rfl (r_iald C dX5_prepare_25 nK_39 sK_39 ?_ (r_v2I C yv_X4_findRoute lk_X5_72 dX5_prepare_26 rfl nK_18 sK_18 rfl (Nat.le_of_ble_eq_true rfl) (ok_X4_findRoute (hA.2.2.1 hl)) (fun r26 μ26 h26 => (r_pop C dX5_prepare_29 rfl (r_iconst C dX5_prepare_30 (r_istore_n C dX5_prepare_31 rfl (by decide) ?_))))))))))))))))))))
      · exact loop3 8 0 _ _ _ rfl (by simp (disch := (first | omega | (simp (disch := omega) only [ti_ofInt, ti_addc, ti_subc, ti_mulc, ti_cmul, ti_divc, ti_remc, ti_zero, ti_add, ti_sub, ti_neg, if_lt_ti, if_gt_ti, bP_e0, Classical.not_not, tl_i2l]; omega))) only [ti_ofInt, ti_addc, ti_subc, ti_mulc, ti_cmul, ti_divc, ti_remc, ti_zero, ti_add, ti_sub, ti_neg, if_lt_ti, if_gt_ti, bP_e0, Classical.not_not, tl_i2l]; rfl) (fun m hm => hM m (by omega)) (fun j hj => absurd hj (Nat.not_lt_zero _)) hS
      · omega
      · omega
      · have hi2 : i < pNm (kpd μ) := by omega
        have hS3 : pSame μ μ26 := pSame_trans hS (fun a b n1 n2 n3 n4 => h26.1 a b n1 n2 n3)
        have hls := lSame_all (pSame_l hS)
        have e38 : (μ'.1 38 v.toInt.toNat).toInt = (μ.1 38 i).toInt := by rw [evi, hS 38 i (by omega) (by decide) (by decide) (by decide)]
        have e39 : (μ'.1 39 v.toInt.toNat).toInt = (μ.1 39 i).toInt := by rw [evi, hS 39 i (by omega) (by decide) (by decide) (by decide)]
        obtain ⟨a1, a2, a3, a4, a5, a6⟩ := hp.2 i (by omega)
        have h27 := h26.2
        rw [e38, e39, hls.1, hls.2.1, hls.2.2.1] at h27
        have hk : (μ26.1 18 6).toInt = pZ (kpd μ) i ∧ ∀ j, j < pZ (kpd μ) i → (μ26.1 24 j).toInt = pR (kpd μ) i j := by
          rcases h27 with ⟨-, -, q⟩ | ⟨-, q1, q2, q3, q4⟩
          · exact absurd a6 (q ⟨by omega, by omega, by omega, by omega, a5⟩)
          · exact ⟨by rw [q3, q2]; rfl, q4⟩
        refine loop2 (pZ (kpd μ) i) 0 _ μ26 hi2 (by omega) (by simp (disch := (first | omega | (simp (disch := omega) only [ti_ofInt, ti_addc, ti_subc, ti_mulc, ti_cmul, ti_divc, ti_remc, ti_zero, ti_add, ti_sub, ti_neg, if_lt_ti, if_gt_ti, bP_e0, Classical.not_not, tl_i2l]; omega))) only [ti_ofInt, ti_addc, ti_subc, ti_mulc, ti_cmul, ti_divc, ti_remc, ti_zero, ti_add, ti_sub, ti_neg, if_lt_ti, if_gt_ti, bP_e0, Classical.not_not, tl_i2l]; rfl) (fun m hm => ?_) (fun j hj => absurd hj (Nat.not_lt_zero _)) hk.1 hk.2 hS3
        have hf := h26.1
        simp (disch := omega) only [hf]
        exact hM m hm
  refine (r_iconst C dX5_prepare_0 (r_istore_n C dX5_prepare_1 rfl (by decide) ?_))
  exact loop (pNm (kpd μ)) 0 _ _ _ (by omega) (by simp (disch := (first | omega | (simp (disch := omega) only [ti_ofInt, ti_addc, ti_subc, ti_mulc, ti_cmul, ti_divc, ti_remc, ti_zero, ti_add, ti_sub, ti_neg, if_lt_ti, if_gt_ti, bP_e0, Classical.not_not, tl_i2l]; omega))) only [ti_ofInt, ti_addc, ti_subc, ti_mulc, ti_cmul, ti_divc, ti_remc, ti_zero, ti_add, ti_sub, ti_neg, if_lt_ti, if_gt_ti, bP_e0, Classical.not_not, tl_i2l]; rfl) (fun m hm => absurd hm (Nat.not_lt_zero _)) (fun _ _ _ _ _ _ => rfl)

