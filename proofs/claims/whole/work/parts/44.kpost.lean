/-! ===== KeyFists: messages, routes, taps ===== -/
def kMsgC (μ : kMem) (x y p : Int) : Prop := 0 ≤ x ∧ 0 ≤ y ∧ (0 ≤ p ∧ p ≤ 3) ∧ ((0 ≤ x / 10 ∧ x / 10 < 6) ∧ (0 ≤ x % 10 ∧ x % 10 < 6) ∧ ¬ x / 10 = x % 10) ∧ y / 100 ≤ 200 ∧ (1 ≤ y % 100 ∧ y % 100 ≤ 60) ∧ kds μ (x % 10).toNat (x / 10).toNat < 6
theorem kRt_sm {μ μ' : kMem} (h : ∀ a b : Nat, ¬ (a = 18 ∧ b = 6) → a ≠ 23 → a ≠ 24 → μ'.1 a b = μ.1 a b) : kSm μ μ' := fun a b q => h a b (by unfold relK at q; omega) (by unfold relK at q; omega) (by unfold relK at q; omega)
theorem pSame_sm {μ μ' : kMem} (h : pSame μ μ') : kSm μ μ' := fun a b q => h a b (by unfold relK at q; omega) (by unfold relK at q; omega) (by unfold relK at q; omega) (by unfold relK at q; omega)
theorem ok_X11_message {x y p : Int32} {μ : kMem} (h : kLnOk μ ∧ 0 ≤ (μ.1 37 6).toInt ∧ (μ.1 37 6).toInt ≤ 20) : kOk yX11_message cX11_message 8 (some .int) rmX11_message shK 68 [.ref 0, .int x, .int y, .int p] μ (kI fun r μ' => (kMsgC μ x.toInt y.toInt p.toInt ∧ (μ.1 37 6).toInt < 20 ∧ r = μ.1 37 6 ∧ ((μ'.1 38 (μ.1 37 6).toInt.toNat).toInt = x.toInt / 10 ∧ (μ'.1 39 (μ.1 37 6).toInt.toNat).toInt = x.toInt % 10 ∧ (μ'.1 40 (μ.1 37 6).toInt.toNat).toInt = y.toInt / 100 ∧ (μ'.1 41 (μ.1 37 6).toInt.toNat).toInt = y.toInt % 100 ∧ (μ'.1 42 (μ.1 37 6).toInt.toNat).toInt = p.toInt ∧ (μ'.1 37 6).toInt = (μ.1 37 6).toInt + 1) ∧ ∀ a b : Nat, relK a b → ¬ (a = 37 ∧ b = 6) → ¬ (38 ≤ a ∧ a ≤ 42 ∧ b = (μ.1 37 6).toInt.toNat) → μ'.1 a b = μ.1 a b) ∨ (¬ (kMsgC μ x.toInt y.toInt p.toInt ∧ (μ.1 37 6).toInt < 20) ∧ r = Int32.ofInt (-1) ∧ kSm μ μ')) := by
  obtain ⟨hl, h0, h20⟩ := h
  have mm : (Int32.ofInt (-1)).toInt = -1 := by decide
  have m3 : (Int32.ofInt 3).toInt = 3 := by decide
  have m1 : (Int32.ofInt 1).toInt = 1 := by decide
  have m60 : (Int32.ofInt 60).toInt = 60 := by decide
  have m200 : (Int32.ofInt 200).toInt = 200 := by decide
  have ex1 : 0 ≤ x.toInt → (x / Int32.ofInt 10).toInt = x.toInt / 10 := fun q => ti_divc (by omega)
  have ex2 : 0 ≤ x.toInt → (krem x (Int32.ofInt 10)).toInt = x.toInt % 10 := fun q => ti_remc (by omega)
  have ey1 : 0 ≤ y.toInt → (y / Int32.ofInt 100).toInt = y.toInt / 100 := fun q => ti_divc (by omega)
  have ey2 : 0 ≤ y.toInt → (krem y (Int32.ofInt 100)).toInt = y.toInt % 100 := fun q => ti_remc (by omega)
  refine kOk.of rfl (Nat.le_of_ble_eq_true rfl) (fun J C => ?_)
  have C : kR cX11_message RX11 8 rmX11_message shK 68 (some .int) _ J := C
  refine (r_iload_n C dX11_message_0 rfl rfl (r_if_lt C (tgt := 17) dX11_message_1 rfl (fun c1 => (r_iconst C dX11_message_17 (r_iret C dX11_message_18 ?_))) (fun c1 => (r_iload_n C dX11_message_4 rfl rfl (r_if_lt C (tgt := 17) dX11_message_5 rfl (fun c5 => (r_iconst C dX11_message_17 (r_iret C dX11_message_18 ?_))) (fun c5 => (r_iload_n C dX11_message_8 rfl rfl (r_if_lt C (tgt := 17) dX11_message_9 rfl (fun c9 => (r_iconst C dX11_message_17 (r_iret C dX11_message_18 ?_))) (fun c9 => (r_iload_n C dX11_message_12 rfl rfl (r_iconst C dX11_message_13 (r_icmp_le C (tgt := 19) dX11_message_14 rfl (fun c14 => (r_iload_n C dX11_message_19 rfl rfl (r_bipush C dX11_message_20 (by decide +kernel) (r_idiv C dX11_message_22 (by decide) (r_istore C dX11_message_23 (by decide) (r_iload_n C dX11_message_25 rfl rfl (r_bipush C dX11_message_26 (by decide +kernel) (r_irem C dX11_message_28 (by decide) (r_istore C dX11_message_29 (by decide) (r_iload_n C dX11_message_31 rfl rfl (r_bipush C dX11_message_32 (by decide +kernel) (r_idiv C dX11_message_34 (by decide) (r_istore C dX11_message_35 (by decide) (r_iload_n C dX11_message_37 rfl rfl (r_bipush C dX11_message_38 (by decide +kernel) (r_irem C dX11_message_40 (by decide) (r_istore C dX11_message_41 (by decide) (r_iload C dX11_message_43 rfl (r_iload C dX11_message_45 rfl (r_s2P C ys_X11_areTwoStations lk_X11_141 dX11_message_47 rfl (Nat.le_of_ble_eq_true rfl) ok_X11_areTwoStations (r_if_eq C (tgt := 74) dX11_message_50 rfl (fun c50 => (r_iconst C dX11_message_74 (r_iret C dX11_message_75 ?_))) (fun c50 => (r_iload C dX11_message_53 rfl (r_sipush C dX11_message_55 (by decide +kernel) (r_icmp_gt C (tgt := 74) dX11_message_58 rfl (fun c58 => (r_iconst C dX11_message_74 (r_iret C dX11_message_75 ?_))) (fun c58 => (r_iload C dX11_message_61 rfl (r_iconst C dX11_message_63 (r_icmp_lt C (tgt := 74) dX11_message_64 rfl (fun c64 => (r_iconst C dX11_message_74 (r_iret C dX11_message_75 ?_))) (fun c64 => (r_iload C dX11_message_67 rfl (r_bipush C dX11_message_69 (by decide +kernel) (r_icmp_le C (tgt := 76) dX11_message_71 rfl (fun c71 => (r_aload_n C dX11_message_76 rfl rfl (r_getR C dX11_message_77 fd_X11_45 nK_0 sK_0 rfl (r_iload C dX11_message_80 rfl (r_iload C dX11_message_82 rfl (r_v2I C yv_X4_findRoute lk_X11_238 dX11_message_84 rfl nK_18 sK_18 rfl (Nat.le_of_ble_eq_true rfl) (ok_X4_findRoute ?_) (fun r84 μ84 h84 => (r_iconst C dX11_message_87 (r_icmp_ne C (tgt := 95) dX11_message_88 rfl (fun c88 => (r_aload_n C dX11_message_95 rfl rfl (r_getR C dX11_message_96 fd_X11_77 nK_0 sK_0 rfl (r_iload C dX11_message_99 rfl (r_iload C dX11_message_101 rfl (r_iload C dX11_message_103 rfl (r_iload C dX11_message_105 rfl (r_iload_n C dX11_message_107 rfl rfl (r_v5I C yv_X5_add lk_X11_241 dX11_message_108 rfl nK_37 sK_37 rfl (Nat.le_of_ble_eq_true rfl) (ok_X5_add ?_) (fun r108 μ108 h108 => (r_iret C dX11_message_111 ?_))))))))))) (fun c88 => (r_iconst C dX11_message_91 (r_goto C (tgt := 111) dX11_message_92 rfl (r_iret C dX11_message_111 ?_))))))))))))) (fun c71 => (r_iconst C dX11_message_74 (r_iret C dX11_message_75 ?_)))))))))))))))))))))))))))))))))))) (fun c14 => (r_iconst C dX11_message_17 (r_iret C dX11_message_18 ?_)))))))))))))))
  · exact Or.inr ⟨fun z => by have := z.1.1; omega, rfl, kSm.rf⟩
  · exact Or.inr ⟨fun z => by have := z.1.2.1; omega, rfl, kSm.rf⟩
  · exact Or.inr ⟨fun z => by have := z.1.2.2.1.1; omega, rfl, kSm.rf⟩
  · rw [ex1 c1, ex2 c1] at c50
    exact Or.inr ⟨fun z => bP_e0.mp c50 z.1.2.2.2.1, rfl, kSm.rf⟩
  · rw [ey1 c5, m200] at c58
    exact Or.inr ⟨fun z => by have := z.1.2.2.2.2.1; omega, rfl, kSm.rf⟩
  · rw [ey2 c5, m1] at c64
    exact Or.inr ⟨fun z => by have := z.1.2.2.2.2.2.1.1; omega, rfl, kSm.rf⟩
  · exact hl
  · have := h84.1 37 6 (by omega) (by omega) (by omega)
    rw [this]
    exact ⟨h0, h20⟩
  · have e37 := h84.1 37 6 (by omega) (by omega) (by omega)
    rw [ey1 c5, m200] at c58
    rw [ey2 c5, m1] at c64
    rw [ey2 c5, m60] at c71
    rw [ex1 c1, ex2 c1] at c50
    rw [m3] at c14
    have hc : kMsgC μ x.toInt y.toInt p.toInt := by
      refine ⟨c1, c5, ⟨c9, c14⟩, bP_ne c50, by omega, by omega, ?_⟩
      have h85 := h84.2
      rw [ex1 c1, ex2 c1] at h85
      rcases h85 with ⟨q, -⟩ | ⟨-, q, -⟩
      · exact absurd (by rw [q]) c88
      · exact q
    rw [e37] at h108
    rcases h108 with ⟨q1, q2, q3⟩ | ⟨q1, q2, q3⟩
    · refine Or.inl ⟨hc, q1, q2, ?_, fun a b q n1 n2 => ?_⟩
      · rw [q3]
        simp (disch := decide) only [up_same, up_neo, up_nek, up_2]
        refine ⟨ex1 c1, ex2 c1, ey1 c5, ey2 c5, ?_, ti_ofInt (by omega)⟩
        first | trivial | rfl
      · rw [q3, up_ne _ _ n1, up_ne _ _ (by omega), up_ne _ _ (by omega), up_ne _ _ (by omega), up_ne _ _ (by omega), up_ne _ _ (by omega)]
        exact kRt_sm h84.1 a b q
    · rw [q3]
      exact Or.inr ⟨fun z => by omega, q2, kRt_sm h84.1⟩
  · refine Or.inr ⟨fun z => ?_, rfl, kRt_sm h84.1⟩
    have h85 := h84.2
    rw [ex1 c1, ex2 c1] at h85
    rcases h85 with ⟨-, -, q⟩ | ⟨-, q, q2, -⟩
    · have h3 := z.1.2.2.2.1
      exact q ⟨h3.1.1, h3.1.2, h3.2.1.1, h3.2.1.2, h3.2.2⟩ z.1.2.2.2.2.2.2
    · rw [c88, mm] at q2
      omega
  · rw [ey2 c5, m60] at c71
    exact Or.inr ⟨fun z => by have := z.1.2.2.2.2.2.1.2; omega, rfl, kSm.rf⟩
  · rw [m3] at c14
    exact Or.inr ⟨fun z => by have := z.1.2.2.1.2; omega, rfl, kSm.rf⟩
noncomputable def rouA (st en : Nat → Nat) (n : Nat) (x y k : Int) : Int := @ite _ (((0 ≤ x ∧ x < 6) ∧ (0 ≤ y ∧ y < 6) ∧ ¬ x = y) ∧ dsF st en n y.toNat x.toNat < 6) (Classical.propDecidable _) (if k = -1 then (dsF st en n y.toNat x.toNat : Int) else if 0 ≤ k ∧ k < (dsF st en n y.toNat x.toNat : Int) then (flF st en n y.toNat (snF st en n y.toNat x.toNat k.toNat) : Int) else -1) (-1)
theorem ok_X11_route {x y k : Int32} {μ : kMem} (h : kLnOk μ) : kOk yX11_route cX11_route 5 (some .int) rmX11_route shK 68 [.ref 0, .int x, .int y, .int k] μ (kI fun r μ' => kSm μ μ' ∧ r.toInt = rouA (kst_ μ) (ken_ μ) (kln μ) x.toInt y.toInt k.toInt) := by
  have mm : (Int32.ofInt (-1)).toInt = -1 := by decide
  have hd : ∀ a b : Nat, dsF (kst_ μ) (ken_ μ) (kln μ) a b = kds μ a b := fun _ _ => rfl
  refine kOk.of rfl (Nat.le_of_ble_eq_true rfl) (fun J C => ?_)
  have C : kR cX11_route RX11 5 rmX11_route shK 68 (some .int) _ J := C
  refine (r_iload_n C dX11_route_0 rfl rfl (r_iload_n C dX11_route_1 rfl rfl (r_s2P C ys_X11_areTwoStations lk_X11_141 dX11_route_2 rfl (Nat.le_of_ble_eq_true rfl) ok_X11_areTwoStations (r_if_ne C (tgt := 10) dX11_route_5 rfl (fun c5 => (r_aload_n C dX11_route_10 rfl rfl (r_getR C dX11_route_11 fd_X11_45 nK_0 sK_0 rfl (r_iload_n C dX11_route_14 rfl rfl (r_iload_n C dX11_route_15 rfl rfl (r_v2I C yv_X4_findRoute lk_X11_238 dX11_route_16 rfl nK_18 sK_18 rfl (Nat.le_of_ble_eq_true rfl) (ok_X4_findRoute ?_) (fun r16 μ16 h16 => (r_istore C dX11_route_19 (by decide) (r_iload_n C dX11_route_21 rfl rfl (r_iconst C dX11_route_22 (r_icmp_eq C (tgt := 32) dX11_route_23 rfl (fun c23 => (r_iload C dX11_route_32 rfl (r_iret C dX11_route_34 ?_))) (fun c23 => (r_iload C dX11_route_26 rfl (r_iconst C dX11_route_28 (r_icmp_ne C (tgt := 35) dX11_route_29 rfl (fun c29 => (r_aload_n C dX11_route_35 rfl rfl (r_getR C dX11_route_36 fd_X11_45 nK_0 sK_0 rfl (r_iload_n C dX11_route_39 rfl rfl (r_v1P C yv_X4_routeAt lk_X11_242 dX11_route_40 rfl nK_18 sK_18 rfl (Nat.le_of_ble_eq_true rfl) (ok_X4_routeAt ?_) (r_iret C dX11_route_43 ?_)))))) (fun c29 => (r_iload C dX11_route_32 rfl (r_iret C dX11_route_34 ?_)))))))))))))))))) (fun c5 => (r_iconst C dX11_route_8 (r_iret C dX11_route_9 ?_)))))))
  · exact h
  · refine ⟨kRt_sm h16.1, ?_⟩
    rw [mm] at c23
    have t := bP_ne c5
    rcases h16.2 with ⟨q1, -, q2⟩ | ⟨q1, q2, q3, -⟩
    · have q2 := q2 ⟨t.1.1, t.1.2, t.2.1.1, t.2.1.2, t.2.2⟩
      unfold rouA
      rw [if_neg (fun z => q2 z.2), q1, mm]
    · unfold rouA
      rw [if_pos ⟨t, q2⟩, if_pos c23, q3]
      rfl
  · rw [mm] at c29
    rcases h16.2 with ⟨q1, -, q2⟩ | ⟨q1, q2, q3, q4, q5⟩
    · exact absurd (by rw [q1, mm]) c29
    · omega
  · refine ⟨kRt_sm h16.1, ?_⟩
    rw [mm] at c29 c23
    have t := bP_ne c5
    rcases h16.2 with ⟨q1, -, q2⟩ | ⟨q1, q2, q3, q4, q5⟩
    · exact absurd (by rw [q1, mm]) c29
    · unfold rouA
      simp only [hd]
      rw [if_pos ⟨t, q2⟩, if_neg c23]
      unfold kra
      by_cases q : 0 ≤ k.toInt ∧ k.toInt < (kds μ y.toInt.toNat x.toInt.toNat : Int)
      · rw [if_pos q, if_pos (show 0 ≤ k.toInt ∧ k.toInt < (μ16.1 18 6).toInt by omega)]
        exact q5 k.toInt.toNat (by omega)
      · rw [if_neg q, if_neg (show ¬ (0 ≤ k.toInt ∧ k.toInt < (μ16.1 18 6).toInt) by omega), mm]
  · refine ⟨kRt_sm h16.1, ?_⟩
    rw [mm] at c29
    have t := bP_ne c5
    rcases h16.2 with ⟨q1, -, q2⟩ | ⟨q1, q2, q3, -⟩
    · have q2 := q2 ⟨t.1.1, t.1.2, t.2.1.1, t.2.1.2, t.2.2⟩
      unfold rouA
      rw [if_neg (fun z => q2 z.2), q1, mm]
    · omega
  · refine ⟨kSm.rf, ?_⟩
    unfold rouA
    rw [if_neg (fun z => bP_e0.mp c5 z.1), mm]
/-- where a message is in a minute -/
noncomputable def pWh (d : kPd) (s : kPs) (sn : Nat → Nat) (m : Nat) (t : Int) : Int := if t < pT d m then -1 else if lstF (fun h => t < sB s m h + pW d m) (sG s m) < sG s m ∧ sB s m (lstF (fun h => t < sB s m h + pW d m) (sG s m)) ≤ t then 10 + (pR d m (lstF (fun h => t < sB s m h + pW d m) (sG s m)) : Int) else (sn (lstF (fun h => t < sB s m h + pW d m) (sG s m)) : Int)
noncomputable def senA (d : kPd) (sn : Nat → Nat → Nat) (m what at_ : Int) : Int := if 0 ≤ m ∧ m < (pNm d : Int) then (if what = 0 then sS (pRun d 8001) m.toNat else if what = 1 then sS (pRun d 8001) m.toNat - pT d m.toNat - sG (pRun d 8001) m.toNat * pW d m.toNat else if what = 2 ∧ 0 ≤ at_ ∧ at_ ≤ 5000 then pWh d (pRun d 8001) (sn m.toNat) m.toNat at_ else -1) else -1
theorem ksn_b {μ : kMem} (h : kLnOk μ) {to s : Nat} (hs : s < 6) : ∀ i, ksn μ to s i < 6 := by
  intro i
  cases i with
  | zero => exact hs
  | succ i => exact (kLn_st h _).2.1
theorem ok_X11_sent {m w t : Int32} {μ : kMem} (h : kLnOk μ ∧ kPsOk μ) : kOk yX11_sent cX11_sent 4 (some .int) rmX11_sent shK 68 [.ref 0, .int m, .int w, .int t] μ (kI fun r μ' => kSm μ μ' ∧ r.toInt = senA (kpd μ) (fun m => ksn μ (kpE μ m) (kpS μ m)) m.toInt w.toInt t.toInt) := by
  obtain ⟨hl, hp⟩ := h
  have hn := kp_n hp
  have hd := kpd_ok hl hp
  have hln := kLn_n hl
  have hI := pIv_run hd 8001
  have mm : (Int32.ofInt (-1)).toInt = -1 := by decide
  have m5 : (Int32.ofInt 5000).toInt = 5000 := by decide
  have e37 : ∀ μ1, pSame μ μ1 → μ1.1 37 6 = μ.1 37 6 := fun μ1 q => q 37 6 (by omega) (by omega) (by omega) (by omega)
  have hb : ∀ i, i < pNm (kpd μ) → _ := fun i q => pIv_b hd hI (by decide) q
  refine kOk.of rfl (Nat.le_of_ble_eq_true rfl) (fun J C => ?_)
  have C : kR cX11_sent RX11 4 rmX11_sent shK 68 (some .int) _ J := C
  refine (r_aload_n C dX11_sent_0 rfl rfl (r_getR C dX11_sent_1 fd_X11_77 nK_0 sK_0 rfl (r_iload_n C dX11_sent_4 rfl rfl (r_v1P C yv_X5_has lk_X11_245 dX11_sent_5 rfl nK_37 sK_37 rfl (Nat.le_of_ble_eq_true rfl) ok_X5_has (r_if_ne C (tgt := 13) dX11_sent_8 rfl (fun c8 => (r_aload_n C dX11_sent_13 rfl rfl (r_getR C dX11_sent_14 fd_X11_77 nK_0 sK_0 rfl (r_v0N C yv_X5_runAll lk_X11_246 dX11_sent_17 rfl nK_37 sK_37 rfl (Nat.le_of_ble_eq_true rfl) (ok_X5_runAll ?_) (fun μ17 h17 => (r_iload_n C dX11_sent_20 rfl rfl (r_table C (tg := 91) dX11_sent_21 rfl (by decide) (by decide) ?_ (fun c21 => (r_iconst C dX11_sent_91 (r_iret C dX11_sent_92 ?_)))))))))) (fun c8 => (r_iconst C dX11_sent_11 (r_iret C dX11_sent_12 ?_))))))))
  · exact ⟨hl, hp⟩
  · obtain ⟨hP, hS⟩ := h17
    have hA := pSame_all hS
    have hAl := lSame_all (pSame_l hS)
    have has := bP_ne c8
    have ok : 0 ≤ m.toInt ∧ m.toInt < (pNm (kpd μ) : Int) := by omega
    have hbm := hb m.toInt.toNat (by omega)
    have hdm := hd.2.2 m.toInt.toNat (by omega)
    intro i h1 h2 h3
    rcases (show i = 0 ∨ i = 1 ∨ i = 2 by omega) with rfl | rfl | rfl
    · refine (r_aload_n C dX11_sent_48 rfl rfl (r_getR C dX11_sent_49 fd_X11_77 nK_0 sK_0 rfl (r_iload_n C dX11_sent_52 rfl rfl (r_v1P C yv_X5_arrivalOf lk_X11_249 dX11_sent_53 rfl nK_37 sK_37 rfl (Nat.le_of_ble_eq_true rfl) (ok_X5_arrivalOf (show kPo (pRun (kpd μ) 8001) μ17 from hP)) (r_iret C dX11_sent_56 ?_)))))
      refine ⟨pSame_sm hS, ?_⟩
      unfold senA
      rw [if_pos (by rw [e37 _ hS]; omega), if_pos ok, if_pos (by omega), ti_ofInt (by omega)]
    · refine (r_aload_n C dX11_sent_57 rfl rfl (r_getR C dX11_sent_58 fd_X11_77 nK_0 sK_0 rfl (r_iload_n C dX11_sent_61 rfl rfl (r_v1P C yv_X5_waitOf lk_X11_252 dX11_sent_62 rfl nK_37 sK_37 rfl (Nat.le_of_ble_eq_true rfl) (ok_X5_waitOf (show kPo (pRun (kpd μ) 8001) μ17 ∧ pIv (kpd μ17) (pRun (kpd μ) 8001) 8001 from ⟨hP, by rw [hA.1]; exact hI⟩)) (r_iret C dX11_sent_65 ?_)))))
      refine ⟨pSame_sm hS, ?_⟩
      unfold senA
      rw [if_pos (by rw [e37 _ hS]; omega), if_pos ok, if_neg (by omega), if_pos (by omega), hA.1, ti_ofInt (by omega)]
    · refine (r_iload_n C dX11_sent_66 rfl rfl (r_if_lt C (tgt := 77) dX11_sent_67 rfl (fun c67 => (r_iconst C dX11_sent_77 (r_goto C (tgt := 90) dX11_sent_78 rfl (r_iret C dX11_sent_90 ?_)))) (fun c67 => (r_iload_n C dX11_sent_70 rfl rfl (r_sipush C dX11_sent_71 (by decide +kernel) (r_icmp_le C (tgt := 81) dX11_sent_74 rfl (fun c74 => (r_aload_n C dX11_sent_81 rfl rfl (r_getR C dX11_sent_82 fd_X11_77 nK_0 sK_0 rfl (r_iload_n C dX11_sent_85 rfl rfl (r_iload_n C dX11_sent_86 rfl rfl (r_v2P C yv_X5_whereIs lk_X11_255 dX11_sent_87 rfl nK_37 sK_37 rfl (Nat.le_of_ble_eq_true rfl) (ok_X5_whereIs (show kPo (pRun (kpd μ) 8001) μ17 ∧ pIv (kpd μ17) (pRun (kpd μ) 8001) 8001 from ⟨hP, by rw [hA.1]; exact hI⟩)) (r_iret C dX11_sent_90 ?_))))))) (fun c74 => (r_iconst C dX11_sent_77 (r_goto C (tgt := 90) dX11_sent_78 rfl (r_iret C dX11_sent_90 ?_))))))))))
      · refine ⟨pSame_sm hS, ?_⟩
        unfold senA
        rw [if_pos ok, if_neg (by omega), if_neg (by omega), if_neg (by omega), mm]
      · rw [m5] at c74
        refine ⟨pSame_sm hS, ?_⟩
        have e : kwh μ17 (pRun (kpd μ) 8001) m.toInt.toNat t.toInt = pWh (kpd μ) (pRun (kpd μ) 8001) (ksn μ (kpE μ m.toInt.toNat) (kpS μ m.toInt.toNat)) m.toInt.toNat t.toInt := by
          unfold kwh
          rw [hA.1, hA.2.2.2.1, hA.2.2.2.2, hAl.2.2.1]
          rfl
        unfold senA
        rw [if_pos (by rw [e37 _ hS]; omega), if_pos ok, if_neg (by omega), if_neg (by omega), if_pos (by omega), e]
        have hps := (hp.2 m.toInt.toNat (by omega)).1
        have hsb := ksn_b hl (to := kpE μ m.toInt.toNat) (s := kpS μ m.toInt.toNat) (by unfold kpS; omega)
        rw [ti_ofInt]
        unfold pWh
        split
        · omega
        · split
          · rename_i q
            have h9 := hI.1 m.toInt.toNat (by omega)
            have := hdm.2.2.2.1 (lstF (fun h => t.toInt < sB (pRun (kpd μ) 8001) m.toInt.toNat h + pW (kpd μ) m.toInt.toNat) (sG (pRun (kpd μ) 8001) m.toInt.toNat)) (by have := h9.1; omega)
            have hl9 : pNl (kpd μ) = kln μ := rfl
            omega
          · have := hsb (lstF (fun h => t.toInt < sB (pRun (kpd μ) 8001) m.toInt.toNat h + pW (kpd μ) m.toInt.toNat) (sG (pRun (kpd μ) 8001) m.toInt.toNat))
            omega
      · rw [m5] at c74
        refine ⟨pSame_sm hS, ?_⟩
        unfold senA
        rw [if_pos ok, if_neg (by omega), if_neg (by omega), if_neg (by omega), mm]
  · obtain ⟨hP, hS⟩ := h17
    have has := bP_ne c8
    refine ⟨pSame_sm hS, ?_⟩
    unfold senA
    rw [if_pos (by omega), if_neg (by omega), if_neg (by omega), if_neg (by omega), mm]
  · refine ⟨kSm.rf, ?_⟩
    have := bP_e0.mp c8
    unfold senA
    rw [if_neg (by omega), mm]
theorem khd_b {d : kPd} {s : kPs} {t : Int} {l : Nat} {k : Int} (hd : pOk d) (h : pIv d s t) : -1 ≤ khd (sH s l) k ∧ khd (sH s l) k ≤ 20 := by
  have h1 := (h.2 l).2.2.2.2
  have h2 := cntF_le (fun m => ∃ h, h < sG s m ∧ pR d m h = l) (pNm d)
  have h3 := hd.1
  unfold khd
  split
  · omega
  · split
    · rename_i q
      have := bonF_mem (m := ((sH s l)[k.toNat]'q.2).1) (b := ((sH s l)[k.toNat]'q.2).2) hd h (List.getElem_mem q.2)
      omega
    · omega
theorem ok_X11_tap {l k : Int32} {μ : kMem} (h : kLnOk μ ∧ kPsOk μ) : kOk yX11_tap cX11_tap 3 (some .int) rmX11_tap shK 68 [.ref 0, .int l, .int k] μ (kI fun r μ' => kSm μ μ' ∧ r.toInt = if 0 ≤ l.toInt ∧ l.toInt < (μ.1 18 7).toInt then khd (sH (pRun (kpd μ) 8001) l.toInt.toNat) k.toInt else -1) := by
  obtain ⟨hl, hp⟩ := h
  have hd := kpd_ok hl hp
  have hI := pIv_run hd 8001
  have mm : (Int32.ofInt (-1)).toInt = -1 := by decide
  have hkb := khd_b (l := l.toInt.toNat) (k := k.toInt) hd hI
  have hP26 : ∀ μ1 : kMem, kPo (pRun (kpd μ) 8001) μ1 ∧ pSame μ μ1 → 0 ≤ l.toInt → kPo (pRun (kpd μ) 8001) μ1 ∧ pIv (kpd μ1) (pRun (kpd μ) 8001) 8001 ∧ 0 ≤ l.toInt := fun μ1 q q2 => ⟨q.1, by rw [(pSame_all q.2).1]; exact hI, q2⟩
  refine kOk.of rfl (Nat.le_of_ble_eq_true rfl) (fun J C => ?_)
  have C : kR cX11_tap RX11 3 rmX11_tap shK 68 (some .int) _ J := C
  refine (r_aload_n C dX11_tap_0 rfl rfl (r_getR C dX11_tap_1 fd_X11_45 nK_0 sK_0 rfl (r_iload_n C dX11_tap_4 rfl rfl (r_v1P C yv_X4_has lk_X11_151 dX11_tap_5 rfl nK_18 sK_18 rfl (Nat.le_of_ble_eq_true rfl) ok_X4_has (r_if_ne C (tgt := 13) dX11_tap_8 rfl (fun c8 => (r_aload_n C dX11_tap_13 rfl rfl (r_getR C dX11_tap_14 fd_X11_77 nK_0 sK_0 rfl (r_v0N C yv_X5_runAll lk_X11_246 dX11_tap_17 rfl nK_37 sK_37 rfl (Nat.le_of_ble_eq_true rfl) (ok_X5_runAll ?_) (fun μ17 h17 => (r_aload_n C dX11_tap_20 rfl rfl (r_getR C dX11_tap_21 fd_X11_77 nK_0 sK_0 rfl (r_iload_n C dX11_tap_24 rfl rfl (r_iload_n C dX11_tap_25 rfl rfl (r_v2P C yv_X5_kthHeard lk_X11_258 dX11_tap_26 rfl nK_37 sK_37 rfl (Nat.le_of_ble_eq_true rfl) (ok_X5_kthHeard (hP26 _ h17 (bP_ne c8).1)) (r_iret C dX11_tap_29 ?_))))))))))) (fun c8 => (r_iconst C dX11_tap_11 (r_iret C dX11_tap_12 ?_))))))))
  · exact ⟨hl, hp⟩
  · refine ⟨pSame_sm h17.2, ?_⟩
    rw [if_pos (bP_ne c8), ti_ofInt (by omega)]
  · refine ⟨kSm.rf, ?_⟩
    rw [if_neg (bP_e0.mp c8), mm]
def kCan (μ : kMem) : Prop := ∀ a, a < 6 → 0 ≤ fw 6 (kcm μ) 6 a a
noncomputable def kLo (μ : kMem) (x y : Int) : Int := kmi μ y - kmi μ x - fw 6 (kcm μ) 6 (kst μ x) (kst μ y)
noncomputable def kHi (μ : kMem) (x y : Int) : Int := kmi μ y - kmi μ x + fw 6 (kcm μ) 6 (kst μ y) (kst μ x)
def kEv2 (μ : kMem) (x y : Int) : Prop := (0 ≤ x ∧ x < (μ.1 49 4).toInt) ∧ (0 ≤ y ∧ y < (μ.1 49 4).toInt)
noncomputable def apaA (c : Prop) (lo hi w : Int) : Int := @ite _ c (Classical.propDecidable _) (if w = 0 then lo else if w = 1 then hi else -2147483648) (-2147483648)
noncomputable def firA (c : Prop) (lo hi : Int) : Int := @ite _ c (Classical.propDecidable _) (if 0 < lo then 1 else if hi < 0 then 2 else if lo = 0 ∧ hi = 0 then 0 else -1) (-1)
theorem kcm_6 {μ : kMem} (h : kClOk μ) {a b : Nat} (ha : a < 6) (hb : b < 6) : -60000000 ≤ fw 6 (kcm μ) 6 a b ∧ fw 6 (kcm μ) 6 a b ≤ 3000 := by
  have h1 := fw_low (n := 6) (m := kcm μ) (B := 1098) (by decide) (fun a b ha hb => bfm_low (n := 6) (fun a b _ _ => (kcb_b h a b).1) (kfw_b h) _ a b ha hb) 6 (by omega) a b ha hb
  have h2 : (6 : Int) ^ 6 * 1098 = 51228288 := by decide
  have h3 := fw_le (n := 6) (m := kcm μ) (a := a) hb 0 6
  rw [Nat.zero_add] at h3
  have h4 : kcm μ a b ≤ kcb μ a b := bfm_le _ a b
  have h5 := (kcb_b h a b).2
  have h6 : fw 6 (kcm μ) 0 a b = kcm μ a b := rfl
  omega
theorem kst_b {μ : kMem} (h : kClOk μ) (x : Int) : kst μ x < 6 ∧ 0 ≤ kmi μ x ∧ kmi μ x ≤ 999 := by
  have := h.2.2 x.toNat
  unfold kst kmi
  omega
theorem kCb_all {μ μ' : kMem} {r : Int32} (hc : kClOk μ) (h : kmOnly μ μ' ∧ ((r = Int32.ofInt 1 ∧ (∀ a, a < 6 → 0 ≤ fw 6 (kcm μ) 6 a a) ∧ ∀ a b, a < 6 → b < 6 → km μ' a b = fw 6 (kcm μ) 6 a b) ∨ (r = Int32.ofInt 0 ∧ ∃ a, a < 6 ∧ fw 6 (kcm μ) 6 a a < 0))) : kSm μ μ' ∧ kClOk μ' ∧ (μ'.1 49 4 = μ.1 49 4) ∧ (kmi μ' = kmi μ ∧ kst μ' = kst μ) ∧ ((¬ r.toInt = 0 ∧ kCan μ ∧ ∀ a b, a < 6 → b < 6 → km μ' a b = fw 6 (kcm μ) 6 a b) ∨ (r.toInt = 0 ∧ ¬ kCan μ)) := by
  obtain ⟨hO, h⟩ := h
  refine ⟨fun a b q => hO a b (by unfold relK at q; omega), hc.only hO, hO.lt (by decide), ⟨?_, ?_⟩, ?_⟩
  · funext x; unfold kmi; rw [hO.lt (by decide)]
  · funext x; unfold kst; rw [hO.lt (by decide)]
  · rcases h with ⟨a, b, c⟩ | ⟨a, b⟩
    · exact Or.inl ⟨by rw [a]; decide, b, c⟩
    · refine Or.inr ⟨by rw [a]; decide, fun z => ?_⟩
      obtain ⟨i, b1, b2⟩ := b
      have := z i b1
      omega
theorem ok_X11_apart {x y w : Int32} {μ : kMem} (h : kClOk μ) : kOk yX11_apart cX11_apart 4 (some .int) rmX11_apart shK 68 [.ref 0, .int x, .int y, .int w] μ (kI fun r μ' => kSm μ μ' ∧ r.toInt = apaA (kEv2 μ x.toInt y.toInt ∧ kCan μ) (kLo μ x.toInt y.toInt) (kHi μ x.toInt y.toInt) w.toInt) := by
  have mv : (-2147483648 : Int32).toInt = -2147483648 := by decide
  have m1 : (Int32.ofInt 1).toInt = 1 := by decide
  have no : ¬ (kEv2 μ x.toInt y.toInt ∧ kCan μ) → (-2147483648 : Int32).toInt = apaA (kEv2 μ x.toInt y.toInt ∧ kCan μ) (kLo μ x.toInt y.toInt) (kHi μ x.toInt y.toInt) w.toInt := fun q => by unfold apaA; rw [if_neg q, mv]
  have sx := kst_b h x.toInt
  have sy := kst_b h y.toInt
  have f1 := kcm_6 h sx.1 sy.1
  have f2 := kcm_6 h sy.1 sx.1
  refine kOk.of rfl (Nat.le_of_ble_eq_true rfl) (fun J C => ?_)
  have C : kR cX11_apart RX11 4 rmX11_apart shK 68 (some .int) _ J := C
  refine (r_aload_n C dX11_apart_0 rfl rfl (r_getR C dX11_apart_1 fd_X11_84 nK_0 sK_0 rfl (r_iload_n C dX11_apart_4 rfl rfl (r_v1P C yv_X0_hasEvent lk_X11_268 dX11_apart_5 rfl nK_49 sK_49 rfl (Nat.le_of_ble_eq_true rfl) ok_X0_hasEvent (r_if_eq C (tgt := 32) dX11_apart_8 rfl (fun c8 => (r_ldcw C dX11_apart_32 kc_X11_280 (r_iret C dX11_apart_35 ?_))) (fun c8 => (r_aload_n C dX11_apart_11 rfl rfl (r_getR C dX11_apart_12 fd_X11_84 nK_0 sK_0 rfl (r_iload_n C dX11_apart_15 rfl rfl (r_v1P C yv_X0_hasEvent lk_X11_268 dX11_apart_16 rfl nK_49 sK_49 rfl (Nat.le_of_ble_eq_true rfl) ok_X0_hasEvent (r_if_eq C (tgt := 32) dX11_apart_19 rfl (fun c19 => (r_ldcw C dX11_apart_32 kc_X11_280 (r_iret C dX11_apart_35 ?_))) (fun c19 => (r_aload_n C dX11_apart_22 rfl rfl (r_getR C dX11_apart_23 fd_X11_84 nK_0 sK_0 rfl (r_v0I C yv_X0_canBe lk_X11_277 dX11_apart_26 rfl nK_49 sK_49 rfl (Nat.le_of_ble_eq_true rfl) (ok_X0_canBe ?_) (fun r26 μ26 h26 => (r_if_ne C (tgt := 36) dX11_apart_29 rfl (fun c29 => (r_iload_n C dX11_apart_36 rfl rfl (r_if_ne C (tgt := 50) dX11_apart_37 rfl (fun c37 => (r_iload_n C dX11_apart_50 rfl rfl (r_iconst C dX11_apart_51 (r_icmp_ne C (tgt := 67) dX11_apart_52 rfl (fun c52 => (r_ldcw C dX11_apart_67 kc_X11_280 (r_iret C dX11_apart_70 ?_))) (fun c52 => (r_aload_n C dX11_apart_55 rfl rfl (r_getR C dX11_apart_56 fd_X11_84 nK_0 sK_0 rfl (r_iload_n C dX11_apart_59 rfl rfl (r_iload_n C dX11_apart_60 rfl rfl (r_v2P C yv_X0_greatestBehind lk_X11_284 dX11_apart_61 rfl nK_49 sK_49 rfl (Nat.le_of_ble_eq_true rfl) (ok_X0_greatestBehind ?_) (r_goto C (tgt := 70) dX11_apart_64 rfl (r_iret C dX11_apart_70 ?_)))))))))))) (fun c37 => (r_aload_n C dX11_apart_40 rfl rfl (r_getR C dX11_apart_41 fd_X11_84 nK_0 sK_0 rfl (r_iload_n C dX11_apart_44 rfl rfl (r_iload_n C dX11_apart_45 rfl rfl (r_v2P C yv_X0_leastBehind lk_X11_281 dX11_apart_46 rfl nK_49 sK_49 rfl (Nat.le_of_ble_eq_true rfl) (ok_X0_leastBehind ?_) (r_iret C dX11_apart_49 ?_)))))))))) (fun c29 => (r_ldcw C dX11_apart_32 kc_X11_280 (r_iret C dX11_apart_35 ?_))))))))))))))))))))
  · exact ⟨kSm.rf, no (fun z => bP_e0.mp c8 z.1.1)⟩
  · exact ⟨kSm.rf, no (fun z => bP_e0.mp c19 z.1.2)⟩
  · exact h
  · obtain ⟨a1, a2, a3, a4, a5⟩ := kCb_all h h26
    refine ⟨a1, ?_⟩
    rw [m1] at c52
    unfold apaA
    rcases a5 with a5 | a5
    · rw [if_pos ⟨⟨bP_ne c8, bP_ne c19⟩, a5.2.1⟩, if_neg c37, if_neg c52, mv]
    · exact absurd a5.1 c29
  · obtain ⟨a1, a2, a3, a4, a5⟩ := kCb_all h h26
    rcases a5 with a5 | a5
    · rw [a3]
      exact ⟨a2, bP_ne c8, bP_ne c19, fun a b ha hb => by rw [a5.2.2 a b ha hb]; exact kcm_6 h ha hb⟩
    · exact absurd a5.1 c29
  · obtain ⟨a1, a2, a3, a4, a5⟩ := kCb_all h h26
    refine ⟨a1, ?_⟩
    rw [m1] at c52
    unfold apaA
    rcases a5 with a5 | a5
    · rw [if_pos ⟨⟨bP_ne c8, bP_ne c19⟩, a5.2.1⟩, if_neg c37, if_pos c52, a4.1, a4.2, a5.2.2 _ _ sy.1 sx.1, ti_ofInt (by omega)]
      rfl
    · exact absurd a5.1 c29
  · obtain ⟨a1, a2, a3, a4, a5⟩ := kCb_all h h26
    rcases a5 with a5 | a5
    · rw [a3]
      exact ⟨a2, bP_ne c8, bP_ne c19, fun a b ha hb => by rw [a5.2.2 a b ha hb]; exact kcm_6 h ha hb⟩
    · exact absurd a5.1 c29
  · obtain ⟨a1, a2, a3, a4, a5⟩ := kCb_all h h26
    refine ⟨a1, ?_⟩
    unfold apaA
    rcases a5 with a5 | a5
    · rw [if_pos ⟨⟨bP_ne c8, bP_ne c19⟩, a5.2.1⟩, if_pos c37, a4.1, a4.2, a5.2.2 _ _ sx.1 sy.1, ti_ofInt (by omega)]
      rfl
    · exact absurd a5.1 c29
  · obtain ⟨a1, a2, a3, a4, a5⟩ := kCb_all h h26
    refine ⟨a1, no (fun z => ?_)⟩
    rcases a5 with a5 | a5
    · exact a5.1 c29
    · exact a5.2 z.2
theorem ok_X11_first {x y : Int32} {μ : kMem} (h : kClOk μ) : kOk yX11_first cX11_first 5 (some .int) rmX11_first shK 68 [.ref 0, .int x, .int y] μ (kI fun r μ' => kSm μ μ' ∧ r.toInt = firA (kEv2 μ x.toInt y.toInt ∧ kCan μ) (kLo μ x.toInt y.toInt) (kHi μ x.toInt y.toInt)) := by
  have mm : (Int32.ofInt (-1)).toInt = -1 := by decide
  have m0 : (Int32.ofInt 0).toInt = 0 := by decide
  have m1 : (Int32.ofInt 1).toInt = 1 := by decide
  have m2 : (Int32.ofInt 2).toInt = 2 := by decide
  have no : ¬ (kEv2 μ x.toInt y.toInt ∧ kCan μ) → (Int32.ofInt (-1)).toInt = firA (kEv2 μ x.toInt y.toInt ∧ kCan μ) (kLo μ x.toInt y.toInt) (kHi μ x.toInt y.toInt) := fun q => by unfold firA; rw [if_neg q, mm]
  have sx := kst_b h x.toInt
  have sy := kst_b h y.toInt
  have f1 := kcm_6 h sx.1 sy.1
  have f2 := kcm_6 h sy.1 sx.1
  have L : ∀ (r : Int32) (μ1 : kMem), kmOnly μ μ1 ∧ ((r = Int32.ofInt 1 ∧ (∀ a, a < 6 → 0 ≤ fw 6 (kcm μ) 6 a a) ∧ ∀ a b, a < 6 → b < 6 → km μ1 a b = fw 6 (kcm μ) 6 a b) ∨ (r = Int32.ofInt 0 ∧ ∃ a, a < 6 ∧ fw 6 (kcm μ) 6 a a < 0)) → ¬ r.toInt = 0 → kCan μ ∧ (Int32.ofInt (kmi μ1 y.toInt - kmi μ1 x.toInt - km μ1 (kst μ1 x.toInt) (kst μ1 y.toInt))).toInt = kLo μ x.toInt y.toInt ∧ (Int32.ofInt (kmi μ1 y.toInt - kmi μ1 x.toInt + km μ1 (kst μ1 y.toInt) (kst μ1 x.toInt))).toInt = kHi μ x.toInt y.toInt := by
    intro r μ1 q c
    obtain ⟨a1, a2, a3, a4, a5⟩ := kCb_all h q
    rcases a5 with a5 | a5
    · rw [a4.1, a4.2, a5.2.2 _ _ sx.1 sy.1, a5.2.2 _ _ sy.1 sx.1, ti_ofInt (by omega), ti_ofInt (by omega)]
      exact ⟨a5.2.1, rfl, rfl⟩
    · exact absurd a5.1 c
  have P : ∀ (r : Int32) (μ1 : kMem), kmOnly μ μ1 ∧ ((r = Int32.ofInt 1 ∧ (∀ a, a < 6 → 0 ≤ fw 6 (kcm μ) 6 a a) ∧ ∀ a b, a < 6 → b < 6 → km μ1 a b = fw 6 (kcm μ) 6 a b) ∨ (r = Int32.ofInt 0 ∧ ∃ a, a < 6 ∧ fw 6 (kcm μ) 6 a a < 0)) → ¬ r.toInt = 0 → kEv2 μ x.toInt y.toInt → kClOk μ1 ∧ (0 ≤ x.toInt ∧ x.toInt < (μ1.1 49 4).toInt) ∧ (0 ≤ y.toInt ∧ y.toInt < (μ1.1 49 4).toInt) ∧ ∀ a b, a < 6 → b < 6 → -60000000 ≤ km μ1 a b ∧ km μ1 a b ≤ 3000 := by
    intro r μ1 q c e
    obtain ⟨a1, a2, a3, a4, a5⟩ := kCb_all h q
    rcases a5 with a5 | a5
    · rw [a3]
      exact ⟨a2, e.1, e.2, fun a b ha hb => by rw [a5.2.2 a b ha hb]; exact kcm_6 h ha hb⟩
    · exact absurd a5.1 c
  refine kOk.of rfl (Nat.le_of_ble_eq_true rfl) (fun J C => ?_)
  have C : kR cX11_first RX11 5 rmX11_first shK 68 (some .int) _ J := C
  refine (r_aload_n C dX11_first_0 rfl rfl (r_getR C dX11_first_1 fd_X11_84 nK_0 sK_0 rfl (r_iload_n C dX11_first_4 rfl rfl (r_v1P C yv_X0_hasEvent lk_X11_268 dX11_first_5 rfl nK_49 sK_49 rfl (Nat.le_of_ble_eq_true rfl) ok_X0_hasEvent (r_if_eq C (tgt := 32) dX11_first_8 rfl (fun c8 => (r_iconst C dX11_first_32 (r_iret C dX11_first_33 ?_))) (fun c8 => (r_aload_n C dX11_first_11 rfl rfl (r_getR C dX11_first_12 fd_X11_84 nK_0 sK_0 rfl (r_iload_n C dX11_first_15 rfl rfl (r_v1P C yv_X0_hasEvent lk_X11_268 dX11_first_16 rfl nK_49 sK_49 rfl (Nat.le_of_ble_eq_true rfl) ok_X0_hasEvent (r_if_eq C (tgt := 32) dX11_first_19 rfl (fun c19 => (r_iconst C dX11_first_32 (r_iret C dX11_first_33 ?_))) (fun c19 => (r_aload_n C dX11_first_22 rfl rfl (r_getR C dX11_first_23 fd_X11_84 nK_0 sK_0 rfl (r_v0I C yv_X0_canBe lk_X11_277 dX11_first_26 rfl nK_49 sK_49 rfl (Nat.le_of_ble_eq_true rfl) (ok_X0_canBe ?_) (fun r26 μ26 h26 => (r_if_ne C (tgt := 34) dX11_first_29 rfl (fun c29 => (r_aload_n C dX11_first_34 rfl rfl (r_getR C dX11_first_35 fd_X11_84 nK_0 sK_0 rfl (r_iload_n C dX11_first_38 rfl rfl (r_iload_n C dX11_first_39 rfl rfl (r_v2P C yv_X0_leastBehind lk_X11_281 dX11_first_40 rfl nK_49 sK_49 rfl (Nat.le_of_ble_eq_true rfl) (ok_X0_leastBehind ?_) (r_istore_n C dX11_first_43 rfl (by decide) (r_aload_n C dX11_first_44 rfl rfl (r_getR C dX11_first_45 fd_X11_84 nK_0 sK_0 rfl (r_iload_n C dX11_first_48 rfl rfl (r_iload_n C dX11_first_49 rfl rfl (r_v2P C yv_X0_greatestBehind lk_X11_284 dX11_first_50 rfl nK_49 sK_49 rfl (Nat.le_of_ble_eq_true rfl) (ok_X0_greatestBehind ?_) (r_istore C dX11_first_53 (by decide) (r_iload_n C dX11_first_55 rfl rfl (r_if_le C (tgt := 61) dX11_first_56 rfl (fun c56 => (r_iload C dX11_first_61 rfl (r_if_ge C (tgt := 68) dX11_first_63 rfl (fun c63 => (r_iload_n C dX11_first_68 rfl rfl (r_if_ne C (tgt := 81) dX11_first_69 rfl (fun c69 => (r_iconst C dX11_first_81 (r_iret C dX11_first_82 ?_))) (fun c69 => (r_iload C dX11_first_72 rfl (r_if_ne C (tgt := 81) dX11_first_74 rfl (fun c74 => (r_iconst C dX11_first_81 (r_iret C dX11_first_82 ?_))) (fun c74 => (r_iconst C dX11_first_77 (r_goto C (tgt := 82) dX11_first_78 rfl (r_iret C dX11_first_82 ?_)))))))))) (fun c63 => (r_iconst C dX11_first_66 (r_iret C dX11_first_67 ?_)))))) (fun c56 => (r_iconst C dX11_first_59 (r_iret C dX11_first_60 ?_)))))))))))))))))) (fun c29 => (r_iconst C dX11_first_32 (r_iret C dX11_first_33 ?_))))))))))))))))))))
  · exact ⟨kSm.rf, no (fun z => bP_e0.mp c8 z.1.1)⟩
  · exact ⟨kSm.rf, no (fun z => bP_e0.mp c19 z.1.2)⟩
  · exact h
  · exact P _ _ h26 c29 ⟨bP_ne c8, bP_ne c19⟩
  · exact P _ _ h26 c29 ⟨bP_ne c8, bP_ne c19⟩
  · obtain ⟨l1, l2, l3⟩ := L _ _ h26 c29
    refine ⟨(kCb_all h h26).1, ?_⟩
    unfold firA
    rw [if_pos ⟨⟨bP_ne c8, bP_ne c19⟩, l1⟩, if_neg (by omega), if_neg (by omega), if_neg (by omega), mm]
  · obtain ⟨l1, l2, l3⟩ := L _ _ h26 c29
    refine ⟨(kCb_all h h26).1, ?_⟩
    unfold firA
    rw [if_pos ⟨⟨bP_ne c8, bP_ne c19⟩, l1⟩, if_neg (by omega), if_neg (by omega), if_neg (by omega), mm]
  · obtain ⟨l1, l2, l3⟩ := L _ _ h26 c29
    refine ⟨(kCb_all h h26).1, ?_⟩
    unfold firA
    rw [if_pos ⟨⟨bP_ne c8, bP_ne c19⟩, l1⟩, if_neg (by omega), if_neg (by omega), if_pos (by omega), m0]
  · obtain ⟨l1, l2, l3⟩ := L _ _ h26 c29
    refine ⟨(kCb_all h h26).1, ?_⟩
    unfold firA
    rw [if_pos ⟨⟨bP_ne c8, bP_ne c19⟩, l1⟩, if_neg (by omega), if_pos (by omega), m2]
  · obtain ⟨l1, l2, l3⟩ := L _ _ h26 c29
    refine ⟨(kCb_all h h26).1, ?_⟩
    unfold firA
    rw [if_pos ⟨⟨bP_ne c8, bP_ne c19⟩, l1⟩, if_pos (by omega), m1]
  · obtain ⟨a1, a2, a3, a4, a5⟩ := kCb_all h h26
    refine ⟨a1, no (fun z => ?_)⟩
    rcases a5 with a5 | a5
    · exact a5.1 c29
    · exact a5.2 z.2

