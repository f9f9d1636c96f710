/-! ===== Clocks ===== -/
def kClOk (μ : kMem) : Prop := (0 ≤ (μ.1 49 4).toInt ∧ (μ.1 49 4).toInt ≤ 12) ∧ (0 ≤ (μ.1 49 8).toInt ∧ (μ.1 49 8).toInt ≤ 12) ∧ ∀ i : Nat, (-60 ≤ (μ.1 50 i).toInt ∧ (μ.1 50 i).toInt ≤ 60) ∧ (-60 ≤ (μ.1 51 i).toInt ∧ (μ.1 51 i).toInt ≤ 60) ∧ (0 ≤ (μ.1 52 i).toInt ∧ (μ.1 52 i).toInt < 6) ∧ (0 ≤ (μ.1 53 i).toInt ∧ (μ.1 53 i).toInt ≤ 999) ∧
  (0 ≤ (μ.1 54 i).toInt ∧ (μ.1 54 i).toInt < 12) ∧ (0 ≤ (μ.1 55 i).toInt ∧ (μ.1 55 i).toInt < 12) ∧ (-99 ≤ (μ.1 56 i).toInt ∧ (μ.1 56 i).toInt ≤ 99)
def km (μ : kMem) : kMat := fun a b => (μ.1 (58 + a) b).toInt
theorem km_up (μ : kMem) (i j : Nat) (x : Int32) : km (up μ (58 + i) j x) = fun a b => if a = i ∧ b = j then x.toInt else km μ a b := by
  funext a b
  unfold km
  simp only [up]
  by_cases h : a = i ∧ b = j
  · rw [if_pos (by omega), if_pos h]
  · rw [if_neg (by omega), if_neg h]
theorem shK_row {i : Nat} (h : i < 6) : shK (58 + i) = .inr (0, 6, fun k => k) := by
  rcases (show i = 0 ∨ i = 1 ∨ i = 2 ∨ i = 3 ∨ i = 4 ∨ i = 5 by omega) with rfl | rfl | rfl | rfl | rfl | rfl <;> rfl
/-- nothing but the matrix has changed -/
def kmOnly (μ μ' : kMem) : Prop := ∀ a b : Nat, ¬ (58 ≤ a ∧ a < 64) → μ'.1 a b = μ.1 a b
theorem kmOnly.up {μ μ' : kMem} (h : kmOnly μ μ') {i j : Nat} {x : Int32} (hi : i < 6) : kmOnly μ (up μ' (58 + i) j x) := by
  intro a b hn
  rw [up_neo _ _ (by omega)]
  exact h a b hn
theorem kmOnly.rf {μ : kMem} : kmOnly μ μ := fun _ _ _ => rfl
theorem kmOnly.tr {μ μ' μ2 : kMem} (h : kmOnly μ μ') (h2 : kmOnly μ' μ2) : kmOnly μ μ2 := fun a b hn => (h2 a b hn).trans (h a b hn)
theorem ok_X0_events {μ : kMem} : kOk yX0_events cX0_events 1 (some .int) rmX0_events shK 68 [.ref 49] μ (kP (μ.1 49 4) μ) := by
  refine kOk.of rfl (Nat.le_of_ble_eq_true rfl) (fun J C => ?_)
  have C : kR cX0_events RX0 1 rmX0_events shK 68 (some .int) _ J := C
  refine (r_aload_n C dX0_events_0 rfl rfl (r_getI C dX0_events_1 fd_X0_38 nK_49 sK_49 rfl (r_iret C dX0_events_4 ?_)))
  exact ⟨rfl, rfl⟩
theorem ok_X0_facts {μ : kMem} : kOk yX0_facts cX0_facts 1 (some .int) rmX0_facts shK 68 [.ref 49] μ (kP (μ.1 49 8) μ) := by
  refine kOk.of rfl (Nat.le_of_ble_eq_true rfl) (fun J C => ?_)
  have C : kR cX0_facts RX0 1 rmX0_facts shK 68 (some .int) _ J := C
  refine (r_aload_n C dX0_facts_0 rfl rfl (r_getI C dX0_facts_1 fd_X0_42 nK_49 sK_49 rfl (r_iret C dX0_facts_4 ?_)))
  exact ⟨rfl, rfl⟩
theorem ok_X0_hasEvent {x : Int32} {μ : kMem} : kOk yX0_hasEvent cX0_hasEvent 2 (some .boolean) rmX0_hasEvent shK 68 [.ref 49, .int x] μ (kP (bP (0 ≤ x.toInt ∧ x.toInt < (μ.1 49 4).toInt)) μ) := by
  refine kOk.of rfl (Nat.le_of_ble_eq_true rfl) (fun J C => ?_)
  have C : kR cX0_hasEvent RX0 2 rmX0_hasEvent shK 68 (some .boolean) _ J := C
  refine (r_iload_n C dX0_hasEvent_0 rfl rfl (r_if_lt C (tgt := 16) dX0_hasEvent_1 rfl (fun c1 => (r_iconst C dX0_hasEvent_16 (r_zret C dX0_hasEvent_17 rfl ?_))) (fun c1 => (r_iload_n C dX0_hasEvent_4 rfl rfl (r_aload_n C dX0_hasEvent_5 rfl rfl (r_getI C dX0_hasEvent_6 fd_X0_38 nK_49 sK_49 rfl (r_icmp_ge C (tgt := 16) dX0_hasEvent_9 rfl (fun c9 => (r_iconst C dX0_hasEvent_16 (r_zret C dX0_hasEvent_17 rfl ?_))) (fun c9 => (r_iconst C dX0_hasEvent_12 (r_goto C (tgt := 17) dX0_hasEvent_13 rfl (r_zret C dX0_hasEvent_17 rfl ?_)))))))))))
  · exact ⟨bP_0 (by omega), rfl⟩
  · exact ⟨bP_0 (by omega), rfl⟩
  · exact ⟨bP_1 (by omega), rfl⟩
theorem ok_X0_setClock {x y z : Int32} {μ : kMem} (h : 0 ≤ x.toInt ∧ x.toInt < 6) : kOk yX0_setClock cX0_setClock 4 (none) rmX0_setClock shK 68 [.ref 49, .int x, .int y, .int z] μ (kN fun μ' => μ' = up (up μ 50 x.toInt.toNat y) 51 x.toInt.toNat z) := by
  refine kOk.of rfl (Nat.le_of_ble_eq_true rfl) (fun J C => ?_)
  have C : kR cX0_setClock RX0 4 rmX0_setClock shK 68 (none) _ J := C
  refine (r_iload_n C dX0_setClock_0 rfl rfl (r_n1P C ys_X11_isStation lk_X0_45 dX0_setClock_1 rfl (Nat.le_of_ble_eq_true rfl) ok_X11_isStation (r_if_eq C (tgt := 21) dX0_setClock_4 rfl (fun c4 => (r_ret C dX0_setClock_21 ?_)) (fun c4 => (r_aload_n C dX0_setClock_7 rfl rfl (r_getR C dX0_setClock_8 fd_X0_9 nK_49 sK_49 rfl (r_iload_n C dX0_setClock_11 rfl rfl (r_iload_n C dX0_setClock_12 rfl rfl (r_iast C dX0_setClock_13 nK_50 sK_50 ?_ (r_aload_n C dX0_setClock_14 rfl rfl (r_getR C dX0_setClock_15 fd_X0_15 nK_49 sK_49 rfl (r_iload_n C dX0_setClock_18 rfl rfl (r_iload_n C dX0_setClock_19 rfl rfl (r_iast C dX0_setClock_20 nK_51 sK_51 ?_ (r_ret C dX0_setClock_21 ?_)))))))))))))))
  · exact absurd h (bP_e0.mp c4)
  · omega
  · omega
  · rfl
theorem ok_X0_addEvent {x1 x2 : Int32} {μ : kMem} (h : 0 ≤ (μ.1 49 4).toInt ∧ (μ.1 49 4).toInt ≤ 12) : kOk yX0_addEvent cX0_addEvent 3 (some .int) rmX0_addEvent shK 68 [.ref 49, .int x1, .int x2] μ (kI fun r μ' => ((μ.1 49 4).toInt < 12 ∧ r = μ.1 49 4 ∧ μ' = up (up (up μ 52 (μ.1 49 4).toInt.toNat x1) 53 (μ.1 49 4).toInt.toNat x2) 49 4 (Int32.ofInt ((μ.1 49 4).toInt + 1))) ∨ ((μ.1 49 4).toInt = 12 ∧ r = Int32.ofInt (-1) ∧ μ' = μ)) := by
  have e1 : μ.1 49 4 + Int32.ofInt 1 = Int32.ofInt ((μ.1 49 4).toInt + 1) := ti_ext (by simp (disch := (first | omega | (simp (disch := omega) only [ti_ofInt, ti_addc, ti_subc, ti_mulc, ti_cmul, ti_divc, ti_remc, ti_zero, ti_add, ti_sub, ti_neg, if_lt_ti, if_gt_ti, bP_e0, Classical.not_not, tl_i2l]; omega))) only [ti_ofInt, ti_addc, ti_subc, ti_mulc, ti_cmul, ti_divc, ti_remc, ti_zero, ti_add, ti_sub, ti_neg, if_lt_ti, if_gt_ti, bP_e0, Classical.not_not, tl_i2l])
  have e2 : (μ.1 49 4 + Int32.ofInt 1 - Int32.ofInt 1) = μ.1 49 4 := ti_ext (by simp (disch := (first | omega | (simp (disch := (first | omega | (simp (disch := (first | omega | (simp (disch := omega) only [ti_ofInt, ti_addc, ti_subc, ti_mulc, ti_cmul, ti_divc, ti_remc, ti_zero, ti_add, ti_sub, ti_neg, if_lt_ti, if_gt_ti, bP_e0, Classical.not_not, tl_i2l]; omega))) only [ti_ofInt, ti_addc, ti_subc, ti_mulc, ti_cmul, ti_divc, ti_remc, ti_zero, ti_add, ti_sub, ti_neg, if_lt_ti, if_gt_ti, bP_e0, Classical.not_not, tl_i2l]; omega))) only [ti_ofInt, ti_addc, ti_subc, ti_mulc, ti_cmul, ti_divc, ti_remc, ti_zero, ti_add, ti_sub, ti_neg, if_lt_ti, if_gt_ti, bP_e0, Classical.not_not, tl_i2l]; omega))) only [ti_ofInt, ti_addc, ti_subc, ti_mulc, ti_cmul, ti_divc, ti_remc, ti_zero, ti_add, ti_sub, ti_neg, if_lt_ti, if_gt_ti, bP_e0, Classical.not_not, tl_i2l]; omega)
  refine kOk.of rfl (Nat.le_of_ble_eq_true rfl) (fun J C => ?_)
  have C : kR cX0_addEvent RX0 3 rmX0_addEvent shK 68 (some .int) _ J := C
  refine (r_aload_n C dX0_addEvent_0 rfl rfl (r_getI C dX0_addEvent_1 fd_X0_38 nK_49 sK_49 rfl (r_bipush C dX0_addEvent_4 (by decide +kernel) (r_icmp_lt C (tgt := 11) dX0_addEvent_6 rfl (fun c6 => (r_aload_n C dX0_addEvent_11 rfl rfl (r_getR C dX0_addEvent_12 fd_X0_18 nK_49 sK_49 rfl (r_aload_n C dX0_addEvent_15 rfl rfl (r_getI C dX0_addEvent_16 fd_X0_38 nK_49 sK_49 rfl (r_iload_n C dX0_addEvent_19 rfl rfl (r_iast C dX0_addEvent_20 nK_52 sK_52 ?_ (r_aload_n C dX0_addEvent_21 rfl rfl (r_getR C dX0_addEvent_22 fd_X0_21 nK_49 sK_49 rfl (r_aload_n C dX0_addEvent_25 rfl rfl (r_getI C dX0_addEvent_26 fd_X0_38 nK_49 sK_49 rfl (r_iload_n C dX0_addEvent_29 rfl rfl (r_iast C dX0_addEvent_30 nK_53 sK_53 ?_ (r_aload_n C dX0_addEvent_31 rfl rfl (r_dup C dX0_addEvent_32 rfl (r_getI C dX0_addEvent_33 fd_X0_38 nK_49 sK_49 rfl (r_iconst C dX0_addEvent_36 (r_iadd C dX0_addEvent_37 (r_putI C dX0_addEvent_38 fw_X0_38 nK_49 sK_49 rfl (r_aload_n C dX0_addEvent_41 rfl rfl (r_getI C dX0_addEvent_42 fd_X0_38 nK_49 sK_49 rfl (r_iconst C dX0_addEvent_45 (r_isub C dX0_addEvent_46 (r_iret C dX0_addEvent_47 ?_)))))))))))))))))))))))) (fun c6 => (r_iconst C dX0_addEvent_9 (r_iret C dX0_addEvent_10 ?_)))))))
  · simp (disch := (first | omega | (simp (disch := omega) only [ti_ofInt, ti_addc, ti_subc, ti_mulc, ti_cmul, ti_divc, ti_remc, ti_zero, ti_add, ti_sub, ti_neg, if_lt_ti, if_gt_ti, bP_e0, Classical.not_not, tl_i2l]; omega))) only [ti_ofInt, ti_addc, ti_subc, ti_mulc, ti_cmul, ti_divc, ti_remc, ti_zero, ti_add, ti_sub, ti_neg, if_lt_ti, if_gt_ti, bP_e0, Classical.not_not, tl_i2l] at c6
    omega
  · simp (disch := (first | omega | (simp (disch := omega) only [ti_ofInt, ti_addc, ti_subc, ti_mulc, ti_cmul, ti_divc, ti_remc, ti_zero, ti_add, ti_sub, ti_neg, if_lt_ti, if_gt_ti, bP_e0, Classical.not_not, tl_i2l]; omega))) only [ti_ofInt, ti_addc, ti_subc, ti_mulc, ti_cmul, ti_divc, ti_remc, ti_zero, ti_add, ti_sub, ti_neg, if_lt_ti, if_gt_ti, bP_e0, Classical.not_not, tl_i2l] at c6
    exact (by omega : 0 ≤ (μ.1 49 4).toInt ∧ (μ.1 49 4).toInt < 12)
  · simp (disch := (first | omega | (simp (disch := omega) only [ti_ofInt, ti_addc, ti_subc, ti_mulc, ti_cmul, ti_divc, ti_remc, ti_zero, ti_add, ti_sub, ti_neg, if_lt_ti, if_gt_ti, bP_e0, Classical.not_not, tl_i2l]; omega))) only [ti_ofInt, ti_addc, ti_subc, ti_mulc, ti_cmul, ti_divc, ti_remc, ti_zero, ti_add, ti_sub, ti_neg, if_lt_ti, if_gt_ti, bP_e0, Classical.not_not, tl_i2l] at c6
    exact Or.inl ⟨c6, e2, by rw [← e1]; rfl⟩
  · simp (disch := (first | omega | (simp (disch := omega) only [ti_ofInt, ti_addc, ti_subc, ti_mulc, ti_cmul, ti_divc, ti_remc, ti_zero, ti_add, ti_sub, ti_neg, if_lt_ti, if_gt_ti, bP_e0, Classical.not_not, tl_i2l]; omega))) only [ti_ofInt, ti_addc, ti_subc, ti_mulc, ti_cmul, ti_divc, ti_remc, ti_zero, ti_add, ti_sub, ti_neg, if_lt_ti, if_gt_ti, bP_e0, Classical.not_not, tl_i2l] at c6
    exact Or.inr ⟨by omega, rfl, rfl⟩
theorem ok_X0_addFact {x1 x2 x3 : Int32} {μ : kMem} (h : 0 ≤ (μ.1 49 8).toInt ∧ (μ.1 49 8).toInt ≤ 12) : kOk yX0_addFact cX0_addFact 4 (some .int) rmX0_addFact shK 68 [.ref 49, .int x1, .int x2, .int x3] μ (kI fun r μ' => ((μ.1 49 8).toInt < 12 ∧ r = Int32.ofInt ((μ.1 49 8).toInt + 1) ∧ μ' = up (up (up (up μ 54 (μ.1 49 8).toInt.toNat x1) 55 (μ.1 49 8).toInt.toNat x2) 56 (μ.1 49 8).toInt.toNat x3) 49 8 (Int32.ofInt ((μ.1 49 8).toInt + 1))) ∨ ((μ.1 49 8).toInt = 12 ∧ r = Int32.ofInt (-1) ∧ μ' = μ)) := by
  have e1 : μ.1 49 8 + Int32.ofInt 1 = Int32.ofInt ((μ.1 49 8).toInt + 1) := ti_ext (by simp (disch := (first | omega | (simp (disch := omega) only [ti_ofInt, ti_addc, ti_subc, ti_mulc, ti_cmul, ti_divc, ti_remc, ti_zero, ti_add, ti_sub, ti_neg, if_lt_ti, if_gt_ti, bP_e0, Classical.not_not, tl_i2l]; omega))) only [ti_ofInt, ti_addc, ti_subc, ti_mulc, ti_cmul, ti_divc, ti_remc, ti_zero, ti_add, ti_sub, ti_neg, if_lt_ti, if_gt_ti, bP_e0, Classical.not_not, tl_i2l])
  refine kOk.of rfl (Nat.le_of_ble_eq_true rfl) (fun J C => ?_)
  have C : kR cX0_addFact RX0 4 rmX0_addFact shK 68 (some .int) _ J := C
  refine (r_aload_n C dX0_addFact_0 rfl rfl (r_getI C dX0_addFact_1 fd_X0_42 nK_49 sK_49 rfl (r_bipush C dX0_addFact_4 (by decide +kernel) (r_icmp_lt C (tgt := 11) dX0_addFact_6 rfl (fun c6 => (r_aload_n C dX0_addFact_11 rfl rfl (r_getR C dX0_addFact_12 fd_X0_24 nK_49 sK_49 rfl (r_aload_n C dX0_addFact_15 rfl rfl (r_getI C dX0_addFact_16 fd_X0_42 nK_49 sK_49 rfl (r_iload_n C dX0_addFact_19 rfl rfl (r_iast C dX0_addFact_20 nK_54 sK_54 ?_ (r_aload_n C dX0_addFact_21 rfl rfl (r_getR C dX0_addFact_22 fd_X0_27 nK_49 sK_49 rfl (r_aload_n C dX0_addFact_25 rfl rfl (r_getI C dX0_addFact_26 fd_X0_42 nK_49 sK_49 rfl (r_iload_n C dX0_addFact_29 rfl rfl (r_iast C dX0_addFact_30 nK_55 sK_55 ?_ (r_aload_n C dX0_addFact_31 rfl rfl (r_getR C dX0_addFact_32 fd_X0_30 nK_49 sK_49 rfl (r_aload_n C dX0_addFact_35 rfl rfl (r_getI C dX0_addFact_36 fd_X0_42 nK_49 sK_49 rfl (r_iload_n C dX0_addFact_39 rfl rfl (r_iast C dX0_addFact_40 nK_56 sK_56 ?_ (r_aload_n C dX0_addFact_41 rfl rfl (r_dup C dX0_addFact_42 rfl (r_getI C dX0_addFact_43 fd_X0_42 nK_49 sK_49 rfl (r_iconst C dX0_addFact_46 (r_iadd C dX0_addFact_47 (r_putI C dX0_addFact_48 fw_X0_42 nK_49 sK_49 rfl (r_aload_n C dX0_addFact_51 rfl rfl (r_getI C dX0_addFact_52 fd_X0_42 nK_49 sK_49 rfl (r_iret C dX0_addFact_55 ?_)))))))))))))))))))))))))))) (fun c6 => (r_iconst C dX0_addFact_9 (r_iret C dX0_addFact_10 ?_)))))))
  · simp (disch := (first | omega | (simp (disch := omega) only [ti_ofInt, ti_addc, ti_subc, ti_mulc, ti_cmul, ti_divc, ti_remc, ti_zero, ti_add, ti_sub, ti_neg, if_lt_ti, if_gt_ti, bP_e0, Classical.not_not, tl_i2l]; omega))) only [ti_ofInt, ti_addc, ti_subc, ti_mulc, ti_cmul, ti_divc, ti_remc, ti_zero, ti_add, ti_sub, ti_neg, if_lt_ti, if_gt_ti, bP_e0, Classical.not_not, tl_i2l] at c6
    omega
  · simp (disch := (first | omega | (simp (disch := omega) only [ti_ofInt, ti_addc, ti_subc, ti_mulc, ti_cmul, ti_divc, ti_remc, ti_zero, ti_add, ti_sub, ti_neg, if_lt_ti, if_gt_ti, bP_e0, Classical.not_not, tl_i2l]; omega))) only [ti_ofInt, ti_addc, ti_subc, ti_mulc, ti_cmul, ti_divc, ti_remc, ti_zero, ti_add, ti_sub, ti_neg, if_lt_ti, if_gt_ti, bP_e0, Classical.not_not, tl_i2l] at c6
    exact (by omega : 0 ≤ (μ.1 49 8).toInt ∧ (μ.1 49 8).toInt < 12)
  · simp (disch := (first | omega | (simp (disch := omega) only [ti_ofInt, ti_addc, ti_subc, ti_mulc, ti_cmul, ti_divc, ti_remc, ti_zero, ti_add, ti_sub, ti_neg, if_lt_ti, if_gt_ti, bP_e0, Classical.not_not, tl_i2l]; omega))) only [ti_ofInt, ti_addc, ti_subc, ti_mulc, ti_cmul, ti_divc, ti_remc, ti_zero, ti_add, ti_sub, ti_neg, if_lt_ti, if_gt_ti, bP_e0, Classical.not_not, tl_i2l] at c6
    exact (by omega : 0 ≤ (μ.1 49 8).toInt ∧ (μ.1 49 8).toInt < 12)
  · simp (disch := (first | omega | (simp (disch := omega) only [ti_ofInt, ti_addc, ti_subc, ti_mulc, ti_cmul, ti_divc, ti_remc, ti_zero, ti_add, ti_sub, ti_neg, if_lt_ti, if_gt_ti, bP_e0, Classical.not_not, tl_i2l]; omega))) only [ti_ofInt, ti_addc, ti_subc, ti_mulc, ti_cmul, ti_divc, ti_remc, ti_zero, ti_add, ti_sub, ti_neg, if_lt_ti, if_gt_ti, bP_e0, Classical.not_not, tl_i2l] at c6
    exact Or.inl ⟨c6, e1, by rw [← e1]; rfl⟩
  · simp (disch := (first | omega | (simp (disch := omega) only [ti_ofInt, ti_addc, ti_subc, ti_mulc, ti_cmul, ti_divc, ti_remc, ti_zero, ti_add, ti_sub, ti_neg, if_lt_ti, if_gt_ti, bP_e0, Classical.not_not, tl_i2l]; omega))) only [ti_ofInt, ti_addc, ti_subc, ti_mulc, ti_cmul, ti_divc, ti_remc, ti_zero, ti_add, ti_sub, ti_neg, if_lt_ti, if_gt_ti, bP_e0, Classical.not_not, tl_i2l] at c6
    exact Or.inr ⟨by omega, rfl, rfl⟩
theorem ok_X0_dropFact {μ : kMem} (h : 0 ≤ (μ.1 49 8).toInt) : kOk yX0_dropFact cX0_dropFact 1 (some .int) rmX0_dropFact shK 68 [.ref 49] μ (kI fun r μ' => ((μ.1 49 8).toInt = 0 ∧ r = Int32.ofInt (-1) ∧ μ' = μ) ∨ (0 < (μ.1 49 8).toInt ∧ r = Int32.ofInt ((μ.1 49 8).toInt - 1) ∧ μ' = up μ 49 8 (Int32.ofInt ((μ.1 49 8).toInt - 1)))) := by
  have e1 : 0 < (μ.1 49 8).toInt → μ.1 49 8 - Int32.ofInt 1 = Int32.ofInt ((μ.1 49 8).toInt - 1) := fun q => ti_ext (by have := ti_hi (μ.1 49 8); simp (disch := (first | omega | (simp (disch := omega) only [ti_ofInt, ti_addc, ti_subc, ti_mulc, ti_cmul, ti_divc, ti_remc, ti_zero, ti_add, ti_sub, ti_neg, if_lt_ti, if_gt_ti, bP_e0, Classical.not_not, tl_i2l]; omega))) only [ti_ofInt, ti_addc, ti_subc, ti_mulc, ti_cmul, ti_divc, ti_remc, ti_zero, ti_add, ti_sub, ti_neg, if_lt_ti, if_gt_ti, bP_e0, Classical.not_not, tl_i2l])
  refine kOk.of rfl (Nat.le_of_ble_eq_true rfl) (fun J C => ?_)
  have C : kR cX0_dropFact RX0 1 rmX0_dropFact shK 68 (some .int) _ J := C
  refine (r_aload_n C dX0_dropFact_0 rfl rfl (r_getI C dX0_dropFact_1 fd_X0_42 nK_49 sK_49 rfl (r_if_ne C (tgt := 9) dX0_dropFact_4 rfl (fun c4 => (r_aload_n C dX0_dropFact_9 rfl rfl (r_dup C dX0_dropFact_10 rfl (r_getI C dX0_dropFact_11 fd_X0_42 nK_49 sK_49 rfl (r_iconst C dX0_dropFact_14 (r_isub C dX0_dropFact_15 (r_putI C dX0_dropFact_16 fw_X0_42 nK_49 sK_49 rfl (r_aload_n C dX0_dropFact_19 rfl rfl (r_getI C dX0_dropFact_20 fd_X0_42 nK_49 sK_49 rfl (r_iret C dX0_dropFact_23 ?_)))))))))) (fun c4 => (r_iconst C dX0_dropFact_7 (r_iret C dX0_dropFact_8 ?_))))))
  · have e2 := e1 (by omega)
    simp (disch := decide) only [up_same, up_neo, up_nek, up_2]
    exact Or.inr ⟨by omega, e2, by rw [← e2]⟩
  · exact Or.inl ⟨c4, rfl, rfl⟩
theorem ok_X0_boundByClocks {μ : kMem} (h : kClOk μ) : kOk yX0_boundByClocks cX0_boundByClocks 3 (none) rmX0_boundByClocks shK 68 [.ref 49] μ (kN fun μ' => kmOnly μ μ' ∧ ∀ a b, a < 6 → b < 6 → km μ' a b = if a = b then 0 else (μ.1 51 b).toInt - (μ.1 50 a).toInt) := by
  refine kOk.of rfl (Nat.le_of_ble_eq_true rfl) (fun J C => ?_)
  have C : kR cX0_boundByClocks RX0 3 rmX0_boundByClocks shK 68 (none) _ J := C
  have inner : ∀ (k i j : Nat) (v w : Int32) (μ' : kMem), j + k = 6 → i < 6 → v.toInt = i → w.toInt = j → kmOnly μ μ' → (∀ a b, a < 6 → b < 6 → (a < i ∨ (a = i ∧ b < j)) → km μ' a b = if a = b then 0 else (μ.1 51 b).toInt - (μ.1 50 a).toInt) → (∀ (w' : Option Value) (μ2 : kMem), kmOnly μ μ2 → (∀ a b, a < 6 → b < 6 → (a < i + 1) → km μ2 a b = if a = b then 0 else (μ.1 51 b).toInt - (μ.1 50 a).toInt) → J 52 [some (.ref 49), some (.int v), w'] [] μ2) → J 10 [some (.ref 49), some (.int v), some (.int w)] [] μ' := by
    intro k
    induction k using Nat.strongRecOn with
    | ind k ih =>
      intro i j v w μ' hk hi hv hw hO hI next
      have ev : v.toInt.toNat = i := by omega
      have ew : w.toInt.toNat = j := by omega
      have ib : 0 ≤ v.toInt ∧ v.toInt < 6 := by omega
      have hg := h.2.2 j
      have hl := h.2.2 i
      have step : ∀ x : Int32, j < 6 → x.toInt = (if i = j then 0 else (μ.1 51 j).toInt - (μ.1 50 i).toInt) → J 10 [some (.ref 49), some (.int v), some (.int (w + Int32.ofInt 1))] [] (up μ' (58 + v.toInt.toNat) w.toInt.toNat x) := by
        intro x hj hx
        rw [ev, ew]
        refine ih (k - 1) (by omega) i (j + 1) _ _ _ (by omega) hi hv (by simp (disch := (first | omega | (simp (disch := omega) only [ti_ofInt, ti_addc, ti_subc, ti_mulc, ti_cmul, ti_divc, ti_remc, ti_zero, ti_add, ti_sub, ti_neg, if_lt_ti, if_gt_ti, bP_e0, Classical.not_not, tl_i2l]; omega))) only [ti_ofInt, ti_addc, ti_subc, ti_mulc, ti_cmul, ti_divc, ti_remc, ti_zero, ti_add, ti_sub, ti_neg, if_lt_ti, if_gt_ti, bP_e0, Classical.not_not, tl_i2l]; omega) (hO.up hi) ?_ next
        intro a b ha hb hab
        rw [km_up]
        show (if a = i ∧ b = j then x.toInt else km μ' a b) = _
        by_cases e : a = i ∧ b = j
        · rw [if_pos e, hx, e.1, e.2]
        · rw [if_neg e]
          exact hI a b ha hb (by omega)
      refine (r_iload_n C dX0_boundByClocks_10 rfl rfl (r_bipush C dX0_boundByClocks_11 (by decide +kernel) (r_icmp_ge C (tgt := 52) dX0_boundByClocks_13 rfl (fun c13 => ?_) (fun c13 => (r_aload_n C dX0_boundByClocks_16 rfl rfl (r_getR C dX0_boundByClocks_17 fd_X0_35 nK_49 sK_49 rfl (r_iload_n C dX0_boundByClocks_20 rfl rfl (r_aald C dX0_boundByClocks_21 nK_57 (by decide) sK_57 ?_ rfl (r_iload_n C dX0_boundByClocks_22 rfl rfl (r_iload_n C dX0_boundByClocks_23 rfl rfl (r_iload_n C dX0_boundByClocks_24 rfl rfl (r_icmp_ne C (tgt := 32) dX0_boundByClocks_25 rfl (fun c25 => (r_aload_n C dX0_boundByClocks_32 rfl rfl (r_getR C dX0_boundByClocks_33 fd_X0_15 nK_49 sK_49 rfl (r_iload_n C dX0_boundByClocks_36 rfl rfl (r_iald C dX0_boundByClocks_37 nK_51 sK_51 ?_ (r_aload_n C dX0_boundByClocks_38 rfl rfl (r_getR C dX0_boundByClocks_39 fd_X0_9 nK_49 sK_49 rfl (r_iload_n C dX0_boundByClocks_42 rfl rfl (r_iald C dX0_boundByClocks_43 nK_50 sK_50 ?_ (r_isub C dX0_boundByClocks_44 (r_iast C (n := 6) (f := fun k => k) dX0_boundByClocks_45 ?_ ?_ ?_ (r_iinc C dX0_boundByClocks_46 rfl (by decide) (r_goto C (tgt := 10) dX0_boundByClocks_49 rfl ?_))))))))))))) (fun c25 => (r_iconst C dX0_boundByClocks_28 (r_goto C (tgt := 45) dX0_boundByClocks_29 rfl (r_iast C (n := 6) (f := fun k => k) dX0_boundByClocks_45 ?_ ?_ ?_ (r_iinc C dX0_boundByClocks_46 rfl (by decide) (r_goto C (tgt := 10) dX0_boundByClocks_49 rfl ?_))))))))))))))))))
      · simp (disch := (first | omega | (simp (disch := omega) only [ti_ofInt, ti_addc, ti_subc, ti_mulc, ti_cmul, ti_divc, ti_remc, ti_zero, ti_add, ti_sub, ti_neg, if_lt_ti, if_gt_ti, bP_e0, Classical.not_not, tl_i2l]; omega))) only [ti_ofInt, ti_addc, ti_subc, ti_mulc, ti_cmul, ti_divc, ti_remc, ti_zero, ti_add, ti_sub, ti_neg, if_lt_ti, if_gt_ti, bP_e0, Classical.not_not, tl_i2l] at c13
        refine next _ _ hO ?_
        intro a b ha hb hab
        exact hI a b ha hb (by omega)
      · omega
      · simp (disch := (first | omega | (simp (disch := omega) only [ti_ofInt, ti_addc, ti_subc, ti_mulc, ti_cmul, ti_divc, ti_remc, ti_zero, ti_add, ti_sub, ti_neg, if_lt_ti, if_gt_ti, bP_e0, Classical.not_not, tl_i2l]; omega))) only [ti_ofInt, ti_addc, ti_subc, ti_mulc, ti_cmul, ti_divc, ti_remc, ti_zero, ti_add, ti_sub, ti_neg, if_lt_ti, if_gt_ti, bP_e0, Classical.not_not, tl_i2l] at c13
        omega
      · omega
      · omega
      · rw [ev]; exact shK_row hi
      · simp (disch := (first | omega | (simp (disch := omega) only [ti_ofInt, ti_addc, ti_subc, ti_mulc, ti_cmul, ti_divc, ti_remc, ti_zero, ti_add, ti_sub, ti_neg, if_lt_ti, if_gt_ti, bP_e0, Classical.not_not, tl_i2l]; omega))) only [ti_ofInt, ti_addc, ti_subc, ti_mulc, ti_cmul, ti_divc, ti_remc, ti_zero, ti_add, ti_sub, ti_neg, if_lt_ti, if_gt_ti, bP_e0, Classical.not_not, tl_i2l] at c13
        omega
      · simp (disch := (first | omega | (simp (disch := omega) only [ti_ofInt, ti_addc, ti_subc, ti_mulc, ti_cmul, ti_divc, ti_remc, ti_zero, ti_add, ti_sub, ti_neg, if_lt_ti, if_gt_ti, bP_e0, Classical.not_not, tl_i2l]; omega))) only [ti_ofInt, ti_addc, ti_subc, ti_mulc, ti_cmul, ti_divc, ti_remc, ti_zero, ti_add, ti_sub, ti_neg, if_lt_ti, if_gt_ti, bP_e0, Classical.not_not, tl_i2l] at c13
        rw [hO 51 _ (by omega), hO 50 _ (by omega)]
        refine step _ (by omega) ?_
        rw [if_neg (by omega), ew, ev]
        simp (disch := (first | omega | (simp (disch := omega) only [ti_ofInt, ti_addc, ti_subc, ti_mulc, ti_cmul, ti_divc, ti_remc, ti_zero, ti_add, ti_sub, ti_neg, if_lt_ti, if_gt_ti, bP_e0, Classical.not_not, tl_i2l]; omega))) only [ti_ofInt, ti_addc, ti_subc, ti_mulc, ti_cmul, ti_divc, ti_remc, ti_zero, ti_add, ti_sub, ti_neg, if_lt_ti, if_gt_ti, bP_e0, Classical.not_not, tl_i2l]
      · omega
      · rw [ev]; exact shK_row hi
      · simp (disch := (first | omega | (simp (disch := omega) only [ti_ofInt, ti_addc, ti_subc, ti_mulc, ti_cmul, ti_divc, ti_remc, ti_zero, ti_add, ti_sub, ti_neg, if_lt_ti, if_gt_ti, bP_e0, Classical.not_not, tl_i2l]; omega))) only [ti_ofInt, ti_addc, ti_subc, ti_mulc, ti_cmul, ti_divc, ti_remc, ti_zero, ti_add, ti_sub, ti_neg, if_lt_ti, if_gt_ti, bP_e0, Classical.not_not, tl_i2l] at c13
        omega
      · simp (disch := (first | omega | (simp (disch := omega) only [ti_ofInt, ti_addc, ti_subc, ti_mulc, ti_cmul, ti_divc, ti_remc, ti_zero, ti_add, ti_sub, ti_neg, if_lt_ti, if_gt_ti, bP_e0, Classical.not_not, tl_i2l]; omega))) only [ti_ofInt, ti_addc, ti_subc, ti_mulc, ti_cmul, ti_divc, ti_remc, ti_zero, ti_add, ti_sub, ti_neg, if_lt_ti, if_gt_ti, bP_e0, Classical.not_not, tl_i2l] at c13
        refine step _ (by omega) ?_
        rw [if_pos (by omega)]
        simp (disch := (first | omega | (simp (disch := omega) only [ti_ofInt, ti_addc, ti_subc, ti_mulc, ti_cmul, ti_divc, ti_remc, ti_zero, ti_add, ti_sub, ti_neg, if_lt_ti, if_gt_ti, bP_e0, Classical.not_not, tl_i2l]; omega))) only [ti_ofInt, ti_addc, ti_subc, ti_mulc, ti_cmul, ti_divc, ti_remc, ti_zero, ti_add, ti_sub, ti_neg, if_lt_ti, if_gt_ti, bP_e0, Classical.not_not, tl_i2l]
  have outer : ∀ (k i : Nat) (v : Int32) (z : Option Value) (μ' : kMem), i + k = 6 → v.toInt = i → kmOnly μ μ' → (∀ a b, a < 6 → b < 6 → a < i → km μ' a b = if a = b then 0 else (μ.1 51 b).toInt - (μ.1 50 a).toInt) → J 2 [some (.ref 49), some (.int v), z] [] μ' := by
    intro k
    induction k using Nat.strongRecOn with
    | ind k ih =>
      intro i v z μ' hk hv hO hI
      refine (r_iload_n C dX0_boundByClocks_2 rfl rfl (r_bipush C dX0_boundByClocks_3 (by decide +kernel) (r_icmp_ge C (tgt := 58) dX0_boundByClocks_5 rfl (fun c5 => (r_ret C dX0_boundByClocks_58 ?_)) (fun c5 => (r_iconst C dX0_boundByClocks_8 (r_istore_n C dX0_boundByClocks_9 rfl (by decide) ?_))))))
      · simp (disch := (first | omega | (simp (disch := omega) only [ti_ofInt, ti_addc, ti_subc, ti_mulc, ti_cmul, ti_divc, ti_remc, ti_zero, ti_add, ti_sub, ti_neg, if_lt_ti, if_gt_ti, bP_e0, Classical.not_not, tl_i2l]; omega))) only [ti_ofInt, ti_addc, ti_subc, ti_mulc, ti_cmul, ti_divc, ti_remc, ti_zero, ti_add, ti_sub, ti_neg, if_lt_ti, if_gt_ti, bP_e0, Classical.not_not, tl_i2l] at c5
        refine ⟨hO, ?_⟩
        intro a b ha hb
        exact hI a b ha hb (by omega)
      · simp (disch := (first | omega | (simp (disch := omega) only [ti_ofInt, ti_addc, ti_subc, ti_mulc, ti_cmul, ti_divc, ti_remc, ti_zero, ti_add, ti_sub, ti_neg, if_lt_ti, if_gt_ti, bP_e0, Classical.not_not, tl_i2l]; omega))) only [ti_ofInt, ti_addc, ti_subc, ti_mulc, ti_cmul, ti_divc, ti_remc, ti_zero, ti_add, ti_sub, ti_neg, if_lt_ti, if_gt_ti, bP_e0, Classical.not_not, tl_i2l] at c5
        refine inner 6 i 0 _ _ _ rfl (by omega) hv (by simp (disch := (first | omega | (simp (disch := omega) only [ti_ofInt, ti_addc, ti_subc, ti_mulc, ti_cmul, ti_divc, ti_remc, ti_zero, ti_add, ti_sub, ti_neg, if_lt_ti, if_gt_ti, bP_e0, Classical.not_not, tl_i2l]; omega))) only [ti_ofInt, ti_addc, ti_subc, ti_mulc, ti_cmul, ti_divc, ti_remc, ti_zero, ti_add, ti_sub, ti_neg, if_lt_ti, if_gt_ti, bP_e0, Classical.not_not, tl_i2l]; omega) hO (fun a b ha hb q => hI a b ha hb (by omega)) ?_
        intro w' μ2 hO2 hI2
        refine (r_iinc C dX0_boundByClocks_52 rfl (by decide) (r_goto C (tgt := 2) dX0_boundByClocks_55 rfl ?_))
        exact ih (k - 1) (by omega) (i + 1) _ _ _ (by omega) (by simp (disch := (first | omega | (simp (disch := omega) only [ti_ofInt, ti_addc, ti_subc, ti_mulc, ti_cmul, ti_divc, ti_remc, ti_zero, ti_add, ti_sub, ti_neg, if_lt_ti, if_gt_ti, bP_e0, Classical.not_not, tl_i2l]; omega))) only [ti_ofInt, ti_addc, ti_subc, ti_mulc, ti_cmul, ti_divc, ti_remc, ti_zero, ti_add, ti_sub, ti_neg, if_lt_ti, if_gt_ti, bP_e0, Classical.not_not, tl_i2l]; omega) hO2 hI2
  refine (r_iconst C dX0_boundByClocks_0 (r_istore_n C dX0_boundByClocks_1 rfl (by decide) ?_))
  exact outer 6 0 _ _ _ rfl (by simp (disch := (first | omega | (simp (disch := omega) only [ti_ofInt, ti_addc, ti_subc, ti_mulc, ti_cmul, ti_divc, ti_remc, ti_zero, ti_add, ti_sub, ti_neg, if_lt_ti, if_gt_ti, bP_e0, Classical.not_not, tl_i2l]; omega))) only [ti_ofInt, ti_addc, ti_subc, ti_mulc, ti_cmul, ti_divc, ti_remc, ti_zero, ti_add, ti_sub, ti_neg, if_lt_ti, if_gt_ti, bP_e0, Classical.not_not, tl_i2l]; omega) kmOnly.rf (fun a b _ _ q => by omega)

