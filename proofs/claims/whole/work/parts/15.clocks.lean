/-! ===== Clocks ===== -/
def kClOk (μ : kMem) : Prop := (0 ≤ (μ.1 49 4).toInt ∧ (μ.1 49 4).toInt ≤ 12) ∧ (0 ≤ (μ.1 49 8).toInt ∧ (μ.1 49 8).toInt ≤ 12) ∧ ∀ i : Nat, (-60 ≤ (μ.1 50 i).toInt ∧ (μ.1 50 i).toInt ≤ 60) ∧ (-60 ≤ (μ.1 51 i).toInt ∧ (μ.1 51 i).toInt ≤ 60) ∧ (0 ≤ (μ.1 52 i).toInt ∧ (μ.1 52 i).toInt < 6) ∧ (0 ≤ (μ.1 53 i).toInt ∧ (μ.1 53 i).toInt ≤ 999) ∧
  (0 ≤ (μ.1 54 i).toInt ∧ (μ.1 54 i).toInt < 12) ∧ (0 ≤ (μ.1 55 i).toInt ∧ (μ.1 55 i).toInt < 12) ∧ (-99 ≤ (μ.1 56 i).toInt ∧ (μ.1 56 i).toInt ≤ 99)
def km (μ : kMem) : kMat := fun a b => (μ.1 (58 + a) b).toInt
theorem km_up (μ : kMem) (i j : Nat) (x : Int32) : km (up μ (58 + i) j x) = fun a b => if a = i ∧ b = j then x.toInt else km μ a b := by
  funext a b
  unfold km
  simp only [up]
  by_cases h : a = i ∧ b = j
  · rw [if_pos (by omega), if_pos h]
  · rw [if_neg (by omega), if_neg h]
theorem shK_row {i : Nat} (h : i < 6) : shK (58 + i) = .inr (0, 6, fun k => k) := by
  rcases (show i = 0 ∨ i = 1 ∨ i = 2 ∨ i = 3 ∨ i = 4 ∨ i = 5 by omega) with rfl | rfl | rfl | rfl | rfl | rfl <;> rfl
/-- nothing but the matrix has changed -/
def kmOnly (μ μ' : kMem) : Prop := ∀ a b : Nat, ¬ (58 ≤ a ∧ a < 64) → μ'.1 a b = μ.1 a b
theorem kmOnly.up {μ μ' : kMem} (h : kmOnly μ μ') {i j : Nat} {x : Int32} (hi : i < 6) : kmOnly μ (up μ' (58 + i) j x) := by
  intro a b hn
  rw [up_neo _ _ (by omega)]
  exact h a b hn
theorem kmOnly.rf {μ : kMem} : kmOnly μ μ := fun _ _ _ => rfl
theorem kmOnly.tr {μ μ' μ2 : kMem} (h : kmOnly μ μ') (h2 : kmOnly μ' μ2) : kmOnly μ μ2 := fun a b hn => (h2 a b hn).trans (h a b hn)
theorem ok_X0_events {μ : kMem} : kOk yX0_events cX0_events 1 (some .int) rmX0_events shK 68 [.ref 49] μ (kP (μ.1 49 4) μ) := by
  refine kOk.of rfl (Nat.le_of_ble_eq_true rfl) (fun J C => ?_)
  have C : kR cX0_events RX0 1 rmX0_events shK 68 (some .int) _ J := C
  refine (r_aload_n C dX0_events_0 rfl rfl (r_getI C dX0_events_1 fd_X0_38 nK_49 sK_49 rfl (r_iret C dX0_events_4 ?_)))
  exact ⟨rfl, rfl⟩
theorem ok_X0_facts {μ : kMem} : kOk yX0_facts cX0_facts 1 (some .int) rmX0_facts shK 68 [.ref 49] μ (kP (μ.1 49 8) μ) := by
  refine kOk.of rfl (Nat.le_of_ble_eq_true rfl) (fun J C => ?_)
  have C : kR cX0_facts RX0 1 rmX0_facts shK 68 (some .int) _ J := C
  refine (r_aload_n C dX0_facts_0 rfl rfl (r_getI C dX0_facts_1 fd_X0_42 nK_49 sK_49 rfl (r_iret C dX0_facts_4 ?_)))
  exact ⟨rfl, rfl⟩
theorem ok_X0_hasEvent {x : Int32} {μ : kMem} : kOk yX0_hasEvent cX0_hasEvent 2 (some .boolean) rmX0_hasEvent shK 68 [.ref 49, .int x] μ (kP (bP (0 ≤ x.toInt ∧ x.toInt < (μ.1 49 4).toInt)) μ) := by
  refine kOk.of rfl (Nat.le_of_ble_eq_true rfl) (fun J C => ?_)
  have C : kR cX0_hasEvent RX0 2 rmX0_hasEvent shK 68 (some .boolean) _ J := C
  refine (r_iload_n C dX0_hasEvent_0 rfl rfl (r_if_lt C (tgt := 16) dX0_hasEvent_1 rfl (fun c1 => (r_iconst C dX0_hasEvent_16 (r_zret C dX0_hasEvent_17 rfl ?_))) (fun c1 => (r_iload_n C dX0_hasEvent_4 rfl rfl (r_aload_n C dX0_hasEvent_5 rfl rfl (r_getI C dX0_hasEvent_6 fd_X0_38 nK_49 sK_49 rfl (r_icmp_ge C (tgt := 16) dX0_hasEvent_9 rfl (fun c9 => (r_iconst C dX0_hasEvent_16 (r_zret C dX0_hasEvent_17 rfl ?_))) (fun c9 => (r_iconst C dX0_hasEvent_12 (r_goto C (tgt := 17) dX0_hasEvent_13 rfl (r_zret C dX0_hasEvent_17 rfl ?_)))))))))))
  · exact ⟨bP_0 (by omega), rfl⟩
  · exact ⟨bP_0 (by omega), rfl⟩
  · exact ⟨bP_1 (by omega), rfl⟩
theorem ok_X0_setClock {x y z : Int32} {μ : kMem} (h : 0 ≤ x.toInt ∧ x.toInt < 6) : kOk yX0_setClock cX0_setClock 4 (none) rmX0_setClock shK 68 [.ref 49, .int x, .int y, .int z] μ (kN fun μ' => μ' = up (up μ 50 x.toInt.toNat y) 51 x.toInt.toNat z) := by
  refine kOk.of rfl (Nat.le_of_ble_eq_true rfl) (fun J C => ?_)
  have C : kR cX0_setClock RX0 4 rmX0_setClock shK 68 (none) _ J := C
  refine (r_iload_n C dX0_setClock_0 rfl rfl (r_n1P C ys_X11_isStation lk_X0_45 dX0_setClock_1 rfl (Nat.le_of_ble_eq_true rfl) ok_X11_isStation (r_if_eq C (tgt := 21) dX0_setClock_4 rfl (fun c4 => (r_ret C dX0_setClock_21 ?_)) (fun c4 => (r_aload_n C dX0_setClock_7 rfl rfl (r_getR C dX0_setClock_8 fd_X0_9 nK_49 sK_49 rfl (r_iload_n C dX0_setClock_11 rfl rfl (r_iload_n C dX0_setClock_12 rfl rfl (r_iast C dX0_setClock_13 nK_50 sK_50 ?_ (r_aload_n C dX0_setClock_14 rfl rfl (r_getR C dX0_setClock_15 fd_X0_15 nK_49 sK_49 rfl (r_iload_n C dX0_setClock_18 rfl rfl (r_iload_n C dX0_setClock_19 rfl rfl (r_iast C dX0_setClock_20 nK_51 sK_51 ?_ (r_ret C dX0_setClock_21 ?_)))))))))))))))
  · exact absurd h (bP_e0.mp c4)
  · omega
  · omega
  · rfl
theorem ok_X0_addEvent {x1 x2 : Int32} {μ : kMem} (h : 0 ≤ (μ.1 49 4).toInt ∧ (μ.1 49 4).toInt ≤ 12) : kOk yX0_addEvent cX0_addEvent 3 (some .int) rmX0_addEvent shK 68 [.ref 49, .int x1, .int x2] μ (kI fun r μ' => ((μ.1 49 4).toInt < 12 ∧ r = μ.1 49 4 ∧ μ' = up (up (up μ 52 (μ.1 49 4).toInt.toNat x1) 53 (μ.1 49 4).toInt.toNat x2) 49 4 (Int32.ofInt ((μ.1 49 4).toInt + 1))) ∨ ((μ.1 49 4).toInt = 12 ∧ r = Int32.ofInt (-1) ∧ μ' = μ)) := by
  have e1 : μ.1 49 4 + Int32.ofInt 1 = Int32.ofInt ((μ.1 49 4).toInt + 1) := ti_ext (by simp (disch := (first | omega | (simp (disch := omega) only [ti_ofInt, ti_addc, ti_subc, ti_mulc, ti_cmul, ti_divc, ti_remc, ti_zero, ti_add, ti_sub, ti_neg, if_lt_ti, if_gt_ti, bP_e0, Classical.not_not, tl_i2l]; omega))) only [ti_ofInt, ti_addc, ti_subc, ti_mulc, ti_cmul, ti_divc, ti_remc, ti_zero, ti_add, ti_sub, ti_neg, if_lt_ti, if_gt_ti, bP_e0, Classical.not_not, tl_i2l])
  have e2 : (μ.1 49 4 + Int32.ofInt 1 - Int32.ofInt 1) = μ.1 49 4 := ti_ext (by simp (disch := (first | omega | (simp (disch := (first | omega | (simp (disch := (first | omega | (simp (disch := omega) only [ti_ofInt, ti_addc, ti_subc, ti_mulc, ti_cmul, ti_divc, ti_remc, ti_zero, ti_add, ti_sub, ti_neg, if_lt_ti, if_gt_ti, bP_e0, Classical.not_not, tl_i2l]; omega))) only [ti_ofInt, ti_addc, ti_subc, ti_mulc, ti_cmul, ti_divc, ti_remc, ti_zero, ti_add, ti_sub, ti_neg, if_lt_ti, if_gt_ti, bP_e0, Classical.not_not, tl_i2l]; omega))) only [ti_ofInt, ti_addc, ti_subc, ti_mulc, ti_cmul, ti_divc, ti_remc, ti_zero, ti_add, ti_sub, ti_neg, if_lt_ti, if_gt_ti, bP_e0, Classical.not_not, tl_i2l]; omega))) only [ti_ofInt, ti_addc, ti_subc, ti_mulc, ti_cmul, ti_divc, ti_remc, ti_zero, ti_add, ti_sub, ti_neg, if_lt_ti, if_gt_ti, bP_e0, Classical.not_not, tl_i2l]; omega)
  refine kOk.of rfl (Nat.le_of_ble_eq_true rfl) (fun J C => ?_)
  have C : kR cX0_addEvent RX0 3 rmX0_addEvent shK 68 (some .int) _ J := C
  refine (r_aload_n C dX0_addEvent_0 rfl rfl (r_getI C dX0_addEvent_1 fd_X0_38 nK_49 sK_49 rfl (r_bipush C dX0_addEvent_4 (by decide +kernel) (r_icmp_lt C (tgt := 11) dX0_addEvent_6 rfl (fun c6 => (r_aload_n C dX0_addEvent_11 rfl rfl (r_getR C dX0_addEvent_12 fd_X0_18 nK_49 sK_49 rfl (r_aload_n C dX0_addEvent_15 rfl rfl (r_getI C dX0_addEvent_16 fd_X0_38 nK_49 sK_49 rfl (r_iload_n C dX0_addEvent_19 rfl rfl (r_iast C dX0_addEvent_20 nK_52 sK_52 ?_ (r_aload_n C dX0_addEvent_21 rfl rfl (r_getR C dX0_addEvent_22 fd_X0_21 nK_49 sK_49 rfl (r_aload_n C dX0_addEvent_25 rfl rfl (r_getI C dX0_addEvent_26 fd_X0_38 nK_49 sK_49 rfl (r_iload_n C dX0_addEvent_29 rfl rfl (r_iast C dX0_addEvent_30 nK_53 sK_53 ?_ (r_aload_n C dX0_addEvent_31 rfl rfl (r_dup C dX0_addEvent_32 rfl (r_getI C dX0_addEvent_33 fd_X0_38 nK_49 sK_49 rfl (r_iconst C dX0_addEvent_36 (r_iadd C dX0_addEvent_37 (r_putI C dX0_addEvent_38 fw_X0_38 nK_49 sK_49 rfl (r_aload_n C dX0_addEvent_41 rfl rfl (r_getI C dX0_addEvent_42 fd_X0_38 nK_49 sK_49 rfl (r_iconst C dX0_addEvent_45 (r_isub C dX0_addEvent_46 (r_iret C dX0_addEvent_47 ?_)))))))))))))))))))))))) (fun c6 => (r_iconst C dX0_addEvent_9 (r_iret C dX0_addEvent_10 ?_)))))))
  · simp (disch := (first | omega | (simp (disch := omega) only [ti_ofInt, ti_addc, ti_subc, ti_mulc, ti_cmul, ti_divc, ti_remc, ti_zero, ti_add, ti_sub, ti_neg, if_lt_ti, if_gt_ti, bP_e0, Classical.not_not, tl_i2l]; omega))) only [ti_ofInt, ti_addc, ti_subc, ti_mulc, ti_cmul, ti_divc, ti_remc, ti_zero, ti_add, ti_sub, ti_neg, if_lt_ti, if_gt_ti, bP_e0, Classical.not_not, tl_i2l] at c6
    omega
  · simp (disch := (first | omega | (simp (disch := omega) only [ti_ofInt, ti_addc, ti_subc, ti_mulc, ti_cmul, ti_divc, ti_remc, ti_zero, ti_add, ti_sub, ti_neg, if_lt_ti, if_gt_ti, bP_e0, Classical.not_not, tl_i2l]; omega))) only [ti_ofInt, ti_addc, ti_subc, ti_mulc, ti_cmul, ti_divc, ti_remc, ti_zero, ti_add, ti_sub, ti_neg, if_lt_ti, if_gt_ti, bP_e0, Classical.not_not, tl_i2l] at c6
    exact (by omega : 0 ≤ (μ.1 49 4).toInt ∧ (μ.1 49 4).toInt < 12)
  · simp (disch := (first | omega | (simp (disch := omega) only [ti_ofInt, ti_addc, ti_subc, ti_mulc, ti_cmul, ti_divc, ti_remc, ti_zero, ti_add, ti_sub, ti_neg, if_lt_ti, if_gt_ti, bP_e0, Classical.not_not, tl_i2l]; omega))) only [ti_ofInt, ti_addc, ti_subc, ti_mulc, ti_cmul, ti_divc, ti_remc, ti_zero, ti_add, ti_sub, ti_neg, if_lt_ti, if_gt_ti, bP_e0, Classical.not_not, tl_i2l] at c6
    exact Or.inl ⟨c6, e2, by rw [← e1]; rfl⟩
  · simp (disch := (first | omega | (simp (disch := omega) only [ti_ofInt, ti_addc, ti_subc, ti_mulc, ti_cmul, ti_divc, ti_remc, ti_zero, ti_add, ti_sub, ti_neg, if_lt_ti, if_gt_ti, bP_e0, Classical.not_not, tl_i2l]; omega))) only [ti_ofInt, ti_addc, ti_subc, ti_mulc, ti_cmul, ti_divc, ti_remc, ti_zero, ti_add, ti_sub, ti_neg, if_lt_ti, if_gt_ti, bP_e0, Classical.not_not, tl_i2l] at c6
    exact Or.inr ⟨by omega, rfl, rfl⟩
theorem ok_X0_addFact {x1 x2 x3 : Int32} {μ : kMem} (h : 0 ≤ (μ.1 49 8).toInt ∧ (μ.1 49 8).toInt ≤ 12) : kOk yX0_addFact cX0_addFact 4 (some .int) rmX0_addFact shK 68 [.ref 49, .int x1, .int x2, .int x3] μ (kI fun r μ' => ((μ.1 49 8).toInt < 12 ∧ r = Int32.ofInt ((μ.1 49 8).toInt + 1) ∧ μ' = up (up (up (up μ 54 (μ.1 49 8).toInt.toNat x1) 55 (μ.1 49 8).toInt.toNat x2) 56 (μ.1 49 8).toInt.toNat x3) 49 8 (Int32.ofInt ((μ.1 49 8).toInt + 1))) ∨ ((μ.1 49 8).toInt = 12 ∧ r = Int32.ofInt (-1) ∧ μ' = μ)) := by
  have e1 : μ.1 49 8 + Int32.ofInt 1 = Int32.ofInt ((μ.1 49 8).toInt + 1) := ti_ext (by simp (disch := (first | omega | (simp (disch := omega) only [ti_ofInt, ti_addc, ti_subc, ti_mulc, ti_cmul, ti_divc, ti_remc, ti_zero, ti_add, ti_sub, ti_neg, if_lt_ti, if_gt_ti, bP_e0, Classical.not_not, tl_i2l]; omega))) only [ti_ofInt, ti_addc, ti_subc, ti_mulc, ti_cmul, ti_divc, ti_remc, ti_zero, ti_add, ti_sub, ti_neg, if_lt_ti, if_gt_ti, bP_e0, Classical.not_not, tl_i2l])
  refine kOk.of rfl (Nat.le_of_ble_eq_true rfl) (fun J C => ?_)
  have C : kR cX0_addFact RX0 4 rmX0_addFact shK 68 (some .int) _ J := C
  refine (r_aload_n C dX0_addFact_0 rfl rfl (r_getI C dX0_addFact_1 fd_X0_42 nK_49 sK_49 rfl (r_bipush C dX0_addFact_4 (by decide +kernel) (r_icmp_lt C (tgt := 11) dX0_addFact_6 rfl (fun c6 => (r_aload_n C dX0_addFact_11 rfl rfl (r_getR C dX0_addFact_12 fd_X0_24 nK_49 sK_49 rfl (r_aload_n C dX0_addFact_15 rfl rfl (r_getI C dX0_addFact_16 fd_X0_42 nK_49 sK_49 rfl (r_iload_n C dX0_addFact_19 rfl rfl (r_iast C dX0_addFact_20 nK_54 sK_54 ?_ (r_aload_n C dX0_addFact_21 rfl rfl (r_getR C dX0_addFact_22 fd_X0_27 nK_49 sK_49 rfl (r_aload_n C dX0_addFact_25 rfl rfl (r_getI C dX0_addFact_26 fd_X0_42 nK_49 sK_49 rfl (r_iload_n C dX0_addFact_29 rfl rfl (r_iast C dX0_addFact_30 nK_55 sK_55 ?_ (r_aload_n C dX0_addFact_31 rfl rfl (r_getR C dX0_addFact_32 fd_X0_30 nK_49 sK_49 rfl (r_aload_n C dX0_addFact_35 rfl rfl (r_getI C dX0_addFact_36 fd_X0_42 nK_49 sK_49 rfl (r_iload_n C dX0_addFact_39 rfl rfl (r_iast C dX0_addFact_40 nK_56 sK_56 ?_ (r_aload_n C dX0_addFact_41 rfl rfl (r_dup C dX0_addFact_42 rfl (r_getI C dX0_addFact_43 fd_X0_42 nK_49 sK_49 rfl (r_iconst C dX0_addFact_46 (r_iadd C dX0_addFact_47 (r_putI C dX0_addFact_48 fw_X0_42 nK_49 sK_49 rfl (r_aload_n C dX0_addFact_51 rfl rfl (r_getI C dX0_addFact_52 fd_X0_42 nK_49 sK_49 rfl (r_iret C dX0_addFact_55 ?_)))))))))))))))))))))))))))) (fun c6 => (r_iconst C dX0_addFact_9 (r_iret C dX0_addFact_10 ?_)))))))
  · simp (disch := (first | omega | (simp (disch := omega) only [ti_ofInt, ti_addc, ti_subc, ti_mulc, ti_cmul, ti_divc, ti_remc, ti_zero, ti_add, ti_sub, ti_neg, if_lt_ti, if_gt_ti, bP_e0, Classical.not_not, tl_i2l]; omega))) only [ti_ofInt, ti_addc, ti_subc, ti_mulc, ti_cmul, ti_divc, ti_remc, ti_zero, ti_add, ti_sub, ti_neg, if_lt_ti, if_gt_ti, bP_e0, Classical.not_not, tl_i2l] at c6
    omega
  · simp (disch := (first | omega | (simp (disch := omega) only [ti_ofInt, ti_addc, ti_subc, ti_mulc, ti_cmul, ti_divc, ti_remc, ti_zero, ti_add, ti_sub, ti_neg, if_lt_ti, if_gt_ti, bP_e0, Classical.not_not, tl_i2l]; omega))) only [ti_ofInt, ti_addc, ti_subc, ti_mulc, ti_cmul, ti_divc, ti_remc, ti_zero, ti_add, ti_sub, ti_neg, if_lt_ti, if_gt_ti, bP_e0, Classical.not_not, tl_i2l] at c6
    exact (by omega : 0 ≤ (μ.1 49 8).toInt ∧ (μ.1 49 8).toInt < 12)
  · simp (disch := (first | omega | (simp (disch := omega) only [ti_ofInt, ti_addc, ti_subc, ti_mulc, ti_cmul, ti_divc, ti_remc, ti_zero, ti_add, ti_sub, ti_neg, if_lt_ti, if_gt_ti, bP_e0, Classical.not_not, tl_i2l]; omega))) only [ti_ofInt, ti_addc, ti_subc, ti_mulc, ti_cmul, ti_divc, ti_remc, ti_zero, ti_add, ti_sub, ti_neg, if_lt_ti, if_gt_ti, bP_e0, Classical.not_not, tl_i2l] at c6
    exact (by omega : 0 ≤ (μ.1 49 8).toInt ∧ (μ.1 49 8).toInt < 12)
  · simp (disch := (first | omega | (simp (disch := omega) only [ti_ofInt, ti_addc, ti_subc, ti_mulc, ti_cmul, ti_divc, ti_remc, ti_zero, ti_add, ti_sub, ti_neg, if_lt_ti, if_gt_ti, bP_e0, Classical.not_not, tl_i2l]; omega))) only [ti_ofInt, ti_addc, ti_subc, ti_mulc, ti_cmul, ti_divc, ti_remc, ti_zero, ti_add, ti_sub, ti_neg, if_lt_ti, if_gt_ti, bP_e0, Classical.not_not, tl_i2l] at c6
    exact Or.inl ⟨c6, e1, by rw [← e1]; rfl⟩
  · simp (disch := (first | omega | (simp (disch := omega) only [ti_ofInt, ti_addc, ti_subc, ti_mulc, ti_cmul, ti_divc, ti_remc, ti_zero, ti_add, ti_sub, ti_neg, if_lt_ti, if_gt_ti, bP_e0, Classical.not_not, tl_i2l]; omega))) only [ti_ofInt, ti_addc, ti_subc, ti_mulc, ti_cmul, ti_divc, ti_remc, ti_zero, ti_add, ti_sub, ti_neg, if_lt_ti, if_gt_ti, bP_e0, Classical.not_not, tl_i2l] at c6
    exact Or.inr ⟨by omega, rfl, rfl⟩
theorem ok_X0_dropFact {μ : kMem} (h : 0 ≤ (μ.1 49 8).toInt) : kOk yX0_dropFact cX0_dropFact 1 (some .int) rmX0_dropFact shK 68 [.ref 49] μ (kI fun r μ' => ((μ.1 49 8).toInt = 0 ∧ r = Int32.ofInt (-1) ∧ μ' = μ) ∨ (0 < (μ.1 49 8).toInt ∧ r = Int32.ofInt ((μ.1 49 8).toInt - 1) ∧ μ' = up μ 49 8 (Int32.ofInt ((μ.1 49 8).toInt - 1)))) := by
  have e1 : 0 < (μ.1 49 8).toInt → μ.1 49 8 - Int32.ofInt 1 = Int32.ofInt ((μ.1 49 8).toInt - 1) := fun q => ti_ext (by have := ti_hi (μ.1 49 8); simp (disch := (first | omega | (simp (disch := omega) only [ti_ofInt, ti_addc, ti_subc, ti_mulc, ti_cmul, ti_divc, ti_remc, ti_zero, ti_add, ti_sub, ti_neg, if_lt_ti, if_gt_ti, bP_e0, Classical.not_not, tl_i2l]; omega))) only [ti_ofInt, ti_addc, ti_subc, ti_mulc, ti_cmul, ti_divc, ti_remc, ti_zero, ti_add, ti_sub, ti_neg, if_lt_ti, if_gt_ti, bP_e0, Classical.not_not, tl_i2l])
  refine kOk.of rfl (Nat.le_of_ble_eq_true rfl) (fun J C => ?_)
  have C : kR cX0_dropFact RX0 1 rmX0_dropFact shK 68 (some .int) _ J := C
  refine (r_aload_n C dX0_dropFact_0 rfl rfl (r_getI C dX0_dropFact_1 fd_X0_42 nK_49 sK_49 rfl (r_if_ne C (tgt := 9) dX0_dropFact_4 rfl (fun c4 => (r_aload_n C dX0_dropFact_9 rfl rfl (r_dup C dX0_dropFact_10 rfl (r_getI C dX0_dropFact_11 fd_X0_42 nK_49 sK_49 rfl (r_iconst C dX0_dropFact_14 (r_isub C dX0_dropFact_15 (r_putI C dX0_dropFact_16 fw_X0_42 nK_49 sK_49 rfl (r_aload_n C dX0_dropFact_19 rfl rfl (r_getI C dX0_dropFact_20 fd_X0_42 nK_49 sK_49 rfl (r_iret C dX0_dropFact_23 ?_)))))))))) (fun c4 => (r_iconst C dX0_dropFact_7 (r_iret C dX0_dropFact_8 ?_))))))
  · have e2 := e1 (by omega)
    simp (disch := decide) only [up_same, up_neo, up_nek, up_2]
    exact Or.inr ⟨by omega, e2, by rw [← e2]⟩
  · exact Or.inl ⟨c4, rfl, rfl⟩
theorem ok_X0_boundByClocks {μ : kMem} (h : kClOk μ) : kOk yX0_boundByClocks cX0_boundByClocks 3 (none) rmX0_boundByClocks shK 68 [.ref 49] μ (kN fun μ' => kmOnly μ μ' ∧ ∀ a b, a < 6 → b < 6 → km μ' a b = if a = b then 0 else (μ.1 51 b).toInt - (μ.1 50 a).toInt) := by
  refine kOk.of rfl (Nat.le_of_ble_eq_true rfl) (fun J C => ?_)
  have C : kR cX0_boundByClocks RX0 3 rmX0_boundByClocks shK 68 (none) _ J := C
  have inner : ∀ (k i j : Nat) (v w : Int32) (μ' : kMem), j + k = 6 → i < 6 → v.toInt = i → w.toInt = j → kmOnly μ μ' → (∀ a b, a < 6 → b < 6 → (a < i ∨ (a = i ∧ b < j)) → km μ' a b = if a = b then 0 else (μ.1 51 b).toInt - (μ.1 50 a).toInt) → (∀ (w' : Option Value) (μ2 : kMem), kmOnly μ μ2 → (∀ a b, a < 6 → b < 6 → (a < i + 1) → km μ2 a b = if a = b then 0 else (μ.1 51 b).toInt - (μ.1 50 a).toInt) → J 52 [some (.ref 49), some (.int v), w'] [] μ2) → J 10 [some (.ref 49), some (.int v), some (.int w)] [] μ' := by
    intro k
    induction k using Nat.strongRecOn with
    | ind k ih =>
      intro i j v w μ' hk hi hv hw hO hI next
      have ev : v.toInt.toNat = i := by omega
      have ew : w.toInt.toNat = j := by omega
      have ib : 0 ≤ v.toInt ∧ v.toInt < 6 := by omega
      have hg := h.2.2 j
      have hl := h.2.2 i
      have step : ∀ x : Int32, j < 6 → x.toInt = (if i = j then 0 else (μ.1 51 j).toInt - (μ.1 50 i).toInt) → J 10 [some (.ref 49), some (.int v), some (.int (w + Int32.ofInt 1))] [] (up μ' (58 + v.toInt.toNat) w.toInt.toNat x) := by
        intro x hj hx
        rw [ev, ew]
        refine ih (k - 1) (by omega) i (j + 1) _ _ _ (by omega) hi hv (by simp (disch := (first | omega | (simp (disch := omega) only [ti_ofInt, ti_addc, ti_subc, ti_mulc, ti_cmul, ti_divc, ti_remc, ti_zero, ti_add, ti_sub, ti_neg, if_lt_ti, if_gt_ti, bP_e0, Classical.not_not, tl_i2l]; omega))) only [ti_ofInt, ti_addc, ti_subc, ti_mulc, ti_cmul, ti_divc, ti_remc, ti_zero, ti_add, ti_sub, ti_neg, if_lt_ti, if_gt_ti, bP_e0, Classical.not_not, tl_i2l]; omega) (hO.up hi) ?_ next
        intro a b ha hb hab
        rw [km_up]
        show (if a = i ∧ b = j then x.toInt else km μ' a b) = _
        by_cases e : a = i ∧ b = j
        · rw [if_pos e, hx, e.1, e.2]
        · rw [if_neg e]
          exact hI a b ha hb (by omega)
      refine (r_iload_n C dX0_boundByClocks_10 rfl rfl (r_bipush C dX0_boundByClocks_11 (by decide +kernel) (r_icmp_ge C (tgt := 52) dX0_boundByClocks_13 rfl (fun c13 => ?_) (fun c13 => (r_aload_n C dX0_boundByClocks_16 rfl rfl (r_getR C dX0_boundByClocks_17 fd_X0_35 nK_49 sK_49 rfl (r_iload_n C dX0_boundByClocks_20 rfl rfl (r_aald C dX0_boundByClocks_21 nK_57 (by decide) sK_57 ?_ rfl (r_iload_n C dX0_boundByClocks_22 rfl rfl (r_iload_n C dX0_boundByClocks_23 rfl rfl (r_iload_n C dX0_boundByClocks_24 rfl rfl (r_icmp_ne C (tgt := 32) dX0_boundByClocks_25 rfl (fun c25 => (r_aload_n C dX0_boundByClocks_32 rfl rfl (r_getR C dX0_boundByClocks_33 fd_X0_15 nK_49 sK_49 rfl (r_iload_n C dX0_boundByClocks_36 rfl rfl (r_iald C dX0_boundByClocks_37 nK_51 sK_51 ?_ (r_aload_n C dX0_boundByClocks_38 rfl rfl (r_getR C dX0_boundByClocks_39 fd_X0_9 nK_49 sK_49 rfl (r_iload_n C dX0_boundByClocks_42 rfl rfl (r_iald C dX0_boundByClocks_43 nK_50 sK_50 ?_ (r_isub C dX0_boundByClocks_44 (r_iast C (n := 6) (f := fun k => k) dX0_boundByClocks_45 ?_ ?_ ?_ (r_iinc C dX0_boundByClocks_46 rfl (by decide) (r_goto C (tgt := 10) dX0_boundByClocks_49 rfl ?_))))))))))))) (fun c25 => (r_iconst C dX0_boundByClocks_28 (r_goto C (tgt := 45) dX0_boundByClocks_29 rfl (r_iast C (n := 6) (f := fun k => k) dX0_boundByClocks_45 ?_ ?_ ?_ (r_iinc C dX0_boundByClocks_46 rfl (by decide) (r_goto C (tgt := 10) dX0_boundByClocks_49 rfl ?_))))))))))))))))))
      · simp (disch := (first | omega | (simp (disch := omega) only [ti_ofInt, ti_addc, ti_subc, ti_mulc, ti_cmul, ti_divc, ti_remc, ti_zero, ti_add, ti_sub, ti_neg, if_lt_ti, if_gt_ti, bP_e0, Classical.not_not, tl_i2l]; omega))) only [ti_ofInt, ti_addc, ti_subc, ti_mulc, ti_cmul, ti_divc, ti_remc, ti_zero, ti_add, ti_sub, ti_neg, if_lt_ti, if_gt_ti, bP_e0, Classical.not_not, tl_i2l] at c13
        refine next _ _ hO ?_
        intro a b ha hb hab
        exact hI a b ha hb (by omega)
      · omega
      · simp (disch := (first | omega | (simp (disch := omega) only [ti_ofInt, ti_addc, ti_subc, ti_mulc, ti_cmul, ti_divc, ti_remc, ti_zero, ti_add, ti_sub, ti_neg, if_lt_ti, if_gt_ti, bP_e0, Classical.not_not, tl_i2l]; omega))) only [ti_ofInt, ti_addc, ti_subc, ti_mulc, ti_cmul, ti_divc, ti_remc, ti_zero, ti_add, ti_sub, ti_neg, if_lt_ti, if_gt_ti, bP_e0, Classical.not_not, tl_i2l] at c13
        omega
      · omega
      · omega
      · rw [ev]; exact shK_row hi
      · simp (disch := (first | omega | (simp (disch := omega) only [ti_ofInt, ti_addc, ti_subc, ti_mulc, ti_cmul, ti_divc, ti_remc, ti_zero, ti_add, ti_sub, ti_neg, if_lt_ti, if_gt_ti, bP_e0, Classical.not_not, tl_i2l]; omega))) only [ti_ofInt, ti_addc, ti_subc, ti_mulc, ti_cmul, ti_divc, ti_remc, ti_zero, ti_add, ti_sub, ti_neg, if_lt_ti, if_gt_ti, bP_e0, Classical.not_not, tl_i2l] at c13
        omega
      · simp (disch := (first | omega | (simp (disch := omega) only [ti_ofInt, ti_addc, ti_subc, ti_mulc, ti_cmul, ti_divc, ti_remc, ti_zero, ti_add, ti_sub, ti_neg, if_lt_ti, if_gt_ti, bP_e0, Classical.not_not, tl_i2l]; omega))) only [ti_ofInt, ti_addc, ti_subc, ti_mulc, ti_cmul, ti_divc, ti_remc, ti_zero, ti_add, ti_sub, ti_neg, if_lt_ti, if_gt_ti, bP_e0, Classical.not_not, tl_i2l] at c13
        rw [hO 51 _ (by omega), hO 50 _ (by omega)]
        refine step _ (by omega) ?_
        rw [if_neg (by omega), ew, ev]
        simp (disch := (first | omega | (simp (disch := omega) only [ti_ofInt, ti_addc, ti_subc, ti_mulc, ti_cmul, ti_divc, ti_remc, ti_zero, ti_add, ti_sub, ti_neg, if_lt_ti, if_gt_ti, bP_e0, Classical.not_not, tl_i2l]; omega))) only [ti_ofInt, ti_addc, ti_subc, ti_mulc, ti_cmul, ti_divc, ti_remc, ti_zero, ti_add, ti_sub, ti_neg, if_lt_ti, if_gt_ti, bP_e0, Classical.not_not, tl_i2l]
      · omega
      · rw [ev]; exact shK_row hi
      · simp (disch := (first | omega | (simp (disch := omega) only [ti_ofInt, ti_addc, ti_subc, ti_mulc, ti_cmul, ti_divc, ti_remc, ti_zero, ti_add, ti_sub, ti_neg, if_lt_ti, if_gt_ti, bP_e0, Classical.not_not, tl_i2l]; omega))) only [ti_ofInt, ti_addc, ti_subc, ti_mulc, ti_cmul, ti_divc, ti_remc, ti_zero, ti_add, ti_sub, ti_neg, if_lt_ti, if_gt_ti, bP_e0, Classical.not_not, tl_i2l] at c13
        omega
      · simp (disch := (first | omega | (simp (disch := omega) only [ti_ofInt, ti_addc, ti_subc, ti_mulc, ti_cmul, ti_divc, ti_remc, ti_zero, ti_add, ti_sub, ti_neg, if_lt_ti, if_gt_ti, bP_e0, Classical.not_not, tl_i2l]; omega))) only [ti_ofInt, ti_addc, ti_subc, ti_mulc, ti_cmul, ti_divc, ti_remc, ti_zero, ti_add, ti_sub, ti_neg, if_lt_ti, if_gt_ti, bP_e0, Classical.not_not, tl_i2l] at c13
        refine step _ (by omega) ?_
        rw [if_pos (by omega)]
        simp (disch := (first | omega | (simp (disch := omega) only [ti_ofInt, ti_addc, ti_subc, ti_mulc, ti_cmul, ti_divc, ti_remc, ti_zero, ti_add, ti_sub, ti_neg, if_lt_ti, if_gt_ti, bP_e0, Classical.not_not, tl_i2l]; omega))) only [ti_ofInt, ti_addc, ti_subc, ti_mulc, ti_cmul, ti_divc, ti_remc, ti_zero, ti_add, ti_sub, ti_neg, if_lt_ti, if_gt_ti, bP_e0, Classical.not_not, tl_i2l]
  have outer : ∀ (k i : Nat) (v : Int32) (z : Option Value) (μ' : kMem), i + k = 6 → v.toInt = i → kmOnly μ μ' → (∀ a b, a < 6 → b < 6 → a < i → km μ' a b = if a = b then 0 else (μ.1 51 b).toInt - (μ.1 50 a).toInt) → J 2 [some (.ref 49), some (.int v), z] [] μ' := by
    intro k
    induction k using Nat.strongRecOn with
    | ind k ih =>
      intro i v z μ' hk hv hO hI
      refine (r_iload_n C dX0_boundByClocks_2 rfl rfl (r_bipush C dX0_boundByClocks_3 (by decide +kernel) (r_icmp_ge C (tgt := 58) dX0_boundByClocks_5 rfl (fun c5 => (r_ret C dX0_boundByClocks_58 ?_)) (fun c5 => (r_iconst C dX0_boundByClocks_8 (r_istore_n C dX0_boundByClocks_9 rfl (by decide) ?_))))))
      · simp (disch := (first | omega | (simp (disch := omega) only [ti_ofInt, ti_addc, ti_subc, ti_mulc, ti_cmul, ti_divc, ti_remc, ti_zero, ti_add, ti_sub, ti_neg, if_lt_ti, if_gt_ti, bP_e0, Classical.not_not, tl_i2l]; omega))) only [ti_ofInt, ti_addc, ti_subc, ti_mulc, ti_cmul, ti_divc, ti_remc, ti_zero, ti_add, ti_sub, ti_neg, if_lt_ti, if_gt_ti, bP_e0, Classical.not_not, tl_i2l] at c5
        refine ⟨hO, ?_⟩
        intro a b ha hb
        exact hI a b ha hb (by omega)
      · simp (disch := (first | omega | (simp (disch := omega) only [ti_ofInt, ti_addc, ti_subc, ti_mulc, ti_cmul, ti_divc, ti_remc, ti_zero, ti_add, ti_sub, ti_neg, if_lt_ti, if_gt_ti, bP_e0, Classical.not_not, tl_i2l]; omega))) only [ti_ofInt, ti_addc, ti_subc, ti_mulc, ti_cmul, ti_divc, ti_remc, ti_zero, ti_add, ti_sub, ti_neg, if_lt_ti, if_gt_ti, bP_e0, Classical.not_not, tl_i2l] at c5
        refine inner 6 i 0 _ _ _ rfl (by omega) hv (by simp (disch := (first | omega | (simp (disch := omega) only [ti_ofInt, ti_addc, ti_subc, ti_mulc, ti_cmul, ti_divc, ti_remc, ti_zero, ti_add, ti_sub, ti_neg, if_lt_ti, if_gt_ti, bP_e0, Classical.not_not, tl_i2l]; omega))) only [ti_ofInt, ti_addc, ti_subc, ti_mulc, ti_cmul, ti_divc, ti_remc, ti_zero, ti_add, ti_sub, ti_neg, if_lt_ti, if_gt_ti, bP_e0, Classical.not_not, tl_i2l]; omega) hO (fun a b ha hb q => hI a b ha hb (by omega)) ?_
        intro w' μ2 hO2 hI2
        refine (r_iinc C dX0_boundByClocks_52 rfl (by decide) (r_goto C (tgt := 2) dX0_boundByClocks_55 rfl ?_))
        exact ih (k - 1) (by omega) (i + 1) _ _ _ (by omega) (by simp (disch := (first | omega | (simp (disch := omega) only [ti_ofInt, ti_addc, ti_subc, ti_mulc, ti_cmul, ti_divc, ti_remc, ti_zero, ti_add, ti_sub, ti_neg, if_lt_ti, if_gt_ti, bP_e0, Classical.not_not, tl_i2l]; omega))) only [ti_ofInt, ti_addc, ti_subc, ti_mulc, ti_cmul, ti_divc, ti_remc, ti_zero, ti_add, ti_sub, ti_neg, if_lt_ti, if_gt_ti, bP_e0, Classical.not_not, tl_i2l]; omega) hO2 hI2
  refine (r_iconst C dX0_boundByClocks_0 (r_istore_n C dX0_boundByClocks_1 rfl (by decide) ?_))
  exact outer 6 0 _ _ _ rfl (by simp (disch := (first | omega | (simp (disch := omega) only [ti_ofInt, ti_addc, ti_subc, ti_mulc, ti_cmul, ti_divc, ti_remc, ti_zero, ti_add, ti_sub, ti_neg, if_lt_ti, if_gt_ti, bP_e0, Classical.not_not, tl_i2l]; omega))) only [ti_ofInt, ti_addc, ti_subc, ti_mulc, ti_cmul, ti_divc, ti_remc, ti_zero, ti_add, ti_sub, ti_neg, if_lt_ti, if_gt_ti, bP_e0, Classical.not_not, tl_i2l]; omega) kmOnly.rf (fun a b _ _ q => by omega)
def kfo (μ : kMem) : Nat → Nat := fun f => (μ.1 52 (μ.1 55 f).toInt.toNat).toInt.toNat
def kft (μ : kMem) : Nat → Nat := fun f => (μ.1 52 (μ.1 54 f).toInt.toNat).toInt.toNat
def kfw (μ : kMem) : Nat → Int := fun f => (μ.1 53 (μ.1 54 f).toInt.toNat).toInt - (μ.1 53 (μ.1 55 f).toInt.toNat).toInt - (μ.1 56 f).toInt
theorem ok_X0_boundByFacts {μ : kMem} (h : kClOk μ) : kOk yX0_boundByFacts cX0_boundByFacts 7 (none) rmX0_boundByFacts shK 68 [.ref 49] μ (kN fun μ' => kmOnly μ μ' ∧ ∀ a b, a < 6 → b < 6 → km μ' a b = bfm (kfo μ) (kft μ) (kfw μ) (km μ) (μ.1 49 8).toInt.toNat a b) := by
  refine kOk.of rfl (Nat.le_of_ble_eq_true rfl) (fun J C => ?_)
  have C : kR cX0_boundByFacts RX0 7 rmX0_boundByFacts shK 68 (none) _ J := C
  have loop : ∀ (k f : Nat) (v : Int32) (z1 z2 z3 z4 z5 : Option Value) (μ' : kMem), (f : Int) + k = (μ.1 49 8).toInt → v.toInt = f → kmOnly μ μ' → (∀ a b, a < 6 → b < 6 → km μ' a b = bfm (kfo μ) (kft μ) (kfw μ) (km μ) f a b) → J 2 [some (.ref 49), some (.int v), z1, z2, z3, z4, z5] [] μ' := by
    intro k
    induction k using Nat.strongRecOn with
    | ind k ih =>
      intro f v z1 z2 z3 z4 z5 μ' hk hv hO hI
      have ev : v.toInt.toNat = f := by omega
      have h1 := h.2.2 f
      have h2 := h.2.2 (μ.1 54 f).toInt.toNat
      have h3 := h.2.2 (μ.1 55 f).toInt.toNat
      have h8 : (μ'.1 49 8).toInt = (μ.1 49 8).toInt := by rw [hO 49 8 (by omega)]
      have h11 := h.2.1
      have r54 := hO 54 f (by omega)
      have r55 := hO 55 f (by omega)
      have r56 := hO 56 f (by omega)
      have r53a := hO 53 (μ.1 54 f).toInt.toNat (by omega)
      have r53b := hO 53 (μ.1 55 f).toInt.toNat (by omega)
      have r52a := hO 52 (μ.1 54 f).toInt.toNat (by omega)
      have r52b := hO 52 (μ.1 55 f).toInt.toNat (by omega)
      refine (r_iload_n C dX0_boundByFacts_2 rfl rfl (r_aload_n C dX0_boundByFacts_3 rfl rfl (r_getI C dX0_boundByFacts_4 fd_X0_42 nK_49 sK_49 rfl (r_icmp_ge C (tgt := 93) dX0_boundByFacts_7 rfl (fun c7 => (r_ret C dX0_boundByFacts_93 ?_)) (fun c7 => (r_aload_n C dX0_boundByFacts_10 rfl rfl (r_getR C dX0_boundByFacts_11 fd_X0_24 nK_49 sK_49 rfl (r_iload_n C dX0_boundByFacts_14 rfl rfl (r_iald C dX0_boundByFacts_15 nK_54 sK_54 ?_ (r_istore_n C dX0_boundByFacts_16 rfl (by decide) (r_aload_n C dX0_boundByFacts_17 rfl rfl (r_getR C dX0_boundByFacts_18 fd_X0_27 nK_49 sK_49 rfl (r_iload_n C dX0_boundByFacts_21 rfl rfl (r_iald C dX0_boundByFacts_22 nK_55 sK_55 ?_ (r_istore_n C dX0_boundByFacts_23 rfl (by decide) (r_aload_n C dX0_boundByFacts_24 rfl rfl (r_getR C dX0_boundByFacts_25 fd_X0_21 nK_49 sK_49 rfl (r_iload_n C dX0_boundByFacts_28 rfl rfl (r_iald C dX0_boundByFacts_29 nK_53 sK_53 ?_ (r_aload_n C dX0_boundByFacts_30 rfl rfl (r_getR C dX0_boundByFacts_31 fd_X0_21 nK_49 sK_49 rfl (r_iload_n C dX0_boundByFacts_34 rfl rfl (r_iald C dX0_boundByFacts_35 nK_53 sK_53 ?_ (r_isub C dX0_boundByFacts_36 (r_aload_n C dX0_boundByFacts_37 rfl rfl (r_getR C dX0_boundByFacts_38 fd_X0_30 nK_49 sK_49 rfl (r_iload_n C dX0_boundByFacts_41 rfl rfl (r_iald C dX0_boundByFacts_42 nK_56 sK_56 ?_ (r_isub C dX0_boundByFacts_43 (r_istore C dX0_boundByFacts_44 (by decide) (r_aload_n C dX0_boundByFacts_46 rfl rfl (r_getR C dX0_boundByFacts_47 fd_X0_18 nK_49 sK_49 rfl (r_iload_n C dX0_boundByFacts_50 rfl rfl (r_iald C dX0_boundByFacts_51 nK_52 sK_52 ?_ (r_istore C dX0_boundByFacts_52 (by decide) (r_aload_n C dX0_boundByFacts_54 rfl rfl (r_getR C dX0_boundByFacts_55 fd_X0_18 nK_49 sK_49 rfl (r_iload_n C dX0_boundByFacts_58 rfl rfl (r_iald C dX0_boundByFacts_59 nK_52 sK_52 ?_ (r_istore C dX0_boundByFacts_60 (by decide) (r_aload_n C dX0_boundByFacts_62 rfl rfl (r_getR C dX0_boundByFacts_63 fd_X0_35 nK_49 sK_49 rfl (r_iload C dX0_boundByFacts_66 rfl (r_aald C dX0_boundByFacts_68 nK_57 (by decide) sK_57 ?_ rfl (r_iload C dX0_boundByFacts_69 rfl (r_aload_n C dX0_boundByFacts_71 rfl rfl (r_getR C dX0_boundByFacts_72 fd_X0_35 nK_49 sK_49 rfl (r_iload C dX0_boundByFacts_75 rfl (r_aald C dX0_boundByFacts_77 nK_57 (by decide) sK_57 ?_ rfl (r_iload C dX0_boundByFacts_78 rfl (r_iald C (n := 6) (f := fun k => k) dX0_boundByFacts_80 ?_ ?_ ?_ (r_iload C dX0_boundByFacts_81 rfl (r_min C mh_X0_63 dX0_boundByFacts_83 ⟨rfl, rfl⟩ (Nat.le_of_ble_eq_true rfl) (r_iast C (n := 6) (f := fun k => k) dX0_boundByFacts_86 ?_ ?_ ?_ (r_iinc C dX0_boundByFacts_87 rfl (by decide) (r_goto C (tgt := 2) dX0_boundByFacts_90 rfl ?_))))))))))))))))))))))))))))))))))))))))))))))))))))))))
      · refine ⟨hO, ?_⟩
        intro a b ha hb
        rw [hI a b ha hb, show f = (μ.1 49 8).toInt.toNat by rw [h8] at c7; omega]
      · omega
      · omega
      · simp only [ev, r54]; omega
      · simp only [ev, r55]; omega
      · omega
      · simp only [ev, r55]; omega
      · simp only [ev, r54]; omega
      · simp only [ev, r55, r52b]; omega
      · simp only [ev, r55, r52b]; omega
      · simp only [ev, r55, r52b]; omega
      · simp only [ev, r55, r52b]; exact shK_row (by omega)
      · simp only [ev, r54, r52a]; omega
      · simp only [ev, r55, r52b]; omega
      · simp only [ev, r55, r52b]; exact shK_row (by omega)
      · simp only [ev, r54, r52a]; omega
      · rw [h8] at c7
        simp only [ev, r54, r55, r56, r53a, r53b, r52a, r52b]
        refine ih (k - 1) (by omega) (f + 1) _ _ _ _ _ _ _ (by omega) (by simp (disch := (first | omega | (simp (disch := omega) only [ti_ofInt, ti_addc, ti_subc, ti_mulc, ti_cmul, ti_divc, ti_remc, ti_zero, ti_add, ti_sub, ti_neg, if_lt_ti, if_gt_ti, bP_e0, Classical.not_not, tl_i2l]; omega))) only [ti_ofInt, ti_addc, ti_subc, ti_mulc, ti_cmul, ti_divc, ti_remc, ti_zero, ti_add, ti_sub, ti_neg, if_lt_ti, if_gt_ti, bP_e0, Classical.not_not, tl_i2l]; omega) (hO.up (by omega)) ?_
        intro a b ha hb
        rw [km_up]
        have e := hI a b ha hb
        have ew : (μ.1 53 (μ.1 54 f).toInt.toNat - μ.1 53 (μ.1 55 f).toInt.toNat - μ.1 56 f).toInt = kfw μ f := by
          unfold kfw
          simp (disch := (first | omega | (simp (disch := (first | omega | (simp (disch := (first | omega | (simp (disch := omega) only [ti_ofInt, ti_addc, ti_subc, ti_mulc, ti_cmul, ti_divc, ti_remc, ti_zero, ti_add, ti_sub, ti_neg, if_lt_ti, if_gt_ti, bP_e0, Classical.not_not, tl_i2l]; omega))) only [ti_ofInt, ti_addc, ti_subc, ti_mulc, ti_cmul, ti_divc, ti_remc, ti_zero, ti_add, ti_sub, ti_neg, if_lt_ti, if_gt_ti, bP_e0, Classical.not_not, tl_i2l]; omega))) only [ti_ofInt, ti_addc, ti_subc, ti_mulc, ti_cmul, ti_divc, ti_remc, ti_zero, ti_add, ti_sub, ti_neg, if_lt_ti, if_gt_ti, bP_e0, Classical.not_not, tl_i2l]; omega))) only [ti_ofInt, ti_addc, ti_subc, ti_mulc, ti_cmul, ti_divc, ti_remc, ti_zero, ti_add, ti_sub, ti_neg, if_lt_ti, if_gt_ti, bP_e0, Classical.not_not, tl_i2l]
        show (if a = kfo μ f ∧ b = kft μ f then _ else km μ' a b) = if a = kfo μ f ∧ b = kft μ f then min (bfm (kfo μ) (kft μ) (kfw μ) (km μ) f a b) (kfw μ f) else bfm (kfo μ) (kft μ) (kfw μ) (km μ) f a b
        by_cases q : a = kfo μ f ∧ b = kft μ f
        · rw [if_pos q, if_pos q, if_lt_ti, ew, ← e]
          obtain ⟨rfl, rfl⟩ := q
          rfl
        · rw [if_neg q, if_neg q, e]
  refine (r_iconst C dX0_boundByFacts_0 (r_istore_n C dX0_boundByFacts_1 rfl (by decide) ?_))
  exact loop (μ.1 49 8).toInt.toNat 0 _ _ _ _ _ _ _ (by have := h.2.1; omega) (by simp (disch := (first | omega | (simp (disch := omega) only [ti_ofInt, ti_addc, ti_subc, ti_mulc, ti_cmul, ti_divc, ti_remc, ti_zero, ti_add, ti_sub, ti_neg, if_lt_ti, if_gt_ti, bP_e0, Classical.not_not, tl_i2l]; omega))) only [ti_ofInt, ti_addc, ti_subc, ti_mulc, ti_cmul, ti_divc, ti_remc, ti_zero, ti_add, ti_sub, ti_neg, if_lt_ti, if_gt_ti, bP_e0, Classical.not_not, tl_i2l]; omega) kmOnly.rf (fun a b _ _ => rfl)
theorem ok_X0_tightenThrough {t : Int32} {μ : kMem} (h : 0 ≤ t.toInt ∧ t.toInt < 6 ∧ ∀ a b, a < 6 → b < 6 → -60000000 ≤ km μ a b ∧ km μ a b ≤ 3000) : kOk yX0_tightenThrough cX0_tightenThrough 5 (none) rmX0_tightenThrough shK 68 [.ref 49, .int t] μ (kN fun μ' => kmOnly μ μ' ∧ ∀ a b, a < 6 → b < 6 → km μ' a b = tw 6 t.toInt.toNat (km μ) 36 a b) := by
  refine kOk.of rfl (Nat.le_of_ble_eq_true rfl) (fun J C => ?_)
  have C : kR cX0_tightenThrough RX0 5 rmX0_tightenThrough shK 68 (none) _ J := C
  have bd : ∀ (p a b : Nat), a < 6 → b < 6 → -360000000 ≤ tw 6 t.toInt.toNat (km μ) p a b ∧ tw 6 t.toInt.toNat (km μ) p a b ≤ 3000 := by
    intro p a b ha hb
    have h1 := (tw_low (n := 6) (k := t.toInt.toNat) (m := km μ) (B := 60000000) (by omega) (by omega) (fun a b ha hb => (h.2.2 a b ha hb).1) p a b ha hb).2.1
    have h2 := tw_le (k := t.toInt.toNat) (m := km μ) (a := a) hb p
    have h3 := (h.2.2 a b ha hb).2
    omega
  have inner : ∀ (k i j : Nat) (v w : Int32) (z : Option Value) (μ' : kMem), j + k = 6 → i < 6 → v.toInt = i → w.toInt = j → kmOnly μ μ' → (∀ a b, a < 6 → b < 6 → km μ' a b = tw 6 t.toInt.toNat (km μ) (i * 6 + j) a b) → (∀ (w' z' : Option Value) (μ2 : kMem), kmOnly μ μ2 → (∀ a b, a < 6 → b < 6 → km μ2 a b = tw 6 t.toInt.toNat (km μ) (i * 6 + 6) a b) → J 62 [some (.ref 49), some (.int t), some (.int v), w', z'] [] μ2) → J 10 [some (.ref 49), some (.int t), some (.int v), some (.int w), z] [] μ' := by
    intro k
    induction k using Nat.strongRecOn with
    | ind k ih =>
      intro i j v w z μ' hk hi hv hw hO hI next
      have ev : v.toInt.toNat = i := by omega
      have ew : w.toInt.toNat = j := by omega
      have bk := bd (i * 6 + j) i t.toInt.toNat hi (by omega)
      have it : ((t.toInt.toNat : Nat) : Int) = t.toInt := by omega
      refine (r_iload_n C dX0_tightenThrough_10 rfl rfl (r_bipush C dX0_tightenThrough_11 (by decide +kernel) (r_icmp_ge C (tgt := 62) dX0_tightenThrough_13 rfl (fun c13 => ?_) (fun c13 => (r_aload_n C dX0_tightenThrough_16 rfl rfl (r_getR C dX0_tightenThrough_17 fd_X0_35 nK_49 sK_49 rfl (r_iload_n C dX0_tightenThrough_20 rfl rfl (r_aald C dX0_tightenThrough_21 nK_57 (by decide) sK_57 ?_ rfl (r_iload_n C dX0_tightenThrough_22 rfl rfl (r_iald C (n := 6) (f := fun k => k) dX0_tightenThrough_23 ?_ ?_ ?_ (r_aload_n C dX0_tightenThrough_24 rfl rfl (r_getR C dX0_tightenThrough_25 fd_X0_35 nK_49 sK_49 rfl (r_iload_n C dX0_tightenThrough_28 rfl rfl (r_aald C dX0_tightenThrough_29 nK_57 (by decide) sK_57 ?_ rfl (r_iload_n C dX0_tightenThrough_30 rfl rfl (r_iald C (n := 6) (f := fun k => k) dX0_tightenThrough_31 ?_ ?_ ?_ (r_iadd C dX0_tightenThrough_32 (r_istore C dX0_tightenThrough_33 (by decide) (r_aload_n C dX0_tightenThrough_35 rfl rfl (r_getR C dX0_tightenThrough_36 fd_X0_35 nK_49 sK_49 rfl (r_iload_n C dX0_tightenThrough_39 rfl rfl (r_aald C dX0_tightenThrough_40 nK_57 (by decide) sK_57 ?_ rfl (r_iload_n C dX0_tightenThrough_41 rfl rfl (r_aload_n C dX0_tightenThrough_42 rfl rfl (r_getR C dX0_tightenThrough_43 fd_X0_35 nK_49 sK_49 rfl (r_iload_n C dX0_tightenThrough_46 rfl rfl (r_aald C dX0_tightenThrough_47 nK_57 (by decide) sK_57 ?_ rfl (r_iload_n C dX0_tightenThrough_48 rfl rfl (r_iald C (n := 6) (f := fun k => k) dX0_tightenThrough_49 ?_ ?_ ?_ (r_iload C dX0_tightenThrough_50 rfl (r_min C mh_X0_63 dX0_tightenThrough_52 ⟨rfl, rfl⟩ (Nat.le_of_ble_eq_true rfl) (r_iast C (n := 6) (f := fun k => k) dX0_tightenThrough_55 ?_ ?_ ?_ (r_iinc C dX0_tightenThrough_56 rfl (by decide) (r_goto C (tgt := 10) dX0_tightenThrough_59 rfl ?_))))))))))))))))))))))))))))))))))
      · simp (disch := (first | omega | (simp (disch := omega) only [ti_ofInt, ti_addc, ti_subc, ti_mulc, ti_cmul, ti_divc, ti_remc, ti_zero, ti_add, ti_sub, ti_neg, if_lt_ti, if_gt_ti, bP_e0, Classical.not_not, tl_i2l]; omega))) only [ti_ofInt, ti_addc, ti_subc, ti_mulc, ti_cmul, ti_divc, ti_remc, ti_zero, ti_add, ti_sub, ti_neg, if_lt_ti, if_gt_ti, bP_e0, Classical.not_not, tl_i2l] at c13
        obtain rfl : j = 6 := by omega
        exact next _ _ _ hO hI
      · omega
      · omega
      · rw [ev]; exact shK_row hi
      · omega
      · omega
      · omega
      · exact shK_row (by omega)
      · simp (disch := (first | omega | (simp (disch := omega) only [ti_ofInt, ti_addc, ti_subc, ti_mulc, ti_cmul, ti_divc, ti_remc, ti_zero, ti_add, ti_sub, ti_neg, if_lt_ti, if_gt_ti, bP_e0, Classical.not_not, tl_i2l]; omega))) only [ti_ofInt, ti_addc, ti_subc, ti_mulc, ti_cmul, ti_divc, ti_remc, ti_zero, ti_add, ti_sub, ti_neg, if_lt_ti, if_gt_ti, bP_e0, Classical.not_not, tl_i2l] at c13
        omega
      · omega
      · omega
      · omega
      · rw [ev]; exact shK_row hi
      · simp (disch := (first | omega | (simp (disch := omega) only [ti_ofInt, ti_addc, ti_subc, ti_mulc, ti_cmul, ti_divc, ti_remc, ti_zero, ti_add, ti_sub, ti_neg, if_lt_ti, if_gt_ti, bP_e0, Classical.not_not, tl_i2l]; omega))) only [ti_ofInt, ti_addc, ti_subc, ti_mulc, ti_cmul, ti_divc, ti_remc, ti_zero, ti_add, ti_sub, ti_neg, if_lt_ti, if_gt_ti, bP_e0, Classical.not_not, tl_i2l] at c13
        omega
      · omega
      · rw [ev]; exact shK_row hi
      · simp (disch := (first | omega | (simp (disch := omega) only [ti_ofInt, ti_addc, ti_subc, ti_mulc, ti_cmul, ti_divc, ti_remc, ti_zero, ti_add, ti_sub, ti_neg, if_lt_ti, if_gt_ti, bP_e0, Classical.not_not, tl_i2l]; omega))) only [ti_ofInt, ti_addc, ti_subc, ti_mulc, ti_cmul, ti_divc, ti_remc, ti_zero, ti_add, ti_sub, ti_neg, if_lt_ti, if_gt_ti, bP_e0, Classical.not_not, tl_i2l] at c13
        omega
      · simp (disch := (first | omega | (simp (disch := omega) only [ti_ofInt, ti_addc, ti_subc, ti_mulc, ti_cmul, ti_divc, ti_remc, ti_zero, ti_add, ti_sub, ti_neg, if_lt_ti, if_gt_ti, bP_e0, Classical.not_not, tl_i2l]; omega))) only [ti_ofInt, ti_addc, ti_subc, ti_mulc, ti_cmul, ti_divc, ti_remc, ti_zero, ti_add, ti_sub, ti_neg, if_lt_ti, if_gt_ti, bP_e0, Classical.not_not, tl_i2l] at c13
        rw [ev, ew]
        have hj : j < 6 := by omega
        have e1 : (μ'.1 (58 + i) t.toInt.toNat).toInt = _ := hI i t.toInt.toNat hi (by omega)
        have e2 : (μ'.1 (58 + t.toInt.toNat) j).toInt = _ := hI t.toInt.toNat j (by omega) hj
        have b1 := bd (i * 6 + j) i t.toInt.toNat hi (by omega)
        have b2 := bd (i * 6 + j) t.toInt.toNat j (by omega) hj
        refine ih (k - 1) (by omega) i (j + 1) _ _ _ _ (by omega) hi hv (by simp (disch := (first | omega | (simp (disch := omega) only [ti_ofInt, ti_addc, ti_subc, ti_mulc, ti_cmul, ti_divc, ti_remc, ti_zero, ti_add, ti_sub, ti_neg, if_lt_ti, if_gt_ti, bP_e0, Classical.not_not, tl_i2l]; omega))) only [ti_ofInt, ti_addc, ti_subc, ti_mulc, ti_cmul, ti_divc, ti_remc, ti_zero, ti_add, ti_sub, ti_neg, if_lt_ti, if_gt_ti, bP_e0, Classical.not_not, tl_i2l]; omega) (hO.up hi) ?_ next
        intro a b ha hb
        rw [km_up, show i * 6 + (j + 1) = i * 6 + j + 1 by omega, tw_succ hb, ← hI a b ha hb]
        dsimp only
        by_cases q : a = i ∧ b = j
        · obtain ⟨rfl, rfl⟩ := q
          rw [if_pos (And.intro rfl rfl), if_pos rfl, if_lt_ti, ti_add (by rw [e1, e2]; omega), e1, e2]
          rfl
        · rw [if_neg q, if_neg (pos_ne hb hj q)]
  have outer : ∀ (k i : Nat) (v : Int32) (z1 z2 : Option Value) (μ' : kMem), i + k = 6 → v.toInt = i → kmOnly μ μ' → (∀ a b, a < 6 → b < 6 → km μ' a b = tw 6 t.toInt.toNat (km μ) (i * 6) a b) → J 2 [some (.ref 49), some (.int t), some (.int v), z1, z2] [] μ' := by
    intro k
    induction k using Nat.strongRecOn with
    | ind k ih =>
      intro i v z1 z2 μ' hk hv hO hI
      refine (r_iload_n C dX0_tightenThrough_2 rfl rfl (r_bipush C dX0_tightenThrough_3 (by decide +kernel) (r_icmp_ge C (tgt := 68) dX0_tightenThrough_5 rfl (fun c5 => (r_ret C dX0_tightenThrough_68 ?_)) (fun c5 => (r_iconst C dX0_tightenThrough_8 (r_istore_n C dX0_tightenThrough_9 rfl (by decide) ?_))))))
      · simp (disch := (first | omega | (simp (disch := omega) only [ti_ofInt, ti_addc, ti_subc, ti_mulc, ti_cmul, ti_divc, ti_remc, ti_zero, ti_add, ti_sub, ti_neg, if_lt_ti, if_gt_ti, bP_e0, Classical.not_not, tl_i2l]; omega))) only [ti_ofInt, ti_addc, ti_subc, ti_mulc, ti_cmul, ti_divc, ti_remc, ti_zero, ti_add, ti_sub, ti_neg, if_lt_ti, if_gt_ti, bP_e0, Classical.not_not, tl_i2l] at c5
        obtain rfl : i = 6 := by omega
        exact ⟨hO, hI⟩
      · simp (disch := (first | omega | (simp (disch := omega) only [ti_ofInt, ti_addc, ti_subc, ti_mulc, ti_cmul, ti_divc, ti_remc, ti_zero, ti_add, ti_sub, ti_neg, if_lt_ti, if_gt_ti, bP_e0, Classical.not_not, tl_i2l]; omega))) only [ti_ofInt, ti_addc, ti_subc, ti_mulc, ti_cmul, ti_divc, ti_remc, ti_zero, ti_add, ti_sub, ti_neg, if_lt_ti, if_gt_ti, bP_e0, Classical.not_not, tl_i2l] at c5
        refine inner 6 i 0 _ _ _ _ rfl (by omega) hv (by simp (disch := (first | omega | (simp (disch := omega) only [ti_ofInt, ti_addc, ti_subc, ti_mulc, ti_cmul, ti_divc, ti_remc, ti_zero, ti_add, ti_sub, ti_neg, if_lt_ti, if_gt_ti, bP_e0, Classical.not_not, tl_i2l]; omega))) only [ti_ofInt, ti_addc, ti_subc, ti_mulc, ti_cmul, ti_divc, ti_remc, ti_zero, ti_add, ti_sub, ti_neg, if_lt_ti, if_gt_ti, bP_e0, Classical.not_not, tl_i2l]; omega) hO hI ?_
        intro w' z' μ2 hO2 hI2
        refine (r_iinc C dX0_tightenThrough_62 rfl (by decide) (r_goto C (tgt := 2) dX0_tightenThrough_65 rfl ?_))
        exact ih (k - 1) (by omega) (i + 1) _ _ _ _ (by omega) (by simp (disch := (first | omega | (simp (disch := omega) only [ti_ofInt, ti_addc, ti_subc, ti_mulc, ti_cmul, ti_divc, ti_remc, ti_zero, ti_add, ti_sub, ti_neg, if_lt_ti, if_gt_ti, bP_e0, Classical.not_not, tl_i2l]; omega))) only [ti_ofInt, ti_addc, ti_subc, ti_mulc, ti_cmul, ti_divc, ti_remc, ti_zero, ti_add, ti_sub, ti_neg, if_lt_ti, if_gt_ti, bP_e0, Classical.not_not, tl_i2l]; omega) hO2 (by rw [show (i + 1) * 6 = i * 6 + 6 by omega]; exact hI2)
  refine (r_iconst C dX0_tightenThrough_0 (r_istore_n C dX0_tightenThrough_1 rfl (by decide) ?_))
  exact outer 6 0 _ _ _ _ rfl (by simp (disch := (first | omega | (simp (disch := omega) only [ti_ofInt, ti_addc, ti_subc, ti_mulc, ti_cmul, ti_divc, ti_remc, ti_zero, ti_add, ti_sub, ti_neg, if_lt_ti, if_gt_ti, bP_e0, Classical.not_not, tl_i2l]; omega))) only [ti_ofInt, ti_addc, ti_subc, ti_mulc, ti_cmul, ti_divc, ti_remc, ti_zero, ti_add, ti_sub, ti_neg, if_lt_ti, if_gt_ti, bP_e0, Classical.not_not, tl_i2l]; omega) kmOnly.rf (fun a b _ _ => rfl)
theorem ok_X0_contradicts {μ : kMem} : kOk yX0_contradicts cX0_contradicts 2 (some .boolean) rmX0_contradicts shK 68 [.ref 49] μ (kP (bP (∃ a, a < 6 ∧ km μ a a < 0)) μ) := by
  refine kOk.of rfl (Nat.le_of_ble_eq_true rfl) (fun J C => ?_)
  have C : kR cX0_contradicts RX0 2 rmX0_contradicts shK 68 (some .boolean) _ J := C
  have loop : ∀ (k i : Nat) (v : Int32), i + k = 6 → v.toInt = i → (∀ a, a < i → ¬ km μ a a < 0) → J 2 [some (.ref 49), some (.int v)] [] μ := by
    intro k
    induction k using Nat.strongRecOn with
    | ind k ih =>
      intro i v hk hv hI
      have ev : v.toInt.toNat = i := by omega
      refine (r_iload_n C dX0_contradicts_2 rfl rfl (r_bipush C dX0_contradicts_3 (by decide +kernel) (r_icmp_ge C (tgt := 27) dX0_contradicts_5 rfl (fun c5 => (r_iconst C dX0_contradicts_27 (r_zret C dX0_contradicts_28 rfl ?_))) (fun c5 => (r_aload_n C dX0_contradicts_8 rfl rfl (r_getR C dX0_contradicts_9 fd_X0_35 nK_49 sK_49 rfl (r_iload_n C dX0_contradicts_12 rfl rfl (r_aald C dX0_contradicts_13 nK_57 (by decide) sK_57 ?_ rfl (r_iload_n C dX0_contradicts_14 rfl rfl (r_iald C (n := 6) (f := fun k => k) dX0_contradicts_15 ?_ ?_ ?_ (r_if_ge C (tgt := 21) dX0_contradicts_16 rfl (fun c16 => (r_iinc C dX0_contradicts_21 rfl (by decide) (r_goto C (tgt := 2) dX0_contradicts_24 rfl ?_))) (fun c16 => (r_iconst C dX0_contradicts_19 (r_zret C dX0_contradicts_20 rfl ?_))))))))))))))
      · simp (disch := (first | omega | (simp (disch := omega) only [ti_ofInt, ti_addc, ti_subc, ti_mulc, ti_cmul, ti_divc, ti_remc, ti_zero, ti_add, ti_sub, ti_neg, if_lt_ti, if_gt_ti, bP_e0, Classical.not_not, tl_i2l]; omega))) only [ti_ofInt, ti_addc, ti_subc, ti_mulc, ti_cmul, ti_divc, ti_remc, ti_zero, ti_add, ti_sub, ti_neg, if_lt_ti, if_gt_ti, bP_e0, Classical.not_not, tl_i2l] at c5
        refine ⟨bP_0 ?_, rfl⟩
        rintro ⟨a, ha, h2⟩
        exact hI a (by omega) h2
      · simp (disch := (first | omega | (simp (disch := omega) only [ti_ofInt, ti_addc, ti_subc, ti_mulc, ti_cmul, ti_divc, ti_remc, ti_zero, ti_add, ti_sub, ti_neg, if_lt_ti, if_gt_ti, bP_e0, Classical.not_not, tl_i2l]; omega))) only [ti_ofInt, ti_addc, ti_subc, ti_mulc, ti_cmul, ti_divc, ti_remc, ti_zero, ti_add, ti_sub, ti_neg, if_lt_ti, if_gt_ti, bP_e0, Classical.not_not, tl_i2l] at c5
        omega
      · simp (disch := (first | omega | (simp (disch := omega) only [ti_ofInt, ti_addc, ti_subc, ti_mulc, ti_cmul, ti_divc, ti_remc, ti_zero, ti_add, ti_sub, ti_neg, if_lt_ti, if_gt_ti, bP_e0, Classical.not_not, tl_i2l]; omega))) only [ti_ofInt, ti_addc, ti_subc, ti_mulc, ti_cmul, ti_divc, ti_remc, ti_zero, ti_add, ti_sub, ti_neg, if_lt_ti, if_gt_ti, bP_e0, Classical.not_not, tl_i2l] at c5
        omega
      · rw [ev]; simp (disch := (first | omega | (simp (disch := omega) only [ti_ofInt, ti_addc, ti_subc, ti_mulc, ti_cmul, ti_divc, ti_remc, ti_zero, ti_add, ti_sub, ti_neg, if_lt_ti, if_gt_ti, bP_e0, Classical.not_not, tl_i2l]; omega))) only [ti_ofInt, ti_addc, ti_subc, ti_mulc, ti_cmul, ti_divc, ti_remc, ti_zero, ti_add, ti_sub, ti_neg, if_lt_ti, if_gt_ti, bP_e0, Classical.not_not, tl_i2l] at c5; exact shK_row (by omega)
      · simp (disch := (first | omega | (simp (disch := omega) only [ti_ofInt, ti_addc, ti_subc, ti_mulc, ti_cmul, ti_divc, ti_remc, ti_zero, ti_add, ti_sub, ti_neg, if_lt_ti, if_gt_ti, bP_e0, Classical.not_not, tl_i2l]; omega))) only [ti_ofInt, ti_addc, ti_subc, ti_mulc, ti_cmul, ti_divc, ti_remc, ti_zero, ti_add, ti_sub, ti_neg, if_lt_ti, if_gt_ti, bP_e0, Classical.not_not, tl_i2l] at c5
        omega
      · simp (disch := (first | omega | (simp (disch := omega) only [ti_ofInt, ti_addc, ti_subc, ti_mulc, ti_cmul, ti_divc, ti_remc, ti_zero, ti_add, ti_sub, ti_neg, if_lt_ti, if_gt_ti, bP_e0, Classical.not_not, tl_i2l]; omega))) only [ti_ofInt, ti_addc, ti_subc, ti_mulc, ti_cmul, ti_divc, ti_remc, ti_zero, ti_add, ti_sub, ti_neg, if_lt_ti, if_gt_ti, bP_e0, Classical.not_not, tl_i2l] at c5
        rw [ev] at c16
        refine ih (k - 1) (by omega) (i + 1) _ (by omega) (by simp (disch := (first | omega | (simp (disch := omega) only [ti_ofInt, ti_addc, ti_subc, ti_mulc, ti_cmul, ti_divc, ti_remc, ti_zero, ti_add, ti_sub, ti_neg, if_lt_ti, if_gt_ti, bP_e0, Classical.not_not, tl_i2l]; omega))) only [ti_ofInt, ti_addc, ti_subc, ti_mulc, ti_cmul, ti_divc, ti_remc, ti_zero, ti_add, ti_sub, ti_neg, if_lt_ti, if_gt_ti, bP_e0, Classical.not_not, tl_i2l]; omega) ?_
        intro a ha
        by_cases e : a = i
        · subst e; exact fun q => by unfold km at q; omega
        · exact hI a (by omega)
      · simp (disch := (first | omega | (simp (disch := omega) only [ti_ofInt, ti_addc, ti_subc, ti_mulc, ti_cmul, ti_divc, ti_remc, ti_zero, ti_add, ti_sub, ti_neg, if_lt_ti, if_gt_ti, bP_e0, Classical.not_not, tl_i2l]; omega))) only [ti_ofInt, ti_addc, ti_subc, ti_mulc, ti_cmul, ti_divc, ti_remc, ti_zero, ti_add, ti_sub, ti_neg, if_lt_ti, if_gt_ti, bP_e0, Classical.not_not, tl_i2l] at c5
        rw [ev] at c16
        exact ⟨bP_1 ⟨i, by omega, c16⟩, rfl⟩
  refine (r_iconst C dX0_contradicts_0 (r_istore_n C dX0_contradicts_1 rfl (by decide) ?_))
  exact loop 6 0 _ rfl (by simp (disch := (first | omega | (simp (disch := omega) only [ti_ofInt, ti_addc, ti_subc, ti_mulc, ti_cmul, ti_divc, ti_remc, ti_zero, ti_add, ti_sub, ti_neg, if_lt_ti, if_gt_ti, bP_e0, Classical.not_not, tl_i2l]; omega))) only [ti_ofInt, ti_addc, ti_subc, ti_mulc, ti_cmul, ti_divc, ti_remc, ti_zero, ti_add, ti_sub, ti_neg, if_lt_ti, if_gt_ti, bP_e0, Classical.not_not, tl_i2l]; omega) (fun a q => by omega)
def kcb (μ : kMem) : kMat := fun a b => if a = b then 0 else (μ.1 51 b).toInt - (μ.1 50 a).toInt
def kcm (μ : kMem) : kMat := bfm (kfo μ) (kft μ) (kfw μ) (kcb μ) (μ.1 49 8).toInt.toNat
theorem kcb_b {μ : kMem} (h : kClOk μ) (a b : Nat) : -1098 ≤ kcb μ a b ∧ kcb μ a b ≤ 120 := by
  have h1 := h.2.2 a
  have h2 := h.2.2 b
  unfold kcb
  split <;> omega
theorem kfw_b {μ : kMem} (h : kClOk μ) (f : Nat) : -1098 ≤ kfw μ f := by
  have h1 := h.2.2 f
  have h2 := h.2.2 (μ.1 54 f).toInt.toNat
  have h3 := h.2.2 (μ.1 55 f).toInt.toNat
  unfold kfw
  omega
theorem kcm_low {μ : kMem} (h : kClOk μ) {k : Nat} (hk : k ≤ 5) {a b : Nat} (ha : a < 6) (hb : b < 6) : -60000000 ≤ fw 6 (kcm μ) k a b ∧ fw 6 (kcm μ) k a b ≤ 3000 := by
  have h1 := fw_low (n := 6) (m := kcm μ) (B := 1098) (by decide) (fun a b ha hb => bfm_low (n := 6) (fun a b _ _ => (kcb_b h a b).1) (kfw_b h) _ a b ha hb) k (by omega) a b ha hb
  have h2 := pow6' hk
  have h3 := fw_le (n := 6) (m := kcm μ) (a := a) hb 0 k
  rw [Nat.zero_add] at h3
  have h4 : kcm μ a b ≤ kcb μ a b := bfm_le _ a b
  have h5 := (kcb_b h a b).2
  have h6 : fw 6 (kcm μ) 0 a b = kcm μ a b := rfl
  omega
theorem kmOnly.lt {μ μ' : kMem} (h : kmOnly μ μ') {a b : Nat} (ha : a < 58) : μ'.1 a b = μ.1 a b := h a b (by omega)
theorem kClOk.only {μ μ' : kMem} (h : kClOk μ) (hO : kmOnly μ μ') : kClOk μ' := by
  unfold kClOk at h ⊢
  simp (disch := decide) only [hO.lt]
  exact h
theorem kf_only {μ μ' : kMem} (hO : kmOnly μ μ') : kfo μ' = kfo μ ∧ kft μ' = kft μ ∧ kfw μ' = kfw μ ∧ kcb μ' = kcb μ ∧ (μ'.1 49 8) = μ.1 49 8 := by
  refine ⟨?_, ?_, ?_, ?_, hO.lt (by decide)⟩ <;> funext
  · unfold kfo; simp (disch := decide) only [hO.lt]
  · unfold kft; simp (disch := decide) only [hO.lt]
  · unfold kfw; simp (disch := decide) only [hO.lt]
  · unfold kcb; simp (disch := decide) only [hO.lt]
theorem ok_X0_canBe {μ : kMem} (h : kClOk μ) : kOk yX0_canBe cX0_canBe 2 (some .boolean) rmX0_canBe shK 68 [.ref 49] μ (kI fun r μ' => kmOnly μ μ' ∧ ((r = Int32.ofInt 1 ∧ (∀ a, a < 6 → 0 ≤ fw 6 (kcm μ) 6 a a) ∧ ∀ a b, a < 6 → b < 6 → km μ' a b = fw 6 (kcm μ) 6 a b) ∨ (r = Int32.ofInt 0 ∧ ∃ a, a < 6 ∧ fw 6 (kcm μ) 6 a a < 0))) := by
  refine kOk.of rfl (Nat.le_of_ble_eq_true rfl) (fun J C => ?_)
  have C : kR cX0_canBe RX0 2 rmX0_canBe shK 68 (some .boolean) _ J := C
  have loop : ∀ (k i : Nat) (v : Int32) (μ' : kMem), i + k = 6 → v.toInt = i → kmOnly μ μ' → (∀ a b, a < 6 → b < 6 → km μ' a b = fw 6 (kcm μ) i a b) → (i = 0 ∨ ∀ a, a < 6 → 0 ≤ fw 6 (kcm μ) i a a) → J 10 [some (.ref 49), some (.int v)] [] μ' := by
    intro k
    induction k using Nat.strongRecOn with
    | ind k ih =>
      intro i v μ' hk hv hO hI hd
      have ev : v.toInt.toNat = i := by omega
      refine (r_iload_n C dX0_canBe_10 rfl rfl (r_bipush C dX0_canBe_11 (by decide +kernel) (r_icmp_ge C (tgt := 36) dX0_canBe_13 rfl (fun c13 => (r_iconst C dX0_canBe_36 (r_zret C dX0_canBe_37 rfl ?_))) (fun c13 => (r_aload_n C dX0_canBe_16 rfl rfl (r_iload_n C dX0_canBe_17 rfl rfl (r_v1N C yv_X0_tightenThrough lk_X0_55 dX0_canBe_18 rfl nK_49 sK_49 rfl (Nat.le_of_ble_eq_true rfl) (ok_X0_tightenThrough ?_) (fun μ18 h18 => (r_aload_n C dX0_canBe_21 rfl rfl (r_v0P C yv_X0_contradicts lk_X0_59 dX0_canBe_22 rfl nK_49 sK_49 rfl (Nat.le_of_ble_eq_true rfl) ok_X0_contradicts (r_if_eq C (tgt := 30) dX0_canBe_25 rfl (fun c25 => (r_iinc C dX0_canBe_30 rfl (by decide) (r_goto C (tgt := 10) dX0_canBe_33 rfl ?_))) (fun c25 => (r_iconst C dX0_canBe_28 (r_zret C dX0_canBe_29 rfl ?_))))))))))))))
      · simp (disch := (first | omega | (simp (disch := omega) only [ti_ofInt, ti_addc, ti_subc, ti_mulc, ti_cmul, ti_divc, ti_remc, ti_zero, ti_add, ti_sub, ti_neg, if_lt_ti, if_gt_ti, bP_e0, Classical.not_not, tl_i2l]; omega))) only [ti_ofInt, ti_addc, ti_subc, ti_mulc, ti_cmul, ti_divc, ti_remc, ti_zero, ti_add, ti_sub, ti_neg, if_lt_ti, if_gt_ti, bP_e0, Classical.not_not, tl_i2l] at c13
        obtain rfl : i = 6 := by omega
        refine ⟨hO, Or.inl ⟨rfl, ?_, hI⟩⟩
        rcases hd with hd | hd
        · omega
        · exact hd
      · simp (disch := (first | omega | (simp (disch := omega) only [ti_ofInt, ti_addc, ti_subc, ti_mulc, ti_cmul, ti_divc, ti_remc, ti_zero, ti_add, ti_sub, ti_neg, if_lt_ti, if_gt_ti, bP_e0, Classical.not_not, tl_i2l]; omega))) only [ti_ofInt, ti_addc, ti_subc, ti_mulc, ti_cmul, ti_divc, ti_remc, ti_zero, ti_add, ti_sub, ti_neg, if_lt_ti, if_gt_ti, bP_e0, Classical.not_not, tl_i2l] at c13
        refine ⟨by omega, by omega, ?_⟩
        intro a b ha hb
        rw [hI a b ha hb]
        exact kcm_low h (by omega) ha hb
      · simp (disch := (first | omega | (simp (disch := omega) only [ti_ofInt, ti_addc, ti_subc, ti_mulc, ti_cmul, ti_divc, ti_remc, ti_zero, ti_add, ti_sub, ti_neg, if_lt_ti, if_gt_ti, bP_e0, Classical.not_not, tl_i2l]; omega))) only [ti_ofInt, ti_addc, ti_subc, ti_mulc, ti_cmul, ti_divc, ti_remc, ti_zero, ti_add, ti_sub, ti_neg, if_lt_ti, if_gt_ti, bP_e0, Classical.not_not, tl_i2l] at c13
        obtain ⟨hO2, hI2⟩ := h18
        have e : ∀ a b, a < 6 → b < 6 → km μ18 a b = fw 6 (kcm μ) (i + 1) a b := by
          intro a b ha hb
          rw [hI2 a b ha hb, ev]
          exact tw_congr (by omega) hI 36 a b ha hb
        refine ih (k - 1) (by omega) (i + 1) _ _ (by omega) (by simp (disch := (first | omega | (simp (disch := omega) only [ti_ofInt, ti_addc, ti_subc, ti_mulc, ti_cmul, ti_divc, ti_remc, ti_zero, ti_add, ti_sub, ti_neg, if_lt_ti, if_gt_ti, bP_e0, Classical.not_not, tl_i2l]; omega))) only [ti_ofInt, ti_addc, ti_subc, ti_mulc, ti_cmul, ti_divc, ti_remc, ti_zero, ti_add, ti_sub, ti_neg, if_lt_ti, if_gt_ti, bP_e0, Classical.not_not, tl_i2l]; omega) (hO.tr hO2) e (Or.inr ?_)
        intro a ha
        have := bP_e0.mp c25
        rw [← e a a ha ha]
        exact Int.not_lt.mp (fun q => this ⟨a, ha, q⟩)
      · simp (disch := (first | omega | (simp (disch := omega) only [ti_ofInt, ti_addc, ti_subc, ti_mulc, ti_cmul, ti_divc, ti_remc, ti_zero, ti_add, ti_sub, ti_neg, if_lt_ti, if_gt_ti, bP_e0, Classical.not_not, tl_i2l]; omega))) only [ti_ofInt, ti_addc, ti_subc, ti_mulc, ti_cmul, ti_divc, ti_remc, ti_zero, ti_add, ti_sub, ti_neg, if_lt_ti, if_gt_ti, bP_e0, Classical.not_not, tl_i2l] at c13
        obtain ⟨hO2, hI2⟩ := h18
        obtain ⟨a, ha, hneg⟩ := bP_ne c25
        refine ⟨hO.tr hO2, Or.inr ⟨rfl, a, ha, ?_⟩⟩
        have e : km μ18 a a = fw 6 (kcm μ) (i + 1) a a := by
          rw [hI2 a a ha ha, ev]
          exact tw_congr (by omega) hI 36 a a ha ha
        rw [e] at hneg
        have h3 := fw_le (n := 6) (m := kcm μ) (a := a) ha (i + 1) (5 - i)
        rw [show i + 1 + (5 - i) = 6 by omega] at h3
        omega
  refine (r_aload_n C dX0_canBe_0 rfl rfl (r_v0N C yv_X0_boundByClocks lk_X0_49 dX0_canBe_1 rfl nK_49 sK_49 rfl (Nat.le_of_ble_eq_true rfl) (ok_X0_boundByClocks ?_) (fun μ1 h1 => (r_aload_n C dX0_canBe_4 rfl rfl (r_v0N C yv_X0_boundByFacts lk_X0_52 dX0_canBe_5 rfl nK_49 sK_49 rfl (Nat.le_of_ble_eq_true rfl) (ok_X0_boundByFacts ?_) (fun μ5 h5 => (r_iconst C dX0_canBe_8 (r_istore_n C dX0_canBe_9 rfl (by decide) ?_))))))))
  · exact h
  · exact h.only h1.1
  · obtain ⟨hO1, hI1⟩ := h1
    obtain ⟨hO5, hI5⟩ := h5
    obtain ⟨e1, e2, e3, e4, e5⟩ := kf_only hO1
    refine loop 6 0 _ _ rfl (by simp (disch := (first | omega | (simp (disch := omega) only [ti_ofInt, ti_addc, ti_subc, ti_mulc, ti_cmul, ti_divc, ti_remc, ti_zero, ti_add, ti_sub, ti_neg, if_lt_ti, if_gt_ti, bP_e0, Classical.not_not, tl_i2l]; omega))) only [ti_ofInt, ti_addc, ti_subc, ti_mulc, ti_cmul, ti_divc, ti_remc, ti_zero, ti_add, ti_sub, ti_neg, if_lt_ti, if_gt_ti, bP_e0, Classical.not_not, tl_i2l]; omega) (hO1.tr hO5) ?_ (Or.inl rfl)
    intro a b ha hb
    rw [hI5 a b ha hb, e1, e2, e3, e5]
    exact bfm_congr hI1 _ a b ha hb
def kmi (μ : kMem) (x : Int) : Int := (μ.1 53 x.toNat).toInt
def kst (μ : kMem) (x : Int) : Nat := (μ.1 52 x.toNat).toInt.toNat
theorem ok_X0_leastBehind {x y : Int32} {μ : kMem} (h : kClOk μ ∧ (0 ≤ x.toInt ∧ x.toInt < (μ.1 49 4).toInt) ∧ (0 ≤ y.toInt ∧ y.toInt < (μ.1 49 4).toInt) ∧ ∀ a b, a < 6 → b < 6 → -60000000 ≤ km μ a b ∧ km μ a b ≤ 3000) : kOk yX0_leastBehind cX0_leastBehind 3 (some .int) rmX0_leastBehind shK 68 [.ref 49, .int x, .int y] μ (kP (Int32.ofInt (kmi μ y.toInt - kmi μ x.toInt - km μ (kst μ x.toInt) (kst μ y.toInt))) μ) := by
  obtain ⟨h, hx, hy, hb⟩ := h
  have h0 := h.1
  have h1 := h.2.2 x.toInt.toNat
  have h2 := h.2.2 y.toInt.toNat
  have h3 := hb (kst μ x.toInt) (kst μ y.toInt) (by unfold kst; omega) (by unfold kst; omega)
  refine kOk.of rfl (Nat.le_of_ble_eq_true rfl) (fun J C => ?_)
  have C : kR cX0_leastBehind RX0 3 rmX0_leastBehind shK 68 (some .int) _ J := C
  refine (r_aload_n C dX0_leastBehind_0 rfl rfl (r_iload_n C dX0_leastBehind_1 rfl rfl (r_v1P C yv_X0_hasEvent lk_X0_69 dX0_leastBehind_2 rfl nK_49 sK_49 rfl (Nat.le_of_ble_eq_true rfl) ok_X0_hasEvent (r_if_eq C (tgt := 16) dX0_leastBehind_5 rfl (fun c5 => (r_ldc C dX0_leastBehind_16 kc_X0_72 (r_iret C dX0_leastBehind_18 ?_))) (fun c5 => (r_aload_n C dX0_leastBehind_8 rfl rfl (r_iload_n C dX0_leastBehind_9 rfl rfl (r_v1P C yv_X0_hasEvent lk_X0_69 dX0_leastBehind_10 rfl nK_49 sK_49 rfl (Nat.le_of_ble_eq_true rfl) ok_X0_hasEvent (r_if_ne C (tgt := 19) dX0_leastBehind_13 rfl (fun c13 => (r_aload_n C dX0_leastBehind_19 rfl rfl (r_getR C dX0_leastBehind_20 fd_X0_21 nK_49 sK_49 rfl (r_iload_n C dX0_leastBehind_23 rfl rfl (r_iald C dX0_leastBehind_24 nK_53 sK_53 ?_ (r_aload_n C dX0_leastBehind_25 rfl rfl (r_getR C dX0_leastBehind_26 fd_X0_21 nK_49 sK_49 rfl (r_iload_n C dX0_leastBehind_29 rfl rfl (r_iald C dX0_leastBehind_30 nK_53 sK_53 ?_ (r_isub C dX0_leastBehind_31 (r_aload_n C dX0_leastBehind_32 rfl rfl (r_getR C dX0_leastBehind_33 fd_X0_35 nK_49 sK_49 rfl (r_aload_n C dX0_leastBehind_36 rfl rfl (r_getR C dX0_leastBehind_37 fd_X0_18 nK_49 sK_49 rfl (r_iload_n C dX0_leastBehind_40 rfl rfl (r_iald C dX0_leastBehind_41 nK_52 sK_52 ?_ (r_aald C dX0_leastBehind_42 nK_57 (by decide) sK_57 ?_ rfl (r_aload_n C dX0_leastBehind_43 rfl rfl (r_getR C dX0_leastBehind_44 fd_X0_18 nK_49 sK_49 rfl (r_iload_n C dX0_leastBehind_47 rfl rfl (r_iald C dX0_leastBehind_48 nK_52 sK_52 ?_ (r_iald C (n := 6) (f := fun k => k) dX0_leastBehind_49 ?_ ?_ ?_ (r_isub C dX0_leastBehind_50 (r_iret C dX0_leastBehind_51 ?_)))))))))))))))))))))))) (fun c13 => (r_ldc C dX0_leastBehind_16 kc_X0_72 (r_iret C dX0_leastBehind_18 ?_))))))))))))
  · exact absurd hx (bP_e0.mp c5)
  · omega
  · omega
  · omega
  · omega
  · omega
  · omega
  · exact shK_row (by omega)
  · omega
  · unfold km kmi kst at *
    refine ⟨ti_ext ?_, rfl⟩
    rw [ti_ofInt (by omega)]
    simp (disch := (first | omega | (simp (disch := (first | omega | (simp (disch := (first | omega | (simp (disch := omega) only [ti_ofInt, ti_addc, ti_subc, ti_mulc, ti_cmul, ti_divc, ti_remc, ti_zero, ti_add, ti_sub, ti_neg, if_lt_ti, if_gt_ti, bP_e0, Classical.not_not, tl_i2l]; omega))) only [ti_ofInt, ti_addc, ti_subc, ti_mulc, ti_cmul, ti_divc, ti_remc, ti_zero, ti_add, ti_sub, ti_neg, if_lt_ti, if_gt_ti, bP_e0, Classical.not_not, tl_i2l]; omega))) only [ti_ofInt, ti_addc, ti_subc, ti_mulc, ti_cmul, ti_divc, ti_remc, ti_zero, ti_add, ti_sub, ti_neg, if_lt_ti, if_gt_ti, bP_e0, Classical.not_not, tl_i2l]; omega))) only [ti_ofInt, ti_addc, ti_subc, ti_mulc, ti_cmul, ti_divc, ti_remc, ti_zero, ti_add, ti_sub, ti_neg, if_lt_ti, if_gt_ti, bP_e0, Classical.not_not, tl_i2l]
  · exact absurd hy (bP_e0.mp c13)
theorem ok_X0_greatestBehind {x y : Int32} {μ : kMem} (h : kClOk μ ∧ (0 ≤ x.toInt ∧ x.toInt < (μ.1 49 4).toInt) ∧ (0 ≤ y.toInt ∧ y.toInt < (μ.1 49 4).toInt) ∧ ∀ a b, a < 6 → b < 6 → -60000000 ≤ km μ a b ∧ km μ a b ≤ 3000) : kOk yX0_greatestBehind cX0_greatestBehind 3 (some .int) rmX0_greatestBehind shK 68 [.ref 49, .int x, .int y] μ (kP (Int32.ofInt (kmi μ y.toInt - kmi μ x.toInt + km μ (kst μ y.toInt) (kst μ x.toInt))) μ) := by
  obtain ⟨h, hx, hy, hb⟩ := h
  have h0 := h.1
  have h1 := h.2.2 x.toInt.toNat
  have h2 := h.2.2 y.toInt.toNat
  have h3 := hb (kst μ y.toInt) (kst μ x.toInt) (by unfold kst; omega) (by unfold kst; omega)
  refine kOk.of rfl (Nat.le_of_ble_eq_true rfl) (fun J C => ?_)
  have C : kR cX0_greatestBehind RX0 3 rmX0_greatestBehind shK 68 (some .int) _ J := C
  refine (r_aload_n C dX0_greatestBehind_0 rfl rfl (r_iload_n C dX0_greatestBehind_1 rfl rfl (r_v1P C yv_X0_hasEvent lk_X0_69 dX0_greatestBehind_2 rfl nK_49 sK_49 rfl (Nat.le_of_ble_eq_true rfl) ok_X0_hasEvent (r_if_eq C (tgt := 16) dX0_greatestBehind_5 rfl (fun c5 => (r_ldc C dX0_greatestBehind_16 kc_X0_72 (r_iret C dX0_greatestBehind_18 ?_))) (fun c5 => (r_aload_n C dX0_greatestBehind_8 rfl rfl (r_iload_n C dX0_greatestBehind_9 rfl rfl (r_v1P C yv_X0_hasEvent lk_X0_69 dX0_greatestBehind_10 rfl nK_49 sK_49 rfl (Nat.le_of_ble_eq_true rfl) ok_X0_hasEvent (r_if_ne C (tgt := 19) dX0_greatestBehind_13 rfl (fun c13 => (r_aload_n C dX0_greatestBehind_19 rfl rfl (r_getR C dX0_greatestBehind_20 fd_X0_21 nK_49 sK_49 rfl (r_iload_n C dX0_greatestBehind_23 rfl rfl (r_iald C dX0_greatestBehind_24 nK_53 sK_53 ?_ (r_aload_n C dX0_greatestBehind_25 rfl rfl (r_getR C dX0_greatestBehind_26 fd_X0_21 nK_49 sK_49 rfl (r_iload_n C dX0_greatestBehind_29 rfl rfl (r_iald C dX0_greatestBehind_30 nK_53 sK_53 ?_ (r_isub C dX0_greatestBehind_31 (r_aload_n C dX0_greatestBehind_32 rfl rfl (r_getR C dX0_greatestBehind_33 fd_X0_35 nK_49 sK_49 rfl (r_aload_n C dX0_greatestBehind_36 rfl rfl (r_getR C dX0_greatestBehind_37 fd_X0_18 nK_49 sK_49 rfl (r_iload_n C dX0_greatestBehind_40 rfl rfl (r_iald C dX0_greatestBehind_41 nK_52 sK_52 ?_ (r_aald C dX0_greatestBehind_42 nK_57 (by decide) sK_57 ?_ rfl (r_aload_n C dX0_greatestBehind_43 rfl rfl (r_getR C dX0_greatestBehind_44 fd_X0_18 nK_49 sK_49 rfl (r_iload_n C dX0_greatestBehind_47 rfl rfl (r_iald C dX0_greatestBehind_48 nK_52 sK_52 ?_ (r_iald C (n := 6) (f := fun k => k) dX0_greatestBehind_49 ?_ ?_ ?_ (r_iadd C dX0_greatestBehind_50 (r_iret C dX0_greatestBehind_51 ?_)))))))))))))))))))))))) (fun c13 => (r_ldc C dX0_greatestBehind_16 kc_X0_72 (r_iret C dX0_greatestBehind_18 ?_))))))))))))
  · exact absurd hx (bP_e0.mp c5)
  · omega
  · omega
  · omega
  · omega
  · omega
  · omega
  · exact shK_row (by omega)
  · omega
  · unfold km kmi kst at *
    refine ⟨ti_ext ?_, rfl⟩
    rw [ti_ofInt (by omega)]
    simp (disch := (first | omega | (simp (disch := (first | omega | (simp (disch := (first | omega | (simp (disch := omega) only [ti_ofInt, ti_addc, ti_subc, ti_mulc, ti_cmul, ti_divc, ti_remc, ti_zero, ti_add, ti_sub, ti_neg, if_lt_ti, if_gt_ti, bP_e0, Classical.not_not, tl_i2l]; omega))) only [ti_ofInt, ti_addc, ti_subc, ti_mulc, ti_cmul, ti_divc, ti_remc, ti_zero, ti_add, ti_sub, ti_neg, if_lt_ti, if_gt_ti, bP_e0, Classical.not_not, tl_i2l]; omega))) only [ti_ofInt, ti_addc, ti_subc, ti_mulc, ti_cmul, ti_divc, ti_remc, ti_zero, ti_add, ti_sub, ti_neg, if_lt_ti, if_gt_ti, bP_e0, Classical.not_not, tl_i2l]; omega))) only [ti_ofInt, ti_addc, ti_subc, ti_mulc, ti_cmul, ti_divc, ti_remc, ti_zero, ti_add, ti_sub, ti_neg, if_lt_ti, if_gt_ti, bP_e0, Classical.not_not, tl_i2l]
  · exact absurd hy (bP_e0.mp c13)

