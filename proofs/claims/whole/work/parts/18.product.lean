/-! ===== Product ===== -/
def kpv64 (μ : kMem) : Int := pvF 1048576 (fun i => (μ.1 65 i).toInt) 49
def kpn64 (μ : kMem) : Prop := ∀ i, i < 49 → 0 ≤ (μ.1 65 i).toInt ∧ (μ.1 65 i).toInt < 1048576
def kpo64 (μ μ' : kMem) : Prop := ∀ a b : Nat, a ≠ 65 → μ'.1 a b = μ.1 a b
theorem kpo64_up {μ μ' : kMem} (h : kpo64 μ μ') {i : Nat} {x : Int32} : kpo64 μ (up μ' 65 i x) := fun a b hn => by rw [up_neo _ _ hn]; exact h a b hn
theorem ok_X6_becomeOne_64 {μ : kMem} : kOk yX6_becomeOne cX6_becomeOne 2 (none) rmX6_becomeOne shK 68 [.ref 64] μ (kN fun μ' => kpo64 μ μ' ∧ kpn64 μ' ∧ kpv64 μ' = 1) := by
  refine kOk.of rfl (Nat.le_of_ble_eq_true rfl) (fun J C => ?_)
  have C : kR cX6_becomeOne RX6 2 rmX6_becomeOne shK 68 (none) _ J := C
  have loop : ∀ (k i : Nat) (v : Int32) (μ' : kMem), i + k = 49 → v.toInt = i → kpo64 μ μ' → (∀ j, j < i → (μ'.1 65 j).toInt = if j = 0 then 1 else 0) → J 2 [some (.ref 64), some (.int v)] [] μ' := by
    intro k
    induction k using Nat.strongRecOn with
    | ind k ih =>
      intro i v μ' hk hv hO hI
      have ev : v.toInt.toNat = i := by omega
      have step : ∀ x : Int32, v.toInt < 49 → x.toInt = (if i = 0 then 1 else 0) → J 2 [some (.ref 64), some (.int (v + Int32.ofInt 1))] [] (up μ' 65 v.toInt.toNat x) := by
        intro x hlt hx
        rw [ev]
        refine ih (k - 1) (by omega) (i + 1) _ _ (by omega) (by simp (disch := (first | omega | (simp (disch := omega) only [ti_ofInt, ti_addc, ti_subc, ti_mulc, ti_cmul, ti_divc, ti_remc, ti_zero, ti_add, ti_sub, ti_neg, if_lt_ti, if_gt_ti, bP_e0, Classical.not_not, tl_i2l]; omega))) only [ti_ofInt, ti_addc, ti_subc, ti_mulc, ti_cmul, ti_divc, ti_remc, ti_zero, ti_add, ti_sub, ti_neg, if_lt_ti, if_gt_ti, bP_e0, Classical.not_not, tl_i2l]; omega) (kpo64_up hO) ?_
        intro j hj
        by_cases e : j = i
        · subst e
          rw [up_same, hx]
        · rw [up_nek _ _ e]
          exact hI j (by omega)
      refine (r_iload_n C dX6_becomeOne_2 rfl rfl (r_bipush C dX6_becomeOne_3 (by decide +kernel) (r_icmp_ge C (tgt := 29) dX6_becomeOne_5 rfl (fun c5 => (r_ret C dX6_becomeOne_29 ?_)) (fun c5 => (r_aload_n C dX6_becomeOne_8 rfl rfl (r_getR C dX6_becomeOne_9 fd_X6_11 nK_64 sK_64 rfl (r_iload_n C dX6_becomeOne_12 rfl rfl (r_iload_n C dX6_becomeOne_13 rfl rfl (r_if_ne C (tgt := 21) dX6_becomeOne_14 rfl (fun c14 => (r_iconst C dX6_becomeOne_21 (r_iast C dX6_becomeOne_22 nK_65 sK_65 ?_ (r_iinc C dX6_becomeOne_23 rfl (by decide) (r_goto C (tgt := 2) dX6_becomeOne_26 rfl ?_))))) (fun c14 => (r_iconst C dX6_becomeOne_17 (r_goto C (tgt := 22) dX6_becomeOne_18 rfl (r_iast C dX6_becomeOne_22 nK_65 sK_65 ?_ (r_iinc C dX6_becomeOne_23 rfl (by decide) (r_goto C (tgt := 2) dX6_becomeOne_26 rfl ?_)))))))))))))))
      · simp (disch := (first | omega | (simp (disch := omega) only [ti_ofInt, ti_addc, ti_subc, ti_mulc, ti_cmul, ti_divc, ti_remc, ti_zero, ti_add, ti_sub, ti_neg, if_lt_ti, if_gt_ti, bP_e0, Classical.not_not, tl_i2l]; omega))) only [ti_ofInt, ti_addc, ti_subc, ti_mulc, ti_cmul, ti_divc, ti_remc, ti_zero, ti_add, ti_sub, ti_neg, if_lt_ti, if_gt_ti, bP_e0, Classical.not_not, tl_i2l] at c5
        have hI2 : ∀ j, j < 49 → (μ'.1 65 j).toInt = (fun j => if j = 0 then (1 : Int) else 0) j := fun j hj => hI j (by omega)
        refine ⟨hO, fun j hj => ?_, ?_⟩
        · rw [hI2 j hj]
          dsimp only
          split <;> omega
        · unfold kpv64
          rw [pvF_congr hI2]
          decide +kernel
      · simp (disch := (first | omega | (simp (disch := omega) only [ti_ofInt, ti_addc, ti_subc, ti_mulc, ti_cmul, ti_divc, ti_remc, ti_zero, ti_add, ti_sub, ti_neg, if_lt_ti, if_gt_ti, bP_e0, Classical.not_not, tl_i2l]; omega))) only [ti_ofInt, ti_addc, ti_subc, ti_mulc, ti_cmul, ti_divc, ti_remc, ti_zero, ti_add, ti_sub, ti_neg, if_lt_ti, if_gt_ti, bP_e0, Classical.not_not, tl_i2l] at c5
        omega
      · simp (disch := (first | omega | (simp (disch := omega) only [ti_ofInt, ti_addc, ti_subc, ti_mulc, ti_cmul, ti_divc, ti_remc, ti_zero, ti_add, ti_sub, ti_neg, if_lt_ti, if_gt_ti, bP_e0, Classical.not_not, tl_i2l]; omega))) only [ti_ofInt, ti_addc, ti_subc, ti_mulc, ti_cmul, ti_divc, ti_remc, ti_zero, ti_add, ti_sub, ti_neg, if_lt_ti, if_gt_ti, bP_e0, Classical.not_not, tl_i2l] at c5
        refine step _ c5 ?_
        rw [if_neg (by omega)]
        simp (disch := (first | omega | (simp (disch := omega) only [ti_ofInt, ti_addc, ti_subc, ti_mulc, ti_cmul, ti_divc, ti_remc, ti_zero, ti_add, ti_sub, ti_neg, if_lt_ti, if_gt_ti, bP_e0, Classical.not_not, tl_i2l]; omega))) only [ti_ofInt, ti_addc, ti_subc, ti_mulc, ti_cmul, ti_divc, ti_remc, ti_zero, ti_add, ti_sub, ti_neg, if_lt_ti, if_gt_ti, bP_e0, Classical.not_not, tl_i2l]
      · simp (disch := (first | omega | (simp (disch := omega) only [ti_ofInt, ti_addc, ti_subc, ti_mulc, ti_cmul, ti_divc, ti_remc, ti_zero, ti_add, ti_sub, ti_neg, if_lt_ti, if_gt_ti, bP_e0, Classical.not_not, tl_i2l]; omega))) only [ti_ofInt, ti_addc, ti_subc, ti_mulc, ti_cmul, ti_divc, ti_remc, ti_zero, ti_add, ti_sub, ti_neg, if_lt_ti, if_gt_ti, bP_e0, Classical.not_not, tl_i2l] at c5
        omega
      · simp (disch := (first | omega | (simp (disch := omega) only [ti_ofInt, ti_addc, ti_subc, ti_mulc, ti_cmul, ti_divc, ti_remc, ti_zero, ti_add, ti_sub, ti_neg, if_lt_ti, if_gt_ti, bP_e0, Classical.not_not, tl_i2l]; omega))) only [ti_ofInt, ti_addc, ti_subc, ti_mulc, ti_cmul, ti_divc, ti_remc, ti_zero, ti_add, ti_sub, ti_neg, if_lt_ti, if_gt_ti, bP_e0, Classical.not_not, tl_i2l] at c5
        refine step _ c5 ?_
        rw [if_pos (by omega)]
        simp (disch := (first | omega | (simp (disch := omega) only [ti_ofInt, ti_addc, ti_subc, ti_mulc, ti_cmul, ti_divc, ti_remc, ti_zero, ti_add, ti_sub, ti_neg, if_lt_ti, if_gt_ti, bP_e0, Classical.not_not, tl_i2l]; omega))) only [ti_ofInt, ti_addc, ti_subc, ti_mulc, ti_cmul, ti_divc, ti_remc, ti_zero, ti_add, ti_sub, ti_neg, if_lt_ti, if_gt_ti, bP_e0, Classical.not_not, tl_i2l]
  refine (r_iconst C dX6_becomeOne_0 (r_istore_n C dX6_becomeOne_1 rfl (by decide) ?_))
  exact loop 49 0 _ _ rfl (by simp (disch := (first | omega | (simp (disch := omega) only [ti_ofInt, ti_addc, ti_subc, ti_mulc, ti_cmul, ti_divc, ti_remc, ti_zero, ti_add, ti_sub, ti_neg, if_lt_ti, if_gt_ti, bP_e0, Classical.not_not, tl_i2l]; omega))) only [ti_ofInt, ti_addc, ti_subc, ti_mulc, ti_cmul, ti_divc, ti_remc, ti_zero, ti_add, ti_sub, ti_neg, if_lt_ti, if_gt_ti, bP_e0, Classical.not_not, tl_i2l]; omega) (fun _ _ _ => rfl) (fun j q => by omega)
theorem ok_X6_multiply_64 {f : Int32} {μ : kMem} (h : kpn64 μ ∧ 0 ≤ f.toInt ∧ f.toInt ≤ 255 ∧ kpv64 μ * f.toInt < 1048576 ^ 49) : kOk yX6_multiply cX6_multiply 5 (none) rmX6_multiply shK 68 [.ref 64, .int f] μ (kN fun μ' => kpo64 μ μ' ∧ kpn64 μ' ∧ kpv64 μ' = kpv64 μ * f.toInt) := by
  refine kOk.of rfl (Nat.le_of_ble_eq_true rfl) (fun J C => ?_)
  have C : kR cX6_multiply RX6 5 rmX6_multiply shK 68 (none) _ J := C
  have loop : ∀ (k i : Nat) (c v : Int32) (z : Option Value) (μ' : kMem), i + k = 49 → v.toInt = i → 0 ≤ c.toInt → c.toInt ≤ 255 → kpo64 μ μ' → (∀ j, i ≤ j → μ'.1 65 j = μ.1 65 j) → (∀ j, j < i → 0 ≤ (μ'.1 65 j).toInt ∧ (μ'.1 65 j).toInt < 1048576) → pvF 1048576 (fun j => (μ'.1 65 j).toInt) i + c.toInt * 1048576 ^ i = f.toInt * pvF 1048576 (fun j => (μ.1 65 j).toInt) i → J 4 [some (.ref 64), some (.int f), some (.int c), some (.int v), z] [] μ' := by
    intro k
    induction k using Nat.strongRecOn with
    | ind k ih =>
      intro i c v z μ' hk hv hc0 hc1 hO hR hN hI
      have ev : v.toInt.toNat = i := by omega
      have hd := h.1 i
      have er := hR i (Nat.le_refl _)
      have bd : i < 49 → 0 ≤ (μ.1 65 i).toInt * f.toInt ∧ (μ.1 65 i).toInt * f.toInt ≤ 1048575 * 255 := by
        intro hi
        have h1 := hd hi
        exact ⟨Int.mul_nonneg h1.1 h.2.1, Int.mul_le_mul (by omega) h.2.2.1 h.2.1 (by decide)⟩
      refine (r_iload_n C dX6_multiply_4 rfl rfl (r_bipush C dX6_multiply_5 (by decide +kernel) (r_icmp_ge C (tgt := 45) dX6_multiply_7 rfl (fun c7 => (r_ret C dX6_multiply_45 ?_)) (fun c7 => (r_aload_n C dX6_multiply_10 rfl rfl (r_getR C dX6_multiply_11 fd_X6_11 nK_64 sK_64 rfl (r_iload_n C dX6_multiply_14 rfl rfl (r_iald C dX6_multiply_15 nK_65 sK_65 ?_ (r_iload_n C dX6_multiply_16 rfl rfl (r_imul C dX6_multiply_17 (r_iload_n C dX6_multiply_18 rfl rfl (r_iadd C dX6_multiply_19 (r_istore C dX6_multiply_20 (by decide) (r_aload_n C dX6_multiply_22 rfl rfl (r_getR C dX6_multiply_23 fd_X6_11 nK_64 sK_64 rfl (r_iload_n C dX6_multiply_26 rfl rfl (r_iload C dX6_multiply_27 rfl (r_ldc C dX6_multiply_29 kc_X6_15 (r_iand C dX6_multiply_31 (r_iast C dX6_multiply_32 nK_65 sK_65 ?_ (r_iload C dX6_multiply_33 rfl (r_bipush C dX6_multiply_35 (by decide +kernel) (r_iushr C dX6_multiply_37 (r_istore_n C dX6_multiply_38 rfl (by decide) (r_iinc C dX6_multiply_39 rfl (by decide) (r_goto C (tgt := 4) dX6_multiply_42 rfl ?_))))))))))))))))))))))))))
      · simp (disch := (first | omega | (simp (disch := omega) only [ti_ofInt, ti_addc, ti_subc, ti_mulc, ti_cmul, ti_divc, ti_remc, ti_zero, ti_add, ti_sub, ti_neg, if_lt_ti, if_gt_ti, bP_e0, Classical.not_not, tl_i2l]; omega))) only [ti_ofInt, ti_addc, ti_subc, ti_mulc, ti_cmul, ti_divc, ti_remc, ti_zero, ti_add, ti_sub, ti_neg, if_lt_ti, if_gt_ti, bP_e0, Classical.not_not, tl_i2l] at c7
        obtain rfl : i = 49 := by omega
        have hb := pvF_b (B := 1048576) (by decide) (f := fun j => (μ'.1 65 j).toInt) (n := 49) (fun j hj => hN j hj)
        have hlt := h.2.2.2
        unfold kpv64 at hlt ⊢
        rw [Int.mul_comm] at hlt
        have hc : c.toInt = 0 := by
          rcases (show c.toInt = 0 ∨ 1 ≤ c.toInt by omega) with q | q
          · exact q
          · have h5 : 1 * 1048576 ^ 49 ≤ c.toInt * 1048576 ^ 49 := Int.mul_le_mul_of_nonneg_right q (by decide)
            omega
        refine ⟨hO, hN, ?_⟩
        rw [hc, Int.zero_mul, Int.add_zero] at hI
        rw [hI, Int.mul_comm]
      · simp (disch := (first | omega | (simp (disch := omega) only [ti_ofInt, ti_addc, ti_subc, ti_mulc, ti_cmul, ti_divc, ti_remc, ti_zero, ti_add, ti_sub, ti_neg, if_lt_ti, if_gt_ti, bP_e0, Classical.not_not, tl_i2l]; omega))) only [ti_ofInt, ti_addc, ti_subc, ti_mulc, ti_cmul, ti_divc, ti_remc, ti_zero, ti_add, ti_sub, ti_neg, if_lt_ti, if_gt_ti, bP_e0, Classical.not_not, tl_i2l] at c7
        omega
      · simp (disch := (first | omega | (simp (disch := omega) only [ti_ofInt, ti_addc, ti_subc, ti_mulc, ti_cmul, ti_divc, ti_remc, ti_zero, ti_add, ti_sub, ti_neg, if_lt_ti, if_gt_ti, bP_e0, Classical.not_not, tl_i2l]; omega))) only [ti_ofInt, ti_addc, ti_subc, ti_mulc, ti_cmul, ti_divc, ti_remc, ti_zero, ti_add, ti_sub, ti_neg, if_lt_ti, if_gt_ti, bP_e0, Classical.not_not, tl_i2l] at c7
        omega
      · simp (disch := (first | omega | (simp (disch := omega) only [ti_ofInt, ti_addc, ti_subc, ti_mulc, ti_cmul, ti_divc, ti_remc, ti_zero, ti_add, ti_sub, ti_neg, if_lt_ti, if_gt_ti, bP_e0, Classical.not_not, tl_i2l]; omega))) only [ti_ofInt, ti_addc, ti_subc, ti_mulc, ti_cmul, ti_divc, ti_remc, ti_zero, ti_add, ti_sub, ti_neg, if_lt_ti, if_gt_ti, bP_e0, Classical.not_not, tl_i2l] at c7
        rw [ev, er]
        have hi : i < 49 := by omega
        have b1 := bd hi
        have em : (μ.1 65 i * f).toInt = (μ.1 65 i).toInt * f.toInt := ti_mul (by omega)
        have ex : (μ.1 65 i * f + c).toInt = (μ.1 65 i).toInt * f.toInt + c.toInt := by
          rw [ti_add (by rw [em]; omega), em]
        have hx0 : 0 ≤ (μ.1 65 i * f + c).toInt := by rw [ex]; omega
        have e1 := ti_and20 hx0
        have e2 := ti_shr20 hx0
        have eR : (μ'.1 65 i).toInt = (μ.1 65 i).toInt := by rw [er]
        refine ih (k - 1) (by omega) (i + 1) _ _ _ _ (by omega) (by simp (disch := (first | omega | (simp (disch := omega) only [ti_ofInt, ti_addc, ti_subc, ti_mulc, ti_cmul, ti_divc, ti_remc, ti_zero, ti_add, ti_sub, ti_neg, if_lt_ti, if_gt_ti, bP_e0, Classical.not_not, tl_i2l]; omega))) only [ti_ofInt, ti_addc, ti_subc, ti_mulc, ti_cmul, ti_divc, ti_remc, ti_zero, ti_add, ti_sub, ti_neg, if_lt_ti, if_gt_ti, bP_e0, Classical.not_not, tl_i2l]; omega) (by rw [e2, ex]; omega) (by rw [e2, ex]; omega) (kpo64_up hO) ?_ ?_ ?_
        · intro j hj
          rw [up_nek _ _ (by omega)]
          exact hR j (by omega)
        · intro j hj
          by_cases e : j = i
          · subst e
            rw [up_same, e1]
            omega
          · rw [up_nek _ _ e]
            exact hN j (by omega)
        · show pvF 1048576 (fun j => ((up μ' 65 i (μ.1 65 i * f + c &&& 1048575)).1 65 j).toInt) i + ((up μ' 65 i (μ.1 65 i * f + c &&& 1048575)).1 65 i).toInt * 1048576 ^ i + _ * 1048576 ^ (i + 1) = f.toInt * (pvF 1048576 (fun j => (μ.1 65 j).toInt) i + (μ.1 65 i).toInt * 1048576 ^ i)
          rw [pvF_congr (g := fun j => (μ'.1 65 j).toInt) (fun j hj => by rw [up_nek _ _ (by omega)]), up_same, Int.pow_succ]
          refine pvF_step ?_ hI
          rw [e1, e2, ex]
          omega
  refine (r_iconst C dX6_multiply_0 (r_istore_n C dX6_multiply_1 rfl (by decide) (r_iconst C dX6_multiply_2 (r_istore_n C dX6_multiply_3 rfl (by decide) ?_))))
  exact loop 49 0 _ _ _ _ rfl (by simp (disch := (first | omega | (simp (disch := omega) only [ti_ofInt, ti_addc, ti_subc, ti_mulc, ti_cmul, ti_divc, ti_remc, ti_zero, ti_add, ti_sub, ti_neg, if_lt_ti, if_gt_ti, bP_e0, Classical.not_not, tl_i2l]; omega))) only [ti_ofInt, ti_addc, ti_subc, ti_mulc, ti_cmul, ti_divc, ti_remc, ti_zero, ti_add, ti_sub, ti_neg, if_lt_ti, if_gt_ti, bP_e0, Classical.not_not, tl_i2l]; omega) (by simp (disch := (first | omega | (simp (disch := omega) only [ti_ofInt, ti_addc, ti_subc, ti_mulc, ti_cmul, ti_divc, ti_remc, ti_zero, ti_add, ti_sub, ti_neg, if_lt_ti, if_gt_ti, bP_e0, Classical.not_not, tl_i2l]; omega))) only [ti_ofInt, ti_addc, ti_subc, ti_mulc, ti_cmul, ti_divc, ti_remc, ti_zero, ti_add, ti_sub, ti_neg, if_lt_ti, if_gt_ti, bP_e0, Classical.not_not, tl_i2l]; omega) (by simp (disch := (first | omega | (simp (disch := omega) only [ti_ofInt, ti_addc, ti_subc, ti_mulc, ti_cmul, ti_divc, ti_remc, ti_zero, ti_add, ti_sub, ti_neg, if_lt_ti, if_gt_ti, bP_e0, Classical.not_not, tl_i2l]; omega))) only [ti_ofInt, ti_addc, ti_subc, ti_mulc, ti_cmul, ti_divc, ti_remc, ti_zero, ti_add, ti_sub, ti_neg, if_lt_ti, if_gt_ti, bP_e0, Classical.not_not, tl_i2l]; omega) (fun _ _ _ => rfl) (fun j q => rfl) (fun j q => by omega) (by simp (disch := (first | omega | (simp (disch := omega) only [ti_ofInt, ti_addc, ti_subc, ti_mulc, ti_cmul, ti_divc, ti_remc, ti_zero, ti_add, ti_sub, ti_neg, if_lt_ti, if_gt_ti, bP_e0, Classical.not_not, tl_i2l]; omega))) only [ti_ofInt, ti_addc, ti_subc, ti_mulc, ti_cmul, ti_divc, ti_remc, ti_zero, ti_add, ti_sub, ti_neg, if_lt_ti, if_gt_ti, bP_e0, Classical.not_not, tl_i2l]; simp [pvF])
def kpv66 (μ : kMem) : Int := pvF 1048576 (fun i => (μ.1 67 i).toInt) 49
def kpn66 (μ : kMem) : Prop := ∀ i, i < 49 → 0 ≤ (μ.1 67 i).toInt ∧ (μ.1 67 i).toInt < 1048576
def kpo66 (μ μ' : kMem) : Prop := ∀ a b : Nat, a ≠ 67 → μ'.1 a b = μ.1 a b
theorem kpo66_up {μ μ' : kMem} (h : kpo66 μ μ') {i : Nat} {x : Int32} : kpo66 μ (up μ' 67 i x) := fun a b hn => by rw [up_neo _ _ hn]; exact h a b hn
theorem ok_X6_becomeOne_66 {μ : kMem} : kOk yX6_becomeOne cX6_becomeOne 2 (none) rmX6_becomeOne shK 68 [.ref 66] μ (kN fun μ' => kpo66 μ μ' ∧ kpn66 μ' ∧ kpv66 μ' = 1) := by
  refine kOk.of rfl (Nat.le_of_ble_eq_true rfl) (fun J C => ?_)
  have C : kR cX6_becomeOne RX6 2 rmX6_becomeOne shK 68 (none) _ J := C
  have loop : ∀ (k i : Nat) (v : Int32) (μ' : kMem), i + k = 49 → v.toInt = i → kpo66 μ μ' → (∀ j, j < i → (μ'.1 67 j).toInt = if j = 0 then 1 else 0) → J 2 [some (.ref 66), some (.int v)] [] μ' := by
    intro k
    induction k using Nat.strongRecOn with
    | ind k ih =>
      intro i v μ' hk hv hO hI
      have ev : v.toInt.toNat = i := by omega
      have step : ∀ x : Int32, v.toInt < 49 → x.toInt = (if i = 0 then 1 else 0) → J 2 [some (.ref 66), some (.int (v + Int32.ofInt 1))] [] (up μ' 67 v.toInt.toNat x) := by
        intro x hlt hx
        rw [ev]
        refine ih (k - 1) (by omega) (i + 1) _ _ (by omega) (by simp (disch := (first | omega | (simp (disch := omega) only [ti_ofInt, ti_addc, ti_subc, ti_mulc, ti_cmul, ti_divc, ti_remc, ti_zero, ti_add, ti_sub, ti_neg, if_lt_ti, if_gt_ti, bP_e0, Classical.not_not, tl_i2l]; omega))) only [ti_ofInt, ti_addc, ti_subc, ti_mulc, ti_cmul, ti_divc, ti_remc, ti_zero, ti_add, ti_sub, ti_neg, if_lt_ti, if_gt_ti, bP_e0, Classical.not_not, tl_i2l]; omega) (kpo66_up hO) ?_
        intro j hj
        by_cases e : j = i
        · subst e
          rw [up_same, hx]
        · rw [up_nek _ _ e]
          exact hI j (by omega)
      refine (r_iload_n C dX6_becomeOne_2 rfl rfl (r_bipush C dX6_becomeOne_3 (by decide +kernel) (r_icmp_ge C (tgt := 29) dX6_becomeOne_5 rfl (fun c5 => (r_ret C dX6_becomeOne_29 ?_)) (fun c5 => (r_aload_n C dX6_becomeOne_8 rfl rfl (r_getR C dX6_becomeOne_9 fd_X6_11 nK_66 sK_66 rfl (r_iload_n C dX6_becomeOne_12 rfl rfl (r_iload_n C dX6_becomeOne_13 rfl rfl (r_if_ne C (tgt := 21) dX6_becomeOne_14 rfl (fun c14 => (r_iconst C dX6_becomeOne_21 (r_iast C dX6_becomeOne_22 nK_67 sK_67 ?_ (r_iinc C dX6_becomeOne_23 rfl (by decide) (r_goto C (tgt := 2) dX6_becomeOne_26 rfl ?_))))) (fun c14 => (r_iconst C dX6_becomeOne_17 (r_goto C (tgt := 22) dX6_becomeOne_18 rfl (r_iast C dX6_becomeOne_22 nK_67 sK_67 ?_ (r_iinc C dX6_becomeOne_23 rfl (by decide) (r_goto C (tgt := 2) dX6_becomeOne_26 rfl ?_)))))))))))))))
      · simp (disch := (first | omega | (simp (disch := omega) only [ti_ofInt, ti_addc, ti_subc, ti_mulc, ti_cmul, ti_divc, ti_remc, ti_zero, ti_add, ti_sub, ti_neg, if_lt_ti, if_gt_ti, bP_e0, Classical.not_not, tl_i2l]; omega))) only [ti_ofInt, ti_addc, ti_subc, ti_mulc, ti_cmul, ti_divc, ti_remc, ti_zero, ti_add, ti_sub, ti_neg, if_lt_ti, if_gt_ti, bP_e0, Classical.not_not, tl_i2l] at c5
        have hI2 : ∀ j, j < 49 → (μ'.1 67 j).toInt = (fun j => if j = 0 then (1 : Int) else 0) j := fun j hj => hI j (by omega)
        refine ⟨hO, fun j hj => ?_, ?_⟩
        · rw [hI2 j hj]
          dsimp only
          split <;> omega
        · unfold kpv66
          rw [pvF_congr hI2]
          decide +kernel
      · simp (disch := (first | omega | (simp (disch := omega) only [ti_ofInt, ti_addc, ti_subc, ti_mulc, ti_cmul, ti_divc, ti_remc, ti_zero, ti_add, ti_sub, ti_neg, if_lt_ti, if_gt_ti, bP_e0, Classical.not_not, tl_i2l]; omega))) only [ti_ofInt, ti_addc, ti_subc, ti_mulc, ti_cmul, ti_divc, ti_remc, ti_zero, ti_add, ti_sub, ti_neg, if_lt_ti, if_gt_ti, bP_e0, Classical.not_not, tl_i2l] at c5
        omega
      · simp (disch := (first | omega | (simp (disch := omega) only [ti_ofInt, ti_addc, ti_subc, ti_mulc, ti_cmul, ti_divc, ti_remc, ti_zero, ti_add, ti_sub, ti_neg, if_lt_ti, if_gt_ti, bP_e0, Classical.not_not, tl_i2l]; omega))) only [ti_ofInt, ti_addc, ti_subc, ti_mulc, ti_cmul, ti_divc, ti_remc, ti_zero, ti_add, ti_sub, ti_neg, if_lt_ti, if_gt_ti, bP_e0, Classical.not_not, tl_i2l] at c5
        refine step _ c5 ?_
        rw [if_neg (by omega)]
        simp (disch := (first | omega | (simp (disch := omega) only [ti_ofInt, ti_addc, ti_subc, ti_mulc, ti_cmul, ti_divc, ti_remc, ti_zero, ti_add, ti_sub, ti_neg, if_lt_ti, if_gt_ti, bP_e0, Classical.not_not, tl_i2l]; omega))) only [ti_ofInt, ti_addc, ti_subc, ti_mulc, ti_cmul, ti_divc, ti_remc, ti_zero, ti_add, ti_sub, ti_neg, if_lt_ti, if_gt_ti, bP_e0, Classical.not_not, tl_i2l]
      · simp (disch := (first | omega | (simp (disch := omega) only [ti_ofInt, ti_addc, ti_subc, ti_mulc, ti_cmul, ti_divc, ti_remc, ti_zero, ti_add, ti_sub, ti_neg, if_lt_ti, if_gt_ti, bP_e0, Classical.not_not, tl_i2l]; omega))) only [ti_ofInt, ti_addc, ti_subc, ti_mulc, ti_cmul, ti_divc, ti_remc, ti_zero, ti_add, ti_sub, ti_neg, if_lt_ti, if_gt_ti, bP_e0, Classical.not_not, tl_i2l] at c5
        omega
      · simp (disch := (first | omega | (simp (disch := omega) only [ti_ofInt, ti_addc, ti_subc, ti_mulc, ti_cmul, ti_divc, ti_remc, ti_zero, ti_add, ti_sub, ti_neg, if_lt_ti, if_gt_ti, bP_e0, Classical.not_not, tl_i2l]; omega))) only [ti_ofInt, ti_addc, ti_subc, ti_mulc, ti_cmul, ti_divc, ti_remc, ti_zero, ti_add, ti_sub, ti_neg, if_lt_ti, if_gt_ti, bP_e0, Classical.not_not, tl_i2l] at c5
        refine step _ c5 ?_
        rw [if_pos (by omega)]
        simp (disch := (first | omega | (simp (disch := omega) only [ti_ofInt, ti_addc, ti_subc, ti_mulc, ti_cmul, ti_divc, ti_remc, ti_zero, ti_add, ti_sub, ti_neg, if_lt_ti, if_gt_ti, bP_e0, Classical.not_not, tl_i2l]; omega))) only [ti_ofInt, ti_addc, ti_subc, ti_mulc, ti_cmul, ti_divc, ti_remc, ti_zero, ti_add, ti_sub, ti_neg, if_lt_ti, if_gt_ti, bP_e0, Classical.not_not, tl_i2l]
  refine (r_iconst C dX6_becomeOne_0 (r_istore_n C dX6_becomeOne_1 rfl (by decide) ?_))
  exact loop 49 0 _ _ rfl (by simp (disch := (first | omega | (simp (disch := omega) only [ti_ofInt, ti_addc, ti_subc, ti_mulc, ti_cmul, ti_divc, ti_remc, ti_zero, ti_add, ti_sub, ti_neg, if_lt_ti, if_gt_ti, bP_e0, Classical.not_not, tl_i2l]; omega))) only [ti_ofInt, ti_addc, ti_subc, ti_mulc, ti_cmul, ti_divc, ti_remc, ti_zero, ti_add, ti_sub, ti_neg, if_lt_ti, if_gt_ti, bP_e0, Classical.not_not, tl_i2l]; omega) (fun _ _ _ => rfl) (fun j q => by omega)
theorem ok_X6_multiply_66 {f : Int32} {μ : kMem} (h : kpn66 μ ∧ 0 ≤ f.toInt ∧ f.toInt ≤ 255 ∧ kpv66 μ * f.toInt < 1048576 ^ 49) : kOk yX6_multiply cX6_multiply 5 (none) rmX6_multiply shK 68 [.ref 66, .int f] μ (kN fun μ' => kpo66 μ μ' ∧ kpn66 μ' ∧ kpv66 μ' = kpv66 μ * f.toInt) := by
  refine kOk.of rfl (Nat.le_of_ble_eq_true rfl) (fun J C => ?_)
  have C : kR cX6_multiply RX6 5 rmX6_multiply shK 68 (none) _ J := C
  have loop : ∀ (k i : Nat) (c v : Int32) (z : Option Value) (μ' : kMem), i + k = 49 → v.toInt = i → 0 ≤ c.toInt → c.toInt ≤ 255 → kpo66 μ μ' → (∀ j, i ≤ j → μ'.1 67 j = μ.1 67 j) → (∀ j, j < i → 0 ≤ (μ'.1 67 j).toInt ∧ (μ'.1 67 j).toInt < 1048576) → pvF 1048576 (fun j => (μ'.1 67 j).toInt) i + c.toInt * 1048576 ^ i = f.toInt * pvF 1048576 (fun j => (μ.1 67 j).toInt) i → J 4 [some (.ref 66), some (.int f), some (.int c), some (.int v), z] [] μ' := by
    intro k
    induction k using Nat.strongRecOn with
    | ind k ih =>
      intro i c v z μ' hk hv hc0 hc1 hO hR hN hI
      have ev : v.toInt.toNat = i := by omega
      have hd := h.1 i
      have er := hR i (Nat.le_refl _)
      have bd : i < 49 → 0 ≤ (μ.1 67 i).toInt * f.toInt ∧ (μ.1 67 i).toInt * f.toInt ≤ 1048575 * 255 := by
        intro hi
        have h1 := hd hi
        exact ⟨Int.mul_nonneg h1.1 h.2.1, Int.mul_le_mul (by omega) h.2.2.1 h.2.1 (by decide)⟩
      refine (r_iload_n C dX6_multiply_4 rfl rfl (r_bipush C dX6_multiply_5 (by decide +kernel) (r_icmp_ge C (tgt := 45) dX6_multiply_7 rfl (fun c7 => (r_ret C dX6_multiply_45 ?_)) (fun c7 => (r_aload_n C dX6_multiply_10 rfl rfl (r_getR C dX6_multiply_11 fd_X6_11 nK_66 sK_66 rfl (r_iload_n C dX6_multiply_14 rfl rfl (r_iald C dX6_multiply_15 nK_67 sK_67 ?_ (r_iload_n C dX6_multiply_16 rfl rfl (r_imul C dX6_multiply_17 (r_iload_n C dX6_multiply_18 rfl rfl (r_iadd C dX6_multiply_19 (r_istore C dX6_multiply_20 (by decide) (r_aload_n C dX6_multiply_22 rfl rfl (r_getR C dX6_multiply_23 fd_X6_11 nK_66 sK_66 rfl (r_iload_n C dX6_multiply_26 rfl rfl (r_iload C dX6_multiply_27 rfl (r_ldc C dX6_multiply_29 kc_X6_15 (r_iand C dX6_multiply_31 (r_iast C dX6_multiply_32 nK_67 sK_67 ?_ (r_iload C dX6_multiply_33 rfl (r_bipush C dX6_multiply_35 (by decide +kernel) (r_iushr C dX6_multiply_37 (r_istore_n C dX6_multiply_38 rfl (by decide) (r_iinc C dX6_multiply_39 rfl (by decide) (r_goto C (tgt := 4) dX6_multiply_42 rfl ?_))))))))))))))))))))))))))
      · simp (disch := (first | omega | (simp (disch := omega) only [ti_ofInt, ti_addc, ti_subc, ti_mulc, ti_cmul, ti_divc, ti_remc, ti_zero, ti_add, ti_sub, ti_neg, if_lt_ti, if_gt_ti, bP_e0, Classical.not_not, tl_i2l]; omega))) only [ti_ofInt, ti_addc, ti_subc, ti_mulc, ti_cmul, ti_divc, ti_remc, ti_zero, ti_add, ti_sub, ti_neg, if_lt_ti, if_gt_ti, bP_e0, Classical.not_not, tl_i2l] at c7
        obtain rfl : i = 49 := by omega
        have hb := pvF_b (B := 1048576) (by decide) (f := fun j => (μ'.1 67 j).toInt) (n := 49) (fun j hj => hN j hj)
        have hlt := h.2.2.2
        unfold kpv66 at hlt ⊢
        rw [Int.mul_comm] at hlt
        have hc : c.toInt = 0 := by
          rcases (show c.toInt = 0 ∨ 1 ≤ c.toInt by omega) with q | q
          · exact q
          · have h5 : 1 * 1048576 ^ 49 ≤ c.toInt * 1048576 ^ 49 := Int.mul_le_mul_of_nonneg_right q (by decide)
            omega
        refine ⟨hO, hN, ?_⟩
        rw [hc, Int.zero_mul, Int.add_zero] at hI
        rw [hI, Int.mul_comm]
      · simp (disch := (first | omega | (simp (disch := omega) only [ti_ofInt, ti_addc, ti_subc, ti_mulc, ti_cmul, ti_divc, ti_remc, ti_zero, ti_add, ti_sub, ti_neg, if_lt_ti, if_gt_ti, bP_e0, Classical.not_not, tl_i2l]; omega))) only [ti_ofInt, ti_addc, ti_subc, ti_mulc, ti_cmul, ti_divc, ti_remc, ti_zero, ti_add, ti_sub, ti_neg, if_lt_ti, if_gt_ti, bP_e0, Classical.not_not, tl_i2l] at c7
        omega
      · simp (disch := (first | omega | (simp (disch := omega) only [ti_ofInt, ti_addc, ti_subc, ti_mulc, ti_cmul, ti_divc, ti_remc, ti_zero, ti_add, ti_sub, ti_neg, if_lt_ti, if_gt_ti, bP_e0, Classical.not_not, tl_i2l]; omega))) only [ti_ofInt, ti_addc, ti_subc, ti_mulc, ti_cmul, ti_divc, ti_remc, ti_zero, ti_add, ti_sub, ti_neg, if_lt_ti, if_gt_ti, bP_e0, Classical.not_not, tl_i2l] at c7
        omega
      · simp (disch := (first | omega | (simp (disch := omega) only [ti_ofInt, ti_addc, ti_subc, ti_mulc, ti_cmul, ti_divc, ti_remc, ti_zero, ti_add, ti_sub, ti_neg, if_lt_ti, if_gt_ti, bP_e0, Classical.not_not, tl_i2l]; omega))) only [ti_ofInt, ti_addc, ti_subc, ti_mulc, ti_cmul, ti_divc, ti_remc, ti_zero, ti_add, ti_sub, ti_neg, if_lt_ti, if_gt_ti, bP_e0, Classical.not_not, tl_i2l] at c7
        rw [ev, er]
        have hi : i < 49 := by omega
        have b1 := bd hi
        have em : (μ.1 67 i * f).toInt = (μ.1 67 i).toInt * f.toInt := ti_mul (by omega)
        have ex : (μ.1 67 i * f + c).toInt = (μ.1 67 i).toInt * f.toInt + c.toInt := by
          rw [ti_add (by rw [em]; omega), em]
        have hx0 : 0 ≤ (μ.1 67 i * f + c).toInt := by rw [ex]; omega
        have e1 := ti_and20 hx0
        have e2 := ti_shr20 hx0
        have eR : (μ'.1 67 i).toInt = (μ.1 67 i).toInt := by rw [er]
        refine ih (k - 1) (by omega) (i + 1) _ _ _ _ (by omega) (by simp (disch := (first | omega | (simp (disch := omega) only [ti_ofInt, ti_addc, ti_subc, ti_mulc, ti_cmul, ti_divc, ti_remc, ti_zero, ti_add, ti_sub, ti_neg, if_lt_ti, if_gt_ti, bP_e0, Classical.not_not, tl_i2l]; omega))) only [ti_ofInt, ti_addc, ti_subc, ti_mulc, ti_cmul, ti_divc, ti_remc, ti_zero, ti_add, ti_sub, ti_neg, if_lt_ti, if_gt_ti, bP_e0, Classical.not_not, tl_i2l]; omega) (by rw [e2, ex]; omega) (by rw [e2, ex]; omega) (kpo66_up hO) ?_ ?_ ?_
        · intro j hj
          rw [up_nek _ _ (by omega)]
          exact hR j (by omega)
        · intro j hj
          by_cases e : j = i
          · subst e
            rw [up_same, e1]
            omega
          · rw [up_nek _ _ e]
            exact hN j (by omega)
        · show pvF 1048576 (fun j => ((up μ' 67 i (μ.1 67 i * f + c &&& 1048575)).1 67 j).toInt) i + ((up μ' 67 i (μ.1 67 i * f + c &&& 1048575)).1 67 i).toInt * 1048576 ^ i + _ * 1048576 ^ (i + 1) = f.toInt * (pvF 1048576 (fun j => (μ.1 67 j).toInt) i + (μ.1 67 i).toInt * 1048576 ^ i)
          rw [pvF_congr (g := fun j => (μ'.1 67 j).toInt) (fun j hj => by rw [up_nek _ _ (by omega)]), up_same, Int.pow_succ]
          refine pvF_step ?_ hI
          rw [e1, e2, ex]
          omega
  refine (r_iconst C dX6_multiply_0 (r_istore_n C dX6_multiply_1 rfl (by decide) (r_iconst C dX6_multiply_2 (r_istore_n C dX6_multiply_3 rfl (by decide) ?_))))
  exact loop 49 0 _ _ _ _ rfl (by simp (disch := (first | omega | (simp (disch := omega) only [ti_ofInt, ti_addc, ti_subc, ti_mulc, ti_cmul, ti_divc, ti_remc, ti_zero, ti_add, ti_sub, ti_neg, if_lt_ti, if_gt_ti, bP_e0, Classical.not_not, tl_i2l]; omega))) only [ti_ofInt, ti_addc, ti_subc, ti_mulc, ti_cmul, ti_divc, ti_remc, ti_zero, ti_add, ti_sub, ti_neg, if_lt_ti, if_gt_ti, bP_e0, Classical.not_not, tl_i2l]; omega) (by simp (disch := (first | omega | (simp (disch := omega) only [ti_ofInt, ti_addc, ti_subc, ti_mulc, ti_cmul, ti_divc, ti_remc, ti_zero, ti_add, ti_sub, ti_neg, if_lt_ti, if_gt_ti, bP_e0, Classical.not_not, tl_i2l]; omega))) only [ti_ofInt, ti_addc, ti_subc, ti_mulc, ti_cmul, ti_divc, ti_remc, ti_zero, ti_add, ti_sub, ti_neg, if_lt_ti, if_gt_ti, bP_e0, Classical.not_not, tl_i2l]; omega) (by simp (disch := (first | omega | (simp (disch := omega) only [ti_ofInt, ti_addc, ti_subc, ti_mulc, ti_cmul, ti_divc, ti_remc, ti_zero, ti_add, ti_sub, ti_neg, if_lt_ti, if_gt_ti, bP_e0, Classical.not_not, tl_i2l]; omega))) only [ti_ofInt, ti_addc, ti_subc, ti_mulc, ti_cmul, ti_divc, ti_remc, ti_zero, ti_add, ti_sub, ti_neg, if_lt_ti, if_gt_ti, bP_e0, Classical.not_not, tl_i2l]; omega) (fun _ _ _ => rfl) (fun j q => rfl) (fun j q => by omega) (by simp (disch := (first | omega | (simp (disch := omega) only [ti_ofInt, ti_addc, ti_subc, ti_mulc, ti_cmul, ti_divc, ti_remc, ti_zero, ti_add, ti_sub, ti_neg, if_lt_ti, if_gt_ti, bP_e0, Classical.not_not, tl_i2l]; omega))) only [ti_ofInt, ti_addc, ti_subc, ti_mulc, ti_cmul, ti_divc, ti_remc, ti_zero, ti_add, ti_sub, ti_neg, if_lt_ti, if_gt_ti, bP_e0, Classical.not_not, tl_i2l]; simp [pvF])
theorem ok_X6_compareWith_64 {μ : kMem} (h : kpn64 μ ∧ kpn66 μ) : kOk yX6_compareWith cX6_compareWith 3 (some .int) rmX6_compareWith shK 68 [.ref 64, .ref 66] μ (kP (Int32.ofInt (if kpv64 μ < kpv66 μ then -1 else if kpv64 μ = kpv66 μ then 0 else 1)) μ) := by
  refine kOk.of rfl (Nat.le_of_ble_eq_true rfl) (fun J C => ?_)
  have C : kR cX6_compareWith RX6 3 rmX6_compareWith shK 68 (some .int) _ J := C
  have loop : ∀ (k : Nat) (v : Int32), k ≤ 49 → v.toInt = (k : Int) - 1 → (∀ j, k ≤ j → j < 49 → (μ.1 65 j).toInt = (μ.1 67 j).toInt) → J 3 [some (.ref 64), some (.ref 66), some (.int v)] [] μ := by
    intro k
    induction k using Nat.strongRecOn with
    | ind k ih =>
      intro v hk hv hI
      have b1 : ∀ j, j < 49 → 0 ≤ (μ.1 65 j).toInt ∧ (μ.1 65 j).toInt < 1048576 := h.1
      have b2 : ∀ j, j < 49 → 0 ≤ (μ.1 67 j).toInt ∧ (μ.1 67 j).toInt < 1048576 := h.2
      refine (r_iload_n C dX6_compareWith_3 rfl rfl (r_if_lt C (tgt := 44) dX6_compareWith_4 rfl (fun c4 => (r_iconst C dX6_compareWith_44 (r_iret C dX6_compareWith_45 ?_))) (fun c4 => (r_aload_n C dX6_compareWith_7 rfl rfl (r_getR C dX6_compareWith_8 fd_X6_11 nK_64 sK_64 rfl (r_iload_n C dX6_compareWith_11 rfl rfl (r_iald C dX6_compareWith_12 nK_65 sK_65 ?_ (r_aload_n C dX6_compareWith_13 rfl rfl (r_getR C dX6_compareWith_14 fd_X6_11 nK_66 sK_66 rfl (r_iload_n C dX6_compareWith_17 rfl rfl (r_iald C dX6_compareWith_18 nK_67 sK_67 ?_ (r_icmp_eq C (tgt := 38) dX6_compareWith_19 rfl (fun c19 => (r_iinc C dX6_compareWith_38 rfl (by decide) (r_goto C (tgt := 3) dX6_compareWith_41 rfl ?_))) (fun c19 => (r_aload_n C dX6_compareWith_22 rfl rfl (r_getR C dX6_compareWith_23 fd_X6_11 nK_64 sK_64 rfl (r_iload_n C dX6_compareWith_26 rfl rfl (r_iald C dX6_compareWith_27 nK_65 sK_65 ?_ (r_aload_n C dX6_compareWith_28 rfl rfl (r_getR C dX6_compareWith_29 fd_X6_11 nK_66 sK_66 rfl (r_iload_n C dX6_compareWith_32 rfl rfl (r_iald C dX6_compareWith_33 nK_67 sK_67 ?_ (r_s2P C ys_J6_compare_7cf53 lk_X6_16 dX6_compareWith_34 rfl (Nat.le_of_ble_eq_true rfl) ok_J6_compare_7cf53 (r_iret C dX6_compareWith_37 ?_)))))))))))))))))))))))
      · refine ⟨?_, rfl⟩
        have e : kpv64 μ = kpv66 μ := pvF_congr (fun j hj => hI j (by omega) hj)
        rw [e, if_neg (by omega), if_pos rfl]
      · omega
      · omega
      · have ev : v.toInt.toNat = k - 1 := by omega
        rw [ev] at c19
        refine ih (k - 1) (by omega) _ (by omega) (by simp (disch := (first | omega | (simp (disch := omega) only [ti_ofInt, ti_addc, ti_subc, ti_mulc, ti_cmul, ti_divc, ti_remc, ti_zero, ti_add, ti_sub, ti_neg, if_lt_ti, if_gt_ti, bP_e0, Classical.not_not, tl_i2l]; omega))) only [ti_ofInt, ti_addc, ti_subc, ti_mulc, ti_cmul, ti_divc, ti_remc, ti_zero, ti_add, ti_sub, ti_neg, if_lt_ti, if_gt_ti, bP_e0, Classical.not_not, tl_i2l]; omega) ?_
        intro j hj hj2
        by_cases e : j = k - 1
        · rw [e]; exact c19
        · exact hI j (by omega) hj2
      · omega
      · omega
      · have ev : v.toInt.toNat = k - 1 := by omega
        rw [ev] at c19 ⊢
        refine ⟨?_, rfl⟩
        rcases Int.lt_trichotomy (μ.1 65 (k - 1)).toInt (μ.1 67 (k - 1)).toInt with q | q | q
        · have hlt : kpv64 μ < kpv66 μ := pvF_lt (B := 1048576) (by decide) (i := k - 1) (n := 49) (by omega) b1 b2 (fun j a b => hI j (by omega) b) q
          rw [if_pos q, if_pos hlt]
        · exact absurd q c19
        · have hlt := pvF_lt (B := 1048576) (by decide) (i := k - 1) (n := 49) (by omega) b2 b1 (fun j a b => (hI j (by omega) b).symm) q
          have hlt2 : kpv66 μ < kpv64 μ := hlt
          rw [if_neg (by omega), if_neg (by omega), if_neg (by omega), if_neg (by omega)]
  refine (r_bipush C dX6_compareWith_0 (by decide +kernel) (r_istore_n C dX6_compareWith_2 rfl (by decide) ?_))
  exact loop 49 _ (Nat.le_refl _) (by simp (disch := (first | omega | (simp (disch := omega) only [ti_ofInt, ti_addc, ti_subc, ti_mulc, ti_cmul, ti_divc, ti_remc, ti_zero, ti_add, ti_sub, ti_neg, if_lt_ti, if_gt_ti, bP_e0, Classical.not_not, tl_i2l]; omega))) only [ti_ofInt, ti_addc, ti_subc, ti_mulc, ti_cmul, ti_divc, ti_remc, ti_zero, ti_add, ti_sub, ti_neg, if_lt_ti, if_gt_ti, bP_e0, Classical.not_not, tl_i2l]; omega) (fun j a b => by omega)

