/-! ===== the model: which is likelier ===== -/
def mpv (o : Nat) (μ : kMem) : Int := pvF 10000 (fun i => (μ.1 25 (o + i)).toInt) 80
def mpn (o : Nat) (μ : kMem) : Prop := ∀ i, i < 80 → 0 ≤ (μ.1 25 (o + i)).toInt ∧ (μ.1 25 (o + i)).toInt < 10000
def mpo (o : Nat) (μ μ' : kMem) : Prop := ∀ a b : Nat, ¬ (a = 25 ∧ o ≤ b ∧ b < o + 80) → μ'.1 a b = μ.1 a b
theorem mpo_up {o : Nat} {μ μ' : kMem} (h : mpo o μ μ') {i : Nat} {x : Int32} (hi : i < 80) : mpo o μ (up μ' 25 (o + i) x) := fun a b hn => by rw [up_ne _ _ (by omega)]; exact h a b hn
theorem pow256m {n : Nat} (h : n ≤ 120) : (256 : Int) ^ n * 256 < 10000 ^ 80 := by
  have h1 : ∀ d : Nat, (256 : Int) ^ n ≤ 256 ^ (n + d) := by
    intro d
    induction d with
    | zero => exact Int.le_refl _
    | succ d ih =>
      have e : (256 : Int) ^ (n + (d + 1)) = 256 ^ (n + d) * 256 := Int.pow_succ _ _
      have := Int.pow_pos (n := 256) (m := n + d) (by decide)
      omega
  have h2 := h1 (120 - n)
  rw [show n + (120 - n) = 120 by omega] at h2
  have h3 : (256 : Int) ^ 120 * 256 < 10000 ^ 80 := by decide +kernel
  omega
theorem ok_X12_grows {o : Nat} {x f : Int32} {μ : kMem} (h : (x.toInt = o ∧ o ≤ 80) ∧ mpn o μ ∧ 0 ≤ f.toInt ∧ f.toInt ≤ 256 ∧ mpv o μ * f.toInt < 10000 ^ 80) : kOk yX12_grows cX12_grows 6 (none) rmX12_grows shM 48 [.ref 0, .int x, .int f] μ (kN fun μ' => mpo o μ μ' ∧ mpn o μ' ∧ mpv o μ' = mpv o μ * f.toInt) := by
  obtain ⟨⟨hx, ho⟩, h⟩ := h
  have m80 : (Int32.ofInt 80).toInt = 80 := by decide
  refine kOk.of rfl (Nat.le_of_ble_eq_true rfl) (fun J C => ?_)
  have C : kR cX12_grows RX12 6 rmX12_grows shM 48 (none) _ J := C
  have loop : ∀ (k i : Nat) (c v : Int32) (z : Option Value) (μ' : kMem), i + k = 80 → v.toInt = i → 0 ≤ c.toInt → c.toInt ≤ 256 → mpo o μ μ' → (∀ j, i ≤ j → μ'.1 25 (o + j) = μ.1 25 (o + j)) → (∀ j, j < i → 0 ≤ (μ'.1 25 (o + j)).toInt ∧ (μ'.1 25 (o + j)).toInt < 10000) → pvF 10000 (fun j => (μ'.1 25 (o + j)).toInt) i + c.toInt * 10000 ^ i = f.toInt * pvF 10000 (fun j => (μ.1 25 (o + j)).toInt) i → J 5 [some (.ref 0), some (.int x), some (.int f), some (.int c), some (.int v), z] [] μ' := by
    intro k
    induction k using Nat.strongRecOn with
    | ind k ih =>
      intro i c v z μ' hk hv hc0 hc1 hO hR hN hI
      have hd := h.1 i
      have er := hR i (Nat.le_refl _)
      have exv : i < 80 → (x + v).toInt = ((o + i : Nat) : Int) := fun q => by rw [ti_add (by omega)]; omega
      have en : i < 80 → (x + v).toInt.toNat = o + i := fun q => by rw [exv q]; omega
      have bd : i < 80 → 0 ≤ (μ.1 25 (o + i)).toInt * f.toInt ∧ (μ.1 25 (o + i)).toInt * f.toInt ≤ 9999 * 256 := by
        intro hi
        have h1 := hd hi
        exact ⟨Int.mul_nonneg h1.1 h.2.1, Int.mul_le_mul (by omega) h.2.2.1 h.2.1 (by decide)⟩
      refine (r_iload C dX12_grows_5 rfl (r_bipush C dX12_grows_7 (by decide +kernel) (r_icmp_ge C (tgt := 55) dX12_grows_9 rfl (fun c9 => (r_ret C dX12_grows_55 ?_)) (fun c9 => (r_aload_n C dX12_grows_12 rfl rfl (r_getR C dX12_grows_13 fd_X12_78 nM_0 sM_0 rfl (r_iload_n C dX12_grows_16 rfl rfl (r_iload C dX12_grows_17 rfl (r_iadd C dX12_grows_19 (r_iald C dX12_grows_20 nM_25 sM_25 ?_ (r_iload_n C dX12_grows_21 rfl rfl (r_imul C dX12_grows_22 (r_iload_n C dX12_grows_23 rfl rfl (r_iadd C dX12_grows_24 (r_istore C dX12_grows_25 (by decide) (r_aload_n C dX12_grows_27 rfl rfl (r_getR C dX12_grows_28 fd_X12_78 nM_0 sM_0 rfl (r_iload_n C dX12_grows_31 rfl rfl (r_iload C dX12_grows_32 rfl (r_iadd C dX12_grows_34 (r_iload C dX12_grows_35 rfl (r_sipush C dX12_grows_37 (by decide +kernel) (r_irem C dX12_grows_40 (by decide) (r_iast C dX12_grows_41 nM_25 sM_25 ?_ (r_iload C dX12_grows_42 rfl (r_sipush C dX12_grows_44 (by decide +kernel) (r_idiv C dX12_grows_47 (by decide) (r_istore_n C dX12_grows_48 rfl (by decide) (r_iinc C dX12_grows_49 rfl (by decide) (r_goto C (tgt := 5) dX12_grows_52 rfl ?_))))))))))))))))))))))))))))))
      · rw [m80] at c9
        obtain rfl : i = 80 := by omega
        have hb := pvF_b (B := 10000) (by decide) (f := fun j => (μ'.1 25 (o + j)).toInt) (n := 80) (fun j hj => hN j hj)
        have hlt := h.2.2.2
        unfold mpv at hlt ⊢
        rw [Int.mul_comm] at hlt
        have hc : c.toInt = 0 := by
          rcases (show c.toInt = 0 ∨ 1 ≤ c.toInt by omega) with q | q
          · exact q
          · have h5 : 1 * 10000 ^ 80 ≤ c.toInt * 10000 ^ 80 := Int.mul_le_mul_of_nonneg_right q (by decide)
            omega
        refine ⟨hO, hN, ?_⟩
        rw [hc, Int.zero_mul, Int.add_zero] at hI
        rw [hI, Int.mul_comm]
      · rw [m80] at c9
        rw [exv (by omega)]
        omega
      · rw [m80] at c9
        rw [exv (by omega)]
        omega
      · rw [m80] at c9
        have hi : i < 80 := by omega
        rw [en hi, er]
        have b1 := bd hi
        have em : (μ.1 25 (o + i) * f).toInt = (μ.1 25 (o + i)).toInt * f.toInt := ti_mul (by omega)
        have ex : (μ.1 25 (o + i) * f + c).toInt = (μ.1 25 (o + i)).toInt * f.toInt + c.toInt := by
          rw [ti_add (by rw [em]; omega), em]
        have hx0 : 0 ≤ (μ.1 25 (o + i) * f + c).toInt := by rw [ex]; omega
        have e1 : (krem (μ.1 25 (o + i) * f + c) (Int32.ofInt 10000)).toInt = (μ.1 25 (o + i) * f + c).toInt % 10000 := ti_remc (by omega)
        have e2 : ((μ.1 25 (o + i) * f + c) / (Int32.ofInt 10000)).toInt = (μ.1 25 (o + i) * f + c).toInt / 10000 := ti_divc (by omega)
        have eR : (μ'.1 25 (o + i)).toInt = (μ.1 25 (o + i)).toInt := by rw [er]
        refine ih (k - 1) (by omega) (i + 1) _ _ _ _ (by omega) (by simp (disch := (first | omega | (simp (disch := omega) only [ti_ofInt, ti_addc, ti_subc, ti_mulc, ti_cmul, ti_divc, ti_remc, ti_zero, ti_add, ti_sub, ti_neg, if_lt_ti, if_gt_ti, bP_e0, Classical.not_not, tl_i2l]; omega))) only [ti_ofInt, ti_addc, ti_subc, ti_mulc, ti_cmul, ti_divc, ti_remc, ti_zero, ti_add, ti_sub, ti_neg, if_lt_ti, if_gt_ti, bP_e0, Classical.not_not, tl_i2l]; omega) (by rw [e2, ex]; omega) (by rw [e2, ex]; omega) (mpo_up hO hi) ?_ ?_ ?_
        · intro j hj
          rw [up_nek _ _ (by omega)]
          exact hR j (by omega)
        · intro j hj
          by_cases e : j = i
          · subst e
            rw [up_same, e1]
            omega
          · rw [up_nek _ _ (by omega)]
            exact hN j (by omega)
        · show pvF 10000 (fun j => ((up μ' 25 (o + i) (krem (μ.1 25 (o + i) * f + c) (Int32.ofInt 10000))).1 25 (o + j)).toInt) i + ((up μ' 25 (o + i) (krem (μ.1 25 (o + i) * f + c) (Int32.ofInt 10000))).1 25 (o + i)).toInt * 10000 ^ i + _ * 10000 ^ (i + 1) = f.toInt * (pvF 10000 (fun j => (μ.1 25 (o + j)).toInt) i + (μ.1 25 (o + i)).toInt * 10000 ^ i)
          rw [pvF_congr (g := fun j => (μ'.1 25 (o + j)).toInt) (fun j hj => by rw [up_nek _ _ (by omega)]), up_same, Int.pow_succ]
          refine pvF_step ?_ hI
          rw [e1, e2, ex]
          omega
  refine (r_iconst C dX12_grows_0 (r_istore_n C dX12_grows_1 rfl (by decide) (r_iconst C dX12_grows_2 (r_istore C dX12_grows_3 (by decide) ?_))))
  exact loop 80 0 _ _ _ _ rfl (by simp (disch := (first | omega | (simp (disch := omega) only [ti_ofInt, ti_addc, ti_subc, ti_mulc, ti_cmul, ti_divc, ti_remc, ti_zero, ti_add, ti_sub, ti_neg, if_lt_ti, if_gt_ti, bP_e0, Classical.not_not, tl_i2l]; omega))) only [ti_ofInt, ti_addc, ti_subc, ti_mulc, ti_cmul, ti_divc, ti_remc, ti_zero, ti_add, ti_sub, ti_neg, if_lt_ti, if_gt_ti, bP_e0, Classical.not_not, tl_i2l]; omega) (by simp (disch := (first | omega | (simp (disch := omega) only [ti_ofInt, ti_addc, ti_subc, ti_mulc, ti_cmul, ti_divc, ti_remc, ti_zero, ti_add, ti_sub, ti_neg, if_lt_ti, if_gt_ti, bP_e0, Classical.not_not, tl_i2l]; omega))) only [ti_ofInt, ti_addc, ti_subc, ti_mulc, ti_cmul, ti_divc, ti_remc, ti_zero, ti_add, ti_sub, ti_neg, if_lt_ti, if_gt_ti, bP_e0, Classical.not_not, tl_i2l]; omega) (by simp (disch := (first | omega | (simp (disch := omega) only [ti_ofInt, ti_addc, ti_subc, ti_mulc, ti_cmul, ti_divc, ti_remc, ti_zero, ti_add, ti_sub, ti_neg, if_lt_ti, if_gt_ti, bP_e0, Classical.not_not, tl_i2l]; omega))) only [ti_ofInt, ti_addc, ti_subc, ti_mulc, ti_cmul, ti_divc, ti_remc, ti_zero, ti_add, ti_sub, ti_neg, if_lt_ti, if_gt_ti, bP_e0, Classical.not_not, tl_i2l]; omega) (fun _ _ _ => rfl) (fun j q => rfl) (fun j q => by omega) (by simp (disch := (first | omega | (simp (disch := omega) only [ti_ofInt, ti_addc, ti_subc, ti_mulc, ti_cmul, ti_divc, ti_remc, ti_zero, ti_add, ti_sub, ti_neg, if_lt_ti, if_gt_ti, bP_e0, Classical.not_not, tl_i2l]; omega))) only [ti_ofInt, ti_addc, ti_subc, ti_mulc, ti_cmul, ti_divc, ti_remc, ti_zero, ti_add, ti_sub, ti_neg, if_lt_ti, if_gt_ti, bP_e0, Classical.not_not, tl_i2l]; simp [pvF])
def mchK (μ : kMem) (h : Int) : Int → Int := fun k => mge μ h k - mle μ h k + 1
theorem mchK_b {μ : kMem} (h : mHdOk μ) (x k : Int) : 1 ≤ mchK μ x k ∧ mchK μ x k ≤ 256 := by
  have := mle_b h x k
  unfold mchK
  omega
theorem prdF_b6 {f : Nat → Int} (h : ∀ i, 1 ≤ f i ∧ f i ≤ 256) : ∀ n, 1 ≤ prdF f n ∧ prdF f n ≤ 256 ^ n := by
  intro n
  induction n with
  | zero => exact ⟨Int.le_refl _, by rw [Int.pow_zero]; exact Int.le_refl _⟩
  | succ n ih =>
    have h1 := h n
    show 1 ≤ prdF f n * f n ∧ prdF f n * f n ≤ 256 ^ (n + 1)
    refine ⟨?_, ?_⟩
    · have : 1 * 1 ≤ prdF f n * f n := Int.mul_le_mul ih.1 h1.1 (by decide) (by omega)
      omega
    · rw [Int.pow_succ]
      exact Int.mul_le_mul ih.2 h1.2 (by omega) (Int.le_of_lt (Int.pow_pos (by decide)))
theorem ok_X12_product {o : Nat} {x y : Int32} {ks : List Int} {μ : kMem} (h : (x.toInt = o ∧ (o = 0 ∨ o = 80)) ∧ (0 ≤ y.toInt ∧ y.toInt < 8) ∧ mHdOk μ ∧ mK2 ks μ ∧ (∀ k, k ∈ ks → 0 ≤ k ∧ k < 5) ∧ ks.length ≤ 120) : kOk yX12_product cX12_product 4 (none) rmX12_product shM 48 [.ref 0, .int x, .int y] μ (kN fun μ' => mpo o μ μ' ∧ mpn o μ' ∧ mpv o μ' = pdP (mchK μ y.toInt) (some ks)) := by
  obtain ⟨⟨hx, ho⟩, ⟨hy, hy8⟩, hH, hK, hk5, hl⟩ := h
  have z0 : (Int32.ofInt 0).toInt = 0 := by decide
  have o1 : (Int32.ofInt 1).toInt = 1 := by decide
  have m80 : (Int32.ofInt 80).toInt = 80 := by decide
  have e5 : (Int32.ofInt 5 * y).toInt = 5 * y.toInt := ti_cmul (by omega)
  obtain ⟨fn, hfn⟩ : ∃ fn : Nat → Int, fn = fun p => mchK μ y.toInt (ks.getD p 0) := ⟨_, rfl⟩
  have hfb : ∀ p, 1 ≤ fn p ∧ fn p ≤ 256 := fun p => by
    rw [hfn]
    exact mchK_b hH _ _
  have hpb := prdF_b6 hfb
  refine kOk.of rfl (Nat.le_of_ble_eq_true rfl) (fun J C => ?_)
  have C : kR cX12_product RX12 4 rmX12_product shM 48 (none) _ J := C
  have loop2 : ∀ (n i : Nat) (v : Int32) (μ' : kMem), i + n = ks.length → v.toInt = i → mpo o μ μ' → mpn o μ' → mpv o μ' = prdF fn i → J 33 [some (.ref 0), some (.int x), some (.int y), some (.int v)] [] μ' := by
    intro n
    induction n using Nat.strongRecOn with
    | ind n ih =>
      intro i v μ' hin hv hO hN hV
      have ev : v.toInt.toNat = i := by omega
      have e28 : μ'.1 0 28 = μ.1 0 28 := hO 0 28 (by omega)
      have e24 : μ'.1 24 i = μ.1 24 i := hO 24 i (by omega)
      have eG : ∀ j, μ'.1 15 j = μ.1 15 j := fun j => hO 15 j (by omega)
      have eLs : ∀ j, μ'.1 14 j = μ.1 14 j := fun j => hO 14 j (by omega)
      have hkd : ∀ q : i < ks.length, (μ.1 24 i).toInt = ks[i] ∧ 0 ≤ ks[i] ∧ ks[i] < 5 := fun q => ⟨hK.2 i q (by omega), hk5 _ (List.getElem_mem q)⟩
      have eix : ∀ q : i < ks.length, (Int32.ofInt 5 * y + μ.1 24 i).toInt = y.toInt * 5 + ks[i] := fun q => by
        have := hkd q
        rw [ti_add (by omega), e5]
        omega
      have hval : ∀ q : i < ks.length, (μ.1 15 (Int32.ofInt 5 * y + μ.1 24 i).toInt.toNat - μ.1 14 (Int32.ofInt 5 * y + μ.1 24 i).toInt.toNat + Int32.ofInt 1).toInt = fn i := fun q => by
        have k1 := hkd q
        have k2 := hH.2 (y.toInt * 5 + ks[i]).toNat
        rw [eix q]
        have e1 : (μ.1 15 (y.toInt * 5 + ks[i]).toNat - μ.1 14 (y.toInt * 5 + ks[i]).toNat).toInt = (μ.1 15 (y.toInt * 5 + ks[i]).toNat).toInt - (μ.1 14 (y.toInt * 5 + ks[i]).toNat).toInt := ti_sub (by omega)
        rw [ti_addc (by omega), e1, hfn]
        dsimp only
        rw [List.getD_eq_getElem?_getD, List.getElem?_eq_getElem q]
        unfold mchK mge mle
        rw [Option.getD_some, if_pos k1.2, if_pos k1.2]
      refine (r_iload_n C dX12_product_33 rfl rfl (r_aload_n C dX12_product_34 rfl rfl (r_getI C dX12_product_35 fd_X12_311 nM_0 sM_0 rfl (r_icmp_ge C (tgt := 85) dX12_product_38 rfl (fun c38 => (r_ret C dX12_product_85 ?_)) (fun c38 => (r_aload_n C dX12_product_41 rfl rfl (r_iload_n C dX12_product_42 rfl rfl (r_aload_n C dX12_product_43 rfl rfl (r_getR C dX12_product_44 fd_X12_48 nM_0 sM_0 rfl (r_iconst C dX12_product_47 (r_iload_n C dX12_product_48 rfl rfl (r_imul C dX12_product_49 (r_aload_n C dX12_product_50 rfl rfl (r_getR C dX12_product_51 fd_X12_75 nM_0 sM_0 rfl (r_iload_n C dX12_product_54 rfl rfl (r_iald C dX12_product_55 nM_24 sM_24 ?_ (r_iadd C dX12_product_56 (r_iald C dX12_product_57 nM_15 sM_15 ?_ (r_aload_n C dX12_product_58 rfl rfl (r_getR C dX12_product_59 fd_X12_45 nM_0 sM_0 rfl (r_iconst C dX12_product_62 (r_iload_n C dX12_product_63 rfl rfl (r_imul C dX12_product_64 (r_aload_n C dX12_product_65 rfl rfl (r_getR C dX12_product_66 fd_X12_75 nM_0 sM_0 rfl (r_iload_n C dX12_product_69 rfl rfl (r_iald C dX12_product_70 nM_24 sM_24 ?_ (r_iadd C dX12_product_71 (r_iald C dX12_product_72 nM_14 sM_14 ?_ (r_isub C dX12_product_73 (r_iconst C dX12_product_74 (r_iadd C dX12_product_75 (r_v2N C yv_X12_grows lk_X12_329 dX12_product_76 rfl nM_0 sM_0 rfl (Nat.le_of_ble_eq_true rfl) (ok_X12_grows (o := o) ?_) (fun μ76 h76 => (r_iinc C dX12_product_79 rfl (by decide) (r_goto C (tgt := 33) dX12_product_82 rfl ?_))))))))))))))))))))))))))))))))))))
      · rw [e28, hK.1] at c38
        have ei : i = ks.length := by omega
        subst ei
        refine ⟨hO, hN, ?_⟩
        rw [hV, hfn]
        rfl
      · rw [e28, hK.1] at c38
        omega
      · rw [e28, hK.1] at c38
        have hi : i < ks.length := by omega
        rw [ev, e24, eix hi]
        have := hkd hi
        omega
      · rw [e28, hK.1] at c38
        omega
      · rw [e28, hK.1] at c38
        have hi : i < ks.length := by omega
        rw [ev, e24, eix hi]
        have := hkd hi
        omega
      · rw [e28, hK.1] at c38
        have hi : i < ks.length := by omega
        have hf := hfb i
        have hp1 := hpb i
        rw [ev, e24, eG, eLs, hval hi]
        refine ⟨⟨hx, by omega⟩, hN, by omega, by omega, ?_⟩
        rw [hV]
        have h3 := pow256m (n := i) (by omega)
        have h4 : prdF fn i * fn i ≤ 256 ^ i * 256 := Int.mul_le_mul hp1.2 hf.2 (by omega) (by omega)
        omega
      · rw [e28, hK.1] at c38
        have hi : i < ks.length := by omega
        rw [ev, e24, eG, eLs, hval hi] at h76
        refine ih (n - 1) (by omega) (i + 1) _ _ (by omega) (by simp (disch := (first | omega | (simp (disch := omega) only [ti_ofInt, ti_addc, ti_subc, ti_mulc, ti_cmul, ti_divc, ti_remc, ti_zero, ti_add, ti_sub, ti_neg, if_lt_ti, if_gt_ti, bP_e0, Classical.not_not, tl_i2l]; omega))) only [ti_ofInt, ti_addc, ti_subc, ti_mulc, ti_cmul, ti_divc, ti_remc, ti_zero, ti_add, ti_sub, ti_neg, if_lt_ti, if_gt_ti, bP_e0, Classical.not_not, tl_i2l]; omega) (fun a b q => by rw [h76.1 a b q]; exact hO a b q) h76.2.1 ?_
        rw [h76.2.2, hV]
        rfl
  have loop : ∀ (k i : Nat) (v : Int32) (μ' : kMem), i + k = 80 → v.toInt = i → mpo o μ μ' → (∀ j, j < i → (μ'.1 25 (o + j)).toInt = if j = 0 then 1 else 0) → J 2 [some (.ref 0), some (.int x), some (.int y), some (.int v)] [] μ' := by
    intro k
    induction k using Nat.strongRecOn with
    | ind k ih =>
      intro i v μ' hk hv hO hI
      have exv : i < 80 → (x + v).toInt = ((o + i : Nat) : Int) := fun q => by rw [ti_add (by omega)]; omega
      have en : i < 80 → (x + v).toInt.toNat = o + i := fun q => by rw [exv q]; omega
      refine (r_iload_n C dX12_product_2 rfl rfl (r_bipush C dX12_product_3 (by decide +kernel) (r_icmp_ge C (tgt := 31) dX12_product_5 rfl (fun c5 => (r_iconst C dX12_product_31 (r_istore_n C dX12_product_32 rfl (by decide) ?_))) (fun c5 => (r_aload_n C dX12_product_8 rfl rfl (r_getR C dX12_product_9 fd_X12_78 nM_0 sM_0 rfl (r_iload_n C dX12_product_12 rfl rfl (r_iload_n C dX12_product_13 rfl rfl (r_iadd C dX12_product_14 (r_iload_n C dX12_product_15 rfl rfl (r_if_ne C (tgt := 23) dX12_product_16 rfl (fun c16 => (r_iconst C dX12_product_23 (r_iast C dX12_product_24 nM_25 sM_25 ?_ (r_iinc C dX12_product_25 rfl (by decide) (r_goto C (tgt := 2) dX12_product_28 rfl ?_))))) (fun c16 => (r_iconst C dX12_product_19 (r_goto C (tgt := 24) dX12_product_20 rfl (r_iast C dX12_product_24 nM_25 sM_25 ?_ (r_iinc C dX12_product_25 rfl (by decide) (r_goto C (tgt := 2) dX12_product_28 rfl ?_)))))))))))))))))
      · rw [m80] at c5
        have ei : i = 80 := by omega
        subst ei
        have one : mpv o μ' = 1 := by
          have e : ∀ n, pvF 10000 (fun j => if j = 0 then (1 : Int) else 0) (n + 1) = 1 := by
            intro n
            induction n with
            | zero => rfl
            | succ n ih =>
              show pvF 10000 (fun j => if j = 0 then (1 : Int) else 0) (n + 1) + (if n + 1 = 0 then (1 : Int) else 0) * 10000 ^ (n + 1) = 1
              rw [ih, if_neg (by omega), Int.zero_mul, Int.add_zero]
          unfold mpv
          rw [pvF_congr (g := fun j => if j = 0 then (1 : Int) else 0) (fun j hj => hI j hj)]
          exact e 79
        refine loop2 ks.length 0 _ μ' (by omega) (by simp (disch := (first | omega | (simp (disch := omega) only [ti_ofInt, ti_addc, ti_subc, ti_mulc, ti_cmul, ti_divc, ti_remc, ti_zero, ti_add, ti_sub, ti_neg, if_lt_ti, if_gt_ti, bP_e0, Classical.not_not, tl_i2l]; omega))) only [ti_ofInt, ti_addc, ti_subc, ti_mulc, ti_cmul, ti_divc, ti_remc, ti_zero, ti_add, ti_sub, ti_neg, if_lt_ti, if_gt_ti, bP_e0, Classical.not_not, tl_i2l]; rfl) hO (fun j hj => ?_) one
        rw [hI j hj]
        split <;> omega
      · rw [m80] at c5
        rw [exv (by omega)]
        omega
      · rw [m80] at c5
        rw [en (by omega)]
        refine ih (k - 1) (by omega) (i + 1) _ _ (by omega) (by simp (disch := (first | omega | (simp (disch := omega) only [ti_ofInt, ti_addc, ti_subc, ti_mulc, ti_cmul, ti_divc, ti_remc, ti_zero, ti_add, ti_sub, ti_neg, if_lt_ti, if_gt_ti, bP_e0, Classical.not_not, tl_i2l]; omega))) only [ti_ofInt, ti_addc, ti_subc, ti_mulc, ti_cmul, ti_divc, ti_remc, ti_zero, ti_add, ti_sub, ti_neg, if_lt_ti, if_gt_ti, bP_e0, Classical.not_not, tl_i2l]; omega) (mpo_up hO (by omega)) (fun j hj => ?_)
        by_cases e : j = i
        · subst e
          rw [up_same, if_neg (by omega), z0]
        · rw [up_nek _ _ (by omega)]
          exact hI j (by omega)
      · rw [m80] at c5
        rw [exv (by omega)]
        omega
      · rw [m80] at c5
        rw [en (by omega)]
        refine ih (k - 1) (by omega) (i + 1) _ _ (by omega) (by simp (disch := (first | omega | (simp (disch := omega) only [ti_ofInt, ti_addc, ti_subc, ti_mulc, ti_cmul, ti_divc, ti_remc, ti_zero, ti_add, ti_sub, ti_neg, if_lt_ti, if_gt_ti, bP_e0, Classical.not_not, tl_i2l]; omega))) only [ti_ofInt, ti_addc, ti_subc, ti_mulc, ti_cmul, ti_divc, ti_remc, ti_zero, ti_add, ti_sub, ti_neg, if_lt_ti, if_gt_ti, bP_e0, Classical.not_not, tl_i2l]; omega) (mpo_up hO (by omega)) (fun j hj => ?_)
        by_cases e : j = i
        · subst e
          rw [up_same, if_pos (by omega), o1]
        · rw [up_nek _ _ (by omega)]
          exact hI j (by omega)
  refine (r_iconst C dX12_product_0 (r_istore_n C dX12_product_1 rfl (by decide) ?_))
  exact loop 80 0 _ μ rfl (by simp (disch := (first | omega | (simp (disch := omega) only [ti_ofInt, ti_addc, ti_subc, ti_mulc, ti_cmul, ti_divc, ti_remc, ti_zero, ti_add, ti_sub, ti_neg, if_lt_ti, if_gt_ti, bP_e0, Classical.not_not, tl_i2l]; omega))) only [ti_ofInt, ti_addc, ti_subc, ti_mulc, ti_cmul, ti_divc, ti_remc, ti_zero, ti_add, ti_sub, ti_neg, if_lt_ti, if_gt_ti, bP_e0, Classical.not_not, tl_i2l]; rfl) (fun _ _ _ => rfl) (fun j q => absurd q (Nat.not_lt_zero _))

