/-! ===== Grammar: names, groups, lines ===== -/
theorem tkL_two {t : Nat → Int} {a k s e : Nat} : tkL t a (a + k) = tkL t s e ↔ k = e - s ∧ ∀ i, i < k → t (a + i) = t (s + i) := by
  constructor
  · intro h
    have h := tkL_eq.mp h
    have h1 := h.1
    rw [tkL_len] at h1
    refine ⟨by omega, fun i hi => ?_⟩
    have := h.2 i (by rw [tkL_len]; omega)
    rw [tkL_get] at this
    exact this
  · rintro ⟨h1, h2⟩
    refine tkL_eq.mpr ⟨by rw [tkL_len]; omega, fun i hi => ?_⟩
    rw [tkL_get]
    rw [tkL_len] at hi
    exact h2 i (by omega)
/-- what the draft tells -/
noncomputable def kdm (μ : kMem) : kDr := (fun l => if l < 26 then (μ.1 9 l).toInt else 0, (μ.1 8 5).toInt.toNat, fun w => if w < (μ.1 8 5).toInt.toNat then (μ.1 12 w).toInt else 0, fun w => if w < (μ.1 8 5).toInt.toNat then tkL (kt μ) (μ.1 14 w).toInt.toNat ((μ.1 14 w).toInt.toNat + (μ.1 15 w).toInt.toNat) else [])
def kDfOk (μ : kMem) : Prop := dOk (kdm μ) ∧ (μ.1 8 4).toInt = dL (kdm μ) ∧ 0 ≤ (μ.1 8 5).toInt ∧ (∀ l, l < 26 → (μ.1 10 l).toInt = dnF 5 (dM (kdm μ) l) ∧ ∀ j, j < dnF 5 (dM (kdm μ) l) → (μ.1 11 (l * 5 + j)).toInt = dM (kdm μ) l / 10 ^ j % 10 - 1) ∧ ∀ w, w < dW (kdm μ) → 0 ≤ (μ.1 14 w).toInt ∧ 0 ≤ (μ.1 15 w).toInt ∧ (μ.1 14 w).toInt + (μ.1 15 w).toInt ≤ kn μ
theorem df_same {μ μ' : kMem} (h : ∀ a b : Nat, a ≠ 13 → μ'.1 a b = μ.1 a b) : kdm μ' = kdm μ ∧ (kDfOk μ → kDfOk μ') := by
  obtain ⟨x1, x2, x3⟩ := tx_same (μ := μ) (μ' := μ') (fun a b q => h a b (by omega))
  have e : kdm μ' = kdm μ := by
    unfold kdm
    rw [x1]
    simp (disch := decide) only [h]
    rfl
  refine ⟨e, fun q => ?_⟩
  unfold kDfOk at q ⊢
  rw [e, x2]
  simp (disch := decide) only [h]
  exact q
theorem kDf_w {μ : kMem} (h : kDfOk μ) : (dW (kdm μ) : Int) = (μ.1 8 5).toInt ∧ dW (kdm μ) ≤ 20 := by
  have e : dW (kdm μ) = (μ.1 8 5).toInt.toNat := rfl
  have := h.2.2.1
  have := h.1.1
  omega
theorem kDf_M {μ : kMem} {l : Nat} (h : l < 26) : dM (kdm μ) l = (μ.1 9 l).toInt := by
  show (if l < 26 then (μ.1 9 l).toInt else 0) = _
  rw [if_pos h]
theorem kDf_G {μ : kMem} {w : Nat} (h : w < dW (kdm μ)) : dG (kdm μ) w = (μ.1 12 w).toInt := by
  show (if w < (μ.1 8 5).toInt.toNat then (μ.1 12 w).toInt else 0) = _
  exact if_pos h
theorem kDf_N {μ : kMem} {w : Nat} (h : w < dW (kdm μ)) : dN (kdm μ) w = tkL (kt μ) (μ.1 14 w).toInt.toNat ((μ.1 14 w).toInt.toNat + (μ.1 15 w).toInt.toNat) := by
  show (if w < (μ.1 8 5).toInt.toNat then _ else _) = _
  exact if_pos h
theorem kDf_S {μ : kMem} (h : kDfOk μ) {l : Nat} (hl : l < 26) : 0 < (μ.1 10 l).toInt ↔ 0 < dM (kdm μ) l := by
  have := (h.2.2.2.1 l hl).1
  have e := dnF_pos (m := dM (kdm μ) l)
  omega
theorem ok_X2_isName {x : Int32} {μ : kMem} (h : kTok μ ∧ kDfOk μ ∧ 0 ≤ x.toInt ∧ x.toInt < (μ.1 8 5).toInt) : kOk yX2_isName cX2_isName 3 (some .boolean) rmX2_isName shK 68 [.ref 13, .int x] μ (kP (bP (dN (kdm μ) x.toInt.toNat = tkL (kt μ) (kgs μ) (teF (kt μ) (kn μ) (kgs μ)))) μ) := by
  obtain ⟨h, hd, hx, hx2⟩ := h
  obtain ⟨w, hw⟩ : ∃ w : Nat, x.toInt = w := ⟨x.toInt.toNat, by omega⟩
  have ew : x.toInt.toNat = w := by omega
  have hn := kn_i h.1
  have hs := h.st
  have hz := h.sz
  have hte := h.te
  have hdw := kDf_w hd
  have hnm := hd.2.2.2.2 w (by omega)
  have m20 : (Int32.ofInt 20).toInt = 20 := by decide
  rw [ew, kDf_N (by omega)]
  have hiff := tkL_two (t := kt μ) (a := (μ.1 14 w).toInt.toNat) (k := (μ.1 15 w).toInt.toNat) (s := kgs μ) (e := teF (kt μ) (kn μ) (kgs μ))
  refine kOk.of rfl (Nat.le_of_ble_eq_true rfl) (fun J C => ?_)
  have C : kR cX2_isName RX2 3 rmX2_isName shK 68 (some .boolean) _ J := C
  have loop : ∀ (k p : Nat) (v : Int32), p + k = teF (kt μ) (kn μ) (kgs μ) - kgs μ → v.toInt = p → (μ.1 15 w).toInt.toNat = teF (kt μ) (kn μ) (kgs μ) - kgs μ → (∀ q, q < p → kt μ ((μ.1 14 w).toInt.toNat + q) = kt μ (kgs μ + q)) → J 27 [some (.ref 13), some (.int x), some (.int v)] [] μ := by
    intro k
    induction k using Nat.strongRecOn with
    | ind k ih =>
      intro p v hk hv h1 hI
      have ex : p < teF (kt μ) (kn μ) (kgs μ) - kgs μ → (μ.1 13 5 + v).toInt = ((kgs μ + p : Nat) : Int) := fun q => by rw [ti_add (by omega)]; omega
      have et : p < teF (kt μ) (kn μ) (kgs μ) - kgs μ → (tat μ (μ.1 13 5 + v).toInt).toInt = kt μ (kgs μ + p) := fun q => by rw [tat_kt (by rw [ex q]; omega) (by rw [ex q]; omega), ex q, Int.toNat_natCast]
      have ex2 : p < teF (kt μ) (kn μ) (kgs μ) - kgs μ → (μ.1 14 w + v).toInt = (((μ.1 14 w).toInt.toNat + p : Nat) : Int) := fun q => by rw [ti_add (by omega)]; omega
      have et2 : p < teF (kt μ) (kn μ) (kgs μ) - kgs μ → (tat μ (μ.1 14 w + v).toInt).toInt = kt μ ((μ.1 14 w).toInt.toNat + p) := fun q => by rw [tat_kt (by rw [ex2 q]; omega) (by rw [ex2 q]; omega), ex2 q, Int.toNat_natCast]
      refine (r_iload_n C dX2_isName_27 rfl rfl (r_aload_n C dX2_isName_28 rfl rfl (r_v0P C yv_X2_tokenSize lk_X2_71 dX2_isName_29 rfl nK_13 sK_13 rfl (Nat.le_of_ble_eq_true rfl) ok_X2_tokenSize (r_icmp_ge C (tgt := 74) dX2_isName_32 rfl (fun c32 => (r_iconst C dX2_isName_74 (r_zret C dX2_isName_75 rfl ?_))) (fun c32 => (r_aload_n C dX2_isName_35 rfl rfl (r_getR C dX2_isName_36 fd_X2_20 nK_13 sK_13 rfl (r_aload_n C dX2_isName_39 rfl rfl (r_getR C dX2_isName_40 fd_X2_11 nK_13 sK_13 rfl (r_iload_n C dX2_isName_43 rfl rfl (r_iald C dX2_isName_44 nK_14 sK_14 ?_ (r_iload_n C dX2_isName_45 rfl rfl (r_iadd C dX2_isName_46 (r_v1P C yv_X10_at lk_X2_67 dX2_isName_47 rfl nK_1 sK_1 rfl (Nat.le_of_ble_eq_true rfl) (ok_X10_at ?_) (r_aload_n C dX2_isName_50 rfl rfl (r_getR C dX2_isName_51 fd_X2_20 nK_13 sK_13 rfl (r_aload_n C dX2_isName_54 rfl rfl (r_getI C dX2_isName_55 fd_X2_41 nK_13 sK_13 rfl (r_iload_n C dX2_isName_58 rfl rfl (r_iadd C dX2_isName_59 (r_v1P C yv_X10_at lk_X2_67 dX2_isName_60 rfl nK_1 sK_1 rfl (Nat.le_of_ble_eq_true rfl) (ok_X10_at ?_) (r_icmp_eq C (tgt := 68) dX2_isName_63 rfl (fun c63 => (r_iinc C dX2_isName_68 rfl (by decide) (r_goto C (tgt := 27) dX2_isName_71 rfl ?_))) (fun c63 => (r_iconst C dX2_isName_66 (r_zret C dX2_isName_67 rfl ?_)))))))))))))))))))))))))
      · rw [hz] at c32
        exact ⟨bP_1 (hiff.mpr ⟨h1, fun i hi => hI i (by omega)⟩), rfl⟩
      · omega
      · exact h.1.1.2
      · exact h.1.1.2
      · rw [hz] at c32
        rw [ew, et (by omega), et2 (by omega)] at c63
        refine ih (k - 1) (by omega) (p + 1) _ (by omega) (by simp (disch := (first | omega | (simp (disch := omega) only [ti_ofInt, ti_addc, ti_subc, ti_mulc, ti_cmul, ti_divc, ti_remc, ti_zero, ti_add, ti_sub, ti_neg, if_lt_ti, if_gt_ti, bP_e0, Classical.not_not, tl_i2l]; omega))) only [ti_ofInt, ti_addc, ti_subc, ti_mulc, ti_cmul, ti_divc, ti_remc, ti_zero, ti_add, ti_sub, ti_neg, if_lt_ti, if_gt_ti, bP_e0, Classical.not_not, tl_i2l]; omega) h1 ?_
        intro q hq
        by_cases e : q = p
        · subst e; exact c63
        · exact hI q (by omega)
      · rw [hz] at c32
        rw [ew, et (by omega), et2 (by omega)] at c63
        exact ⟨bP_0 (fun z => c63 ((hiff.mp z).2 p (by omega))), rfl⟩
  refine (r_iload_n C dX2_isName_0 rfl rfl (r_if_lt C (tgt := 23) dX2_isName_1 rfl (fun c1 => (r_iconst C dX2_isName_23 (r_zret C dX2_isName_24 rfl ?_))) (fun c1 => (r_iload_n C dX2_isName_4 rfl rfl (r_bipush C dX2_isName_5 (by decide +kernel) (r_icmp_ge C (tgt := 23) dX2_isName_7 rfl (fun c7 => (r_iconst C dX2_isName_23 (r_zret C dX2_isName_24 rfl ?_))) (fun c7 => (r_aload_n C dX2_isName_10 rfl rfl (r_getR C dX2_isName_11 fd_X2_17 nK_13 sK_13 rfl (r_iload_n C dX2_isName_14 rfl rfl (r_iald C dX2_isName_15 nK_15 sK_15 ?_ (r_aload_n C dX2_isName_16 rfl rfl (r_v0P C yv_X2_tokenSize lk_X2_71 dX2_isName_17 rfl nK_13 sK_13 rfl (Nat.le_of_ble_eq_true rfl) ok_X2_tokenSize (r_icmp_eq C (tgt := 25) dX2_isName_20 rfl (fun c20 => (r_iconst C dX2_isName_25 (r_istore_n C dX2_isName_26 rfl (by decide) ?_))) (fun c20 => (r_iconst C dX2_isName_23 (r_zret C dX2_isName_24 rfl ?_)))))))))))))))))
  · omega
  · omega
  · omega
  · rw [hz, ew] at c20
    exact loop (teF (kt μ) (kn μ) (kgs μ) - kgs μ) 0 _ (by omega) (by simp (disch := (first | omega | (simp (disch := omega) only [ti_ofInt, ti_addc, ti_subc, ti_mulc, ti_cmul, ti_divc, ti_remc, ti_zero, ti_add, ti_sub, ti_neg, if_lt_ti, if_gt_ti, bP_e0, Classical.not_not, tl_i2l]; omega))) only [ti_ofInt, ti_addc, ti_subc, ti_mulc, ti_cmul, ti_divc, ti_remc, ti_zero, ti_add, ti_sub, ti_neg, if_lt_ti, if_gt_ti, bP_e0, Classical.not_not, tl_i2l]; rfl) (by omega) (fun q hq => absurd hq (Nat.not_lt_zero _))
  · rw [hz, ew] at c20
    exact ⟨bP_0 (fun z => by have := (hiff.mp z).1; omega), rfl⟩
theorem ok_X2_groupHere {μ : kMem} (h : kTok μ ∧ kDfOk μ) : kOk yX2_groupHere cX2_groupHere 4 (some .int) rmX2_groupHere shK 68 [.ref 13] μ (kP (Int32.ofInt (grV (kt μ) (kn μ) (kdm μ) (kgs μ))) μ) := by
  obtain ⟨h, hd⟩ := h
  have hn := kn_i h.1
  have hs := h.st
  have hz := h.sz
  have hte := h.te
  have hb := h.2.2.2
  have m1 : (Int32.ofInt 1).toInt = 1 := by decide
  have m3 : (Int32.ofInt 3).toInt = 3 := by decide
  have bad : ¬ grOk (kt μ) (kn μ) (kdm μ) (kgs μ) → Int32.ofInt (-1) = Int32.ofInt (grV (kt μ) (kn μ) (kdm μ) (kgs μ)) := fun q => by unfold grV; rw [if_neg q]
  refine kOk.of rfl (Nat.le_of_ble_eq_true rfl) (fun J C => ?_)
  have C : kR cX2_groupHere RX2 4 rmX2_groupHere shK 68 (some .int) _ J := C
  have loop : ∀ (k p : Nat) (u v : Int32) (z : Option Value), p + k = 3 → kdF (kt μ) (kn μ) (kgs μ) = 1 → teF (kt μ) (kn μ) (kgs μ) - kgs μ = 3 → v.toInt = ((kgs μ + p : Nat) : Int) → u.toInt = grF (kt μ) (kgs μ) p → 0 ≤ u.toInt ∧ u.toInt < 26 ^ p → (∀ q, q < p → 0 < dM (kdm μ) (kt μ (kgs μ + q) - 97).toNat) → J 25 [some (.ref 13), some (.int u), some (.int v), z] [] μ := by
    intro k
    induction k using Nat.strongRecOn with
    | ind k ih =>
      intro p u v z hk hk1 hk3 hv hu hub hI
      have hk0 := kdF_pos hk1 (by decide)
      have et : p < 3 → (tat μ v.toInt).toInt = kt μ (kgs μ + p) := fun q => by rw [tat_kt (by omega) (by omega), hv, Int.toNat_natCast]
      have hlt : p < 3 → 97 ≤ kt μ (kgs μ + p) ∧ kt μ (kgs μ + p) ≤ 122 := fun q => by
        rw [← ckF_1, teF_in hk0.1 (Or.inl hk0.2) (by omega) (by omega), hk0.2]
      have ed : p < 3 → (tat μ v.toInt - Int32.ofInt 97).toInt = kt μ (kgs μ + p) - 97 := fun q => by have := hlt q; rw [ti_subc (by rw [et q]; omega), et q]
      have hp26 : p < 3 → (26 : Int) ^ p ≤ 676 := fun q => by
        rcases (show p = 0 ∨ p = 1 ∨ p = 2 by omega) with rfl | rfl | rfl <;> decide
      have hS : p < 3 → (0 < (μ.1 10 (kt μ (kgs μ + p) - 97).toNat).toInt ↔ 0 < dM (kdm μ) (kt μ (kgs μ + p) - 97).toNat) := fun q => by have := hlt q; exact kDf_S hd (by omega)
      refine (r_iload_n C dX2_groupHere_25 rfl rfl (r_aload_n C dX2_groupHere_26 rfl rfl (r_getI C dX2_groupHere_27 fd_X2_31 nK_13 sK_13 rfl (r_icmp_ge C (tgt := 71) dX2_groupHere_30 rfl (fun c30 => (r_iload_n C dX2_groupHere_71 rfl rfl (r_iret C dX2_groupHere_72 ?_))) (fun c30 => (r_aload_n C dX2_groupHere_33 rfl rfl (r_getR C dX2_groupHere_34 fd_X2_20 nK_13 sK_13 rfl (r_iload_n C dX2_groupHere_37 rfl rfl (r_v1P C yv_X10_at lk_X2_67 dX2_groupHere_38 rfl nK_1 sK_1 rfl (Nat.le_of_ble_eq_true rfl) (ok_X10_at ?_) (r_bipush C dX2_groupHere_41 (by decide +kernel) (r_isub C dX2_groupHere_43 (r_istore_n C dX2_groupHere_44 rfl (by decide) (r_aload_n C dX2_groupHere_45 rfl rfl (r_getR C dX2_groupHere_46 fd_X2_24 nK_13 sK_13 rfl (r_iload_n C dX2_groupHere_49 rfl rfl (r_v1P C yv_X1_hasLetter lk_X2_75 dX2_groupHere_50 rfl nK_8 sK_8 rfl (Nat.le_of_ble_eq_true rfl) ok_X1_hasLetter_8 (r_if_ne C (tgt := 58) dX2_groupHere_53 rfl (fun c53 => (r_iload_n C dX2_groupHere_58 rfl rfl (r_bipush C dX2_groupHere_59 (by decide +kernel) (r_imul C dX2_groupHere_61 (r_iload_n C dX2_groupHere_62 rfl rfl (r_iadd C dX2_groupHere_63 (r_istore_n C dX2_groupHere_64 rfl (by decide) (r_iinc C dX2_groupHere_65 rfl (by decide) (r_goto C (tgt := 25) dX2_groupHere_68 rfl ?_))))))))) (fun c53 => (r_iconst C dX2_groupHere_56 (r_iret C dX2_groupHere_57 ?_))))))))))))))))))))
      · have ep : p = 3 := by omega
        subst ep
        refine ⟨ti_ext ?_, rfl⟩
        unfold grV
        rw [if_pos ⟨hk1, hk3, fun q a => hI q a⟩, ti_ofInt (by have : (26 : Int) ^ 3 = 17576 := by decide
                                                               omega), hu]
      · exact h.1.1.2
      · have hp : p < 3 := by omega
        have c := bP_ne c53
        rw [ed hp] at c
        have hl := hlt hp
        have hp6 := hp26 hp
        have e := ed hp
        have eu : (u * Int32.ofInt 26).toInt = u.toInt * 26 := ti_mulc (by omega)
        have en : (u * Int32.ofInt 26 + (tat μ v.toInt - Int32.ofInt 97)).toInt = u.toInt * 26 + (kt μ (kgs μ + p) - 97) := by rw [ti_add (by omega), eu, e]
        refine ih (k - 1) (by omega) (p + 1) _ _ _ (by omega) hk1 hk3 (by simp (disch := (first | omega | (simp (disch := omega) only [ti_ofInt, ti_addc, ti_subc, ti_mulc, ti_cmul, ti_divc, ti_remc, ti_zero, ti_add, ti_sub, ti_neg, if_lt_ti, if_gt_ti, bP_e0, Classical.not_not, tl_i2l]; omega))) only [ti_ofInt, ti_addc, ti_subc, ti_mulc, ti_cmul, ti_divc, ti_remc, ti_zero, ti_add, ti_sub, ti_neg, if_lt_ti, if_gt_ti, bP_e0, Classical.not_not, tl_i2l]; omega) ?_ ?_ ?_
        · rw [en, hu]
          rfl
        · rw [en, Int.pow_succ]
          omega
        · intro q hq
          by_cases e : q = p
          · subst e; exact (hS hp).mp c.2.2
          · exact hI q (by omega)
      · have hp : p < 3 := by omega
        have c := bP_e0.mp c53
        rw [ed hp] at c
        have hl := hlt hp
        refine ⟨bad (fun z => c ⟨by omega, by omega, (hS hp).mpr (z.2.2 p hp)⟩), rfl⟩
  refine (r_aload_n C dX2_groupHere_0 rfl rfl (r_getI C dX2_groupHere_1 fd_X2_38 nK_13 sK_13 rfl (r_iconst C dX2_groupHere_4 (r_icmp_ne C (tgt := 16) dX2_groupHere_5 rfl (fun c5 => (r_iconst C dX2_groupHere_16 (r_iret C dX2_groupHere_17 ?_))) (fun c5 => (r_aload_n C dX2_groupHere_8 rfl rfl (r_v0P C yv_X2_tokenSize lk_X2_71 dX2_groupHere_9 rfl nK_13 sK_13 rfl (Nat.le_of_ble_eq_true rfl) ok_X2_tokenSize (r_iconst C dX2_groupHere_12 (r_icmp_eq C (tgt := 18) dX2_groupHere_13 rfl (fun c13 => (r_iconst C dX2_groupHere_18 (r_istore_n C dX2_groupHere_19 rfl (by decide) (r_aload_n C dX2_groupHere_20 rfl rfl (r_getI C dX2_groupHere_21 fd_X2_41 nK_13 sK_13 rfl (r_istore_n C dX2_groupHere_24 rfl (by decide) ?_)))))) (fun c13 => (r_iconst C dX2_groupHere_16 (r_iret C dX2_groupHere_17 ?_))))))))))))
  · rw [h.2.2.1, m1] at c5
    exact ⟨bad (fun q => by have := q.1; omega), rfl⟩
  · rw [h.2.2.1, m1] at c5
    rw [hz, m3] at c13
    exact loop 3 0 _ _ _ rfl (by omega) (by omega) (by omega) (by simp (disch := (first | omega | (simp (disch := omega) only [ti_ofInt, ti_addc, ti_subc, ti_mulc, ti_cmul, ti_divc, ti_remc, ti_zero, ti_add, ti_sub, ti_neg, if_lt_ti, if_gt_ti, bP_e0, Classical.not_not, tl_i2l]; omega))) only [ti_ofInt, ti_addc, ti_subc, ti_mulc, ti_cmul, ti_divc, ti_remc, ti_zero, ti_add, ti_sub, ti_neg, if_lt_ti, if_gt_ti, bP_e0, Classical.not_not, tl_i2l]; rfl) (by simp (disch := (first | omega | (simp (disch := omega) only [ti_ofInt, ti_addc, ti_subc, ti_mulc, ti_cmul, ti_divc, ti_remc, ti_zero, ti_add, ti_sub, ti_neg, if_lt_ti, if_gt_ti, bP_e0, Classical.not_not, tl_i2l]; omega))) only [ti_ofInt, ti_addc, ti_subc, ti_mulc, ti_cmul, ti_divc, ti_remc, ti_zero, ti_add, ti_sub, ti_neg, if_lt_ti, if_gt_ti, bP_e0, Classical.not_not, tl_i2l]; decide) (fun q hq => absurd hq (Nat.not_lt_zero _))
  · rw [hz, m3] at c13
    exact ⟨bad (fun q => by have := q.2.1; omega), rfl⟩
theorem ok_X2_isNewName {x : Int32} {μ : kMem} (h : kTok μ ∧ kDfOk μ ∧ x = μ.1 8 5) : kOk yX2_isNewName cX2_isNewName 3 (some .boolean) rmX2_isNewName shK 68 [.ref 13, .int x] μ (kP (bP (nmOk (kt μ) (kn μ) (kdm μ) (kgs μ))) μ) := by
  obtain ⟨h, hd, hx⟩ := h
  have hx : x.toInt = (μ.1 8 5).toInt := by rw [hx]
  have hn := kn_i h.1
  have hz := h.sz
  have hdw := kDf_w hd
  have m1 : (Int32.ofInt 1).toInt = 1 := by decide
  have m8 : (Int32.ofInt 8).toInt = 8 := by decide
  have m20 : (Int32.ofInt 20).toInt = 20 := by decide
  refine kOk.of rfl (Nat.le_of_ble_eq_true rfl) (fun J C => ?_)
  have C : kR cX2_isNewName RX2 3 rmX2_isNewName shK 68 (some .boolean) _ J := C
  have loop : ∀ (k p : Nat) (v : Int32), p + k = dW (kdm μ) → v.toInt = p → kdF (kt μ) (kn μ) (kgs μ) = 1 → teF (kt μ) (kn μ) (kgs μ) - kgs μ ≤ 8 → (¬ isW (kt μ) (kn μ) (kgs μ) 0 ∧ ¬ isW (kt μ) (kn μ) (kgs μ) 1 ∧ ¬ isW (kt μ) (kn μ) (kgs μ) 2) → (∀ w, w < p → ¬ dN (kdm μ) w = tkL (kt μ) (kgs μ) (teF (kt μ) (kn μ) (kgs μ))) → J 48 [some (.ref 13), some (.int x), some (.int v)] [] μ := by
    intro k
    induction k using Nat.strongRecOn with
    | ind k ih =>
      intro p v hk hv h1 h2 h3 hI
      have ep : v.toInt.toNat = p := by omega
      refine (r_iload_n C dX2_isNewName_48 rfl rfl (r_iload_n C dX2_isNewName_49 rfl rfl (r_icmp_ge C (tgt := 75) dX2_isNewName_50 rfl (fun c50 => (r_iconst C dX2_isNewName_75 (r_zret C dX2_isNewName_76 rfl ?_))) (fun c50 => (r_iload_n C dX2_isNewName_53 rfl rfl (r_bipush C dX2_isNewName_54 (by decide +kernel) (r_icmp_ge C (tgt := 75) dX2_isNewName_56 rfl (fun c56 => (r_iconst C dX2_isNewName_75 (r_zret C dX2_isNewName_76 rfl ?_))) (fun c56 => (r_aload_n C dX2_isNewName_59 rfl rfl (r_iload_n C dX2_isNewName_60 rfl rfl (r_v1P C yv_X2_isName lk_X2_125 dX2_isNewName_61 rfl nK_13 sK_13 rfl (Nat.le_of_ble_eq_true rfl) (ok_X2_isName ?_) (r_if_eq C (tgt := 69) dX2_isNewName_64 rfl (fun c64 => (r_iinc C dX2_isNewName_69 rfl (by decide) (r_goto C (tgt := 48) dX2_isNewName_72 rfl ?_))) (fun c64 => (r_iconst C dX2_isNewName_67 (r_zret C dX2_isNewName_68 rfl ?_)))))))))))))))
      · exact ⟨bP_1 ⟨h1, h2, h3, fun w hw => hI w (by omega)⟩, rfl⟩
      · rw [m20] at c56; omega
      · exact ⟨h, hd, by omega, by omega⟩
      · have c := bP_e0.mp c64
        rw [ep] at c
        refine ih (k - 1) (by omega) (p + 1) _ (by omega) (by simp (disch := (first | omega | (simp (disch := omega) only [ti_ofInt, ti_addc, ti_subc, ti_mulc, ti_cmul, ti_divc, ti_remc, ti_zero, ti_add, ti_sub, ti_neg, if_lt_ti, if_gt_ti, bP_e0, Classical.not_not, tl_i2l]; omega))) only [ti_ofInt, ti_addc, ti_subc, ti_mulc, ti_cmul, ti_divc, ti_remc, ti_zero, ti_add, ti_sub, ti_neg, if_lt_ti, if_gt_ti, bP_e0, Classical.not_not, tl_i2l]; omega) h1 h2 h3 ?_
        intro w hw
        by_cases e : w = p
        · subst e; exact c
        · exact hI w (by omega)
      · have c := bP_ne c64
        rw [ep] at c
        exact ⟨bP_0 (fun z => z.2.2.2 p (by omega) c), rfl⟩
  refine (r_aload_n C dX2_isNewName_0 rfl rfl (r_getI C dX2_isNewName_1 fd_X2_38 nK_13 sK_13 rfl (r_iconst C dX2_isNewName_4 (r_icmp_ne C (tgt := 44) dX2_isNewName_5 rfl (fun c5 => (r_iconst C dX2_isNewName_44 (r_zret C dX2_isNewName_45 rfl ?_))) (fun c5 => (r_aload_n C dX2_isNewName_8 rfl rfl (r_v0P C yv_X2_tokenSize lk_X2_71 dX2_isNewName_9 rfl nK_13 sK_13 rfl (Nat.le_of_ble_eq_true rfl) ok_X2_tokenSize (r_bipush C dX2_isNewName_12 (by decide +kernel) (r_icmp_gt C (tgt := 44) dX2_isNewName_14 rfl (fun c14 => (r_iconst C dX2_isNewName_44 (r_zret C dX2_isNewName_45 rfl ?_))) (fun c14 => (r_aload_n C dX2_isNewName_17 rfl rfl (r_ldcS C (i := 0) (fun _ _ _ _ _ _ hE => hE.2.2.1) dX2_isNewName_18 (r_v1P C yv_X2_isWord lk_X2_52 dX2_isNewName_20 rfl nK_13 sK_13 rfl (Nat.le_of_ble_eq_true rfl) (ok_X2_isWord ?_) (r_if_ne C (tgt := 44) dX2_isNewName_23 rfl (fun c23 => (r_iconst C dX2_isNewName_44 (r_zret C dX2_isNewName_45 rfl ?_))) (fun c23 => (r_aload_n C dX2_isNewName_26 rfl rfl (r_ldcS C (i := 1) (fun _ _ _ _ _ _ hE => hE.2.2.2.1) dX2_isNewName_27 (r_v1P C yv_X2_isWord lk_X2_52 dX2_isNewName_29 rfl nK_13 sK_13 rfl (Nat.le_of_ble_eq_true rfl) (ok_X2_isWord ?_) (r_if_ne C (tgt := 44) dX2_isNewName_32 rfl (fun c32 => (r_iconst C dX2_isNewName_44 (r_zret C dX2_isNewName_45 rfl ?_))) (fun c32 => (r_aload_n C dX2_isNewName_35 rfl rfl (r_ldcS C (i := 2) (fun _ _ _ _ _ _ hE => hE.2.2.2.2.1) dX2_isNewName_36 (r_v1P C yv_X2_isWord lk_X2_52 dX2_isNewName_38 rfl nK_13 sK_13 rfl (Nat.le_of_ble_eq_true rfl) (ok_X2_isWord ?_) (r_if_eq C (tgt := 46) dX2_isNewName_41 rfl (fun c41 => (r_iconst C dX2_isNewName_46 (r_istore_n C dX2_isNewName_47 rfl (by decide) ?_))) (fun c41 => (r_iconst C dX2_isNewName_44 (r_zret C dX2_isNewName_45 rfl ?_)))))))))))))))))))))))))))
  · rw [h.2.2.1, m1] at c5
    exact ⟨bP_0 (fun q => by have := q.1; omega), rfl⟩
  · rw [hz, m8] at c14
    exact ⟨bP_0 (fun q => by have := q.2.1; omega), rfl⟩
  · exact ⟨h, by decide⟩
  · exact ⟨bP_0 (fun q => q.2.2.1.1 (bP_ne c23)), rfl⟩
  · exact ⟨h, by decide⟩
  · exact ⟨bP_0 (fun q => q.2.2.1.2.1 (bP_ne c32)), rfl⟩
  · exact ⟨h, by decide⟩
  · rw [h.2.2.1, m1] at c5
    rw [hz, m8] at c14
    exact loop (dW (kdm μ)) 0 _ (by omega) (by simp (disch := (first | omega | (simp (disch := omega) only [ti_ofInt, ti_addc, ti_subc, ti_mulc, ti_cmul, ti_divc, ti_remc, ti_zero, ti_add, ti_sub, ti_neg, if_lt_ti, if_gt_ti, bP_e0, Classical.not_not, tl_i2l]; omega))) only [ti_ofInt, ti_addc, ti_subc, ti_mulc, ti_cmul, ti_divc, ti_remc, ti_zero, ti_add, ti_sub, ti_neg, if_lt_ti, if_gt_ti, bP_e0, Classical.not_not, tl_i2l]; rfl) (by omega) (by omega) ⟨bP_e0.mp c23, bP_e0.mp c32, bP_e0.mp c41⟩ (fun w hw => absurd hw (Nat.not_lt_zero _))
  · exact ⟨bP_0 (fun q => q.2.2.1.2.2 (bP_ne c41)), rfl⟩
theorem ok_X2_noteName {x : Int32} {μ : kMem} (h : 0 ≤ x.toInt ∧ x.toInt < 20) : kOk yX2_noteName cX2_noteName 2 (none) rmX2_noteName shK 68 [.ref 13, .int x] μ (kN fun μ' => μ' = up (up μ 14 x.toInt.toNat (μ.1 13 5)) 15 x.toInt.toNat (μ.1 13 6 - μ.1 13 5)) := by
  refine kOk.of rfl (Nat.le_of_ble_eq_true rfl) (fun J C => ?_)
  have C : kR cX2_noteName RX2 2 rmX2_noteName shK 68 (none) _ J := C
  refine (r_iload_n C dX2_noteName_0 rfl rfl (r_if_lt C (tgt := 30) dX2_noteName_1 rfl (fun c1 => (r_ret C dX2_noteName_30 ?_)) (fun c1 => (r_iload_n C dX2_noteName_4 rfl rfl (r_bipush C dX2_noteName_5 (by decide +kernel) (r_icmp_ge C (tgt := 30) dX2_noteName_7 rfl (fun c7 => (r_ret C dX2_noteName_30 ?_)) (fun c7 => (r_aload_n C dX2_noteName_10 rfl rfl (r_getR C dX2_noteName_11 fd_X2_11 nK_13 sK_13 rfl (r_iload_n C dX2_noteName_14 rfl rfl (r_aload_n C dX2_noteName_15 rfl rfl (r_getI C dX2_noteName_16 fd_X2_41 nK_13 sK_13 rfl (r_iast C dX2_noteName_19 nK_14 sK_14 ?_ (r_aload_n C dX2_noteName_20 rfl rfl (r_getR C dX2_noteName_21 fd_X2_17 nK_13 sK_13 rfl (r_iload_n C dX2_noteName_24 rfl rfl (r_aload_n C dX2_noteName_25 rfl rfl (r_v0P C yv_X2_tokenSize lk_X2_71 dX2_noteName_26 rfl nK_13 sK_13 rfl (Nat.le_of_ble_eq_true rfl) ok_X2_tokenSize (r_iast C dX2_noteName_29 nK_15 sK_15 ?_ (r_ret C dX2_noteName_30 ?_))))))))))))))))))))
  · omega
  · simp (disch := (first | omega | (simp (disch := omega) only [ti_ofInt, ti_addc, ti_subc, ti_mulc, ti_cmul, ti_divc, ti_remc, ti_zero, ti_add, ti_sub, ti_neg, if_lt_ti, if_gt_ti, bP_e0, Classical.not_not, tl_i2l]; omega))) only [ti_ofInt, ti_addc, ti_subc, ti_mulc, ti_cmul, ti_divc, ti_remc, ti_zero, ti_add, ti_sub, ti_neg, if_lt_ti, if_gt_ti, bP_e0, Classical.not_not, tl_i2l] at c7
    omega
  · exact h
  · exact h
  · simp (disch := decide) only [up_same, up_neo, up_nek, up_2]

