/-! ===== Grammar: the parser ===== -/
theorem ok_X2_parseLetter {μ : kMem} (h : kTok μ ∧ kDfOk μ) : kOk yX2_parseLetter cX2_parseLetter 3 (some .boolean) rmX2_parseLetter shK 68 [.ref 13] μ (kI fun r μ' => kOut μ (ltF (kt μ) (kn μ) (kdm μ) (kgs μ)) r μ') := by
  have q0 := kAt.rf h.1 h.2
  have m1 : (Int32.ofInt 1).toInt = 1 := by decide
  have m3 : (Int32.ofInt 3).toInt = 3 := by decide
  have mm : (Int32.ofInt (-1)).toInt = -1 := by decide
  obtain ⟨s, hs⟩ : ∃ s, s = kgs μ := ⟨_, rfl⟩
  rw [← hs] at q0 ⊢
  have HA : ∀ μ1 : kMem, kAt μ (kdm μ) (nxF (kt μ) (kn μ) s) μ1 → (μ1.1 13 4).toInt = (Int32.ofInt 1).toInt → (μ1.1 13 6 - μ1.1 13 5).toInt = (Int32.ofInt 1).toInt → ((bP (0 ≤ (tat μ1 (μ1.1 13 5).toInt - Int32.ofInt 97).toInt ∧ (tat μ1 (μ1.1 13 5).toInt - Int32.ofInt 97).toInt < 26 ∧ 0 < (μ1.1 10 (tat μ1 (μ1.1 13 5).toInt - Int32.ofInt 97).toInt.toNat).toInt)).toInt = 0 ↔ lAok (kt μ) (kn μ) (kdm μ) (nxF (kt μ) (kn μ) s)) ∧ (tat μ1 (μ1.1 13 5).toInt - Int32.ofInt 97).toInt = kt μ (nxF (kt μ) (kn μ) s) - 97 ∧ 0 ≤ kt μ (nxF (kt μ) (kn μ) s) - 97 ∧ kt μ (nxF (kt μ) (kn μ) s) - 97 < 26 := by
    intro μ1 q h1 h2
    rw [q.kind, m1] at h1
    rw [q.sz, m1] at h2
    have hl := q.let (by omega)
    have hS := kDf_S q.2.2.2.1 (l := (kt μ (nxF (kt μ) (kn μ) s) - 97).toNat) (by omega)
    rw [q.2.2.1] at hS
    rw [bP_e0, hl.2.2, hS]
    refine ⟨⟨fun z => ⟨by omega, by omega, fun y => z ⟨by omega, by omega, y⟩⟩, fun z y => z.2.2 y.2.2⟩, rfl, by omega, by omega⟩
  have HB : ∀ μ1 : kMem, kAt μ (kdm μ) (nxF (kt μ) (kn μ) (nxF (kt μ) (kn μ) s)) μ1 → mkV (kt μ1) (kn μ1) (kgs μ1) = mkV (kt μ) (kn μ) (nxF (kt μ) (kn μ) (nxF (kt μ) (kn μ) s)) ∧ ((bP (∃ l : Nat, l < 26 ∧ 0 < (μ1.1 10 l).toInt ∧ (μ1.1 9 l).toInt = (Int32.ofInt (mkV (kt μ1) (kn μ1) (kgs μ1))).toInt)).toInt = 0 ↔ ∀ l, l < 26 → ¬ (0 < dM (kdm μ) l ∧ dM (kdm μ) l = mkV (kt μ) (kn μ) (nxF (kt μ) (kn μ) (nxF (kt μ) (kn μ) s)))) := by
    intro μ1 q
    have e : mkV (kt μ1) (kn μ1) (kgs μ1) = mkV (kt μ) (kn μ) (nxF (kt μ) (kn μ) (nxF (kt μ) (kn μ) s)) := by rw [q.1, q.2.1, q.2.2.2.2.2.1]
    have hi : (Int32.ofInt (mkV (kt μ) (kn μ) (nxF (kt μ) (kn μ) (nxF (kt μ) (kn μ) s)))).toInt = mkV (kt μ) (kn μ) (nxF (kt μ) (kn μ) (nxF (kt μ) (kn μ) s)) := by
      rcases mkV_c (t := kt μ) q.le with z | z <;> rw [ti_ofInt (by omega)]
    refine ⟨e, ?_⟩
    rw [bP_e0, e, hi]
    constructor
    · intro z l hl y
      refine z ⟨l, hl, ?_, ?_⟩
      · rw [kDf_S q.2.2.2.1 hl, q.2.2.1]; exact y.1
      · rw [← kDf_M hl, q.2.2.1]; exact y.2
    · rintro z ⟨l, hl, y1, y2⟩
      rw [kDf_S q.2.2.2.1 hl, q.2.2.1] at y1
      rw [← kDf_M hl, q.2.2.1] at y2
      exact z l hl ⟨y1, y2⟩
  refine kOk.of rfl (Nat.le_of_ble_eq_true rfl) (fun J C => ?_)
  have C : kR cX2_parseLetter RX2 3 rmX2_parseLetter shK 68 (some .boolean) _ J := C
  refine (r_aload_n C dX2_parseLetter_0 rfl rfl (r_v0N C yv_X2_step lk_X2_35 dX2_parseLetter_1 rfl nK_13 sK_13 rfl (Nat.le_of_ble_eq_true rfl) (ok_X2_step ?_) (fun μ1 h1 => (r_aload_n C dX2_parseLetter_4 rfl rfl (r_getR C dX2_parseLetter_5 fd_X2_20 nK_13 sK_13 rfl (r_aload_n C dX2_parseLetter_8 rfl rfl (r_getI C dX2_parseLetter_9 fd_X2_41 nK_13 sK_13 rfl (r_v1P C yv_X10_at lk_X2_67 dX2_parseLetter_12 rfl nK_1 sK_1 rfl (Nat.le_of_ble_eq_true rfl) (ok_X10_at ?_) (r_bipush C dX2_parseLetter_15 (by decide +kernel) (r_isub C dX2_parseLetter_17 (r_istore_n C dX2_parseLetter_18 rfl (by decide) (r_aload_n C dX2_parseLetter_19 rfl rfl (r_getI C dX2_parseLetter_20 fd_X2_38 nK_13 sK_13 rfl (r_iconst C dX2_parseLetter_23 (r_icmp_ne C (tgt := 46) dX2_parseLetter_24 rfl (fun c24 => (r_iconst C dX2_parseLetter_46 (r_zret C dX2_parseLetter_47 rfl ?_))) (fun c24 => (r_aload_n C dX2_parseLetter_27 rfl rfl (r_v0P C yv_X2_tokenSize lk_X2_71 dX2_parseLetter_28 rfl nK_13 sK_13 rfl (Nat.le_of_ble_eq_true rfl) ok_X2_tokenSize (r_iconst C dX2_parseLetter_31 (r_icmp_ne C (tgt := 46) dX2_parseLetter_32 rfl (fun c32 => (r_iconst C dX2_parseLetter_46 (r_zret C dX2_parseLetter_47 rfl ?_))) (fun c32 => (r_aload_n C dX2_parseLetter_35 rfl rfl (r_getR C dX2_parseLetter_36 fd_X2_24 nK_13 sK_13 rfl (r_iload_n C dX2_parseLetter_39 rfl rfl (r_v1P C yv_X1_hasLetter lk_X2_75 dX2_parseLetter_40 rfl nK_8 sK_8 rfl (Nat.le_of_ble_eq_true rfl) ok_X1_hasLetter_8 (r_if_eq C (tgt := 48) dX2_parseLetter_43 rfl (fun c43 => (r_aload_n C dX2_parseLetter_48 rfl rfl (r_v0N C yv_X2_step lk_X2_35 dX2_parseLetter_49 rfl nK_13 sK_13 rfl (Nat.le_of_ble_eq_true rfl) (ok_X2_step ?_) (fun μ49 h49 => (r_aload_n C dX2_parseLetter_52 rfl rfl (r_v0P C yv_X2_marksHere lk_X2_79 dX2_parseLetter_53 rfl nK_13 sK_13 rfl (Nat.le_of_ble_eq_true rfl) (ok_X2_marksHere ?_) (r_istore_n C dX2_parseLetter_56 rfl (by decide) (r_iload_n C dX2_parseLetter_57 rfl rfl (r_iconst C dX2_parseLetter_58 (r_icmp_eq C (tgt := 73) dX2_parseLetter_59 rfl (fun c59 => (r_iconst C dX2_parseLetter_73 (r_zret C dX2_parseLetter_74 rfl ?_))) (fun c59 => (r_aload_n C dX2_parseLetter_62 rfl rfl (r_getR C dX2_parseLetter_63 fd_X2_24 nK_13 sK_13 rfl (r_iload_n C dX2_parseLetter_66 rfl rfl (r_v1I C yv_X1_hasMarks lk_X2_82 dX2_parseLetter_67 rfl nK_8 sK_8 rfl (Nat.le_of_ble_eq_true rfl) ok_X1_hasMarks_8 (fun r67 μ67 h67 => (r_if_eq C (tgt := 75) dX2_parseLetter_70 rfl (fun c70 => (r_aload_n C dX2_parseLetter_75 rfl rfl (r_v0N C yv_X2_step lk_X2_35 dX2_parseLetter_76 rfl nK_13 sK_13 rfl (Nat.le_of_ble_eq_true rfl) (ok_X2_step ?_) (fun μ76 h76 => (r_aload_n C dX2_parseLetter_79 rfl rfl (r_getI C dX2_parseLetter_80 fd_X2_38 nK_13 sK_13 rfl (r_iconst C dX2_parseLetter_83 (r_icmp_eq C (tgt := 89) dX2_parseLetter_84 rfl (fun c84 => (r_aload_n C dX2_parseLetter_89 rfl rfl (r_getR C dX2_parseLetter_90 fd_X2_24 nK_13 sK_13 rfl (r_iload_n C dX2_parseLetter_93 rfl rfl (r_iload_n C dX2_parseLetter_94 rfl rfl (r_v2N C yv_X1_addLetter lk_X2_85 dX2_parseLetter_95 rfl nK_8 sK_8 rfl (Nat.le_of_ble_eq_true rfl) (ok_X1_addLetter_8 ?_) (fun μ95 h95 => (r_aload_n C dX2_parseLetter_98 rfl rfl (r_v0N C yv_X2_step lk_X2_35 dX2_parseLetter_99 rfl nK_13 sK_13 rfl (Nat.le_of_ble_eq_true rfl) (ok_X2_step ?_) (fun μ99 h99 => (r_iconst C dX2_parseLetter_102 (r_zret C dX2_parseLetter_103 rfl ?_)))))))))))) (fun c84 => (r_iconst C dX2_parseLetter_87 (r_zret C dX2_parseLetter_88 rfl ?_))))))))))) (fun c70 => (r_iconst C dX2_parseLetter_73 (r_zret C dX2_parseLetter_74 rfl ?_)))))))))))))))))))) (fun c43 => (r_iconst C dX2_parseLetter_46 (r_zret C dX2_parseLetter_47 rfl ?_)))))))))))))))))))))))))))))
  · exact h.1.s0
  · exact h1.1.1.1.2
  · have q1 := q0.step h1
    refine q1.out ?_
    unfold ltF
    rw [if_neg (fun z => c24 (by rw [q1.kind, z.1, m1]; rfl))]
  · have q1 := q0.step h1
    refine q1.out ?_
    unfold ltF
    rw [if_neg (fun z => c32 (by rw [q1.sz, z.2.1, m1]; rfl))]
  · exact h1.1.s0
  · exact h49.1
  · have q1 := q0.step h1
    have q2 := q1.step h49
    have hA := (HA _ q1 c24 c32).1.mp c43
    have hB := HB _ q2
    refine q2.out ?_
    unfold ltF
    rw [if_pos hA, if_neg (fun z => ?_)]
    rw [hB.1, mm] at c59
    rcases mkV_c (t := kt μ) q2.le with y | y
    · rw [ti_ofInt (by omega)] at c59; omega
    · exact y.1 z.1
  · rw [h67.2]
    exact h49.1.s0
  · have q1 := q0.step h1
    have q2 := q1.step h49
    rw [h67.2] at h76
    have q3 := q2.step h76
    have hA := (HA _ q1 c24 c32).1.mp c43
    have hl := HA _ q1 c24 c32
    have hB := HB _ q2
    rw [hB.1, mm] at c59
    rw [hl.2.1, hB.1]
    rcases mkV_c (t := kt μ) q2.le with y | y
    · have hS := kDf_S q3.2.2.2.1 (l := (kt μ (nxF (kt μ) (kn μ) s) - 97).toNat) (by omega)
      rw [q3.2.2.1] at hS
      have hLt := q3.2.2.2.1.2.1
      have hLe := dL_le (kdm μ76)
      rw [ti_ofInt (by omega)]
      exact ⟨by omega, by omega, fun z => hA.2.2 (hS.mp z), by omega, by omega, by omega⟩
    · exact absurd (by rw [y.2, mm]) c59
  · have q1 := q0.step h1
    have q2 := q1.step h49
    rw [h67.2] at h76
    have q3 := q2.step h76
    have hA := (HA _ q1 c24 c32).1.mp c43
    have hl := HA _ q1 c24 c32
    have hB := HB _ q2
    rw [hB.1, mm] at c59
    rw [hl.2.1, hB.1] at h95
    rcases mkV_c (t := kt μ) q2.le with y | y
    · rw [ti_ofInt (by omega)] at h95
      exact (kLet_at q3 ⟨by omega, by omega⟩ hA.2.2 ⟨y.2.2.1, y.2.2.2.2⟩ h95).2.2.2.2.1.s0
    · exact absurd (by rw [y.2, mm]) c59
  · have q1 := q0.step h1
    have q2 := q1.step h49
    have h70 := h67.1
    rw [h67.2] at h76
    have q3 := q2.step h76
    have hA := (HA _ q1 c24 c32).1.mp c43
    have hl := HA _ q1 c24 c32
    have hB := HB _ q2
    rw [h70] at c70
    have c70 := hB.2.mp c70
    rw [hB.1, mm] at c59
    rw [hl.2.1, hB.1] at h95
    rcases mkV_c (t := kt μ) q2.le with y | y
    · rw [ti_ofInt (by omega)] at h95
      have q4 := (kLet_at q3 ⟨by omega, by omega⟩ hA.2.2 ⟨y.2.2.1, y.2.2.2.2⟩ h95).step h99
      refine q4.good ?_
      unfold ltF
      rw [q3.kind, m3] at c84
      rw [if_pos hA, if_pos ⟨y.1, fun l hl z => c70 l hl ⟨by omega, by omega⟩⟩, if_pos (by omega), ← y.2.1]
    · exact absurd (by rw [y.2, mm]) c59
  · have q1 := q0.step h1
    have q2 := q1.step h49
    have h70 := h67.1
    rw [h67.2] at h76
    have q3 := q2.step h76
    have hA := (HA _ q1 c24 c32).1.mp c43
    have hB := HB _ q2
    rw [h70] at c70
    have c70 := hB.2.mp c70
    rw [hB.1, mm] at c59
    rcases mkV_c (t := kt μ) q2.le with y | y
    · refine q3.out ?_
      unfold ltF
      rw [q3.kind, m3] at c84
      rw [if_pos hA, if_pos ⟨y.1, fun l hl z => c70 l hl ⟨by omega, by omega⟩⟩, if_neg (by omega)]
    · exact absurd (by rw [y.2, mm]) c59
  · have q1 := q0.step h1
    have q2 := q1.step h49
    have hA := (HA _ q1 c24 c32).1.mp c43
    have hB := HB _ q2
    rw [h67.1] at c70
    rw [h67.2]
    refine q2.out ?_
    unfold ltF
    rw [if_pos hA, if_neg (fun z => ?_)]
    refine c70 (hB.2.mpr (fun l hl y => ?_))
    rcases mkV_c (t := kt μ) q2.le with x | x
    · exact z.2 l hl (by omega)
    · omega
  · have q1 := q0.step h1
    refine q1.out ?_
    unfold ltF
    rw [if_neg (fun z => c43 ((HA _ q1 c24 c32).1.mpr z))]
theorem ok_X2_parseWord {μ : kMem} (h : kTok μ ∧ kDfOk μ ∧ dW (kdm μ) < 20) : kOk yX2_parseWord cX2_parseWord 2 (some .boolean) rmX2_parseWord shK 68 [.ref 13] μ (kI fun r μ' => kOut μ (wdF (kt μ) (kn μ) (kdm μ) (kgs μ)) r μ') := by
  have q0 := kAt.rf h.1 h.2.1
  have hw := h.2.2
  have m1 : (Int32.ofInt 1).toInt = 1 := by decide
  have m3 : (Int32.ofInt 3).toInt = 3 := by decide
  have mm : (Int32.ofInt (-1)).toInt = -1 := by decide
  obtain ⟨s, hs⟩ : ∃ s, s = kgs μ := ⟨_, rfl⟩
  rw [← hs] at q0 ⊢
  have HW : ∀ (s1 : Nat) (μ1 : kMem), kAt μ (kdm μ) s1 μ1 → (μ1.1 8 5).toInt = dW (kdm μ) := by
    intro s1 μ1 q
    have := kDf_w q.2.2.2.1
    rw [q.2.2.1] at this
    exact this.1.symm
  have HN : ∀ (s1 : Nat) (μ1 : kMem), kAt μ (kdm μ) s1 μ1 → (nmOk (kt μ1) (kn μ1) (kdm μ1) (kgs μ1) ↔ nmOk (kt μ) (kn μ) (kdm μ) s1) := fun s1 μ1 q => by rw [q.1, q.2.1, q.2.2.1, q.2.2.2.2.2.1]
  have HI : ∀ (s1 : Nat) (μ1 : kMem), kAt μ (kdm μ) s1 μ1 → (isW (kt μ1) (kn μ1) (kgs μ1) 2 ↔ isW (kt μ) (kn μ) s1 2) := fun s1 μ1 q => by rw [q.1, q.2.1, q.2.2.2.2.2.1]
  have HT : ∀ (s1 : Nat) (μ1 μ2 : kMem), kAt μ (kdm μ) s1 μ1 → μ2 = up (up μ1 14 (μ1.1 8 5).toInt.toNat (μ1.1 13 5)) 15 (μ1.1 8 5).toInt.toNat (μ1.1 13 6 - μ1.1 13 5) → kAt μ (kdm μ) s1 μ2 ∧ (μ2.1 14 (dW (kdm μ))).toInt = s1 ∧ (μ2.1 15 (dW (kdm μ))).toInt = ((teF (kt μ) (kn μ) s1 - s1 : Nat) : Int) := by
    intro s1 μ1 μ2 q e
    have e1 := HW s1 μ1 q
    rw [show (μ1.1 8 5).toInt.toNat = dW (kdm μ) by omega] at e
    subst e
    refine ⟨kNote_at q, ?_, ?_⟩
    · rw [up_neo _ _ (by decide), up_same]
      exact q.st
    · rw [up_same]
      exact q.sz
  have HG : ∀ (s1 : Nat) (μ1 : kMem), kAt μ (kdm μ) s1 μ1 → grV (kt μ1) (kn μ1) (kdm μ1) (kgs μ1) = grV (kt μ) (kn μ) (kdm μ) s1 ∧ ((grOk (kt μ) (kn μ) (kdm μ) s1 ∧ grV (kt μ) (kn μ) (kdm μ) s1 = grF (kt μ) s1 3 ∧ 0 ≤ grF (kt μ) s1 3 ∧ grF (kt μ) s1 3 < 17576) ∨ (¬ grOk (kt μ) (kn μ) (kdm μ) s1 ∧ grV (kt μ) (kn μ) (kdm μ) s1 = -1)) ∧ ((bP (∃ l : Nat, (l : Int) < (μ1.1 8 5).toInt ∧ (μ1.1 12 l).toInt = (Int32.ofInt (grV (kt μ1) (kn μ1) (kdm μ1) (kgs μ1))).toInt)).toInt = 0 ↔ ∀ w, w < dW (kdm μ) → ¬ dG (kdm μ) w = grV (kt μ) (kn μ) (kdm μ) s1) := by
    intro s1 μ1 q
    have e : grV (kt μ1) (kn μ1) (kdm μ1) (kgs μ1) = grV (kt μ) (kn μ) (kdm μ) s1 := by rw [q.1, q.2.1, q.2.2.1, q.2.2.2.2.2.1]
    have hc : (grOk (kt μ) (kn μ) (kdm μ) s1 ∧ grV (kt μ) (kn μ) (kdm μ) s1 = grF (kt μ) s1 3 ∧ 0 ≤ grF (kt μ) s1 3 ∧ grF (kt μ) s1 3 < 17576) ∨ (¬ grOk (kt μ) (kn μ) (kdm μ) s1 ∧ grV (kt μ) (kn μ) (kdm μ) s1 = -1) := by
      by_cases z : grOk (kt μ) (kn μ) (kdm μ) s1
      · have hk := kdF_pos z.1 (by decide)
        exact Or.inl ⟨z, if_pos z, grF_b (fun i hi => by rw [← ckF_1, teF_in hk.1 (Or.inl hk.2) (by omega) (by have := z.2.1; omega), hk.2])⟩
      · exact Or.inr ⟨z, if_neg z⟩
    refine ⟨e, hc, ?_⟩
    rw [bP_e0, e, ti_ofInt (by omega), HW s1 μ1 q]
    constructor
    · intro z w hw y
      refine z ⟨w, by omega, ?_⟩
      rw [← kDf_G (by rw [q.2.2.1]; exact hw), q.2.2.1]
      exact y
    · rintro z ⟨w, y1, y2⟩
      have hw : w < dW (kdm μ) := by omega
      rw [← kDf_G (by rw [q.2.2.1]; exact hw), q.2.2.1] at y2
      exact z w hw y2
  refine kOk.of rfl (Nat.le_of_ble_eq_true rfl) (fun J C => ?_)
  have C : kR cX2_parseWord RX2 2 rmX2_parseWord shK 68 (some .boolean) _ J := C
  refine (r_aload_n C dX2_parseWord_0 rfl rfl (r_v0N C yv_X2_step lk_X2_35 dX2_parseWord_1 rfl nK_13 sK_13 rfl (Nat.le_of_ble_eq_true rfl) (ok_X2_step ?_) (fun μ1 h1 => (r_aload_n C dX2_parseWord_4 rfl rfl (r_aload_n C dX2_parseWord_5 rfl rfl (r_getR C dX2_parseWord_6 fd_X2_24 nK_13 sK_13 rfl (r_v0P C yv_X1_words lk_X2_89 dX2_parseWord_9 rfl nK_8 sK_8 rfl (Nat.le_of_ble_eq_true rfl) ok_X1_words_8 (r_v1P C yv_X2_isNewName lk_X2_92 dX2_parseWord_12 rfl nK_13 sK_13 rfl (Nat.le_of_ble_eq_true rfl) (ok_X2_isNewName ?_) (r_if_ne C (tgt := 20) dX2_parseWord_15 rfl (fun c15 => (r_aload_n C dX2_parseWord_20 rfl rfl (r_aload_n C dX2_parseWord_21 rfl rfl (r_getR C dX2_parseWord_22 fd_X2_24 nK_13 sK_13 rfl (r_v0P C yv_X1_words lk_X2_89 dX2_parseWord_25 rfl nK_8 sK_8 rfl (Nat.le_of_ble_eq_true rfl) ok_X1_words_8 (r_v1N C yv_X2_noteName lk_X2_95 dX2_parseWord_28 rfl nK_13 sK_13 rfl (Nat.le_of_ble_eq_true rfl) (ok_X2_noteName ?_) (fun μ28 h28 => (r_aload_n C dX2_parseWord_31 rfl rfl (r_v0N C yv_X2_step lk_X2_35 dX2_parseWord_32 rfl nK_13 sK_13 rfl (Nat.le_of_ble_eq_true rfl) (ok_X2_step ?_) (fun μ32 h32 => (r_aload_n C dX2_parseWord_35 rfl rfl (r_ldcS C (i := 2) (fun _ _ _ _ _ _ hE => hE.2.2.2.2.1) dX2_parseWord_36 (r_v1P C yv_X2_isWord lk_X2_52 dX2_parseWord_38 rfl nK_13 sK_13 rfl (Nat.le_of_ble_eq_true rfl) (ok_X2_isWord ?_) (r_if_ne C (tgt := 46) dX2_parseWord_41 rfl (fun c41 => (r_aload_n C dX2_parseWord_46 rfl rfl (r_v0N C yv_X2_step lk_X2_35 dX2_parseWord_47 rfl nK_13 sK_13 rfl (Nat.le_of_ble_eq_true rfl) (ok_X2_step ?_) (fun μ47 h47 => (r_aload_n C dX2_parseWord_50 rfl rfl (r_v0P C yv_X2_groupHere lk_X2_101 dX2_parseWord_51 rfl nK_13 sK_13 rfl (Nat.le_of_ble_eq_true rfl) (ok_X2_groupHere ?_) (r_istore_n C dX2_parseWord_54 rfl (by decide) (r_iload_n C dX2_parseWord_55 rfl rfl (r_iconst C dX2_parseWord_56 (r_icmp_eq C (tgt := 71) dX2_parseWord_57 rfl (fun c57 => (r_iconst C dX2_parseWord_71 (r_zret C dX2_parseWord_72 rfl ?_))) (fun c57 => (r_aload_n C dX2_parseWord_60 rfl rfl (r_getR C dX2_parseWord_61 fd_X2_24 nK_13 sK_13 rfl (r_iload_n C dX2_parseWord_64 rfl rfl (r_v1P C yv_X1_hasGroup lk_X2_104 dX2_parseWord_65 rfl nK_8 sK_8 rfl (Nat.le_of_ble_eq_true rfl) (ok_X1_hasGroup_8 ?_) (r_if_eq C (tgt := 73) dX2_parseWord_68 rfl (fun c68 => (r_aload_n C dX2_parseWord_73 rfl rfl (r_v0N C yv_X2_step lk_X2_35 dX2_parseWord_74 rfl nK_13 sK_13 rfl (Nat.le_of_ble_eq_true rfl) (ok_X2_step ?_) (fun μ74 h74 => (r_aload_n C dX2_parseWord_77 rfl rfl (r_getI C dX2_parseWord_78 fd_X2_38 nK_13 sK_13 rfl (r_iconst C dX2_parseWord_81 (r_icmp_eq C (tgt := 87) dX2_parseWord_82 rfl (fun c82 => (r_aload_n C dX2_parseWord_87 rfl rfl (r_getR C dX2_parseWord_88 fd_X2_24 nK_13 sK_13 rfl (r_iload_n C dX2_parseWord_91 rfl rfl (r_v1N C yv_X1_addGroup lk_X2_107 dX2_parseWord_92 rfl nK_8 sK_8 rfl (Nat.le_of_ble_eq_true rfl) (ok_X1_addGroup_8 ?_) (fun μ92 h92 => (r_aload_n C dX2_parseWord_95 rfl rfl (r_v0N C yv_X2_step lk_X2_35 dX2_parseWord_96 rfl nK_13 sK_13 rfl (Nat.le_of_ble_eq_true rfl) (ok_X2_step ?_) (fun μ96 h96 => (r_iconst C dX2_parseWord_99 (r_zret C dX2_parseWord_100 rfl ?_))))))))))) (fun c82 => (r_iconst C dX2_parseWord_85 (r_zret C dX2_parseWord_86 rfl ?_))))))))))) (fun c68 => (r_iconst C dX2_parseWord_71 (r_zret C dX2_parseWord_72 rfl ?_))))))))))))))))))) (fun c41 => (r_iconst C dX2_parseWord_44 (r_zret C dX2_parseWord_45 rfl ?_))))))))))))))))) (fun c15 => (r_iconst C dX2_parseWord_18 (r_zret C dX2_parseWord_19 rfl ?_))))))))))))
  · exact h.1.s0
  · exact ⟨h1.1, (df_same h1.2.2).2 h.2.1, rfl⟩
  · have q1 := q0.step h1
    have := HW _ _ q1
    omega
  · have q1 := q0.step h1
    exact (HT _ _ _ q1 h28).1.2.2.2.2.1.s0
  · exact ⟨h32.1, by decide⟩
  · exact h32.1.s0
  · have q1 := q0.step h1
    have q2 := ((HT _ _ _ q1 h28).1.step h32).step h47
    exact ⟨h47.1, q2.2.2.2.1⟩
  · have q1 := q0.step h1
    have q2 := (HT _ _ _ q1 h28).1.step h32
    have q3 := q2.step h47
    have hG := HG _ _ q3
    have a1 := (HN _ _ q1).mp (bP_ne c15)
    have a2 := (HI _ _ q2).mp (bP_ne c41)
    refine q3.out ?_
    unfold wdF
    rw [if_pos a1, if_pos a2, if_neg (fun z => ?_)]
    rw [hG.1, mm] at c57
    rcases hG.2.1 with y | y
    · rw [ti_ofInt (by omega)] at c57; omega
    · exact y.1 z.1
  · have q1 := q0.step h1
    have q3 := ((HT _ _ _ q1 h28).1.step h32).step h47
    have := kDf_w q3.2.2.2.1
    exact ⟨by omega, by omega⟩
  · exact h47.1.s0
  · have q1 := q0.step h1
    have q3 := ((HT _ _ _ q1 h28).1.step h32).step h47
    have q4 := q3.step h74
    have := HW _ _ q4
    exact ⟨by omega, by omega⟩
  · have q1 := q0.step h1
    have hT := HT _ _ _ q1 h28
    have q2 := hT.1.step h32
    have q3 := q2.step h47
    have hG := HG _ _ q3
    have q4 := q3.step h74
    rw [hG.1, mm] at c57
    rcases hG.2.1 with y | y
    · have e4 := HW _ _ q4
      have e14 : ∀ b, μ74.1 14 b = μ28.1 14 b := fun b => by rw [h74.2.2 14 b (by decide), h47.2.2 14 b (by decide), h32.2.2 14 b (by decide)]
      have e15 : ∀ b, μ74.1 15 b = μ28.1 15 b := fun b => by rw [h74.2.2 15 b (by decide), h47.2.2 15 b (by decide), h32.2.2 15 b (by decide)]
      have ig := ti_ofInt (n := grV (kt μ) (kn μ) (kdm μ) (nxF (kt μ) (kn μ) (nxF (kt μ) (kn μ) (nxF (kt μ) (kn μ) s)))) (by omega)
      have hb := teF_b (t := kt μ) q1.le
      have q5 := kGrp_at q4 (g := Int32.ofInt (grV (kt μ) (kn μ) (kdm μ) (nxF (kt μ) (kn μ) (nxF (kt μ) (kn μ) (nxF (kt μ) (kn μ) s))))) (a := nxF (kt μ) (kn μ) s) (e := teF (kt μ) (kn μ) (nxF (kt μ) (kn μ) s)) (by rw [ig]; omega) hw (by rw [e14]; exact hT.2.1) (by rw [e15]; exact hT.2.2) ⟨by omega, by omega⟩
      rw [hG.1, show (μ74.1 8 5).toInt.toNat = dW (kdm μ) by omega] at h92
      rw [← h92] at q5
      exact q5.2.2.2.2.1.s0
    · exact absurd (by rw [y.2, mm]) c57
  · have q1 := q0.step h1
    have hT := HT _ _ _ q1 h28
    have q2 := hT.1.step h32
    have q3 := q2.step h47
    have hG := HG _ _ q3
    have q4 := q3.step h74
    have a1 := (HN _ _ q1).mp (bP_ne c15)
    have a2 := (HI _ _ q2).mp (bP_ne c41)
    have c68 := hG.2.2.mp c68
    rw [hG.1, mm] at c57
    rw [q4.kind, m3] at c82
    rcases hG.2.1 with y | y
    · have e4 := HW _ _ q4
      have e14 : ∀ b, μ74.1 14 b = μ28.1 14 b := fun b => by rw [h74.2.2 14 b (by decide), h47.2.2 14 b (by decide), h32.2.2 14 b (by decide)]
      have e15 : ∀ b, μ74.1 15 b = μ28.1 15 b := fun b => by rw [h74.2.2 15 b (by decide), h47.2.2 15 b (by decide), h32.2.2 15 b (by decide)]
      have ig := ti_ofInt (n := grV (kt μ) (kn μ) (kdm μ) (nxF (kt μ) (kn μ) (nxF (kt μ) (kn μ) (nxF (kt μ) (kn μ) s)))) (by omega)
      have hb := teF_b (t := kt μ) q1.le
      have q5 := kGrp_at q4 (g := Int32.ofInt (grV (kt μ) (kn μ) (kdm μ) (nxF (kt μ) (kn μ) (nxF (kt μ) (kn μ) (nxF (kt μ) (kn μ) s))))) (a := nxF (kt μ) (kn μ) s) (e := teF (kt μ) (kn μ) (nxF (kt μ) (kn μ) s)) (by rw [ig]; omega) hw (by rw [e14]; exact hT.2.1) (by rw [e15]; exact hT.2.2) ⟨by omega, by omega⟩
      rw [hG.1, show (μ74.1 8 5).toInt.toNat = dW (kdm μ) by omega] at h92
      rw [← h92, ig] at q5
      have q6 := q5.step h96
      refine q6.good ?_
      unfold wdF
      rw [if_pos a1, if_pos a2, if_pos ⟨y.1, fun w hw z => c68 w hw (by omega)⟩, if_pos (by omega), y.2.1]
    · exact absurd (by rw [y.2, mm]) c57
  · have q1 := q0.step h1
    have hT := HT _ _ _ q1 h28
    have q2 := hT.1.step h32
    have q3 := q2.step h47
    have hG := HG _ _ q3
    have q4 := q3.step h74
    have a1 := (HN _ _ q1).mp (bP_ne c15)
    have a2 := (HI _ _ q2).mp (bP_ne c41)
    have c68 := hG.2.2.mp c68
    rw [hG.1, mm] at c57
    rw [q4.kind, m3] at c82
    rcases hG.2.1 with y | y
    · refine q4.out ?_
      unfold wdF
      rw [if_pos a1, if_pos a2, if_pos ⟨y.1, fun w hw z => c68 w hw (by omega)⟩, if_neg (by omega)]
    · exact absurd (by rw [y.2, mm]) c57
  · have q1 := q0.step h1
    have q2 := (HT _ _ _ q1 h28).1.step h32
    have q3 := q2.step h47
    have hG := HG _ _ q3
    have a1 := (HN _ _ q1).mp (bP_ne c15)
    have a2 := (HI _ _ q2).mp (bP_ne c41)
    refine q3.out ?_
    unfold wdF
    rw [if_pos a1, if_pos a2, if_neg (fun z => ?_)]
    refine c68 (hG.2.2.mpr (fun w hw y => ?_))
    rcases hG.2.1 with x | x
    · exact z.2 w hw (by omega)
    · exact x.1 z.1
  · have q1 := q0.step h1
    have q2 := (HT _ _ _ q1 h28).1.step h32
    have a1 := (HN _ _ q1).mp (bP_ne c15)
    have a2 : ¬ isW (kt μ) (kn μ) (nxF (kt μ) (kn μ) (nxF (kt μ) (kn μ) s)) 2 := fun z => bP_e0.mp c41 ((HI _ _ q2).mpr z)
    refine q2.out ?_
    unfold wdF
    rw [if_pos a1, if_neg a2]
  · have q1 := q0.step h1
    have a1 : ¬ nmOk (kt μ) (kn μ) (kdm μ) (nxF (kt μ) (kn μ) s) := fun z => bP_e0.mp c15 ((HN _ _ q1).mpr z)
    refine q1.out ?_
    unfold wdF
    rw [if_neg a1]
theorem ok_X2_parseLine {μ : kMem} (h : kTok μ ∧ kDfOk μ) : kOk yX2_parseLine cX2_parseLine 1 (some .boolean) rmX2_parseLine shK 68 [.ref 13] μ (kI fun r μ' => kOut μ (lnF (kt μ) (kn μ) (kdm μ) (kgs μ)) r μ') := by
  have q0 := kAt.rf h.1 h.2
  have hw := kDf_w h.2
  refine kOk.of rfl (Nat.le_of_ble_eq_true rfl) (fun J C => ?_)
  have C : kR cX2_parseLine RX2 1 rmX2_parseLine shK 68 (some .boolean) _ J := C
  refine (r_aload_n C dX2_parseLine_0 rfl rfl (r_ldcS C (i := 0) (fun _ _ _ _ _ _ hE => hE.2.2.1) dX2_parseLine_1 (r_v1P C yv_X2_isWord lk_X2_52 dX2_parseLine_3 rfl nK_13 sK_13 rfl (Nat.le_of_ble_eq_true rfl) (ok_X2_isWord ?_) (r_if_eq C (tgt := 14) dX2_parseLine_6 rfl (fun c6 => (r_aload_n C dX2_parseLine_14 rfl rfl (r_ldcS C (i := 1) (fun _ _ _ _ _ _ hE => hE.2.2.2.1) dX2_parseLine_15 (r_v1P C yv_X2_isWord lk_X2_52 dX2_parseLine_17 rfl nK_13 sK_13 rfl (Nat.le_of_ble_eq_true rfl) (ok_X2_isWord ?_) (r_if_eq C (tgt := 44) dX2_parseLine_20 rfl (fun c20 => (r_iconst C dX2_parseLine_44 (r_zret C dX2_parseLine_45 rfl ?_))) (fun c20 => (r_aload_n C dX2_parseLine_23 rfl rfl (r_getR C dX2_parseLine_24 fd_X2_24 nK_13 sK_13 rfl (r_v0P C yv_X1_hasRoomForWord lk_X2_61 dX2_parseLine_27 rfl nK_8 sK_8 rfl (Nat.le_of_ble_eq_true rfl) ok_X1_hasRoomForWord_8 (r_if_eq C (tgt := 44) dX2_parseLine_30 rfl (fun c30 => (r_iconst C dX2_parseLine_44 (r_zret C dX2_parseLine_45 rfl ?_))) (fun c30 => (r_aload_n C dX2_parseLine_33 rfl rfl (r_v0I C yv_X2_parseWord lk_X2_64 dX2_parseLine_34 rfl nK_13 sK_13 rfl (Nat.le_of_ble_eq_true rfl) (ok_X2_parseWord ?_) (fun r34 μ34 h34 => (r_if_eq C (tgt := 44) dX2_parseLine_37 rfl (fun c37 => (r_iconst C dX2_parseLine_44 (r_zret C dX2_parseLine_45 rfl ?_))) (fun c37 => (r_iconst C dX2_parseLine_40 (r_goto C (tgt := 45) dX2_parseLine_41 rfl (r_zret C dX2_parseLine_45 rfl ?_))))))))))))))))))) (fun c6 => (r_aload_n C dX2_parseLine_9 rfl rfl (r_v0I C yv_X2_parseLetter lk_X2_56 dX2_parseLine_10 rfl nK_13 sK_13 rfl (Nat.le_of_ble_eq_true rfl) (ok_X2_parseLetter ?_) (fun r10 μ10 h10 => (r_zret C dX2_parseLine_13 ?_ ?_)))))))))
  · exact ⟨h.1, by decide⟩
  · exact ⟨h.1, by decide⟩
  · refine q0.out ?_
    unfold lnF
    rw [if_neg (bP_e0.mp c6), if_neg (fun z => bP_e0.mp c20 z.1)]
  · refine q0.out ?_
    unfold lnF
    rw [if_neg (bP_e0.mp c6), if_neg (fun z => bP_e0.mp c30 (by omega))]
  · have := bP_ne c30
    exact ⟨h.1, h.2, by omega⟩
  · have a1 := bP_ne c30
    have e : lnF (kt μ) (kn μ) (kdm μ) (kgs μ) = wdF (kt μ) (kn μ) (kdm μ) (kgs μ) := by
      unfold lnF
      rw [if_neg (bP_e0.mp c6), if_pos ⟨bP_ne c20, by omega⟩]
    rw [e]
    refine ⟨h34.1, ?_⟩
    rcases h34.2 with ⟨p, b1, b2, b3⟩ | ⟨q, b1, b2, b3⟩
    · exact Or.inl ⟨p, b1, rfl, b3⟩
    · rw [b2] at c37
      exact absurd c37 (by decide)
  · have a1 := bP_ne c30
    have e : lnF (kt μ) (kn μ) (kdm μ) (kgs μ) = wdF (kt μ) (kn μ) (kdm μ) (kgs μ) := by
      unfold lnF
      rw [if_neg (bP_e0.mp c6), if_pos ⟨bP_ne c20, by omega⟩]
    rw [e]
    refine ⟨h34.1, ?_⟩
    rcases h34.2 with ⟨p, b1, b2, b3⟩ | ⟨q, b1, b2, b3⟩
    · rw [b2] at c37
      exact absurd (by decide) c37
    · exact Or.inr ⟨q, b1, rfl, b3⟩
  · exact h
  · rcases h10.2 with ⟨p, b1, b2, b3⟩ | ⟨q, b1, b2, b3⟩
    · rw [b2]; rfl
    · rw [b2]; rfl
  · have e : lnF (kt μ) (kn μ) (kdm μ) (kgs μ) = ltF (kt μ) (kn μ) (kdm μ) (kgs μ) := by
      unfold lnF
      rw [if_pos (bP_ne c6)]
    rw [e]
    exact h10
/-- an emptied draft tells nothing -/
theorem kEmp_df {μ μ' : kMem} (h : ∀ a b : Nat, μ'.1 a b = if ((a = 9 ∨ a = 10) ∧ b < 26) ∨ (a = 8 ∧ (b = 4 ∨ b = 5)) then Int32.ofInt 0 else μ.1 a b) : kdm μ' = dr0 ∧ kDfOk μ' ∧ kt μ' = kt μ ∧ kn μ' = kn μ ∧ (kTxOk μ → kTxOk μ') := by
  have z0 : (Int32.ofInt 0).toInt = 0 := by decide
  have e85 : (μ'.1 8 5).toInt = 0 := by rw [h 8 5, if_pos (by omega), z0]
  have e84 : (μ'.1 8 4).toInt = 0 := by rw [h 8 4, if_pos (by omega), z0]
  have e9 : ∀ l, l < 26 → (μ'.1 9 l).toInt = 0 := fun l hl => by rw [h 9 l, if_pos (by omega), z0]
  have e10 : ∀ l, l < 26 → (μ'.1 10 l).toInt = 0 := fun l hl => by rw [h 10 l, if_pos (by omega), z0]
  obtain ⟨x1, x2, x3⟩ := tx_same (μ := μ) (μ' := μ') (fun a b q => by rw [h a b, if_neg (by omega)])
  have eM : kdm μ' = dr0 := by
    have b1 : (kdm μ').1 = dr0.1 := by
      funext l
      show (if l < 26 then (μ'.1 9 l).toInt else 0) = 0
      by_cases q : l < 26
      · rw [if_pos q, e9 l q]
      · rw [if_neg q]
    have b2 : (kdm μ').2.1 = 0 := by
      show (μ'.1 8 5).toInt.toNat = 0
      rw [e85]
      rfl
    have b3 : (kdm μ').2.2.1 = dr0.2.2.1 := by
      funext i
      show (if i < (μ'.1 8 5).toInt.toNat then (μ'.1 12 i).toInt else 0) = 0
      rw [e85, if_neg (by omega)]
    have b4 : (kdm μ').2.2.2 = dr0.2.2.2 := by
      funext i
      show (if i < (μ'.1 8 5).toInt.toNat then tkL (kt μ') (μ'.1 14 i).toInt.toNat ((μ'.1 14 i).toInt.toNat + (μ'.1 15 i).toInt.toNat) else []) = []
      rw [e85, if_neg (by omega)]
    exact Prod.ext b1 (Prod.ext b2 (Prod.ext b3 b4))
  refine ⟨eM, ?_, x1, x2, x3⟩
  unfold kDfOk
  rw [eM]
  have hM : ∀ l, dM dr0 l = 0 := fun _ => rfl
  refine ⟨dr0_ok, ?_, by omega, fun l hl => ?_, fun w hw => absurd hw (Nat.not_lt_zero _)⟩
  · rw [e84]
    show (0 : Int) = (dL dr0 : Int)
    have : dL dr0 = 0 := cntF_zero 26 (fun i _ => by rw [hM]; decide)
    omega
  · rw [hM, e10 l hl, dnF_zero (Int.le_refl _)]
    exact ⟨rfl, fun j hj => absurd hj (Nat.not_lt_zero _)⟩
theorem lnF_in {t : Nat → Int} {n : Nat} {d : kDr} {s p : Nat} (hs : s ≤ n) (h : lnF t n d s = .inl p) : p ≤ n := by
  have h1 := nxF_b (t := t) (j := s) hs
  have h2 := nxF_b (t := t) (j := nxF t n s) h1.2.1
  have h3 := nxF_b (t := t) (j := nxF t n (nxF t n s)) h2.2.1
  have h4 := nxF_b (t := t) (j := nxF t n (nxF t n (nxF t n s))) h3.2.1
  unfold lnF at h
  split at h
  · unfold ltF at h
    split at h
    · split at h
      · split at h
        · cases h
        · injection h with h; omega
      · injection h with h; omega
    · injection h with h; omega
  · split at h
    · unfold wdF at h
      split at h
      · split at h
        · split at h
          · split at h
            · cases h
            · injection h with h; omega
          · injection h with h; omega
        · injection h with h; omega
      · injection h with h; omega
    · injection h with h; omega
theorem ok_X2_parse {μ : kMem} (h : kTxOk μ) : kOk yX2_parse cX2_parse 2 (some .int) rmX2_parse shK 68 [.ref 13] μ (kI fun r μ' => kGo μ μ' ∧ ((∃ p : Nat, paF (kt μ) (kn μ) = .inl p ∧ r = Int32.ofInt p ∧ p ≤ 500) ∨ (∃ d, paF (kt μ) (kn μ) = .inr d ∧ r = Int32.ofInt (-1) ∧ kDfOk μ' ∧ kdm μ' = d))) := by
  have hn := kn_i h
  have m5 : (Int32.ofInt 500).toInt = 500 := by decide
  have z0 : (Int32.ofInt 0).toInt = 0 := by decide
  have gst : ∀ (d : kDr) (s : Nat) (μ' : kMem), kAt μ d s μ' → μ'.1 13 5 = Int32.ofInt s := fun d s μ' q => ti_ext (by have := q.le; rw [q.st, ti_ofInt (by omega)])
  refine kOk.of rfl (Nat.le_of_ble_eq_true rfl) (fun J C => ?_)
  have C : kR cX2_parse RX2 2 rmX2_parse shK 68 (some .int) _ J := C
  have loop : ∀ (f i : Nat) (v : Int32) (d : kDr) (s : Nat) (μ' : kMem), i + f = 500 → v.toInt = i → paF (kt μ) (kn μ) = prF (kt μ) (kn μ) f d s → kAt μ d s μ' → J 30 [some (.ref 13), some (.int v)] [] μ' := by
    intro f
    induction f with
    | zero =>
      intro i v d s μ' hi hv hP q
      refine (r_iload_n C dX2_parse_30 rfl rfl (r_sipush C dX2_parse_31 (by decide +kernel) (r_icmp_ge C (tgt := 62) dX2_parse_34 rfl (fun c34 => (r_iconst C dX2_parse_62 (r_iret C dX2_parse_63 ?_))) (fun c34 => (r_aload_n C dX2_parse_37 rfl rfl (r_getI C dX2_parse_38 fd_X2_38 nK_13 sK_13 rfl (r_if_eq C (tgt := 62) dX2_parse_41 rfl (fun c41 => (r_iconst C dX2_parse_62 (r_iret C dX2_parse_63 ?_))) (fun c41 => (r_aload_n C dX2_parse_44 rfl rfl (r_v0I C yv_X2_parseLine lk_X2_46 dX2_parse_45 rfl nK_13 sK_13 rfl (Nat.le_of_ble_eq_true rfl) (ok_X2_parseLine ?_) (fun r45 μ45 h45 => (r_if_ne C (tgt := 56) dX2_parse_48 rfl (fun c48 => (r_iinc C dX2_parse_56 rfl (by decide) (r_goto C (tgt := 30) dX2_parse_59 rfl ?_))) (fun c48 => (r_aload_n C dX2_parse_51 rfl rfl (r_getI C dX2_parse_52 fd_X2_41 nK_13 sK_13 rfl (r_iret C dX2_parse_55 ?_))))))))))))))))
      · exact ⟨q.2.2.2.2.2.2, Or.inr ⟨d, hP, rfl, q.2.2.2.1, q.2.2.1⟩⟩
      · exact ⟨q.2.2.2.2.2.2, Or.inr ⟨d, hP, rfl, q.2.2.2.1, q.2.2.1⟩⟩
      · rw [m5] at c34; omega
      · rw [m5] at c34; omega
      · rw [m5] at c34; omega
    | succ f ih =>
      intro i v d s μ' hi hv hP q
      have e0 : prF (kt μ) (kn μ) (f + 1) d s = if kn μ ≤ s then .inr d else match lnF (kt μ) (kn μ) d s with
        | .inl p => .inl p
        | .inr q => prF (kt μ) (kn μ) f q.1 q.2 := rfl
      rw [e0] at hP
      have hk := q.kind
      refine (r_iload_n C dX2_parse_30 rfl rfl (r_sipush C dX2_parse_31 (by decide +kernel) (r_icmp_ge C (tgt := 62) dX2_parse_34 rfl (fun c34 => (r_iconst C dX2_parse_62 (r_iret C dX2_parse_63 ?_))) (fun c34 => (r_aload_n C dX2_parse_37 rfl rfl (r_getI C dX2_parse_38 fd_X2_38 nK_13 sK_13 rfl (r_if_eq C (tgt := 62) dX2_parse_41 rfl (fun c41 => (r_iconst C dX2_parse_62 (r_iret C dX2_parse_63 ?_))) (fun c41 => (r_aload_n C dX2_parse_44 rfl rfl (r_v0I C yv_X2_parseLine lk_X2_46 dX2_parse_45 rfl nK_13 sK_13 rfl (Nat.le_of_ble_eq_true rfl) (ok_X2_parseLine ?_) (fun r45 μ45 h45 => (r_if_ne C (tgt := 56) dX2_parse_48 rfl (fun c48 => (r_iinc C dX2_parse_56 rfl (by decide) (r_goto C (tgt := 30) dX2_parse_59 rfl ?_))) (fun c48 => (r_aload_n C dX2_parse_51 rfl rfl (r_getI C dX2_parse_52 fd_X2_41 nK_13 sK_13 rfl (r_iret C dX2_parse_55 ?_))))))))))))))))
      · rw [m5] at c34; omega
      · rw [hk] at c41
        have : ¬ s < kn μ := by
          intro z
          rw [kdF_lt z] at c41
          have := (ckF_b (kt μ s)).1
          omega
        rw [if_pos (by omega)] at hP
        exact ⟨q.2.2.2.2.2.2, Or.inr ⟨d, hP, rfl, q.2.2.2.1, q.2.2.1⟩⟩
      · exact ⟨q.2.2.2.2.1, q.2.2.2.1⟩
      · rw [hk] at c41
        have hs : s < kn μ := by
          refine Classical.byContradiction (fun z => c41 ?_)
          rw [kdF_no z]
          rfl
        rw [if_neg (by omega)] at hP
        obtain ⟨g1, g2⟩ := h45
        rw [q.1, q.2.1, q.2.2.1, q.2.2.2.2.2.1] at g2
        rcases g2 with ⟨p, b1, b2, b3⟩ | ⟨o, b1, b2, b3, b4, b5, b6⟩
        · rw [b2] at c48
          exact absurd z0 c48
        · rw [b1] at hP
          obtain ⟨x1, x2, x3⟩ := tx_same (μ := μ') (μ' := μ45) (fun a b z => g1 a b (by omega))
          exact ih (i + 1) _ o.1 o.2 μ45 (by omega) (by simp (disch := (first | omega | (simp (disch := omega) only [ti_ofInt, ti_addc, ti_subc, ti_mulc, ti_cmul, ti_divc, ti_remc, ti_zero, ti_add, ti_sub, ti_neg, if_lt_ti, if_gt_ti, bP_e0, Classical.not_not, tl_i2l]; omega))) only [ti_ofInt, ti_addc, ti_subc, ti_mulc, ti_cmul, ti_divc, ti_remc, ti_zero, ti_add, ti_sub, ti_neg, if_lt_ti, if_gt_ti, bP_e0, Classical.not_not, tl_i2l]; omega) hP ⟨by rw [x1]; exact q.1, by rw [x2]; exact q.2.1, b5, b4, b3, b6, fun a b z => by rw [g1 a b z]; exact q.2.2.2.2.2.2 a b z⟩
      · rw [hk] at c41
        have hs : s < kn μ := by
          refine Classical.byContradiction (fun z => c41 ?_)
          rw [kdF_no z]
          rfl
        rw [if_neg (by omega)] at hP
        obtain ⟨g1, g2⟩ := h45
        have hg : kGo μ μ45 := fun a b z => by rw [g1 a b z]; exact q.2.2.2.2.2.2 a b z
        rw [q.1, q.2.1, q.2.2.1, q.2.2.2.2.2.1] at g2
        rcases g2 with ⟨p, b1, b2, b3⟩ | ⟨o, b1, b2, b3, b4, b5, b6⟩
        · rw [b1] at hP
          have hp : p ≤ kn μ := lnF_in (by omega) b1
          exact ⟨hg, Or.inl ⟨p, hP, ti_ext (by rw [b3, ti_ofInt (by omega)]), by omega⟩⟩
        · rw [b2] at c48
          exact absurd c48 (by decide)
  refine (r_aload_n C dX2_parse_0 rfl rfl (r_getR C dX2_parse_1 fd_X2_24 nK_13 sK_13 rfl (r_v0N C yv_X1_empty lk_X2_28 dX2_parse_4 rfl nK_8 sK_8 rfl (Nat.le_of_ble_eq_true rfl) ok_X1_empty_8 (fun μ4 h4 => (r_aload_n C dX2_parse_7 rfl rfl (r_iconst C dX2_parse_8 (r_putI C dX2_parse_9 fw_X2_31 nK_13 sK_13 rfl (r_aload_n C dX2_parse_12 rfl rfl (r_v0N C yv_X2_step lk_X2_35 dX2_parse_13 rfl nK_13 sK_13 rfl (Nat.le_of_ble_eq_true rfl) (ok_X2_step ?_) (fun μ13 h13 => (r_aload_n C dX2_parse_16 rfl rfl (r_getI C dX2_parse_17 fd_X2_38 nK_13 sK_13 rfl (r_if_ne C (tgt := 28) dX2_parse_20 rfl (fun c20 => (r_iconst C dX2_parse_28 (r_istore_n C dX2_parse_29 rfl (by decide) ?_))) (fun c20 => (r_aload_n C dX2_parse_23 rfl rfl (r_getI C dX2_parse_24 fd_X2_41 nK_13 sK_13 rfl (r_iret C dX2_parse_27 ?_)))))))))))))))))
  · obtain ⟨b1, b2, b3, b4, b5⟩ := kEmp_df h4
    obtain ⟨x1, x2, x3⟩ := tx_same (μ := μ4) (μ' := up μ4 13 6 (Int32.ofInt 0)) (fun a b z => by rw [up_neo _ _ (by omega)])
    exact ⟨x3 (b5 h), by rw [up_same, z0]; omega, by rw [up_same, z0]; omega⟩
  · obtain ⟨b1, b2, b3, b4, b5⟩ := kEmp_df h4
    obtain ⟨x1, x2, x3⟩ := tx_same (μ := μ4) (μ' := up μ4 13 6 (Int32.ofInt 0)) (fun a b z => by rw [up_neo _ _ (by omega)])
    have hdf := df_same (μ := μ4) (μ' := up μ4 13 6 (Int32.ofInt 0)) (fun a b z => by rw [up_neo _ _ (by omega)])
    obtain ⟨c1, c2, c3⟩ := h13
    obtain ⟨y1, y2, y3⟩ := tx_same (μ := up μ4 13 6 (Int32.ofInt 0)) (μ' := μ13) (fun a b z => c3 a b (by omega))
    have hdg := df_same c3
    rw [up_same, z0, x1, x2, b3, b4] at c2
    have q : kAt μ dr0 (skF (kt μ) (kn μ) 0) μ13 := ⟨by rw [y1, x1, b3], by rw [y2, x2, b4], by rw [hdg.1, hdf.1, b1], hdg.2 (hdf.2 b2), c1, c2, fun a b z => by rw [c3 a b (by omega), up_neo _ _ (by omega), h4 a b, if_neg (by omega)]⟩
    refine loop 500 0 _ dr0 (skF (kt μ) (kn μ) 0) μ13 rfl (by simp (disch := (first | omega | (simp (disch := omega) only [ti_ofInt, ti_addc, ti_subc, ti_mulc, ti_cmul, ti_divc, ti_remc, ti_zero, ti_add, ti_sub, ti_neg, if_lt_ti, if_gt_ti, bP_e0, Classical.not_not, tl_i2l]; omega))) only [ti_ofInt, ti_addc, ti_subc, ti_mulc, ti_cmul, ti_divc, ti_remc, ti_zero, ti_add, ti_sub, ti_neg, if_lt_ti, if_gt_ti, bP_e0, Classical.not_not, tl_i2l]; rfl) ?_ q
    unfold paF
    rw [q.kind] at c20
    rw [if_neg (fun z => c20 (by rw [kdF_no (by omega)]; rfl))]
  · obtain ⟨b1, b2, b3, b4, b5⟩ := kEmp_df h4
    obtain ⟨x1, x2, x3⟩ := tx_same (μ := μ4) (μ' := up μ4 13 6 (Int32.ofInt 0)) (fun a b z => by rw [up_neo _ _ (by omega)])
    have hdf := df_same (μ := μ4) (μ' := up μ4 13 6 (Int32.ofInt 0)) (fun a b z => by rw [up_neo _ _ (by omega)])
    obtain ⟨c1, c2, c3⟩ := h13
    obtain ⟨y1, y2, y3⟩ := tx_same (μ := up μ4 13 6 (Int32.ofInt 0)) (μ' := μ13) (fun a b z => c3 a b (by omega))
    have hdg := df_same c3
    rw [up_same, z0, x1, x2, b3, b4] at c2
    have q : kAt μ dr0 (skF (kt μ) (kn μ) 0) μ13 := ⟨by rw [y1, x1, b3], by rw [y2, x2, b4], by rw [hdg.1, hdf.1, b1], hdg.2 (hdf.2 b2), c1, c2, fun a b z => by rw [c3 a b (by omega), up_neo _ _ (by omega), h4 a b, if_neg (by omega)]⟩
    rw [q.kind] at c20
    have hs : ¬ skF (kt μ) (kn μ) 0 < kn μ := by
      intro z
      rw [kdF_lt z] at c20
      have := (ckF_b (kt μ (skF (kt μ) (kn μ) 0))).1
      omega
    have hle := q.le
    refine ⟨q.2.2.2.2.2.2, Or.inl ⟨kn μ, ?_, ?_, hn.2⟩⟩
    · unfold paF
      rw [if_pos (by omega)]
    · refine ti_ext ?_
      rw [q.st, ti_ofInt (by omega)]
      omega

