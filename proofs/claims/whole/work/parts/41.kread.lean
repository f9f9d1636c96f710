/-! ===== KeyFists: readings and the nearest ===== -/
def kcan (μ : kMem) (h l : Int) : Prop := (0 ≤ h ∧ h < (μ.1 16 1).toInt) ∧ (0 ≤ l ∧ l < (μ.1 18 7).toInt) ∧ (μ.1 25 1).toInt % 2 = 1
def ktn (μ : kMem) : Nat := (μ.1 25 1).toInt.toNat
def kmc (μ : kMem) : Nat := (ktn μ + 1) / 2
def kcs (μ : kMem) (h l : Int) : Nat → Int → Int := cst (fun i => (μ.1 26 i).toInt) (ktn μ) (kbi μ l) (kle μ h) (kge μ h)
def kRI (μ : kMem) : Prop := (0 ≤ (μ.1 16 1).toInt ∧ (μ.1 16 1).toInt ≤ 8) ∧ kSpOk μ ∧ kLnOk μ ∧ kTpOk μ ∧ kSzOk μ
theorem cst_congr {tp tp' : Nat → Int} {n : Nat} {b : Int} {le ge le' ge' : Int → Int} (ht : ∀ p, p < n → tp p = tp' p) (h : ∀ k, 0 ≤ k → k < 5 → le k = le' k ∧ ge k = ge' k) : cst tp n b le ge = cst tp' n b le' ge' := by
  funext p k
  unfold cst
  by_cases q : p < n ∧ 0 ≤ k ∧ k < 5
  · have ea : asn tp b p = asn tp' b p := by unfold asn; rw [ht p q.1]
    rw [(h k q.2.1 q.2.2).1, (h k q.2.1 q.2.2).2, ea]
  · rw [if_neg (fun z => q ⟨z.1, z.2.1, z.2.2.1⟩), if_neg (fun z => q ⟨z.1, z.2.1, z.2.2.1⟩)]
/-- what the reader reads and nothing else has stayed -/
theorem kSm_rd {μ μ' : kMem} (h : kSm μ μ') : kcs μ' = kcs μ ∧ ktn μ' = ktn μ ∧ rsz μ' = rsz μ ∧ rkd μ' = rkd μ ∧ (kRI μ → kRI μ') ∧ kle μ' = kle μ ∧ kge μ' = kge μ ∧ kbi μ' = kbi μ ∧ kt μ' = kt μ ∧ kn μ' = kn μ ∧ ksz μ' = ksz μ ∧ kkd μ' = kkd μ ∧ (kTxOk μ → kTxOk μ') := by
  have hh : ∀ a b : Nat, a < 8 ∨ (15 < a ∧ a < 23 ∧ ¬ (a = 18 ∧ b = 6)) ∨ a = 25 ∨ a = 26 ∨ (36 < a ∧ a < 43) ∨ (48 < a ∧ a < 57) → μ'.1 a b = μ.1 a b := h
  have e1 : ksp μ' = ksp μ := by funext x k; unfold ksp; simp (disch := omega) only [hh]
  have e2 : kle μ' = kle μ := by funext x k; unfold kle; rw [e1]
  have e3 : kge μ' = kge μ := by funext x k; unfold kge; rw [e1]
  have e4 : kbi μ' = kbi μ := by funext x; unfold kbi; simp (disch := omega) only [hh]
  have e5 : ktn μ' = ktn μ := by unfold ktn; simp (disch := omega) only [hh]
  have e6 : ksz μ' = ksz μ := by funext x; unfold ksz; simp (disch := omega) only [hh]
  have e7 : kkd μ' = kkd μ := by funext x p; unfold kkd; rw [e6]; simp (disch := omega) only [hh]
  obtain ⟨x1, x2, x3⟩ := tx_same (μ := μ) (μ' := μ') (fun a b q => hh a b (by omega))
  refine ⟨?_, e5, ?_, ?_, ?_, e2, e3, e4, x1, x2, e6, e7, x3⟩
  · funext a l
    unfold kcs
    rw [e2, e3, e4, e5]
    simp (disch := omega) only [hh]
  · funext l; unfold rsz; rw [e6]
  · funext l i; unfold rkd; rw [e7]
  · intro q
    unfold kRI kSpOk kLnOk kTpOk kSzOk at q ⊢
    simp (disch := omega) only [hh]
    exact q
theorem kLisO_sm {μ μ' : kMem} (h : kLisO μ μ') : kSm μ μ' := fun a b q => h a b (by unfold relK at q; omega) (by unfold relK at q; omega) (by unfold relK at q; omega)
theorem kLis_all {μ μ' : kMem} {a l : Int} (h : kRI μ) (q : kLis μ a l μ') : kRdOk μ' ∧ rcs μ' = kcs μ a l ∧ rmc μ' = kmc μ ∧ rsz μ' = rsz μ ∧ rkd μ' = rkd μ ∧ kSm μ μ' := by
  obtain ⟨q1, q2, q3, q4⟩ := q
  have hs := kLisO_sm q4
  obtain ⟨r1, r2, r3, r4, r5, -⟩ := kSm_rd hs
  have h' := r5 h
  have e25 : μ'.1 25 1 = μ.1 25 1 := hs 25 1 (by unfold relK; omega)
  have hb := kbi_b h.2.2.1 l
  have ht := h.2.2.2.1.1
  refine ⟨⟨h'.2.2.2.1, h'.2.2.2.2, by omega, by rw [q3, e25], fun k hk => ?_⟩, ?_, ?_, r3, r4, hs⟩
  · have := kge_b h.2.1 a k
    have := q1 k hk
    omega
  · unfold rcs
    show cst _ (ktn μ') _ _ _ = _
    rw [r2]
    unfold kcs
    rw [q2]
    refine cst_congr (fun p _ => by rw [hs 26 p (by unfold relK; omega)]) (fun k k1 k2 => ?_)
    have := q1 k.toNat (by omega)
    rw [show ((k.toNat : Nat) : Int) = k by omega] at this
    exact this
  · unfold rmc kmc ktn
    omega
theorem ok_X11_canRead {x y : Int32} {μ : kMem} (h : 0 ≤ (μ.1 25 1).toInt) : kOk yX11_canRead cX11_canRead 3 (some .boolean) rmX11_canRead shK 68 [.ref 0, .int x, .int y] μ (kP (bP (kcan μ x.toInt y.toInt)) μ) := by
  refine kOk.of rfl (Nat.le_of_ble_eq_true rfl) (fun J C => ?_)
  have C : kR cX11_canRead RX11 3 rmX11_canRead shK 68 (some .boolean) _ J := C
  refine (r_aload_n C dX11_canRead_0 rfl rfl (r_getR C dX11_canRead_1 fd_X11_38 nK_0 sK_0 rfl (r_iload_n C dX11_canRead_4 rfl rfl (r_v1P C yv_X3_has lk_X11_188 dX11_canRead_5 rfl nK_16 sK_16 rfl (Nat.le_of_ble_eq_true rfl) ok_X3_has (r_if_eq C (tgt := 36) dX11_canRead_8 rfl (fun c8 => (r_iconst C dX11_canRead_36 (r_zret C dX11_canRead_37 rfl ?_))) (fun c8 => (r_aload_n C dX11_canRead_11 rfl rfl (r_getR C dX11_canRead_12 fd_X11_45 nK_0 sK_0 rfl (r_iload_n C dX11_canRead_15 rfl rfl (r_v1P C yv_X4_has lk_X11_151 dX11_canRead_16 rfl nK_18 sK_18 rfl (Nat.le_of_ble_eq_true rfl) ok_X4_has (r_if_eq C (tgt := 36) dX11_canRead_19 rfl (fun c19 => (r_iconst C dX11_canRead_36 (r_zret C dX11_canRead_37 rfl ?_))) (fun c19 => (r_aload_n C dX11_canRead_22 rfl rfl (r_getR C dX11_canRead_23 fd_X11_52 nK_0 sK_0 rfl (r_v0P C yv_X9_isWhole lk_X11_189 dX11_canRead_26 rfl nK_25 sK_25 rfl (Nat.le_of_ble_eq_true rfl) (ok_X9_isWhole ?_) (r_if_eq C (tgt := 36) dX11_canRead_29 rfl (fun c29 => (r_iconst C dX11_canRead_36 (r_zret C dX11_canRead_37 rfl ?_))) (fun c29 => (r_iconst C dX11_canRead_32 (r_goto C (tgt := 37) dX11_canRead_33 rfl (r_zret C dX11_canRead_37 rfl ?_))))))))))))))))))))
  · exact ⟨bP_0 (fun z => bP_e0.mp c8 z.1), rfl⟩
  · exact ⟨bP_0 (fun z => bP_e0.mp c19 z.2.1), rfl⟩
  · exact h
  · exact ⟨bP_0 (fun z => bP_e0.mp c29 z.2.2), rfl⟩
  · exact ⟨bP_1 ⟨bP_ne c8, bP_ne c19, bP_ne c29⟩, rfl⟩
theorem ok_X11_readings {x y : Int32} {μ : kMem} (h : kRI μ) : kOk yX11_readings cX11_readings 3 (some .int) rmX11_readings shK 68 [.ref 0, .int x, .int y] μ (kI fun r μ' => (¬ kcan μ x.toInt y.toInt ∧ r = Int32.ofInt (-1) ∧ μ' = μ) ∨ (kcan μ x.toInt y.toInt ∧ kSm μ μ' ∧ ∃ W : Nat → Int, r.toInt = W 0 ∧ ∀ j, j < kmc μ → W j = pRe (kcs μ x.toInt y.toInt) (kmc μ) (rsz μ) (rkd μ) W j)) := by
  have ht := h.2.2.2.1.1
  refine kOk.of rfl (Nat.le_of_ble_eq_true rfl) (fun J C => ?_)
  have C : kR cX11_readings RX11 3 rmX11_readings shK 68 (some .int) _ J := C
  refine (r_aload_n C dX11_readings_0 rfl rfl (r_iload_n C dX11_readings_1 rfl rfl (r_iload_n C dX11_readings_2 rfl rfl (r_v2P C yv_X11_canRead lk_X11_166 dX11_readings_3 rfl nK_0 sK_0 rfl (Nat.le_of_ble_eq_true rfl) (ok_X11_canRead ?_) (r_if_ne C (tgt := 11) dX11_readings_6 rfl (fun c6 => (r_aload_n C dX11_readings_11 rfl rfl (r_getR C dX11_readings_12 fd_X11_61 nK_0 sK_0 rfl (r_iload_n C dX11_readings_15 rfl rfl (r_iload_n C dX11_readings_16 rfl rfl (r_v2N C yv_X7_listen lk_X11_169 dX11_readings_17 rfl nK_27 sK_27 rfl (Nat.le_of_ble_eq_true rfl) (ok_X7_listen ?_) (fun μ17 h17 => (r_aload_n C dX11_readings_20 rfl rfl (r_getR C dX11_readings_21 fd_X11_61 nK_0 sK_0 rfl (r_v0I C yv_X7_countAll lk_X11_173 dX11_readings_24 rfl nK_27 sK_27 rfl (Nat.le_of_ble_eq_true rfl) (ok_X7_countAll ?_) (fun r24 μ24 h24 => (r_iret C dX11_readings_27 ?_)))))))))))) (fun c6 => (r_iconst C dX11_readings_9 (r_iret C dX11_readings_10 ?_))))))))
  · exact ht.1
  · exact ⟨h.1.2, h.2.1, h.2.2.1, h.2.2.2.1⟩
  · have hA := kLis_all h h17
    have hc := (bP_ne c6).2.2
    refine ⟨hA.1, ?_⟩
    rw [h17.2.2.1]
    omega
  · obtain ⟨a1, a2, a3, a4, a5, a6⟩ := kLis_all h h17
    obtain ⟨W, w1, w2, w3⟩ := h24
    refine Or.inr ⟨bP_ne c6, fun a b q => by rw [w3 a b (by unfold relK at q; omega)]; exact a6 a b q, W, w1, fun j hj => ?_⟩
    have := w2 j (by rw [a3]; exact hj)
    rw [this, ← a2, ← a3, ← a4, ← a5]
    rfl
  · exact Or.inl ⟨bP_e0.mp c6, rfl, rfl⟩
theorem wrF_len {F : Nat → Int} {sz : Int → Nat} {bl : Nat → Prop} {mc : Nat} : ∀ f m, (wrF F sz bl mc f m).length ≤ 2 * f := by
  intro f
  induction f with
  | zero => intro m; exact Nat.le_refl _
  | succ f ih =>
    intro m
    unfold wrF
    split
    · exact Nat.zero_le _
    · split
      · have := ih (m + sz (F m))
        simp only [List.length_cons]
        omega
      · have := ih (m + sz (F m))
        simp only [List.length_cons]
        omega
theorem ok_X11_nearest {x y k : Int32} {μ : kMem} (h : kRI μ) : kOk yX11_nearest cX11_nearest 5 (some .int) rmX11_nearest shK 68 [.ref 0, .int x, .int y, .int k] μ (kI fun r μ' => (¬ kcan μ x.toInt y.toInt ∧ r = Int32.ofInt (-1) ∧ μ' = μ) ∨ (kcan μ x.toInt y.toInt ∧ kSm μ μ' ∧ nrA (kcs μ x.toInt y.toInt) (kmc μ) (rsz μ) (rkd μ) k.toInt r.toInt)) := by
  have ht := h.2.2.2.1.1
  have m1 : (Int32.ofInt (-1)).toInt = -1 := by decide
  have m2 : (Int32.ofInt (-2)).toInt = -2 := by decide
  have B : ∀ μ17 μ24 : kMem, kLis μ x.toInt y.toInt μ17 → kNr μ17 (rC μ24) (rF μ24) 0 → pNr (kcs μ x.toInt y.toInt) (kmc μ) (rsz μ) (rkd μ) (rC μ24) (rF μ24) := by
    intro μ17 μ24 q1 q2 j hj
    obtain ⟨a1, a2, a3, a4, a5, a6⟩ := kLis_all h q1
    have := q2 j (Nat.zero_le _) (by rw [a3]; exact hj)
    rw [← a2, ← a3, ← a4, ← a5]
    exact ⟨this.1, this.2.1⟩
  have S : ∀ μ17 μ24 : kMem, kLis μ x.toInt y.toInt μ17 → (∀ a b : Nat, a ≠ 31 → a ≠ 32 → μ24.1 a b = μ17.1 a b) → kSm μ μ24 ∧ rSame μ17 μ24 := by
    intro μ17 μ24 q1 q2
    obtain ⟨a1, a2, a3, a4, a5, a6⟩ := kLis_all h q1
    exact ⟨fun a b q => by rw [q2 a b (by unfold relK at q; omega) (by unfold relK at q; omega)]; exact a6 a b q, fun a b n1 _ => q2 a b (by omega) (by omega)⟩
  have P48 : ∀ μ17 μ24 : kMem, kLis μ x.toInt y.toInt μ17 → kNr μ17 (rC μ24) (rF μ24) 0 → (∀ a b : Nat, a ≠ 31 → a ≠ 32 → μ24.1 a b = μ17.1 a b) → ¬ rC μ24 0 = -1 → kRdOk μ24 ∧ kNr μ24 (rC μ24) (rF μ24) 0 ∧ ¬ rC μ24 0 = -1 := by
    intro μ17 μ24 q1 q2 q3 q4
    obtain ⟨a1, a2, a3, a4, a5, a6⟩ := kLis_all h q1
    obtain ⟨b1, b2, b3, b4, b5, b6⟩ := rSame_lc (S μ17 μ24 q1 q3).2
    refine ⟨b4 a1, ?_, q4⟩
    unfold kNr rv at q2 ⊢
    rw [b3, b5]
    exact q2
  have A : ∀ μ17 μ24 μ48 : kMem, kLis μ x.toInt y.toInt μ17 → (∀ a b : Nat, a ≠ 31 → a ≠ 32 → μ24.1 a b = μ17.1 a b) → (kRow (wrF (rF μ24) (rsz μ24) (rbl μ24) (rmc μ24) 60 0) μ48 ∧ ∀ a b : Nat, ¬ (a = 27 ∧ b = 12) → a ≠ 33 → μ48.1 a b = μ24.1 a b) → kRow (wrF (rF μ24) (rsz μ) (pBl (kcs μ x.toInt y.toInt)) (kmc μ) 60 0) μ48 ∧ kSm μ μ48 ∧ (wrF (rF μ24) (rsz μ) (pBl (kcs μ x.toInt y.toInt)) (kmc μ) 60 0).length ≤ 120 := by
    intro μ17 μ24 μ48 q1 q3 q4
    obtain ⟨a1, a2, a3, a4, a5, a6⟩ := kLis_all h q1
    obtain ⟨b1, b2, b3, b4, b5, b6⟩ := rSame_lc (S μ17 μ24 q1 q3).2
    have e : rbl μ24 = pBl (kcs μ x.toInt y.toInt) := by
      funext m
      unfold rbl pBl
      rw [b6, a2]
    rw [b2, b5, a3, a4, e] at q4
    exact ⟨q4.1, fun a b q => by rw [q4.2 a b (by unfold relK at q; omega) (by unfold relK at q; omega)]; exact (S μ17 μ24 q1 q3).1 a b q, wrF_len 60 0⟩
  refine kOk.of rfl (Nat.le_of_ble_eq_true rfl) (fun J C => ?_)
  have C : kR cX11_nearest RX11 5 rmX11_nearest shK 68 (some .int) _ J := C
  refine (r_aload_n C dX11_nearest_0 rfl rfl (r_iload_n C dX11_nearest_1 rfl rfl (r_iload_n C dX11_nearest_2 rfl rfl (r_v2P C yv_X11_canRead lk_X11_166 dX11_nearest_3 rfl nK_0 sK_0 rfl (Nat.le_of_ble_eq_true rfl) (ok_X11_canRead ?_) (r_if_ne C (tgt := 11) dX11_nearest_6 rfl (fun c6 => (r_aload_n C dX11_nearest_11 rfl rfl (r_getR C dX11_nearest_12 fd_X11_61 nK_0 sK_0 rfl (r_iload_n C dX11_nearest_15 rfl rfl (r_iload_n C dX11_nearest_16 rfl rfl (r_v2N C yv_X7_listen lk_X11_169 dX11_nearest_17 rfl nK_27 sK_27 rfl (Nat.le_of_ble_eq_true rfl) (ok_X7_listen ?_) (fun μ17 h17 => (r_aload_n C dX11_nearest_20 rfl rfl (r_getR C dX11_nearest_21 fd_X11_61 nK_0 sK_0 rfl (r_v0I C yv_X7_findNearest lk_X11_176 dX11_nearest_24 rfl nK_27 sK_27 rfl (Nat.le_of_ble_eq_true rfl) (ok_X7_findNearest ?_) (fun r24 μ24 h24 => (r_istore C dX11_nearest_27 (by decide) (r_iload C dX11_nearest_29 rfl (r_iconst C dX11_nearest_31 (r_icmp_eq C (tgt := 41) dX11_nearest_32 rfl (fun c32 => (r_iload C dX11_nearest_41 rfl (r_iret C dX11_nearest_43 ?_))) (fun c32 => (r_iload_n C dX11_nearest_35 rfl rfl (r_bipush C dX11_nearest_36 (by decide +kernel) (r_icmp_ne C (tgt := 44) dX11_nearest_38 rfl (fun c38 => (r_aload_n C dX11_nearest_44 rfl rfl (r_getR C dX11_nearest_45 fd_X11_61 nK_0 sK_0 rfl (r_v0N C yv_X7_writeNearest lk_X11_179 dX11_nearest_48 rfl nK_27 sK_27 rfl (Nat.le_of_ble_eq_true rfl) (ok_X7_writeNearest ?_) (fun μ48 h48 => (r_iload_n C dX11_nearest_51 rfl rfl (r_iconst C dX11_nearest_52 (r_icmp_ne C (tgt := 66) dX11_nearest_53 rfl (fun c53 => (r_aload_n C dX11_nearest_66 rfl rfl (r_getR C dX11_nearest_67 fd_X11_61 nK_0 sK_0 rfl (r_iload_n C dX11_nearest_70 rfl rfl (r_v1P C yv_X7_rowAt lk_X11_185 dX11_nearest_71 rfl nK_27 sK_27 rfl (Nat.le_of_ble_eq_true rfl) (ok_X7_rowAt ?_) (r_iret C dX11_nearest_74 ?_)))))) (fun c53 => (r_aload_n C dX11_nearest_56 rfl rfl (r_getR C dX11_nearest_57 fd_X11_61 nK_0 sK_0 rfl (r_v0P C yv_X7_rowSize lk_X11_182 dX11_nearest_60 rfl nK_27 sK_27 rfl (Nat.le_of_ble_eq_true rfl) ok_X7_rowSize (r_goto C (tgt := 74) dX11_nearest_63 rfl (r_iret C dX11_nearest_74 ?_)))))))))))))) (fun c38 => (r_iload C dX11_nearest_41 rfl (r_iret C dX11_nearest_43 ?_)))))))))))))))))))))) (fun c6 => (r_iconst C dX11_nearest_9 (r_iret C dX11_nearest_10 ?_))))))))
  · exact ht.1
  · exact ⟨h.1.2, h.2.1, h.2.2.1, h.2.2.2.1⟩
  · have hA := kLis_all h h17
    have hc := (bP_ne c6).2.2
    refine ⟨hA.1, ?_⟩
    rw [h17.2.2.1]
    omega
  · refine Or.inr ⟨bP_ne c6, (S _ _ h17 h24.2.2).1, rC μ24, rF μ24, B _ _ h17 h24.2.1, ?_⟩
    rw [m1] at c32
    have e : r24.toInt = rC μ24 0 := by rw [h24.1]; rfl
    rw [if_pos (Or.inl (by omega)), e]
  · rw [m1] at c32
    have e : r24.toInt = rC μ24 0 := by rw [h24.1]; rfl
    exact P48 _ _ h17 h24.2.1 h24.2.2 (by omega)
  · obtain ⟨a1, a2, a3⟩ := A _ _ _ h17 h24.2.2 h48
    rw [a1.1]
    omega
  · obtain ⟨a1, a2, a3⟩ := A _ _ _ h17 h24.2.2 h48
    rw [m1] at c32 c53
    rw [m2] at c38
    have e : r24.toInt = rC μ24 0 := by rw [h24.1]; rfl
    refine Or.inr ⟨bP_ne c6, a2, rC μ24, rF μ24, B _ _ h17 h24.2.1, ?_⟩
    rw [if_neg (by omega)]
    unfold rowA kro
    rw [if_neg c53]
    by_cases q : 0 ≤ k.toInt ∧ k.toInt < (μ48.1 27 12).toInt
    · have hl := a1.1
      rw [if_pos q, dif_pos ⟨q.1, by omega⟩]
      exact a1.2 k.toInt.toNat (by omega)
    · have hl := a1.1
      rw [if_neg q, dif_neg (fun z => q ⟨z.1, by omega⟩), m1]
  · obtain ⟨a1, a2, a3⟩ := A _ _ _ h17 h24.2.2 h48
    rw [m1] at c32 c53
    rw [m2] at c38
    have e : r24.toInt = rC μ24 0 := by rw [h24.1]; rfl
    refine Or.inr ⟨bP_ne c6, a2, rC μ24, rF μ24, B _ _ h17 h24.2.1, ?_⟩
    rw [if_neg (by omega)]
    unfold rowA
    rw [if_pos c53]
    exact a1.1
  · refine Or.inr ⟨bP_ne c6, (S _ _ h17 h24.2.2).1, rC μ24, rF μ24, B _ _ h17 h24.2.1, ?_⟩
    rw [m2] at c38
    have e : r24.toInt = rC μ24 0 := by rw [h24.1]; rfl
    rw [if_pos (Or.inr c38), e]
  · exact Or.inl ⟨bP_e0.mp c6, rfl, rfl⟩

