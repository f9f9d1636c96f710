/-! ===== KeyFists: what is told ===== -/
theorem two_nz {r : Int32} (h : r = Int32.ofInt 1 ∨ r = Int32.ofInt 0) : narrow .boolean (.int r) = .int r := by
  rcases h with rfl | rfl <;> rfl
/-- the cells that calls show -/
def relK (a b : Nat) : Prop := a < 8 ∨ (15 < a ∧ a < 23 ∧ ¬ (a = 18 ∧ b = 6)) ∨ a = 25 ∨ a = 26 ∨ (36 < a ∧ a < 43) ∨ (48 < a ∧ a < 57)
def kSm (μ μ' : kMem) : Prop := ∀ a b : Nat, relK a b → μ'.1 a b = μ.1 a b
theorem kSm.rf {μ : kMem} : kSm μ μ := fun _ _ _ => rfl
def kAddN (μ : kMem) (f : Nat → Int32) (j : Nat) (μ' : kMem) : Prop := ∀ a b : Nat, μ'.1 a b = if a = 1 ∧ b = 1 then Int32.ofInt ((μ.1 1 1).toInt + j) else if a = 2 ∧ (μ.1 1 1).toInt ≤ (b : Int) ∧ (b : Int) < (μ.1 1 1).toInt + j then f (b - (μ.1 1 1).toInt.toNat) else μ.1 a b
theorem kAddN_sz {μ μ' : kMem} {f : Nat → Int32} {j : Nat} (h0 : 0 ≤ (μ.1 1 1).toInt ∧ (μ.1 1 1).toInt + j ≤ 500) (h : kAddN μ f j μ') : (μ'.1 1 1).toInt = (μ.1 1 1).toInt + j := by
  rw [h 1 1, if_pos ⟨rfl, rfl⟩, ti_ofInt (by omega)]
theorem kAddN_go {μ μ1 μ2 : kMem} {f : Nat → Int32} {j : Nat} {x : Int32} (h0 : 0 ≤ (μ.1 1 1).toInt ∧ (μ.1 1 1).toInt + j ≤ 500) (h : kAddN μ f j μ1) (h2 : kAdd μ1 x 4 μ2) : kAddN μ (fun i => if i < j then f i else kbyte x (i - j)) (j + 4) μ2 := by
  have e := kAddN_sz h0 h
  intro a b
  have h3 := h2 a b
  rw [e] at h3
  have e2 : (((j + 4 : Nat)) : Int) = (j : Int) + ((4 : Nat) : Int) := by omega
  rw [h3, e2]
  by_cases c1 : a = 1 ∧ b = 1
  · rw [if_pos c1, if_pos c1, Int.add_assoc]
  · rw [if_neg c1, if_neg c1, h a b, if_neg c1]
    by_cases c2 : a = 2 ∧ (μ.1 1 1).toInt ≤ (b : Int) ∧ (b : Int) < (μ.1 1 1).toInt + j
    · rw [if_neg (by omega), if_pos c2, if_pos (by omega)]
      dsimp only
      rw [if_pos (by omega)]
    · rw [if_neg c2]
      by_cases c3 : a = 2 ∧ (μ.1 1 1).toInt + j ≤ (b : Int) ∧ (b : Int) < (μ.1 1 1).toInt + j + ((4 : Nat) : Int)
      · rw [if_pos c3, if_pos (by omega)]
        dsimp only
        rw [if_neg (by omega), show b - ((μ.1 1 1).toInt + (j : Int)).toNat = b - (μ.1 1 1).toInt.toNat - j by omega]
      · rw [if_neg c3, if_neg (by omega)]
def fbK (x1 x2 x3 x4 x5 : Int32) : Nat → Int32 := fun i => if i < 16 then (fun i => if i < 12 then (fun i => if i < 8 then (fun i => if i < 4 then kbyte x1 i else kbyte x2 (i - 4)) i else kbyte x3 (i - 8)) i else kbyte x4 (i - 12)) i else kbyte x5 (i - 16)
theorem ok_X11_feed {x1 x2 x3 x4 x5 : Int32} {μ : kMem} (h : 0 ≤ (μ.1 1 1).toInt ∧ (μ.1 1 1).toInt ≤ 500) : kOk yX11_feed cX11_feed 6 (some .int) rmX11_feed shK 68 [.ref 0, .int x1, .int x2, .int x3, .int x4, .int x5] μ (kI fun r μ' => ((μ.1 1 1).toInt + 20 ≤ 500 ∧ r = Int32.ofInt ((μ.1 1 1).toInt + 20) ∧ kAddN μ (fbK x1 x2 x3 x4 x5) 20 μ') ∨ (¬ (μ.1 1 1).toInt + 20 ≤ 500 ∧ r = Int32.ofInt (-1) ∧ μ' = μ)) := by
  have A : ∀ μ1, kAdd μ x1 4 μ1 → kAddN μ (kbyte x1) 4 μ1 := fun _ q => q
  refine kOk.of rfl (Nat.le_of_ble_eq_true rfl) (fun J C => ?_)
  have C : kR cX11_feed RX11 6 rmX11_feed shK 68 (some .int) _ J := C
  refine (r_aload_n C dX11_feed_0 rfl rfl (r_getR C dX11_feed_1 fd_X11_10 nK_0 sK_0 rfl (r_v0P C yv_X10_hasRoom lk_X11_98 dX11_feed_4 rfl nK_1 sK_1 rfl (Nat.le_of_ble_eq_true rfl) (ok_X10_hasRoom ?_) (r_if_ne C (tgt := 12) dX11_feed_7 rfl (fun c7 => (r_aload_n C dX11_feed_12 rfl rfl (r_getR C dX11_feed_13 fd_X11_10 nK_0 sK_0 rfl (r_iload_n C dX11_feed_16 rfl rfl (r_v1N C yv_X10_add lk_X11_102 dX11_feed_17 rfl nK_1 sK_1 rfl (Nat.le_of_ble_eq_true rfl) (ok_X10_add ?_) (fun μ17 h17 => (r_aload_n C dX11_feed_20 rfl rfl (r_getR C dX11_feed_21 fd_X11_10 nK_0 sK_0 rfl (r_iload_n C dX11_feed_24 rfl rfl (r_v1N C yv_X10_add lk_X11_102 dX11_feed_25 rfl nK_1 sK_1 rfl (Nat.le_of_ble_eq_true rfl) (ok_X10_add ?_) (fun μ25 h25 => (r_aload_n C dX11_feed_28 rfl rfl (r_getR C dX11_feed_29 fd_X11_10 nK_0 sK_0 rfl (r_iload_n C dX11_feed_32 rfl rfl (r_v1N C yv_X10_add lk_X11_102 dX11_feed_33 rfl nK_1 sK_1 rfl (Nat.le_of_ble_eq_true rfl) (ok_X10_add ?_) (fun μ33 h33 => (r_aload_n C dX11_feed_36 rfl rfl (r_getR C dX11_feed_37 fd_X11_10 nK_0 sK_0 rfl (r_iload C dX11_feed_40 rfl (r_v1N C yv_X10_add lk_X11_102 dX11_feed_42 rfl nK_1 sK_1 rfl (Nat.le_of_ble_eq_true rfl) (ok_X10_add ?_) (fun μ42 h42 => (r_aload_n C dX11_feed_45 rfl rfl (r_getR C dX11_feed_46 fd_X11_10 nK_0 sK_0 rfl (r_iload C dX11_feed_49 rfl (r_v1N C yv_X10_add lk_X11_102 dX11_feed_51 rfl nK_1 sK_1 rfl (Nat.le_of_ble_eq_true rfl) (ok_X10_add ?_) (fun μ51 h51 => (r_aload_n C dX11_feed_54 rfl rfl (r_getR C dX11_feed_55 fd_X11_10 nK_0 sK_0 rfl (r_v0P C yv_X10_size lk_X11_106 dX11_feed_58 rfl nK_1 sK_1 rfl (Nat.le_of_ble_eq_true rfl) ok_X10_size (r_iret C dX11_feed_61 ?_)))))))))))))))))))))))))))))) (fun c7 => (r_iconst C dX11_feed_10 (r_iret C dX11_feed_11 ?_)))))))
  · exact h
  · have c := bP_ne c7
    omega
  · have c := bP_ne c7
    have q1 := A _ h17
    have e1 := kAddN_sz (by omega) q1
    omega
  · have c := bP_ne c7
    have q1 := A _ h17
    have q2 := kAddN_go (by omega) q1 h25
    have e2 := kAddN_sz (by omega) q2
    omega
  · have c := bP_ne c7
    have q1 := A _ h17
    have q2 := kAddN_go (by omega) q1 h25
    have q3 := kAddN_go (by omega) q2 h33
    have e3 := kAddN_sz (by omega) q3
    omega
  · have c := bP_ne c7
    have q1 := A _ h17
    have q2 := kAddN_go (by omega) q1 h25
    have q3 := kAddN_go (by omega) q2 h33
    have q4 := kAddN_go (by omega) q3 h42
    have e4 := kAddN_sz (by omega) q4
    omega
  · have c := bP_ne c7
    have q1 := A _ h17
    have q2 := kAddN_go (by omega) q1 h25
    have q3 := kAddN_go (by omega) q2 h33
    have q4 := kAddN_go (by omega) q3 h42
    have q5 := kAddN_go (by omega) q4 h51
    exact Or.inl ⟨c, by rw [q5 1 1, if_pos ⟨rfl, rfl⟩]; rfl, q5⟩
  · exact Or.inr ⟨bP_e0.mp (by rw [c7]), rfl, rfl⟩
theorem ok_X11_end {x : Int32} {μ : kMem} : kOk yX11_end cX11_end 2 (some .boolean) rmX11_end shK 68 [.ref 0, .int x] μ (kI fun r μ' => (0 ≤ x.toInt ∧ x.toInt ≤ (μ.1 1 1).toInt ∧ r = Int32.ofInt 1 ∧ μ' = up μ 1 1 x) ∨ (¬ (0 ≤ x.toInt ∧ x.toInt ≤ (μ.1 1 1).toInt) ∧ r = Int32.ofInt 0 ∧ μ' = μ)) := by
  refine kOk.of rfl (Nat.le_of_ble_eq_true rfl) (fun J C => ?_)
  have C : kR cX11_end RX11 2 rmX11_end shK 68 (some .boolean) _ J := C
  refine (r_aload_n C dX11_end_0 rfl rfl (r_getR C dX11_end_1 fd_X11_10 nK_0 sK_0 rfl (r_iload_n C dX11_end_4 rfl rfl (r_v1I C yv_X10_keep lk_X11_110 dX11_end_5 rfl nK_1 sK_1 rfl (Nat.le_of_ble_eq_true rfl) ok_X10_keep (fun r5 μ5 h5 => (r_zret C dX11_end_8 ?_ ?_))))))
  · rcases h5 with ⟨_, _, e, _⟩ | ⟨_, e, _⟩ <;> (rw [e]; rfl)
  · exact h5
theorem ok_X11_fault {μ : kMem} (h : kTxOk μ) : kOk yX11_fault cX11_fault 1 (some .int) rmX11_fault shK 68 [.ref 0] μ (kI fun r μ' => kGo μ μ' ∧ ((∃ p : Nat, paF (kt μ) (kn μ) = .inl p ∧ r = Int32.ofInt p ∧ p ≤ 500) ∨ (∃ d, paF (kt μ) (kn μ) = .inr d ∧ r = Int32.ofInt (-1)))) := by
  refine kOk.of rfl (Nat.le_of_ble_eq_true rfl) (fun J C => ?_)
  have C : kR cX11_fault RX11 1 rmX11_fault shK 68 (some .int) _ J := C
  refine (r_aload_n C dX11_fault_0 rfl rfl (r_getR C dX11_fault_1 fd_X11_31 nK_0 sK_0 rfl (r_v0I C yv_X2_parse lk_X11_114 dX11_fault_4 rfl nK_13 sK_13 rfl (Nat.le_of_ble_eq_true rfl) (ok_X2_parse ?_) (fun r4 μ4 h4 => (r_iret C dX11_fault_7 ?_)))))
  · exact h
  · refine ⟨h4.1, ?_⟩
    rcases h4.2 with q | ⟨d, q1, q2, -⟩
    · exact Or.inl q
    · exact Or.inr ⟨d, q1, q2⟩
/-- the CODE tells d -/
def kCod (d : kDr) (μ : kMem) : Prop := (∀ l, l < 26 → (μ.1 4 l).toInt = dM d l ∧ (μ.1 5 l).toInt = dnF 5 (dM d l) ∧ ∀ j, j < dnF 5 (dM d l) → (μ.1 6 (l * 5 + j)).toInt = dM d l / 10 ^ j % 10 - 1) ∧ (μ.1 3 4).toInt = dL d ∧ (μ.1 3 5).toInt = dW d ∧ ∀ w, w < dW d → (μ.1 7 w).toInt = dG d w
theorem ok_X11_code {μ : kMem} (h : kTxOk μ) : kOk yX11_code cX11_code 1 (some .int) rmX11_code shK 68 [.ref 0] μ (kI fun r μ' => ((∃ p, paF (kt μ) (kn μ) = .inl p) ∧ r = Int32.ofInt (-1) ∧ kGo μ μ') ∨ (∃ d, paF (kt μ) (kn μ) = .inr d ∧ dOk d ∧ r.toInt = dW d ∧ kCod d μ' ∧ (μ'.1 1 1).toInt = 0 ∧ ∀ a b : Nat, ¬ (a = 1 ∧ b = 1) → ¬ (a = 3 ∧ (b = 4 ∨ b = 5)) → ¬ ((a = 4 ∨ a = 5) ∧ b < 26) → ¬ (a = 6 ∧ b < 130) → ¬ (a = 7 ∧ b < 20) → (a < 8 ∨ 15 < a) → μ'.1 a b = μ.1 a b)) := by
  have z0 : (Int32.ofInt 0).toInt = 0 := by decide
  have mm : (Int32.ofInt (-1)).toInt = -1 := by decide
  refine kOk.of rfl (Nat.le_of_ble_eq_true rfl) (fun J C => ?_)
  have C : kR cX11_code RX11 1 rmX11_code shK 68 (some .int) _ J := C
  refine (r_aload_n C dX11_code_0 rfl rfl (r_getR C dX11_code_1 fd_X11_31 nK_0 sK_0 rfl (r_v0I C yv_X2_parse lk_X11_114 dX11_code_4 rfl nK_13 sK_13 rfl (Nat.le_of_ble_eq_true rfl) (ok_X2_parse ?_) (fun r4 μ4 h4 => (r_iconst C dX11_code_7 (r_icmp_eq C (tgt := 13) dX11_code_8 rfl (fun c8 => (r_aload_n C dX11_code_13 rfl rfl (r_getR C dX11_code_14 fd_X11_19 nK_0 sK_0 rfl (r_aload_n C dX11_code_17 rfl rfl (r_getR C dX11_code_18 fd_X11_23 nK_0 sK_0 rfl (r_v1N C yv_X1_become lk_X11_117 dX11_code_21 rfl nK_3 sK_3 rfl (Nat.le_of_ble_eq_true rfl) ok_X1_become_3 (fun μ21 h21 => (r_aload_n C dX11_code_24 rfl rfl (r_getR C dX11_code_25 fd_X11_10 nK_0 sK_0 rfl (r_iconst C dX11_code_28 (r_v1I C yv_X10_keep lk_X11_110 dX11_code_29 rfl nK_1 sK_1 rfl (Nat.le_of_ble_eq_true rfl) ok_X10_keep (fun r29 μ29 h29 => (r_pop C dX11_code_32 rfl (r_aload_n C dX11_code_33 rfl rfl (r_getR C dX11_code_34 fd_X11_19 nK_0 sK_0 rfl (r_v0P C yv_X1_words lk_X11_121 dX11_code_37 rfl nK_3 sK_3 rfl (Nat.le_of_ble_eq_true rfl) ok_X1_words_3 (r_iret C dX11_code_40 ?_))))))))))))))))) (fun c8 => (r_iconst C dX11_code_11 (r_iret C dX11_code_12 ?_)))))))))
  · exact h
  · obtain ⟨g, q⟩ := h4
    rcases q with ⟨p, q1, q2, q3⟩ | ⟨d, q1, q2, q3, q4⟩
    · rw [q2, ti_ofInt (n := (p : Int)) (by omega), mm] at c8
      exact absurd c8 (by omega)
    · have e11 : μ21.1 1 1 = μ.1 1 1 := by rw [(h21 1 1).2 (by omega)]; exact g 1 1 (by omega)
      have h11 := h.1
      have k1 : μ29 = up μ21 1 1 (Int32.ofInt 0) := by
        rcases h29 with ⟨_, _, _, e⟩ | ⟨e, _⟩
        · exact e
        · rw [e11, z0] at e; omega
      refine Or.inr ⟨d, q1, by rw [← q4]; exact q3.1, ?_, ?_, ?_, ?_⟩
      · rw [k1, up_neo _ _ (by decide), (h21 3 5).1 (by omega)]
        have := kDf_w q3
        rw [q4] at this
        exact this.1.symm
      · have hB : ∀ a b : Nat, a = 3 ∨ a = 4 ∨ a = 5 ∨ a = 6 ∨ a = 7 → μ29.1 a b = μ21.1 a b := fun a b z => by rw [k1, up_neo _ _ (by omega)]
        unfold kDfOk at q3
        rw [q4] at q3
        obtain ⟨d1, d2, d3, d4, d5⟩ := q3
        refine ⟨fun l hl => ⟨?_, ?_, fun j hj => ?_⟩, ?_, ?_, fun w hw => ?_⟩
        · rw [hB 4 l (by omega), (h21 4 l).1 (by omega), ← q4]
          exact (kDf_M hl).symm
        · rw [hB 5 l (by omega), (h21 5 l).1 (by omega)]
          exact (d4 l hl).1
        · have := dnF_le 5 (dM d l)
          rw [hB 6 _ (by omega), (h21 6 (l * 5 + j)).1 (by omega)]
          exact (d4 l hl).2 j hj
        · rw [hB 3 4 (by omega), (h21 3 4).1 (by omega)]
          exact d2
        · rw [hB 3 5 (by omega), (h21 3 5).1 (by omega)]
          have : dW d = (μ4.1 8 5).toInt.toNat := by rw [← q4]; rfl
          show (μ4.1 8 5).toInt = _
          omega
        · have := d1.1
          rw [hB 7 w (by omega), (h21 7 w).1 (by omega)]
          rw [← q4] at hw ⊢
          exact (kDf_G hw).symm
      · rw [k1, up_same]
        exact z0
      · intro a b n1 n2 n3 n4 n5 n6
        rw [k1, up_ne _ _ n1, (h21 a b).2 (by omega)]
        exact g a b n6
  · obtain ⟨g, q⟩ := h4
    rcases q with ⟨p, q1, q2, q3⟩ | ⟨d, q1, q2, q3, q4⟩
    · exact Or.inl ⟨⟨p, q1⟩, rfl, g⟩
    · exact absurd (by rw [q2]) c8
theorem ok_X11_marks {x : Int32} {μ : kMem} : kOk yX11_marks cX11_marks 2 (some .int) rmX11_marks shK 68 [.ref 0, .int x] μ (kI fun r μ' => μ' = μ ∧ ((0 ≤ x.toInt ∧ x.toInt < 26 ∧ 0 < (μ.1 5 x.toInt.toNat).toInt ∧ r = μ.1 4 x.toInt.toNat) ∨ (¬ (0 ≤ x.toInt ∧ x.toInt < 26 ∧ 0 < (μ.1 5 x.toInt.toNat).toInt) ∧ r = Int32.ofInt (-1)))) := by
  refine kOk.of rfl (Nat.le_of_ble_eq_true rfl) (fun J C => ?_)
  have C : kR cX11_marks RX11 2 rmX11_marks shK 68 (some .int) _ J := C
  refine (r_aload_n C dX11_marks_0 rfl rfl (r_getR C dX11_marks_1 fd_X11_19 nK_0 sK_0 rfl (r_iload_n C dX11_marks_4 rfl rfl (r_v1I C yv_X1_marksOf lk_X11_124 dX11_marks_5 rfl nK_3 sK_3 rfl (Nat.le_of_ble_eq_true rfl) ok_X1_marksOf_3 (fun r5 μ5 h5 => (r_iret C dX11_marks_8 ?_))))))
  exact h5
theorem ok_X11_group {x : Int32} {μ : kMem} (h : (μ.1 3 5).toInt ≤ 20) : kOk yX11_group cX11_group 2 (some .int) rmX11_group shK 68 [.ref 0, .int x] μ (kP (kgr μ x.toInt) μ) := by
  refine kOk.of rfl (Nat.le_of_ble_eq_true rfl) (fun J C => ?_)
  have C : kR cX11_group RX11 2 rmX11_group shK 68 (some .int) _ J := C
  refine (r_aload_n C dX11_group_0 rfl rfl (r_getR C dX11_group_1 fd_X11_19 nK_0 sK_0 rfl (r_iload_n C dX11_group_4 rfl rfl (r_v1P C yv_X1_groupOf lk_X11_128 dX11_group_5 rfl nK_3 sK_3 rfl (Nat.le_of_ble_eq_true rfl) (ok_X1_groupOf_3 ?_) (r_iret C dX11_group_8 ?_)))))
  · exact h
  · exact ⟨rfl, rfl⟩
theorem ok_X11_mended {g o k : Int32} {μ : kMem} (h : 0 ≤ (μ.1 3 5).toInt ∧ (μ.1 3 5).toInt ≤ 20 ∧ ∀ w : Nat, (w : Int) < (μ.1 3 5).toInt → 0 ≤ (μ.1 7 w).toInt) : kOk yX11_mended cX11_mended 4 (some .int) rmX11_mended shK 68 [.ref 0, .int g, .int o, .int k] μ (kP (if (0 ≤ g.toInt ∧ g.toInt < 17576) ∧ 0 ≤ o.toInt ∧ o.toInt ≤ 3 then Int32.ofInt (kthF (fun w => unF 3 (μ.1 7 w).toInt g.toInt ≤ o.toInt) k.toInt (μ.1 3 5).toInt.toNat 0 0) else Int32.ofInt (-1)) μ) := by
  refine kOk.of rfl (Nat.le_of_ble_eq_true rfl) (fun J C => ?_)
  have C : kR cX11_mended RX11 4 rmX11_mended shK 68 (some .int) _ J := C
  refine (r_iload_n C dX11_mended_0 rfl rfl (r_if_lt C (tgt := 20) dX11_mended_1 rfl (fun c1 => (r_iconst C dX11_mended_20 (r_iret C dX11_mended_21 ?_))) (fun c1 => (r_iload_n C dX11_mended_4 rfl rfl (r_sipush C dX11_mended_5 (by decide +kernel) (r_icmp_ge C (tgt := 20) dX11_mended_8 rfl (fun c8 => (r_iconst C dX11_mended_20 (r_iret C dX11_mended_21 ?_))) (fun c8 => (r_iload_n C dX11_mended_11 rfl rfl (r_if_lt C (tgt := 20) dX11_mended_12 rfl (fun c12 => (r_iconst C dX11_mended_20 (r_iret C dX11_mended_21 ?_))) (fun c12 => (r_iload_n C dX11_mended_15 rfl rfl (r_iconst C dX11_mended_16 (r_icmp_le C (tgt := 22) dX11_mended_17 rfl (fun c17 => (r_aload_n C dX11_mended_22 rfl rfl (r_getR C dX11_mended_23 fd_X11_19 nK_0 sK_0 rfl (r_iload_n C dX11_mended_26 rfl rfl (r_iload_n C dX11_mended_27 rfl rfl (r_iload_n C dX11_mended_28 rfl rfl (r_v3P C yv_X1_kthNear lk_X11_131 dX11_mended_29 rfl nK_3 sK_3 rfl (Nat.le_of_ble_eq_true rfl) (ok_X1_kthNear_3 ?_) (r_iret C dX11_mended_32 ?_)))))))) (fun c17 => (r_iconst C dX11_mended_20 (r_iret C dX11_mended_21 ?_))))))))))))))))
  · exact ⟨(if_neg (by omega)).symm, rfl⟩
  · simp (disch := (first | omega | (simp (disch := omega) only [ti_ofInt, ti_addc, ti_subc, ti_mulc, ti_cmul, ti_divc, ti_remc, ti_zero, ti_add, ti_sub, ti_neg, if_lt_ti, if_gt_ti, bP_e0, Classical.not_not, tl_i2l]; omega))) only [ti_ofInt, ti_addc, ti_subc, ti_mulc, ti_cmul, ti_divc, ti_remc, ti_zero, ti_add, ti_sub, ti_neg, if_lt_ti, if_gt_ti, bP_e0, Classical.not_not, tl_i2l] at c8
    exact ⟨(if_neg (by omega)).symm, rfl⟩
  · exact ⟨(if_neg (by omega)).symm, rfl⟩
  · exact ⟨by omega, h⟩
  · simp (disch := (first | omega | (simp (disch := omega) only [ti_ofInt, ti_addc, ti_subc, ti_mulc, ti_cmul, ti_divc, ti_remc, ti_zero, ti_add, ti_sub, ti_neg, if_lt_ti, if_gt_ti, bP_e0, Classical.not_not, tl_i2l]; omega))) only [ti_ofInt, ti_addc, ti_subc, ti_mulc, ti_cmul, ti_divc, ti_remc, ti_zero, ti_add, ti_sub, ti_neg, if_lt_ti, if_gt_ti, bP_e0, Classical.not_not, tl_i2l] at c8 c17
    exact ⟨(if_pos (by omega)).symm, rfl⟩
  · simp (disch := (first | omega | (simp (disch := omega) only [ti_ofInt, ti_addc, ti_subc, ti_mulc, ti_cmul, ti_divc, ti_remc, ti_zero, ti_add, ti_sub, ti_neg, if_lt_ti, if_gt_ti, bP_e0, Classical.not_not, tl_i2l]; omega))) only [ti_ofInt, ti_addc, ti_subc, ti_mulc, ti_cmul, ti_divc, ti_remc, ti_zero, ti_add, ti_sub, ti_neg, if_lt_ti, if_gt_ti, bP_e0, Classical.not_not, tl_i2l] at c17
    exact ⟨(if_neg (by omega)).symm, rfl⟩
theorem ok_X11_hand {x1 x2 x3 x4 x5 : Int32} {μ : kMem} (h : 0 ≤ (μ.1 16 1).toInt ∧ (μ.1 16 1).toInt ≤ 8) : kOk yX11_hand cX11_hand 7 (some .int) rmX11_hand shK 68 [.ref 0, .int x1, .int x2, .int x3, .int x4, .int x5] μ (kI fun r μ' => ((isSp x1.toInt ∧ isSp x2.toInt ∧ isSp x3.toInt ∧ isSp x4.toInt ∧ isSp x5.toInt) ∧ (μ.1 16 1).toInt < 8 ∧ r = μ.1 16 1 ∧ kAddH μ (k5 x1 x2 x3 x4 x5) μ') ∨ (¬ ((isSp x1.toInt ∧ isSp x2.toInt ∧ isSp x3.toInt ∧ isSp x4.toInt ∧ isSp x5.toInt) ∧ (μ.1 16 1).toInt < 8) ∧ r = Int32.ofInt (-1) ∧ μ' = μ)) := by
  refine kOk.of rfl (Nat.le_of_ble_eq_true rfl) (fun J C => ?_)
  have C : kR cX11_hand RX11 7 rmX11_hand shK 68 (some .int) _ J := C
  refine (r_iload_n C dX11_hand_0 rfl rfl (r_s1P C ys_X3_isSpan lk_X11_135 dX11_hand_1 rfl (Nat.le_of_ble_eq_true rfl) ok_X3_isSpan (r_if_eq C (tgt := 41) dX11_hand_4 rfl (fun c4 => (r_iconst C dX11_hand_41 (r_istore C dX11_hand_42 (by decide) (r_iload C dX11_hand_44 rfl (r_if_eq C (tgt := 66) dX11_hand_46 rfl (fun c46 => (r_iconst C dX11_hand_66 (r_iret C dX11_hand_67 ?_))) (fun c46 => absurd c46 (by decide +kernel))))))) (fun c4 => (r_iload_n C dX11_hand_7 rfl rfl (r_s1P C ys_X3_isSpan lk_X11_135 dX11_hand_8 rfl (Nat.le_of_ble_eq_true rfl) ok_X3_isSpan (r_if_eq C (tgt := 41) dX11_hand_11 rfl (fun c11 => (r_iconst C dX11_hand_41 (r_istore C dX11_hand_42 (by decide) (r_iload C dX11_hand_44 rfl (r_if_eq C (tgt := 66) dX11_hand_46 rfl (fun c46 => (r_iconst C dX11_hand_66 (r_iret C dX11_hand_67 ?_))) (fun c46 => absurd c46 (by decide +kernel))))))) (fun c11 => (r_iload_n C dX11_hand_14 rfl rfl (r_s1P C ys_X3_isSpan lk_X11_135 dX11_hand_15 rfl (Nat.le_of_ble_eq_true rfl) ok_X3_isSpan (r_if_eq C (tgt := 41) dX11_hand_18 rfl (fun c18 => (r_iconst C dX11_hand_41 (r_istore C dX11_hand_42 (by decide) (r_iload C dX11_hand_44 rfl (r_if_eq C (tgt := 66) dX11_hand_46 rfl (fun c46 => (r_iconst C dX11_hand_66 (r_iret C dX11_hand_67 ?_))) (fun c46 => absurd c46 (by decide +kernel))))))) (fun c18 => (r_iload C dX11_hand_21 rfl (r_s1P C ys_X3_isSpan lk_X11_135 dX11_hand_23 rfl (Nat.le_of_ble_eq_true rfl) ok_X3_isSpan (r_if_eq C (tgt := 41) dX11_hand_26 rfl (fun c26 => (r_iconst C dX11_hand_41 (r_istore C dX11_hand_42 (by decide) (r_iload C dX11_hand_44 rfl (r_if_eq C (tgt := 66) dX11_hand_46 rfl (fun c46 => (r_iconst C dX11_hand_66 (r_iret C dX11_hand_67 ?_))) (fun c46 => absurd c46 (by decide +kernel))))))) (fun c26 => (r_iload C dX11_hand_29 rfl (r_s1P C ys_X3_isSpan lk_X11_135 dX11_hand_31 rfl (Nat.le_of_ble_eq_true rfl) ok_X3_isSpan (r_if_eq C (tgt := 41) dX11_hand_34 rfl (fun c34 => (r_iconst C dX11_hand_41 (r_istore C dX11_hand_42 (by decide) (r_iload C dX11_hand_44 rfl (r_if_eq C (tgt := 66) dX11_hand_46 rfl (fun c46 => (r_iconst C dX11_hand_66 (r_iret C dX11_hand_67 ?_))) (fun c46 => absurd c46 (by decide +kernel))))))) (fun c34 => (r_iconst C dX11_hand_37 (r_goto C (tgt := 42) dX11_hand_38 rfl (r_istore C dX11_hand_42 (by decide) (r_iload C dX11_hand_44 rfl (r_if_eq C (tgt := 66) dX11_hand_46 rfl (fun c46 => absurd c46 (by decide +kernel)) (fun c46 => (r_aload_n C dX11_hand_49 rfl rfl (r_getR C dX11_hand_50 fd_X11_38 nK_0 sK_0 rfl (r_iload_n C dX11_hand_53 rfl rfl (r_iload_n C dX11_hand_54 rfl rfl (r_iload_n C dX11_hand_55 rfl rfl (r_iload C dX11_hand_56 rfl (r_iload C dX11_hand_58 rfl (r_v5I C yv_X3_add lk_X11_138 dX11_hand_60 rfl nK_16 sK_16 rfl (Nat.le_of_ble_eq_true rfl) (ok_X3_add ?_) (fun r60 μ60 h60 => (r_goto C (tgt := 67) dX11_hand_63 rfl (r_iret C dX11_hand_67 ?_)))))))))))))))))))))))))))))))))))))
  · exact Or.inr ⟨fun z => bP_e0.mp c4 z.1.1, rfl, rfl⟩
  · exact Or.inr ⟨fun z => bP_e0.mp c11 z.1.2.1, rfl, rfl⟩
  · exact Or.inr ⟨fun z => bP_e0.mp c18 z.1.2.2.1, rfl, rfl⟩
  · exact Or.inr ⟨fun z => bP_e0.mp c26 z.1.2.2.2.1, rfl, rfl⟩
  · exact Or.inr ⟨fun z => bP_e0.mp c34 z.1.2.2.2.2, rfl, rfl⟩
  · exact h
  · rcases h60 with ⟨q1, q2, q3⟩ | ⟨q1, q2, q3⟩
    · exact Or.inl ⟨⟨bP_ne c4, bP_ne c11, bP_ne c18, bP_ne c26, bP_ne c34⟩, q1, q2, q3⟩
    · exact Or.inr ⟨fun z => by omega, q2, q3⟩
theorem ok_X11_line {x1 x2 x3 x4 : Int32} {μ : kMem} (h : 0 ≤ (μ.1 18 7).toInt ∧ (μ.1 18 7).toInt ≤ 8) : kOk yX11_line cX11_line 6 (some .int) rmX11_line shK 68 [.ref 0, .int x1, .int x2, .int x3, .int x4] μ (kI fun r μ' => ((((0 ≤ x1.toInt ∧ x1.toInt < 6) ∧ (0 ≤ x2.toInt ∧ x2.toInt < 6) ∧ ¬ x1.toInt = x2.toInt) ∧ (0 ≤ x3.toInt ∧ x3.toInt ≤ 99) ∧ 0 ≤ x4.toInt ∧ x4.toInt ≤ 20) ∧ (μ.1 18 7).toInt < 8 ∧ r = μ.1 18 7 ∧ μ' = up (up (up (up (up μ 19 (μ.1 18 7).toInt.toNat x1) 20 (μ.1 18 7).toInt.toNat x2) 21 (μ.1 18 7).toInt.toNat x3) 22 (μ.1 18 7).toInt.toNat x4) 18 7 (Int32.ofInt ((μ.1 18 7).toInt + 1))) ∨ (¬ ((((0 ≤ x1.toInt ∧ x1.toInt < 6) ∧ (0 ≤ x2.toInt ∧ x2.toInt < 6) ∧ ¬ x1.toInt = x2.toInt) ∧ (0 ≤ x3.toInt ∧ x3.toInt ≤ 99) ∧ 0 ≤ x4.toInt ∧ x4.toInt ≤ 20) ∧ (μ.1 18 7).toInt < 8) ∧ r = Int32.ofInt (-1) ∧ μ' = μ)) := by
  refine kOk.of rfl (Nat.le_of_ble_eq_true rfl) (fun J C => ?_)
  have C : kR cX11_line RX11 6 rmX11_line shK 68 (some .int) _ J := C
  refine (r_iload_n C dX11_line_0 rfl rfl (r_iload_n C dX11_line_1 rfl rfl (r_s2P C ys_X11_areTwoStations lk_X11_141 dX11_line_2 rfl (Nat.le_of_ble_eq_true rfl) ok_X11_areTwoStations (r_if_eq C (tgt := 34) dX11_line_5 rfl (fun c5 => (r_iconst C dX11_line_34 (r_istore C dX11_line_35 (by decide) (r_iload C dX11_line_37 rfl (r_if_eq C (tgt := 57) dX11_line_39 rfl (fun c39 => (r_iconst C dX11_line_57 (r_iret C dX11_line_58 ?_))) (fun c39 => absurd c39 (by decide +kernel))))))) (fun c5 => (r_iload_n C dX11_line_8 rfl rfl (r_if_lt C (tgt := 34) dX11_line_9 rfl (fun c9 => (r_iconst C dX11_line_34 (r_istore C dX11_line_35 (by decide) (r_iload C dX11_line_37 rfl (r_if_eq C (tgt := 57) dX11_line_39 rfl (fun c39 => (r_iconst C dX11_line_57 (r_iret C dX11_line_58 ?_))) (fun c39 => absurd c39 (by decide +kernel))))))) (fun c9 => (r_iload_n C dX11_line_12 rfl rfl (r_bipush C dX11_line_13 (by decide +kernel) (r_icmp_gt C (tgt := 34) dX11_line_15 rfl (fun c15 => (r_iconst C dX11_line_34 (r_istore C dX11_line_35 (by decide) (r_iload C dX11_line_37 rfl (r_if_eq C (tgt := 57) dX11_line_39 rfl (fun c39 => (r_iconst C dX11_line_57 (r_iret C dX11_line_58 ?_))) (fun c39 => absurd c39 (by decide +kernel))))))) (fun c15 => (r_iload C dX11_line_18 rfl (r_if_lt C (tgt := 34) dX11_line_20 rfl (fun c20 => (r_iconst C dX11_line_34 (r_istore C dX11_line_35 (by decide) (r_iload C dX11_line_37 rfl (r_if_eq C (tgt := 57) dX11_line_39 rfl (fun c39 => (r_iconst C dX11_line_57 (r_iret C dX11_line_58 ?_))) (fun c39 => absurd c39 (by decide +kernel))))))) (fun c20 => (r_iload C dX11_line_23 rfl (r_bipush C dX11_line_25 (by decide +kernel) (r_icmp_gt C (tgt := 34) dX11_line_27 rfl (fun c27 => (r_iconst C dX11_line_34 (r_istore C dX11_line_35 (by decide) (r_iload C dX11_line_37 rfl (r_if_eq C (tgt := 57) dX11_line_39 rfl (fun c39 => (r_iconst C dX11_line_57 (r_iret C dX11_line_58 ?_))) (fun c39 => absurd c39 (by decide +kernel))))))) (fun c27 => (r_iconst C dX11_line_30 (r_goto C (tgt := 35) dX11_line_31 rfl (r_istore C dX11_line_35 (by decide) (r_iload C dX11_line_37 rfl (r_if_eq C (tgt := 57) dX11_line_39 rfl (fun c39 => absurd c39 (by decide +kernel)) (fun c39 => (r_aload_n C dX11_line_42 rfl rfl (r_getR C dX11_line_43 fd_X11_45 nK_0 sK_0 rfl (r_iload_n C dX11_line_46 rfl rfl (r_iload_n C dX11_line_47 rfl rfl (r_iload_n C dX11_line_48 rfl rfl (r_iload C dX11_line_49 rfl (r_v4I C yv_X4_add lk_X11_145 dX11_line_51 rfl nK_18 sK_18 rfl (Nat.le_of_ble_eq_true rfl) (ok_X4_add ?_) (fun r51 μ51 h51 => (r_goto C (tgt := 58) dX11_line_54 rfl (r_iret C dX11_line_58 ?_)))))))))))))))))))))))))))))))))))
  · exact Or.inr ⟨fun z => bP_e0.mp c5 z.1.1, rfl, rfl⟩
  · exact Or.inr ⟨fun z => by omega, rfl, rfl⟩
  · simp (disch := (first | omega | (simp (disch := omega) only [ti_ofInt, ti_addc, ti_subc, ti_mulc, ti_cmul, ti_divc, ti_remc, ti_zero, ti_add, ti_sub, ti_neg, if_lt_ti, if_gt_ti, bP_e0, Classical.not_not, tl_i2l]; omega))) only [ti_ofInt, ti_addc, ti_subc, ti_mulc, ti_cmul, ti_divc, ti_remc, ti_zero, ti_add, ti_sub, ti_neg, if_lt_ti, if_gt_ti, bP_e0, Classical.not_not, tl_i2l] at c15
    exact Or.inr ⟨fun z => by omega, rfl, rfl⟩
  · exact Or.inr ⟨fun z => by omega, rfl, rfl⟩
  · simp (disch := (first | omega | (simp (disch := omega) only [ti_ofInt, ti_addc, ti_subc, ti_mulc, ti_cmul, ti_divc, ti_remc, ti_zero, ti_add, ti_sub, ti_neg, if_lt_ti, if_gt_ti, bP_e0, Classical.not_not, tl_i2l]; omega))) only [ti_ofInt, ti_addc, ti_subc, ti_mulc, ti_cmul, ti_divc, ti_remc, ti_zero, ti_add, ti_sub, ti_neg, if_lt_ti, if_gt_ti, bP_e0, Classical.not_not, tl_i2l] at c27
    exact Or.inr ⟨fun z => by omega, rfl, rfl⟩
  · exact h
  · simp (disch := (first | omega | (simp (disch := omega) only [ti_ofInt, ti_addc, ti_subc, ti_mulc, ti_cmul, ti_divc, ti_remc, ti_zero, ti_add, ti_sub, ti_neg, if_lt_ti, if_gt_ti, bP_e0, Classical.not_not, tl_i2l]; omega))) only [ti_ofInt, ti_addc, ti_subc, ti_mulc, ti_cmul, ti_divc, ti_remc, ti_zero, ti_add, ti_sub, ti_neg, if_lt_ti, if_gt_ti, bP_e0, Classical.not_not, tl_i2l] at c15 c27
    rcases h51 with ⟨q1, q2, q3⟩ | ⟨q1, q2, q3⟩
    · exact Or.inl ⟨⟨bP_ne c5, by omega, by omega⟩, q1, q2, q3⟩
    · exact Or.inr ⟨fun z => by omega, q2, q3⟩
theorem ok_X11_rain {x : Int32} {μ : kMem} : kOk yX11_rain cX11_rain 2 (some .boolean) rmX11_rain shK 68 [.ref 0, .int x] μ (kI fun r μ' => (0 ≤ x.toInt ∧ x.toInt ≤ 9 ∧ r = Int32.ofInt 1 ∧ μ' = up μ 18 8 x) ∨ (¬ (0 ≤ x.toInt ∧ x.toInt ≤ 9) ∧ r = Int32.ofInt 0 ∧ μ' = μ)) := by
  refine kOk.of rfl (Nat.le_of_ble_eq_true rfl) (fun J C => ?_)
  have C : kR cX11_rain RX11 2 rmX11_rain shK 68 (some .boolean) _ J := C
  refine (r_iload_n C dX11_rain_0 rfl rfl (r_if_lt C (tgt := 10) dX11_rain_1 rfl (fun c1 => (r_iconst C dX11_rain_10 (r_zret C dX11_rain_11 rfl ?_))) (fun c1 => (r_iload_n C dX11_rain_4 rfl rfl (r_bipush C dX11_rain_5 (by decide +kernel) (r_icmp_le C (tgt := 12) dX11_rain_7 rfl (fun c7 => (r_aload_n C dX11_rain_12 rfl rfl (r_getR C dX11_rain_13 fd_X11_45 nK_0 sK_0 rfl (r_iload_n C dX11_rain_16 rfl rfl (r_v1N C yv_X4_setRain lk_X11_148 dX11_rain_17 rfl nK_18 sK_18 rfl (Nat.le_of_ble_eq_true rfl) ok_X4_setRain (fun μ17 h17 => (r_iconst C dX11_rain_20 (r_zret C dX11_rain_21 rfl ?_)))))))) (fun c7 => (r_iconst C dX11_rain_10 (r_zret C dX11_rain_11 rfl ?_)))))))))
  · exact Or.inr ⟨by omega, rfl, rfl⟩
  · simp (disch := (first | omega | (simp (disch := omega) only [ti_ofInt, ti_addc, ti_subc, ti_mulc, ti_cmul, ti_divc, ti_remc, ti_zero, ti_add, ti_sub, ti_neg, if_lt_ti, if_gt_ti, bP_e0, Classical.not_not, tl_i2l]; omega))) only [ti_ofInt, ti_addc, ti_subc, ti_mulc, ti_cmul, ti_divc, ti_remc, ti_zero, ti_add, ti_sub, ti_neg, if_lt_ti, if_gt_ti, bP_e0, Classical.not_not, tl_i2l] at c7
    exact Or.inl ⟨by omega, by omega, rfl, h17⟩
  · simp (disch := (first | omega | (simp (disch := omega) only [ti_ofInt, ti_addc, ti_subc, ti_mulc, ti_cmul, ti_divc, ti_remc, ti_zero, ti_add, ti_sub, ti_neg, if_lt_ti, if_gt_ti, bP_e0, Classical.not_not, tl_i2l]; omega))) only [ti_ofInt, ti_addc, ti_subc, ti_mulc, ti_cmul, ti_divc, ti_remc, ti_zero, ti_add, ti_sub, ti_neg, if_lt_ti, if_gt_ti, bP_e0, Classical.not_not, tl_i2l] at c7
    exact Or.inr ⟨by omega, rfl, rfl⟩
theorem ok_X11_bite {x : Int32} {μ : kMem} (h : kLnOk μ) : kOk yX11_bite cX11_bite 2 (some .int) rmX11_bite shK 68 [.ref 0, .int x] μ (kP (if 0 ≤ x.toInt ∧ x.toInt < (μ.1 18 7).toInt then Int32.ofInt (kbi μ x.toInt) else Int32.ofInt (-1)) μ) := by
  refine kOk.of rfl (Nat.le_of_ble_eq_true rfl) (fun J C => ?_)
  have C : kR cX11_bite RX11 2 rmX11_bite shK 68 (some .int) _ J := C
  refine (r_aload_n C dX11_bite_0 rfl rfl (r_getR C dX11_bite_1 fd_X11_45 nK_0 sK_0 rfl (r_iload_n C dX11_bite_4 rfl rfl (r_v1P C yv_X4_has lk_X11_151 dX11_bite_5 rfl nK_18 sK_18 rfl (Nat.le_of_ble_eq_true rfl) ok_X4_has (r_if_eq C (tgt := 22) dX11_bite_8 rfl (fun c8 => (r_iconst C dX11_bite_22 (r_iret C dX11_bite_23 ?_))) (fun c8 => (r_aload_n C dX11_bite_11 rfl rfl (r_getR C dX11_bite_12 fd_X11_45 nK_0 sK_0 rfl (r_iload_n C dX11_bite_15 rfl rfl (r_v1P C yv_X4_biteOf lk_X11_154 dX11_bite_16 rfl nK_18 sK_18 rfl (Nat.le_of_ble_eq_true rfl) (ok_X4_biteOf ?_) (r_goto C (tgt := 23) dX11_bite_19 rfl (r_iret C dX11_bite_23 ?_))))))))))))
  · exact ⟨(if_neg (bP_e0.mp c8)).symm, rfl⟩
  · exact h
  · exact ⟨(if_pos (bP_ne c8)).symm, rfl⟩
theorem ok_X11_length {x : Int32} {μ : kMem} (h : 0 ≤ (μ.1 25 1).toInt ∧ (μ.1 25 1).toInt ≤ 120) : kOk yX11_length cX11_length 2 (some .int) rmX11_length shK 68 [.ref 0, .int x] μ (kI fun r μ' => ((1 ≤ x.toInt ∧ x.toInt ≤ 999) ∧ (μ.1 25 1).toInt < 120 ∧ r = Int32.ofInt ((μ.1 25 1).toInt + 1) ∧ μ' = up (up μ 26 (μ.1 25 1).toInt.toNat x) 25 1 (Int32.ofInt ((μ.1 25 1).toInt + 1))) ∨ (¬ ((1 ≤ x.toInt ∧ x.toInt ≤ 999) ∧ (μ.1 25 1).toInt < 120) ∧ r = Int32.ofInt (-1) ∧ μ' = μ)) := by
  refine kOk.of rfl (Nat.le_of_ble_eq_true rfl) (fun J C => ?_)
  have C : kR cX11_length RX11 2 rmX11_length shK 68 (some .int) _ J := C
  refine (r_iload_n C dX11_length_0 rfl rfl (r_iconst C dX11_length_1 (r_icmp_lt C (tgt := 12) dX11_length_2 rfl (fun c2 => (r_iconst C dX11_length_12 (r_goto C (tgt := 24) dX11_length_13 rfl (r_iret C dX11_length_24 ?_)))) (fun c2 => (r_iload_n C dX11_length_5 rfl rfl (r_sipush C dX11_length_6 (by decide +kernel) (r_icmp_le C (tgt := 16) dX11_length_9 rfl (fun c9 => (r_aload_n C dX11_length_16 rfl rfl (r_getR C dX11_length_17 fd_X11_52 nK_0 sK_0 rfl (r_iload_n C dX11_length_20 rfl rfl (r_v1I C yv_X9_add lk_X11_160 dX11_length_21 rfl nK_25 sK_25 rfl (Nat.le_of_ble_eq_true rfl) (ok_X9_add ?_) (fun r21 μ21 h21 => (r_iret C dX11_length_24 ?_))))))) (fun c9 => (r_iconst C dX11_length_12 (r_goto C (tgt := 24) dX11_length_13 rfl (r_iret C dX11_length_24 ?_)))))))))))
  · simp (disch := (first | omega | (simp (disch := omega) only [ti_ofInt, ti_addc, ti_subc, ti_mulc, ti_cmul, ti_divc, ti_remc, ti_zero, ti_add, ti_sub, ti_neg, if_lt_ti, if_gt_ti, bP_e0, Classical.not_not, tl_i2l]; omega))) only [ti_ofInt, ti_addc, ti_subc, ti_mulc, ti_cmul, ti_divc, ti_remc, ti_zero, ti_add, ti_sub, ti_neg, if_lt_ti, if_gt_ti, bP_e0, Classical.not_not, tl_i2l] at c2
    exact Or.inr ⟨fun z => by omega, rfl, rfl⟩
  · exact h
  · simp (disch := (first | omega | (simp (disch := omega) only [ti_ofInt, ti_addc, ti_subc, ti_mulc, ti_cmul, ti_divc, ti_remc, ti_zero, ti_add, ti_sub, ti_neg, if_lt_ti, if_gt_ti, bP_e0, Classical.not_not, tl_i2l]; omega))) only [ti_ofInt, ti_addc, ti_subc, ti_mulc, ti_cmul, ti_divc, ti_remc, ti_zero, ti_add, ti_sub, ti_neg, if_lt_ti, if_gt_ti, bP_e0, Classical.not_not, tl_i2l] at c2 c9
    rcases h21 with ⟨q1, q2, q3⟩ | ⟨q1, q2, q3⟩
    · exact Or.inl ⟨⟨by omega, by omega⟩, q1, q2, q3⟩
    · exact Or.inr ⟨fun z => by omega, q2, q3⟩
  · simp (disch := (first | omega | (simp (disch := omega) only [ti_ofInt, ti_addc, ti_subc, ti_mulc, ti_cmul, ti_divc, ti_remc, ti_zero, ti_add, ti_sub, ti_neg, if_lt_ti, if_gt_ti, bP_e0, Classical.not_not, tl_i2l]; omega))) only [ti_ofInt, ti_addc, ti_subc, ti_mulc, ti_cmul, ti_divc, ti_remc, ti_zero, ti_add, ti_sub, ti_neg, if_lt_ti, if_gt_ti, bP_e0, Classical.not_not, tl_i2l] at c2 c9
    exact Or.inr ⟨fun z => by omega, rfl, rfl⟩
theorem ok_X11_cut {x : Int32} {μ : kMem} : kOk yX11_cut cX11_cut 2 (some .boolean) rmX11_cut shK 68 [.ref 0, .int x] μ (kI fun r μ' => (0 ≤ x.toInt ∧ x.toInt ≤ (μ.1 25 1).toInt ∧ r = Int32.ofInt 1 ∧ μ' = up μ 25 1 x) ∨ (¬ (0 ≤ x.toInt ∧ x.toInt ≤ (μ.1 25 1).toInt) ∧ r = Int32.ofInt 0 ∧ μ' = μ)) := by
  refine kOk.of rfl (Nat.le_of_ble_eq_true rfl) (fun J C => ?_)
  have C : kR cX11_cut RX11 2 rmX11_cut shK 68 (some .boolean) _ J := C
  refine (r_aload_n C dX11_cut_0 rfl rfl (r_getR C dX11_cut_1 fd_X11_52 nK_0 sK_0 rfl (r_iload_n C dX11_cut_4 rfl rfl (r_v1I C yv_X9_keep lk_X11_162 dX11_cut_5 rfl nK_25 sK_25 rfl (Nat.le_of_ble_eq_true rfl) ok_X9_keep (fun r5 μ5 h5 => (r_zret C dX11_cut_8 ?_ ?_))))))
  · rcases h5 with ⟨_, _, e, _⟩ | ⟨_, e, _⟩ <;> (rw [e]; rfl)
  · exact h5
theorem ok_X11_tape {x : Int32} {μ : kMem} (h : (μ.1 25 1).toInt ≤ 120) : kOk yX11_tape cX11_tape 2 (some .int) rmX11_tape shK 68 [.ref 0, .int x] μ (kP (tpt μ x.toInt) μ) := by
  refine kOk.of rfl (Nat.le_of_ble_eq_true rfl) (fun J C => ?_)
  have C : kR cX11_tape RX11 2 rmX11_tape shK 68 (some .int) _ J := C
  refine (r_aload_n C dX11_tape_0 rfl rfl (r_getR C dX11_tape_1 fd_X11_52 nK_0 sK_0 rfl (r_iload_n C dX11_tape_4 rfl rfl (r_v1P C yv_X9_at lk_X11_163 dX11_tape_5 rfl nK_25 sK_25 rfl (Nat.le_of_ble_eq_true rfl) (ok_X9_at ?_) (r_iret C dX11_tape_8 ?_)))))
  · exact h
  · exact ⟨rfl, rfl⟩
theorem ok_X11_clock {x y z : Int32} {μ : kMem} : kOk yX11_clock cX11_clock 4 (some .boolean) rmX11_clock shK 68 [.ref 0, .int x, .int y, .int z] μ (kI fun r μ' => (((0 ≤ x.toInt ∧ x.toInt < 6) ∧ -60 ≤ y.toInt ∧ z.toInt ≤ 60 ∧ y.toInt ≤ z.toInt) ∧ r = Int32.ofInt 1 ∧ μ' = up (up μ 50 x.toInt.toNat y) 51 x.toInt.toNat z) ∨ (¬ ((0 ≤ x.toInt ∧ x.toInt < 6) ∧ -60 ≤ y.toInt ∧ z.toInt ≤ 60 ∧ y.toInt ≤ z.toInt) ∧ r = Int32.ofInt 0 ∧ μ' = μ)) := by
  refine kOk.of rfl (Nat.le_of_ble_eq_true rfl) (fun J C => ?_)
  have C : kR cX11_clock RX11 4 rmX11_clock shK 68 (some .boolean) _ J := C
  refine (r_iload_n C dX11_clock_0 rfl rfl (r_s1P C ys_X11_isStation lk_X11_157 dX11_clock_1 rfl (Nat.le_of_ble_eq_true rfl) ok_X11_isStation (r_if_eq C (tgt := 24) dX11_clock_4 rfl (fun c4 => (r_iconst C dX11_clock_24 (r_zret C dX11_clock_25 rfl ?_))) (fun c4 => (r_iload_n C dX11_clock_7 rfl rfl (r_bipush C dX11_clock_8 (by decide +kernel) (r_icmp_lt C (tgt := 24) dX11_clock_10 rfl (fun c10 => (r_iconst C dX11_clock_24 (r_zret C dX11_clock_25 rfl ?_))) (fun c10 => (r_iload_n C dX11_clock_13 rfl rfl (r_bipush C dX11_clock_14 (by decide +kernel) (r_icmp_gt C (tgt := 24) dX11_clock_16 rfl (fun c16 => (r_iconst C dX11_clock_24 (r_zret C dX11_clock_25 rfl ?_))) (fun c16 => (r_iload_n C dX11_clock_19 rfl rfl (r_iload_n C dX11_clock_20 rfl rfl (r_icmp_le C (tgt := 26) dX11_clock_21 rfl (fun c21 => (r_aload_n C dX11_clock_26 rfl rfl (r_getR C dX11_clock_27 fd_X11_84 nK_0 sK_0 rfl (r_iload_n C dX11_clock_30 rfl rfl (r_iload_n C dX11_clock_31 rfl rfl (r_iload_n C dX11_clock_32 rfl rfl (r_v3N C yv_X0_setClock lk_X11_261 dX11_clock_33 rfl nK_49 sK_49 rfl (Nat.le_of_ble_eq_true rfl) (ok_X0_setClock ?_) (fun μ33 h33 => (r_iconst C dX11_clock_36 (r_zret C dX11_clock_37 rfl ?_)))))))))) (fun c21 => (r_iconst C dX11_clock_24 (r_zret C dX11_clock_25 rfl ?_))))))))))))))))))
  · exact Or.inr ⟨fun q => bP_e0.mp c4 q.1, rfl, rfl⟩
  · simp (disch := (first | omega | (simp (disch := omega) only [ti_ofInt, ti_addc, ti_subc, ti_mulc, ti_cmul, ti_divc, ti_remc, ti_zero, ti_add, ti_sub, ti_neg, if_lt_ti, if_gt_ti, bP_e0, Classical.not_not, tl_i2l]; omega))) only [ti_ofInt, ti_addc, ti_subc, ti_mulc, ti_cmul, ti_divc, ti_remc, ti_zero, ti_add, ti_sub, ti_neg, if_lt_ti, if_gt_ti, bP_e0, Classical.not_not, tl_i2l] at c10
    exact Or.inr ⟨fun q => by omega, rfl, rfl⟩
  · simp (disch := (first | omega | (simp (disch := omega) only [ti_ofInt, ti_addc, ti_subc, ti_mulc, ti_cmul, ti_divc, ti_remc, ti_zero, ti_add, ti_sub, ti_neg, if_lt_ti, if_gt_ti, bP_e0, Classical.not_not, tl_i2l]; omega))) only [ti_ofInt, ti_addc, ti_subc, ti_mulc, ti_cmul, ti_divc, ti_remc, ti_zero, ti_add, ti_sub, ti_neg, if_lt_ti, if_gt_ti, bP_e0, Classical.not_not, tl_i2l] at c16
    exact Or.inr ⟨fun q => by omega, rfl, rfl⟩
  · exact bP_ne c4
  · simp (disch := (first | omega | (simp (disch := omega) only [ti_ofInt, ti_addc, ti_subc, ti_mulc, ti_cmul, ti_divc, ti_remc, ti_zero, ti_add, ti_sub, ti_neg, if_lt_ti, if_gt_ti, bP_e0, Classical.not_not, tl_i2l]; omega))) only [ti_ofInt, ti_addc, ti_subc, ti_mulc, ti_cmul, ti_divc, ti_remc, ti_zero, ti_add, ti_sub, ti_neg, if_lt_ti, if_gt_ti, bP_e0, Classical.not_not, tl_i2l] at c10 c16
    exact Or.inl ⟨⟨bP_ne c4, by omega, by omega, by omega⟩, rfl, h33⟩
  · exact Or.inr ⟨fun q => by omega, rfl, rfl⟩
theorem ok_X11_event {x1 x2 : Int32} {μ : kMem} (h : 0 ≤ (μ.1 49 4).toInt ∧ (μ.1 49 4).toInt ≤ 12) : kOk yX11_event cX11_event 3 (some .int) rmX11_event shK 68 [.ref 0, .int x1, .int x2] μ (kI fun r μ' => (((0 ≤ x1.toInt ∧ x1.toInt < 6) ∧ 0 ≤ x2.toInt ∧ x2.toInt ≤ 999) ∧ (μ.1 49 4).toInt < 12 ∧ r = μ.1 49 4 ∧ μ' = up (up (up μ 52 (μ.1 49 4).toInt.toNat x1) 53 (μ.1 49 4).toInt.toNat x2) 49 4 (Int32.ofInt ((μ.1 49 4).toInt + 1))) ∨ (¬ (((0 ≤ x1.toInt ∧ x1.toInt < 6) ∧ 0 ≤ x2.toInt ∧ x2.toInt ≤ 999) ∧ (μ.1 49 4).toInt < 12) ∧ r = Int32.ofInt (-1) ∧ μ' = μ)) := by
  refine kOk.of rfl (Nat.le_of_ble_eq_true rfl) (fun J C => ?_)
  have C : kR cX11_event RX11 3 rmX11_event shK 68 (some .int) _ J := C
  refine (r_iload_n C dX11_event_0 rfl rfl (r_s1P C ys_X11_isStation lk_X11_157 dX11_event_1 rfl (Nat.le_of_ble_eq_true rfl) ok_X11_isStation (r_if_eq C (tgt := 30) dX11_event_4 rfl (fun c4 => (r_iconst C dX11_event_30 (r_iret C dX11_event_31 ?_))) (fun c4 => (r_iload_n C dX11_event_7 rfl rfl (r_if_lt C (tgt := 30) dX11_event_8 rfl (fun c8 => (r_iconst C dX11_event_30 (r_iret C dX11_event_31 ?_))) (fun c8 => (r_iload_n C dX11_event_11 rfl rfl (r_sipush C dX11_event_12 (by decide +kernel) (r_icmp_gt C (tgt := 30) dX11_event_15 rfl (fun c15 => (r_iconst C dX11_event_30 (r_iret C dX11_event_31 ?_))) (fun c15 => (r_aload_n C dX11_event_18 rfl rfl (r_getR C dX11_event_19 fd_X11_84 nK_0 sK_0 rfl (r_iload_n C dX11_event_22 rfl rfl (r_iload_n C dX11_event_23 rfl rfl (r_v2I C yv_X0_addEvent lk_X11_265 dX11_event_24 rfl nK_49 sK_49 rfl (Nat.le_of_ble_eq_true rfl) (ok_X0_addEvent ?_) (fun r24 μ24 h24 => (r_goto C (tgt := 31) dX11_event_27 rfl (r_iret C dX11_event_31 ?_)))))))))))))))))))
  · exact Or.inr ⟨fun q => bP_e0.mp c4 q.1.1, rfl, rfl⟩
  · exact Or.inr ⟨fun q => by omega, rfl, rfl⟩
  · simp (disch := (first | omega | (simp (disch := omega) only [ti_ofInt, ti_addc, ti_subc, ti_mulc, ti_cmul, ti_divc, ti_remc, ti_zero, ti_add, ti_sub, ti_neg, if_lt_ti, if_gt_ti, bP_e0, Classical.not_not, tl_i2l]; omega))) only [ti_ofInt, ti_addc, ti_subc, ti_mulc, ti_cmul, ti_divc, ti_remc, ti_zero, ti_add, ti_sub, ti_neg, if_lt_ti, if_gt_ti, bP_e0, Classical.not_not, tl_i2l] at c15
    exact Or.inr ⟨fun q => by omega, rfl, rfl⟩
  · exact h
  · simp (disch := (first | omega | (simp (disch := omega) only [ti_ofInt, ti_addc, ti_subc, ti_mulc, ti_cmul, ti_divc, ti_remc, ti_zero, ti_add, ti_sub, ti_neg, if_lt_ti, if_gt_ti, bP_e0, Classical.not_not, tl_i2l]; omega))) only [ti_ofInt, ti_addc, ti_subc, ti_mulc, ti_cmul, ti_divc, ti_remc, ti_zero, ti_add, ti_sub, ti_neg, if_lt_ti, if_gt_ti, bP_e0, Classical.not_not, tl_i2l] at c15
    rcases h24 with ⟨q1, q2, q3⟩ | ⟨q1, q2, q3⟩
    · exact Or.inl ⟨⟨bP_ne c4, by omega, by omega⟩, q1, q2, q3⟩
    · exact Or.inr ⟨fun z => by omega, q2, q3⟩
theorem ok_X11_fact {x1 x2 x3 : Int32} {μ : kMem} (h : 0 ≤ (μ.1 49 8).toInt ∧ (μ.1 49 8).toInt ≤ 12) : kOk yX11_fact cX11_fact 5 (some .int) rmX11_fact shK 68 [.ref 0, .int x1, .int x2, .int x3] μ (kI fun r μ' => (((0 ≤ x1.toInt ∧ x1.toInt < (μ.1 49 4).toInt) ∧ (0 ≤ x2.toInt ∧ x2.toInt < (μ.1 49 4).toInt) ∧ ¬ x1.toInt = x2.toInt ∧ -99 ≤ x3.toInt ∧ x3.toInt ≤ 99) ∧ (μ.1 49 8).toInt < 12 ∧ r = Int32.ofInt ((μ.1 49 8).toInt + 1) ∧ μ' = up (up (up (up μ 54 (μ.1 49 8).toInt.toNat x1) 55 (μ.1 49 8).toInt.toNat x2) 56 (μ.1 49 8).toInt.toNat x3) 49 8 (Int32.ofInt ((μ.1 49 8).toInt + 1))) ∨ (¬ (((0 ≤ x1.toInt ∧ x1.toInt < (μ.1 49 4).toInt) ∧ (0 ≤ x2.toInt ∧ x2.toInt < (μ.1 49 4).toInt) ∧ ¬ x1.toInt = x2.toInt ∧ -99 ≤ x3.toInt ∧ x3.toInt ≤ 99) ∧ (μ.1 49 8).toInt < 12) ∧ r = Int32.ofInt (-1) ∧ μ' = μ)) := by
  refine kOk.of rfl (Nat.le_of_ble_eq_true rfl) (fun J C => ?_)
  have C : kR cX11_fact RX11 5 rmX11_fact shK 68 (some .int) _ J := C
  refine (r_aload_n C dX11_fact_0 rfl rfl (r_getR C dX11_fact_1 fd_X11_84 nK_0 sK_0 rfl (r_iload_n C dX11_fact_4 rfl rfl (r_v1P C yv_X0_hasEvent lk_X11_268 dX11_fact_5 rfl nK_49 sK_49 rfl (Nat.le_of_ble_eq_true rfl) ok_X0_hasEvent (r_if_eq C (tgt := 43) dX11_fact_8 rfl (fun c8 => (r_iconst C dX11_fact_43 (r_istore C dX11_fact_44 (by decide) (r_iload C dX11_fact_46 rfl (r_if_eq C (tgt := 64) dX11_fact_48 rfl (fun c48 => (r_iconst C dX11_fact_64 (r_iret C dX11_fact_65 ?_))) (fun c48 => absurd c48 (by decide +kernel))))))) (fun c8 => (r_aload_n C dX11_fact_11 rfl rfl (r_getR C dX11_fact_12 fd_X11_84 nK_0 sK_0 rfl (r_iload_n C dX11_fact_15 rfl rfl (r_v1P C yv_X0_hasEvent lk_X11_268 dX11_fact_16 rfl nK_49 sK_49 rfl (Nat.le_of_ble_eq_true rfl) ok_X0_hasEvent (r_if_eq C (tgt := 43) dX11_fact_19 rfl (fun c19 => (r_iconst C dX11_fact_43 (r_istore C dX11_fact_44 (by decide) (r_iload C dX11_fact_46 rfl (r_if_eq C (tgt := 64) dX11_fact_48 rfl (fun c48 => (r_iconst C dX11_fact_64 (r_iret C dX11_fact_65 ?_))) (fun c48 => absurd c48 (by decide +kernel))))))) (fun c19 => (r_iload_n C dX11_fact_22 rfl rfl (r_iload_n C dX11_fact_23 rfl rfl (r_icmp_eq C (tgt := 43) dX11_fact_24 rfl (fun c24 => (r_iconst C dX11_fact_43 (r_istore C dX11_fact_44 (by decide) (r_iload C dX11_fact_46 rfl (r_if_eq C (tgt := 64) dX11_fact_48 rfl (fun c48 => (r_iconst C dX11_fact_64 (r_iret C dX11_fact_65 ?_))) (fun c48 => absurd c48 (by decide +kernel))))))) (fun c24 => (r_iload_n C dX11_fact_27 rfl rfl (r_bipush C dX11_fact_28 (by decide +kernel) (r_icmp_lt C (tgt := 43) dX11_fact_30 rfl (fun c30 => (r_iconst C dX11_fact_43 (r_istore C dX11_fact_44 (by decide) (r_iload C dX11_fact_46 rfl (r_if_eq C (tgt := 64) dX11_fact_48 rfl (fun c48 => (r_iconst C dX11_fact_64 (r_iret C dX11_fact_65 ?_))) (fun c48 => absurd c48 (by decide +kernel))))))) (fun c30 => (r_iload_n C dX11_fact_33 rfl rfl (r_bipush C dX11_fact_34 (by decide +kernel) (r_icmp_gt C (tgt := 43) dX11_fact_36 rfl (fun c36 => (r_iconst C dX11_fact_43 (r_istore C dX11_fact_44 (by decide) (r_iload C dX11_fact_46 rfl (r_if_eq C (tgt := 64) dX11_fact_48 rfl (fun c48 => (r_iconst C dX11_fact_64 (r_iret C dX11_fact_65 ?_))) (fun c48 => absurd c48 (by decide +kernel))))))) (fun c36 => (r_iconst C dX11_fact_39 (r_goto C (tgt := 44) dX11_fact_40 rfl (r_istore C dX11_fact_44 (by decide) (r_iload C dX11_fact_46 rfl (r_if_eq C (tgt := 64) dX11_fact_48 rfl (fun c48 => absurd c48 (by decide +kernel)) (fun c48 => (r_aload_n C dX11_fact_51 rfl rfl (r_getR C dX11_fact_52 fd_X11_84 nK_0 sK_0 rfl (r_iload_n C dX11_fact_55 rfl rfl (r_iload_n C dX11_fact_56 rfl rfl (r_iload_n C dX11_fact_57 rfl rfl (r_v3I C yv_X0_addFact lk_X11_271 dX11_fact_58 rfl nK_49 sK_49 rfl (Nat.le_of_ble_eq_true rfl) (ok_X0_addFact ?_) (fun r58 μ58 h58 => (r_goto C (tgt := 65) dX11_fact_61 rfl (r_iret C dX11_fact_65 ?_)))))))))))))))))))))))))))))))))))))))
  · exact Or.inr ⟨fun q => bP_e0.mp c8 q.1.1, rfl, rfl⟩
  · exact Or.inr ⟨fun q => bP_e0.mp c19 q.1.2.1, rfl, rfl⟩
  · exact Or.inr ⟨fun q => q.1.2.2.1 c24, rfl, rfl⟩
  · simp (disch := (first | omega | (simp (disch := omega) only [ti_ofInt, ti_addc, ti_subc, ti_mulc, ti_cmul, ti_divc, ti_remc, ti_zero, ti_add, ti_sub, ti_neg, if_lt_ti, if_gt_ti, bP_e0, Classical.not_not, tl_i2l]; omega))) only [ti_ofInt, ti_addc, ti_subc, ti_mulc, ti_cmul, ti_divc, ti_remc, ti_zero, ti_add, ti_sub, ti_neg, if_lt_ti, if_gt_ti, bP_e0, Classical.not_not, tl_i2l] at c30
    exact Or.inr ⟨fun q => by omega, rfl, rfl⟩
  · simp (disch := (first | omega | (simp (disch := omega) only [ti_ofInt, ti_addc, ti_subc, ti_mulc, ti_cmul, ti_divc, ti_remc, ti_zero, ti_add, ti_sub, ti_neg, if_lt_ti, if_gt_ti, bP_e0, Classical.not_not, tl_i2l]; omega))) only [ti_ofInt, ti_addc, ti_subc, ti_mulc, ti_cmul, ti_divc, ti_remc, ti_zero, ti_add, ti_sub, ti_neg, if_lt_ti, if_gt_ti, bP_e0, Classical.not_not, tl_i2l] at c36
    exact Or.inr ⟨fun q => by omega, rfl, rfl⟩
  · exact h
  · simp (disch := (first | omega | (simp (disch := omega) only [ti_ofInt, ti_addc, ti_subc, ti_mulc, ti_cmul, ti_divc, ti_remc, ti_zero, ti_add, ti_sub, ti_neg, if_lt_ti, if_gt_ti, bP_e0, Classical.not_not, tl_i2l]; omega))) only [ti_ofInt, ti_addc, ti_subc, ti_mulc, ti_cmul, ti_divc, ti_remc, ti_zero, ti_add, ti_sub, ti_neg, if_lt_ti, if_gt_ti, bP_e0, Classical.not_not, tl_i2l] at c30 c36
    rcases h58 with ⟨q1, q2, q3⟩ | ⟨q1, q2, q3⟩
    · exact Or.inl ⟨⟨bP_ne c8, bP_ne c19, c24, by omega, by omega⟩, q1, q2, q3⟩
    · exact Or.inr ⟨fun z => by omega, q2, q3⟩
theorem ok_X11_undo {μ : kMem} (h : 0 ≤ (μ.1 49 8).toInt) : kOk yX11_undo cX11_undo 1 (some .int) rmX11_undo shK 68 [.ref 0] μ (kI fun r μ' => ((μ.1 49 8).toInt = 0 ∧ r = Int32.ofInt (-1) ∧ μ' = μ) ∨ (0 < (μ.1 49 8).toInt ∧ r = Int32.ofInt ((μ.1 49 8).toInt - 1) ∧ μ' = up μ 49 8 (Int32.ofInt ((μ.1 49 8).toInt - 1)))) := by
  refine kOk.of rfl (Nat.le_of_ble_eq_true rfl) (fun J C => ?_)
  have C : kR cX11_undo RX11 1 rmX11_undo shK 68 (some .int) _ J := C
  refine (r_aload_n C dX11_undo_0 rfl rfl (r_getR C dX11_undo_1 fd_X11_84 nK_0 sK_0 rfl (r_v0I C yv_X0_dropFact lk_X11_274 dX11_undo_4 rfl nK_49 sK_49 rfl (Nat.le_of_ble_eq_true rfl) (ok_X0_dropFact ?_) (fun r4 μ4 h4 => (r_iret C dX11_undo_7 ?_)))))
  · exact h
  · exact h4
def kcnt (μ : kMem) (x : Int) : Int32 := if x = 0 then μ.1 3 4 else if x = 1 then μ.1 3 5 else if x = 2 then μ.1 16 1 else if x = 3 then μ.1 18 7 else if x = 4 then μ.1 25 1 else if x = 5 then μ.1 37 6 else if x = 6 then μ.1 49 4 else if x = 7 then μ.1 49 8 else if x = 8 then μ.1 1 1 else if x = 9 then μ.1 18 8 else Int32.ofInt (-1)
theorem ok_X11_count {x : Int32} {μ : kMem} : kOk yX11_count cX11_count 2 (some .int) rmX11_count shK 68 [.ref 0, .int x] μ (kP (kcnt μ x.toInt) μ) := by
  unfold kcnt
  refine kOk.of rfl (Nat.le_of_ble_eq_true rfl) (fun J C => ?_)
  have C : kR cX11_count RX11 2 rmX11_count shK 68 (some .int) _ J := C
  refine (r_iload_n C dX11_count_0 rfl rfl (r_table C (tg := 136) dX11_count_1 rfl (by decide) (by decide) ?_ (fun c1 => (r_iconst C dX11_count_136 (r_iret C dX11_count_137 ?_)))))
  · intro i h1 h2 h3
    rcases (show i = 0 ∨ i = 1 ∨ i = 2 ∨ i = 3 ∨ i = 4 ∨ i = 5 ∨ i = 6 ∨ i = 7 ∨ i = 8 ∨ i = 9 by omega) with rfl | rfl | rfl | rfl | rfl | rfl | rfl | rfl | rfl | rfl
    · refine (r_aload_n C dX11_count_56 rfl rfl (r_getR C dX11_count_57 fd_X11_19 nK_0 sK_0 rfl (r_v0P C yv_X1_letters lk_X11_287 dX11_count_60 rfl nK_3 sK_3 rfl (Nat.le_of_ble_eq_true rfl) ok_X1_letters_3 (r_iret C dX11_count_63 ?_))))
      exact ⟨by rw [if_pos (by omega)], rfl⟩
    · refine (r_aload_n C dX11_count_64 rfl rfl (r_getR C dX11_count_65 fd_X11_19 nK_0 sK_0 rfl (r_v0P C yv_X1_words lk_X11_121 dX11_count_68 rfl nK_3 sK_3 rfl (Nat.le_of_ble_eq_true rfl) ok_X1_words_3 (r_iret C dX11_count_71 ?_))))
      exact ⟨by rw [if_neg (by omega), if_pos (by omega)], rfl⟩
    · refine (r_aload_n C dX11_count_72 rfl rfl (r_getR C dX11_count_73 fd_X11_38 nK_0 sK_0 rfl (r_v0P C yv_X3_size lk_X11_198 dX11_count_76 rfl nK_16 sK_16 rfl (Nat.le_of_ble_eq_true rfl) ok_X3_size (r_iret C dX11_count_79 ?_))))
      exact ⟨by rw [if_neg (by omega), if_neg (by omega), if_pos (by omega)], rfl⟩
    · refine (r_aload_n C dX11_count_80 rfl rfl (r_getR C dX11_count_81 fd_X11_45 nK_0 sK_0 rfl (r_v0P C yv_X4_size lk_X11_199 dX11_count_84 rfl nK_18 sK_18 rfl (Nat.le_of_ble_eq_true rfl) ok_X4_size (r_iret C dX11_count_87 ?_))))
      exact ⟨by rw [if_neg (by omega), if_neg (by omega), if_neg (by omega), if_pos (by omega)], rfl⟩
    · refine (r_aload_n C dX11_count_88 rfl rfl (r_getR C dX11_count_89 fd_X11_52 nK_0 sK_0 rfl (r_v0P C yv_X9_size lk_X11_212 dX11_count_92 rfl nK_25 sK_25 rfl (Nat.le_of_ble_eq_true rfl) ok_X9_size (r_iret C dX11_count_95 ?_))))
      exact ⟨by rw [if_neg (by omega), if_neg (by omega), if_neg (by omega), if_neg (by omega), if_pos (by omega)], rfl⟩
    · refine (r_aload_n C dX11_count_96 rfl rfl (r_getR C dX11_count_97 fd_X11_77 nK_0 sK_0 rfl (r_v0P C yv_X5_size lk_X11_290 dX11_count_100 rfl nK_37 sK_37 rfl (Nat.le_of_ble_eq_true rfl) ok_X5_size (r_iret C dX11_count_103 ?_))))
      exact ⟨by rw [if_neg (by omega), if_neg (by omega), if_neg (by omega), if_neg (by omega), if_neg (by omega), if_pos (by omega)], rfl⟩
    · refine (r_aload_n C dX11_count_104 rfl rfl (r_getR C dX11_count_105 fd_X11_84 nK_0 sK_0 rfl (r_v0P C yv_X0_events lk_X11_291 dX11_count_108 rfl nK_49 sK_49 rfl (Nat.le_of_ble_eq_true rfl) ok_X0_events (r_iret C dX11_count_111 ?_))))
      exact ⟨by rw [if_neg (by omega), if_neg (by omega), if_neg (by omega), if_neg (by omega), if_neg (by omega), if_neg (by omega), if_pos (by omega)], rfl⟩
    · refine (r_aload_n C dX11_count_112 rfl rfl (r_getR C dX11_count_113 fd_X11_84 nK_0 sK_0 rfl (r_v0P C yv_X0_facts lk_X11_294 dX11_count_116 rfl nK_49 sK_49 rfl (Nat.le_of_ble_eq_true rfl) ok_X0_facts (r_iret C dX11_count_119 ?_))))
      exact ⟨by rw [if_neg (by omega), if_neg (by omega), if_neg (by omega), if_neg (by omega), if_neg (by omega), if_neg (by omega), if_neg (by omega), if_pos (by omega)], rfl⟩
    · refine (r_aload_n C dX11_count_120 rfl rfl (r_getR C dX11_count_121 fd_X11_10 nK_0 sK_0 rfl (r_v0P C yv_X10_size lk_X11_106 dX11_count_124 rfl nK_1 sK_1 rfl (Nat.le_of_ble_eq_true rfl) ok_X10_size (r_iret C dX11_count_127 ?_))))
      exact ⟨by rw [if_neg (by omega), if_neg (by omega), if_neg (by omega), if_neg (by omega), if_neg (by omega), if_neg (by omega), if_neg (by omega), if_neg (by omega), if_pos (by omega)], rfl⟩
    · refine (r_aload_n C dX11_count_128 rfl rfl (r_getR C dX11_count_129 fd_X11_45 nK_0 sK_0 rfl (r_v0P C yv_X4_rainNow lk_X11_297 dX11_count_132 rfl nK_18 sK_18 rfl (Nat.le_of_ble_eq_true rfl) ok_X4_rainNow (r_iret C dX11_count_135 ?_))))
      exact ⟨by rw [if_neg (by omega), if_neg (by omega), if_neg (by omega), if_neg (by omega), if_neg (by omega), if_neg (by omega), if_neg (by omega), if_neg (by omega), if_neg (by omega), if_pos (by omega)], rfl⟩
  · exact ⟨by rw [if_neg (by omega), if_neg (by omega), if_neg (by omega), if_neg (by omega), if_neg (by omega), if_neg (by omega), if_neg (by omega), if_neg (by omega), if_neg (by omega), if_neg (by omega)], rfl⟩

