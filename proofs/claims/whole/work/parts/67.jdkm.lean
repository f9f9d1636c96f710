/-! ===== of the JDK, over the model's memory: the three texts ===== -/
theorem ok_J3_checkIndex_8e157_M {x y : Int32} {v : Value} {μ : kMem} (h : 0 ≤ x.toInt ∧ x.toInt < y.toInt ∧ (v = .null ∨ v = .ref 3000)) : kOk yJ3_checkIndex_8e157 cJ3_checkIndex_8e157 3 (some .int) rmJ3_checkIndex_8e157 shM 48 [.int x, .int y, v] μ (kP x μ) := by
  obtain ⟨h1, h2, rfl | rfl⟩ := h
  · refine kOk.of rfl (Nat.le_of_ble_eq_true rfl) (fun J C => ?_)
    have C : kR cJ3_checkIndex_8e157 RJ3 3 rmJ3_checkIndex_8e157 shM 48 (some .int) _ J := C
    refine (r_iload_n C dJ3_checkIndex_8e157_0 rfl rfl (r_if_lt C (tgt := 9) dJ3_checkIndex_8e157_1 rfl (fun c1 => ?_) (fun c1 => (r_iload_n C dJ3_checkIndex_8e157_4 rfl rfl (r_iload_n C dJ3_checkIndex_8e157_5 rfl rfl (r_icmp_lt C (tgt := 16) dJ3_checkIndex_8e157_6 rfl (fun c6 => (r_iload_n C dJ3_checkIndex_8e157_16 rfl rfl (r_iret C dJ3_checkIndex_8e157_17 ?_))) (fun c6 => ?_)))))))
    · omega
    · exact ⟨rfl, rfl⟩
    · omega
  · refine kOk.of rfl (Nat.le_of_ble_eq_true rfl) (fun J C => ?_)
    have C : kR cJ3_checkIndex_8e157 RJ3 3 rmJ3_checkIndex_8e157 shM 48 (some .int) _ J := C
    refine (r_iload_n C dJ3_checkIndex_8e157_0 rfl rfl (r_if_lt C (tgt := 9) dJ3_checkIndex_8e157_1 rfl (fun c1 => ?_) (fun c1 => (r_iload_n C dJ3_checkIndex_8e157_4 rfl rfl (r_iload_n C dJ3_checkIndex_8e157_5 rfl rfl (r_icmp_lt C (tgt := 16) dJ3_checkIndex_8e157_6 rfl (fun c6 => (r_iload_n C dJ3_checkIndex_8e157_16 rfl rfl (r_iret C dJ3_checkIndex_8e157_17 ?_))) (fun c6 => ?_)))))))
    · omega
    · exact ⟨rfl, rfl⟩
    · omega
theorem ok_J0_checkIndex_df160_M {x y : Int32} {μ : kMem} (h : 0 ≤ x.toInt ∧ x.toInt < y.toInt) : kOk yJ0_checkIndex_df160 cJ0_checkIndex_df160 2 (none) rmJ0_checkIndex_df160 shM 48 [.int x, .int y] μ (kN fun μ' => μ' = μ) := by
  refine kOk.of rfl (Nat.le_of_ble_eq_true rfl) (fun J C => ?_)
  have C : kR cJ0_checkIndex_df160 RJ0 2 rmJ0_checkIndex_df160 shM 48 (none) _ J := C
  refine (r_iload_n C dJ0_checkIndex_df160_0 rfl rfl (r_iload_n C dJ0_checkIndex_df160_1 rfl rfl (r_sfmt C (tb2 204 rfl rfl) dJ0_checkIndex_df160_2 (fun v2 hv2 => ?_))))
  rcases id hv2 with rfl | rfl
  · refine (r_s3P C ys_J3_checkIndex_8e157 lk_J0_1059 dJ0_checkIndex_df160_5 rfl (Nat.le_of_ble_eq_true rfl) (ok_J3_checkIndex_8e157_M ?_) (r_pop C dJ0_checkIndex_df160_8 rfl (r_ret C dJ0_checkIndex_df160_9 ?_)))
    · exact ⟨h.1, h.2, Or.inl rfl⟩
    · rfl
  · refine (r_s3P C ys_J3_checkIndex_8e157 lk_J0_1059 dJ0_checkIndex_df160_5 rfl (Nat.le_of_ble_eq_true rfl) (ok_J3_checkIndex_8e157_M ?_) (r_pop C dJ0_checkIndex_df160_8 rfl (r_ret C dJ0_checkIndex_df160_9 ?_)))
    · exact ⟨h.1, h.2, Or.inr rfl⟩
    · rfl
theorem ok_J1_charAt_3b067_M {i : Nat} {k : Int32} {μ : kMem} (h : i < 3 ∧ 0 ≤ k.toInt ∧ k.toInt < (klen.getD i 0 : Nat)) : kOk yJ1_charAt_3b067 cJ1_charAt_3b067 2 (some .char) rmJ1_charAt_3b067 shM 48 [.ref (2000 + i), .int k] μ (kP ((kbyt.getD i []).getD k.toInt.toNat 0) μ) := by
  have hb := klen_b h.1
  have hc := kbyt_b (i := i) (k := k.toInt.toNat)
  refine kOk.of rfl (Nat.le_of_ble_eq_true rfl) (fun J C => ?_)
  have C : kR cJ1_charAt_3b067 RJ1 2 rmJ1_charAt_3b067 shM 48 (some .char) _ J := C
  refine (r_iload_n C dJ1_charAt_3b067_0 rfl rfl (r_aload_n C dJ1_charAt_3b067_1 rfl rfl (r_slen C ?_ dJ1_charAt_3b067_2 (r_s2N C ys_J0_checkIndex_df160 lk_J1_9 dJ1_charAt_3b067_3 rfl (Nat.le_of_ble_eq_true rfl) (ok_J0_checkIndex_df160_M ?_) (fun μ3 h3 => (r_aload_n C dJ1_charAt_3b067_6 rfl rfl (r_iload_n C dJ1_charAt_3b067_7 rfl rfl (r_sbald C ?_ ?_ dJ1_charAt_3b067_8 (r_sipush C dJ1_charAt_3b067_9 (by decide +kernel) (r_iand C dJ1_charAt_3b067_12 (r_i2c C dJ1_charAt_3b067_13 (r_zret C dJ1_charAt_3b067_14 ?_ ?_))))))))))))
  · exact h.1
  · refine ⟨h.2.1, ?_⟩
    rw [ti_ofNat (by omega)]
    exact h.2.2
  · exact h.1
  · exact h.2
  · rw [hc.2.2.1]
    exact hc.2.2.2
  · exact ⟨hc.2.2.1, by assumption⟩
theorem ok_J0_isLatin1_aae02_M {i : Nat} {μ : kMem} (h : i < 3) : kOk yJ0_isLatin1_aae02 cJ0_isLatin1_aae02 1 (some .boolean) rmJ0_isLatin1_aae02 shM 48 [.ref (1000 + i)] μ (kP (Int32.ofInt 1) μ) := by
  refine kOk.of rfl (Nat.le_of_ble_eq_true rfl) (fun J C => ?_)
  have C : kR cJ0_isLatin1_aae02 RJ0 1 rmJ0_isLatin1_aae02 shM 48 (some .boolean) _ J := C
  refine (r_scmp C (tb2 188 rfl rfl) dJ0_isLatin1_aae02_0 (r_if_eq C (tgt := 17) dJ0_isLatin1_aae02_3 rfl (fun c3 => (r_iconst C dJ0_isLatin1_aae02_17 (r_zret C dJ0_isLatin1_aae02_18 rfl ?_))) (fun c3 => (r_aload_n C dJ0_isLatin1_aae02_6 rfl rfl (r_scod C ?_ (tb7 115 rfl rfl) dJ0_isLatin1_aae02_7 (r_if_ne C (tgt := 17) dJ0_isLatin1_aae02_10 rfl (fun c10 => (r_iconst C dJ0_isLatin1_aae02_17 (r_zret C dJ0_isLatin1_aae02_18 rfl ?_))) (fun c10 => (r_iconst C dJ0_isLatin1_aae02_13 (r_goto C (tgt := 18) dJ0_isLatin1_aae02_14 rfl (r_zret C dJ0_isLatin1_aae02_18 rfl ?_))))))))))
  · exact absurd ‹_› (by decide)
  · exact h
  · exact absurd ‹_› (by decide)
  · exact ⟨rfl, rfl⟩
theorem ok_J0_coder_7d493_M {i : Nat} {μ : kMem} (h : i < 3) : kOk yJ0_coder_7d493 cJ0_coder_7d493 1 (some .byte) rmJ0_coder_7d493 shM 48 [.ref (1000 + i)] μ (kP (Int32.ofInt 0) μ) := by
  refine kOk.of rfl (Nat.le_of_ble_eq_true rfl) (fun J C => ?_)
  have C : kR cJ0_coder_7d493 RJ0 1 rmJ0_coder_7d493 shM 48 (some .byte) _ J := C
  refine (r_scmp C (tb2 188 rfl rfl) dJ0_coder_7d493_0 (r_if_eq C (tgt := 13) dJ0_coder_7d493_3 rfl (fun c3 => (r_iconst C dJ0_coder_7d493_13 (r_zret C dJ0_coder_7d493_14 rfl ?_))) (fun c3 => (r_aload_n C dJ0_coder_7d493_6 rfl rfl (r_scod C ?_ (tb7 115 rfl rfl) dJ0_coder_7d493_7 (r_goto C (tgt := 14) dJ0_coder_7d493_10 rfl (r_zret C dJ0_coder_7d493_14 ?_ ?_)))))))
  · exact absurd ‹_› (by decide)
  · exact h
  · rfl
  · exact ⟨rfl, rfl⟩
theorem ok_J0_length_8abf5_M {i : Nat} {μ : kMem} (h : i < 3) : kOk yJ0_length_8abf5 cJ0_length_8abf5 1 (some .int) rmJ0_length_8abf5 shM 48 [.ref (1000 + i)] μ (kP (Int32.ofInt (klen.getD i 0 : Nat)) μ) := by
  refine kOk.of rfl (Nat.le_of_ble_eq_true rfl) (fun J C => ?_)
  have C : kR cJ0_length_8abf5 RJ0 1 rmJ0_length_8abf5 shM 48 (some .int) _ J := C
  refine (r_aload_n C dJ0_length_8abf5_0 rfl rfl (r_sval C ?_ (tb7 114 rfl rfl) dJ0_length_8abf5_1 (r_slen C ?_ dJ0_length_8abf5_4 (r_aload_n C dJ0_length_8abf5_5 rfl rfl (r_t0P C yv_J0_coder_7d493 rfl lk_J0_335 dJ0_length_8abf5_6 rfl ?_ (Nat.le_of_ble_eq_true rfl) (ok_J0_coder_7d493_M ?_) (r_ishr C dJ0_length_8abf5_9 (r_iret C dJ0_length_8abf5_10 ?_)))))))
  · exact h
  · exact h
  · exact h
  · exact h
  · refine ⟨?_, rfl⟩
    rcases (show i = 0 ∨ i = 1 ∨ i = 2 by omega) with rfl | rfl | rfl <;> decide +kernel
theorem ok_J0_charAt_5068e_M {i : Nat} {k : Int32} {μ : kMem} (h : i < 3 ∧ 0 ≤ k.toInt ∧ k.toInt < (klen.getD i 0 : Nat)) : kOk yJ0_charAt_5068e cJ0_charAt_5068e 2 (some .char) rmJ0_charAt_5068e shM 48 [.ref (1000 + i), .int k] μ (kP ((kbyt.getD i []).getD k.toInt.toNat 0) μ) := by
  refine kOk.of rfl (Nat.le_of_ble_eq_true rfl) (fun J C => ?_)
  have C : kR cJ0_charAt_5068e RJ0 2 rmJ0_charAt_5068e shM 48 (some .char) _ J := C
  refine (r_aload_n C dJ0_charAt_5068e_0 rfl rfl (r_t0P C yv_J0_isLatin1_aae02 rfl lk_J0_492 dJ0_charAt_5068e_1 rfl ?_ (Nat.le_of_ble_eq_true rfl) (ok_J0_isLatin1_aae02_M ?_) (r_if_eq C (tgt := 16) dJ0_charAt_5068e_4 rfl (fun c4 => (r_aload_n C dJ0_charAt_5068e_16 rfl rfl (r_sval C ?_ (tb7 114 rfl rfl) dJ0_charAt_5068e_17 (r_iload_n C dJ0_charAt_5068e_20 rfl rfl ?_)))) (fun c4 => (r_aload_n C dJ0_charAt_5068e_7 rfl rfl (r_sval C ?_ (tb7 114 rfl rfl) dJ0_charAt_5068e_8 (r_iload_n C dJ0_charAt_5068e_11 rfl rfl (r_s2P C ys_J1_charAt_3b067 lk_J0_495 dJ0_charAt_5068e_12 rfl (Nat.le_of_ble_eq_true rfl) (ok_J1_charAt_3b067_M ?_) (r_zret C dJ0_charAt_5068e_15 ?_ ?_)))))))))
  · exact h.1
  · exact h.1
  · exact h.1
  · exact absurd c4 (by decide)
  · exact h.1
  · exact h
  · exact (kbyt_b (i := i) (k := k.toInt.toNat)).2.2.2
  · exact ⟨rfl, rfl⟩

