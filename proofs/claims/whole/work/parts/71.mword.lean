/-! ===== the model: words, the whole text, the CODE ===== -/
theorem ok_X12_wordRead {μ0 μ : kMem} {d : kDr} {s : Nat} (h : mAt μ0 d s μ ∧ dW d < 20) : kOk yX12_wordRead cX12_wordRead 5 (some .boolean) rmX12_wordRead shM 48 [.ref 0] μ (kI fun r μ' => mOut μ0 (wdG (mt μ0) (mn μ0) d s) r μ') := by
  obtain ⟨h, hw⟩ := h
  obtain ⟨t, ht⟩ : ∃ t, t = mt μ0 := ⟨_, rfl⟩
  obtain ⟨n, hnn⟩ : ∃ n, n = mn μ0 := ⟨_, rfl⟩
  rw [← ht, ← hnn]
  have z0 : (Int32.ofInt 0).toInt = 0 := by decide
  have o1 : (Int32.ofInt 1).toInt = 1 := by decide
  have mm : (Int32.ofInt (-1)).toInt = -1 := by decide
  have i2 : (Int32.ofInt 2).toInt.toNat = 2 := by decide
  have n1 : (Int32.ofInt 1).toInt.toNat = 1 := by decide
  have hwm := h.1.2.2.2.1
  have hnb := nmV_b (t := t) (n := n) (d := d) (s := s)
  have hcb := wCV_b (t := t) (n := n) (d := d) (s := nxF t n (nxF t n s))
  refine kOk.of rfl (Nat.le_of_ble_eq_true rfl) (fun J C => ?_)
  have C : kR cX12_wordRead RX12 5 rmX12_wordRead shM 48 (some .boolean) _ J := C
  have third : ∀ (k : Int32) (x : Int64) (b g : Int32) (μ1 : kMem), nmOk t n d s → isW t n (nxF t n s) 2 → x.toInt = nmV t n d s → k.toInt = dW d → g.toInt = wCV t n d (nxF t n (nxF t n s)) → (b.toInt = 0 ↔ ¬ wCok t n d (nxF t n (nxF t n s))) → mAt μ0 d (nxF t n (nxF t n s)) μ1 → J 64 [some (.ref 0), some (.int k), some (.long x), none, some (.int g)] [.int b, .ref 0] μ1 := by
    intro k x b g μ1 hA hW hx hk hg hb hM
    have ek : k.toInt.toNat = dW d := by omega
    refine (r_v1I C yv_X12_passes lk_X12_183 dX12_wordRead_64 rfl nM_0 sM_0 rfl (Nat.le_of_ble_eq_true rfl) (ok_X12_passes ?_) (fun r64 μ64 h64 => (r_if_ne C (tgt := 72) dX12_wordRead_67 rfl (fun c67 => (r_aload_n C dX12_wordRead_72 rfl rfl (r_getR C dX12_wordRead_73 fd_X12_23 nM_0 sM_0 rfl (r_iconst C dX12_wordRead_76 (r_aald C (r := 10) dX12_wordRead_77 nM_8 (by decide) sM_8 (by decide) (by decide) (r_iload_n C dX12_wordRead_78 rfl rfl (r_lload_n C dX12_wordRead_79 rfl rfl (r_last C dX12_wordRead_80 nM_10 sM_10 ?_ (r_aload_n C dX12_wordRead_81 rfl rfl (r_getR C dX12_wordRead_82 fd_X12_18 nM_0 sM_0 rfl (r_iconst C dX12_wordRead_85 (r_aald C (r := 7) dX12_wordRead_86 nM_5 (by decide) sM_5 (by decide) (by decide) (r_iload_n C dX12_wordRead_87 rfl rfl (r_iload C dX12_wordRead_88 rfl (r_iast C dX12_wordRead_90 nM_7 sM_7 ?_ (r_aload_n C dX12_wordRead_91 rfl rfl (r_getR C dX12_wordRead_92 fd_X12_30 nM_0 sM_0 rfl (r_iconst C dX12_wordRead_95 (r_dup2 C dX12_wordRead_96 rfl rfl (r_iald C dX12_wordRead_97 nM_12 sM_12 (by decide) (r_iconst C dX12_wordRead_98 (r_iadd C dX12_wordRead_99 (r_iast C dX12_wordRead_100 nM_12 sM_12 (by decide) (r_aload_n C dX12_wordRead_101 rfl rfl (r_v0I C yv_X12_closes lk_X12_190 dX12_wordRead_102 rfl nM_0 sM_0 rfl (Nat.le_of_ble_eq_true rfl) (ok_X12_closes ?_) (fun r102 μ102 h102 => (r_zret C dX12_wordRead_105 ?_ ?_))))))))))))))))))))))))))) (fun c67 => (r_iconst C dX12_wordRead_70 (r_zret C dX12_wordRead_71 rfl ?_))))))
    · exact hM.pre
    · omega
    · omega
    · rcases h64 with ⟨b1, b2, b3⟩ | ⟨b1, b2, b3⟩
      · have hC : wCok t n d (nxF t n (nxF t n s)) := Classical.byContradiction (fun q => b1 (hb.mpr q))
        have h12 := hM.next b3
        have hc := hcb.1 hC
        have q := mGrp_at (g := g) (n := x) (L := tkL t s (teF t n s)) h12 hw (by omega) (by rw [hx]; exact (hnb.1 hA).2.2) (tkL_let (tok_let hA.1))
        rw [ek]
        exact ⟨q.2.1, q.2.2.2.1⟩
      · rw [b2] at c67
        exact absurd z0 c67
    · rcases h102 with ⟨-, e, -⟩ | ⟨-, e, -⟩
      · exact two_nz (Or.inl e)
      · exact two_nz (Or.inr e)
    · rcases h64 with ⟨b1, b2, b3⟩ | ⟨b1, b2, b3⟩
      · have hC : wCok t n d (nxF t n (nxF t n s)) := Classical.byContradiction (fun q => b1 (hb.mpr q))
        have h12 := hM.next b3
        have hc := hcb.1 hC
        have q := mGrp_at (g := g) (n := x) (L := tkL t s (teF t n s)) h12 hw (by omega) (by rw [hx]; exact (hnb.1 hA).2.2) (tkL_let (tok_let hA.1))
        rw [← ht, ← hnn] at q
        rw [ek, n1] at h102
        obtain ⟨μ2, hμ2⟩ : ∃ μ2, μ2 = up (up (upL μ64 10 (dW d) x) 7 (dW d) g) 12 1 (μ64.1 12 1 + Int32.ofInt 1) := ⟨_, rfl⟩
        have eμ : up (up (upL μ64 10 (dW d) x) 7 (dW d) g) 12 1 ((up (upL μ64 10 (dW d) x) 7 (dW d) g).1 12 1 + Int32.ofInt 1) = μ2 := by
          rw [hμ2, up_neo _ _ (by decide), upL_1]
        rw [eμ] at h102
        rw [← hμ2] at q
        have qx := q.tx
        rw [qx.1, qx.2, q.2.2.1, ← ht, ← hnn] at h102
        have eo : wdG t n d s = if kdF t n (nxF t n (nxF t n (nxF t n s))) = 3 then .inr (drW d (grF t (nxF t n (nxF t n s)) 3) (tkL t s (teF t n s)), nxF t n (nxF t n (nxF t n (nxF t n s)))) else .inl (nxF t n (nxF t n (nxF t n s))) := by
          unfold wdG
          rw [if_pos hA, if_pos hW, if_pos hC]
        rcases h102 with ⟨g1, g2, g3⟩ | ⟨g1, g2, g3⟩
        · have w := q.next g3
          rw [← ht, ← hnn] at w
          rw [g2, eo, if_pos g1, ← hc.2.2, ← hg]
          exact w.good rfl
        · rw [g2, eo, if_neg g1]
          exact q.fail rfl g3
      · rw [b2] at c67
        exact absurd z0 c67
    · rcases h64 with ⟨b1, b2, b3⟩ | ⟨b1, b2, b3⟩
      · rw [b2] at c67
        exact absurd c67 (by decide)
      · refine hM.fail ?_ b3
        unfold wdG
        rw [if_pos hA, if_pos hW, if_neg (hb.mp b1)]
  have second : ∀ (k : Int32) (x : Int64) (z4 : Option Value) (μ1 : kMem), nmOk t n d s → isW t n (nxF t n s) 2 → x.toInt = nmV t n d s → k.toInt = dW d → mAt μ0 d (nxF t n (nxF t n s)) μ1 → J 46 [some (.ref 0), some (.int k), some (.long x), none, z4] [] μ1 := by
    intro k x z4 μ1 hA hW hx hk hM
    have hi : (Int32.ofInt (wCV (mt μ0) (mn μ0) d (nxF t n (nxF t n s)))).toInt = wCV t n d (nxF t n (nxF t n s)) := by
      rw [← ht, ← hnn]
      by_cases q : wCok t n d (nxF t n (nxF t n s))
      · have := hcb.1 q
        exact ti_ofInt (by omega)
      · rw [hcb.2 q]; exact mm
    refine (r_aload_n C dX12_wordRead_46 rfl rfl (r_v0P C yv_X12_groupHere lk_X12_208 dX12_wordRead_47 rfl nM_0 sM_0 rfl (Nat.le_of_ble_eq_true rfl) (ok_X12_groupHere hM) (r_istore C dX12_wordRead_50 (by decide) (r_aload_n C dX12_wordRead_52 rfl rfl (r_iload C dX12_wordRead_53 rfl (r_iconst C dX12_wordRead_55 (r_icmp_eq C (tgt := 63) dX12_wordRead_56 rfl (fun c56 => (r_iconst C dX12_wordRead_63 ?_)) (fun c56 => (r_iconst C dX12_wordRead_59 (r_goto C (tgt := 64) dX12_wordRead_60 rfl ?_))))))))))
    · rw [hi, mm] at c56
      refine third k x _ _ μ1 hA hW hx hk hi ⟨fun _ q => by have := hcb.1 q; omega, fun _ => z0⟩ hM
    · rw [hi, mm] at c56
      refine third k x _ _ μ1 hA hW hx hk hi ⟨fun q => absurd q (by rw [o1]; decide), fun q => absurd (hcb.2 q) c56⟩ hM
  have first : ∀ (k : Int32) (x : Int64) (b : Int32) (z4 : Option Value), x.toInt = nmV t n d s → k.toInt = dW d → (b.toInt = 0 ↔ ¬ nmOk t n d s) → J 26 [some (.ref 0), some (.int k), some (.long x), none, z4] [.int b, .ref 0] μ := by
    intro k x b z4 hx hk hb
    refine (r_v1I C yv_X12_passes lk_X12_183 dX12_wordRead_26 rfl nM_0 sM_0 rfl (Nat.le_of_ble_eq_true rfl) (ok_X12_passes ?_) (fun r26 μ26 h26 => (r_if_eq C (tgt := 44) dX12_wordRead_29 rfl (fun c29 => (r_iconst C dX12_wordRead_44 (r_zret C dX12_wordRead_45 rfl ?_))) (fun c29 => (r_aload_n C dX12_wordRead_32 rfl rfl (r_aload_n C dX12_wordRead_33 rfl rfl (r_iconst C dX12_wordRead_34 (r_v1P C yv_X12_isWord lk_X12_196 dX12_wordRead_35 rfl nM_0 sM_0 rfl (Nat.le_of_ble_eq_true rfl) (ok_X12_isWord ?_) (r_v1I C yv_X12_passes lk_X12_183 dX12_wordRead_38 rfl nM_0 sM_0 rfl (Nat.le_of_ble_eq_true rfl) (ok_X12_passes ?_) (fun r38 μ38 h38 => (r_if_ne C (tgt := 46) dX12_wordRead_41 rfl (fun c41 => ?_) (fun c41 => (r_iconst C dX12_wordRead_44 (r_zret C dX12_wordRead_45 rfl ?_))))))))))))))
    · exact h.pre
    · rcases h26 with ⟨b1, b2, b3⟩ | ⟨b1, b2, b3⟩
      · rw [b2] at c29
        exact absurd c29 (by decide)
      · refine h.fail ?_ b3
        unfold wdG
        rw [if_neg (hb.mp b1)]
    · rcases h26 with ⟨b1, b2, b3⟩ | ⟨b1, b2, b3⟩
      · exact ⟨(h.next b3).2.1, by decide⟩
      · rw [b2] at c29
        exact absurd z0 c29
    · rcases h26 with ⟨b1, b2, b3⟩ | ⟨b1, b2, b3⟩
      · exact (h.next b3).pre
      · rw [b2] at c29
        exact absurd z0 c29
    · rcases h26 with ⟨b1, b2, b3⟩ | ⟨b1, b2, b3⟩
      · have hA : nmOk t n d s := Classical.byContradiction (fun q => b1 (hb.mpr q))
        have h12 := h.next b3
        rw [← ht, ← hnn] at h12
        have hx12 := h12.tx
        rcases h38 with ⟨e1, e2, e3⟩ | ⟨e1, e2, e3⟩
        · have hW := bP_ne e1
          rw [hx12.1, hx12.2, h12.2.2.1, i2, ← ht, ← hnn] at hW
          have h13 := h12.next e3
          rw [← ht, ← hnn] at h13
          exact second k x _ μ38 hA hW hx hk h13
        · rw [e2] at c41
          exact absurd z0 c41
      · rw [b2] at c29
        exact absurd z0 c29
    · rcases h26 with ⟨b1, b2, b3⟩ | ⟨b1, b2, b3⟩
      · have hA : nmOk t n d s := Classical.byContradiction (fun q => b1 (hb.mpr q))
        have h12 := h.next b3
        rw [← ht, ← hnn] at h12
        have hx12 := h12.tx
        rcases h38 with ⟨e1, e2, e3⟩ | ⟨e1, e2, e3⟩
        · rw [e2] at c41
          exact absurd c41 (by decide)
        · have hW := bP_e0.mp e1
          rw [hx12.1, hx12.2, h12.2.2.1, i2, ← ht, ← hnn] at hW
          refine h12.fail ?_ e3
          unfold wdG
          rw [if_pos hA, if_neg hW]
      · rw [b2] at c29
        exact absurd z0 c29
  have hxi : (Int64.ofInt (nmV (mt μ0) (mn μ0) d s)).toInt = nmV t n d s := by
    rw [← ht, ← hnn]
    by_cases q : nmOk t n d s
    · have := hnb.1 q
      exact tl_ofInt (by omega)
    · rw [hnb.2 q]; exact tl_ofInt (by decide)
  refine (r_aload_n C dX12_wordRead_0 rfl rfl (r_getR C dX12_wordRead_1 fd_X12_30 nM_0 sM_0 rfl (r_iconst C dX12_wordRead_4 (r_iald C dX12_wordRead_5 nM_12 sM_12 (by decide) (r_istore_n C dX12_wordRead_6 rfl (by decide) (r_aload_n C dX12_wordRead_7 rfl rfl (r_v0Q C yv_X12_nameHere lk_X12_204 dX12_wordRead_8 rfl nM_0 sM_0 rfl (Nat.le_of_ble_eq_true rfl) (ok_X12_nameHere h) (r_lstore_n C dX12_wordRead_11 rfl (by decide) (r_aload_n C dX12_wordRead_12 rfl rfl (r_lload_n C dX12_wordRead_13 rfl rfl (r_ldc2 C dX12_wordRead_14 kc_X12_194 (r_lcmp C dX12_wordRead_17 (r_if_eq C (tgt := 25) dX12_wordRead_18 rfl (fun c18 => (r_iconst C dX12_wordRead_25 ?_)) (fun c18 => (r_iconst C dX12_wordRead_21 (r_goto C (tgt := 26) dX12_wordRead_22 rfl ?_))))))))))))))))
  · rw [cmp_z, hxi, ll_m1] at c18
    exact first _ _ _ _ hxi (by rw [n1]; exact hwm) ⟨fun _ q => by have := hnb.1 q; omega, fun _ => z0⟩
  · rw [cmp_z, hxi, ll_m1] at c18
    exact first _ _ _ _ hxi (by rw [n1]; exact hwm) ⟨fun q => absurd q (by rw [o1]; decide), fun q => absurd (hnb.2 q) c18⟩

