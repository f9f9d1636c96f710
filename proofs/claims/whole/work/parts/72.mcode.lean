/-! ===== the model: the whole text, the CODE ===== -/
theorem mEmp {μ μ1 : kMem} (hG : mGo μ μ1) (h2 : μ1.2 = μ.2) (h4 : ∀ l, l < 26 → (μ1.1 4 l).toInt = 0) (h11 : (μ1.1 11 1).toInt = 0) (h12 : (μ1.1 12 1).toInt = 0) : mdr μ1 dr0 := by
  have hz : dL dr0 = 0 := cntF_zero 26 (fun i _ => by show ¬ (0 : Int) < 0; omega)
  refine ⟨dr0_ok, fun l hl => h4 l hl, ?_, h12, fun w hw => absurd hw (Nat.not_lt_zero _)⟩
  rw [h11, hz]
  rfl
theorem ok_X12_reads {μ : kMem} (h : mTxOk μ) : kOk yX12_reads cX12_reads 2 (none) rmX12_reads shM 48 [.ref 0] μ (kN fun μ' => mGo μ μ' ∧ ((∃ p : Nat, paF (mt μ) (mn μ) = .inl p ∧ p ≤ 500 ∧ (μ'.1 0 4).toInt = p) ∨ (∃ d, paF (mt μ) (mn μ) = .inr d ∧ (μ'.1 0 4).toInt = -1 ∧ mdr μ' d))) := by
  have hn := mn_i h
  have z0 : (Int32.ofInt 0).toInt = 0 := by decide
  have o1 : (Int32.ofInt 1).toInt = 1 := by decide
  have mm : (Int32.ofInt (-1)).toInt = -1 := by decide
  have m20 : (Int32.ofInt 20).toInt = 20 := by decide
  have m26 : (Int32.ofInt 26).toInt = 26 := by decide
  have n0 : (Int32.ofInt 0).toInt.toNat = 0 := by decide
  have n1 : (Int32.ofInt 1).toInt.toNat = 1 := by decide
  obtain ⟨t, ht⟩ : ∃ t, t = mt μ := ⟨_, rfl⟩
  obtain ⟨n, hnn⟩ : ∃ n, n = mn μ := ⟨_, rfl⟩
  obtain ⟨P, hP⟩ : ∃ P, P = paF t n := ⟨_, rfl⟩
  rw [← ht, ← hnn, ← hP]
  rw [← hnn] at hn
  refine kOk.of rfl (Nat.le_of_ble_eq_true rfl) (fun J C => ?_)
  have C : kR cX12_reads RX12 2 rmX12_reads shM 48 (none) _ J := C
  have bad : ∀ (p : Nat) (μ' : kMem) (v : Int32), v.toInt = 0 → P = .inl p → p ≤ 500 → (μ'.1 0 4).toInt = p → mGo μ μ' → J 73 [some (.ref 0), some (.int v)] [] μ' := by
    intro p μ' v hv q1 q2 q3 q4
    refine (r_iload_n C dX12_reads_73 rfl rfl (r_if_eq C (tgt := 167) dX12_reads_74 rfl (fun c74 => (r_ret C dX12_reads_167 ?_)) (fun c74 => (r_aload_n C dX12_reads_77 rfl rfl (r_getI C dX12_reads_78 fd_X12_162 nM_0 sM_0 rfl (r_aload_n C dX12_reads_81 rfl rfl (r_getI C dX12_reads_82 fd_X12_147 nM_0 sM_0 rfl (r_icmp_ge C (tgt := 167) dX12_reads_85 rfl (fun c85 => (r_ret C dX12_reads_167 ?_)) (fun c85 => ?_)))))))))
    · exact ⟨q4, Or.inl ⟨p, q1, q2, q3⟩⟩
    · exact absurd hv c74
    · exact absurd hv c74
  have loop : ∀ (f : Nat) (d : kDr) (s : Nat) (v : Int32) (μ' : kMem), ¬ v.toInt = 0 → mAt μ d s μ' → s ≤ n → n - s ≤ f → prF t n f d s = P → J 73 [some (.ref 0), some (.int v)] [] μ' := by
    intro f
    induction f with
    | zero =>
      intro d s v μ' hv hM hs hf hpr
      have hx := hM.tx
      have hst := hM.2.1.st
      have hn1 := mn_i hM.2.1.1
      rw [hM.2.2.1] at hst
      rw [hx.2, ← hnn] at hn1
      have hpr2 : P = .inr d := hpr.symm
      refine (r_iload_n C dX12_reads_73 rfl rfl (r_if_eq C (tgt := 167) dX12_reads_74 rfl (fun c74 => (r_ret C dX12_reads_167 ?_)) (fun c74 => (r_aload_n C dX12_reads_77 rfl rfl (r_getI C dX12_reads_78 fd_X12_162 nM_0 sM_0 rfl (r_aload_n C dX12_reads_81 rfl rfl (r_getI C dX12_reads_82 fd_X12_147 nM_0 sM_0 rfl (r_icmp_ge C (tgt := 167) dX12_reads_85 rfl (fun c85 => (r_ret C dX12_reads_167 ?_)) (fun c85 => ?_)))))))))
      · exact absurd c74 hv
      · exact ⟨hM.2.2.2.2, Or.inr ⟨d, hpr2, hM.2.2.2.1, hM.1⟩⟩
      · exfalso; omega
    | succ f ih =>
      intro d s v μ' hv hM hs hf hpr
      have hx := hM.tx
      have hst := hM.2.1.st
      have hn1 := mn_i hM.2.1.1
      rw [hM.2.2.1] at hst
      rw [hx.2, ← hnn] at hn1
      by_cases hsn : n ≤ s
      · have hpr2 : P = .inr d := by
          rw [← hpr]
          unfold prF
          rw [if_pos hsn]
        refine (r_iload_n C dX12_reads_73 rfl rfl (r_if_eq C (tgt := 167) dX12_reads_74 rfl (fun c74 => (r_ret C dX12_reads_167 ?_)) (fun c74 => (r_aload_n C dX12_reads_77 rfl rfl (r_getI C dX12_reads_78 fd_X12_162 nM_0 sM_0 rfl (r_aload_n C dX12_reads_81 rfl rfl (r_getI C dX12_reads_82 fd_X12_147 nM_0 sM_0 rfl (r_icmp_ge C (tgt := 167) dX12_reads_85 rfl (fun c85 => (r_ret C dX12_reads_167 ?_)) (fun c85 => ?_)))))))))
        · exact absurd c74 hv
        · exact ⟨hM.2.2.2.2, Or.inr ⟨d, hpr2, hM.2.2.2.1, hM.1⟩⟩
        · exfalso; omega
      · have e : prF t n (f + 1) d s = match lnF t n d s with
          | .inl p => .inl p
          | .inr q => prF t n f q.1 q.2 := by
            conv => lhs; unfold prF
            rw [if_neg hsn]
            cases lnF t n d s <;> rfl
        have eW : ∀ i : Int32, isW (mt μ') (mn μ') (mts μ') i.toInt.toNat ↔ isW t n s i.toInt.toNat := fun i => by rw [hx.1, hx.2, hM.2.2.1, ← ht, ← hnn]
        have hd := hM.1.1
        have hw20 := hd.1
        have hwm := hM.1.2.2.2.1
        -- what a line's reading leaves
        have done : ∀ (r : Int32) (μ2 : kMem) (o : Nat ⊕ (kDr × Nat)), mOut μ o r μ2 → lnF t n d s = o → (r.toInt = 0 → ∀ v : Int32, v.toInt = 0 → J 73 [some (.ref 0), some (.int v)] [] μ2) ∧ (¬ r.toInt = 0 → ∀ v : Int32, ¬ v.toInt = 0 → J 73 [some (.ref 0), some (.int v)] [] μ2) := by
          intro r μ2 o q1 q2
          rcases q1 with ⟨p, p1, p2, p3, p4⟩ | ⟨q, p1, p2, p3⟩
          · rw [p1] at q2
            have hin := lnF_in (t := t) (n := n) (d := d) (s := s) (by omega) q2
            refine ⟨fun _ v hv => ?_, fun z => absurd (by rw [p2]; exact z0) z⟩
            rw [q2] at e
            exact bad p μ2 v hv (by rw [← hpr, e]) (by omega) p3 p4
          · refine ⟨fun z => absurd z (by rw [p2, o1]; decide), fun _ v hv => ?_⟩
            rw [p1] at q2
            have hr : dOk q.1 ∧ s < q.2 ∧ q.2 ≤ n := by
              unfold lnF at q2
              split at q2
              · exact ltF_r (by omega) hd q2
              · split at q2
                · rename_i c
                  exact wdF_r (by omega) hd c.2 q2
                · cases q2
            rw [q2] at e
            exact ih q.1 q.2 v μ2 hv p3 hr.2.2 (by omega) (by rw [← hpr, e])
        have wordc : ∀ b : Int32, (b.toInt = 0 ↔ ¬ (isW t n s 1 ∧ dW d < 20)) → ¬ isW t n s 0 → J 145 [some (.ref 0), some (.int v)] [.int b, .ref 0] μ' := by
          intro b hb h0
          by_cases hc : isW t n s 1 ∧ dW d < 20
          · have hl : lnF t n d s = wdG t n d (nxF t n s) := by
              unfold lnF
              rw [if_neg h0, if_pos hc]
              exact wdG_F
            have hn2 : ∀ {r : Int32} {μ2 : kMem}, ((¬ b.toInt = 0 ∧ r = Int32.ofInt 1 ∧ mNx μ' μ2) ∨ (b.toInt = 0 ∧ r = Int32.ofInt 0 ∧ μ2 = up μ' 0 4 (μ'.1 0 2))) → mAt μ d (nxF t n s) μ2 ∧ r = Int32.ofInt 1 := fun q => by
              rcases q with ⟨-, q2, q3⟩ | ⟨q1, -⟩
              · have w := hM.next q3
                rw [← ht, ← hnn] at w
                exact ⟨w, q2⟩
              · exact absurd hc (hb.mp q1)
            refine (r_v1I C yv_X12_passes lk_X12_183 dX12_reads_145 rfl nM_0 sM_0 rfl (Nat.le_of_ble_eq_true rfl) (ok_X12_passes ?_) (fun r145 μ145 h145 => (r_if_eq C (tgt := 162) dX12_reads_148 rfl (fun c148 => (r_iconst C dX12_reads_162 (r_istore_n C dX12_reads_163 rfl (by decide) (r_goto C (tgt := 73) dX12_reads_164 rfl ?_)))) (fun c148 => (r_aload_n C dX12_reads_151 rfl rfl (r_v0I C yv_X12_wordRead lk_X12_214 dX12_reads_152 rfl nM_0 sM_0 rfl (Nat.le_of_ble_eq_true rfl) (ok_X12_wordRead ⟨(hn2 h145).1, hc.2⟩) (fun r152 μ152 h152 => (r_if_eq C (tgt := 162) dX12_reads_155 rfl (fun c155 => (r_iconst C dX12_reads_162 (r_istore_n C dX12_reads_163 rfl (by decide) (r_goto C (tgt := 73) dX12_reads_164 rfl ?_)))) (fun c155 => (r_iconst C dX12_reads_158 (r_goto C (tgt := 163) dX12_reads_159 rfl (r_istore_n C dX12_reads_163 rfl (by decide) (r_goto C (tgt := 73) dX12_reads_164 rfl ?_)))))))))))))
            · exact hM.pre
            · rw [(hn2 h145).2] at c148
              exact absurd c148 (by decide)
            · rw [← ht, ← hnn] at h152
              exact (done _ _ _ h152 hl).1 c155 _ z0
            · rw [← ht, ← hnn] at h152
              exact (done _ _ _ h152 hl).2 c155 _ (by rw [o1]; decide)
          · have hl : lnF t n d s = .inl s := by
              unfold lnF
              rw [if_neg h0, if_neg hc]
            have hf2 : ∀ {r : Int32} {μ2 : kMem}, ((¬ b.toInt = 0 ∧ r = Int32.ofInt 1 ∧ mNx μ' μ2) ∨ (b.toInt = 0 ∧ r = Int32.ofInt 0 ∧ μ2 = up μ' 0 4 (μ'.1 0 2))) → mOut μ (.inl s) r μ2 ∧ r = Int32.ofInt 0 := fun q => by
              rcases q with ⟨q1, -⟩ | ⟨q1, q2, q3⟩
              · exact absurd (hb.mpr hc) q1
              · rw [q2]
                exact ⟨hM.fail rfl q3, rfl⟩
            refine (r_v1I C yv_X12_passes lk_X12_183 dX12_reads_145 rfl nM_0 sM_0 rfl (Nat.le_of_ble_eq_true rfl) (ok_X12_passes ?_) (fun r145 μ145 h145 => (r_if_eq C (tgt := 162) dX12_reads_148 rfl (fun c148 => (r_iconst C dX12_reads_162 (r_istore_n C dX12_reads_163 rfl (by decide) (r_goto C (tgt := 73) dX12_reads_164 rfl ?_)))) (fun c148 => (r_aload_n C dX12_reads_151 rfl rfl (r_v0I C yv_X12_wordRead lk_X12_214 dX12_reads_152 rfl nM_0 sM_0 rfl (Nat.le_of_ble_eq_true rfl) (ok_X12_wordRead (μ0 := μ) (d := d) (s := s) (absurd (by rw [(hf2 h145).2]; exact z0) c148)) (fun r152 μ152 h152 => (r_if_eq C (tgt := 162) dX12_reads_155 rfl (fun c155 => (r_iconst C dX12_reads_162 (r_istore_n C dX12_reads_163 rfl (by decide) (r_goto C (tgt := 73) dX12_reads_164 rfl ?_)))) (fun c155 => (r_iconst C dX12_reads_158 (r_goto C (tgt := 163) dX12_reads_159 rfl (r_istore_n C dX12_reads_163 rfl (by decide) (r_goto C (tgt := 73) dX12_reads_164 rfl ?_)))))))))))))
            · exact hM.pre
            · exact (done _ _ _ (hf2 h145).1 hl).1 c148 _ z0
            · exact absurd (by rw [(hf2 h145).2]; exact z0) c148
            · exact absurd (by rw [(hf2 h145).2]; exact z0) c148
        have letc : isW t n s 0 → ∀ {r : Int32} {μ2 : kMem}, ((¬ (Int32.ofInt 1).toInt = 0 ∧ r = Int32.ofInt 1 ∧ mNx μ' μ2) ∨ ((Int32.ofInt 1).toInt = 0 ∧ r = Int32.ofInt 0 ∧ μ2 = up μ' 0 4 (μ'.1 0 2))) → mAt μ d (nxF t n s) μ2 ∧ r = Int32.ofInt 1 := fun _ {r μ2} q => by
          rcases q with ⟨-, q2, q3⟩ | ⟨q1, -⟩
          · have w := hM.next q3
            rw [← ht, ← hnn] at w
            exact ⟨w, q2⟩
          · exact absurd q1 (by decide)
        by_cases h0 : isW t n s 0
        · have hl : lnF t n d s = ltG t n d (nxF t n s) := by
            unfold lnF
            rw [if_pos h0]
            exact ltG_F
          have hnW : ¬ (bP (isW (mt μ') (mn μ') (mts μ') (Int32.ofInt 0).toInt.toNat)).toInt = 0 := fun q => by
            have := bP_e0.mp q
            rw [eW, n0] at this
            exact this h0
          refine (r_iload_n C dX12_reads_73 rfl rfl (r_if_eq C (tgt := 167) dX12_reads_74 rfl (fun c74 => (r_ret C dX12_reads_167 ?_)) (fun c74 => (r_aload_n C dX12_reads_77 rfl rfl (r_getI C dX12_reads_78 fd_X12_162 nM_0 sM_0 rfl (r_aload_n C dX12_reads_81 rfl rfl (r_getI C dX12_reads_82 fd_X12_147 nM_0 sM_0 rfl (r_icmp_ge C (tgt := 167) dX12_reads_85 rfl (fun c85 => (r_ret C dX12_reads_167 ?_)) (fun c85 => (r_aload_n C dX12_reads_88 rfl rfl (r_iconst C dX12_reads_89 (r_v1P C yv_X12_isWord lk_X12_196 dX12_reads_90 rfl nM_0 sM_0 rfl (Nat.le_of_ble_eq_true rfl) (ok_X12_isWord ?_) (r_if_eq C (tgt := 120) dX12_reads_93 rfl (fun c93 => (r_aload_n C dX12_reads_120 rfl rfl (r_aload_n C dX12_reads_121 rfl rfl (r_iconst C dX12_reads_122 (r_v1P C yv_X12_isWord lk_X12_196 dX12_reads_123 rfl nM_0 sM_0 rfl (Nat.le_of_ble_eq_true rfl) (ok_X12_isWord ?_) (r_if_eq C (tgt := 144) dX12_reads_126 rfl (fun c126 => (r_iconst C dX12_reads_144 ?_)) (fun c126 => (r_aload_n C dX12_reads_129 rfl rfl (r_getR C dX12_reads_130 fd_X12_30 nM_0 sM_0 rfl (r_iconst C dX12_reads_133 (r_iald C dX12_reads_134 nM_12 sM_12 (by decide) (r_bipush C dX12_reads_135 (by decide +kernel) (r_icmp_ge C (tgt := 144) dX12_reads_137 rfl (fun c137 => (r_iconst C dX12_reads_144 ?_)) (fun c137 => (r_iconst C dX12_reads_140 (r_goto C (tgt := 145) dX12_reads_141 rfl ?_)))))))))))))))) (fun c93 => (r_aload_n C dX12_reads_96 rfl rfl (r_iconst C dX12_reads_97 (r_v1I C yv_X12_passes lk_X12_183 dX12_reads_98 rfl nM_0 sM_0 rfl (Nat.le_of_ble_eq_true rfl) (ok_X12_passes ?_) (fun r98 μ98 h98 => (r_if_eq C (tgt := 115) dX12_reads_101 rfl (fun c101 => (r_iconst C dX12_reads_115 (r_istore_n C dX12_reads_116 rfl (by decide) (r_goto C (tgt := 73) dX12_reads_117 rfl ?_)))) (fun c101 => (r_aload_n C dX12_reads_104 rfl rfl (r_v0I C yv_X12_letterRead lk_X12_211 dX12_reads_105 rfl nM_0 sM_0 rfl (Nat.le_of_ble_eq_true rfl) (ok_X12_letterRead (letc h0 h98).1) (fun r105 μ105 h105 => (r_if_eq C (tgt := 115) dX12_reads_108 rfl (fun c108 => (r_iconst C dX12_reads_115 (r_istore_n C dX12_reads_116 rfl (by decide) (r_goto C (tgt := 73) dX12_reads_117 rfl ?_)))) (fun c108 => (r_iconst C dX12_reads_111 (r_goto C (tgt := 116) dX12_reads_112 rfl (r_istore_n C dX12_reads_116 rfl (by decide) (r_goto C (tgt := 73) dX12_reads_117 rfl ?_)))))))))))))))))))))))))))))
          · exact absurd c74 hv
          · exfalso; omega
          · exact ⟨hM.2.1, by decide, by decide⟩
          · exact absurd c93 hnW
          · exact absurd c93 hnW
          · exact absurd c93 hnW
          · exact absurd c93 hnW
          · exact hM.pre
          · rw [(letc h0 h98).2] at c101
            exact absurd c101 (by decide)
          · rw [← ht, ← hnn] at h105
            exact (done _ _ _ h105 hl).1 c108 _ z0
          · rw [← ht, ← hnn] at h105
            exact (done _ _ _ h105 hl).2 c108 _ (by rw [o1]; decide)
        · have hnW : (bP (isW (mt μ') (mn μ') (mts μ') (Int32.ofInt 0).toInt.toNat)).toInt = 0 := by
            refine bP_e0.mpr (fun q => ?_)
            rw [eW, n0] at q
            exact h0 q
          refine (r_iload_n C dX12_reads_73 rfl rfl (r_if_eq C (tgt := 167) dX12_reads_74 rfl (fun c74 => (r_ret C dX12_reads_167 ?_)) (fun c74 => (r_aload_n C dX12_reads_77 rfl rfl (r_getI C dX12_reads_78 fd_X12_162 nM_0 sM_0 rfl (r_aload_n C dX12_reads_81 rfl rfl (r_getI C dX12_reads_82 fd_X12_147 nM_0 sM_0 rfl (r_icmp_ge C (tgt := 167) dX12_reads_85 rfl (fun c85 => (r_ret C dX12_reads_167 ?_)) (fun c85 => (r_aload_n C dX12_reads_88 rfl rfl (r_iconst C dX12_reads_89 (r_v1P C yv_X12_isWord lk_X12_196 dX12_reads_90 rfl nM_0 sM_0 rfl (Nat.le_of_ble_eq_true rfl) (ok_X12_isWord ?_) (r_if_eq C (tgt := 120) dX12_reads_93 rfl (fun c93 => (r_aload_n C dX12_reads_120 rfl rfl (r_aload_n C dX12_reads_121 rfl rfl (r_iconst C dX12_reads_122 (r_v1P C yv_X12_isWord lk_X12_196 dX12_reads_123 rfl nM_0 sM_0 rfl (Nat.le_of_ble_eq_true rfl) (ok_X12_isWord ?_) (r_if_eq C (tgt := 144) dX12_reads_126 rfl (fun c126 => (r_iconst C dX12_reads_144 ?_)) (fun c126 => (r_aload_n C dX12_reads_129 rfl rfl (r_getR C dX12_reads_130 fd_X12_30 nM_0 sM_0 rfl (r_iconst C dX12_reads_133 (r_iald C dX12_reads_134 nM_12 sM_12 (by decide) (r_bipush C dX12_reads_135 (by decide +kernel) (r_icmp_ge C (tgt := 144) dX12_reads_137 rfl (fun c137 => (r_iconst C dX12_reads_144 ?_)) (fun c137 => (r_iconst C dX12_reads_140 (r_goto C (tgt := 145) dX12_reads_141 rfl ?_)))))))))))))))) (fun c93 => (r_aload_n C dX12_reads_96 rfl rfl (r_iconst C dX12_reads_97 (r_v1I C yv_X12_passes lk_X12_183 dX12_reads_98 rfl nM_0 sM_0 rfl (Nat.le_of_ble_eq_true rfl) (ok_X12_passes ?_) (fun r98 μ98 h98 => (r_if_eq C (tgt := 115) dX12_reads_101 rfl (fun c101 => (r_iconst C dX12_reads_115 (r_istore_n C dX12_reads_116 rfl (by decide) (r_goto C (tgt := 73) dX12_reads_117 rfl ?_)))) (fun c101 => (r_aload_n C dX12_reads_104 rfl rfl (r_v0I C yv_X12_letterRead lk_X12_211 dX12_reads_105 rfl nM_0 sM_0 rfl (Nat.le_of_ble_eq_true rfl) (ok_X12_letterRead (μ0 := μ) (d := d) (s := s) (absurd hnW c93)) (fun r105 μ105 h105 => (r_if_eq C (tgt := 115) dX12_reads_108 rfl (fun c108 => (r_iconst C dX12_reads_115 (r_istore_n C dX12_reads_116 rfl (by decide) (r_goto C (tgt := 73) dX12_reads_117 rfl ?_)))) (fun c108 => (r_iconst C dX12_reads_111 (r_goto C (tgt := 116) dX12_reads_112 rfl (r_istore_n C dX12_reads_116 rfl (by decide) (r_goto C (tgt := 73) dX12_reads_117 rfl ?_)))))))))))))))))))))))))))))
          · exact absurd c74 hv
          · exfalso; omega
          · exact ⟨hM.2.1, by decide, by decide⟩
          · exact ⟨hM.2.1, by decide, by decide⟩
          · have c := bP_e0.mp c126
            rw [eW, n1] at c
            exact wordc _ ⟨fun _ q => c q.1, fun _ => z0⟩ h0
          · rw [n1, hwm, m20] at c137
            exact wordc _ ⟨fun _ q => by omega, fun _ => z0⟩ h0
          · have c := bP_ne c126
            rw [eW, n1] at c
            rw [n1, hwm, m20] at c137
            exact wordc _ ⟨fun q => absurd q (by rw [o1]; decide), fun q => absurd ⟨c, by omega⟩ q⟩ h0
          · exact absurd hnW c93
          · exact absurd hnW c93
          · exact absurd hnW c93
          · exact absurd hnW c93
  have start : ∀ (v : Int32) (μ1 : kMem), mGo μ μ1 → μ1.2 = μ.2 → (μ1.1 0 4).toInt = -1 → (∀ l, l < 26 → (μ1.1 4 l).toInt = 0) → (μ1.1 11 1).toInt = 0 → (μ1.1 12 1).toInt = 0 → J 42 [some (.ref 0), some (.int v)] [] μ1 := by
    intro v μ1 hG h2 hf h4 h11 h12
    obtain ⟨μ2, hμ2⟩ : ∃ μ2, μ2 = up μ1 0 3 (Int32.ofInt 0) := ⟨_, rfl⟩
    have far : ∀ a b : Nat, ¬ (a = 0 ∧ b = 3) → μ2.1 a b = μ1.1 a b := fun a b q => by rw [hμ2, up_ne _ _ q]
    have e3 : (μ2.1 0 3).toInt = 0 := by rw [hμ2, up_same]; exact z0
    have hG2 : mGo μ μ2 := fun a b n1 n2 n3 n4 => by rw [far a b (by omega)]; exact hG a b n1 n2 n3 n4
    obtain ⟨x1, x2, x3⟩ := hG2.tx
    have hdr : mdr μ2 dr0 := mEmp hG2 (by rw [hμ2]; exact h2) (fun l hl => by rw [far 4 l (by omega)]; exact h4 l hl) (by rw [far 11 1 (by omega)]; exact h11) (by rw [far 12 1 (by omega)]; exact h12)
    have hpre : mTxOk μ2 ∧ 0 ≤ (μ2.1 0 3).toInt ∧ (μ2.1 0 3).toInt ≤ mn μ2 := ⟨x3 h, by omega, by omega⟩
    have hsk := skF_b (t := t) (n := n) (i := 0) (by omega)
    have fin : ∀ μ48 : kMem, mNx μ2 μ48 → mAt μ dr0 (skF t n 0) μ48 := fun μ48 q => by
      obtain ⟨k1, k2, k3, k4⟩ := q.tk hpre.1 hpre.2
      have hF := q.2.2
      rw [x1, x2, e3, ← ht, ← hnn] at k2
      exact ⟨hdr.cg (fun a b q => hF.1 a b (by omega)) hF.2, k1, k2, by rw [hF.1 0 4 (by omega), far 0 4 (by omega)]; exact hf, fun a b n1 n2 n3 n4 => by rw [hF.1 a b (by omega)]; exact hG2 a b n1 n2 n3 n4⟩
    refine (r_aload_n C dX12_reads_42 rfl rfl (r_iconst C dX12_reads_43 (r_putI C dX12_reads_44 fw_X12_159 nM_0 sM_0 rfl (r_aload_n C dX12_reads_47 rfl rfl (r_v0N C yv_X12_next lk_X12_172 dX12_reads_48 rfl nM_0 sM_0 rfl (Nat.le_of_ble_eq_true rfl) (ok_X12_next ?_) (fun μ48 h48 => (r_aload_n C dX12_reads_51 rfl rfl (r_getI C dX12_reads_52 fd_X12_162 nM_0 sM_0 rfl (r_aload_n C dX12_reads_55 rfl rfl (r_getI C dX12_reads_56 fd_X12_147 nM_0 sM_0 rfl (r_icmp_ne C (tgt := 71) dX12_reads_59 rfl (fun c59 => (r_iconst C dX12_reads_71 (r_istore_n C dX12_reads_72 rfl (by decide) ?_))) (fun c59 => (r_aload_n C dX12_reads_62 rfl rfl (r_aload_n C dX12_reads_63 rfl rfl (r_getI C dX12_reads_64 fd_X12_147 nM_0 sM_0 rfl (r_putI C dX12_reads_67 fw_X12_169 nM_0 sM_0 rfl (r_ret C dX12_reads_70 ?_)))))))))))))))))
    · rw [← hμ2]
      exact hpre
    · rw [← hμ2] at h48
      have q := fin _ h48
      have hst := q.2.1.st
      have hnn1 := mn_i q.2.1.1
      have hx := q.tx
      rw [q.2.2.1] at hst
      rw [hx.2, ← hnn] at hnn1
      have hlt : ¬ n ≤ skF t n 0 := fun z => c59 (by omega)
      refine loop 500 dr0 (skF t n 0) _ μ48 (by rw [o1]; decide) q hsk.2 (by omega) ?_
      rw [hP]
      unfold paF
      rw [if_neg hlt]
    · rw [← hμ2] at h48
      have q := fin _ h48
      have hst := q.2.1.st
      have hnn1 := mn_i q.2.1.1
      have hx := q.tx
      rw [q.2.2.1] at hst
      rw [hx.2, ← hnn] at hnn1
      refine ⟨fun a b n1 n2 n3 n4 => by rw [up_ne _ _ (by omega)]; exact q.2.2.2.2 a b n1 n2 n3 n4, Or.inl ⟨n, ?_, by omega, ?_⟩⟩
      · rw [hP]
        unfold paF
        rw [if_pos (by omega)]
      · rw [up_same]
        omega
  have clear : ∀ (k l : Nat) (v : Int32) (μ1 : kMem), l + k = 26 → v.toInt = l → mGo μ μ1 → μ1.2 = μ.2 → (μ1.1 0 4).toInt = -1 → (∀ j, j < l → (μ1.1 4 j).toInt = 0) → (μ1.1 11 1).toInt = 0 → (μ1.1 12 1).toInt = 0 → J 21 [some (.ref 0), some (.int v)] [] μ1 := by
    intro k
    induction k using Nat.strongRecOn with
    | ind k ih =>
      intro l v μ1 hk hv hG h2 hf h4 h11 h12
      have ev : v.toInt.toNat = l := by omega
      refine (r_iload_n C dX12_reads_21 rfl rfl (r_bipush C dX12_reads_22 (by decide +kernel) (r_icmp_ge C (tgt := 42) dX12_reads_24 rfl (fun c24 => ?_) (fun c24 => (r_aload_n C dX12_reads_27 rfl rfl (r_getR C dX12_reads_28 fd_X12_15 nM_0 sM_0 rfl (r_iconst C dX12_reads_31 (r_aald C (r := 4) dX12_reads_32 nM_2 (by decide) sM_2 (by decide) (by decide) (r_iload_n C dX12_reads_33 rfl rfl (r_iconst C dX12_reads_34 (r_iast C dX12_reads_35 nM_4 sM_4 ?_ (r_iinc C dX12_reads_36 rfl (by decide) (r_goto C (tgt := 21) dX12_reads_39 rfl ?_)))))))))))))
      · rw [m26] at c24
        exact start v μ1 hG h2 hf (fun j hj => h4 j (by omega)) h11 h12
      · rw [m26] at c24; omega
      · rw [m26] at c24
        refine ih (k - 1) (by omega) (l + 1) _ _ (by omega) (by simp (disch := (first | omega | (simp (disch := omega) only [ti_ofInt, ti_addc, ti_subc, ti_mulc, ti_cmul, ti_divc, ti_remc, ti_zero, ti_add, ti_sub, ti_neg, if_lt_ti, if_gt_ti, bP_e0, Classical.not_not, tl_i2l]; omega))) only [ti_ofInt, ti_addc, ti_subc, ti_mulc, ti_cmul, ti_divc, ti_remc, ti_zero, ti_add, ti_sub, ti_neg, if_lt_ti, if_gt_ti, bP_e0, Classical.not_not, tl_i2l]; omega) (fun a b n1 n2 n3 n4 => by rw [up_neo _ _ n2]; exact hG a b n1 n2 n3 n4) h2 (by simp (disch := decide) only [up_same, up_neo, up_nek, up_2]; exact hf) (fun j hj => ?_) (by simp (disch := decide) only [up_same, up_neo, up_nek, up_2]; exact h11) (by simp (disch := decide) only [up_same, up_neo, up_nek, up_2]; exact h12)
        rw [ev]
        by_cases e : j = l
        · subst e
          rw [up_same, z0]
        · rw [up_nek _ _ e]
          exact h4 j (by omega)
  refine (r_aload_n C dX12_reads_0 rfl rfl (r_iconst C dX12_reads_1 (r_putI C dX12_reads_2 fw_X12_169 nM_0 sM_0 rfl (r_aload_n C dX12_reads_5 rfl rfl (r_getR C dX12_reads_6 fd_X12_26 nM_0 sM_0 rfl (r_iconst C dX12_reads_9 (r_iconst C dX12_reads_10 (r_iast C dX12_reads_11 nM_11 sM_11 (by decide) (r_aload_n C dX12_reads_12 rfl rfl (r_getR C dX12_reads_13 fd_X12_30 nM_0 sM_0 rfl (r_iconst C dX12_reads_16 (r_iconst C dX12_reads_17 (r_iast C dX12_reads_18 nM_12 sM_12 (by decide) (r_iconst C dX12_reads_19 (r_istore_n C dX12_reads_20 rfl (by decide) ?_)))))))))))))))
  rw [n1]
  refine clear 26 0 _ _ rfl (by simp (disch := (first | omega | (simp (disch := omega) only [ti_ofInt, ti_addc, ti_subc, ti_mulc, ti_cmul, ti_divc, ti_remc, ti_zero, ti_add, ti_sub, ti_neg, if_lt_ti, if_gt_ti, bP_e0, Classical.not_not, tl_i2l]; omega))) only [ti_ofInt, ti_addc, ti_subc, ti_mulc, ti_cmul, ti_divc, ti_remc, ti_zero, ti_add, ti_sub, ti_neg, if_lt_ti, if_gt_ti, bP_e0, Classical.not_not, tl_i2l]; rfl) (fun a b q1 q2 q3 q4 => ?_) rfl ?_ (fun j hj => absurd hj (Nat.not_lt_zero _)) ?_ ?_
  · rw [up_ne _ _ (by omega), up_ne _ _ (by omega), up_ne _ _ (by omega)]
  · simp (disch := decide) only [up_same, up_neo, up_nek, up_2]
    exact mm
  · simp (disch := decide) only [up_same, up_neo, up_nek, up_2]
    exact z0
  · simp (disch := decide) only [up_same, up_neo, up_nek, up_2]
    exact z0
theorem ok_X12_fault {μ : kMem} (h : mTxOk μ) : kOk yX12_fault cX12_fault 1 (some .int) rmX12_fault shM 48 [.ref 0] μ (kI fun r μ' => mGo μ μ' ∧ ((∃ p : Nat, paF (mt μ) (mn μ) = .inl p ∧ r = Int32.ofInt p ∧ p ≤ 500) ∨ (∃ d, paF (mt μ) (mn μ) = .inr d ∧ r = Int32.ofInt (-1)))) := by
  refine kOk.of rfl (Nat.le_of_ble_eq_true rfl) (fun J C => ?_)
  have C : kR cX12_fault RX12 1 rmX12_fault shM 48 (some .int) _ J := C
  refine (r_aload_n C dX12_fault_0 rfl rfl (r_v0N C yv_X12_reads lk_X12_217 dX12_fault_1 rfl nM_0 sM_0 rfl (Nat.le_of_ble_eq_true rfl) (ok_X12_reads ?_) (fun μ1 h1 => (r_aload_n C dX12_fault_4 rfl rfl (r_getI C dX12_fault_5 fd_X12_169 nM_0 sM_0 rfl (r_iret C dX12_fault_8 ?_))))))
  · exact h
  · refine ⟨h1.1, ?_⟩
    rcases h1.2 with ⟨p, q1, q2, q3⟩ | ⟨d, q1, q2, -⟩
    · exact Or.inl ⟨p, q1, ti_ext (by rw [q3, ti_ofInt (by omega)]), q2⟩
    · exact Or.inr ⟨d, q1, ti_ext (by rw [q2]; rfl)⟩
def mCod (d : kDr) (μ : kMem) : Prop := (∀ l, l < 26 → (μ.1 3 l).toInt = dM d l) ∧ (μ.1 11 0).toInt = dL d ∧ (μ.1 12 0).toInt = dW d ∧ ∀ w, w < dW d → (μ.1 6 w).toInt = dG d w
theorem ok_X12_code {μ : kMem} (h : mTxOk μ) : kOk yX12_code cX12_code 2 (some .int) rmX12_code shM 48 [.ref 0] μ (kI fun r μ' => ((∃ p, paF (mt μ) (mn μ) = .inl p) ∧ r = Int32.ofInt (-1) ∧ mGo μ μ') ∨ (∃ d, paF (mt μ) (mn μ) = .inr d ∧ dOk d ∧ r.toInt = dW d ∧ mCod d μ' ∧ (μ'.1 0 1).toInt = 0 ∧ ∀ a b : Nat, ¬ (a = 0 ∧ (b = 1 ∨ b = 2 ∨ b = 3 ∨ b = 4)) → a ≠ 3 → a ≠ 4 → a ≠ 6 → a ≠ 7 → a ≠ 11 → a ≠ 12 → μ'.1 a b = μ.1 a b)) := by
  have z0 : (Int32.ofInt 0).toInt = 0 := by decide
  have mm : (Int32.ofInt (-1)).toInt = -1 := by decide
  have m20 : (Int32.ofInt 20).toInt = 20 := by decide
  have m26 : (Int32.ofInt 26).toInt = 26 := by decide
  have n0 : (Int32.ofInt 0).toInt.toNat = 0 := by decide
  have n1 : (Int32.ofInt 1).toInt.toNat = 1 := by decide
  refine kOk.of rfl (Nat.le_of_ble_eq_true rfl) (fun J C => ?_)
  have C : kR cX12_code RX12 2 rmX12_code shM 48 (some .int) _ J := C
  have body : ∀ (μ1 : kMem) (d : kDr), mGo μ μ1 → mdr μ1 d → paF (mt μ) (mn μ) = .inr d → ∀ z : Option Value, J 14 [some (.ref 0), z] [] μ1 := by
    intro μ1 d hG hD hP z
    have hd := hD.1
    have grp : ∀ (k l : Nat) (v : Int32) (μ' : kMem), l + k = 20 → v.toInt = l → (∀ j, j < 26 → μ'.1 3 j = μ1.1 4 j) → (∀ j, j < l → μ'.1 6 j = μ1.1 7 j) → (∀ a b : Nat, a ≠ 3 → a ≠ 6 → μ'.1 a b = μ1.1 a b) → J 46 [some (.ref 0), some (.int v)] [] μ' := by
      intro k
      induction k using Nat.strongRecOn with
      | ind k ih =>
        intro l v μ' hk hv h3 h6 hO
        have ev : v.toInt.toNat = l := by omega
        refine (r_iload_n C dX12_code_46 rfl rfl (r_bipush C dX12_code_47 (by decide +kernel) (r_icmp_ge C (tgt := 74) dX12_code_49 rfl (fun c49 => (r_aload_n C dX12_code_74 rfl rfl (r_getR C dX12_code_75 fd_X12_26 nM_0 sM_0 rfl (r_iconst C dX12_code_78 (r_aload_n C dX12_code_79 rfl rfl (r_getR C dX12_code_80 fd_X12_26 nM_0 sM_0 rfl (r_iconst C dX12_code_83 (r_iald C dX12_code_84 nM_11 sM_11 (by decide) (r_iast C dX12_code_85 nM_11 sM_11 (by decide) (r_aload_n C dX12_code_86 rfl rfl (r_getR C dX12_code_87 fd_X12_30 nM_0 sM_0 rfl (r_iconst C dX12_code_90 (r_aload_n C dX12_code_91 rfl rfl (r_getR C dX12_code_92 fd_X12_30 nM_0 sM_0 rfl (r_iconst C dX12_code_95 (r_iald C dX12_code_96 nM_12 sM_12 (by decide) (r_iast C dX12_code_97 nM_12 sM_12 (by decide) (r_aload_n C dX12_code_98 rfl rfl (r_iconst C dX12_code_99 (r_putI C dX12_code_100 fw_X12_147 nM_0 sM_0 rfl (r_aload_n C dX12_code_103 rfl rfl (r_getR C dX12_code_104 fd_X12_30 nM_0 sM_0 rfl (r_iconst C dX12_code_107 (r_iald C dX12_code_108 nM_12 sM_12 (by decide) (r_iret C dX12_code_109 ?_))))))))))))))))))))))))) (fun c49 => (r_aload_n C dX12_code_52 rfl rfl (r_getR C dX12_code_53 fd_X12_18 nM_0 sM_0 rfl (r_iconst C dX12_code_56 (r_aald C (r := 6) dX12_code_57 nM_5 (by decide) sM_5 (by decide) (by decide) (r_iload_n C dX12_code_58 rfl rfl (r_aload_n C dX12_code_59 rfl rfl (r_getR C dX12_code_60 fd_X12_18 nM_0 sM_0 rfl (r_iconst C dX12_code_63 (r_aald C (r := 7) dX12_code_64 nM_5 (by decide) sM_5 (by decide) (by decide) (r_iload_n C dX12_code_65 rfl rfl (r_iald C dX12_code_66 nM_7 sM_7 ?_ (r_iast C dX12_code_67 nM_6 sM_6 ?_ (r_iinc C dX12_code_68 rfl (by decide) (r_goto C (tgt := 46) dX12_code_71 rfl ?_))))))))))))))))))
        · rw [m20] at c49
          have el : l = 20 := by omega
          subst el
          rw [n0, n1]
          simp (disch := decide) only [up_same, up_neo, up_nek, up_2]
          have e12 : μ'.1 12 1 = μ1.1 12 1 := hO 12 1 (by decide) (by decide)
          have e11 : μ'.1 11 1 = μ1.1 11 1 := hO 11 1 (by decide) (by decide)
          refine Or.inr ⟨d, hP, hd, by rw [e12]; exact hD.2.2.2.1, ⟨fun j hj => ?_, ?_, ?_, fun w hw => ?_⟩, ?_, fun a b q1 q2 q3 q4 q5 q6 q7 => ?_⟩
          · simp (disch := decide) only [up_same, up_neo, up_nek, up_2]
            rw [h3 j hj]
            exact hD.2.1 j hj
          · simp (disch := decide) only [up_same, up_neo, up_nek, up_2]
            rw [e11]
            exact hD.2.2.1
          · simp (disch := decide) only [up_same, up_neo, up_nek, up_2]
            rw [e12]
            exact hD.2.2.2.1
          · simp (disch := decide) only [up_same, up_neo, up_nek, up_2]
            have hw20 := hd.1
            rw [h6 w (by omega)]
            exact (hD.2.2.2.2 w hw).1
          · first | exact z0 | (rw [up_same]; exact z0)
          · rw [up_ne _ _ (by omega), up_neo _ _ q7, up_neo _ _ q6, hO a b q2 q4]
            exact hG a b (by omega) q3 q5 (by omega)
        · rw [m20] at c49; omega
        · rw [m20] at c49; omega
        · rw [m20] at c49
          rw [ev]
          have e7 : μ'.1 7 l = μ1.1 7 l := hO 7 l (by decide) (by decide)
          refine ih (k - 1) (by omega) (l + 1) _ _ (by omega) (by simp (disch := (first | omega | (simp (disch := omega) only [ti_ofInt, ti_addc, ti_subc, ti_mulc, ti_cmul, ti_divc, ti_remc, ti_zero, ti_add, ti_sub, ti_neg, if_lt_ti, if_gt_ti, bP_e0, Classical.not_not, tl_i2l]; omega))) only [ti_ofInt, ti_addc, ti_subc, ti_mulc, ti_cmul, ti_divc, ti_remc, ti_zero, ti_add, ti_sub, ti_neg, if_lt_ti, if_gt_ti, bP_e0, Classical.not_not, tl_i2l]; omega) (fun j hj => by simp (disch := decide) only [up_same, up_neo, up_nek, up_2]; exact h3 j hj) (fun j hj => ?_) (fun a b q1 q2 => by rw [up_neo _ _ q2]; exact hO a b q1 q2)
          by_cases e : j = l
          · subst e
            rw [up_same, e7]
          · rw [up_nek _ _ e]
            exact h6 j (by omega)
    have mks : ∀ (k l : Nat) (v : Int32) (μ' : kMem), l + k = 26 → v.toInt = l → (∀ j, j < l → μ'.1 3 j = μ1.1 4 j) → (∀ a b : Nat, a ≠ 3 → μ'.1 a b = μ1.1 a b) → J 16 [some (.ref 0), some (.int v)] [] μ' := by
      intro k
      induction k using Nat.strongRecOn with
      | ind k ih =>
        intro l v μ' hk hv h3 hO
        have ev : v.toInt.toNat = l := by omega
        refine (r_iload_n C dX12_code_16 rfl rfl (r_bipush C dX12_code_17 (by decide +kernel) (r_icmp_ge C (tgt := 44) dX12_code_19 rfl (fun c19 => (r_iconst C dX12_code_44 (r_istore_n C dX12_code_45 rfl (by decide) ?_))) (fun c19 => (r_aload_n C dX12_code_22 rfl rfl (r_getR C dX12_code_23 fd_X12_15 nM_0 sM_0 rfl (r_iconst C dX12_code_26 (r_aald C (r := 3) dX12_code_27 nM_2 (by decide) sM_2 (by decide) (by decide) (r_iload_n C dX12_code_28 rfl rfl (r_aload_n C dX12_code_29 rfl rfl (r_getR C dX12_code_30 fd_X12_15 nM_0 sM_0 rfl (r_iconst C dX12_code_33 (r_aald C (r := 4) dX12_code_34 nM_2 (by decide) sM_2 (by decide) (by decide) (r_iload_n C dX12_code_35 rfl rfl (r_iald C dX12_code_36 nM_4 sM_4 ?_ (r_iast C dX12_code_37 nM_3 sM_3 ?_ (r_iinc C dX12_code_38 rfl (by decide) (r_goto C (tgt := 16) dX12_code_41 rfl ?_))))))))))))))))))
        · rw [m26] at c19
          exact grp 20 0 _ μ' rfl (by simp (disch := (first | omega | (simp (disch := omega) only [ti_ofInt, ti_addc, ti_subc, ti_mulc, ti_cmul, ti_divc, ti_remc, ti_zero, ti_add, ti_sub, ti_neg, if_lt_ti, if_gt_ti, bP_e0, Classical.not_not, tl_i2l]; omega))) only [ti_ofInt, ti_addc, ti_subc, ti_mulc, ti_cmul, ti_divc, ti_remc, ti_zero, ti_add, ti_sub, ti_neg, if_lt_ti, if_gt_ti, bP_e0, Classical.not_not, tl_i2l]; rfl) (fun j hj => h3 j (by omega)) (fun j hj => absurd hj (Nat.not_lt_zero _)) (fun a b q1 _ => hO a b q1)
        · rw [m26] at c19; omega
        · rw [m26] at c19; omega
        · rw [m26] at c19
          rw [ev]
          have e4 : μ'.1 4 l = μ1.1 4 l := hO 4 l (by decide)
          refine ih (k - 1) (by omega) (l + 1) _ _ (by omega) (by simp (disch := (first | omega | (simp (disch := omega) only [ti_ofInt, ti_addc, ti_subc, ti_mulc, ti_cmul, ti_divc, ti_remc, ti_zero, ti_add, ti_sub, ti_neg, if_lt_ti, if_gt_ti, bP_e0, Classical.not_not, tl_i2l]; omega))) only [ti_ofInt, ti_addc, ti_subc, ti_mulc, ti_cmul, ti_divc, ti_remc, ti_zero, ti_add, ti_sub, ti_neg, if_lt_ti, if_gt_ti, bP_e0, Classical.not_not, tl_i2l]; omega) (fun j hj => ?_) (fun a b q1 => by rw [up_neo _ _ q1]; exact hO a b q1)
          by_cases e : j = l
          · subst e
            rw [up_same, e4]
          · rw [up_nek _ _ e]
            exact h3 j (by omega)
    refine (r_iconst C dX12_code_14 (r_istore_n C dX12_code_15 rfl (by decide) ?_))
    exact mks 26 0 _ μ1 rfl (by simp (disch := (first | omega | (simp (disch := omega) only [ti_ofInt, ti_addc, ti_subc, ti_mulc, ti_cmul, ti_divc, ti_remc, ti_zero, ti_add, ti_sub, ti_neg, if_lt_ti, if_gt_ti, bP_e0, Classical.not_not, tl_i2l]; omega))) only [ti_ofInt, ti_addc, ti_subc, ti_mulc, ti_cmul, ti_divc, ti_remc, ti_zero, ti_add, ti_sub, ti_neg, if_lt_ti, if_gt_ti, bP_e0, Classical.not_not, tl_i2l]; rfl) (fun j hj => absurd hj (Nat.not_lt_zero _)) (fun _ _ _ => rfl)
  refine (r_aload_n C dX12_code_0 rfl rfl (r_v0N C yv_X12_reads lk_X12_217 dX12_code_1 rfl nM_0 sM_0 rfl (Nat.le_of_ble_eq_true rfl) (ok_X12_reads ?_) (fun μ1 h1 => (r_aload_n C dX12_code_4 rfl rfl (r_getI C dX12_code_5 fd_X12_169 nM_0 sM_0 rfl (r_iconst C dX12_code_8 (r_icmp_eq C (tgt := 14) dX12_code_9 rfl (fun c9 => ?_) (fun c9 => (r_iconst C dX12_code_12 (r_iret C dX12_code_13 ?_))))))))))
  · exact h
  · rw [mm] at c9
    rcases h1.2 with ⟨p, q1, q2, q3⟩ | ⟨d, q1, q2, q3⟩
    · omega
    · exact body μ1 d h1.1 q3 q1 _
  · rw [mm] at c9
    rcases h1.2 with ⟨p, q1, q2, q3⟩ | ⟨d, q1, q2, q3⟩
    · exact Or.inl ⟨⟨p, q1⟩, rfl, h1.1⟩
    · exact absurd q2 c9

