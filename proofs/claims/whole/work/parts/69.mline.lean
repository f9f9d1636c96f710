/-! ===== the model: lines, the whole text ===== -/
def mGo (μ μ' : kMem) : Prop := ∀ a b : Nat, ¬ (a = 0 ∧ (b = 2 ∨ b = 3 ∨ b = 4)) → a ≠ 4 → a ≠ 7 → ¬ ((a = 11 ∨ a = 12) ∧ b = 1) → μ'.1 a b = μ.1 a b
theorem mGo.tx {μ μ' : kMem} (h : mGo μ μ') : mt μ' = mt μ ∧ mn μ' = mn μ ∧ (mTxOk μ → mTxOk μ') := mt_same (h 0 1 (by omega) (by decide) (by decide) (by omega)) (fun i => h 1 i (by omega) (by decide) (by decide) (by omega))
/-- the draft tells d -/
def mdr (μ : kMem) (d : kDr) : Prop := dOk d ∧ (∀ l, l < 26 → (μ.1 4 l).toInt = dM d l) ∧ (μ.1 11 1).toInt = dL d ∧ (μ.1 12 1).toInt = dW d ∧ ∀ w, w < dW d → (μ.1 7 w).toInt = dG d w ∧ (μ.2 10 w).toInt = encL (dN d w) ∧ ∀ c, c ∈ dN d w → 97 ≤ c ∧ c ≤ 122
theorem mdr.cg {μ μ' : kMem} {d : kDr} (h : mdr μ d) (h1 : ∀ a b : Nat, a ≠ 0 → μ'.1 a b = μ.1 a b) (h2 : μ'.2 = μ.2) : mdr μ' d := by
  unfold mdr at h ⊢
  simp (disch := decide) only [h1, h2]
  exact h
/-- the model stands at the TOKEN s; the draft tells d -/
def mAt (μ0 : kMem) (d : kDr) (s : Nat) (μ : kMem) : Prop := mdr μ d ∧ mtk μ ∧ mts μ = s ∧ (μ.1 0 4).toInt = -1 ∧ mGo μ0 μ
theorem mAt.tx {μ0 μ : kMem} {d : kDr} {s : Nat} (h : mAt μ0 d s μ) : mt μ = mt μ0 ∧ mn μ = mn μ0 := ⟨h.2.2.2.2.tx.1, h.2.2.2.2.tx.2.1⟩
theorem mAt.pre {μ0 μ : kMem} {d : kDr} {s : Nat} (h : mAt μ0 d s μ) : (mTxOk μ ∧ 0 ≤ (μ.1 0 3).toInt ∧ (μ.1 0 3).toInt ≤ mn μ) ∧ (μ.1 0 4).toInt = -1 := by
  have h1 := h.2.1
  have h2 := h1.te
  have h3 := h1.2.2
  exact ⟨⟨h1.1, by omega, by omega⟩, h.2.2.2.1⟩
theorem mAt.next {μ0 μ μ' : kMem} {d : kDr} {s : Nat} (h : mAt μ0 d s μ) (h2 : mNx μ μ') : mAt μ0 d (nxF (mt μ0) (mn μ0) s) μ' := by
  have hp := h.pre.1
  obtain ⟨a1, a2, a3, a4⟩ := h2.tk hp.1 hp.2
  obtain ⟨b1, b2⟩ := h.tx
  have hF := h2.2.2
  refine ⟨h.1.cg (fun a b q => hF.1 a b (by omega)) hF.2, a1, ?_, by rw [hF.1 0 4 (by omega)]; exact h.2.2.2.1, fun a b n1 n2 n3 n4 => by rw [hF.1 a b (by omega)]; exact h.2.2.2.2 a b n1 n2 n3 n4⟩
  rw [a2, h.2.1.2.2, b1, b2, h.2.2.1, Int.toNat_natCast]
  rfl
def mOut (μ : kMem) (o : Nat ⊕ (kDr × Nat)) (r : Int32) (μ' : kMem) : Prop := (∃ p, o = .inl p ∧ r = Int32.ofInt 0 ∧ (μ'.1 0 4).toInt = ((p : Nat) : Int) ∧ mGo μ μ') ∨ (∃ q, o = .inr q ∧ r = Int32.ofInt 1 ∧ mAt μ q.1 q.2 μ')
theorem mAt.fail {μ0 μ μ' : kMem} {d : kDr} {s : Nat} {o : Nat ⊕ (kDr × Nat)} (h : mAt μ0 d s μ) (ho : o = .inl s) (e : μ' = up μ 0 4 (μ.1 0 2)) : mOut μ0 o (Int32.ofInt 0) μ' := by
  refine Or.inl ⟨s, ho, rfl, ?_, fun a b n1 n2 n3 n4 => ?_⟩
  · rw [e, up_same, h.2.1.st, h.2.2.1]
  · rw [e, up_ne _ _ (by omega)]
    exact h.2.2.2.2 a b n1 n2 n3 n4
theorem mAt.good {μ0 μ : kMem} {d : kDr} {s : Nat} {o : Nat ⊕ (kDr × Nat)} (h : mAt μ0 d s μ) (ho : o = .inr (d, s)) : mOut μ0 o (Int32.ofInt 1) μ := Or.inr ⟨(d, s), ho, rfl, h⟩
theorem mOut_nz {μ μ' : kMem} {o : Nat ⊕ (kDr × Nat)} {r : Int32} (h : mOut μ o r μ') : narrow .boolean (.int r) = .int r := by
  rcases h with ⟨_, -, e, -⟩ | ⟨_, -, e, -⟩
  · exact two_nz (Or.inr e)
  · exact two_nz (Or.inl e)
/-- a letter has come -/
theorem mLet_at {μ0 μ : kMem} {d : kDr} {s l : Nat} {m : Int32} (h : mAt μ0 d s μ) (hl : l < 26) (hno : ¬ 0 < dM d l) (hm : 0 < m.toInt ∧ mdOk m.toInt) : mAt μ0 (drL d l m.toInt) s (up (up μ 4 l m) 11 1 (μ.1 11 1 + Int32.ofInt 1)) := by
  obtain ⟨⟨d1, d2, d3, d4, d5⟩, h2, h3, h4, h5⟩ := h
  have hdl := dL_le d
  have far : ∀ a b : Nat, a ≠ 4 → a ≠ 11 → (up (up μ 4 l m) 11 1 (μ.1 11 1 + Int32.ofInt 1)).1 a b = μ.1 a b := fun a b n1 n2 => by rw [up_neo _ _ n2, up_neo _ _ n1]
  obtain ⟨e1, e2, e3⟩ := mt_same (μ := μ) (μ' := up (up μ 4 l m) 11 1 (μ.1 11 1 + Int32.ofInt 1)) (far 0 1 (by decide) (by decide)) (fun i => far 1 i (by decide) (by decide))
  have e4 : mts (up (up μ 4 l m) 11 1 (μ.1 11 1 + Int32.ofInt 1)) = mts μ := by unfold mts; rw [far 0 2 (by decide) (by decide)]
  refine ⟨⟨drL_ok d1 hm.2, fun j hj => ?_, ?_, ?_, fun w hw => ?_⟩, ⟨e3 h2.1, by rw [far 0 2 (by decide) (by decide), e4, e2]; exact h2.2.1, by rw [far 0 3 (by decide) (by decide), e1, e2, e4]; exact h2.2.2⟩, by rw [e4]; exact h3, by rw [far 0 4 (by decide) (by decide)]; exact h4, fun a b n1 n2 n3 n4 => ?_⟩
  · rw [up_neo _ _ (by decide)]
    show _ = if j = l then m.toInt else dM d j
    by_cases e : j = l
    · subst e
      rw [if_pos rfl, up_same]
    · rw [if_neg e, up_nek _ _ e]
      exact d2 j hj
  · rw [up_same, ti_addc (by omega), d3, drL_L hl hno hm.1]
    omega
  · rw [far 12 1 (by decide) (by decide)]; exact d4
  · rw [far 7 w (by decide) (by decide)]
    exact d5 w hw
  · rw [up_ne _ _ (by omega), up_neo _ _ n2]
    exact h5 a b n1 n2 n3 n4
/-- a group comes with its name -/
theorem mGrp_at {μ0 μ : kMem} {d : kDr} {s : Nat} {g : Int32} {n : Int64} {L : List Int} (h : mAt μ0 d s μ) (hw : dW d < 20) (hg : 0 ≤ g.toInt ∧ g.toInt < 17576) (hn : n.toInt = encL L) (hL : ∀ c, c ∈ L → 97 ≤ c ∧ c ≤ 122) : mAt μ0 (drW d g.toInt L) s (up (up (upL μ 10 (dW d) n) 7 (dW d) g) 12 1 (μ.1 12 1 + Int32.ofInt 1)) := by
  obtain ⟨⟨d1, d2, d3, d4, d5⟩, h2, h3, h4, h5⟩ := h
  obtain ⟨μ', hμ⟩ : ∃ μ', μ' = up (up (upL μ 10 (dW d) n) 7 (dW d) g) 12 1 (μ.1 12 1 + Int32.ofInt 1) := ⟨_, rfl⟩
  rw [← hμ]
  have far : ∀ a b : Nat, a ≠ 7 → ¬ (a = 12 ∧ b = 1) → μ'.1 a b = μ.1 a b := fun a b n1 n2 => by rw [hμ, up_ne _ _ n2, up_neo _ _ n1, upL_1]
  obtain ⟨e1, e2, e3⟩ := mt_same (μ := μ) (μ' := μ') (far 0 1 (by decide) (by decide)) (fun i => far 1 i (by decide) (by omega))
  have e4 : mts μ' = mts μ := by unfold mts; rw [far 0 2 (by decide) (by decide)]
  refine ⟨⟨drW_ok d1 hg hw, fun j hj => ?_, ?_, ?_, fun w hw2 => ?_⟩, ⟨e3 h2.1, by rw [far 0 2 (by decide) (by decide), e4, e2]; exact h2.2.1, by rw [far 0 3 (by decide) (by decide), e1, e2, e4]; exact h2.2.2⟩, by rw [e4]; exact h3, by rw [far 0 4 (by decide) (by decide)]; exact h4, fun a b n1 n2 n3 n4 => ?_⟩
  · rw [far 4 j (by decide) (by omega)]
    exact d2 j hj
  · rw [far 11 1 (by decide) (by decide)]; exact d3
  · rw [hμ, up_same, ti_addc (by omega), d4]
    show _ = ((dW d + 1 : Nat) : Int)
    omega
  · have hw3 : w < dW d + 1 := hw2
    have n7 : μ'.1 7 w = if w = dW d then g else μ.1 7 w := by
      rw [hμ, up_neo _ _ (by decide)]
      by_cases e : w = dW d
      · subst e
        rw [if_pos rfl, up_same]
      · rw [if_neg e, up_nek _ _ e, upL_1]
    have n10 : μ'.2 10 w = if w = dW d then n else μ.2 10 w := by
      rw [hμ, up_2, up_2]
      by_cases e : w = dW d
      · subst e
        rw [if_pos rfl, upL_same]
      · rw [if_neg e, upL_ne _ _ (fun q => e q.2)]
    rw [n7, n10]
    show (_ = if w = dW d then g.toInt else dG d w) ∧ (_ = encL (if w = dW d then L else dN d w)) ∧ ∀ c, c ∈ (if w = dW d then L else dN d w) → _
    by_cases e : w = dW d
    · rw [if_pos e, if_pos e, if_pos e, if_pos e]
      exact ⟨rfl, hn, hL⟩
    · rw [if_neg e, if_neg e, if_neg e, if_neg e]
      exact d5 w (by omega)
  · rw [far a b n3 (by omega)]
    exact h5 a b n1 n2 n3 n4
theorem ok_X12_letterRead {μ0 μ : kMem} {d : kDr} {s : Nat} (h : mAt μ0 d s μ) : kOk yX12_letterRead cX12_letterRead 4 (some .boolean) rmX12_letterRead shM 48 [.ref 0] μ (kI fun r μ' => mOut μ0 (ltG (mt μ0) (mn μ0) d s) r μ') := by
  have htx := h.tx
  obtain ⟨t, ht⟩ : ∃ t, t = mt μ0 := ⟨_, rfl⟩
  obtain ⟨n, hnn⟩ : ∃ n, n = mn μ0 := ⟨_, rfl⟩
  have htk := h.2.1
  have hT := htk.1
  have hn := mn_i hT
  have hst := htk.st
  have hsz := htk.sz
  have hsl := htk.2.1.2
  rw [htx.1, htx.2, ← ht, ← hnn, h.2.2.1] at hsz
  rw [htx.2, ← hnn, h.2.2.1] at hsl
  rw [htx.2, ← hnn] at hn
  rw [h.2.2.1] at hst
  rw [← ht, ← hnn]
  have z0 : (Int32.ofInt 0).toInt = 0 := by decide
  have o1 : (Int32.ofInt 1).toInt = 1 := by decide
  have mm : (Int32.ofInt (-1)).toInt = -1 := by decide
  have m97 : (Int32.ofInt 97).toInt = 97 := by decide
  have m122 : (Int32.ofInt 122).toInt = 122 := by decide
  have es : (μ.1 0 2).toInt.toNat = s := by omega
  have k1 : kdF t n s = 1 ↔ (s < n ∧ ckF (t s) = 1) := ⟨fun q => kdF_pos q (by decide), fun q => by rw [kdF_lt q.1]; exact q.2⟩
  have ck := mck1 hT s
  rw [htx.1, ← ht] at ck
  have emt : t s = (μ.1 1 s).toInt % 256 := by rw [ht, ← htx.1]; rfl
  refine kOk.of rfl (Nat.le_of_ble_eq_true rfl) (fun J C => ?_)
  have C : kR cX12_letterRead RX12 4 rmX12_letterRead shM 48 (some .boolean) _ J := C
  -- the last sign
  have fin : ∀ (l : Nat) (is m b : Int32) (μ1 : kMem), (b.toInt = 0 ↔ ¬ lBok t n d (nxF t n s)) → lAok t n d s → l = (t s - 97).toNat → l < 26 → mAt μ0 d (nxF t n s) μ1 → (lBok t n d (nxF t n s) → m.toInt = numF t (nxF t n s) (teF t n (nxF t n s) - nxF t n s)) → ∀ (lv : Int32), lv.toInt = l → J 100 [some (.ref 0), some (.int is), some (.int lv), some (.int m)] [.int b, .ref 0] μ1 := by
    intro l is m b μ1 hb hA hl hl26 hM hm lv hlv
    have eln : lv.toInt.toNat = l := by omega
    refine (r_v1I C yv_X12_passes lk_X12_183 dX12_letterRead_100 rfl nM_0 sM_0 rfl (Nat.le_of_ble_eq_true rfl) (ok_X12_passes ?_) (fun r100 μ100 h100 => (r_if_ne C (tgt := 108) dX12_letterRead_103 rfl (fun c103 => (r_aload_n C dX12_letterRead_108 rfl rfl (r_getR C dX12_letterRead_109 fd_X12_15 nM_0 sM_0 rfl (r_iconst C dX12_letterRead_112 (r_aald C (r := 4) dX12_letterRead_113 nM_2 (by decide) sM_2 (by decide) (by decide) (r_iload_n C dX12_letterRead_114 rfl rfl (r_iload_n C dX12_letterRead_115 rfl rfl (r_iast C dX12_letterRead_116 nM_4 sM_4 ?_ (r_aload_n C dX12_letterRead_117 rfl rfl (r_getR C dX12_letterRead_118 fd_X12_26 nM_0 sM_0 rfl (r_iconst C dX12_letterRead_121 (r_dup2 C dX12_letterRead_122 rfl rfl (r_iald C dX12_letterRead_123 nM_11 sM_11 (by decide) (r_iconst C dX12_letterRead_124 (r_iadd C dX12_letterRead_125 (r_iast C dX12_letterRead_126 nM_11 sM_11 (by decide) (r_aload_n C dX12_letterRead_127 rfl rfl (r_v0I C yv_X12_closes lk_X12_190 dX12_letterRead_128 rfl nM_0 sM_0 rfl (Nat.le_of_ble_eq_true rfl) (ok_X12_closes ?_) (fun r128 μ128 h128 => (r_zret C dX12_letterRead_131 ?_ ?_)))))))))))))))))))) (fun c103 => (r_iconst C dX12_letterRead_106 (r_zret C dX12_letterRead_107 rfl ?_))))))
    · exact hM.pre
    · rcases h100 with ⟨b1, b2, b3⟩ | ⟨b1, b2, b3⟩
      · have hB : lBok t n d (nxF t n s) := Classical.byContradiction (fun q => b1 (hb.mpr q))
        have h12 := hM.next b3
        omega
      · rw [b2] at c103
        exact absurd z0 c103
    · rcases h100 with ⟨b1, b2, b3⟩ | ⟨b1, b2, b3⟩
      · have hB : lBok t n d (nxF t n s) := Classical.byContradiction (fun q => b1 (hb.mpr q))
        have hmv := hm hB
        have h12 := hM.next b3
        have hno : ¬ 0 < dM d l := by rw [hl]; exact hA.2.2
        have hk2 := kdF_pos hB.1.1 (by decide)
        have htb := teF_b (t := t) (n := n) (j := nxF t n s) (by omega)
        have hnm := numF_5 (t := t) (j := nxF t n s) hB.1.2.1 (fun i hi => hB.1.2.2 _ (by omega) (by omega))
        have hmd := numF_md (t := t) (j := nxF t n s) hB.1.2.1 (fun i hi => hB.1.2.2 _ (by omega) (by omega))
        have q := mLet_at h12 hl26 hno (m := m) ⟨by have := hnm.2.2 (by omega); omega, by rw [hmv]; exact hmd⟩
        rw [eln]
        simp (disch := decide) only [up_same, up_neo, up_nek, up_2]
        exact ⟨q.2.1, q.2.2.2.1⟩
      · rw [b2] at c103
        exact absurd z0 c103
    · rcases h128 with ⟨-, e, -⟩ | ⟨-, e, -⟩
      · exact two_nz (Or.inl e)
      · exact two_nz (Or.inr e)
    · rcases h100 with ⟨b1, b2, b3⟩ | ⟨b1, b2, b3⟩
      · have hB : lBok t n d (nxF t n s) := Classical.byContradiction (fun q => b1 (hb.mpr q))
        have hmv := hm hB
        have h12 := hM.next b3
        have hno : ¬ 0 < dM d l := by rw [hl]; exact hA.2.2
        have hk2 := kdF_pos hB.1.1 (by decide)
        have htb := teF_b (t := t) (n := n) (j := nxF t n s) (by omega)
        have hnm := numF_5 (t := t) (j := nxF t n s) hB.1.2.1 (fun i hi => hB.1.2.2 _ (by omega) (by omega))
        have hmd := numF_md (t := t) (j := nxF t n s) hB.1.2.1 (fun i hi => hB.1.2.2 _ (by omega) (by omega))
        have q := mLet_at h12 hl26 hno (m := m) ⟨by have := hnm.2.2 (by omega); omega, by rw [hmv]; exact hmd⟩
        rw [← ht, ← hnn] at q
        have n1 : (Int32.ofInt 1).toInt.toNat = 1 := by decide
        rw [eln, n1] at h128
        simp (disch := decide) only [up_same, up_neo, up_nek, up_2] at h128
        have qx := q.tx
        have e3 : kdF (mt (up (up μ100 4 l m) 11 1 (μ100.1 11 1 + Int32.ofInt 1))) (mn (up (up μ100 4 l m) 11 1 (μ100.1 11 1 + Int32.ofInt 1))) (mts (up (up μ100 4 l m) 11 1 (μ100.1 11 1 + Int32.ofInt 1))) = kdF t n (nxF t n (nxF t n s)) := by rw [qx.1, qx.2, q.2.2.1, ← ht, ← hnn]
        rw [e3] at h128
        have eo : ltG t n d s = if kdF t n (nxF t n (nxF t n s)) = 3 then .inr (drL d (t s - 97).toNat (numF t (nxF t n s) (teF t n (nxF t n s) - nxF t n s)), nxF t n (nxF t n (nxF t n s))) else .inl (nxF t n (nxF t n s)) := by
          unfold ltG
          rw [if_pos hA, if_pos hB]
        rcases h128 with ⟨g1, g2, g3⟩ | ⟨g1, g2, g3⟩
        · have w := q.next g3
          rw [← ht, ← hnn] at w
          rw [g2, eo, if_pos g1, ← hmv, ← hl]
          exact w.good rfl
        · rw [g2, eo, if_neg g1]
          exact q.fail rfl g3
      · rw [b2] at c103
        exact absurd z0 c103
    · rcases h100 with ⟨b1, b2, b3⟩ | ⟨b1, b2, b3⟩
      · rw [b2] at c103
        exact absurd c103 (by decide)
      · refine hM.fail ?_ b3
        unfold ltG
        rw [if_pos hA, if_neg (hb.mp b1)]
  have second : ∀ (l : Nat) (is lv : Int32) (z3 : Option Value) (μ1 : kMem), lAok t n d s → l = (t s - 97).toNat → l < 26 → lv.toInt = l → mAt μ0 d (nxF t n s) μ1 → J 84 [some (.ref 0), some (.int is), some (.int lv), z3] [] μ1 := by
    intro l is lv z3 μ1 hA hl hl26 hlv hM
    have hx := hM.tx
    have hmt : mts μ1 = nxF t n s := hM.2.2.1
    have eB : lBm μ1 ↔ lBok t n d (nxF t n s) := by
      unfold lBm lBok
      rw [hx.1, hx.2, hmt, ← ht, ← hnn]
      refine ⟨fun q => ⟨q.1, fun j hj => by rw [← hM.1.2.1 j hj]; exact q.2 j hj⟩, fun q => ⟨q.1, fun j hj => by rw [hM.1.2.1 j hj]; exact q.2 j hj⟩⟩
    have hv : (lBok t n d (nxF t n s) → (Int32.ofInt (mmV μ1)).toInt = numF t (nxF t n s) (teF t n (nxF t n s) - nxF t n s) ∧ 0 ≤ (Int32.ofInt (mmV μ1)).toInt) ∧ (¬ lBok t n d (nxF t n s) → (Int32.ofInt (mmV μ1)).toInt = -1) := by
      refine ⟨fun q => ?_, fun q => ?_⟩
      · have hnm := numF_5 (t := t) (j := nxF t n s) q.1.2.1 (fun i hi => q.1.2.2 _ (by omega) (by omega))
        unfold mmV
        rw [if_pos (eB.mpr q), hx.1, hx.2, hmt, ← ht, ← hnn, ti_ofInt (by omega)]
        exact ⟨rfl, hnm.1⟩
      · unfold mmV
        rw [if_neg (fun z => q (eB.mp z)), mm]
    refine (r_aload_n C dX12_letterRead_84 rfl rfl (r_v0P C yv_X12_marksHere lk_X12_187 dX12_letterRead_85 rfl nM_0 sM_0 rfl (Nat.le_of_ble_eq_true rfl) (ok_X12_marksHere ?_) (r_istore_n C dX12_letterRead_88 rfl (by decide) (r_aload_n C dX12_letterRead_89 rfl rfl (r_iload_n C dX12_letterRead_90 rfl rfl (r_iconst C dX12_letterRead_91 (r_icmp_eq C (tgt := 99) dX12_letterRead_92 rfl (fun c92 => (r_iconst C dX12_letterRead_99 ?_)) (fun c92 => (r_iconst C dX12_letterRead_95 (r_goto C (tgt := 100) dX12_letterRead_96 rfl ?_))))))))))
    · exact hM.2.1
    · rw [mm] at c92
      refine fin l is _ _ μ1 ?_ hA hl hl26 hM (fun q => (hv.1 q).1) lv hlv
      exact ⟨fun _ q => by have := (hv.1 q).2; omega, fun _ => z0⟩
    · rw [mm] at c92
      refine fin l is _ _ μ1 ?_ hA hl hl26 hM (fun q => (hv.1 q).1) lv hlv
      rw [o1]
      exact ⟨fun q => absurd q (by decide), fun q => absurd (hv.2 q) c92⟩
  have first : ∀ (b is lv : Int32) (z3 : Option Value), (b.toInt = 0 ↔ ¬ lAok t n d s) → (lAok t n d s → lv.toInt = t s - 97) → J 76 [some (.ref 0), some (.int is), some (.int lv), z3] [.int b, .ref 0] μ := by
    intro b is lv z3 hb hlv
    refine (r_v1I C yv_X12_passes lk_X12_183 dX12_letterRead_76 rfl nM_0 sM_0 rfl (Nat.le_of_ble_eq_true rfl) (ok_X12_passes ?_) (fun r76 μ76 h76 => (r_if_ne C (tgt := 84) dX12_letterRead_79 rfl (fun c79 => ?_) (fun c79 => (r_iconst C dX12_letterRead_82 (r_zret C dX12_letterRead_83 rfl ?_))))))
    · exact h.pre
    · rcases h76 with ⟨b1, b2, b3⟩ | ⟨b1, b2, b3⟩
      · have hA : lAok t n d s := Classical.byContradiction (fun q => b1 (hb.mpr q))
        have hlv := hlv hA
        have hc := ckF_1.mp (k1.mp hA.1).2
        have q := h.next b3
        rw [← ht, ← hnn] at q
        exact second (t s - 97).toNat is lv z3 μ76 hA rfl (by omega) (by omega) q
      · rw [b2] at c79
        exact absurd z0 c79
    · rcases h76 with ⟨b1, b2, b3⟩ | ⟨b1, b2, b3⟩
      · rw [b2] at c79
        exact absurd c79 (by decide)
      · refine h.fail ?_ b3
        unfold ltG
        rw [if_neg (hb.mp b1)]
  have hb0 := hT.2 s
  have elt : ckF (t s) = 1 → (μ.1 1 s - Int32.ofInt 97).toInt = t s - 97 ∧ 0 ≤ t s - 97 ∧ t s - 97 < 26 := fun q => by
    have := ckF_1.mp q
    rw [ti_subc (by omega)]
    omega
  refine (r_aload_n C dX12_letterRead_0 rfl rfl (r_aload_n C dX12_letterRead_1 rfl rfl (r_getI C dX12_letterRead_2 fd_X12_162 nM_0 sM_0 rfl (r_bipush C dX12_letterRead_5 (by decide +kernel) (r_bipush C dX12_letterRead_7 (by decide +kernel) (r_v3P C yv_X12_between lk_X12_165 dX12_letterRead_9 rfl nM_0 sM_0 rfl (Nat.le_of_ble_eq_true rfl) (ok_X12_between ?_) (r_if_eq C (tgt := 32) dX12_letterRead_12 rfl (fun c12 => (r_iconst C dX12_letterRead_32 (r_istore_n C dX12_letterRead_33 rfl (by decide) (r_iload_n C dX12_letterRead_34 rfl rfl (r_if_eq C (tgt := 53) dX12_letterRead_35 rfl (fun c35 => (r_iconst C dX12_letterRead_53 (r_istore_n C dX12_letterRead_54 rfl (by decide) (r_aload_n C dX12_letterRead_55 rfl rfl (r_iload_n C dX12_letterRead_56 rfl rfl (r_if_eq C (tgt := 75) dX12_letterRead_57 rfl (fun c57 => (r_iconst C dX12_letterRead_75 ?_)) (fun c57 => absurd c57 (by decide +kernel)))))))) (fun c35 => absurd c35 (by decide +kernel))))))) (fun c12 => (r_aload_n C dX12_letterRead_15 rfl rfl (r_getI C dX12_letterRead_16 fd_X12_159 nM_0 sM_0 rfl (r_aload_n C dX12_letterRead_19 rfl rfl (r_getI C dX12_letterRead_20 fd_X12_162 nM_0 sM_0 rfl (r_isub C dX12_letterRead_23 (r_iconst C dX12_letterRead_24 (r_icmp_ne C (tgt := 32) dX12_letterRead_25 rfl (fun c25 => (r_iconst C dX12_letterRead_32 (r_istore_n C dX12_letterRead_33 rfl (by decide) (r_iload_n C dX12_letterRead_34 rfl rfl (r_if_eq C (tgt := 53) dX12_letterRead_35 rfl (fun c35 => (r_iconst C dX12_letterRead_53 (r_istore_n C dX12_letterRead_54 rfl (by decide) (r_aload_n C dX12_letterRead_55 rfl rfl (r_iload_n C dX12_letterRead_56 rfl rfl (r_if_eq C (tgt := 75) dX12_letterRead_57 rfl (fun c57 => (r_iconst C dX12_letterRead_75 ?_)) (fun c57 => absurd c57 (by decide +kernel)))))))) (fun c35 => absurd c35 (by decide +kernel))))))) (fun c25 => (r_iconst C dX12_letterRead_28 (r_goto C (tgt := 33) dX12_letterRead_29 rfl (r_istore_n C dX12_letterRead_33 rfl (by decide) (r_iload_n C dX12_letterRead_34 rfl rfl (r_if_eq C (tgt := 53) dX12_letterRead_35 rfl (fun c35 => absurd c35 (by decide +kernel)) (fun c35 => (r_aload_n C dX12_letterRead_38 rfl rfl (r_getR C dX12_letterRead_39 fd_X12_9 nM_0 sM_0 rfl (r_aload_n C dX12_letterRead_42 rfl rfl (r_getI C dX12_letterRead_43 fd_X12_162 nM_0 sM_0 rfl (r_bald C dX12_letterRead_46 nM_1 sM_1 ?_ (r_bipush C dX12_letterRead_47 (by decide +kernel) (r_isub C dX12_letterRead_49 (r_goto C (tgt := 54) dX12_letterRead_50 rfl (r_istore_n C dX12_letterRead_54 rfl (by decide) (r_aload_n C dX12_letterRead_55 rfl rfl (r_iload_n C dX12_letterRead_56 rfl rfl (r_if_eq C (tgt := 75) dX12_letterRead_57 rfl (fun c57 => absurd c57 (by decide +kernel)) (fun c57 => (r_aload_n C dX12_letterRead_60 rfl rfl (r_getR C dX12_letterRead_61 fd_X12_15 nM_0 sM_0 rfl (r_iconst C dX12_letterRead_64 (r_aald C (r := 4) dX12_letterRead_65 nM_2 (by decide) sM_2 (by decide) (by decide) (r_iload_n C dX12_letterRead_66 rfl rfl (r_iald C dX12_letterRead_67 nM_4 sM_4 ?_ (r_if_ne C (tgt := 75) dX12_letterRead_68 rfl (fun c68 => (r_iconst C dX12_letterRead_75 ?_)) (fun c68 => (r_iconst C dX12_letterRead_71 (r_goto C (tgt := 76) dX12_letterRead_72 rfl ?_)))))))))))))))))))))))))))))))))))))))))))))
  · exact ⟨hT, by omega⟩
  · have q := bP_e0.mp c12
    rw [es, m97, m122, ck] at q
    exact first _ _ _ _ ⟨fun _ z => q ⟨by have := (k1.mp z.1).1; omega, (k1.mp z.1).2⟩, fun _ => z0⟩ (fun z => absurd ⟨by have := (k1.mp z.1).1; omega, (k1.mp z.1).2⟩ q)
  · rw [hsz, o1] at c25
    exact first _ _ _ _ ⟨fun _ z => by have := z.2.1; omega, fun _ => z0⟩ (fun z => by have := z.2.1; omega)
  · have q := bP_ne c12
    omega
  · have q := bP_ne c12
    rw [es, m97, m122, ck] at q
    have := elt q.2
    rw [es]
    omega
  · have q := bP_ne c12
    rw [es, m97, m122, ck] at q
    have w := elt q.2
    rw [es, h.1.2.1 _ (by omega), w.1] at c68
    rw [es]
    have hmd := (h.1.1.2.1 (t s - 97).toNat).1
    exact first _ _ _ _ ⟨fun _ z => z.2.2 (by omega), fun _ => z0⟩ (fun _ => w.1)
  · have q := bP_ne c12
    rw [es, m97, m122, ck] at q
    have w := elt q.2
    rw [es, h.1.2.1 _ (by omega), w.1] at c68
    rw [es]
    rw [hsz, o1] at c25
    exact first _ _ _ _ ⟨fun z => absurd z (by rw [o1]; decide), fun z => absurd ⟨k1.mpr ⟨by omega, q.2⟩, by omega, by omega⟩ z⟩ (fun _ => w.1)

