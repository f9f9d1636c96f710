/-! ===== the model: the post, a message comes, a line chooses ===== -/
def mpE (μ : kMem) (m : Nat) : Nat := (μ.1 27 m).toInt.toNat
def mpS (μ : kMem) (m : Nat) : Nat := (μ.1 26 m).toInt.toNat
noncomputable def mpd (μ : kMem) : kPd := ((μ.1 0 36).toInt.toNat, mln μ, fun m => (μ.1 29 m).toInt, fun m => (μ.1 28 m).toInt, fun m => (μ.1 30 m).toInt, fun m => mds μ (mpE μ m) (mpS μ m), fun m h => mfl μ (mpE μ m) (msn μ (mpE μ m) (mpS μ m) h))
def mPsOk (μ : kMem) : Prop := (0 ≤ (μ.1 0 36).toInt ∧ (μ.1 0 36).toInt ≤ 20) ∧ ∀ m : Nat, (m : Int) < (μ.1 0 36).toInt → (0 ≤ (μ.1 26 m).toInt ∧ (μ.1 26 m).toInt ≤ 5) ∧ (0 ≤ (μ.1 27 m).toInt ∧ (μ.1 27 m).toInt ≤ 5) ∧ (0 ≤ (μ.1 28 m).toInt ∧ (μ.1 28 m).toInt ≤ 200) ∧ (1 ≤ (μ.1 29 m).toInt ∧ (μ.1 29 m).toInt ≤ 60) ∧ (μ.1 26 m).toInt ≠ (μ.1 27 m).toInt ∧ mds μ (mpE μ m) (mpS μ m) < 6
theorem mpd_ok {μ : kMem} (h : mLnOk μ) (hp : mPsOk μ) : pOk (mpd μ) := by
  have hn := mLn_n h
  refine ⟨?_, hn.2, fun m hm => ?_⟩
  · show (μ.1 0 36).toInt.toNat ≤ 20
    have := hp.1
    omega
  · have hm : m < (μ.1 0 36).toInt.toNat := hm
    obtain ⟨a, b, c, e, f, g⟩ := hp.2 m (by omega)
    have hne : mpS μ m ≠ mpE μ m := by unfold mpS mpE; omega
    have hr := route_ok hne g
    exact ⟨e, c, hr.1, hr.2.1, hr.2.2⟩
/-- nothing but what a run writes has changed -/
def mPsame (μ μ' : kMem) : Prop := ∀ a b : Nat, ¬ (a = 0 ∧ b = 45) → (a < 31 ∨ 39 < a) → μ'.1 a b = μ.1 a b
theorem mPsame.rf {μ : kMem} : mPsame μ μ := fun _ _ _ _ => rfl
theorem mPsame.tr {μ μ' μ'' : kMem} (h : mPsame μ μ') (h2 : mPsame μ' μ'') : mPsame μ μ'' := fun a b n1 n2 => by rw [h2 a b n1 n2, h a b n1 n2]
theorem mPsame.sm {μ μ' : kMem} (h : mPsame μ μ') : mSm μ μ' := fun a b q => h a b (by unfold relM at q; omega) (by unfold relM at q; omega)
theorem mPsame_all {μ μ' : kMem} (h : mPsame μ μ') : mpd μ' = mpd μ ∧ (mPsOk μ → mPsOk μ') ∧ (mLnOk μ → mLnOk μ') ∧ mpE μ' = mpE μ ∧ mpS μ' = mpS μ ∧ mfL μ' = mfL μ := by
  have hl := mLsame_all (show mLsame μ μ' from fun a b q => h a b (by omega) (by omega))
  have far : ∀ a b : Nat, ¬ (a = 0 ∧ b = 45) ∧ (a < 31 ∨ 39 < a) → μ'.1 a b = μ.1 a b := fun a b q => h a b q.1 q.2
  have e1 : mpE μ' = mpE μ := by funext m; unfold mpE; simp (disch := omega) only [far]
  have e2 : mpS μ' = mpS μ := by funext m; unfold mpS; simp (disch := omega) only [far]
  refine ⟨?_, fun q => ?_, hl.2.2.2.1, e1, e2, ?_⟩
  · unfold mpd
    rw [e1, e2, hl.2.2.1, hl.2.2.2.2.1, hl.2.2.2.2.2.1, hl.2.2.2.2.2.2]
    simp (disch := omega) only [far]
    rfl
  · unfold mPsOk at q ⊢
    rw [e1, e2, hl.2.2.2.2.1]
    simp (disch := omega) only [far]
    exact q
  · funext a b; unfold mfL; rw [hl.2.2.2.2.1, hl.2.2.2.2.2.1]
/-- a message has come to a station in a minute -/
def mCt (μ : kMem) (m : Nat) (st t : Int) (μ' : kMem) : Prop := (∀ a b : Nat, a ≠ 31 → (a ≠ 32 ∧ a ≠ 33 ∧ a ≠ 35 ∧ a ≠ 39) ∨ b ≠ m → μ'.1 a b = μ.1 a b) ∧ (μ'.1 32 m).toInt = st ∧ (μ'.1 33 m).toInt = t ∧ (st = (μ.1 27 m).toInt → (μ'.1 35 m).toInt = t) ∧ (¬ st = (μ.1 27 m).toInt → μ'.1 35 m = μ.1 35 m ∧ (μ'.1 39 m).toInt = mfL μ (mpE μ m) st.toNat)
theorem mCt.ps {μ μ' : kMem} {m : Nat} {st t : Int} (h : mCt μ m st t μ') : mPsame μ μ' := fun a b n1 n2 => h.1 a b (by omega) (by omega)
theorem ok_X12_comesTo {x s t : Int32} {μ : kMem} (h : mLnOk μ ∧ (0 ≤ x.toInt ∧ x.toInt < 20) ∧ (0 ≤ s.toInt ∧ s.toInt < 6) ∧ 0 ≤ (μ.1 27 x.toInt.toNat).toInt ∧ (μ.1 27 x.toInt.toNat).toInt ≤ 5) : kOk yX12_comesTo cX12_comesTo 4 (none) rmX12_comesTo shM 48 [.ref 0, .int x, .int s, .int t] μ (kN (mCt μ x.toInt.toNat s.toInt t.toInt)) := by
  obtain ⟨h, hx, hs, hg⟩ := h
  refine kOk.of rfl (Nat.le_of_ble_eq_true rfl) (fun J C => ?_)
  have C : kR cX12_comesTo RX12 4 rmX12_comesTo shM 48 (none) _ J := C
  refine (r_aload_n C dX12_comesTo_0 rfl rfl (r_getR C dX12_comesTo_1 fd_X12_99 nM_0 sM_0 rfl (r_iload_n C dX12_comesTo_4 rfl rfl (r_iload_n C dX12_comesTo_5 rfl rfl (r_iast C dX12_comesTo_6 nM_32 sM_32 ?_ (r_aload_n C dX12_comesTo_7 rfl rfl (r_getR C dX12_comesTo_8 fd_X12_102 nM_0 sM_0 rfl (r_iload_n C dX12_comesTo_11 rfl rfl (r_iload_n C dX12_comesTo_12 rfl rfl (r_iast C dX12_comesTo_13 nM_33 sM_33 ?_ (r_iload_n C dX12_comesTo_14 rfl rfl (r_aload_n C dX12_comesTo_15 rfl rfl (r_getR C dX12_comesTo_16 fd_X12_84 nM_0 sM_0 rfl (r_iload_n C dX12_comesTo_19 rfl rfl (r_iald C dX12_comesTo_20 nM_27 sM_27 ?_ (r_icmp_ne C (tgt := 34) dX12_comesTo_21 rfl (fun c21 => (r_aload_n C dX12_comesTo_34 rfl rfl (r_getR C dX12_comesTo_35 fd_X12_120 nM_0 sM_0 rfl (r_iload_n C dX12_comesTo_38 rfl rfl (r_aload_n C dX12_comesTo_39 rfl rfl (r_iload_n C dX12_comesTo_40 rfl rfl (r_aload_n C dX12_comesTo_41 rfl rfl (r_getR C dX12_comesTo_42 fd_X12_84 nM_0 sM_0 rfl (r_iload_n C dX12_comesTo_45 rfl rfl (r_iald C dX12_comesTo_46 nM_27 sM_27 ?_ (r_v2I C yv_X12_firstLine lk_X12_352 dX12_comesTo_47 rfl nM_0 sM_0 rfl (Nat.le_of_ble_eq_true rfl) (ok_X12_firstLine ?_) (fun r47 μ47 h47 => (r_iast C dX12_comesTo_50 nM_39 sM_39 ?_ (r_ret C dX12_comesTo_51 ?_)))))))))))))) (fun c21 => (r_aload_n C dX12_comesTo_24 rfl rfl (r_getR C dX12_comesTo_25 fd_X12_108 nM_0 sM_0 rfl (r_iload_n C dX12_comesTo_28 rfl rfl (r_iload_n C dX12_comesTo_29 rfl rfl (r_iast C dX12_comesTo_30 nM_35 sM_35 ?_ (r_goto C (tgt := 51) dX12_comesTo_31 rfl (r_ret C dX12_comesTo_51 ?_))))))))))))))))))))))))
  · omega
  · omega
  · omega
  · omega
  · have far : ∀ a b : Nat, a < 32 → (up (up μ 32 x.toInt.toNat s) 33 x.toInt.toNat t).1 a b = μ.1 a b := fun a b q => by rw [up_neo _ _ (by omega), up_neo _ _ (by omega)]
    have hl := mLsame_all (show mLsame μ (up (up μ 32 x.toInt.toNat s) 33 x.toInt.toNat t) from fun a b q => far a b (by omega))
    refine ⟨hl.2.2.2.1 h, hs, ?_⟩
    simp (disch := decide) only [up_same, up_neo, up_nek, up_2]
    omega
  · omega
  · have far : ∀ a b : Nat, a < 32 → (up (up μ 32 x.toInt.toNat s) 33 x.toInt.toNat t).1 a b = μ.1 a b := fun a b q => by rw [up_neo _ _ (by omega), up_neo _ _ (by omega)]
    have hl := mLsame_all (show mLsame μ (up (up μ 32 x.toInt.toNat s) 33 x.toInt.toNat t) from fun a b q => far a b (by omega))
    obtain ⟨g1, g2⟩ := h47
    simp (disch := decide) only [up_same, up_neo, up_nek, up_2] at c21
    refine ⟨fun a b n1 n2 => ?_, ?_, ?_, fun q => absurd q c21, fun _ => ⟨?_, ?_⟩⟩
    · rw [up_ne _ _ (by omega), g2 a b n1, up_ne _ _ (by omega), up_ne _ _ (by omega)]
    · rw [up_neo _ _ (by decide), g2 32 _ (by decide)]
      simp (disch := decide) only [up_same, up_neo, up_nek, up_2]
    · rw [up_neo _ _ (by decide), g2 33 _ (by decide)]
      simp (disch := decide) only [up_same, up_neo, up_nek, up_2]
    · rw [up_neo _ _ (by decide), g2 35 _ (by decide)]
      simp (disch := decide) only [up_same, up_neo, up_nek, up_2]
    · rw [up_same, g1]
      have e : mfL (up (up μ 32 x.toInt.toNat s) 33 x.toInt.toNat t) = mfL μ := by funext a b; unfold mfL; rw [hl.2.2.2.2.1, hl.2.2.2.2.2.1]
      rw [e]
      simp (disch := decide) only [up_same, up_neo, up_nek, up_2]
      rfl
  · omega
  · simp (disch := decide) only [up_same, up_neo, up_nek, up_2] at c21
    refine ⟨fun a b n1 n2 => ?_, ?_, ?_, fun _ => ?_, fun q => absurd c21 q⟩
    · rw [up_ne _ _ (by omega), up_ne _ _ (by omega), up_ne _ _ (by omega)]
    · simp (disch := decide) only [up_same, up_neo, up_nek, up_2]
    · simp (disch := decide) only [up_same, up_neo, up_nek, up_2]
    · simp (disch := decide) only [up_same, up_neo, up_nek, up_2]
def mCa (μ : kMem) (l m : Nat) : Prop := (μ.1 32 m).toInt = (μ.1 16 l).toInt ∧ ¬ (μ.1 32 m).toInt = (μ.1 27 m).toInt ∧ (μ.1 39 m).toInt = (l : Int)
def mAh (μ : kMem) (m b : Nat) : Prop := (μ.1 30 b).toInt < (μ.1 30 m).toInt ∨ ((μ.1 30 m).toInt = (μ.1 30 b).toInt ∧ (μ.1 33 m).toInt < (μ.1 33 b).toInt)
theorem ok_X12_chosen {l t : Int32} {μ : kMem} (h : (0 ≤ (μ.1 0 36).toInt ∧ (μ.1 0 36).toInt ≤ 20) ∧ 0 ≤ l.toInt ∧ l.toInt < 8) : kOk yX12_chosen cX12_chosen 5 (some .int) rmX12_chosen shM 48 [.ref 0, .int l, .int t] μ (kP (optI (chF (mCa μ l.toInt.toNat) (mAh μ) (μ.1 0 36).toInt.toNat)) μ) := by
  obtain ⟨hm, hl1, hl2⟩ := h
  obtain ⟨k, hk⟩ : ∃ k : Nat, l.toInt = k := ⟨l.toInt.toNat, by omega⟩
  have ek : l.toInt.toNat = k := by omega
  have m1 : (Int32.ofInt (-1)).toInt = -1 := by decide
  obtain ⟨N, hN⟩ : ∃ N : Nat, N = (μ.1 0 36).toInt.toNat := ⟨_, rfl⟩
  rw [ek, ← hN]
  refine kOk.of rfl (Nat.le_of_ble_eq_true rfl) (fun J C => ?_)
  have C : kR cX12_chosen RX12 5 rmX12_chosen shM 48 (some .int) _ J := C
  have loop : ∀ (n i : Nat) (v r : Int32), i + n = N → v.toInt = i → r = optI (chF (mCa μ k) (mAh μ) i) → J 5 [some (.ref 0), some (.int l), some (.int t), some (.int r), some (.int v)] [] μ := by
    intro n
    induction n using Nat.strongRecOn with
    | ind n ih =>
      intro i v r hi hv hr2
      have evi : v.toInt.toNat = i := by omega
      have hb : ∀ b, chF (mCa μ k) (mAh μ) i = some b → b < i ∧ mCa μ k b := fun b q => chF_some _ _ q
      have e1 : chF (mCa μ k) (mAh μ) (i + 1) = @ite _ (mCa μ k i ∧ ∀ b, chF (mCa μ k) (mAh μ) i = some b → mAh μ i b) (Classical.propDecidable _) (some i) (chF (mCa μ k) (mAh μ) i) := rfl
      have hno := optI_none (o := chF (mCa μ k) (mAh μ) i) (fun b q => by have := hb b q; omega)
      have keep : i < N → ¬ (mCa μ k i ∧ ∀ b, chF (mCa μ k) (mAh μ) i = some b → mAh μ i b) → J 5 [some (.ref 0), some (.int l), some (.int t), some (.int r), some (.int (v + Int32.ofInt 1))] [] μ := by
        intro q1 q2
        exact ih (n - 1) (by omega) (i + 1) _ _ (by omega) (by simp (disch := (first | omega | (simp (disch := omega) only [ti_ofInt, ti_addc, ti_subc, ti_mulc, ti_cmul, ti_divc, ti_remc, ti_zero, ti_add, ti_sub, ti_neg, if_lt_ti, if_gt_ti, bP_e0, Classical.not_not, tl_i2l]; omega))) only [ti_ofInt, ti_addc, ti_subc, ti_mulc, ti_cmul, ti_divc, ti_remc, ti_zero, ti_add, ti_sub, ti_neg, if_lt_ti, if_gt_ti, bP_e0, Classical.not_not, tl_i2l]; omega) (by rw [e1, if_neg q2]; exact hr2)
      have take : i < N → (mCa μ k i ∧ ∀ b, chF (mCa μ k) (mAh μ) i = some b → mAh μ i b) → J 5 [some (.ref 0), some (.int l), some (.int t), some (.int v), some (.int (v + Int32.ofInt 1))] [] μ := by
        intro q1 q2
        refine ih (n - 1) (by omega) (i + 1) _ _ (by omega) (by simp (disch := (first | omega | (simp (disch := omega) only [ti_ofInt, ti_addc, ti_subc, ti_mulc, ti_cmul, ti_divc, ti_remc, ti_zero, ti_add, ti_sub, ti_neg, if_lt_ti, if_gt_ti, bP_e0, Classical.not_not, tl_i2l]; omega))) only [ti_ofInt, ti_addc, ti_subc, ti_mulc, ti_cmul, ti_divc, ti_remc, ti_zero, ti_add, ti_sub, ti_neg, if_lt_ti, if_gt_ti, bP_e0, Classical.not_not, tl_i2l]; omega) ?_
        rw [e1, if_pos q2]
        exact ti_ext (by rw [optI_some (by omega)]; exact hv)
      have hp2 : ∀ _ : Nat, i < N → ¬ r.toInt = -1 → ∃ b : Nat, r.toInt = b ∧ b < i ∧ chF (mCa μ k) (mAh μ) i = some b := by
        intro _ q1 q
        cases ho : chF (mCa μ k) (mAh μ) i with
        | none => rw [ho] at hr2; exact absurd (by rw [hr2]; rfl) q
        | some b =>
          have := hb b ho
          rw [ho] at hr2
          have e := optI_some (b := b) (by omega)
          rw [← hr2] at e
          exact ⟨b, e, this.1, rfl⟩
      by_cases hiN : i < N
      · have ca : (μ.1 32 v.toInt.toNat).toInt = (μ.1 16 l.toInt.toNat).toInt → ¬ (μ.1 32 v.toInt.toNat).toInt = (μ.1 27 v.toInt.toNat).toInt → (μ.1 39 v.toInt.toNat).toInt = l.toInt → mCa μ k i := fun a b c => by
          rw [evi, ek] at a
          rw [evi] at b c
          exact ⟨a, b, by omega⟩
        have all : ∀ b : Nat, r.toInt = (b : Int) → chF (mCa μ k) (mAh μ) i = some b → (mAh μ i b ↔ ((μ.1 30 r.toInt.toNat).toInt < (μ.1 30 v.toInt.toNat).toInt ∨ ((μ.1 30 v.toInt.toNat).toInt = (μ.1 30 r.toInt.toNat).toInt ∧ (μ.1 33 v.toInt.toNat).toInt < (μ.1 33 r.toInt.toNat).toInt))) := fun b e _ => by
          rw [evi, show r.toInt.toNat = b by omega]
          exact Iff.rfl
        have only : ∀ b, chF (mCa μ k) (mAh μ) i = some b → mAh μ i b → ∀ b', chF (mCa μ k) (mAh μ) i = some b' → mAh μ i b' := fun b e q b' e' => by
          rw [e] at e'
          injection e' with e'
          subst e'
          exact q
        refine (r_iload C dX12_chosen_5 rfl (r_aload_n C dX12_chosen_7 rfl rfl (r_getI C dX12_chosen_8 fd_X12_359 nM_0 sM_0 rfl (r_icmp_ge C (tgt := 123) dX12_chosen_11 rfl (fun c11 => (r_iload_n C dX12_chosen_123 rfl rfl (r_iret C dX12_chosen_124 ?_))) (fun c11 => (r_aload_n C dX12_chosen_14 rfl rfl (r_getR C dX12_chosen_15 fd_X12_99 nM_0 sM_0 rfl (r_iload C dX12_chosen_18 rfl (r_iald C dX12_chosen_20 nM_32 sM_32 ?_ (r_aload_n C dX12_chosen_21 rfl rfl (r_getR C dX12_chosen_22 fd_X12_51 nM_0 sM_0 rfl (r_iload_n C dX12_chosen_25 rfl rfl (r_iald C dX12_chosen_26 nM_16 sM_16 ?_ (r_icmp_ne C (tgt := 117) dX12_chosen_27 rfl (fun c27 => (r_iinc C dX12_chosen_117 rfl (by decide) (r_goto C (tgt := 5) dX12_chosen_120 rfl ?_))) (fun c27 => (r_aload_n C dX12_chosen_30 rfl rfl (r_getR C dX12_chosen_31 fd_X12_99 nM_0 sM_0 rfl (r_iload C dX12_chosen_34 rfl (r_iald C dX12_chosen_36 nM_32 sM_32 ?_ (r_aload_n C dX12_chosen_37 rfl rfl (r_getR C dX12_chosen_38 fd_X12_84 nM_0 sM_0 rfl (r_iload C dX12_chosen_41 rfl (r_iald C dX12_chosen_43 nM_27 sM_27 ?_ (r_icmp_eq C (tgt := 117) dX12_chosen_44 rfl (fun c44 => (r_iinc C dX12_chosen_117 rfl (by decide) (r_goto C (tgt := 5) dX12_chosen_120 rfl ?_))) (fun c44 => (r_aload_n C dX12_chosen_47 rfl rfl (r_getR C dX12_chosen_48 fd_X12_120 nM_0 sM_0 rfl (r_iload C dX12_chosen_51 rfl (r_iald C dX12_chosen_53 nM_39 sM_39 ?_ (r_iload_n C dX12_chosen_54 rfl rfl (r_icmp_eq C (tgt := 61) dX12_chosen_55 rfl (fun c55 => (r_iload_n C dX12_chosen_61 rfl rfl (r_iconst C dX12_chosen_62 (r_icmp_eq C (tgt := 114) dX12_chosen_63 rfl (fun c63 => (r_iload C dX12_chosen_114 rfl (r_istore_n C dX12_chosen_116 rfl (by decide) (r_iinc C dX12_chosen_117 rfl (by decide) (r_goto C (tgt := 5) dX12_chosen_120 rfl ?_))))) (fun c63 => (r_aload_n C dX12_chosen_66 rfl rfl (r_getR C dX12_chosen_67 fd_X12_93 nM_0 sM_0 rfl (r_iload C dX12_chosen_70 rfl (r_iald C dX12_chosen_72 nM_30 sM_30 ?_ (r_aload_n C dX12_chosen_73 rfl rfl (r_getR C dX12_chosen_74 fd_X12_93 nM_0 sM_0 rfl (r_iload_n C dX12_chosen_77 rfl rfl (r_iald C dX12_chosen_78 nM_30 sM_30 ?_ (r_icmp_gt C (tgt := 114) dX12_chosen_79 rfl (fun c79 => (r_iload C dX12_chosen_114 rfl (r_istore_n C dX12_chosen_116 rfl (by decide) (r_iinc C dX12_chosen_117 rfl (by decide) (r_goto C (tgt := 5) dX12_chosen_120 rfl ?_))))) (fun c79 => (r_aload_n C dX12_chosen_82 rfl rfl (r_getR C dX12_chosen_83 fd_X12_93 nM_0 sM_0 rfl (r_iload C dX12_chosen_86 rfl (r_iald C dX12_chosen_88 nM_30 sM_30 ?_ (r_aload_n C dX12_chosen_89 rfl rfl (r_getR C dX12_chosen_90 fd_X12_93 nM_0 sM_0 rfl (r_iload_n C dX12_chosen_93 rfl rfl (r_iald C dX12_chosen_94 nM_30 sM_30 ?_ (r_icmp_ne C (tgt := 117) dX12_chosen_95 rfl (fun c95 => (r_iinc C dX12_chosen_117 rfl (by decide) (r_goto C (tgt := 5) dX12_chosen_120 rfl ?_))) (fun c95 => (r_aload_n C dX12_chosen_98 rfl rfl (r_getR C dX12_chosen_99 fd_X12_102 nM_0 sM_0 rfl (r_iload C dX12_chosen_102 rfl (r_iald C dX12_chosen_104 nM_33 sM_33 ?_ (r_aload_n C dX12_chosen_105 rfl rfl (r_getR C dX12_chosen_106 fd_X12_102 nM_0 sM_0 rfl (r_iload_n C dX12_chosen_109 rfl rfl (r_iald C dX12_chosen_110 nM_33 sM_33 ?_ (r_icmp_ge C (tgt := 117) dX12_chosen_111 rfl (fun c111 => (r_iinc C dX12_chosen_117 rfl (by decide) (r_goto C (tgt := 5) dX12_chosen_120 rfl ?_))) (fun c111 => (r_iload C dX12_chosen_114 rfl (r_istore_n C dX12_chosen_116 rfl (by decide) (r_iinc C dX12_chosen_117 rfl (by decide) (r_goto C (tgt := 5) dX12_chosen_120 rfl ?_))))))))))))))))))))))))))))))))))))))) (fun c55 => (r_goto C (tgt := 117) dX12_chosen_58 rfl (r_iinc C dX12_chosen_117 rfl (by decide) (r_goto C (tgt := 5) dX12_chosen_120 rfl ?_)))))))))))))))))))))))))))))))))))
        · omega
        · omega
        · omega
        · rw [evi, ek] at c27
          exact keep hiN (fun z => c27 z.1.1)
        · omega
        · omega
        · rw [evi] at c44
          exact keep hiN (fun z => z.1.2.1 c44)
        · omega
        · have hc := ca c27 c44 c55
          rw [m1] at c63
          refine take hiN ⟨hc, fun b q => ?_⟩
          rw [hr2] at c63
          rw [hno.mp c63] at q
          exact absurd q (by simp)
        · omega
        · rw [m1] at c63
          obtain ⟨b, b1, b2, b3⟩ := hp2 0 hiN c63
          omega
        · have hc := ca c27 c44 c55
          rw [m1] at c63
          obtain ⟨b, b1, b2, b3⟩ := hp2 0 hiN c63
          exact take hiN ⟨hc, only b b3 ((all b b1 b3).mpr (Or.inl c79))⟩
        · omega
        · rw [m1] at c63
          obtain ⟨b, b1, b2, b3⟩ := hp2 0 hiN c63
          omega
        · rw [m1] at c63
          obtain ⟨b, b1, b2, b3⟩ := hp2 0 hiN c63
          refine keep hiN (fun z => ?_)
          have q := (all b b1 b3).mp (z.2 b b3)
          omega
        · omega
        · rw [m1] at c63
          obtain ⟨b, b1, b2, b3⟩ := hp2 0 hiN c63
          omega
        · rw [m1] at c63
          obtain ⟨b, b1, b2, b3⟩ := hp2 0 hiN c63
          refine keep hiN (fun z => ?_)
          have q := (all b b1 b3).mp (z.2 b b3)
          omega
        · have hc := ca c27 c44 c55
          rw [m1] at c63
          obtain ⟨b, b1, b2, b3⟩ := hp2 0 hiN c63
          exact take hiN ⟨hc, only b b3 ((all b b1 b3).mpr (Or.inr ⟨c95, c111⟩))⟩
        · rw [evi] at c55
          exact keep hiN (fun z => c55 (by rw [z.1.2.2, hk]))
      · have e : i = N := by omega
        subst e
        refine (r_iload C dX12_chosen_5 rfl (r_aload_n C dX12_chosen_7 rfl rfl (r_getI C dX12_chosen_8 fd_X12_359 nM_0 sM_0 rfl (r_icmp_ge C (tgt := 123) dX12_chosen_11 rfl (fun c11 => (r_iload_n C dX12_chosen_123 rfl rfl (r_iret C dX12_chosen_124 ?_))) (fun c11 => (r_aload_n C dX12_chosen_14 rfl rfl (r_getR C dX12_chosen_15 fd_X12_99 nM_0 sM_0 rfl (r_iload C dX12_chosen_18 rfl (r_iald C dX12_chosen_20 nM_32 sM_32 ?_ (r_aload_n C dX12_chosen_21 rfl rfl (r_getR C dX12_chosen_22 fd_X12_51 nM_0 sM_0 rfl (r_iload_n C dX12_chosen_25 rfl rfl (r_iald C dX12_chosen_26 nM_16 sM_16 ?_ (r_icmp_ne C (tgt := 117) dX12_chosen_27 rfl (fun c27 => (r_iinc C dX12_chosen_117 rfl (by decide) (r_goto C (tgt := 5) dX12_chosen_120 rfl ?_))) (fun c27 => (r_aload_n C dX12_chosen_30 rfl rfl (r_getR C dX12_chosen_31 fd_X12_99 nM_0 sM_0 rfl (r_iload C dX12_chosen_34 rfl (r_iald C dX12_chosen_36 nM_32 sM_32 ?_ (r_aload_n C dX12_chosen_37 rfl rfl (r_getR C dX12_chosen_38 fd_X12_84 nM_0 sM_0 rfl (r_iload C dX12_chosen_41 rfl (r_iald C dX12_chosen_43 nM_27 sM_27 ?_ (r_icmp_eq C (tgt := 117) dX12_chosen_44 rfl (fun c44 => (r_iinc C dX12_chosen_117 rfl (by decide) (r_goto C (tgt := 5) dX12_chosen_120 rfl ?_))) (fun c44 => (r_aload_n C dX12_chosen_47 rfl rfl (r_getR C dX12_chosen_48 fd_X12_120 nM_0 sM_0 rfl (r_iload C dX12_chosen_51 rfl (r_iald C dX12_chosen_53 nM_39 sM_39 ?_ (r_iload_n C dX12_chosen_54 rfl rfl (r_icmp_eq C (tgt := 61) dX12_chosen_55 rfl (fun c55 => (r_iload_n C dX12_chosen_61 rfl rfl (r_iconst C dX12_chosen_62 (r_icmp_eq C (tgt := 114) dX12_chosen_63 rfl (fun c63 => (r_iload C dX12_chosen_114 rfl (r_istore_n C dX12_chosen_116 rfl (by decide) (r_iinc C dX12_chosen_117 rfl (by decide) (r_goto C (tgt := 5) dX12_chosen_120 rfl ?_))))) (fun c63 => (r_aload_n C dX12_chosen_66 rfl rfl (r_getR C dX12_chosen_67 fd_X12_93 nM_0 sM_0 rfl (r_iload C dX12_chosen_70 rfl (r_iald C dX12_chosen_72 nM_30 sM_30 ?_ (r_aload_n C dX12_chosen_73 rfl rfl (r_getR C dX12_chosen_74 fd_X12_93 nM_0 sM_0 rfl (r_iload_n C dX12_chosen_77 rfl rfl (r_iald C dX12_chosen_78 nM_30 sM_30 ?_ (r_icmp_gt C (tgt := 114) dX12_chosen_79 rfl (fun c79 => (r_iload C dX12_chosen_114 rfl (r_istore_n C dX12_chosen_116 rfl (by decide) (r_iinc C dX12_chosen_117 rfl (by decide) (r_goto C (tgt := 5) dX12_chosen_120 rfl ?_))))) (fun c79 => (r_aload_n C dX12_chosen_82 rfl rfl (r_getR C dX12_chosen_83 fd_X12_93 nM_0 sM_0 rfl (r_iload C dX12_chosen_86 rfl (r_iald C dX12_chosen_88 nM_30 sM_30 ?_ (r_aload_n C dX12_chosen_89 rfl rfl (r_getR C dX12_chosen_90 fd_X12_93 nM_0 sM_0 rfl (r_iload_n C dX12_chosen_93 rfl rfl (r_iald C dX12_chosen_94 nM_30 sM_30 ?_ (r_icmp_ne C (tgt := 117) dX12_chosen_95 rfl (fun c95 => (r_iinc C dX12_chosen_117 rfl (by decide) (r_goto C (tgt := 5) dX12_chosen_120 rfl ?_))) (fun c95 => (r_aload_n C dX12_chosen_98 rfl rfl (r_getR C dX12_chosen_99 fd_X12_102 nM_0 sM_0 rfl (r_iload C dX12_chosen_102 rfl (r_iald C dX12_chosen_104 nM_33 sM_33 ?_ (r_aload_n C dX12_chosen_105 rfl rfl (r_getR C dX12_chosen_106 fd_X12_102 nM_0 sM_0 rfl (r_iload_n C dX12_chosen_109 rfl rfl (r_iald C dX12_chosen_110 nM_33 sM_33 ?_ (r_icmp_ge C (tgt := 117) dX12_chosen_111 rfl (fun c111 => (r_iinc C dX12_chosen_117 rfl (by decide) (r_goto C (tgt := 5) dX12_chosen_120 rfl ?_))) (fun c111 => (r_iload C dX12_chosen_114 rfl (r_istore_n C dX12_chosen_116 rfl (by decide) (r_iinc C dX12_chosen_117 rfl (by decide) (r_goto C (tgt := 5) dX12_chosen_120 rfl ?_))))))))))))))))))))))))))))))))))))))) (fun c55 => (r_goto C (tgt := 117) dX12_chosen_58 rfl (r_iinc C dX12_chosen_117 rfl (by decide) (r_goto C (tgt := 5) dX12_chosen_120 rfl ?_)))))))))))))))))))))))))))))))))))
        · exact ⟨hr2, rfl⟩
        all_goals (exfalso; omega)
  refine (r_iconst C dX12_chosen_0 (r_istore_n C dX12_chosen_1 rfl (by decide) (r_iconst C dX12_chosen_2 (r_istore C dX12_chosen_3 (by decide) ?_))))
  exact loop N 0 _ _ (by omega) (by simp (disch := (first | omega | (simp (disch := omega) only [ti_ofInt, ti_addc, ti_subc, ti_mulc, ti_cmul, ti_divc, ti_remc, ti_zero, ti_add, ti_sub, ti_neg, if_lt_ti, if_gt_ti, bP_e0, Classical.not_not, tl_i2l]; omega))) only [ti_ofInt, ti_addc, ti_subc, ti_mulc, ti_cmul, ti_divc, ti_remc, ti_zero, ti_add, ti_sub, ti_neg, if_lt_ti, if_gt_ti, bP_e0, Classical.not_not, tl_i2l]; rfl) rfl

