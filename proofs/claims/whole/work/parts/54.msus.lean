/-! ===== the model: suspects ===== -/
theorem letK_b {kd : Nat → Int} : ∀ j, (∀ i, i < j → 0 ≤ kd i ∧ kd i ≤ 1) → ∀ k, k ∈ letK kd j → 0 ≤ k ∧ k < 5 := by
  intro j
  induction j with
  | zero => intro _ k hk; cases hk
  | succ j ih =>
    intro h k hk
    have hj := h j (by omega)
    unfold letK at hk
    rcases List.mem_append.mp hk with hk | hk
    · exact ih (fun i hi => h i (by omega)) k hk
    · by_cases e : j = 0
      · rw [if_pos e] at hk
        rcases List.mem_cons.mp hk with hk | hk
        · omega
        · cases hk
      · rw [if_neg e] at hk
        rcases List.mem_cons.mp hk with hk | hk
        · omega
        · rcases List.mem_cons.mp hk with hk | hk
          · omega
          · cases hk
/-- the kinds are kinds -/
theorem spK_b {t : Nat → Int} {sz : Int → Nat} {kd : Int → Nat → Int} (hk : ∀ l : Int, 0 ≤ l → l < 26 → ∀ i, i < sz l → 0 ≤ kd l i ∧ kd l i ≤ 1) : ∀ (n : Nat) (ks : List Int), (∀ i, i < n → isLt (t i) ∨ t i = 32) → spK t sz kd n = some ks → ∀ k, k ∈ ks → 0 ≤ k ∧ k < 5 := by
  intro n
  induction n with
  | zero => intro ks _ h k q; cases h; cases q
  | succ n ih =>
    intro ks ht h k q
    unfold spK at h
    cases e : spK t sz kd n with
    | none => rw [e] at h; cases h
    | some k1 =>
      rw [e] at h
      dsimp only at h
      have h1 := ih k1 (fun i hi => ht i (by omega)) e
      by_cases c : t n = 32
      · rw [if_pos c] at h
        cases h
        exact h1 k q
      · rw [if_neg c] at h
        by_cases c2 : sz (t n - 97) = 0
        · rw [if_pos c2] at h; cases h
        · rw [if_neg c2] at h
          cases h
          have hl : 97 ≤ t n ∧ t n ≤ 122 := (ht n (by omega)).elim id (fun z => absurd z c)
          rcases List.mem_append.mp q with q | q
          · exact h1 k q
          · rcases List.mem_append.mp q with q | q
            · by_cases e0 : n = 0
              · rw [if_pos e0] at q; cases q
              · rw [if_neg e0] at q
                rcases List.mem_cons.mp q with q | q
                · rw [q]; split <;> omega
                · cases q
            · exact letK_b _ (hk _ (by omega) (by omega)) k q
theorem mSpl_b {μ : kMem} (hC : mCdOk μ) (hS : isSay (mn μ) (mt μ)) {ks : List Int} (h : mSpl μ = some ks) : ∀ k, k ∈ ks → 0 ≤ k ∧ k < 5 := by
  refine spK_b (fun l h1 h2 i hi => ?_) _ ks (fun i hi => (hS.2 i hi).imp id (fun q => q.1)) h
  unfold msz pSz mmk at hi
  rw [if_pos ⟨h1, h2⟩] at hi
  unfold mkd mmk
  rw [if_pos ⟨h1, h2⟩]
  exact pKd_b (hC _ (by omega)) hi
/-- the kinds are these -/
def mK2 (ks : List Int) (μ : kMem) : Prop := (μ.1 0 28).toInt = ks.length ∧ ∀ j (hj : j < ks.length), j ≤ 120 → (μ.1 24 j).toInt = ks[j]
/-- nothing has changed but what the sayings write -/
def mSy (μ μ' : kMem) : Prop := ∀ a b : Nat, ¬ (a = 0 ∧ (b = 22 ∨ b = 23 ∨ b = 28)) → a ≠ 24 → a ≠ 25 → μ'.1 a b = μ.1 a b
theorem mSy.rf {μ : kMem} : mSy μ μ := fun _ _ _ _ _ => rfl
theorem mSy.tr {μ μ' μ'' : kMem} (h : mSy μ μ') (h2 : mSy μ' μ'') : mSy μ μ'' := fun a b n1 n2 n3 => by rw [h2 a b n1 n2 n3, h a b n1 n2 n3]
theorem mSy.sm {μ μ' : kMem} (h : mSy μ μ') : mSm μ μ' := fun a b q => h a b (by unfold relM at q; omega) (by unfold relM at q; omega) (by unfold relM at q; omega)
theorem mKs.sy {μ μ' : kMem} {ks : List Int} (h : mKs μ ks μ') : mSy μ μ' := fun a b n1 n2 _ => h.2.2 a b (by omega) n2
theorem mKs.k2 {μ μ' : kMem} {ks : List Int} (h : mKs μ ks μ') : mK2 ks μ' := ⟨h.1, h.2.1⟩
theorem mSy_all {μ μ' : kMem} (h : mSy μ μ') : mcs μ' = mcs μ ∧ mtn μ' = mtn μ ∧ (mRI μ → mRI μ') ∧ (mle μ' = mle μ ∧ mge μ' = mge μ ∧ mbi μ' = mbi μ) ∧ (mcan μ' = mcan μ) ∧ (mt μ' = mt μ ∧ mn μ' = mn μ ∧ (mTxOk μ → mTxOk μ')) ∧ (mSpl μ' = mSpl μ) ∧ (mCanS μ' = mCanS μ) := by
  have far : ∀ a b : Nat, ¬ (a = 0 ∧ (b = 22 ∨ b = 23 ∨ b = 28)) ∧ a ≠ 24 ∧ a ≠ 25 → μ'.1 a b = μ.1 a b := fun a b q => h a b q.1 q.2.1 q.2.2
  have e1 : mle μ' = mle μ := by funext x k; unfold mle; simp (disch := omega) only [far]
  have e2 : mge μ' = mge μ := by funext x k; unfold mge; simp (disch := omega) only [far]
  have e3 : mtn μ' = mtn μ := by unfold mtn; simp (disch := omega) only [far]
  have e4 : mmk μ' = mmk μ := by funext l; unfold mmk; simp (disch := omega) only [far]
  have e5 : mbi μ' = mbi μ := by funext x; unfold mbi; simp (disch := omega) only [far]
  have e6 : mt μ' = mt μ := by funext x; unfold mt; simp (disch := omega) only [far]
  have e7 : mn μ' = mn μ := by unfold mn; simp (disch := omega) only [far]
  have e8 : msz μ' = msz μ := by funext l; unfold msz; rw [e4]
  have e9 : mkd μ' = mkd μ := by funext l; unfold mkd; rw [e4]
  refine ⟨?_, e3, ?_, ⟨e1, e2, e5⟩, ?_, ⟨e6, e7, ?_⟩, ?_, ?_⟩
  · funext x y; unfold mcs; rw [e1, e2, e3, e5]; simp (disch := omega) only [far]
  · intro q
    unfold mRI mTpOk mHdOk mLnOk mCdOk at q ⊢
    simp (disch := omega) only [far]
    exact q
  · funext x y; unfold mcan; simp (disch := omega) only [far]
  · intro q
    unfold mTxOk at q ⊢
    simp (disch := omega) only [far]
    exact q
  · unfold mSpl; rw [e6, e7, e8, e9]
  · unfold mCanS; rw [e6, e7]; simp (disch := omega) only [far]
def mSay2 (μ : kMem) (ks : List Int) (x y : Int) : Prop := mcan μ x y ∧ ks.length = mtn μ ∧ ∀ p (hp : p < ks.length), ¬ mcs μ x y p ks[p] = -1
theorem ok_X12_saysBy {x y : Int32} {ks : List Int} {μ : kMem} (h : mRI μ ∧ mK2 ks μ ∧ ∀ k, k ∈ ks → 0 ≤ k ∧ k < 5) : kOk yX12_saysBy cX12_saysBy 4 (some .boolean) rmX12_saysBy shM 48 [.ref 0, .int x, .int y] μ (kI fun r μ' => r = bP (mSay2 μ ks x.toInt y.toInt) ∧ mSy μ μ' ∧ mK2 ks μ') := by
  obtain ⟨h, hK, hk5⟩ := h
  have z0 : (Int32.ofInt 0).toInt = 0 := by decide
  have htp := h.1.1
  refine kOk.of rfl (Nat.le_of_ble_eq_true rfl) (fun J C => ?_)
  have C : kR cX12_saysBy RX12 4 rmX12_saysBy shM 48 (some .boolean) _ J := C
  have loop : ∀ (μ1 : kMem), mRd μ1 → mrs μ1 = mcs μ x.toInt y.toInt → mcan μ x.toInt y.toInt → mSy μ μ1 → mK2 ks μ1 → ks.length = mtn μ → ∀ (n i : Nat) (v : Int32), i + n = ks.length → v.toInt = i → (∀ p (hp : p < ks.length), p < i → ¬ mcs μ x.toInt y.toInt p ks[p] = -1) → J 24 [some (.ref 0), some (.int x), some (.int y), some (.int v)] [] μ1 := by
    intro μ1 hR eR hc hS hK1 hl n
    have hnr := mRd_n hR
    have e21 : μ1.1 0 21 = μ.1 0 21 := hS 0 21 (by omega) (by decide) (by decide)
    have eln : (ks.length : Int) = (μ.1 0 21).toInt := by rw [hl]; unfold mtn; omega
    induction n using Nat.strongRecOn with
    | ind n ih =>
      intro i v hin hv hI
      have ev : v.toInt.toNat = i := by omega
      have hkd : ∀ q : i < ks.length, (μ1.1 24 v.toInt.toNat).toInt = ks[i] ∧ 0 ≤ ks[i] ∧ ks[i] < 5 := fun q => by
        rw [ev]
        exact ⟨hK1.2 i q (by omega), hk5 _ (List.getElem_mem q)⟩
      refine (r_iload_n C dX12_saysBy_24 rfl rfl (r_aload_n C dX12_saysBy_25 rfl rfl (r_getI C dX12_saysBy_26 fd_X12_260 nM_0 sM_0 rfl (r_icmp_ge C (tgt := 54) dX12_saysBy_29 rfl (fun c29 => (r_iconst C dX12_saysBy_54 (r_zret C dX12_saysBy_55 rfl ?_))) (fun c29 => (r_aload_n C dX12_saysBy_32 rfl rfl (r_iload_n C dX12_saysBy_33 rfl rfl (r_aload_n C dX12_saysBy_34 rfl rfl (r_getR C dX12_saysBy_35 fd_X12_75 nM_0 sM_0 rfl (r_iload_n C dX12_saysBy_38 rfl rfl (r_iald C dX12_saysBy_39 nM_24 sM_24 ?_ (r_v2P C yv_X12_isOf lk_X12_284 dX12_saysBy_40 rfl nM_0 sM_0 rfl (Nat.le_of_ble_eq_true rfl) (ok_X12_isOf ?_) (r_if_ne C (tgt := 48) dX12_saysBy_43 rfl (fun c43 => (r_iinc C dX12_saysBy_48 rfl (by decide) (r_goto C (tgt := 24) dX12_saysBy_51 rfl ?_))) (fun c43 => (r_iconst C dX12_saysBy_46 (r_zret C dX12_saysBy_47 rfl ?_))))))))))))))))
      · rw [e21] at c29
        exact ⟨bP_1 ⟨hc, hl, fun p hp => hI p hp (by omega)⟩, hS, hK1⟩
      · rw [e21] at c29; omega
      · rw [e21] at c29
        have q := hkd (by omega)
        rw [e21]
        exact ⟨hR, ⟨by omega, by omega⟩, by omega, by omega⟩
      · rw [e21] at c29
        have hi : i < ks.length := by omega
        have c := bP_ne c43
        rw [(hkd hi).1, ev, eR] at c
        refine ih (n - 1) (by omega) (i + 1) _ (by omega) (by simp (disch := (first | omega | (simp (disch := omega) only [ti_ofInt, ti_addc, ti_subc, ti_mulc, ti_cmul, ti_divc, ti_remc, ti_zero, ti_add, ti_sub, ti_neg, if_lt_ti, if_gt_ti, bP_e0, Classical.not_not, tl_i2l]; omega))) only [ti_ofInt, ti_addc, ti_subc, ti_mulc, ti_cmul, ti_divc, ti_remc, ti_zero, ti_add, ti_sub, ti_neg, if_lt_ti, if_gt_ti, bP_e0, Classical.not_not, tl_i2l]; omega) (fun p hp q => ?_)
        by_cases e : p = i
        · subst e; exact c
        · exact hI p hp (by omega)
      · rw [e21] at c29
        have hi : i < ks.length := by omega
        have c := bP_e0.mp c43
        rw [(hkd hi).1, ev, eR] at c
        exact ⟨bP_0 (fun z => c (z.2.2 i hi)), hS, hK1⟩
  refine (r_aload_n C dX12_saysBy_0 rfl rfl (r_iload_n C dX12_saysBy_1 rfl rfl (r_iload_n C dX12_saysBy_2 rfl rfl (r_v2I C yv_X12_takes lk_X12_294 dX12_saysBy_3 rfl nM_0 sM_0 rfl (Nat.le_of_ble_eq_true rfl) (ok_X12_takes ?_) (fun r3 μ3 h3 => (r_if_eq C (tgt := 20) dX12_saysBy_6 rfl (fun c6 => (r_iconst C dX12_saysBy_20 (r_zret C dX12_saysBy_21 rfl ?_))) (fun c6 => (r_aload_n C dX12_saysBy_9 rfl rfl (r_getI C dX12_saysBy_10 fd_X12_311 nM_0 sM_0 rfl (r_aload_n C dX12_saysBy_13 rfl rfl (r_getI C dX12_saysBy_14 fd_X12_260 nM_0 sM_0 rfl (r_icmp_eq C (tgt := 22) dX12_saysBy_17 rfl (fun c17 => (r_iconst C dX12_saysBy_22 (r_istore_n C dX12_saysBy_23 rfl (by decide) ?_))) (fun c17 => (r_iconst C dX12_saysBy_20 (r_zret C dX12_saysBy_21 rfl ?_)))))))))))))))
  · exact h
  · rcases h3 with ⟨q, -, e⟩ | ⟨-, q, -⟩
    · exact ⟨bP_0 (fun z => q z.1), by rw [e]; exact mSy.rf, by rw [e]; exact hK⟩
    · rw [q] at c6
      exact absurd c6 (by decide)
  · rcases h3 with ⟨-, q, -⟩ | ⟨hc, -, e⟩
    · rw [q] at c6
      exact absurd z0 c6
    · have t := mTk_all h hc e
      have far := t.2.2.2.2.2.2
      have e28 := far 0 28 (by omega)
      have e21 := far 0 21 (by omega)
      rw [e28, e21, hK.1] at c17
      refine loop μ3 t.1 t.2.1 hc (fun a b n1 n2 n3 => far a b (by omega)) ⟨by rw [e28]; exact hK.1, fun j hj hj2 => by rw [far 24 j (by omega)]; exact hK.2 j hj hj2⟩ (by unfold mtn; omega) ks.length 0 _ (by omega) (by simp (disch := (first | omega | (simp (disch := omega) only [ti_ofInt, ti_addc, ti_subc, ti_mulc, ti_cmul, ti_divc, ti_remc, ti_zero, ti_add, ti_sub, ti_neg, if_lt_ti, if_gt_ti, bP_e0, Classical.not_not, tl_i2l]; omega))) only [ti_ofInt, ti_addc, ti_subc, ti_mulc, ti_cmul, ti_divc, ti_remc, ti_zero, ti_add, ti_sub, ti_neg, if_lt_ti, if_gt_ti, bP_e0, Classical.not_not, tl_i2l]; rfl) (fun p hp q => absurd q (Nat.not_lt_zero _))
  · rcases h3 with ⟨-, q, -⟩ | ⟨hc, -, e⟩
    · rw [q] at c6
      exact absurd z0 c6
    · have t := mTk_all h hc e
      have far := t.2.2.2.2.2.2
      have e28 := far 0 28 (by omega)
      have e21 := far 0 21 (by omega)
      rw [e28, e21, hK.1] at c17
      exact ⟨bP_0 (fun z => c17 (by rw [z.2.1]; unfold mtn; omega)), fun a b n1 n2 n3 => far a b (by omega), by rw [e28]; exact hK.1, fun j hj hj2 => by rw [far 24 j (by omega)]; exact hK.2 j hj hj2⟩
def mNh (μ : kMem) : Nat := (μ.1 0 18).toInt.toNat
def mln (μ : kMem) : Nat := (μ.1 0 19).toInt.toNat
def msus (μ : kMem) : Nat → Prop := susP (fun h l => mcs μ h l) (mln μ) (mtn μ) (mSpl μ)
theorem ok_X12_suspects {k : Int32} {μ : kMem} (h : mRI μ ∧ mTxOk μ) : kOk yX12_suspects cX12_suspects 6 (some .int) rmX12_suspects shM 48 [.ref 0, .int k] μ (kI fun r μ' => (¬ mCanS μ ∧ r = Int32.ofInt (-1) ∧ μ' = μ) ∨ (mCanS μ ∧ mSm μ μ' ∧ r.toInt = susF (msus μ) coup k.toInt (mNh μ * 8) 0 0)) := by
  obtain ⟨h, hT⟩ := h
  have z0 : (Int32.ofInt 0).toInt = 0 := by decide
  have m1 : (Int32.ofInt (-1)).toInt = -1 := by decide
  have htp := h.1.1
  have hh := h.2.1.1
  have hl := h.2.2.1.1
  have enh : (mNh μ : Int) = (μ.1 0 18).toInt := by unfold mNh; omega
  have enl : (mln μ : Int) = (μ.1 0 19).toInt := by unfold mln; omega
  obtain ⟨T, hTT⟩ : ∃ T, T = susF (msus μ) coup k.toInt (mNh μ * 8) 0 0 := ⟨_, rfl⟩
  refine kOk.of rfl (Nat.le_of_ble_eq_true rfl) (fun J C => ?_)
  have C : kR cX12_suspects RX12 6 rmX12_suspects shM 48 (some .int) _ J := C
  have loop : ∀ (w : Int32), (w.toInt = 0 → mSpl μ = none) → (¬ w.toInt = 0 → ∃ ks, mSpl μ = some ks) → mCanS μ → ∀ (n i : Nat) (v f : Int32) (z : Option Value) (g : Nat) (μ' : kMem), i + n = mNh μ → v.toInt = i → f.toInt = g → g ≤ i * 8 → mSy μ μ' → (∀ ks, mSpl μ = some ks → mK2 ks μ') → T = susF (msus μ) coup k.toInt (n * 8) (i * 8) g → J 19 [some (.ref 0), some (.int k), some (.int w), some (.int f), some (.int v), z] [] μ' := by
    intro w w1 w2 hC n
    induction n using Nat.strongRecOn with
    | ind n ih =>
      intro i v f z g μ' hi hv hf hg hS hK hR
      have e18 : μ'.1 0 18 = μ.1 0 18 := hS 0 18 (by omega) (by decide) (by decide)
      have inner : ∀ (m j : Nat) (u f : Int32) (g : Nat) (μ' : kMem), i < mNh μ → j + m = mln μ → u.toInt = j → f.toInt = g → g ≤ i * 8 + j → mSy μ μ' → (∀ ks, mSpl μ = some ks → mK2 ks μ') → T = susF (msus μ) coup k.toInt (n * 8 - j) (i * 8 + j) g → J 31 [some (.ref 0), some (.int k), some (.int w), some (.int f), some (.int v), some (.int u)] [] μ' := by
        intro m
        induction m using Nat.strongRecOn with
        | ind m ihm =>
          intro j u f g μ' hin hj hu hf hg hS hK hR
          have e19 : μ'.1 0 19 = μ.1 0 19 := hS 0 19 (by omega) (by decide) (by decide)
          obtain ⟨a1, a2, a3, a4, a5, a6, a7, a8⟩ := mSy_all hS
          have skip : j < mln μ → ¬ msus μ (i * 8 + j) → ∀ (μ2 : kMem), mSy μ μ2 → (∀ ks, mSpl μ = some ks → mK2 ks μ2) → J 31 [some (.ref 0), some (.int k), some (.int w), some (.int f), some (.int v), some (.int (u + Int32.ofInt 1))] [] μ2 := fun hjl hno μ2 q1 q2 => by
            refine ihm (m - 1) (by omega) (j + 1) _ _ g μ2 hin (by omega) (by simp (disch := (first | omega | (simp (disch := omega) only [ti_ofInt, ti_addc, ti_subc, ti_mulc, ti_cmul, ti_divc, ti_remc, ti_zero, ti_add, ti_sub, ti_neg, if_lt_ti, if_gt_ti, bP_e0, Classical.not_not, tl_i2l]; omega))) only [ti_ofInt, ti_addc, ti_subc, ti_mulc, ti_cmul, ti_divc, ti_remc, ti_zero, ti_add, ti_sub, ti_neg, if_lt_ti, if_gt_ti, bP_e0, Classical.not_not, tl_i2l]; omega) hf (by omega) q1 q2 ?_
            rw [hR, show n * 8 - j = n * 8 - (j + 1) + 1 by omega, susF_f hno]
            rfl
          have hq : j < mln μ → ∀ ks, mSpl μ = some ks → (mSay2 μ' ks v.toInt u.toInt ↔ msus μ (i * 8 + j)) := by
            intro c ks e
            unfold mSay2 msus susP saysP
            rw [a1, a2, a5, hv, hu, show (i * 8 + j) / 8 = i by omega, show (i * 8 + j) % 8 = j by omega, e]
            refine ⟨fun q => ⟨c, ks, rfl, q.2.1, q.2.2⟩, fun q => ⟨⟨⟨by omega, by omega⟩, ⟨by omega, by omega⟩, hC.1⟩, ?_⟩⟩
            obtain ⟨-, ks', e', q1, q2⟩ := q
            injection e' with e'
            subst e'
            exact ⟨q1, q2⟩
          by_cases hw : w.toInt = 0
          · have hno : ¬ msus μ (i * 8 + j) := fun q => by
              obtain ⟨-, ks', e', -, -⟩ := q
              rw [w1 hw] at e'
              cases e'
            refine (r_iload C dX12_suspects_31 rfl (r_aload_n C dX12_suspects_33 rfl rfl (r_getI C dX12_suspects_34 fd_X12_243 nM_0 sM_0 rfl (r_icmp_ge C (tgt := 81) dX12_suspects_37 rfl (fun c37 => (r_iinc C dX12_suspects_81 rfl (by decide) (r_goto C (tgt := 19) dX12_suspects_84 rfl ?_))) (fun c37 => (r_iload_n C dX12_suspects_40 rfl rfl (r_if_eq C (tgt := 75) dX12_suspects_41 rfl (fun c41 => (r_iinc C dX12_suspects_75 rfl (by decide) (r_goto C (tgt := 31) dX12_suspects_78 rfl ?_))) (fun c41 => (r_aload_n C dX12_suspects_44 rfl rfl (r_iload C dX12_suspects_45 rfl (r_iload C dX12_suspects_47 rfl (r_v2I C yv_X12_saysBy lk_X12_326 dX12_suspects_49 rfl nM_0 sM_0 rfl (Nat.le_of_ble_eq_true rfl) (ok_X12_saysBy (ks := []) (absurd hw c41)) (fun r49 μ49 h49 => (r_if_ne C (tgt := 58) dX12_suspects_52 rfl (fun c52 => (r_iload_n C dX12_suspects_58 rfl rfl (r_iload_n C dX12_suspects_59 rfl rfl (r_icmp_ne C (tgt := 72) dX12_suspects_60 rfl (fun c60 => (r_iinc C dX12_suspects_72 rfl (by decide) (r_iinc C dX12_suspects_75 rfl (by decide) (r_goto C (tgt := 31) dX12_suspects_78 rfl ?_)))) (fun c60 => (r_bipush C dX12_suspects_63 (by decide +kernel) (r_iload C dX12_suspects_65 rfl (r_imul C dX12_suspects_67 (r_iload C dX12_suspects_68 rfl (r_iadd C dX12_suspects_70 (r_iret C dX12_suspects_71 ?_))))))))))) (fun c52 => (r_goto C (tgt := 75) dX12_suspects_55 rfl (r_iinc C dX12_suspects_75 rfl (by decide) (r_goto C (tgt := 31) dX12_suspects_78 rfl ?_))))))))))))))))))
            · rw [e19] at c37
              have ej : j = mln μ := by omega
              subst ej
              refine ih (n - 1) (by omega) (i + 1) _ _ _ g μ' (by omega) (by simp (disch := (first | omega | (simp (disch := omega) only [ti_ofInt, ti_addc, ti_subc, ti_mulc, ti_cmul, ti_divc, ti_remc, ti_zero, ti_add, ti_sub, ti_neg, if_lt_ti, if_gt_ti, bP_e0, Classical.not_not, tl_i2l]; omega))) only [ti_ofInt, ti_addc, ti_subc, ti_mulc, ti_cmul, ti_divc, ti_remc, ti_zero, ti_add, ti_sub, ti_neg, if_lt_ti, if_gt_ti, bP_e0, Classical.not_not, tl_i2l]; omega) hf (by omega) hS hK ?_
              rw [hR]
              have := susF_skip (p := msus μ) (g := coup) (k := k.toInt) (f := g) (8 - mln μ) ((n - 1) * 8) (i * 8 + mln μ) (fun p a b z => by
                have := z.1
                omega)
              rw [show n * 8 - mln μ = 8 - mln μ + (n - 1) * 8 by omega, this, show i * 8 + mln μ + (8 - mln μ) = (i + 1) * 8 by omega]
            · rw [e19] at c37
              exact skip (by omega) hno μ' hS hK
            · exact absurd hw c41
            · exact absurd hw c41
            · exact absurd hw c41
          · obtain ⟨ks, hks⟩ := w2 hw
            refine (r_iload C dX12_suspects_31 rfl (r_aload_n C dX12_suspects_33 rfl rfl (r_getI C dX12_suspects_34 fd_X12_243 nM_0 sM_0 rfl (r_icmp_ge C (tgt := 81) dX12_suspects_37 rfl (fun c37 => (r_iinc C dX12_suspects_81 rfl (by decide) (r_goto C (tgt := 19) dX12_suspects_84 rfl ?_))) (fun c37 => (r_iload_n C dX12_suspects_40 rfl rfl (r_if_eq C (tgt := 75) dX12_suspects_41 rfl (fun c41 => (r_iinc C dX12_suspects_75 rfl (by decide) (r_goto C (tgt := 31) dX12_suspects_78 rfl ?_))) (fun c41 => (r_aload_n C dX12_suspects_44 rfl rfl (r_iload C dX12_suspects_45 rfl (r_iload C dX12_suspects_47 rfl (r_v2I C yv_X12_saysBy lk_X12_326 dX12_suspects_49 rfl nM_0 sM_0 rfl (Nat.le_of_ble_eq_true rfl) (ok_X12_saysBy (show mRI μ' ∧ mK2 ks μ' ∧ _ from ⟨a3 h, hK ks hks, mSpl_b h.2.2.2 hC.2 hks⟩)) (fun r49 μ49 h49 => (r_if_ne C (tgt := 58) dX12_suspects_52 rfl (fun c52 => (r_iload_n C dX12_suspects_58 rfl rfl (r_iload_n C dX12_suspects_59 rfl rfl (r_icmp_ne C (tgt := 72) dX12_suspects_60 rfl (fun c60 => (r_iinc C dX12_suspects_72 rfl (by decide) (r_iinc C dX12_suspects_75 rfl (by decide) (r_goto C (tgt := 31) dX12_suspects_78 rfl ?_)))) (fun c60 => (r_bipush C dX12_suspects_63 (by decide +kernel) (r_iload C dX12_suspects_65 rfl (r_imul C dX12_suspects_67 (r_iload C dX12_suspects_68 rfl (r_iadd C dX12_suspects_70 (r_iret C dX12_suspects_71 ?_))))))))))) (fun c52 => (r_goto C (tgt := 75) dX12_suspects_55 rfl (r_iinc C dX12_suspects_75 rfl (by decide) (r_goto C (tgt := 31) dX12_suspects_78 rfl ?_))))))))))))))))))
            · rw [e19] at c37
              have ej : j = mln μ := by omega
              subst ej
              refine ih (n - 1) (by omega) (i + 1) _ _ _ g μ' (by omega) (by simp (disch := (first | omega | (simp (disch := omega) only [ti_ofInt, ti_addc, ti_subc, ti_mulc, ti_cmul, ti_divc, ti_remc, ti_zero, ti_add, ti_sub, ti_neg, if_lt_ti, if_gt_ti, bP_e0, Classical.not_not, tl_i2l]; omega))) only [ti_ofInt, ti_addc, ti_subc, ti_mulc, ti_cmul, ti_divc, ti_remc, ti_zero, ti_add, ti_sub, ti_neg, if_lt_ti, if_gt_ti, bP_e0, Classical.not_not, tl_i2l]; omega) hf (by omega) hS hK ?_
              rw [hR]
              have := susF_skip (p := msus μ) (g := coup) (k := k.toInt) (f := g) (8 - mln μ) ((n - 1) * 8) (i * 8 + mln μ) (fun p a b z => by
                have := z.1
                omega)
              rw [show n * 8 - mln μ = 8 - mln μ + (n - 1) * 8 by omega, this, show i * 8 + mln μ + (8 - mln μ) = (i + 1) * 8 by omega]
            · exact absurd c41 hw
            · rw [e19] at c37
              rw [h49.1] at c52
              have hys := (hq (by omega) ks hks).mp (bP_ne c52)
              refine ihm (m - 1) (by omega) (j + 1) _ _ (g + 1) _ hin (by omega) (by simp (disch := (first | omega | (simp (disch := omega) only [ti_ofInt, ti_addc, ti_subc, ti_mulc, ti_cmul, ti_divc, ti_remc, ti_zero, ti_add, ti_sub, ti_neg, if_lt_ti, if_gt_ti, bP_e0, Classical.not_not, tl_i2l]; omega))) only [ti_ofInt, ti_addc, ti_subc, ti_mulc, ti_cmul, ti_divc, ti_remc, ti_zero, ti_add, ti_sub, ti_neg, if_lt_ti, if_gt_ti, bP_e0, Classical.not_not, tl_i2l]; omega) (by simp (disch := (first | omega | (simp (disch := omega) only [ti_ofInt, ti_addc, ti_subc, ti_mulc, ti_cmul, ti_divc, ti_remc, ti_zero, ti_add, ti_sub, ti_neg, if_lt_ti, if_gt_ti, bP_e0, Classical.not_not, tl_i2l]; omega))) only [ti_ofInt, ti_addc, ti_subc, ti_mulc, ti_cmul, ti_divc, ti_remc, ti_zero, ti_add, ti_sub, ti_neg, if_lt_ti, if_gt_ti, bP_e0, Classical.not_not, tl_i2l]; omega) (by omega) (hS.tr h49.2.1) (fun ks' e => by rw [hks] at e; injection e with e; subst e; exact h49.2.2) ?_
              rw [hR, show n * 8 - j = n * 8 - (j + 1) + 1 by omega, susF_t hys, if_neg (by omega)]
              rfl
            · rw [e19] at c37
              rw [h49.1] at c52
              have hys := (hq (by omega) ks hks).mp (bP_ne c52)
              refine Or.inr ⟨hC, (hS.tr h49.2.1).sm, ?_⟩
              rw [← hTT, hR, show n * 8 - j = n * 8 - (j + 1) + 1 by omega, susF_t hys, if_pos (by omega)]
              unfold coup
              rw [show (i * 8 + j) / 8 = i by omega, show (i * 8 + j) % 8 = j by omega]
              have e : (Int32.ofInt 10 * v).toInt = 10 * v.toInt := ti_cmul (by omega)
              rw [ti_add (by omega), e]
              omega
            · rw [e19] at c37
              rw [h49.1] at c52
              have hno : ¬ msus μ (i * 8 + j) := fun z => bP_e0.mp c52 ((hq (by omega) ks hks).mpr z)
              exact skip (by omega) hno _ (hS.tr h49.2.1) (fun ks' e => by rw [hks] at e; injection e with e; subst e; exact h49.2.2)
      refine (r_iload C dX12_suspects_19 rfl (r_aload_n C dX12_suspects_21 rfl rfl (r_getI C dX12_suspects_22 fd_X12_224 nM_0 sM_0 rfl (r_icmp_ge C (tgt := 87) dX12_suspects_25 rfl (fun c25 => (r_iload_n C dX12_suspects_87 rfl rfl (r_iconst C dX12_suspects_88 (r_icmp_ne C (tgt := 96) dX12_suspects_89 rfl (fun c89 => (r_iconst C dX12_suspects_96 (r_iret C dX12_suspects_97 ?_))) (fun c89 => (r_iload_n C dX12_suspects_92 rfl rfl (r_goto C (tgt := 97) dX12_suspects_93 rfl (r_iret C dX12_suspects_97 ?_)))))))) (fun c25 => (r_iconst C dX12_suspects_28 (r_istore C dX12_suspects_29 (by decide) ?_)))))))
      · rw [e18] at c25
        rw [m1] at c89
        have en : n = 0 := by omega
        subst en
        refine Or.inr ⟨hC, hS.sm, ?_⟩
        rw [← hTT, hR]
        show _ = if k.toInt = -1 then (g : Int) else -1
        rw [if_neg c89, m1]
      · rw [e18] at c25
        rw [m1] at c89
        have en : n = 0 := by omega
        subst en
        refine Or.inr ⟨hC, hS.sm, ?_⟩
        rw [← hTT, hR]
        show _ = if k.toInt = -1 then (g : Int) else -1
        rw [if_pos c89, hf]
      · rw [e18] at c25
        exact inner (mln μ) 0 _ _ g μ' (by omega) (by omega) (by simp (disch := (first | omega | (simp (disch := omega) only [ti_ofInt, ti_addc, ti_subc, ti_mulc, ti_cmul, ti_divc, ti_remc, ti_zero, ti_add, ti_sub, ti_neg, if_lt_ti, if_gt_ti, bP_e0, Classical.not_not, tl_i2l]; omega))) only [ti_ofInt, ti_addc, ti_subc, ti_mulc, ti_cmul, ti_divc, ti_remc, ti_zero, ti_add, ti_sub, ti_neg, if_lt_ti, if_gt_ti, bP_e0, Classical.not_not, tl_i2l]; rfl) hf (by omega) hS hK hR
  refine (r_aload_n C dX12_suspects_0 rfl rfl (r_v0P C yv_X12_canSay lk_X12_320 dX12_suspects_1 rfl nM_0 sM_0 rfl (Nat.le_of_ble_eq_true rfl) (ok_X12_canSay ?_) (r_if_ne C (tgt := 9) dX12_suspects_4 rfl (fun c4 => (r_aload_n C dX12_suspects_9 rfl rfl (r_v0I C yv_X12_lays lk_X12_323 dX12_suspects_10 rfl nM_0 sM_0 rfl (Nat.le_of_ble_eq_true rfl) (ok_X12_lays ?_) (fun r10 μ10 h10 => (r_istore_n C dX12_suspects_13 rfl (by decide) (r_iconst C dX12_suspects_14 (r_istore_n C dX12_suspects_15 rfl (by decide) (r_iconst C dX12_suspects_16 (r_istore C dX12_suspects_17 (by decide) ?_))))))))) (fun c4 => (r_iconst C dX12_suspects_7 (r_iret C dX12_suspects_8 ?_))))))
  · exact ⟨hT, htp.1⟩
  · exact ⟨hT, h.2.2.2, (bP_ne c4).2⟩
  · have hC := bP_ne c4
    rcases h10 with ⟨ks, a, b, c⟩ | ⟨a, b, ks, c⟩
    · refine loop r10 (fun q => by rw [c] at q; exact absurd q (by decide)) (fun _ => ⟨ks, a⟩) hC (mNh μ) 0 _ _ _ 0 μ10 (by omega) (by simp (disch := (first | omega | (simp (disch := omega) only [ti_ofInt, ti_addc, ti_subc, ti_mulc, ti_cmul, ti_divc, ti_remc, ti_zero, ti_add, ti_sub, ti_neg, if_lt_ti, if_gt_ti, bP_e0, Classical.not_not, tl_i2l]; omega))) only [ti_ofInt, ti_addc, ti_subc, ti_mulc, ti_cmul, ti_divc, ti_remc, ti_zero, ti_add, ti_sub, ti_neg, if_lt_ti, if_gt_ti, bP_e0, Classical.not_not, tl_i2l]; rfl) (by simp (disch := (first | omega | (simp (disch := omega) only [ti_ofInt, ti_addc, ti_subc, ti_mulc, ti_cmul, ti_divc, ti_remc, ti_zero, ti_add, ti_sub, ti_neg, if_lt_ti, if_gt_ti, bP_e0, Classical.not_not, tl_i2l]; omega))) only [ti_ofInt, ti_addc, ti_subc, ti_mulc, ti_cmul, ti_divc, ti_remc, ti_zero, ti_add, ti_sub, ti_neg, if_lt_ti, if_gt_ti, bP_e0, Classical.not_not, tl_i2l]; rfl) (by omega) b.sy (fun ks' e => ?_) hTT
      rw [a] at e
      injection e with e
      subst e
      exact b.k2
    · refine loop r10 (fun _ => a) (fun q => by rw [b] at q; exact absurd z0 q) hC (mNh μ) 0 _ _ _ 0 μ10 (by omega) (by simp (disch := (first | omega | (simp (disch := omega) only [ti_ofInt, ti_addc, ti_subc, ti_mulc, ti_cmul, ti_divc, ti_remc, ti_zero, ti_add, ti_sub, ti_neg, if_lt_ti, if_gt_ti, bP_e0, Classical.not_not, tl_i2l]; omega))) only [ti_ofInt, ti_addc, ti_subc, ti_mulc, ti_cmul, ti_divc, ti_remc, ti_zero, ti_add, ti_sub, ti_neg, if_lt_ti, if_gt_ti, bP_e0, Classical.not_not, tl_i2l]; rfl) (by simp (disch := (first | omega | (simp (disch := omega) only [ti_ofInt, ti_addc, ti_subc, ti_mulc, ti_cmul, ti_divc, ti_remc, ti_zero, ti_add, ti_sub, ti_neg, if_lt_ti, if_gt_ti, bP_e0, Classical.not_not, tl_i2l]; omega))) only [ti_ofInt, ti_addc, ti_subc, ti_mulc, ti_cmul, ti_divc, ti_remc, ti_zero, ti_add, ti_sub, ti_neg, if_lt_ti, if_gt_ti, bP_e0, Classical.not_not, tl_i2l]; rfl) (by omega) c.sy (fun ks' e => ?_) hTT
      rw [a] at e
      cases e
  · exact Or.inl ⟨fun z => bP_e0.mp c4 z, rfl, rfl⟩

