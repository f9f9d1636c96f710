/-! ===== the model: readings ===== -/
def mmk (μ : kMem) (l : Int) : Int := if 0 ≤ l ∧ l < 26 then (μ.1 3 l.toNat).toInt else 0
def msz (μ : kMem) : Int → Nat := fun l => pSz (mmk μ l)
def mkd (μ : kMem) : Int → Nat → Int := fun l => pKd (mmk μ l)
def relM (a b : Nat) : Prop := (a = 0 ∧ (b = 1 ∨ (18 ≤ b ∧ b ≤ 21) ∨ b = 36 ∨ b = 54 ∨ b = 55)) ∨ a = 1 ∨ a = 3 ∨ a = 6 ∨ ((a = 11 ∨ a = 12) ∧ b = 0) ∨ (14 ≤ a ∧ a ≤ 20) ∨ (26 ≤ a ∧ a ≤ 30) ∨ (40 ≤ a ∧ a ≤ 46)
def mSm (μ μ' : kMem) : Prop := ∀ a b : Nat, relM a b → μ'.1 a b = μ.1 a b
theorem mSm.rf {μ : kMem} : mSm μ μ := fun _ _ _ => rfl
/-- what is read from has stayed -/
def mRS (μ μ' : kMem) : Prop := ∀ a b : Nat, (a = 0 ∧ 18 ≤ b ∧ b ≤ 23) ∨ a = 3 ∨ (14 ≤ a ∧ a ≤ 20) → μ'.1 a b = μ.1 a b
theorem mRS_all {μ μ' : kMem} (h : mRS μ μ') : mrs μ' = mrs μ ∧ mmc μ' = mmc μ ∧ msz μ' = msz μ ∧ mkd μ' = mkd μ ∧ (mRd μ → mRd μ') ∧ mlc μ' = mlc μ ∧ mmk μ' = mmk μ := by
  unfold mRS at h
  have e1 : mle μ' = mle μ := by funext x k; unfold mle; simp (disch := omega) only [h]
  have e2 : mge μ' = mge μ := by funext x k; unfold mge; simp (disch := omega) only [h]
  have e3 : mtn μ' = mtn μ := by unfold mtn; simp (disch := omega) only [h]
  have e4 : mmk μ' = mmk μ := by funext l; unfold mmk; simp (disch := omega) only [h]
  have e5 : mrs μ' = mrs μ := by unfold mrs; rw [e1, e2, e3]; simp (disch := omega) only [h]
  have e6 : mmc μ' = mmc μ := by unfold mmc; rw [e3]
  refine ⟨e5, e6, ?_, ?_, ?_, ?_, e4⟩
  · funext l; unfold msz; rw [e4]
  · funext l; unfold mkd; rw [e4]
  · intro q
    unfold mRd mTpOk mHdOk mCdOk at q ⊢
    simp (disch := omega) only [h]
    exact q
  · funext m j; unfold mlc; rw [e5, e6]
theorem mTk_all {μ μ1 : kMem} {x y : Int32} (h : mRI μ) (hc : mcan μ x.toInt y.toInt) (e : μ1 = up (up μ 0 22 x) 0 23 (Int32.ofInt (mbi μ y.toInt))) : mRd μ1 ∧ mrs μ1 = mcs μ x.toInt y.toInt ∧ mmc μ1 = mmc μ ∧ msz μ1 = msz μ ∧ mkd μ1 = mkd μ ∧ mSm μ μ1 ∧ ∀ a b : Nat, ¬ (a = 0 ∧ (b = 22 ∨ b = 23)) → μ1.1 a b = μ.1 a b := by
  have far : ∀ a b : Nat, ¬ (a = 0 ∧ (b = 22 ∨ b = 23)) → μ1.1 a b = μ.1 a b := fun a b n => by rw [e, up_ne _ _ (by omega), up_ne _ _ (by omega)]
  have hb := mbi_b h.2.2.1 y.toInt
  have e23 : (μ1.1 0 23).toInt = mbi μ y.toInt := by rw [e, up_same, ti_ofInt (by omega)]
  have e22 : μ1.1 0 22 = x := by rw [e, up_nek _ _ (by decide), up_same]
  have e1 : mle μ1 = mle μ := by funext x k; unfold mle; simp (disch := omega) only [far]
  have e2 : mge μ1 = mge μ := by funext x k; unfold mge; simp (disch := omega) only [far]
  have e3 : mtn μ1 = mtn μ := by unfold mtn; simp (disch := omega) only [far]
  have e4 : mmk μ1 = mmk μ := by funext l; unfold mmk; simp (disch := omega) only [far]
  have hh := h.2.1.1
  refine ⟨?_, ?_, by unfold mmc; rw [e3], by funext l; unfold msz; rw [e4], by funext l; unfold mkd; rw [e4], fun a b q => far a b (by unfold relM at q; omega), far⟩
  · obtain ⟨c1, c2, c3⟩ := hc
    obtain ⟨h1, h2, h3, h4⟩ := h
    unfold mRd mTpOk mHdOk mCdOk at *
    rw [e23, e22]
    simp (disch := omega) only [far]
    exact ⟨h1, h2, h4, ⟨by omega, by omega⟩, ⟨by omega, by omega⟩, c3⟩
  · unfold mrs mcs
    rw [e1, e2, e3, e23, e22]
    simp (disch := omega) only [far]
theorem wbh_p {cs : Nat → Int → Int} {mc : Nat} {W : Nat → Int} {i : Nat} (h : i < mc) : wbh cs mc W i = (if cs (2 * i - 1) 3 = -1 then 0 else W i) + (if cs (2 * i - 1) 4 = -1 then 0 else W i) := by
  unfold wbh
  rw [if_neg (by omega), Int.add_mul]
  have key : ∀ c : Int, (if c = -1 then 0 else 1) * W i = if c = -1 then 0 else W i := by
    intro c
    split
    · exact Int.zero_mul _
    · exact Int.one_mul _
  rw [key, key]
def mW (μ : kMem) : Nat → Int := fun i => (μ.1 21 (2 * i)).toInt
theorem pRw_b {cs : Nat → Int → Int} {mc : Nat} {sz : Int → Nat} {kd : Int → Nat → Int} {W : Nat → Int} {j : Nat} (hW : ∀ i, j < i → i < mc → 0 ≤ W i ∧ W i ≤ 1000000000) (l : Nat) : 0 ≤ pRw cs mc sz kd W j l ∧ pRw cs mc sz kd W j l ≤ 2000000000 := by
  unfold pRw
  split
  · omega
  · rename_i q
    have h1 := lcst_n q
    by_cases c : j + sz l < mc
    · have h2 := hW (j + sz l) (by omega) c
      rw [wbh_p c]
      split <;> split <;> omega
    · unfold wbh
      rw [if_pos (by omega)]
      omega
/-- alike, where no more than 1000000000 count -/
def capE (X S : Int) : Prop := min X 1000000000 = min S 1000000000
theorem capE_add {X S w : Int} (h : capE X S) (hX : 0 ≤ X) (hS : 0 ≤ S) (hw : 0 ≤ w) : capE (min 1000000000 (X + w)) (S + w) := by
  unfold capE at *
  omega
theorem capE_one {X S : Int} (h : capE X S) (hX : 0 ≤ X) (hS : 0 ≤ S) : capE (X + 1) (S + 1) := by
  unfold capE at *
  omega
/-- what the first q kinds of a gap bring -/
def pPt (cs : Nat → Int → Int) (W : Int) (i q : Nat) : Int := (if q = 0 ∨ cs (2 * i - 1) 3 = -1 then 0 else W) + (if q < 2 ∨ cs (2 * i - 1) 4 = -1 then 0 else W)
theorem pPt_0 {cs : Nat → Int → Int} {W : Int} {i : Nat} : pPt cs W i 0 = 0 := by
  unfold pPt
  rw [if_pos (Or.inl rfl), if_pos (Or.inl (by omega))]
  rfl
theorem pPt_2 {cs : Nat → Int → Int} {mc : Nat} {W : Nat → Int} {i : Nat} (h : i < mc) : pPt cs (W i) i 2 = wbh cs mc W i := by
  rw [wbh_p h]
  unfold pPt
  have z1 : ∀ p : Prop, ((2 : Nat) = 0 ∨ p) ↔ p := fun p => by simp
  have z2 : ∀ p : Prop, ((2 : Nat) < 2 ∨ p) ↔ p := fun p => by simp
  simp only [z1, z2]
theorem pPt_no {cs : Nat → Int → Int} {W : Int} {i q : Nat} (hq : q < 2) (h : cs (2 * i - 1) (3 + (q : Int)) = -1) : pPt cs W i (q + 1) = pPt cs W i q := by
  unfold pPt
  rcases (show q = 0 ∨ q = 1 by omega) with rfl | rfl
  · have h : cs (2 * i - 1) 3 = -1 := h
    rw [if_pos (Or.inr h), if_pos (Or.inl (by omega)), if_pos (Or.inl rfl), if_pos (Or.inl (by omega))]
  · have h : cs (2 * i - 1) 4 = -1 := h
    have z1 : ∀ p : Prop, ((1 : Nat) = 0 ∨ p) ↔ p := fun p => by simp
    have z2 : ∀ p : Prop, ((1 : Nat) + 1 = 0 ∨ p) ↔ p := fun p => by simp
    simp only [z1, z2]
    rw [if_pos (show (1 : Nat) + 1 < 2 ∨ cs (2 * i - 1) 4 = -1 from Or.inr h), if_pos (show (1 : Nat) < 2 ∨ cs (2 * i - 1) 4 = -1 from Or.inr h)]
theorem pPt_ys {cs : Nat → Int → Int} {W : Int} {i q : Nat} (hq : q < 2) (h : ¬ cs (2 * i - 1) (3 + (q : Int)) = -1) : pPt cs W i (q + 1) = pPt cs W i q + W := by
  unfold pPt
  rcases (show q = 0 ∨ q = 1 by omega) with rfl | rfl
  · have h : ¬ cs (2 * i - 1) 3 = -1 := h
    rw [if_neg (fun z => z.elim (by omega) h), if_pos (Or.inl (by omega)), if_pos (Or.inl rfl), if_pos (Or.inl (by omega))]
    omega
  · have h : ¬ cs (2 * i - 1) 4 = -1 := h
    have z1 : ∀ p : Prop, ((1 : Nat) = 0 ∨ p) ↔ p := fun p => by simp
    have z2 : ∀ p : Prop, ((1 : Nat) + 1 = 0 ∨ p) ↔ p := fun p => by simp
    simp only [z1, z2]
    rw [if_neg (show ¬ ((1 : Nat) + 1 < 2 ∨ cs (2 * i - 1) 4 = -1) from fun z => z.elim (by omega) h), if_pos (show (1 : Nat) < 2 ∨ cs (2 * i - 1) 4 = -1 from Or.inl (by omega))]
    omega
theorem pPt_b {cs : Nat → Int → Int} {W : Int} {i q : Nat} (h : 0 ≤ W) : 0 ≤ pPt cs W i q := by
  unfold pPt
  split <;> split <;> omega
set_option maxHeartbeats 4000000 in
theorem ok_X12_readings {x y : Int32} {μ : kMem} (h : mRI μ) : kOk yX12_readings cX12_readings 8 (some .int) rmX12_readings shM 48 [.ref 0, .int x, .int y] μ (kI fun r μ' => (¬ mcan μ x.toInt y.toInt ∧ r = Int32.ofInt (-1) ∧ μ' = μ) ∨ (mcan μ x.toInt y.toInt ∧ mSm μ μ' ∧ ∃ W : Nat → Int, r.toInt = W 0 ∧ ∀ j, j < mmc μ → W j = pRe (mcs μ x.toInt y.toInt) (mmc μ) (msz μ) (mkd μ) W j)) := by
  have z0 : (Int32.ofInt 0).toInt = 0 := by decide
  have m26 : (Int32.ofInt 26).toInt = 26 := by decide
  have m4 : (Int32.ofInt 4).toInt = 4 := by decide
  have mM : (1000000000 : Int32).toInt = 1000000000 := by decide
  refine kOk.of rfl (Nat.le_of_ble_eq_true rfl) (fun J C => ?_)
  have C : kR cX12_readings RX12 8 rmX12_readings shM 48 (some .int) _ J := C
  have main : ∀ μ1 : kMem, mRd μ1 → (∀ (r : Int32) (μ' : kMem) (W : Nat → Int), (∀ a b : Nat, a ≠ 21 → μ'.1 a b = μ1.1 a b) → r.toInt = W 0 → (∀ j, j < mmc μ1 → W j = pRe (mrs μ1) (mmc μ1) (msz μ1) (mkd μ1) W j) → ((¬ mcan μ x.toInt y.toInt ∧ r = Int32.ofInt (-1) ∧ μ' = μ) ∨ (mcan μ x.toInt y.toInt ∧ mSm μ μ' ∧ ∃ W : Nat → Int, r.toInt = W 0 ∧ ∀ j, j < mmc μ → W j = pRe (mcs μ x.toInt y.toInt) (mmc μ) (msz μ) (mkd μ) W j))) → ∀ (jj : Nat) (v : Int32) (μ' : kMem) (z4 z5 z6 z7 : Option Value), jj ≤ mmc μ1 → v.toInt = 2 * (jj : Int) - 2 → (∀ i, jj ≤ i → i < mmc μ1 → mW μ' i = pRe (mrs μ1) (mmc μ1) (msz μ1) (mkd μ1) (mW μ') i ∧ 0 ≤ mW μ' i) → (∀ a b : Nat, a ≠ 21 → μ'.1 a b = μ1.1 a b) → J 18 [some (.ref 0), some (.int x), some (.int y), some (.int v), z4, z5, z6, z7] [] μ' := by
    intro μ1 hR fin jj
    have hn := mRd_n hR
    induction jj using Nat.strongRecOn with
    | ind jj ih =>
      intro v μ' z4 z5 z6 z7 hjj hv hI hO
      by_cases hj0 : jj = 0
      · subst hj0
        refine (r_iload_n C dX12_readings_18 rfl rfl (r_if_lt C (tgt := 187) dX12_readings_19 rfl (fun c19 => (r_aload_n C dX12_readings_187 rfl rfl (r_getR C dX12_readings_188 fd_X12_66 nM_0 sM_0 rfl (r_iconst C dX12_readings_191 (r_iald C dX12_readings_192 nM_21 sM_21 (by decide) (r_iret C dX12_readings_193 ?_)))))) (fun c19 => (r_aload_n C dX12_readings_22 rfl rfl (r_getR C dX12_readings_23 fd_X12_66 nM_0 sM_0 rfl (r_iload_n C dX12_readings_26 rfl rfl (r_iconst C dX12_readings_27 (r_iast C dX12_readings_28 nM_21 sM_21 ?_ (r_iconst C dX12_readings_29 (r_istore C dX12_readings_30 (by decide) ?_))))))))))
        · rw [show (Int32.ofInt 0).toInt.toNat = 2 * 0 by decide]
          exact fin _ μ' (mW μ') hO rfl (fun j hj => (hI j (Nat.zero_le _) hj).1)
        · omega
        · omega
      obtain ⟨j, ej⟩ : ∃ j, jj = j + 1 := ⟨jj - 1, by omega⟩
      subst ej
      have evj : v.toInt.toNat = 2 * j := by omega
      have hWb : ∀ i, j < i → i < mmc μ1 → 0 ≤ mW μ' i ∧ mW μ' i ≤ 1000000000 := by
        intro i a b
        have := hI i (by omega) b
        have e : pRe (mrs μ1) (mmc μ1) (msz μ1) (mkd μ1) (mW μ') i ≤ 1000000000 := Int.min_le_right _ _
        omega
      have hpb := fun l => pRw_b (cs := mrs μ1) (sz := msz μ1) (kd := mkd μ1) hWb l
      have hsb := sumL_b hpb
      have cl : ∀ (n c : Nat) (u : Int32) (μ2 : kMem) (z5 z6 z7 : Option Value), c + n = 26 → u.toInt = c → (∀ i, j < i → i < mmc μ1 → mW μ2 i = mW μ' i) → capE (mW μ2 j) (sumL (pRw (mrs μ1) (mmc μ1) (msz μ1) (mkd μ1) (mW μ') j) c) → 0 ≤ mW μ2 j ∧ mW μ2 j ≤ 1000000000 + c → (∀ a b : Nat, a ≠ 21 → μ2.1 a b = μ1.1 a b) → J 32 [some (.ref 0), some (.int x), some (.int y), some (.int v), some (.int u), z5, z6, z7] [] μ2 := by
        intro n
        induction n using Nat.strongRecOn with
        | ind n ihc =>
          intro c u μ2 z5 z6 z7 hcn hu hA hS hX hO2
          have euc : u.toInt.toNat = c := by omega
          have hRS : mRS μ1 μ2 := fun a b q => hO2 a b (by omega)
          obtain ⟨r1, r2, r3, r4, r5, r6, r7⟩ := mRS_all hRS
          have eX : (μ2.1 21 v.toInt.toNat).toInt = mW μ2 j := by rw [evj]; rfl
          have em : (μ2.1 3 u.toInt.toNat).toInt = mmk μ1 (c : Int) ∨ ¬ c < 26 := by
            by_cases q : c < 26
            · left
              unfold mmk
              rw [if_pos (by omega), euc, Int.toNat_natCast, hO2 3 c (by decide)]
            · exact Or.inr q
          have hmd : c < 26 → mdOk (mmk μ1 (c : Int)) := fun q => by
            unfold mmk
            rw [if_pos (by omega), Int.toNat_natCast]
            exact hR.2.2.1 c q
          have hsc := hsb c
          have hpc := hpb c
          have eS : sumL (pRw (mrs μ1) (mmc μ1) (msz μ1) (mkd μ1) (mW μ') j) (c + 1) = sumL (pRw (mrs μ1) (mmc μ1) (msz μ1) (mkd μ1) (mW μ') j) c + pRw (mrs μ1) (mmc μ1) (msz μ1) (mkd μ1) (mW μ') j c := rfl
          have none_ : c < 26 → lcst (mrs μ1) (mmc μ1) (msz μ1 (c : Int)) (mkd μ1 (c : Int)) j = -1 → ∀ z5 z6 z7, J 32 [some (.ref 0), some (.int x), some (.int y), some (.int v), some (.int (u + Int32.ofInt 1)), z5, z6, z7] [] μ2 := by
            intro q1 q2 z5 z6 z7
            have e0 : pRw (mrs μ1) (mmc μ1) (msz μ1) (mkd μ1) (mW μ') j c = 0 := by unfold pRw; rw [if_pos q2]
            refine ihc (n - 1) (by omega) (c + 1) _ μ2 _ _ _ (by omega) (by simp (disch := (first | omega | (simp (disch := omega) only [ti_ofInt, ti_addc, ti_subc, ti_mulc, ti_cmul, ti_divc, ti_remc, ti_zero, ti_add, ti_sub, ti_neg, if_lt_ti, if_gt_ti, bP_e0, Classical.not_not, tl_i2l]; omega))) only [ti_ofInt, ti_addc, ti_subc, ti_mulc, ti_cmul, ti_divc, ti_remc, ti_zero, ti_add, ti_sub, ti_neg, if_lt_ti, if_gt_ti, bP_e0, Classical.not_not, tl_i2l]; omega) hA ?_ ⟨hX.1, by omega⟩ hO2
            rw [eS, e0, Int.add_zero]
            exact hS
          have eL : c < 26 → mlc μ2 (μ2.1 3 u.toInt.toNat).toInt (v.toInt.toNat / 2) = lcst (mrs μ1) (mmc μ1) (msz μ1 (c : Int)) (mkd μ1 (c : Int)) j := fun q => by
            rw [r6, em.resolve_right (fun z => z q), evj, show 2 * j / 2 = j by omega]
            rfl
          refine (r_iload C dX12_readings_32 rfl (r_bipush C dX12_readings_34 (by decide +kernel) (r_icmp_ge C (tgt := 163) dX12_readings_36 rfl (fun c36 => (r_aload_n C dX12_readings_163 rfl rfl (r_getR C dX12_readings_164 fd_X12_66 nM_0 sM_0 rfl (r_iload_n C dX12_readings_167 rfl rfl (r_ldcw C dX12_readings_168 kc_X12_300 (r_aload_n C dX12_readings_171 rfl rfl (r_getR C dX12_readings_172 fd_X12_66 nM_0 sM_0 rfl (r_iload_n C dX12_readings_175 rfl rfl (r_iald C dX12_readings_176 nM_21 sM_21 ?_ (r_min C mh_X12_301 dX12_readings_177 ⟨rfl, rfl⟩ (Nat.le_of_ble_eq_true rfl) (r_iast C dX12_readings_180 nM_21 sM_21 ?_ (r_iinc C dX12_readings_181 rfl (by decide) (r_goto C (tgt := 18) dX12_readings_184 rfl ?_))))))))))))) (fun c36 => (r_aload_n C dX12_readings_39 rfl rfl (r_getR C dX12_readings_40 fd_X12_15 nM_0 sM_0 rfl (r_iconst C dX12_readings_43 (r_aald C (r := 3) dX12_readings_44 nM_2 (by decide) sM_2 (by decide) (by decide) (r_iload C dX12_readings_45 rfl (r_iald C dX12_readings_47 nM_3 sM_3 ?_ (r_istore C dX12_readings_48 (by decide) (r_iload C dX12_readings_50 rfl (r_if_eq C (tgt := 157) dX12_readings_52 rfl (fun c52 => (r_iinc C dX12_readings_157 rfl (by decide) (r_goto C (tgt := 32) dX12_readings_160 rfl ?_))) (fun c52 => (r_aload_n C dX12_readings_55 rfl rfl (r_iload_n C dX12_readings_56 rfl rfl (r_iload C dX12_readings_57 rfl (r_v2P C yv_X12_stands lk_X12_297 dX12_readings_59 rfl nM_0 sM_0 rfl (Nat.le_of_ble_eq_true rfl) (ok_X12_stands ?_) (r_if_ne C (tgt := 68) dX12_readings_62 rfl (fun c62 => (r_iload_n C dX12_readings_68 rfl rfl (r_iconst C dX12_readings_69 (r_iload C dX12_readings_70 rfl (r_s1P C ys_X12_marksMany lk_X12_277 dX12_readings_72 rfl (Nat.le_of_ble_eq_true rfl) (ok_X12_marksMany ?_) (r_imul C dX12_readings_75 (r_iadd C dX12_readings_76 (r_iconst C dX12_readings_77 (r_isub C dX12_readings_78 (r_istore C dX12_readings_79 (by decide) (r_iload C dX12_readings_81 rfl (r_aload_n C dX12_readings_83 rfl rfl (r_getI C dX12_readings_84 fd_X12_260 nM_0 sM_0 rfl (r_icmp_ne C (tgt := 103) dX12_readings_87 rfl (fun c87 => (r_iconst C dX12_readings_103 (r_istore C dX12_readings_104 (by decide) ?_))) (fun c87 => (r_aload_n C dX12_readings_90 rfl rfl (r_getR C dX12_readings_91 fd_X12_66 nM_0 sM_0 rfl (r_iload_n C dX12_readings_94 rfl rfl (r_dup2 C dX12_readings_95 rfl rfl (r_iald C dX12_readings_96 nM_21 sM_21 ?_ (r_iconst C dX12_readings_97 (r_iadd C dX12_readings_98 (r_iast C dX12_readings_99 nM_21 sM_21 ?_ (r_goto C (tgt := 157) dX12_readings_100 rfl (r_iinc C dX12_readings_157 rfl (by decide) (r_goto C (tgt := 32) dX12_readings_160 rfl ?_)))))))))))))))))))))))))) (fun c62 => (r_goto C (tgt := 157) dX12_readings_65 rfl (r_iinc C dX12_readings_157 rfl (by decide) (r_goto C (tgt := 32) dX12_readings_160 rfl ?_)))))))))))))))))))))))
          · omega
          · omega
          · rw [m26] at c36
            have ec : c = 26 := by omega
            subst ec
            have emin : (if μ2.1 21 v.toInt.toNat < (1000000000 : Int32) then μ2.1 21 v.toInt.toNat else (1000000000 : Int32)).toInt = pRe (mrs μ1) (mmc μ1) (msz μ1) (mkd μ1) (mW μ') j := by
              rw [if_lt_ti, mM, eX]
              unfold pRe
              unfold capE at hS
              omega
            have eW : ∀ i, i ≠ j → mW (up μ2 21 v.toInt.toNat (if μ2.1 21 v.toInt.toNat < (1000000000 : Int32) then μ2.1 21 v.toInt.toNat else (1000000000 : Int32))) i = mW μ2 i := by
              intro i hi
              unfold mW
              rw [up_nek _ _ (by omega)]
            have eWj : mW (up μ2 21 v.toInt.toNat (if μ2.1 21 v.toInt.toNat < (1000000000 : Int32) then μ2.1 21 v.toInt.toNat else (1000000000 : Int32))) j = pRe (mrs μ1) (mmc μ1) (msz μ1) (mkd μ1) (mW μ') j := by
              rw [← emin]
              unfold mW
              rw [evj, up_same]
            have eP : ∀ i, j ≤ i → pRe (mrs μ1) (mmc μ1) (msz μ1) (mkd μ1) (mW (up μ2 21 v.toInt.toNat (if μ2.1 21 v.toInt.toNat < (1000000000 : Int32) then μ2.1 21 v.toInt.toNat else (1000000000 : Int32)))) i = pRe (mrs μ1) (mmc μ1) (msz μ1) (mkd μ1) (mW μ') i := by
              intro i hi
              unfold pRe
              rw [sumL_congr 26 (fun l _ => pRw_congr (fun q a b => by rw [eW q (by omega), hA q (by omega) b]) l)]
            refine ih j (by omega) _ _ _ _ _ _ (by omega) (by simp (disch := (first | omega | (simp (disch := omega) only [ti_ofInt, ti_addc, ti_subc, ti_mulc, ti_cmul, ti_divc, ti_remc, ti_zero, ti_add, ti_sub, ti_neg, if_lt_ti, if_gt_ti, bP_e0, Classical.not_not, tl_i2l]; omega))) only [ti_ofInt, ti_addc, ti_subc, ti_mulc, ti_cmul, ti_divc, ti_remc, ti_zero, ti_add, ti_sub, ti_neg, if_lt_ti, if_gt_ti, bP_e0, Classical.not_not, tl_i2l]; omega) ?_ ?_
            · intro i a b
              rw [eP i a]
              by_cases e : i = j
              · subst e
                rw [eWj]
                refine ⟨rfl, ?_⟩
                unfold pRe
                omega
              · rw [eW i e, hA i (by omega) b]
                exact hI i (by omega) b
            · intro a b n1
              rw [up_neo _ _ n1]
              exact hO2 a b n1
          · omega
          · rw [m26] at c36
            refine none_ (by omega) ?_ _ _ _
            have e1 : mmk μ1 (c : Int) = 0 := by
              rcases em with q | q
              · rw [← q, c52]
              · omega
            unfold lcst msz pSz
            rw [e1, if_pos (Or.inl (dnF_zero (Int.le_refl _)))]
          · rw [m26] at c36
            have e1 := em.resolve_right (fun z => z (by omega))
            have hm := hmd (by omega)
            rw [← e1] at hm
            refine ⟨r5 hR, ⟨by omega, ?_, by omega⟩, hm, by have := hm.1; omega⟩
            rw [hO2 0 21 (by decide)]
            omega
          · rw [m26] at c36
            have e1 := em.resolve_right (fun z => z (by omega))
            have hm := hmd (by omega)
            rw [← e1] at hm
            exact ⟨hm.1, hm.2.1⟩
          · rw [m26] at c36
            have hc26 : c < 26 := by omega
            have e1 := em.resolve_right (fun z => z hc26)
            have cS := bP_ne c62
            rw [eL hc26] at cS
            have hln := lcst_n cS
            obtain ⟨nn, hnn⟩ : ∃ nn, nn = msz μ1 (c : Int) := ⟨_, rfl⟩
            rw [← hnn] at hln
            have hdl := dnF_le 5 (μ2.1 3 u.toInt.toNat).toInt
            have edn : dnF 5 (μ2.1 3 u.toInt.toNat).toInt = nn := by rw [hnn, e1]; rfl
            have i2 : (Int32.ofInt 2 * Int32.ofInt (dnF 5 (μ2.1 3 u.toInt.toNat).toInt)).toInt = 2 * (nn : Int) := by rw [ti_cmul (by rw [ti_ofInt (by omega)]; omega), ti_ofInt (by omega), edn]
            have i3 : (v + Int32.ofInt 2 * Int32.ofInt (dnF 5 (μ2.1 3 u.toInt.toNat).toInt)).toInt = 2 * (j : Int) + 2 * nn := by rw [ti_add (by omega), i2]; omega
            have i4 : (v + Int32.ofInt 2 * Int32.ofInt (dnF 5 (μ2.1 3 u.toInt.toNat).toInt) - Int32.ofInt 1).toInt = 2 * (j : Int) + 2 * nn - 1 := by rw [ti_subc (by omega), i3]
            have e21 : μ2.1 0 21 = μ1.1 0 21 := hO2 0 21 (by decide)
            rw [i4, e21] at c87
            have hlt : j + nn < mmc μ1 := by omega
            have i5 : (v + Int32.ofInt 2 * Int32.ofInt (dnF 5 (μ2.1 3 u.toInt.toNat).toInt) - Int32.ofInt 1 + Int32.ofInt 1).toInt = ((2 * (j + nn) : Nat) : Int) := by rw [ti_addc (by omega), i4]; omega
            have epr : pRw (mrs μ1) (mmc μ1) (msz μ1) (mkd μ1) (mW μ') j c = pPt (mrs μ1) (mW μ' (j + nn)) (j + nn) 2 := by
              unfold pRw
              rw [if_neg cS, ← hnn, pPt_2 hlt]
            have hWn := hWb (j + nn) (by omega) hlt
            have kl : ∀ (d q : Nat) (w : Int32) (μ3 : kMem), q + d = 2 → w.toInt = 3 + (q : Int) → (∀ i, j < i → i < mmc μ1 → mW μ3 i = mW μ' i) → capE (mW μ3 j) (sumL (pRw (mrs μ1) (mmc μ1) (msz μ1) (mkd μ1) (mW μ') j) c + pPt (mrs μ1) (mW μ' (j + nn)) (j + nn) q) → 0 ≤ mW μ3 j ∧ mW μ3 j ≤ 1000000000 + c → (∀ a b : Nat, a ≠ 21 → μ3.1 a b = μ1.1 a b) → J 106 [some (.ref 0), some (.int x), some (.int y), some (.int v), some (.int u), some (.int (μ2.1 3 u.toInt.toNat)), some (.int (v + Int32.ofInt 2 * Int32.ofInt (dnF 5 (μ2.1 3 u.toInt.toNat).toInt) - Int32.ofInt 1)), some (.int w)] [] μ3 := by
              intro d
              induction d with
              | zero =>
                intro q w μ3 hq hw hA3 hS3 hX3 hO3
                have q2 : q = 2 := by omega
                subst q2
                refine (r_iload C dX12_readings_106 rfl (r_iconst C dX12_readings_108 (r_icmp_gt C (tgt := 157) dX12_readings_109 rfl (fun c109 => (r_iinc C dX12_readings_157 rfl (by decide) (r_goto C (tgt := 32) dX12_readings_160 rfl ?_))) (fun c109 => (r_aload_n C dX12_readings_112 rfl rfl (r_iload C dX12_readings_113 rfl (r_iload C dX12_readings_115 rfl (r_v2P C yv_X12_isOf lk_X12_284 dX12_readings_117 rfl nM_0 sM_0 rfl (Nat.le_of_ble_eq_true rfl) (ok_X12_isOf ?_) (r_if_eq C (tgt := 151) dX12_readings_120 rfl (fun c120 => (r_iinc C dX12_readings_151 rfl (by decide) (r_goto C (tgt := 106) dX12_readings_154 rfl ?_))) (fun c120 => (r_aload_n C dX12_readings_123 rfl rfl (r_getR C dX12_readings_124 fd_X12_66 nM_0 sM_0 rfl (r_iload_n C dX12_readings_127 rfl rfl (r_ldcw C dX12_readings_128 kc_X12_300 (r_aload_n C dX12_readings_131 rfl rfl (r_getR C dX12_readings_132 fd_X12_66 nM_0 sM_0 rfl (r_iload_n C dX12_readings_135 rfl rfl (r_iald C dX12_readings_136 nM_21 sM_21 ?_ (r_aload_n C dX12_readings_137 rfl rfl (r_getR C dX12_readings_138 fd_X12_66 nM_0 sM_0 rfl (r_iload C dX12_readings_141 rfl (r_iconst C dX12_readings_143 (r_iadd C dX12_readings_144 (r_iald C dX12_readings_145 nM_21 sM_21 ?_ (r_iadd C dX12_readings_146 (r_min C mh_X12_301 dX12_readings_147 ⟨rfl, rfl⟩ (Nat.le_of_ble_eq_true rfl) (r_iast C dX12_readings_150 nM_21 sM_21 ?_ (r_iinc C dX12_readings_151 rfl (by decide) (r_goto C (tgt := 106) dX12_readings_154 rfl ?_)))))))))))))))))))))))))))))
                · refine ihc (n - 1) (by omega) (c + 1) _ μ3 _ _ _ (by omega) (by simp (disch := (first | omega | (simp (disch := omega) only [ti_ofInt, ti_addc, ti_subc, ti_mulc, ti_cmul, ti_divc, ti_remc, ti_zero, ti_add, ti_sub, ti_neg, if_lt_ti, if_gt_ti, bP_e0, Classical.not_not, tl_i2l]; omega))) only [ti_ofInt, ti_addc, ti_subc, ti_mulc, ti_cmul, ti_divc, ti_remc, ti_zero, ti_add, ti_sub, ti_neg, if_lt_ti, if_gt_ti, bP_e0, Classical.not_not, tl_i2l]; omega) hA3 ?_ ⟨hX3.1, by omega⟩ hO3
                  rw [eS, epr]
                  exact hS3
                · rw [m4] at c109; omega
                · rw [m4] at c109; omega
                · omega
                · rw [i5]; omega
                · omega
                · rw [m4] at c109; omega
              | succ d ihd =>
                intro q w μ3 hq hw hA3 hS3 hX3 hO3
                obtain ⟨s1, s2, s3, s4, s5, s6, s7⟩ := mRS_all (μ := μ1) (μ' := μ3) (fun a b q => hO3 a b (by omega))
                have eg : (v + Int32.ofInt 2 * Int32.ofInt (dnF 5 (μ2.1 3 u.toInt.toNat).toInt) - Int32.ofInt 1).toInt.toNat = 2 * (j + nn) - 1 := by omega
                have e3 : mW μ3 (j + nn) = mW μ' (j + nn) := hA3 _ (by omega) hlt
                have e5a : (μ3.1 21 (v + Int32.ofInt 2 * Int32.ofInt (dnF 5 (μ2.1 3 u.toInt.toNat).toInt) - Int32.ofInt 1 + Int32.ofInt 1).toInt.toNat).toInt = mW μ' (j + nn) := by
                  rw [i5, Int.toNat_natCast, ← e3]
                  rfl
                have e5b : (μ3.1 21 v.toInt.toNat).toInt = mW μ3 j := by rw [evj]; rfl
                have e5c : (μ3.1 21 v.toInt.toNat + μ3.1 21 (v + Int32.ofInt 2 * Int32.ofInt (dnF 5 (μ2.1 3 u.toInt.toNat).toInt) - Int32.ofInt 1 + Int32.ofInt 1).toInt.toNat).toInt = mW μ3 j + mW μ' (j + nn) := by rw [ti_add (by omega), e5a, e5b]
                refine (r_iload C dX12_readings_106 rfl (r_iconst C dX12_readings_108 (r_icmp_gt C (tgt := 157) dX12_readings_109 rfl (fun c109 => (r_iinc C dX12_readings_157 rfl (by decide) (r_goto C (tgt := 32) dX12_readings_160 rfl ?_))) (fun c109 => (r_aload_n C dX12_readings_112 rfl rfl (r_iload C dX12_readings_113 rfl (r_iload C dX12_readings_115 rfl (r_v2P C yv_X12_isOf lk_X12_284 dX12_readings_117 rfl nM_0 sM_0 rfl (Nat.le_of_ble_eq_true rfl) (ok_X12_isOf ?_) (r_if_eq C (tgt := 151) dX12_readings_120 rfl (fun c120 => (r_iinc C dX12_readings_151 rfl (by decide) (r_goto C (tgt := 106) dX12_readings_154 rfl ?_))) (fun c120 => (r_aload_n C dX12_readings_123 rfl rfl (r_getR C dX12_readings_124 fd_X12_66 nM_0 sM_0 rfl (r_iload_n C dX12_readings_127 rfl rfl (r_ldcw C dX12_readings_128 kc_X12_300 (r_aload_n C dX12_readings_131 rfl rfl (r_getR C dX12_readings_132 fd_X12_66 nM_0 sM_0 rfl (r_iload_n C dX12_readings_135 rfl rfl (r_iald C dX12_readings_136 nM_21 sM_21 ?_ (r_aload_n C dX12_readings_137 rfl rfl (r_getR C dX12_readings_138 fd_X12_66 nM_0 sM_0 rfl (r_iload C dX12_readings_141 rfl (r_iconst C dX12_readings_143 (r_iadd C dX12_readings_144 (r_iald C dX12_readings_145 nM_21 sM_21 ?_ (r_iadd C dX12_readings_146 (r_min C mh_X12_301 dX12_readings_147 ⟨rfl, rfl⟩ (Nat.le_of_ble_eq_true rfl) (r_iast C dX12_readings_150 nM_21 sM_21 ?_ (r_iinc C dX12_readings_151 rfl (by decide) (r_goto C (tgt := 106) dX12_readings_154 rfl ?_)))))))))))))))))))))))))))))
                · rw [m4] at c109; omega
                · rw [hO3 0 21 (by decide)]
                  exact ⟨s5 hR, by omega, by omega⟩
                · have cc := bP_e0.mp c120
                  rw [s1, eg, hw, Classical.not_not] at cc
                  refine ihd (q + 1) _ μ3 (by omega) (by simp (disch := (first | omega | (simp (disch := omega) only [ti_ofInt, ti_addc, ti_subc, ti_mulc, ti_cmul, ti_divc, ti_remc, ti_zero, ti_add, ti_sub, ti_neg, if_lt_ti, if_gt_ti, bP_e0, Classical.not_not, tl_i2l]; omega))) only [ti_ofInt, ti_addc, ti_subc, ti_mulc, ti_cmul, ti_divc, ti_remc, ti_zero, ti_add, ti_sub, ti_neg, if_lt_ti, if_gt_ti, bP_e0, Classical.not_not, tl_i2l]; omega) hA3 ?_ hX3 hO3
                  rw [pPt_no (by omega) cc]
                  exact hS3
                · omega
                · rw [i5]; omega
                · omega
                · have cc := bP_ne c120
                  rw [s1, eg, hw] at cc
                  have emn : (if μ3.1 21 v.toInt.toNat + μ3.1 21 (v + Int32.ofInt 2 * Int32.ofInt (dnF 5 (μ2.1 3 u.toInt.toNat).toInt) - Int32.ofInt 1 + Int32.ofInt 1).toInt.toNat < (1000000000 : Int32) then μ3.1 21 v.toInt.toNat + μ3.1 21 (v + Int32.ofInt 2 * Int32.ofInt (dnF 5 (μ2.1 3 u.toInt.toNat).toInt) - Int32.ofInt 1 + Int32.ofInt 1).toInt.toNat else (1000000000 : Int32)).toInt = min 1000000000 (mW μ3 j + mW μ' (j + nn)) := by rw [if_lt_ti, mM, e5c]
                  have eWj : ∀ t : Int32, mW (up μ3 21 v.toInt.toNat t) j = t.toInt := fun t => by
                    unfold mW
                    rw [evj, up_same]
                  refine ihd (q + 1) _ _ (by omega) (by simp (disch := (first | omega | (simp (disch := omega) only [ti_ofInt, ti_addc, ti_subc, ti_mulc, ti_cmul, ti_divc, ti_remc, ti_zero, ti_add, ti_sub, ti_neg, if_lt_ti, if_gt_ti, bP_e0, Classical.not_not, tl_i2l]; omega))) only [ti_ofInt, ti_addc, ti_subc, ti_mulc, ti_cmul, ti_divc, ti_remc, ti_zero, ti_add, ti_sub, ti_neg, if_lt_ti, if_gt_ti, bP_e0, Classical.not_not, tl_i2l]; omega) ?_ ?_ ?_ ?_
                  · intro i a b
                    have : mW (up μ3 21 v.toInt.toNat (if μ3.1 21 v.toInt.toNat + μ3.1 21 (v + Int32.ofInt 2 * Int32.ofInt (dnF 5 (μ2.1 3 u.toInt.toNat).toInt) - Int32.ofInt 1 + Int32.ofInt 1).toInt.toNat < (1000000000 : Int32) then μ3.1 21 v.toInt.toNat + μ3.1 21 (v + Int32.ofInt 2 * Int32.ofInt (dnF 5 (μ2.1 3 u.toInt.toNat).toInt) - Int32.ofInt 1 + Int32.ofInt 1).toInt.toNat else (1000000000 : Int32))) i = mW μ3 i := by
                      unfold mW
                      rw [up_nek _ _ (by omega)]
                    rw [this]
                    exact hA3 i a b
                  · rw [eWj, emn]
                    rw [pPt_ys (by omega) cc, ← Int.add_assoc]
                    exact capE_add hS3 hX3.1 (Int.add_nonneg hsc.1 (pPt_b hWn.1)) hWn.1
                  · rw [eWj, emn]
                    omega
                  · intro a b n1
                    rw [up_neo _ _ n1]
                    exact hO3 a b n1
            refine kl 2 0 _ μ2 rfl (by simp (disch := (first | omega | (simp (disch := omega) only [ti_ofInt, ti_addc, ti_subc, ti_mulc, ti_cmul, ti_divc, ti_remc, ti_zero, ti_add, ti_sub, ti_neg, if_lt_ti, if_gt_ti, bP_e0, Classical.not_not, tl_i2l]; omega))) only [ti_ofInt, ti_addc, ti_subc, ti_mulc, ti_cmul, ti_divc, ti_remc, ti_zero, ti_add, ti_sub, ti_neg, if_lt_ti, if_gt_ti, bP_e0, Classical.not_not, tl_i2l]; rfl) hA ?_ hX hO2
            rw [pPt_0, Int.add_zero]
            exact hS
          · omega
          · omega
          · rw [m26] at c36
            have hc26 : c < 26 := by omega
            have e1 := em.resolve_right (fun z => z hc26)
            have cS := bP_ne c62
            rw [eL hc26] at cS
            have hln := lcst_n cS
            obtain ⟨nn, hnn⟩ : ∃ nn, nn = msz μ1 (c : Int) := ⟨_, rfl⟩
            rw [← hnn] at hln
            have hdl := dnF_le 5 (μ2.1 3 u.toInt.toNat).toInt
            have edn : dnF 5 (μ2.1 3 u.toInt.toNat).toInt = nn := by rw [hnn, e1]; rfl
            have i2 : (Int32.ofInt 2 * Int32.ofInt (dnF 5 (μ2.1 3 u.toInt.toNat).toInt)).toInt = 2 * (nn : Int) := by rw [ti_cmul (by rw [ti_ofInt (by omega)]; omega), ti_ofInt (by omega), edn]
            have i3 : (v + Int32.ofInt 2 * Int32.ofInt (dnF 5 (μ2.1 3 u.toInt.toNat).toInt)).toInt = 2 * (j : Int) + 2 * nn := by rw [ti_add (by omega), i2]; omega
            have i4 : (v + Int32.ofInt 2 * Int32.ofInt (dnF 5 (μ2.1 3 u.toInt.toNat).toInt) - Int32.ofInt 1).toInt = 2 * (j : Int) + 2 * nn - 1 := by rw [ti_subc (by omega), i3]
            have e21 : μ2.1 0 21 = μ1.1 0 21 := hO2 0 21 (by decide)
            rw [i4, e21] at c87
            have epr : pRw (mrs μ1) (mmc μ1) (msz μ1) (mkd μ1) (mW μ') j c = 1 := by
              unfold pRw wbh
              rw [if_neg cS, ← hnn, if_pos (by omega)]
            have eWj : mW (up μ2 21 v.toInt.toNat (μ2.1 21 v.toInt.toNat + Int32.ofInt 1)) j = mW μ2 j + 1 := by
              unfold mW at eX hX ⊢
              rw [evj] at eX ⊢
              rw [up_same, ti_addc (by omega)]
            refine ihc (n - 1) (by omega) (c + 1) _ _ _ _ _ (by omega) (by simp (disch := (first | omega | (simp (disch := omega) only [ti_ofInt, ti_addc, ti_subc, ti_mulc, ti_cmul, ti_divc, ti_remc, ti_zero, ti_add, ti_sub, ti_neg, if_lt_ti, if_gt_ti, bP_e0, Classical.not_not, tl_i2l]; omega))) only [ti_ofInt, ti_addc, ti_subc, ti_mulc, ti_cmul, ti_divc, ti_remc, ti_zero, ti_add, ti_sub, ti_neg, if_lt_ti, if_gt_ti, bP_e0, Classical.not_not, tl_i2l]; omega) ?_ ?_ ?_ ?_
            · intro i a b
              have : mW (up μ2 21 v.toInt.toNat (μ2.1 21 v.toInt.toNat + Int32.ofInt 1)) i = mW μ2 i := by
                unfold mW
                rw [up_nek _ _ (by omega)]
              rw [this]
              exact hA i a b
            · rw [eWj, eS, epr]
              exact capE_one hS hX.1 hsc.1
            · rw [eWj]
              omega
            · intro a b n1
              rw [up_neo _ _ n1]
              exact hO2 a b n1
          · rw [m26] at c36
            have c := bP_e0.mp c62
            rw [eL (by omega), Classical.not_not] at c
            exact none_ (by omega) c _ _ _
      refine (r_iload_n C dX12_readings_18 rfl rfl (r_if_lt C (tgt := 187) dX12_readings_19 rfl (fun c19 => (r_aload_n C dX12_readings_187 rfl rfl (r_getR C dX12_readings_188 fd_X12_66 nM_0 sM_0 rfl (r_iconst C dX12_readings_191 (r_iald C dX12_readings_192 nM_21 sM_21 (by decide) (r_iret C dX12_readings_193 ?_)))))) (fun c19 => (r_aload_n C dX12_readings_22 rfl rfl (r_getR C dX12_readings_23 fd_X12_66 nM_0 sM_0 rfl (r_iload_n C dX12_readings_26 rfl rfl (r_iconst C dX12_readings_27 (r_iast C dX12_readings_28 nM_21 sM_21 ?_ (r_iconst C dX12_readings_29 (r_istore C dX12_readings_30 (by decide) ?_))))))))))
      · omega
      · omega
      · refine cl 26 0 _ _ _ _ _ rfl (by simp (disch := (first | omega | (simp (disch := omega) only [ti_ofInt, ti_addc, ti_subc, ti_mulc, ti_cmul, ti_divc, ti_remc, ti_zero, ti_add, ti_sub, ti_neg, if_lt_ti, if_gt_ti, bP_e0, Classical.not_not, tl_i2l]; omega))) only [ti_ofInt, ti_addc, ti_subc, ti_mulc, ti_cmul, ti_divc, ti_remc, ti_zero, ti_add, ti_sub, ti_neg, if_lt_ti, if_gt_ti, bP_e0, Classical.not_not, tl_i2l]; rfl) ?_ ?_ ?_ ?_
        · intro i a b
          unfold mW
          rw [up_nek _ _ (by omega)]
        · unfold mW
          rw [evj, up_same, z0]
          rfl
        · unfold mW
          rw [evj, up_same, z0]
          omega
        · intro a b n1
          rw [up_neo _ _ n1]
          exact hO a b n1
  refine (r_aload_n C dX12_readings_0 rfl rfl (r_iload_n C dX12_readings_1 rfl rfl (r_iload_n C dX12_readings_2 rfl rfl (r_v2I C yv_X12_takes lk_X12_294 dX12_readings_3 rfl nM_0 sM_0 rfl (Nat.le_of_ble_eq_true rfl) (ok_X12_takes ?_) (fun r3 μ3 h3 => (r_if_ne C (tgt := 11) dX12_readings_6 rfl (fun c6 => (r_aload_n C dX12_readings_11 rfl rfl (r_getI C dX12_readings_12 fd_X12_260 nM_0 sM_0 rfl (r_iconst C dX12_readings_15 (r_isub C dX12_readings_16 (r_istore_n C dX12_readings_17 rfl (by decide) ?_)))))) (fun c6 => (r_iconst C dX12_readings_9 (r_iret C dX12_readings_10 ?_)))))))))
  · exact h
  · rcases h3 with ⟨-, q, -⟩ | ⟨hc, -, e⟩
    · rw [q, z0] at c6
      exact absurd rfl c6
    · obtain ⟨t1, t2, t3, t4, t5, t6, t7⟩ := mTk_all h hc e
      have hn := mRd_n t1
      refine main μ3 t1 ?_ (mmc μ3) _ μ3 _ _ _ _ (Nat.le_refl _) (by rw [ti_subc (by omega)]; omega) (fun i a b => by omega) (fun _ _ _ => rfl)
      intro r μ' W w1 w2 w3
      refine Or.inr ⟨hc, fun a b q => by rw [w1 a b (by unfold relM at q; omega)]; exact t6 a b q, W, w2, ?_⟩
      rw [← t2, ← t3, ← t4, ← t5]
      exact w3
  · rcases h3 with ⟨q1, -, q3⟩ | ⟨-, q, -⟩
    · exact Or.inl ⟨q1, rfl, q3⟩
    · rw [q] at c6
      exact absurd c6 (by decide)

