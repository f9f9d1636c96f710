/-! ===== Reader: readings and the nearest ===== -/
/-- nothing of what the reader hears has changed -/
def rSame (μ μ' : kMem) : Prop := ∀ a b : Nat, a < 30 → ¬ (a = 27 ∧ b = 12) → μ'.1 a b = μ.1 a b
theorem rSame_all {μ μ' : kMem} (h : rSame μ μ') : rcs μ' = rcs μ ∧ rmc μ' = rmc μ ∧ ksz μ' = ksz μ ∧ kkd μ' = kkd μ ∧ (kRdOk μ → kRdOk μ') := by
  unfold rSame at h
  have e1 : ksz μ' = ksz μ := by
    funext x
    unfold ksz
    simp (disch := omega) only [h]
  refine ⟨?_, ?_, e1, ?_, ?_⟩
  · unfold rcs
    simp (disch := omega) only [h]
  · unfold rmc
    simp (disch := omega) only [h]
  · funext x p
    unfold kkd
    simp (disch := omega) only [h, e1]
  · intro q
    unfold kRdOk kTpOk kSzOk at q ⊢
    simp (disch := omega) only [h]
    exact q
theorem rSame_lc {μ μ' : kMem} (h : rSame μ μ') : rlc μ' = rlc μ ∧ rsz μ' = rsz μ ∧ rcf μ' = rcf μ ∧ (kRdOk μ → kRdOk μ') ∧ rmc μ' = rmc μ ∧ rcs μ' = rcs μ := by
  obtain ⟨h1, h2, h3, h4, h5⟩ := rSame_all h
  have ez : rsz μ' = rsz μ := by funext l; unfold rsz; rw [h3]
  have ek : rkd μ' = rkd μ := by funext l i; unfold rkd; rw [h4]
  refine ⟨?_, ez, ?_, h5, h2, h1⟩
  · funext j l
    unfold rlc
    rw [h1, h2, ez, ek]
  · funext C j l
    unfold rcf
    rw [h1, h2, ez, ek]
/-- how many READINGS begin with a letter at a mark -/
def rwl (μ : kMem) (W : Nat → Int) (j l : Nat) : Int := if rlc μ j l = -1 then 0 else wbh (rcs μ) (rmc μ) W (j + rsz μ l)
def rwe (μ : kMem) (W : Nat → Int) (j : Nat) : Int := min (sumL (rwl μ W j) 26) 1000000000
theorem rwl_congr {μ : kMem} (h : kRdOk μ) {W V : Nat → Int} {j : Nat} (e : ∀ i, j < i → i < rmc μ → W i = V i) : rwl μ W j = rwl μ V j := by
  funext l
  unfold rwl
  by_cases q : rlc μ j l = -1
  · rw [if_pos q, if_pos q]
  · rw [if_neg q, if_neg q]
    have := (rlc_b h j l).2.2 q
    unfold wbh
    by_cases q2 : rmc μ ≤ j + rsz μ l
    · rw [if_pos q2, if_pos q2]
    · rw [if_neg q2, if_neg q2, e _ (by omega) (by omega)]
theorem rwl_b {μ : kMem} (h : kRdOk μ) {W : Nat → Int} {j : Nat} (hW : ∀ i, j < i → i < rmc μ → 0 ≤ W i ∧ W i ≤ 1000000000) (l : Nat) : 0 ≤ rwl μ W j l ∧ rwl μ W j l ≤ 2000000000 := by
  unfold rwl
  by_cases q : rlc μ j l = -1
  · rw [if_pos q]; omega
  · rw [if_neg q]
    have := (rlc_b h j l).2.2 q
    unfold wbh
    by_cases q2 : rmc μ ≤ j + rsz μ l
    · rw [if_pos q2]; omega
    · rw [if_neg q2]
      have hw := hW (j + rsz μ l) (by omega) (by omega)
      have key : ∀ g w : Int, 0 ≤ g → g ≤ 2 → 0 ≤ w → w ≤ 1000000000 → 0 ≤ g * w ∧ g * w ≤ 2000000000 := by
        intro g w a b c d
        exact ⟨Int.mul_nonneg a c, Int.le_trans (Int.mul_le_mul b d c (by decide)) (by decide)⟩
      refine key _ _ ?_ ?_ hw.1 hw.2
      · split <;> split <;> decide
      · split <;> split <;> decide
theorem ok_X7_countAll {μ : kMem} (h : kRdOk μ ∧ 1 ≤ (μ.1 27 7).toInt) : kOk yX7_countAll cX7_countAll 5 (some .int) rmX7_countAll shK 68 [.ref 27] μ (kI fun r μ' => ∃ W : Nat → Int, r.toInt = W 0 ∧ (∀ j, j < rmc μ → W j = rwe μ W j) ∧ ∀ a b : Nat, a ≠ 30 → μ'.1 a b = μ.1 a b) := by
  obtain ⟨h, hm1⟩ := h
  have hm := rmc_i h
  have eS : ∀ μ' : kMem, (∀ a b : Nat, a ≠ 30 → μ'.1 a b = μ.1 a b) → rSame μ μ' := fun μ' hO a b n1 _ => hO a b (by omega)
  have rwb : ∀ (W : Nat → Int) (j : Nat), j < rmc μ → (∀ i, j < i → i < rmc μ → 0 ≤ W i ∧ W i ≤ 1000000000) → 0 ≤ sumL (rwl μ W j) 26 ∧ sumL (rwl μ W j) 26 ≤ 52000000000 := by
    intro W j hj hW
    have := sumL_b (rwl_b h hW) 26
    omega
  refine kOk.of rfl (Nat.le_of_ble_eq_true rfl) (fun J C => ?_)
  have C : kR cX7_countAll RX7 5 rmX7_countAll shK 68 (some .int) _ J := C
  have loop : ∀ (k : Nat) (v : Int32) (μ' : kMem) (z1 z2 : Option Value), k ≤ rmc μ → v.toInt = (k : Int) - 1 → (∀ j, k ≤ j → j < rmc μ → rW μ' j = rwe μ (rW μ') j ∧ 0 ≤ rW μ' j) → (∀ a b : Nat, a ≠ 30 → μ'.1 a b = μ.1 a b) → J 14 [some (.ref 27), some (.int v), z1, none, z2] [] μ' := by
    intro k
    induction k using Nat.strongRecOn with
    | ind k ih =>
      intro v μ' z1 z2 hk hv hI hO
      refine (r_iload_n C dX7_countAll_14 rfl rfl (r_if_lt C (tgt := 85) dX7_countAll_15 rfl (fun c15 => (r_aload_n C dX7_countAll_85 rfl rfl (r_getR C dX7_countAll_86 fd_X7_20 nK_27 sK_27 rfl (r_iconst C dX7_countAll_89 (r_iald C dX7_countAll_90 nK_30 sK_30 (by decide) (r_iret C dX7_countAll_91 ?_)))))) (fun c15 => (r_lconst C dX7_countAll_18 rfl (r_lstore_n C dX7_countAll_19 rfl (by decide) (r_iconst C dX7_countAll_20 (r_istore C dX7_countAll_21 (by decide) ?_)))))))
      · refine ⟨rW μ', rfl, fun j hj => (hI j (by omega) hj).1, hO⟩
      · obtain ⟨j, ej⟩ : ∃ j, k = j + 1 := ⟨k - 1, by omega⟩
        subst ej
        have hrS := rSame_lc (eS μ' hO)
        have hRd := hrS.2.2.2.1 h
        have hWb : ∀ i, j < i → i < rmc μ → 0 ≤ rW μ' i ∧ rW μ' i ≤ 1000000000 := by
          intro i h1 h2
          have := hI i (by omega) h2
          have e : rwe μ (rW μ') i ≤ 1000000000 := Int.min_le_right _ _
          omega
        have hsb := rwb (rW μ') j (by omega) hWb
        have loop2 : ∀ (n l : Nat) (s : Int64) (u : Int32), l + n = 26 → u.toInt = l → s.toInt = sumL (rwl μ (rW μ') j) l → J 23 [some (.ref 27), some (.int v), some (.long s), none, some (.int u)] [] μ' := by
          intro n
          induction n using Nat.strongRecOn with
          | ind n ih2 =>
            intro l s u hl hu hs
            have hsl := sumL_b (rwl_b h hWb) l
            have hrl := rwl_b h hWb l
            have evj : v.toInt.toNat = j := by omega
            have euz : (l : Int) = u.toInt := hu.symm
            have hz := rsz_i hRd u.toInt
            have hlc := rlc_b hRd j u.toInt
            have enx : (v + ksz μ' u.toInt).toInt = ((j + rsz μ' u.toInt : Nat) : Int) := by rw [ti_add (by omega)]; omega
            have ilc := ti_ofInt (n := rlc μ' j u.toInt) (by omega)
            have m1 : (Int32.ofInt (-1)).toInt = -1 := by decide
            have m26 : (Int32.ofInt 26).toInt = 26 := by decide
            refine (r_iload C dX7_countAll_23 rfl (r_bipush C dX7_countAll_25 (by decide +kernel) (r_icmp_ge C (tgt := 65) dX7_countAll_27 rfl (fun c27 => (r_aload_n C dX7_countAll_65 rfl rfl (r_getR C dX7_countAll_66 fd_X7_20 nK_27 sK_27 rfl (r_iload_n C dX7_countAll_69 rfl rfl (r_lload_n C dX7_countAll_70 rfl rfl (r_ldc2 C dX7_countAll_71 kc_X7_97 (r_minL C mh_X7_99 dX7_countAll_74 ⟨rfl, rfl⟩ (Nat.le_of_ble_eq_true rfl) (r_l2i C dX7_countAll_77 (r_iast C dX7_countAll_78 nK_30 sK_30 ?_ (r_iinc C dX7_countAll_79 rfl (by decide) (r_goto C (tgt := 14) dX7_countAll_82 rfl ?_))))))))))) (fun c27 => (r_aload_n C dX7_countAll_30 rfl rfl (r_iload_n C dX7_countAll_31 rfl rfl (r_iload C dX7_countAll_32 rfl (r_v2P C yv_X7_letterCost lk_X7_85 dX7_countAll_34 rfl nK_27 sK_27 rfl (Nat.le_of_ble_eq_true rfl) (ok_X7_letterCost ?_) (r_iconst C dX7_countAll_37 (r_icmp_eq C (tgt := 59) dX7_countAll_38 rfl (fun c38 => (r_iinc C dX7_countAll_59 rfl (by decide) (r_goto C (tgt := 23) dX7_countAll_62 rfl ?_))) (fun c38 => (r_lload_n C dX7_countAll_41 rfl rfl (r_aload_n C dX7_countAll_42 rfl rfl (r_iload_n C dX7_countAll_43 rfl rfl (r_aload_n C dX7_countAll_44 rfl rfl (r_getR C dX7_countAll_45 fd_X7_32 nK_27 sK_27 rfl (r_iload C dX7_countAll_48 rfl (r_v1P C yv_X1_sizeOf lk_X7_88 dX7_countAll_50 rfl nK_3 sK_3 rfl (Nat.le_of_ble_eq_true rfl) ok_X1_sizeOf_3 (r_iadd C dX7_countAll_53 (r_v1Q C yv_X7_waysBehind lk_X7_93 dX7_countAll_54 rfl nK_27 sK_27 rfl (Nat.le_of_ble_eq_true rfl) (ok_X7_waysBehind ?_) (r_ladd C dX7_countAll_57 (r_lstore_n C dX7_countAll_58 rfl (by decide) (r_iinc C dX7_countAll_59 rfl (by decide) (r_goto C (tgt := 23) dX7_countAll_62 rfl ?_))))))))))))))))))))))))
            · omega
            · rw [m26] at c27
              have el : l = 26 := by omega
              subst el
              have e97 : (1000000000 : Int64).toInt = 1000000000 := by decide +kernel
              have emin : (if (1000000000 : Int64) < s then (1000000000 : Int64) else s).toInt32.toInt = rwe μ (rW μ') j := by
                rw [tl_l2i (by rw [if_lt_tl, e97]; omega), if_lt_tl, e97, hs]
                unfold rwe
                omega
              have eW : ∀ i, i ≠ j → rW (up μ' 30 v.toInt.toNat (if (1000000000 : Int64) < s then (1000000000 : Int64) else s).toInt32) i = rW μ' i := by
                intro i hi
                unfold rW
                rw [up_nek _ _ (by omega)]
              have eWj : rW (up μ' 30 v.toInt.toNat (if (1000000000 : Int64) < s then (1000000000 : Int64) else s).toInt32) j = rwe μ (rW μ') j := by
                unfold rW
                rw [evj, up_same, emin]
                rfl
              have eE : ∀ i, j ≤ i → rwe μ (rW (up μ' 30 v.toInt.toNat (if (1000000000 : Int64) < s then (1000000000 : Int64) else s).toInt32)) i = rwe μ (rW μ') i := by
                intro i hi
                unfold rwe
                rw [rwl_congr h (fun q h1 h2 => eW q (by omega))]
              refine ih j (by omega) _ _ _ _ (by omega) (by simp (disch := (first | omega | (simp (disch := omega) only [ti_ofInt, ti_addc, ti_subc, ti_mulc, ti_cmul, ti_divc, ti_remc, ti_zero, ti_add, ti_sub, ti_neg, if_lt_ti, if_gt_ti, bP_e0, Classical.not_not, tl_i2l]; omega))) only [ti_ofInt, ti_addc, ti_subc, ti_mulc, ti_cmul, ti_divc, ti_remc, ti_zero, ti_add, ti_sub, ti_neg, if_lt_ti, if_gt_ti, bP_e0, Classical.not_not, tl_i2l]; omega) ?_ ?_
              · intro i h1 h2
                rw [eE i h1]
                by_cases e : i = j
                · subst e
                  rw [eWj]
                  refine ⟨rfl, ?_⟩
                  unfold rwe
                  omega
                · rw [eW i e]
                  exact hI i (by omega) h2
              · intro a b n1
                rw [up_neo _ _ n1]
                exact hO a b n1
            · exact ⟨hRd, by omega⟩
            · rw [m26] at c27
              rw [evj, ilc, m1, hrS.1] at c38
              refine ih2 (n - 1) (by omega) (l + 1) _ _ (by omega) (by simp (disch := (first | omega | (simp (disch := omega) only [ti_ofInt, ti_addc, ti_subc, ti_mulc, ti_cmul, ti_divc, ti_remc, ti_zero, ti_add, ti_sub, ti_neg, if_lt_ti, if_gt_ti, bP_e0, Classical.not_not, tl_i2l]; omega))) only [ti_ofInt, ti_addc, ti_subc, ti_mulc, ti_cmul, ti_divc, ti_remc, ti_zero, ti_add, ti_sub, ti_neg, if_lt_ti, if_gt_ti, bP_e0, Classical.not_not, tl_i2l]; omega) ?_
              show s.toInt = sumL (rwl μ (rW μ') j) l + rwl μ (rW μ') j l
              unfold rwl
              rw [euz, if_pos c38, hs]
              unfold rwl
              omega
            · rw [evj, ilc, m1] at c38
              have h9 := hlc.2.2 c38
              refine ⟨hRd, by rw [enx]; omega, by rw [enx]; omega, fun q => ?_⟩
              rw [enx] at q ⊢
              rw [hrS.2.2.2.2.1] at h9
              exact hWb _ (by omega) (by have := rmc_i hRd; rw [hrS.2.2.2.2.1] at this; omega)
            · rw [m26] at c27
              rw [evj, ilc, m1] at c38
              refine ih2 (n - 1) (by omega) (l + 1) _ _ (by omega) (by simp (disch := (first | omega | (simp (disch := omega) only [ti_ofInt, ti_addc, ti_subc, ti_mulc, ti_cmul, ti_divc, ti_remc, ti_zero, ti_add, ti_sub, ti_neg, if_lt_ti, if_gt_ti, bP_e0, Classical.not_not, tl_i2l]; omega))) only [ti_ofInt, ti_addc, ti_subc, ti_mulc, ti_cmul, ti_divc, ti_remc, ti_zero, ti_add, ti_sub, ti_neg, if_lt_ti, if_gt_ti, bP_e0, Classical.not_not, tl_i2l]; omega) ?_
              rw [enx, hrS.2.2.2.2.1, hrS.2.2.2.2.2, hrS.2.1]
              rw [hrS.1] at c38
              have e2 : rwl μ (rW μ') j l = wbh (rcs μ) (rmc μ) (rW μ') (j + rsz μ l) := by
                unfold rwl
                rw [euz, if_neg c38]
              show (s + Int64.ofInt (wbh (rcs μ) (rmc μ) (rW μ') ((j + rsz μ u.toInt : Nat) : Int).toNat)).toInt = sumL (rwl μ (rW μ') j) l + rwl μ (rW μ') j l
              rw [Int.toNat_natCast, ← euz, ← e2]
              rw [tl_add (by rw [tl_ofInt (by omega)]; omega), tl_ofInt (by omega), hs]
        refine loop2 26 0 _ _ rfl (by simp (disch := (first | omega | (simp (disch := omega) only [ti_ofInt, ti_addc, ti_subc, ti_mulc, ti_cmul, ti_divc, ti_remc, ti_zero, ti_add, ti_sub, ti_neg, if_lt_ti, if_gt_ti, bP_e0, Classical.not_not, tl_i2l]; omega))) only [ti_ofInt, ti_addc, ti_subc, ti_mulc, ti_cmul, ti_divc, ti_remc, ti_zero, ti_add, ti_sub, ti_neg, if_lt_ti, if_gt_ti, bP_e0, Classical.not_not, tl_i2l]; rfl) rfl
  refine (r_aload_n C dX7_countAll_0 rfl rfl (r_getR C dX7_countAll_1 fd_X7_20 nK_27 sK_27 rfl (r_iconst C dX7_countAll_4 (r_iconst C dX7_countAll_5 (r_iast C dX7_countAll_6 nK_30 sK_30 (by decide) (r_aload_n C dX7_countAll_7 rfl rfl (r_getI C dX7_countAll_8 fd_X7_76 nK_27 sK_27 rfl (r_iconst C dX7_countAll_11 (r_isub C dX7_countAll_12 (r_istore_n C dX7_countAll_13 rfl (by decide) ?_))))))))))
  refine loop (rmc μ) _ _ _ _ (Nat.le_refl _) (by rw [up_neo _ _ (by decide)]; simp (disch := (first | omega | (simp (disch := omega) only [ti_ofInt, ti_addc, ti_subc, ti_mulc, ti_cmul, ti_divc, ti_remc, ti_zero, ti_add, ti_sub, ti_neg, if_lt_ti, if_gt_ti, bP_e0, Classical.not_not, tl_i2l]; omega))) only [ti_ofInt, ti_addc, ti_subc, ti_mulc, ti_cmul, ti_divc, ti_remc, ti_zero, ti_add, ti_sub, ti_neg, if_lt_ti, if_gt_ti, bP_e0, Classical.not_not, tl_i2l]; omega) (fun j h1 h2 => by omega) (fun a b n1 => by rw [up_neo _ _ n1])
def rF (μ : kMem) : Nat → Int := fun j => (μ.1 32 j).toInt
def rv (μ : kMem) (C : Nat → Int) (j : Nat) : Nat → Int := fun l => rcf μ C j l
theorem rv_congr {μ : kMem} (h : kRdOk μ) {C D : Nat → Int} {j : Nat} (e : ∀ i, j < i → i < rmc μ → C i = D i) : rv μ C j = rv μ D j := by
  funext l
  unfold rv rcf cfr
  have e0 : lcst (rcs μ) (rmc μ) (rsz μ l) (rkd μ l) j = rlc μ j l := rfl
  rw [e0]
  by_cases q : rlc μ j l = -1 ∨ rmc μ ≤ j + rsz μ l
  · rw [if_pos q, if_pos q]
  · have := (rlc_b h j l).2.2 (fun z => q (Or.inl z))
    rw [if_neg q, if_neg q, e _ (by omega) (by omega)]
/-- the costs and first letters are those of the nearest -/
def kNr (μ : kMem) (C F : Nat → Int) (k : Nat) : Prop := ∀ j, k ≤ j → j < rmc μ → C j = (bestF (rv μ C j) 26).1 ∧ F j = (bestF (rv μ C j) 26).2 ∧ -1 ≤ C j ∧ C j ≤ 510 * ((rmc μ : Int) - j)
theorem kNr_congr {μ : kMem} (h : kRdOk μ) {C F C' F' : Nat → Int} {k : Nat} (e1 : ∀ i, k ≤ i → i < rmc μ → C' i = C i) (e2 : ∀ i, k ≤ i → i < rmc μ → F' i = F i) (q : kNr μ C F k) : kNr μ C' F' k := by
  intro j h1 h2
  rw [e1 j h1 h2, e2 j h1 h2, rv_congr h (fun i a b => e1 i (by omega) b)]
  exact q j h1 h2
theorem ok_X7_findNearest {μ : kMem} (h : kRdOk μ ∧ 1 ≤ (μ.1 27 7).toInt) : kOk yX7_findNearest cX7_findNearest 4 (some .int) rmX7_findNearest shK 68 [.ref 27] μ (kI fun r μ' => r = μ'.1 31 0 ∧ kNr μ (rC μ') (rF μ') 0 ∧ ∀ a b : Nat, a ≠ 31 → a ≠ 32 → μ'.1 a b = μ.1 a b) := by
  obtain ⟨h, hm1⟩ := h
  have hm := rmc_i h
  have eS : ∀ μ' : kMem, (∀ a b : Nat, a ≠ 31 → a ≠ 32 → μ'.1 a b = μ.1 a b) → rSame μ μ' := fun μ' hO a b n1 _ => hO a b (by omega) (by omega)
  have m1 : (Int32.ofInt (-1)).toInt = -1 := by decide
  have m26 : (Int32.ofInt 26).toInt = 26 := by decide
  refine kOk.of rfl (Nat.le_of_ble_eq_true rfl) (fun J C => ?_)
  have C : kR cX7_findNearest RX7 4 rmX7_findNearest shK 68 (some .int) _ J := C
  have loop : ∀ (k : Nat) (v : Int32) (μ' : kMem) (z1 z2 : Option Value), k ≤ rmc μ → v.toInt = (k : Int) - 1 → kNr μ (rC μ') (rF μ') k → (∀ a b : Nat, a ≠ 31 → a ≠ 32 → μ'.1 a b = μ.1 a b) → J 14 [some (.ref 27), some (.int v), z1, z2] [] μ' := by
    intro k
    induction k using Nat.strongRecOn with
    | ind k ih =>
      intro v μ' z1 z2 hk hv hI hO
      by_cases hk0 : k = 0
      · subst hk0
        refine (r_iload_n C dX7_findNearest_14 rfl rfl (r_if_lt C (tgt := 98) dX7_findNearest_15 rfl (fun c15 => (r_aload_n C dX7_findNearest_98 rfl rfl (r_getR C dX7_findNearest_99 fd_X7_23 nK_27 sK_27 rfl (r_iconst C dX7_findNearest_102 (r_iald C dX7_findNearest_103 nK_31 sK_31 (by decide) (r_iret C dX7_findNearest_104 ?_)))))) (fun c15 => (r_aload_n C dX7_findNearest_18 rfl rfl (r_getR C dX7_findNearest_19 fd_X7_23 nK_27 sK_27 rfl (r_iload_n C dX7_findNearest_22 rfl rfl (r_iconst C dX7_findNearest_23 (r_iast C dX7_findNearest_24 nK_31 sK_31 ?_ (r_aload_n C dX7_findNearest_25 rfl rfl (r_getR C dX7_findNearest_26 fd_X7_26 nK_27 sK_27 rfl (r_iload_n C dX7_findNearest_29 rfl rfl (r_iconst C dX7_findNearest_30 (r_iast C dX7_findNearest_31 nK_32 sK_32 ?_ (r_iconst C dX7_findNearest_32 (r_istore_n C dX7_findNearest_33 rfl (by decide) ?_)))))))))))))))
        · exact ⟨rfl, hI, hO⟩
        · omega
        · omega
        · omega
      obtain ⟨j, ej⟩ : ∃ j, k = j + 1 := ⟨k - 1, by omega⟩
      subst ej
      have evj : v.toInt.toNat = j := by omega
      have hCb : ∀ i, j < i → i < rmc μ → -1 ≤ rC μ' i ∧ rC μ' i ≤ 510 * ((rmc μ : Int) - i) := fun i a b => (hI i (by omega) b).2.2
      have loop2 : ∀ (n l : Nat) (u : Int32) (μ1 : kMem) (z : Option Value), l + n = 26 → u.toInt = l → (∀ i, j < i → i < rmc μ → rC μ1 i = rC μ' i ∧ rF μ1 i = rF μ' i) → rC μ1 j = (bestF (rv μ (rC μ') j) l).1 → rF μ1 j = (bestF (rv μ (rC μ') j) l).2 → (∀ a b : Nat, a ≠ 31 → a ≠ 32 → μ1.1 a b = μ.1 a b) → J 34 [some (.ref 27), some (.int v), some (.int u), z] [] μ1 := by
        intro n
        induction n using Nat.strongRecOn with
        | ind n ih2 =>
          intro l u μ1 z hl hu hA hC hF hO1
          have hrS := rSame_lc (eS μ1 hO1)
          have hRd := hrS.2.2.2.1 h
          have euz : (l : Int) = u.toInt := hu.symm
          have hb := rcf_b h (C := rC μ') (j := j) hCb l
          have erc : Int32.ofInt (rcf μ1 (rC μ1) v.toInt.toNat u.toInt) = Int32.ofInt (rv μ (rC μ') j l) := by
            rw [evj, ← euz, hrS.2.2.1]
            show Int32.ofInt (rv μ (rC μ1) j l) = _
            rw [rv_congr h (fun i a b => (hA i a b).1)]
          have irc := ti_ofInt (n := rv μ (rC μ') j l) (by have := hb; unfold rv; omega)
          have h31 : (μ1.1 31 v.toInt.toNat).toInt = (bestF (rv μ (rC μ') j) l).1 := by rw [evj]; exact hC
          have esu : bestF (rv μ (rC μ') j) (l + 1) = if ¬ rv μ (rC μ') j l = -1 ∧ ((bestF (rv μ (rC μ') j) l).1 = -1 ∨ rv μ (rC μ') j l < (bestF (rv μ (rC μ') j) l).1) then (rv μ (rC μ') j l, (l : Int)) else bestF (rv μ (rC μ') j) l := rfl
          have keep : ∀ u' : Int32, u'.toInt = u.toInt + 1 → l < 26 → bestF (rv μ (rC μ') j) (l + 1) = bestF (rv μ (rC μ') j) l → ∀ z, J 34 [some (.ref 27), some (.int v), some (.int u'), z] [] μ1 := by
            intro u' h1 h2 h3 z
            exact ih2 (n - 1) (by omega) (l + 1) u' μ1 z (by omega) (by omega) hA (by rw [h3]; exact hC) (by rw [h3]; exact hF) hO1
          have take : ∀ u' : Int32, u'.toInt = u.toInt + 1 → l < 26 → bestF (rv μ (rC μ') j) (l + 1) = (rv μ (rC μ') j l, (l : Int)) → ∀ z, J 34 [some (.ref 27), some (.int v), some (.int u'), z] [] (up (up μ1 31 v.toInt.toNat (Int32.ofInt (rcf μ1 (rC μ1) v.toInt.toNat u.toInt))) 32 v.toInt.toNat u) := by
            intro u' h1 h2 h3 z
            rw [erc, evj]
            refine ih2 (n - 1) (by omega) (l + 1) u' _ z (by omega) (by omega) ?_ ?_ ?_ ?_
            · intro i a b
              have n1 : i ≠ j := by omega
              unfold rC rF
              simp (disch := decide) only [up_same, up_neo, up_nek, up_2]
              rw [up_nek _ _ n1, up_nek _ _ n1]
              exact hA i a b
            · rw [h3]
              unfold rC
              simp (disch := decide) only [up_same, up_neo, up_nek, up_2]
              exact irc
            · rw [h3]
              unfold rF
              simp (disch := decide) only [up_same, up_neo, up_nek, up_2]
              exact hu
            · intro a b n1 n2
              rw [up_neo _ _ n2, up_neo _ _ n1]
              exact hO1 a b n1 n2
          refine (r_iload_n C dX7_findNearest_34 rfl rfl (r_bipush C dX7_findNearest_35 (by decide +kernel) (r_icmp_ge C (tgt := 92) dX7_findNearest_37 rfl (fun c37 => (r_iinc C dX7_findNearest_92 rfl (by decide) (r_goto C (tgt := 14) dX7_findNearest_95 rfl ?_))) (fun c37 => (r_aload_n C dX7_findNearest_40 rfl rfl (r_iload_n C dX7_findNearest_41 rfl rfl (r_iload_n C dX7_findNearest_42 rfl rfl (r_v2P C yv_X7_costFrom lk_X7_105 dX7_findNearest_43 rfl nK_27 sK_27 rfl (Nat.le_of_ble_eq_true rfl) (ok_X7_costFrom ?_) (r_istore_n C dX7_findNearest_46 rfl (by decide) (r_iload_n C dX7_findNearest_47 rfl rfl (r_iconst C dX7_findNearest_48 (r_icmp_eq C (tgt := 86) dX7_findNearest_49 rfl (fun c49 => (r_iinc C dX7_findNearest_86 rfl (by decide) (r_goto C (tgt := 34) dX7_findNearest_89 rfl ?_))) (fun c49 => (r_aload_n C dX7_findNearest_52 rfl rfl (r_getR C dX7_findNearest_53 fd_X7_23 nK_27 sK_27 rfl (r_iload_n C dX7_findNearest_56 rfl rfl (r_iald C dX7_findNearest_57 nK_31 sK_31 ?_ (r_iconst C dX7_findNearest_58 (r_icmp_eq C (tgt := 72) dX7_findNearest_59 rfl (fun c59 => (r_aload_n C dX7_findNearest_72 rfl rfl (r_getR C dX7_findNearest_73 fd_X7_23 nK_27 sK_27 rfl (r_iload_n C dX7_findNearest_76 rfl rfl (r_iload_n C dX7_findNearest_77 rfl rfl (r_iast C dX7_findNearest_78 nK_31 sK_31 ?_ (r_aload_n C dX7_findNearest_79 rfl rfl (r_getR C dX7_findNearest_80 fd_X7_26 nK_27 sK_27 rfl (r_iload_n C dX7_findNearest_83 rfl rfl (r_iload_n C dX7_findNearest_84 rfl rfl (r_iast C dX7_findNearest_85 nK_32 sK_32 ?_ (r_iinc C dX7_findNearest_86 rfl (by decide) (r_goto C (tgt := 34) dX7_findNearest_89 rfl ?_))))))))))))) (fun c59 => (r_iload_n C dX7_findNearest_62 rfl rfl (r_aload_n C dX7_findNearest_63 rfl rfl (r_getR C dX7_findNearest_64 fd_X7_23 nK_27 sK_27 rfl (r_iload_n C dX7_findNearest_67 rfl rfl (r_iald C dX7_findNearest_68 nK_31 sK_31 ?_ (r_icmp_ge C (tgt := 86) dX7_findNearest_69 rfl (fun c69 => (r_iinc C dX7_findNearest_86 rfl (by decide) (r_goto C (tgt := 34) dX7_findNearest_89 rfl ?_))) (fun c69 => (r_aload_n C dX7_findNearest_72 rfl rfl (r_getR C dX7_findNearest_73 fd_X7_23 nK_27 sK_27 rfl (r_iload_n C dX7_findNearest_76 rfl rfl (r_iload_n C dX7_findNearest_77 rfl rfl (r_iast C dX7_findNearest_78 nK_31 sK_31 ?_ (r_aload_n C dX7_findNearest_79 rfl rfl (r_getR C dX7_findNearest_80 fd_X7_26 nK_27 sK_27 rfl (r_iload_n C dX7_findNearest_83 rfl rfl (r_iload_n C dX7_findNearest_84 rfl rfl (r_iast C dX7_findNearest_85 nK_32 sK_32 ?_ (r_iinc C dX7_findNearest_86 rfl (by decide) (r_goto C (tgt := 34) dX7_findNearest_89 rfl ?_)))))))))))))))))))))))))))))))))))))))
          · rw [m26] at c37
            have el : l = 26 := by omega
            subst el
            have hN : kNr μ (rC μ1) (rF μ1) j := by
              intro i h1 h2
              rw [rv_congr h (D := rC μ') (fun q a b => (hA q (by omega) b).1)]
              by_cases e : i = j
              · subst e
                rw [hC, hF]
                refine ⟨rfl, rfl, ?_⟩
                rcases bestF_spec (v := rv μ (rC μ') i) (fun l => (rcf_b h hCb l).1) 26 with ⟨p1, p2, p3⟩ | ⟨f, p1, p2, p3, p4, p5⟩
                · rw [p1]; omega
                · have := rcf_b h hCb (f : Int)
                  rw [p3]
                  unfold rv at p4 ⊢
                  omega
              · rw [(hA i (by omega) h2).1, (hA i (by omega) h2).2]
                exact hI i (by omega) h2
            exact ih j (by omega) _ _ _ _ (by omega) (by simp (disch := (first | omega | (simp (disch := omega) only [ti_ofInt, ti_addc, ti_subc, ti_mulc, ti_cmul, ti_divc, ti_remc, ti_zero, ti_add, ti_sub, ti_neg, if_lt_ti, if_gt_ti, bP_e0, Classical.not_not, tl_i2l]; omega))) only [ti_ofInt, ti_addc, ti_subc, ti_mulc, ti_cmul, ti_divc, ti_remc, ti_zero, ti_add, ti_sub, ti_neg, if_lt_ti, if_gt_ti, bP_e0, Classical.not_not, tl_i2l]; omega) hN hO1
          · have hm2 := rmc_i hRd
            rw [hrS.2.2.2.2.1] at hm2
            refine ⟨hRd, by omega, by omega, fun i h1 h2 => ?_⟩
            rw [hrS.2.2.2.2.1] at h2 ⊢
            rw [(hA i (by omega) h2).1]
            exact hCb i (by omega) h2
          · rw [m26] at c37
            rw [erc, irc, m1] at c49
            exact keep _ (by simp (disch := (first | omega | (simp (disch := omega) only [ti_ofInt, ti_addc, ti_subc, ti_mulc, ti_cmul, ti_divc, ti_remc, ti_zero, ti_add, ti_sub, ti_neg, if_lt_ti, if_gt_ti, bP_e0, Classical.not_not, tl_i2l]; omega))) only [ti_ofInt, ti_addc, ti_subc, ti_mulc, ti_cmul, ti_divc, ti_remc, ti_zero, ti_add, ti_sub, ti_neg, if_lt_ti, if_gt_ti, bP_e0, Classical.not_not, tl_i2l]) (by omega) (by rw [esu, if_neg (fun z => z.1 c49)]) _
          · omega
          · omega
          · omega
          · rw [m26] at c37
            rw [erc, irc, m1] at c49
            rw [h31, m1] at c59
            exact take _ (by simp (disch := (first | omega | (simp (disch := omega) only [ti_ofInt, ti_addc, ti_subc, ti_mulc, ti_cmul, ti_divc, ti_remc, ti_zero, ti_add, ti_sub, ti_neg, if_lt_ti, if_gt_ti, bP_e0, Classical.not_not, tl_i2l]; omega))) only [ti_ofInt, ti_addc, ti_subc, ti_mulc, ti_cmul, ti_divc, ti_remc, ti_zero, ti_add, ti_sub, ti_neg, if_lt_ti, if_gt_ti, bP_e0, Classical.not_not, tl_i2l]) (by omega) (by rw [esu, if_pos ⟨c49, Or.inl c59⟩]) _
          · omega
          · rw [m26] at c37
            rw [erc, irc, m1] at c49
            rw [h31, m1] at c59
            rw [erc, irc, h31] at c69
            exact keep _ (by simp (disch := (first | omega | (simp (disch := omega) only [ti_ofInt, ti_addc, ti_subc, ti_mulc, ti_cmul, ti_divc, ti_remc, ti_zero, ti_add, ti_sub, ti_neg, if_lt_ti, if_gt_ti, bP_e0, Classical.not_not, tl_i2l]; omega))) only [ti_ofInt, ti_addc, ti_subc, ti_mulc, ti_cmul, ti_divc, ti_remc, ti_zero, ti_add, ti_sub, ti_neg, if_lt_ti, if_gt_ti, bP_e0, Classical.not_not, tl_i2l]) (by omega) (by rw [esu, if_neg (fun z => by omega)]) _
          · omega
          · omega
          · rw [m26] at c37
            rw [erc, irc, m1] at c49
            rw [h31, m1] at c59
            rw [erc, irc, h31] at c69
            exact take _ (by simp (disch := (first | omega | (simp (disch := omega) only [ti_ofInt, ti_addc, ti_subc, ti_mulc, ti_cmul, ti_divc, ti_remc, ti_zero, ti_add, ti_sub, ti_neg, if_lt_ti, if_gt_ti, bP_e0, Classical.not_not, tl_i2l]; omega))) only [ti_ofInt, ti_addc, ti_subc, ti_mulc, ti_cmul, ti_divc, ti_remc, ti_zero, ti_add, ti_sub, ti_neg, if_lt_ti, if_gt_ti, bP_e0, Classical.not_not, tl_i2l]) (by omega) (by rw [esu, if_pos ⟨c49, Or.inr (by omega)⟩]) _
      refine (r_iload_n C dX7_findNearest_14 rfl rfl (r_if_lt C (tgt := 98) dX7_findNearest_15 rfl (fun c15 => (r_aload_n C dX7_findNearest_98 rfl rfl (r_getR C dX7_findNearest_99 fd_X7_23 nK_27 sK_27 rfl (r_iconst C dX7_findNearest_102 (r_iald C dX7_findNearest_103 nK_31 sK_31 (by decide) (r_iret C dX7_findNearest_104 ?_)))))) (fun c15 => (r_aload_n C dX7_findNearest_18 rfl rfl (r_getR C dX7_findNearest_19 fd_X7_23 nK_27 sK_27 rfl (r_iload_n C dX7_findNearest_22 rfl rfl (r_iconst C dX7_findNearest_23 (r_iast C dX7_findNearest_24 nK_31 sK_31 ?_ (r_aload_n C dX7_findNearest_25 rfl rfl (r_getR C dX7_findNearest_26 fd_X7_26 nK_27 sK_27 rfl (r_iload_n C dX7_findNearest_29 rfl rfl (r_iconst C dX7_findNearest_30 (r_iast C dX7_findNearest_31 nK_32 sK_32 ?_ (r_iconst C dX7_findNearest_32 (r_istore_n C dX7_findNearest_33 rfl (by decide) ?_)))))))))))))))
      · omega
      · omega
      · omega
      · rw [evj]
        refine loop2 26 0 _ _ _ rfl (by simp (disch := (first | omega | (simp (disch := omega) only [ti_ofInt, ti_addc, ti_subc, ti_mulc, ti_cmul, ti_divc, ti_remc, ti_zero, ti_add, ti_sub, ti_neg, if_lt_ti, if_gt_ti, bP_e0, Classical.not_not, tl_i2l]; omega))) only [ti_ofInt, ti_addc, ti_subc, ti_mulc, ti_cmul, ti_divc, ti_remc, ti_zero, ti_add, ti_sub, ti_neg, if_lt_ti, if_gt_ti, bP_e0, Classical.not_not, tl_i2l]; rfl) ?_ ?_ ?_ ?_
        · intro i a b
          have n1 : i ≠ j := by omega
          unfold rC rF
          simp (disch := decide) only [up_same, up_neo, up_nek, up_2]
          rw [up_nek _ _ n1, up_nek _ _ n1]
          exact ⟨rfl, rfl⟩
        · unfold rC
          simp (disch := decide) only [up_same, up_neo, up_nek, up_2]
          exact m1
        · unfold rF
          simp (disch := decide) only [up_same, up_neo, up_nek, up_2]
          exact m1
        · intro a b n1 n2
          rw [up_neo _ _ n2, up_neo _ _ n1]
          exact hO a b n1 n2
  refine (r_aload_n C dX7_findNearest_0 rfl rfl (r_getR C dX7_findNearest_1 fd_X7_23 nK_27 sK_27 rfl (r_iconst C dX7_findNearest_4 (r_iconst C dX7_findNearest_5 (r_iast C dX7_findNearest_6 nK_31 sK_31 (by decide) (r_aload_n C dX7_findNearest_7 rfl rfl (r_getI C dX7_findNearest_8 fd_X7_76 nK_27 sK_27 rfl (r_iconst C dX7_findNearest_11 (r_isub C dX7_findNearest_12 (r_istore_n C dX7_findNearest_13 rfl (by decide) ?_))))))))))
  refine loop (rmc μ) _ _ _ _ (Nat.le_refl _) (by rw [up_neo _ _ (by decide)]; simp (disch := (first | omega | (simp (disch := omega) only [ti_ofInt, ti_addc, ti_subc, ti_mulc, ti_cmul, ti_divc, ti_remc, ti_zero, ti_add, ti_sub, ti_neg, if_lt_ti, if_gt_ti, bP_e0, Classical.not_not, tl_i2l]; omega))) only [ti_ofInt, ti_addc, ti_subc, ti_mulc, ti_cmul, ti_divc, ti_remc, ti_zero, ti_add, ti_sub, ti_neg, if_lt_ti, if_gt_ti, bP_e0, Classical.not_not, tl_i2l]; omega) (fun j h1 h2 => by omega) (fun a b n1 n2 => by rw [up_neo _ _ n1])
/-- the letters and blanks of a row, from a mark on -/
noncomputable def wrF (F : Nat → Int) (sz : Int → Nat) (bl : Nat → Prop) (mc : Nat) : Nat → Nat → List Int
  | 0, _ => []
  | f + 1, m => if mc ≤ m then [] else (97 + F m) :: (@ite _ (m + sz (F m) < mc ∧ bl (m + sz (F m))) (Classical.propDecidable _) (32 :: wrF F sz bl mc f (m + sz (F m))) (wrF F sz bl mc f (m + sz (F m))))
theorem wrF_stop {F : Nat → Int} {sz : Int → Nat} {bl : Nat → Prop} {mc m : Nat} (f : Nat) (h : mc ≤ m) : wrF F sz bl mc f m = [] := by
  cases f with
  | zero => rfl
  | succ f => unfold wrF; rw [if_pos h]
def kRow (L : List Int) (μ : kMem) : Prop := (μ.1 27 12).toInt = L.length ∧ ∀ j (hj : j < L.length), (μ.1 33 j).toInt = L[j]
theorem kRow_add {L : List Int} {μ : kMem} (h : kRow L μ) {x : Int32} (hL : L.length < 120) : kRow (L ++ [x.toInt]) (up (up μ 33 (μ.1 27 12).toInt.toNat x) 27 12 (Int32.ofInt ((μ.1 27 12).toInt + 1))) := by
  obtain ⟨h1, h2⟩ := h
  refine ⟨?_, ?_⟩
  · simp (disch := decide) only [up_same, up_neo, up_nek, up_2]
    rw [h1, ti_ofInt (by omega)]
    simp
  · intro j hj
    simp (disch := decide) only [up_same, up_neo, up_nek, up_2]
    rw [h1, Int.toNat_natCast]
    by_cases e : j = L.length
    · subst e
      rw [up_same]
      simp
    · have hj2 : j < L.length := by simp at hj; omega
      rw [up_nek _ _ e, h2 j hj2, List.getElem_append_left hj2]
/-- a blank stands ahead of a mark -/
def rbl (μ : kMem) (m : Nat) : Prop := ¬ rcs μ (2 * m - 1) 3 = gcst (rcs μ) m
theorem rbl_same {μ μ' : kMem} (h : rSame μ μ') : rbl μ' = rbl μ := by
  unfold rbl
  rw [(rSame_all h).1]
/-- on the way of the nearest every letter has marks, and the way goes on -/
theorem kNr_step {μ : kMem} (h : kRdOk μ) {C F : Nat → Int} (hN : kNr μ C F 0) {j : Nat} (hj : j < rmc μ) (hC : ¬ C j = -1) : 0 ≤ F j ∧ F j < 26 ∧ 0 < rsz μ (F j) ∧ j + rsz μ (F j) ≤ rmc μ ∧ (j + rsz μ (F j) < rmc μ → ¬ C (j + rsz μ (F j)) = -1) ∧ C j = rcf μ C j (F j) := by
  obtain ⟨h1, h2, h3, h4⟩ := hN j (Nat.zero_le _) hj
  have hCb : ∀ i, j < i → i < rmc μ → -1 ≤ C i ∧ C i ≤ 510 * ((rmc μ : Int) - i) := fun i a b => (hN i (Nat.zero_le _) b).2.2
  rcases bestF_spec (v := rv μ C j) (fun l => (rcf_b h hCb l).1) 26 with ⟨p1, p2, p3⟩ | ⟨f, p1, p2, p3, p4, p5⟩
  · exact absurd (by rw [h1, p1]) hC
  · have eF : F j = (f : Int) := by rw [h2, p2]
    rw [eF]
    have e0 : lcst (rcs μ) (rmc μ) (rsz μ f) (rkd μ f) j = rlc μ j f := rfl
    have e4 : rv μ C j f = if rlc μ j f = -1 ∨ rmc μ ≤ j + rsz μ f then rlc μ j f else if gcst (rcs μ) (j + rsz μ f) = -1 ∨ C (j + rsz μ f) = -1 then -1 else rlc μ j f + gcst (rcs μ) (j + rsz μ f) + C (j + rsz μ f) := by
      unfold rv rcf cfr
      rw [e0]
    have q1 : ¬ rlc μ j f = -1 := by
      intro q
      rw [e4, if_pos (Or.inl q)] at p4
      exact p4 q
    have hlc := (rlc_b h j f).2.2 q1
    refine ⟨by omega, by omega, hlc.1, hlc.2, fun q2 q3 => ?_, ?_⟩
    · rw [e4, if_neg (by omega), if_pos (Or.inr q3)] at p4
      exact p4 rfl
    · rw [h1, p3]
      rfl
theorem ok_X7_writeNearest {μ : kMem} (h : kRdOk μ ∧ kNr μ (rC μ) (rF μ) 0 ∧ ¬ rC μ 0 = -1) : kOk yX7_writeNearest cX7_writeNearest 4 (none) rmX7_writeNearest shK 68 [.ref 27] μ (kN fun μ' => kRow (wrF (rF μ) (rsz μ) (rbl μ) (rmc μ) 60 0) μ' ∧ ∀ a b : Nat, ¬ (a = 27 ∧ b = 12) → a ≠ 33 → μ'.1 a b = μ.1 a b) := by
  obtain ⟨h, hN, hC0⟩ := h
  have hm := rmc_i h
  have m1 : (Int32.ofInt (-1)).toInt = -1 := by decide
  have m97 : (Int32.ofInt 97).toInt = 97 := by decide
  have m3 : (Int32.ofInt 3).toInt = 3 := by decide
  have m32 : (Int32.ofInt 32).toInt = 32 := by decide
  have eS : ∀ μ' : kMem, (∀ a b : Nat, ¬ (a = 27 ∧ b = 12) → a ≠ 33 → μ'.1 a b = μ.1 a b) → rSame μ μ' := fun μ' hO a b n1 n2 => hO a b n2 (by omega)
  refine kOk.of rfl (Nat.le_of_ble_eq_true rfl) (fun J C => ?_)
  have C : kR cX7_writeNearest RX7 4 rmX7_writeNearest shK 68 (none) _ J := C
  have loop : ∀ (f m : Nat) (L : List Int) (v u : Int32) (μ' : kMem) (z : Option Value), f ≤ 60 → v.toInt = m → u.toInt = (60 : Int) - f → kRow L μ' → L.length + 2 * (rmc μ - m) ≤ 120 → m ≤ rmc μ → rmc μ - m ≤ f → (m < rmc μ → ¬ rC μ m = -1) → L ++ wrF (rF μ) (rsz μ) (rbl μ) (rmc μ) f m = wrF (rF μ) (rsz μ) (rbl μ) (rmc μ) 60 0 → (∀ a b : Nat, ¬ (a = 27 ∧ b = 12) → a ≠ 33 → μ'.1 a b = μ.1 a b) → J 9 [some (.ref 27), some (.int v), some (.int u), z] [] μ' := by
    intro f
    induction f using Nat.strongRecOn with
    | ind f ih =>
      intro m L v u μ' z hf hv hu hR hL hm2 hf2 hC hW hO
      have hmc' : (μ'.1 27 7).toInt = rmc μ := by rw [hO 27 7 (by decide) (by decide)]; omega
      have m60 : (Int32.ofInt 60).toInt = 60 := by decide
      by_cases hmm : rmc μ ≤ m
      · rw [wrF_stop f hmm, List.append_nil] at hW
        rw [hW] at hR
        refine (r_iload_n C dX7_writeNearest_9 rfl rfl (r_bipush C dX7_writeNearest_10 (by decide +kernel) (r_icmp_ge C (tgt := 93) dX7_writeNearest_12 rfl (fun c12 => (r_ret C dX7_writeNearest_93 ?_)) (fun c12 => (r_iload_n C dX7_writeNearest_15 rfl rfl (r_aload_n C dX7_writeNearest_16 rfl rfl (r_getI C dX7_writeNearest_17 fd_X7_76 nK_27 sK_27 rfl (r_icmp_ge C (tgt := 93) dX7_writeNearest_20 rfl (fun c20 => (r_ret C dX7_writeNearest_93 ?_)) (fun c20 => (r_aload_n C dX7_writeNearest_23 rfl rfl (r_getR C dX7_writeNearest_24 fd_X7_26 nK_27 sK_27 rfl (r_iload_n C dX7_writeNearest_27 rfl rfl (r_iald C dX7_writeNearest_28 nK_32 sK_32 ?_ (r_istore_n C dX7_writeNearest_29 rfl (by decide) (r_iload_n C dX7_writeNearest_30 rfl rfl (r_iconst C dX7_writeNearest_31 (r_icmp_ne C (tgt := 36) dX7_writeNearest_32 rfl (fun c32 => (r_aload_n C dX7_writeNearest_36 rfl rfl (r_bipush C dX7_writeNearest_37 (by decide +kernel) (r_iload_n C dX7_writeNearest_39 rfl rfl (r_iadd C dX7_writeNearest_40 (r_v1N C yv_X7_write lk_X7_111 dX7_writeNearest_41 rfl nK_27 sK_27 rfl (Nat.le_of_ble_eq_true rfl) (ok_X7_write ?_) (fun μ41 h41 => (r_iload_n C dX7_writeNearest_44 rfl rfl (r_aload_n C dX7_writeNearest_45 rfl rfl (r_getR C dX7_writeNearest_46 fd_X7_32 nK_27 sK_27 rfl (r_iload_n C dX7_writeNearest_49 rfl rfl (r_v1P C yv_X1_sizeOf lk_X7_88 dX7_writeNearest_50 rfl nK_3 sK_3 rfl (Nat.le_of_ble_eq_true rfl) ok_X1_sizeOf_3 (r_iadd C dX7_writeNearest_53 (r_istore_n C dX7_writeNearest_54 rfl (by decide) (r_iload_n C dX7_writeNearest_55 rfl rfl (r_aload_n C dX7_writeNearest_56 rfl rfl (r_getI C dX7_writeNearest_57 fd_X7_76 nK_27 sK_27 rfl (r_icmp_ge C (tgt := 87) dX7_writeNearest_60 rfl (fun c60 => (r_iinc C dX7_writeNearest_87 rfl (by decide) (r_goto C (tgt := 9) dX7_writeNearest_90 rfl ?_))) (fun c60 => (r_aload_n C dX7_writeNearest_63 rfl rfl (r_iconst C dX7_writeNearest_64 (r_iload_n C dX7_writeNearest_65 rfl rfl (r_imul C dX7_writeNearest_66 (r_iconst C dX7_writeNearest_67 (r_isub C dX7_writeNearest_68 (r_iconst C dX7_writeNearest_69 (r_v2P C yv_X7_costOf lk_X7_102 dX7_writeNearest_70 rfl nK_27 sK_27 rfl (Nat.le_of_ble_eq_true rfl) (ok_X7_costOf ?_) (r_aload_n C dX7_writeNearest_73 rfl rfl (r_iload_n C dX7_writeNearest_74 rfl rfl (r_v1P C yv_X7_gapCost lk_X7_115 dX7_writeNearest_75 rfl nK_27 sK_27 rfl (Nat.le_of_ble_eq_true rfl) (ok_X7_gapCost ?_) (r_icmp_eq C (tgt := 87) dX7_writeNearest_78 rfl (fun c78 => (r_iinc C dX7_writeNearest_87 rfl (by decide) (r_goto C (tgt := 9) dX7_writeNearest_90 rfl ?_))) (fun c78 => (r_aload_n C dX7_writeNearest_81 rfl rfl (r_bipush C dX7_writeNearest_82 (by decide +kernel) (r_v1N C yv_X7_write lk_X7_111 dX7_writeNearest_84 rfl nK_27 sK_27 rfl (Nat.le_of_ble_eq_true rfl) (ok_X7_write ?_) (fun μ84 h84 => (r_iinc C dX7_writeNearest_87 rfl (by decide) (r_goto C (tgt := 9) dX7_writeNearest_90 rfl ?_)))))))))))))))))))))))))))))))))))))) (fun c32 => (r_ret C dX7_writeNearest_35 ?_)))))))))))))))))))
        · exact ⟨hR, hO⟩
        · exact ⟨hR, hO⟩
        all_goals (exfalso; omega)
      have hlt : m < rmc μ := by omega
      obtain ⟨q1, q2, q3, q4, q5, -⟩ := kNr_step h hN hlt (hC hlt)
      have evm : v.toInt.toNat = m := by omega
      have eF : (μ'.1 32 v.toInt.toNat).toInt = rF μ m := by rw [evm, hO 32 m (by omega) (by omega)]; rfl
      have ew97 : (Int32.ofInt 97 + μ'.1 32 v.toInt.toNat).toInt = 97 + rF μ m := by rw [ti_add (by omega), m97, eF]
      have A : ∀ μ1 : kMem, ((μ'.1 27 12).toInt < 120 ∧ μ1 = up (up μ' 33 (μ'.1 27 12).toInt.toNat (Int32.ofInt 97 + μ'.1 32 v.toInt.toNat)) 27 12 (Int32.ofInt ((μ'.1 27 12).toInt + 1))) ∨ (120 ≤ (μ'.1 27 12).toInt ∧ μ1 = μ') → kRow (L ++ [97 + rF μ m]) μ1 ∧ ∀ a b : Nat, ¬ (a = 27 ∧ b = 12) → a ≠ 33 → μ1.1 a b = μ.1 a b := by
        intro μ1 q
        have hr1 := hR.1
        rcases q with ⟨-, q⟩ | ⟨q, -⟩
        · subst q
          refine ⟨?_, fun a b n1 n2 => ?_⟩
          · have := kRow_add hR (x := Int32.ofInt 97 + μ'.1 32 v.toInt.toNat) (by omega)
            rw [ew97] at this
            exact this
          · rw [up_ne _ _ (by omega), up_neo _ _ n2]
            exact hO a b n1 n2
        · omega
      have B : ∀ μ1 μ2 : kMem, (kRow (L ++ [97 + rF μ m]) μ1 ∧ ∀ a b : Nat, ¬ (a = 27 ∧ b = 12) → a ≠ 33 → μ1.1 a b = μ.1 a b) → ((μ1.1 27 12).toInt < 120 ∧ μ2 = up (up μ1 33 (μ1.1 27 12).toInt.toNat (Int32.ofInt 32)) 27 12 (Int32.ofInt ((μ1.1 27 12).toInt + 1))) ∨ (120 ≤ (μ1.1 27 12).toInt ∧ μ2 = μ1) → (m + rsz μ (rF μ m) < rmc μ) → kRow (L ++ [97 + rF μ m] ++ [32]) μ2 ∧ ∀ a b : Nat, ¬ (a = 27 ∧ b = 12) → a ≠ 33 → μ2.1 a b = μ.1 a b := by
        intro μ1 μ2 hA q hq
        have hr1 := hA.1.1
        simp only [List.length_append, List.length_cons, List.length_nil] at hr1
        rcases q with ⟨-, q⟩ | ⟨q, -⟩
        · subst q
          refine ⟨?_, fun a b n1 n2 => ?_⟩
          · have := kRow_add hA.1 (x := Int32.ofInt 32) (by simp only [List.length_append, List.length_cons, List.length_nil]; omega)
            rw [m32] at this
            exact this
          · rw [up_ne _ _ (by omega), up_neo _ _ n2]
            exact hA.2 a b n1 n2
        · omega
      have ev' : ∀ μ1 : kMem, (∀ a b : Nat, ¬ (a = 27 ∧ b = 12) → a ≠ 33 → μ1.1 a b = μ.1 a b) → (v + ksz μ1 (μ'.1 32 v.toInt.toNat).toInt).toInt = ((m + rsz μ (rF μ m) : Nat) : Int) := by
        intro μ1 hO1
        have h9 := rSame_all (eS μ1 hO1)
        have h8 := rsz_i h (rF μ m)
        rw [eF, h9.2.2.1, ti_add (by omega)]
        omega
      have eW : ∀ g, f = g + 1 → wrF (rF μ) (rsz μ) (rbl μ) (rmc μ) f m = (97 + rF μ m) :: (@ite _ (m + rsz μ (rF μ m) < rmc μ ∧ rbl μ (m + rsz μ (rF μ m))) (Classical.propDecidable _) (32 :: wrF (rF μ) (rsz μ) (rbl μ) (rmc μ) g (m + rsz μ (rF μ m))) (wrF (rF μ) (rsz μ) (rbl μ) (rmc μ) g (m + rsz μ (rF μ m)))) := by
        intro g hg
        subst hg
        show (if rmc μ ≤ m then [] else _) = _
        rw [if_neg hmm]
      obtain ⟨g, hg⟩ : ∃ g, f = g + 1 := ⟨f - 1, by omega⟩
      rw [eW g hg] at hW
      have iu : (u + Int32.ofInt 1).toInt = (60 : Int) - (g : Nat) := by rw [ti_addc (by omega)]; omega
      have noblank : ∀ (μ1 : kMem) (v' : Int32) (z : Option Value), v'.toInt = ((m + rsz μ (rF μ m) : Nat) : Int) → (kRow (L ++ [97 + rF μ m]) μ1 ∧ ∀ a b : Nat, ¬ (a = 27 ∧ b = 12) → a ≠ 33 → μ1.1 a b = μ.1 a b) → ¬ (m + rsz μ (rF μ m) < rmc μ ∧ rbl μ (m + rsz μ (rF μ m))) → J 9 [some (.ref 27), some (.int v'), some (.int (u + Int32.ofInt 1)), z] [] μ1 := by
        intro μ1 v' z h1 h2 h3
        rw [if_neg h3] at hW
        refine ih g (by omega) _ _ v' _ μ1 z (by omega) h1 iu h2.1 (by simp only [List.length_append, List.length_cons, List.length_nil]; omega) q4 (by omega) q5 ?_ h2.2
        rw [← hW, List.append_assoc]
        rfl
      have blank : ∀ (μ1 : kMem) (v' : Int32) (z : Option Value), v'.toInt = ((m + rsz μ (rF μ m) : Nat) : Int) → (kRow (L ++ [97 + rF μ m] ++ [32]) μ1 ∧ ∀ a b : Nat, ¬ (a = 27 ∧ b = 12) → a ≠ 33 → μ1.1 a b = μ.1 a b) → (m + rsz μ (rF μ m) < rmc μ ∧ rbl μ (m + rsz μ (rF μ m))) → J 9 [some (.ref 27), some (.int v'), some (.int (u + Int32.ofInt 1)), z] [] μ1 := by
        intro μ1 v' z h1 h2 h3
        rw [if_pos h3] at hW
        refine ih g (by omega) _ _ v' _ μ1 z (by omega) h1 iu h2.1 (by simp only [List.length_append, List.length_cons, List.length_nil]; omega) q4 (by omega) q5 ?_ h2.2
        rw [← hW, List.append_assoc, List.append_assoc]
        rfl
      have e2 : ∀ v' : Int32, v'.toInt = ((m + rsz μ (rF μ m) : Nat) : Int) → (Int32.ofInt 2 * v' - Int32.ofInt 1).toInt = 2 * v'.toInt - 1 := by
        intro v' q
        simp (disch := (first | omega | (simp (disch := (first | omega | (simp (disch := (first | omega | (simp (disch := omega) only [ti_ofInt, ti_addc, ti_subc, ti_mulc, ti_cmul, ti_divc, ti_remc, ti_zero, ti_add, ti_sub, ti_neg, if_lt_ti, if_gt_ti, bP_e0, Classical.not_not, tl_i2l]; omega))) only [ti_ofInt, ti_addc, ti_subc, ti_mulc, ti_cmul, ti_divc, ti_remc, ti_zero, ti_add, ti_sub, ti_neg, if_lt_ti, if_gt_ti, bP_e0, Classical.not_not, tl_i2l]; omega))) only [ti_ofInt, ti_addc, ti_subc, ti_mulc, ti_cmul, ti_divc, ti_remc, ti_zero, ti_add, ti_sub, ti_neg, if_lt_ti, if_gt_ti, bP_e0, Classical.not_not, tl_i2l]; omega))) only [ti_ofInt, ti_addc, ti_subc, ti_mulc, ti_cmul, ti_divc, ti_remc, ti_zero, ti_add, ti_sub, ti_neg, if_lt_ti, if_gt_ti, bP_e0, Classical.not_not, tl_i2l]
      have hbl : ∀ (μ1 : kMem) (v' : Int32), (kRow (L ++ [97 + rF μ m]) μ1 ∧ ∀ a b : Nat, ¬ (a = 27 ∧ b = 12) → a ≠ 33 → μ1.1 a b = μ.1 a b) → v'.toInt = ((m + rsz μ (rF μ m) : Nat) : Int) → (((Int32.ofInt (rcs μ1 (Int32.ofInt 2 * v' - Int32.ofInt 1).toInt.toNat (Int32.ofInt 3).toInt)).toInt = (Int32.ofInt (gcst (rcs μ1) v'.toInt.toNat)).toInt) ↔ ¬ rbl μ (m + rsz μ (rF μ m))) := by
        intro μ1 v' h1 h2
        have h9 := rSame_all (eS μ1 h1.2)
        rw [e2 v' h2, h9.1, m3, h2, Int.toNat_natCast, show (2 * ((m + rsz μ (rF μ m) : Nat) : Int) - 1).toNat = 2 * (m + rsz μ (rF μ m)) - 1 by omega]
        have b1 := rcs_b h (2 * (m + rsz μ (rF μ m)) - 1) 3
        have b2 := gcst_b (rcs_b h) (m + rsz μ (rF μ m))
        rw [ti_ofInt (by omega), ti_ofInt (by omega)]
        unfold rbl
        rw [Classical.not_not]
      refine (r_iload_n C dX7_writeNearest_9 rfl rfl (r_bipush C dX7_writeNearest_10 (by decide +kernel) (r_icmp_ge C (tgt := 93) dX7_writeNearest_12 rfl (fun c12 => (r_ret C dX7_writeNearest_93 ?_)) (fun c12 => (r_iload_n C dX7_writeNearest_15 rfl rfl (r_aload_n C dX7_writeNearest_16 rfl rfl (r_getI C dX7_writeNearest_17 fd_X7_76 nK_27 sK_27 rfl (r_icmp_ge C (tgt := 93) dX7_writeNearest_20 rfl (fun c20 => (r_ret C dX7_writeNearest_93 ?_)) (fun c20 => (r_aload_n C dX7_writeNearest_23 rfl rfl (r_getR C dX7_writeNearest_24 fd_X7_26 nK_27 sK_27 rfl (r_iload_n C dX7_writeNearest_27 rfl rfl (r_iald C dX7_writeNearest_28 nK_32 sK_32 ?_ (r_istore_n C dX7_writeNearest_29 rfl (by decide) (r_iload_n C dX7_writeNearest_30 rfl rfl (r_iconst C dX7_writeNearest_31 (r_icmp_ne C (tgt := 36) dX7_writeNearest_32 rfl (fun c32 => (r_aload_n C dX7_writeNearest_36 rfl rfl (r_bipush C dX7_writeNearest_37 (by decide +kernel) (r_iload_n C dX7_writeNearest_39 rfl rfl (r_iadd C dX7_writeNearest_40 (r_v1N C yv_X7_write lk_X7_111 dX7_writeNearest_41 rfl nK_27 sK_27 rfl (Nat.le_of_ble_eq_true rfl) (ok_X7_write ?_) (fun μ41 h41 => (r_iload_n C dX7_writeNearest_44 rfl rfl (r_aload_n C dX7_writeNearest_45 rfl rfl (r_getR C dX7_writeNearest_46 fd_X7_32 nK_27 sK_27 rfl (r_iload_n C dX7_writeNearest_49 rfl rfl (r_v1P C yv_X1_sizeOf lk_X7_88 dX7_writeNearest_50 rfl nK_3 sK_3 rfl (Nat.le_of_ble_eq_true rfl) ok_X1_sizeOf_3 (r_iadd C dX7_writeNearest_53 (r_istore_n C dX7_writeNearest_54 rfl (by decide) (r_iload_n C dX7_writeNearest_55 rfl rfl (r_aload_n C dX7_writeNearest_56 rfl rfl (r_getI C dX7_writeNearest_57 fd_X7_76 nK_27 sK_27 rfl (r_icmp_ge C (tgt := 87) dX7_writeNearest_60 rfl (fun c60 => (r_iinc C dX7_writeNearest_87 rfl (by decide) (r_goto C (tgt := 9) dX7_writeNearest_90 rfl ?_))) (fun c60 => (r_aload_n C dX7_writeNearest_63 rfl rfl (r_iconst C dX7_writeNearest_64 (r_iload_n C dX7_writeNearest_65 rfl rfl (r_imul C dX7_writeNearest_66 (r_iconst C dX7_writeNearest_67 (r_isub C dX7_writeNearest_68 (r_iconst C dX7_writeNearest_69 (r_v2P C yv_X7_costOf lk_X7_102 dX7_writeNearest_70 rfl nK_27 sK_27 rfl (Nat.le_of_ble_eq_true rfl) (ok_X7_costOf ?_) (r_aload_n C dX7_writeNearest_73 rfl rfl (r_iload_n C dX7_writeNearest_74 rfl rfl (r_v1P C yv_X7_gapCost lk_X7_115 dX7_writeNearest_75 rfl nK_27 sK_27 rfl (Nat.le_of_ble_eq_true rfl) (ok_X7_gapCost ?_) (r_icmp_eq C (tgt := 87) dX7_writeNearest_78 rfl (fun c78 => (r_iinc C dX7_writeNearest_87 rfl (by decide) (r_goto C (tgt := 9) dX7_writeNearest_90 rfl ?_))) (fun c78 => (r_aload_n C dX7_writeNearest_81 rfl rfl (r_bipush C dX7_writeNearest_82 (by decide +kernel) (r_v1N C yv_X7_write lk_X7_111 dX7_writeNearest_84 rfl nK_27 sK_27 rfl (Nat.le_of_ble_eq_true rfl) (ok_X7_write ?_) (fun μ84 h84 => (r_iinc C dX7_writeNearest_87 rfl (by decide) (r_goto C (tgt := 9) dX7_writeNearest_90 rfl ?_)))))))))))))))))))))))))))))))))))))) (fun c32 => (r_ret C dX7_writeNearest_35 ?_)))))))))))))))))))
      · rw [m60] at c12; omega
      · omega
      · omega
      · rw [hR.1]; omega
      · have hA := A μ41 h41
        have e9 := ev' μ41 hA.2
        have hmc1 : (μ41.1 27 7).toInt = rmc μ := by rw [hA.2 27 7 (by decide) (by decide)]; omega
        exact noblank _ _ _ e9 hA (fun z => by omega)
      · have hA := A μ41 h41
        have e9 := ev' μ41 hA.2
        exact ⟨(rSame_all (eS μ41 hA.2)).2.2.2.2 h, by rw [e2 _ e9]; omega⟩
      · have hA := A μ41 h41
        have e9 := ev' μ41 hA.2
        exact ⟨(rSame_all (eS μ41 hA.2)).2.2.2.2 h, by omega, by omega⟩
      · have hA := A μ41 h41
        have e9 := ev' μ41 hA.2
        exact noblank _ _ _ e9 hA (fun z => (hbl _ _ hA e9).mp c78 z.2)
      · have hA := A μ41 h41
        rw [hA.1.1]; omega
      · have hA := A μ41 h41
        have e9 := ev' μ41 hA.2
        have hmc1 : (μ41.1 27 7).toInt = rmc μ := by rw [hA.2 27 7 (by decide) (by decide)]; omega
        have hlt2 : m + rsz μ (rF μ m) < rmc μ := by omega
        exact blank _ _ _ e9 (B _ _ hA h84 hlt2) ⟨hlt2, Classical.not_not.mp (fun z => c78 ((hbl _ _ hA e9).mpr z))⟩
      · exfalso
        rw [eF, m1] at c32
        omega
  refine (r_aload_n C dX7_writeNearest_0 rfl rfl (r_iconst C dX7_writeNearest_1 (r_putI C dX7_writeNearest_2 fw_X7_108 nK_27 sK_27 rfl (r_iconst C dX7_writeNearest_5 (r_istore_n C dX7_writeNearest_6 rfl (by decide) (r_iconst C dX7_writeNearest_7 (r_istore_n C dX7_writeNearest_8 rfl (by decide) ?_)))))))
  refine loop 60 0 [] _ _ _ _ (by omega) (by simp (disch := (first | omega | (simp (disch := omega) only [ti_ofInt, ti_addc, ti_subc, ti_mulc, ti_cmul, ti_divc, ti_remc, ti_zero, ti_add, ti_sub, ti_neg, if_lt_ti, if_gt_ti, bP_e0, Classical.not_not, tl_i2l]; omega))) only [ti_ofInt, ti_addc, ti_subc, ti_mulc, ti_cmul, ti_divc, ti_remc, ti_zero, ti_add, ti_sub, ti_neg, if_lt_ti, if_gt_ti, bP_e0, Classical.not_not, tl_i2l]; rfl) (by simp (disch := (first | omega | (simp (disch := omega) only [ti_ofInt, ti_addc, ti_subc, ti_mulc, ti_cmul, ti_divc, ti_remc, ti_zero, ti_add, ti_sub, ti_neg, if_lt_ti, if_gt_ti, bP_e0, Classical.not_not, tl_i2l]; omega))) only [ti_ofInt, ti_addc, ti_subc, ti_mulc, ti_cmul, ti_divc, ti_remc, ti_zero, ti_add, ti_sub, ti_neg, if_lt_ti, if_gt_ti, bP_e0, Classical.not_not, tl_i2l]; rfl) ⟨by simp (disch := decide) only [up_same, up_neo, up_nek, up_2]; simp (disch := (first | omega | (simp (disch := omega) only [ti_ofInt, ti_addc, ti_subc, ti_mulc, ti_cmul, ti_divc, ti_remc, ti_zero, ti_add, ti_sub, ti_neg, if_lt_ti, if_gt_ti, bP_e0, Classical.not_not, tl_i2l]; omega))) only [ti_ofInt, ti_addc, ti_subc, ti_mulc, ti_cmul, ti_divc, ti_remc, ti_zero, ti_add, ti_sub, ti_neg, if_lt_ti, if_gt_ti, bP_e0, Classical.not_not, tl_i2l]; rfl, fun j hj => by simp at hj⟩ (by simp only [List.length_nil]; omega) (by omega) (by omega) (fun _ => hC0) rfl (fun a b n1 n2 => by rw [up_ne _ _ (by omega)])

