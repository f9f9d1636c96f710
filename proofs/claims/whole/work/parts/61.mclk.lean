/-! ===== the model: clocks ===== -/
def mClOk (μ : kMem) : Prop := (0 ≤ (μ.1 0 54).toInt ∧ (μ.1 0 54).toInt ≤ 12) ∧ (0 ≤ (μ.1 0 55).toInt ∧ (μ.1 0 55).toInt ≤ 12) ∧ ∀ i : Nat, (-60 ≤ (μ.1 40 i).toInt ∧ (μ.1 40 i).toInt ≤ (μ.1 41 i).toInt ∧ (μ.1 41 i).toInt ≤ 60) ∧ (0 ≤ (μ.1 42 i).toInt ∧ (μ.1 42 i).toInt < 6) ∧ (0 ≤ (μ.1 43 i).toInt ∧ (μ.1 43 i).toInt ≤ 999) ∧ (0 ≤ (μ.1 44 i).toInt ∧ (μ.1 44 i).toInt < 12) ∧ (0 ≤ (μ.1 45 i).toInt ∧ (μ.1 45 i).toInt < 12) ∧ -99 ≤ (μ.1 46 i).toInt ∧ (μ.1 46 i).toInt ≤ 99
def mo (μ : kMem) : kMat := fun a b => (μ.1 47 (a * 7 + b)).toInt
theorem mo_up {μ : kMem} {i j : Nat} {x : Int32} (hj : j < 7) : ∀ a b, b < 7 → mo (up μ 47 (i * 7 + j) x) a b = if a = i ∧ b = j then x.toInt else mo μ a b := by
  intro a b hb
  unfold mo
  by_cases q : a = i ∧ b = j
  · obtain ⟨rfl, rfl⟩ := q
    rw [if_pos ⟨rfl, rfl⟩, up_same]
  · rw [if_neg q, up_nek _ _ (by omega)]
def moOnly (μ μ' : kMem) : Prop := ∀ a b : Nat, a ≠ 47 → μ'.1 a b = μ.1 a b
theorem ok_X12_bounds {x y v : Int32} {μ : kMem} (h : (0 ≤ x.toInt ∧ x.toInt < 7) ∧ 0 ≤ y.toInt ∧ y.toInt < 7) : kOk yX12_bounds cX12_bounds 4 (none) rmX12_bounds shM 48 [.ref 0, .int x, .int y, .int v] μ (kN fun μ' => moOnly μ μ' ∧ ∀ a b, b < 7 → mo μ' a b = if a = x.toInt.toNat ∧ b = y.toInt.toNat then min (mo μ a b) v.toInt else mo μ a b) := by
  have e7 : (Int32.ofInt 7 * x).toInt = 7 * x.toInt := ti_cmul (by omega)
  have e : (Int32.ofInt 7 * x + y).toInt = 7 * x.toInt + y.toInt := by rw [ti_add (by omega), e7]
  have en : (Int32.ofInt 7 * x + y).toInt.toNat = x.toInt.toNat * 7 + y.toInt.toNat := by omega
  refine kOk.of rfl (Nat.le_of_ble_eq_true rfl) (fun J C => ?_)
  have C : kR cX12_bounds RX12 4 rmX12_bounds shM 48 (none) _ J := C
  refine (r_aload_n C dX12_bounds_0 rfl rfl (r_getR C dX12_bounds_1 fd_X12_144 nM_0 sM_0 rfl (r_bipush C dX12_bounds_4 (by decide +kernel) (r_iload_n C dX12_bounds_6 rfl rfl (r_imul C dX12_bounds_7 (r_iload_n C dX12_bounds_8 rfl rfl (r_iadd C dX12_bounds_9 (r_aload_n C dX12_bounds_10 rfl rfl (r_getR C dX12_bounds_11 fd_X12_144 nM_0 sM_0 rfl (r_bipush C dX12_bounds_14 (by decide +kernel) (r_iload_n C dX12_bounds_16 rfl rfl (r_imul C dX12_bounds_17 (r_iload_n C dX12_bounds_18 rfl rfl (r_iadd C dX12_bounds_19 (r_iald C dX12_bounds_20 nM_47 sM_47 ?_ (r_iload_n C dX12_bounds_21 rfl rfl (r_min C mh_X12_301 dX12_bounds_22 ⟨rfl, rfl⟩ (Nat.le_of_ble_eq_true rfl) (r_iast C dX12_bounds_25 nM_47 sM_47 ?_ (r_ret C dX12_bounds_26 ?_)))))))))))))))))))
  · omega
  · omega
  · rw [en]
    refine ⟨fun a b n1 => up_neo _ _ n1, fun a b hb => ?_⟩
    rw [mo_up (by omega) a b hb]
    by_cases q : a = x.toInt.toNat ∧ b = y.toInt.toNat
    · rw [if_pos q, if_pos q, if_lt_ti, q.1, q.2]
      rfl
    · rw [if_neg q, if_neg q]
def mfo (μ : kMem) : Nat → Nat := fun f => (μ.1 42 (μ.1 44 f).toInt.toNat).toInt.toNat
def mft (μ : kMem) : Nat → Nat := fun f => (μ.1 42 (μ.1 45 f).toInt.toNat).toInt.toNat
def mfw (μ : kMem) : Nat → Int := fun f => (μ.1 43 (μ.1 44 f).toInt.toNat).toInt - (μ.1 43 (μ.1 45 f).toInt.toNat).toInt - (μ.1 46 f).toInt
def mcg (μ : kMem) : Nat → Int := fun s => (μ.1 41 s).toInt
def mcl (μ : kMem) : Nat → Int := fun s => (μ.1 40 s).toInt
def mcm (μ : kMem) : kMat := bfm (mfo μ) (mft μ) (mfw μ) (b7F (mcg μ) (mcl μ)) (μ.1 0 55).toInt.toNat
theorem mcm_low {μ : kMem} (h : mClOk μ) {k : Nat} (hk : k ≤ 6) {a b : Nat} (ha : a < 7) (hb : b < 7) : -52000000 ≤ fw 7 (mcm μ) k a b ∧ fw 7 (mcm μ) k a b ≤ 100000 := by
  have b0 : ∀ a b, a < 7 → b < 7 → -1098 ≤ b7F (mcg μ) (mcl μ) a b ∧ b7F (mcg μ) (mcl μ) a b ≤ 100000 := fun a b _ _ => by
    have h1 := (h.2.2 a).1
    have h2 := (h.2.2 b).1
    unfold b7F mcg mcl
    split
    · omega
    · split
      · omega
      · split <;> omega
  have hw : ∀ f, -1098 ≤ mfw μ f := fun f => by
    have h1 := (h.2.2 (μ.1 44 f).toInt.toNat).2.2.1
    have h2 := (h.2.2 (μ.1 45 f).toInt.toNat).2.2.1
    have h3 := (h.2.2 f).2.2.2.2.2
    unfold mfw
    omega
  have h1 := fw_low (n := 7) (m := mcm μ) (B := 1098) (by decide) (fun a b ha hb => bfm_low (n := 7) (fun a b ha hb => (b0 a b ha hb).1) hw _ a b ha hb) k (by omega) a b ha hb
  have h2 : fw 7 (mcm μ) (0 + k) a b ≤ mcm μ a b := fw_le hb 0 k
  have h3 : mcm μ a b ≤ b7F (mcg μ) (mcl μ) a b := bfm_le _ a b
  have h4 := (b0 a b ha hb).2
  have h5 : (6 : Int) ^ k ≤ 46656 := by
    rcases (show k = 0 ∨ k = 1 ∨ k = 2 ∨ k = 3 ∨ k = 4 ∨ k = 5 ∨ k = 6 by omega) with rfl | rfl | rfl | rfl | rfl | rfl | rfl <;> decide
  rw [Nat.zero_add] at h2
  omega
def mCan (μ : kMem) : Prop := ∀ a, a < 7 → 0 ≤ fw 7 (mcm μ) 7 a a
theorem ok_X12_canBe {μ : kMem} (h : mClOk μ) : kOk yX12_canBe cX12_canBe 4 (some .boolean) rmX12_canBe shM 48 [.ref 0] μ (kI fun r μ' => moOnly μ μ' ∧ ((r = Int32.ofInt 1 ∧ mCan μ ∧ ∀ a b, a < 7 → b < 7 → mo μ' a b = fw 7 (mcm μ) 7 a b) ∨ (r = Int32.ofInt 0 ∧ ¬ mCan μ))) := by
  have z0 : (Int32.ofInt 0).toInt = 0 := by decide
  have m7 : (Int32.ofInt 7).toInt = 7 := by decide
  have m6 : (Int32.ofInt 6).toInt = 6 := by decide
  have m49 : (Int32.ofInt 49).toInt = 49 := by decide
  have mF : (100000 : Int32).toInt = 100000 := by decide
  obtain ⟨E, hE⟩ : ∃ E : Nat → kMat, E = fw 7 (mcm μ) := ⟨_, rfl⟩
  have hEs : ∀ k, E (k + 1) = tw 7 k (E k) 49 := fun k => by rw [hE]; rfl
  have hE0 : E 0 = mcm μ := by rw [hE]; rfl
  have hEb : ∀ k, k ≤ 6 → ∀ a b, a < 7 → b < 7 → -52000000 ≤ E k a b ∧ E k a b ≤ 100000 := fun k hk a b ha hb => by rw [hE]; exact mcm_low h hk ha hb
  have bd : ∀ k, k ≤ 6 → ∀ p a b, a < 7 → b < 7 → -312000000 ≤ tw 7 k (E k) p a b ∧ tw 7 k (E k) p a b ≤ 100000 := fun k hk p a b ha hb => by
    have h1 := (tw_low (n := 7) (k := k) (m := E k) (B := 52000000) (by omega) (by omega) (fun a b ha hb => (hEb k hk a b ha hb).1) p a b ha hb).2.1
    have h2 := tw_le (k := k) (m := E k) (a := a) hb p
    have h3 := (hEb k hk a b ha hb).2
    omega
  have hCan : mCan μ ↔ ∀ a, a < 7 → 0 ≤ E 7 a a := by rw [hE]; exact Iff.rfl
  refine kOk.of rfl (Nat.le_of_ble_eq_true rfl) (fun J C => ?_)
  have C : kR cX12_canBe RX12 4 rmX12_canBe shM 48 (some .boolean) _ J := C
  have l5 : ∀ (μ' : kMem) (z2 z3 : Option Value), moOnly μ μ' → (∀ a b, a < 7 → b < 7 → mo μ' a b = E 7 a b) → ∀ (n i : Nat) (v : Int32), i + n = 7 → v.toInt = i → (∀ a, a < i → 0 ≤ E 7 a a) → J 220 [some (.ref 0), some (.int v), z2, z3] [] μ' := by
    intro μ' z2 z3 hO hM n
    induction n using Nat.strongRecOn with
    | ind n ih =>
      intro i v hin hv hI
      have e8 : (Int32.ofInt 8 * v).toInt = 8 * v.toInt := ti_cmul (by omega)
      have en : (Int32.ofInt 8 * v).toInt.toNat = i * 7 + i := by omega
      have eV : i < 7 → (μ'.1 47 (Int32.ofInt 8 * v).toInt.toNat).toInt = E 7 i i := fun q => by rw [en]; exact hM i i q q
      refine (r_iload_n C dX12_canBe_220 rfl rfl (r_bipush C dX12_canBe_221 (by decide +kernel) (r_icmp_ge C (tgt := 246) dX12_canBe_223 rfl (fun c223 => (r_iconst C dX12_canBe_246 (r_zret C dX12_canBe_247 rfl ?_))) (fun c223 => (r_aload_n C dX12_canBe_226 rfl rfl (r_getR C dX12_canBe_227 fd_X12_144 nM_0 sM_0 rfl (r_bipush C dX12_canBe_230 (by decide +kernel) (r_iload_n C dX12_canBe_232 rfl rfl (r_imul C dX12_canBe_233 (r_iald C dX12_canBe_234 nM_47 sM_47 ?_ (r_if_ge C (tgt := 240) dX12_canBe_235 rfl (fun c235 => (r_iinc C dX12_canBe_240 rfl (by decide) (r_goto C (tgt := 220) dX12_canBe_243 rfl ?_))) (fun c235 => (r_iconst C dX12_canBe_238 (r_zret C dX12_canBe_239 rfl ?_))))))))))))))
      · rw [m7] at c223
        refine ⟨hO, Or.inl ⟨rfl, hCan.mpr (fun a ha => hI a (by omega)), ?_⟩⟩
        rw [hE] at hM
        exact hM
      · rw [m7] at c223
        omega
      · rw [m7] at c223
        rw [eV (by omega)] at c235
        refine ih (n - 1) (by omega) (i + 1) _ (by omega) (by simp (disch := (first | omega | (simp (disch := omega) only [ti_ofInt, ti_addc, ti_subc, ti_mulc, ti_cmul, ti_divc, ti_remc, ti_zero, ti_add, ti_sub, ti_neg, if_lt_ti, if_gt_ti, bP_e0, Classical.not_not, tl_i2l]; omega))) only [ti_ofInt, ti_addc, ti_subc, ti_mulc, ti_cmul, ti_divc, ti_remc, ti_zero, ti_add, ti_sub, ti_neg, if_lt_ti, if_gt_ti, bP_e0, Classical.not_not, tl_i2l]; omega) (fun a ha => ?_)
        by_cases e : a = i
        · subst e; omega
        · exact hI a (by omega)
      · rw [m7] at c223
        rw [eV (by omega)] at c235
        refine ⟨hO, Or.inr ⟨rfl, fun z => ?_⟩⟩
        have := hCan.mp z i (by omega)
        omega
  have l4 : ∀ (n k : Nat) (v : Int32) (z2 z3 : Option Value) (μ' : kMem), k + n = 7 → v.toInt = k → moOnly μ μ' → (∀ a b, a < 7 → b < 7 → mo μ' a b = E k a b) → J 149 [some (.ref 0), some (.int v), z2, z3] [] μ' := by
    intro n
    induction n using Nat.strongRecOn with
    | ind n ih =>
      intro k v z2 z3 μ' hk hv hO hM
      have l4a : k < 7 → ∀ (m a : Nat) (u : Int32) (z3 : Option Value) (μ' : kMem), a + m = 7 → u.toInt = a → moOnly μ μ' → (∀ c d, c < 7 → d < 7 → mo μ' c d = tw 7 k (E k) (a * 7) c d) → J 157 [some (.ref 0), some (.int v), some (.int u), z3] [] μ' := by
        intro hk7 m
        induction m using Nat.strongRecOn with
        | ind m iha =>
          intro a u z3 μ' ha hu hO hM
          have l4b : a < 7 → ∀ (q b : Nat) (w : Int32) (μ' : kMem), b + q = 7 → w.toInt = b → moOnly μ μ' → (∀ c d, c < 7 → d < 7 → mo μ' c d = tw 7 k (E k) (a * 7 + b) c d) → J 165 [some (.ref 0), some (.int v), some (.int u), some (.int w)] [] μ' := by
            intro ha7 q
            induction q using Nat.strongRecOn with
            | ind q ihb =>
              intro b w μ' hb hw hO hM
              have i1 : (Int32.ofInt 7 * u).toInt = 7 * u.toInt := ti_cmul (by omega)
              have i2 : (Int32.ofInt 7 * v).toInt = 7 * v.toInt := ti_cmul (by omega)
              have j1 : (Int32.ofInt 7 * u + v).toInt = ((a * 7 + k : Nat) : Int) := by rw [ti_add (by omega), i1]; omega
              have j2 : b < 7 → (Int32.ofInt 7 * v + w).toInt = ((k * 7 + b : Nat) : Int) := fun z => by rw [ti_add (by omega), i2]; omega
              refine (r_iload_n C dX12_canBe_165 rfl rfl (r_bipush C dX12_canBe_166 (by decide +kernel) (r_icmp_ge C (tgt := 206) dX12_canBe_168 rfl (fun c168 => (r_iinc C dX12_canBe_206 rfl (by decide) (r_goto C (tgt := 157) dX12_canBe_209 rfl ?_))) (fun c168 => (r_aload_n C dX12_canBe_171 rfl rfl (r_iload_n C dX12_canBe_172 rfl rfl (r_iload_n C dX12_canBe_173 rfl rfl (r_aload_n C dX12_canBe_174 rfl rfl (r_getR C dX12_canBe_175 fd_X12_144 nM_0 sM_0 rfl (r_bipush C dX12_canBe_178 (by decide +kernel) (r_iload_n C dX12_canBe_180 rfl rfl (r_imul C dX12_canBe_181 (r_iload_n C dX12_canBe_182 rfl rfl (r_iadd C dX12_canBe_183 (r_iald C dX12_canBe_184 nM_47 sM_47 ?_ (r_aload_n C dX12_canBe_185 rfl rfl (r_getR C dX12_canBe_186 fd_X12_144 nM_0 sM_0 rfl (r_bipush C dX12_canBe_189 (by decide +kernel) (r_iload_n C dX12_canBe_191 rfl rfl (r_imul C dX12_canBe_192 (r_iload_n C dX12_canBe_193 rfl rfl (r_iadd C dX12_canBe_194 (r_iald C dX12_canBe_195 nM_47 sM_47 ?_ (r_iadd C dX12_canBe_196 (r_v3N C yv_X12_bounds lk_X12_393 dX12_canBe_197 rfl nM_0 sM_0 rfl (Nat.le_of_ble_eq_true rfl) (ok_X12_bounds ?_) (fun μ197 h197 => (r_iinc C dX12_canBe_200 rfl (by decide) (r_goto C (tgt := 165) dX12_canBe_203 rfl ?_))))))))))))))))))))))))))))
              · rw [m7] at c168
                have eb : b = 7 := by omega
                subst eb
                refine iha (m - 1) (by omega) (a + 1) _ _ μ' (by omega) (by simp (disch := (first | omega | (simp (disch := omega) only [ti_ofInt, ti_addc, ti_subc, ti_mulc, ti_cmul, ti_divc, ti_remc, ti_zero, ti_add, ti_sub, ti_neg, if_lt_ti, if_gt_ti, bP_e0, Classical.not_not, tl_i2l]; omega))) only [ti_ofInt, ti_addc, ti_subc, ti_mulc, ti_cmul, ti_divc, ti_remc, ti_zero, ti_add, ti_sub, ti_neg, if_lt_ti, if_gt_ti, bP_e0, Classical.not_not, tl_i2l]; omega) hO ?_
                rw [show (a + 1) * 7 = a * 7 + 7 by omega]
                exact hM
              · rw [j1]; omega
              · rw [m7] at c168
                rw [j2 (by omega)]
                omega
              · rw [m7] at c168
                omega
              · rw [m7] at c168
                have hb7 : b < 7 := by omega
                obtain ⟨g1, g2⟩ := h197
                have v1 : (μ'.1 47 (Int32.ofInt 7 * u + v).toInt.toNat).toInt = tw 7 k (E k) (a * 7 + b) a k := by rw [j1, Int.toNat_natCast]; exact hM a k ha7 hk7
                have v2 : (μ'.1 47 (Int32.ofInt 7 * v + w).toInt.toNat).toInt = tw 7 k (E k) (a * 7 + b) k b := by rw [j2 hb7, Int.toNat_natCast]; exact hM k b hk7 hb7
                have d1 := bd k (by omega) (a * 7 + b) a k ha7 hk7
                have d2 := bd k (by omega) (a * 7 + b) k b hk7 hb7
                refine ihb (q - 1) (by omega) (b + 1) _ _ (by omega) (by simp (disch := (first | omega | (simp (disch := omega) only [ti_ofInt, ti_addc, ti_subc, ti_mulc, ti_cmul, ti_divc, ti_remc, ti_zero, ti_add, ti_sub, ti_neg, if_lt_ti, if_gt_ti, bP_e0, Classical.not_not, tl_i2l]; omega))) only [ti_ofInt, ti_addc, ti_subc, ti_mulc, ti_cmul, ti_divc, ti_remc, ti_zero, ti_add, ti_sub, ti_neg, if_lt_ti, if_gt_ti, bP_e0, Classical.not_not, tl_i2l]; omega) (fun c d n1 => by rw [g1 c d n1]; exact hO c d n1) (fun c d hc hd => ?_)
                rw [g2 c d hd, show a * 7 + (b + 1) = a * 7 + b + 1 by omega, tw_succ hd, hM c d hc hd, show u.toInt.toNat = a by omega, show w.toInt.toNat = b by omega]
                by_cases e : c = a ∧ d = b
                · obtain ⟨rfl, rfl⟩ := e
                  rw [if_pos ⟨rfl, rfl⟩, if_pos rfl, ti_add (by omega), v1, v2]
                · rw [if_neg e, if_neg (pos_ne hd hb7 e)]
          refine (r_iload_n C dX12_canBe_157 rfl rfl (r_bipush C dX12_canBe_158 (by decide +kernel) (r_icmp_ge C (tgt := 212) dX12_canBe_160 rfl (fun c160 => (r_iinc C dX12_canBe_212 rfl (by decide) (r_goto C (tgt := 149) dX12_canBe_215 rfl ?_))) (fun c160 => (r_iconst C dX12_canBe_163 (r_istore_n C dX12_canBe_164 rfl (by decide) ?_))))))
          · rw [m7] at c160
            have ea : a = 7 := by omega
            subst ea
            refine ih (n - 1) (by omega) (k + 1) _ _ _ μ' (by omega) (by simp (disch := (first | omega | (simp (disch := omega) only [ti_ofInt, ti_addc, ti_subc, ti_mulc, ti_cmul, ti_divc, ti_remc, ti_zero, ti_add, ti_sub, ti_neg, if_lt_ti, if_gt_ti, bP_e0, Classical.not_not, tl_i2l]; omega))) only [ti_ofInt, ti_addc, ti_subc, ti_mulc, ti_cmul, ti_divc, ti_remc, ti_zero, ti_add, ti_sub, ti_neg, if_lt_ti, if_gt_ti, bP_e0, Classical.not_not, tl_i2l]; omega) hO ?_
            rw [hEs]
            exact hM
          · rw [m7] at c160
            exact l4b (by omega) 7 0 _ μ' rfl (by simp (disch := (first | omega | (simp (disch := omega) only [ti_ofInt, ti_addc, ti_subc, ti_mulc, ti_cmul, ti_divc, ti_remc, ti_zero, ti_add, ti_sub, ti_neg, if_lt_ti, if_gt_ti, bP_e0, Classical.not_not, tl_i2l]; omega))) only [ti_ofInt, ti_addc, ti_subc, ti_mulc, ti_cmul, ti_divc, ti_remc, ti_zero, ti_add, ti_sub, ti_neg, if_lt_ti, if_gt_ti, bP_e0, Classical.not_not, tl_i2l]; rfl) hO hM
      refine (r_iload_n C dX12_canBe_149 rfl rfl (r_bipush C dX12_canBe_150 (by decide +kernel) (r_icmp_ge C (tgt := 218) dX12_canBe_152 rfl (fun c152 => (r_iconst C dX12_canBe_218 (r_istore_n C dX12_canBe_219 rfl (by decide) ?_))) (fun c152 => (r_iconst C dX12_canBe_155 (r_istore_n C dX12_canBe_156 rfl (by decide) ?_))))))
      · rw [m7] at c152
        have ek : k = 7 := by omega
        subst ek
        exact l5 μ' _ _ hO hM 7 0 _ rfl (by simp (disch := (first | omega | (simp (disch := omega) only [ti_ofInt, ti_addc, ti_subc, ti_mulc, ti_cmul, ti_divc, ti_remc, ti_zero, ti_add, ti_sub, ti_neg, if_lt_ti, if_gt_ti, bP_e0, Classical.not_not, tl_i2l]; omega))) only [ti_ofInt, ti_addc, ti_subc, ti_mulc, ti_cmul, ti_divc, ti_remc, ti_zero, ti_add, ti_sub, ti_neg, if_lt_ti, if_gt_ti, bP_e0, Classical.not_not, tl_i2l]; rfl) (fun a ha => absurd ha (Nat.not_lt_zero _))
      · rw [m7] at c152
        refine l4a (by omega) 7 0 _ _ μ' rfl (by simp (disch := (first | omega | (simp (disch := omega) only [ti_ofInt, ti_addc, ti_subc, ti_mulc, ti_cmul, ti_divc, ti_remc, ti_zero, ti_add, ti_sub, ti_neg, if_lt_ti, if_gt_ti, bP_e0, Classical.not_not, tl_i2l]; omega))) only [ti_ofInt, ti_addc, ti_subc, ti_mulc, ti_cmul, ti_divc, ti_remc, ti_zero, ti_add, ti_sub, ti_neg, if_lt_ti, if_gt_ti, bP_e0, Classical.not_not, tl_i2l]; rfl) hO ?_
        intro c d hc hd
        rw [hM c d hc hd]
        rfl
  have l3 : ∀ (n f : Nat) (v : Int32) (z2 z3 : Option Value) (μ' : kMem), f + n = (μ.1 0 55).toInt.toNat → v.toInt = f → moOnly μ μ' → (∀ a b, a < 7 → b < 7 → mo μ' a b = bfm (mfo μ) (mft μ) (mfw μ) (b7F (mcg μ) (mcl μ)) f a b) → J 77 [some (.ref 0), some (.int v), z2, z3] [] μ' := by
    intro n
    induction n using Nat.strongRecOn with
    | ind n ih =>
      intro f v z2 z3 μ' hf hv hO hM
      have ev : v.toInt.toNat = f := by omega
      have hfc := h.2.1
      have e55 : μ'.1 0 55 = μ.1 0 55 := hO 0 55 (by decide)
      have a42 : ∀ j, μ'.1 42 j = μ.1 42 j := fun j => hO 42 j (by decide)
      have a43 : ∀ j, μ'.1 43 j = μ.1 43 j := fun j => hO 43 j (by decide)
      have a44 : ∀ j, μ'.1 44 j = μ.1 44 j := fun j => hO 44 j (by decide)
      have a45 : ∀ j, μ'.1 45 j = μ.1 45 j := fun j => hO 45 j (by decide)
      have a46 : ∀ j, μ'.1 46 j = μ.1 46 j := fun j => hO 46 j (by decide)
      have hf1 := (h.2.2 f).2.2.2
      have hs1 := (h.2.2 (μ.1 44 f).toInt.toNat).2
      have hs2 := (h.2.2 (μ.1 45 f).toInt.toNat).2
      refine (r_iload_n C dX12_canBe_77 rfl rfl (r_aload_n C dX12_canBe_78 rfl rfl (r_getI C dX12_canBe_79 fd_X12_389 nM_0 sM_0 rfl (r_icmp_ge C (tgt := 147) dX12_canBe_82 rfl (fun c82 => (r_iconst C dX12_canBe_147 (r_istore_n C dX12_canBe_148 rfl (by decide) ?_))) (fun c82 => (r_aload_n C dX12_canBe_85 rfl rfl (r_aload_n C dX12_canBe_86 rfl rfl (r_getR C dX12_canBe_87 fd_X12_129 nM_0 sM_0 rfl (r_aload_n C dX12_canBe_90 rfl rfl (r_getR C dX12_canBe_91 fd_X12_135 nM_0 sM_0 rfl (r_iload_n C dX12_canBe_94 rfl rfl (r_iald C dX12_canBe_95 nM_44 sM_44 ?_ (r_iald C dX12_canBe_96 nM_42 sM_42 ?_ (r_aload_n C dX12_canBe_97 rfl rfl (r_getR C dX12_canBe_98 fd_X12_129 nM_0 sM_0 rfl (r_aload_n C dX12_canBe_101 rfl rfl (r_getR C dX12_canBe_102 fd_X12_138 nM_0 sM_0 rfl (r_iload_n C dX12_canBe_105 rfl rfl (r_iald C dX12_canBe_106 nM_45 sM_45 ?_ (r_iald C dX12_canBe_107 nM_42 sM_42 ?_ (r_aload_n C dX12_canBe_108 rfl rfl (r_getR C dX12_canBe_109 fd_X12_132 nM_0 sM_0 rfl (r_aload_n C dX12_canBe_112 rfl rfl (r_getR C dX12_canBe_113 fd_X12_135 nM_0 sM_0 rfl (r_iload_n C dX12_canBe_116 rfl rfl (r_iald C dX12_canBe_117 nM_44 sM_44 ?_ (r_iald C dX12_canBe_118 nM_43 sM_43 ?_ (r_aload_n C dX12_canBe_119 rfl rfl (r_getR C dX12_canBe_120 fd_X12_132 nM_0 sM_0 rfl (r_aload_n C dX12_canBe_123 rfl rfl (r_getR C dX12_canBe_124 fd_X12_138 nM_0 sM_0 rfl (r_iload_n C dX12_canBe_127 rfl rfl (r_iald C dX12_canBe_128 nM_45 sM_45 ?_ (r_iald C dX12_canBe_129 nM_43 sM_43 ?_ (r_isub C dX12_canBe_130 (r_aload_n C dX12_canBe_131 rfl rfl (r_getR C dX12_canBe_132 fd_X12_141 nM_0 sM_0 rfl (r_iload_n C dX12_canBe_135 rfl rfl (r_iald C dX12_canBe_136 nM_46 sM_46 ?_ (r_isub C dX12_canBe_137 (r_v3N C yv_X12_bounds lk_X12_393 dX12_canBe_138 rfl nM_0 sM_0 rfl (Nat.le_of_ble_eq_true rfl) (ok_X12_bounds ?_) (fun μ138 h138 => (r_iinc C dX12_canBe_141 rfl (by decide) (r_goto C (tgt := 77) dX12_canBe_144 rfl ?_))))))))))))))))))))))))))))))))))))))))))))
      · rw [e55] at c82
        refine l4 7 0 _ _ _ μ' rfl (by simp (disch := (first | omega | (simp (disch := omega) only [ti_ofInt, ti_addc, ti_subc, ti_mulc, ti_cmul, ti_divc, ti_remc, ti_zero, ti_add, ti_sub, ti_neg, if_lt_ti, if_gt_ti, bP_e0, Classical.not_not, tl_i2l]; omega))) only [ti_ofInt, ti_addc, ti_subc, ti_mulc, ti_cmul, ti_divc, ti_remc, ti_zero, ti_add, ti_sub, ti_neg, if_lt_ti, if_gt_ti, bP_e0, Classical.not_not, tl_i2l]; rfl) hO ?_
        rw [hE0]
        have ef : f = (μ.1 0 55).toInt.toNat := by omega
        rw [ef] at hM
        exact hM
      · rw [e55] at c82; omega
      · rw [a44, ev]; omega
      · rw [e55] at c82; omega
      · rw [a45, ev]; omega
      · rw [e55] at c82; omega
      · rw [a44, ev]; omega
      · rw [e55] at c82; omega
      · rw [a45, ev]; omega
      · rw [e55] at c82; omega
      · rw [a42, a44, a45, a42, ev]
        omega
      · rw [e55] at c82
        obtain ⟨g1, g2⟩ := h138
        rw [a42, a44, a45, a42, ev, a43, a43, a46] at g2
        have w1 : (μ.1 43 (μ.1 44 f).toInt.toNat - μ.1 43 (μ.1 45 f).toInt.toNat).toInt = (μ.1 43 (μ.1 44 f).toInt.toNat).toInt - (μ.1 43 (μ.1 45 f).toInt.toNat).toInt := ti_sub (by omega)
        have w2 : (μ.1 43 (μ.1 44 f).toInt.toNat - μ.1 43 (μ.1 45 f).toInt.toNat - μ.1 46 f).toInt = mfw μ f := by
          rw [ti_sub (by omega), w1]
          rfl
        rw [w2] at g2
        refine ih (n - 1) (by omega) (f + 1) _ _ _ _ (by omega) (by simp (disch := (first | omega | (simp (disch := omega) only [ti_ofInt, ti_addc, ti_subc, ti_mulc, ti_cmul, ti_divc, ti_remc, ti_zero, ti_add, ti_sub, ti_neg, if_lt_ti, if_gt_ti, bP_e0, Classical.not_not, tl_i2l]; omega))) only [ti_ofInt, ti_addc, ti_subc, ti_mulc, ti_cmul, ti_divc, ti_remc, ti_zero, ti_add, ti_sub, ti_neg, if_lt_ti, if_gt_ti, bP_e0, Classical.not_not, tl_i2l]; omega) (fun c d n1 => by rw [g1 c d n1]; exact hO c d n1) (fun a b ha hb => ?_)
        rw [g2 a b hb, hM a b ha hb]
        rfl
  have l2 : ∀ (n s : Nat) (v : Int32) (z2 z3 : Option Value) (μ' : kMem), s + n = 6 → v.toInt = s → moOnly μ μ' → (∀ a b, a < 7 → b < 7 → mo μ' a b = if a = b then 0 else if b = 6 ∧ a < s then mcg μ a else if a = 6 ∧ b < s then -(mcl μ b) else 100000) → J 36 [some (.ref 0), some (.int v), z2, z3] [] μ' := by
    intro n
    induction n using Nat.strongRecOn with
    | ind n ih =>
      intro s v z2 z3 μ' hs hv hO hM
      have ev : v.toInt.toNat = s := by omega
      have n6 : (Int32.ofInt 6).toInt.toNat = 6 := by decide
      have a40 : ∀ j, μ'.1 40 j = μ.1 40 j := fun j => hO 40 j (by decide)
      have a41 : ∀ j, μ'.1 41 j = μ.1 41 j := fun j => hO 41 j (by decide)
      have hcs := (h.2.2 s).1
      refine (r_iload_n C dX12_canBe_36 rfl rfl (r_bipush C dX12_canBe_37 (by decide +kernel) (r_icmp_ge C (tgt := 75) dX12_canBe_39 rfl (fun c39 => (r_iconst C dX12_canBe_75 (r_istore_n C dX12_canBe_76 rfl (by decide) ?_))) (fun c39 => (r_aload_n C dX12_canBe_42 rfl rfl (r_iload_n C dX12_canBe_43 rfl rfl (r_bipush C dX12_canBe_44 (by decide +kernel) (r_aload_n C dX12_canBe_46 rfl rfl (r_getR C dX12_canBe_47 fd_X12_126 nM_0 sM_0 rfl (r_iload_n C dX12_canBe_50 rfl rfl (r_iald C dX12_canBe_51 nM_41 sM_41 ?_ (r_v3N C yv_X12_bounds lk_X12_393 dX12_canBe_52 rfl nM_0 sM_0 rfl (Nat.le_of_ble_eq_true rfl) (ok_X12_bounds ?_) (fun μ52 h52 => (r_aload_n C dX12_canBe_55 rfl rfl (r_bipush C dX12_canBe_56 (by decide +kernel) (r_iload_n C dX12_canBe_58 rfl rfl (r_aload_n C dX12_canBe_59 rfl rfl (r_getR C dX12_canBe_60 fd_X12_123 nM_0 sM_0 rfl (r_iload_n C dX12_canBe_63 rfl rfl (r_iald C dX12_canBe_64 nM_40 sM_40 ?_ (r_ineg C dX12_canBe_65 (r_v3N C yv_X12_bounds lk_X12_393 dX12_canBe_66 rfl nM_0 sM_0 rfl (Nat.le_of_ble_eq_true rfl) (ok_X12_bounds ?_) (fun μ66 h66 => (r_iinc C dX12_canBe_69 rfl (by decide) (r_goto C (tgt := 36) dX12_canBe_72 rfl ?_)))))))))))))))))))))))))
      · rw [m6] at c39
        refine l3 (μ.1 0 55).toInt.toNat 0 _ _ _ μ' (by omega) (by simp (disch := (first | omega | (simp (disch := omega) only [ti_ofInt, ti_addc, ti_subc, ti_mulc, ti_cmul, ti_divc, ti_remc, ti_zero, ti_add, ti_sub, ti_neg, if_lt_ti, if_gt_ti, bP_e0, Classical.not_not, tl_i2l]; omega))) only [ti_ofInt, ti_addc, ti_subc, ti_mulc, ti_cmul, ti_divc, ti_remc, ti_zero, ti_add, ti_sub, ti_neg, if_lt_ti, if_gt_ti, bP_e0, Classical.not_not, tl_i2l]; rfl) hO (fun a b ha hb => ?_)
        rw [hM a b ha hb]
        show _ = b7F (mcg μ) (mcl μ) a b
        unfold b7F
        by_cases e : a = b
        · rw [if_pos e, if_pos e]
        · rw [if_neg e, if_neg e]
          by_cases e2 : b = 6
          · rw [if_pos e2, if_pos ⟨e2, by omega⟩]
          · rw [if_neg e2, if_neg (fun q => e2 q.1)]
            by_cases e3 : a = 6
            · rw [if_pos e3, if_pos ⟨e3, by omega⟩]
            · rw [if_neg e3, if_neg (fun q => e3 q.1)]
      · rw [m6] at c39; omega
      · rw [m6] at c39
        exact ⟨⟨by omega, by omega⟩, by decide⟩
      · rw [m6] at c39; omega
      · rw [m6] at c39
        exact ⟨by decide, by omega, by omega⟩
      · rw [m6] at c39
        obtain ⟨g1, g2⟩ := h52
        obtain ⟨f1, f2⟩ := h66
        rw [ev, a41, n6] at g2
        rw [ev, g1 40 s (by decide), a40, n6, ti_neg (by omega)] at f2
        refine ih (n - 1) (by omega) (s + 1) _ _ _ _ (by omega) (by simp (disch := (first | omega | (simp (disch := omega) only [ti_ofInt, ti_addc, ti_subc, ti_mulc, ti_cmul, ti_divc, ti_remc, ti_zero, ti_add, ti_sub, ti_neg, if_lt_ti, if_gt_ti, bP_e0, Classical.not_not, tl_i2l]; omega))) only [ti_ofInt, ti_addc, ti_subc, ti_mulc, ti_cmul, ti_divc, ti_remc, ti_zero, ti_add, ti_sub, ti_neg, if_lt_ti, if_gt_ti, bP_e0, Classical.not_not, tl_i2l]; omega) (fun c d n1 => by rw [f1 c d n1, g1 c d n1]; exact hO c d n1) (fun a b ha hb => ?_)
        rw [f2 a b hb, g2 a b hb, hM a b ha hb]
        have eg : mcg μ s = (μ.1 41 s).toInt := rfl
        have el : mcl μ s = (μ.1 40 s).toInt := rfl
        by_cases q1 : a = 6 ∧ b = s
        · obtain ⟨q1, q2⟩ := q1
          subst q1 q2
          rw [if_pos ⟨rfl, rfl⟩, if_neg (by omega), if_neg (by omega), if_neg (by omega), if_neg (by omega), if_neg (by omega), if_neg (by omega), if_pos (by omega), el]
          omega
        · rw [if_neg q1]
          by_cases q2 : a = s ∧ b = 6
          · obtain ⟨q2, q3⟩ := q2
            subst q2 q3
            rw [if_pos ⟨rfl, rfl⟩, if_neg (by omega), if_neg (by omega), if_neg (by omega), if_neg (by omega), if_pos (by omega), eg]
            omega
          · rw [if_neg q2]
            by_cases e : a = b
            · rw [if_pos e, if_pos e]
            · rw [if_neg e, if_neg e]
              by_cases e2 : b = 6 ∧ a < s
              · rw [if_pos e2, if_pos (by omega)]
              · rw [if_neg e2, if_neg (show ¬ (b = 6 ∧ a < s + 1) by omega)]
                by_cases e3 : a = 6 ∧ b < s
                · rw [if_pos e3, if_pos (by omega)]
                · rw [if_neg e3, if_neg (by omega)]
  have l1 : ∀ (n i : Nat) (v : Int32) (z2 z3 : Option Value) (μ' : kMem), i + n = 49 → v.toInt = i → moOnly μ μ' → (∀ j, j < i → (μ'.1 47 j).toInt = if j % 8 = 0 then 0 else 100000) → J 2 [some (.ref 0), some (.int v), z2, z3] [] μ' := by
    intro n
    induction n using Nat.strongRecOn with
    | ind n ih =>
      intro i v z2 z3 μ' hi hv hO hI
      have ev : v.toInt.toNat = i := by omega
      have e8 : (krem v (Int32.ofInt 8)).toInt = (i : Int) % 8 := by rw [ti_remc (by omega), hv]
      refine (r_iload_n C dX12_canBe_2 rfl rfl (r_bipush C dX12_canBe_3 (by decide +kernel) (r_icmp_ge C (tgt := 34) dX12_canBe_5 rfl (fun c5 => (r_iconst C dX12_canBe_34 (r_istore_n C dX12_canBe_35 rfl (by decide) ?_))) (fun c5 => (r_aload_n C dX12_canBe_8 rfl rfl (r_getR C dX12_canBe_9 fd_X12_144 nM_0 sM_0 rfl (r_iload_n C dX12_canBe_12 rfl rfl (r_iload_n C dX12_canBe_13 rfl rfl (r_bipush C dX12_canBe_14 (by decide +kernel) (r_irem C dX12_canBe_16 (by decide) (r_if_ne C (tgt := 24) dX12_canBe_17 rfl (fun c17 => (r_ldcw C dX12_canBe_24 kc_X12_392 (r_iast C dX12_canBe_27 nM_47 sM_47 ?_ (r_iinc C dX12_canBe_28 rfl (by decide) (r_goto C (tgt := 2) dX12_canBe_31 rfl ?_))))) (fun c17 => (r_iconst C dX12_canBe_20 (r_goto C (tgt := 27) dX12_canBe_21 rfl (r_iast C dX12_canBe_27 nM_47 sM_47 ?_ (r_iinc C dX12_canBe_28 rfl (by decide) (r_goto C (tgt := 2) dX12_canBe_31 rfl ?_)))))))))))))))))
      · rw [m49] at c5
        refine l2 6 0 _ _ _ μ' rfl (by simp (disch := (first | omega | (simp (disch := omega) only [ti_ofInt, ti_addc, ti_subc, ti_mulc, ti_cmul, ti_divc, ti_remc, ti_zero, ti_add, ti_sub, ti_neg, if_lt_ti, if_gt_ti, bP_e0, Classical.not_not, tl_i2l]; omega))) only [ti_ofInt, ti_addc, ti_subc, ti_mulc, ti_cmul, ti_divc, ti_remc, ti_zero, ti_add, ti_sub, ti_neg, if_lt_ti, if_gt_ti, bP_e0, Classical.not_not, tl_i2l]; rfl) hO (fun a b ha hb => ?_)
        have q := hI (a * 7 + b) (by omega)
        show (μ'.1 47 (a * 7 + b)).toInt = _
        rw [q]
        by_cases e : a = b
        · subst e
          rw [if_pos rfl, if_pos (by omega)]
        · rw [if_neg e, if_neg (by omega), if_neg (by omega), if_neg (by omega)]
      · rw [m49] at c5; omega
      · rw [m49] at c5
        rw [e8] at c17
        refine ih (n - 1) (by omega) (i + 1) _ _ _ _ (by omega) (by simp (disch := (first | omega | (simp (disch := omega) only [ti_ofInt, ti_addc, ti_subc, ti_mulc, ti_cmul, ti_divc, ti_remc, ti_zero, ti_add, ti_sub, ti_neg, if_lt_ti, if_gt_ti, bP_e0, Classical.not_not, tl_i2l]; omega))) only [ti_ofInt, ti_addc, ti_subc, ti_mulc, ti_cmul, ti_divc, ti_remc, ti_zero, ti_add, ti_sub, ti_neg, if_lt_ti, if_gt_ti, bP_e0, Classical.not_not, tl_i2l]; omega) (fun c d n1 => by rw [up_neo _ _ n1]; exact hO c d n1) (fun j hj => ?_)
        rw [ev]
        by_cases e : j = i
        · subst e
          rw [up_same, if_neg (by omega)]
          exact mF
        · rw [up_nek _ _ e]
          exact hI j (by omega)
      · rw [m49] at c5; omega
      · rw [m49] at c5
        rw [e8] at c17
        refine ih (n - 1) (by omega) (i + 1) _ _ _ _ (by omega) (by simp (disch := (first | omega | (simp (disch := omega) only [ti_ofInt, ti_addc, ti_subc, ti_mulc, ti_cmul, ti_divc, ti_remc, ti_zero, ti_add, ti_sub, ti_neg, if_lt_ti, if_gt_ti, bP_e0, Classical.not_not, tl_i2l]; omega))) only [ti_ofInt, ti_addc, ti_subc, ti_mulc, ti_cmul, ti_divc, ti_remc, ti_zero, ti_add, ti_sub, ti_neg, if_lt_ti, if_gt_ti, bP_e0, Classical.not_not, tl_i2l]; omega) (fun c d n1 => by rw [up_neo _ _ n1]; exact hO c d n1) (fun j hj => ?_)
        rw [ev]
        by_cases e : j = i
        · subst e
          rw [up_same, if_pos (by omega)]
          exact z0
        · rw [up_nek _ _ e]
          exact hI j (by omega)
  refine (r_iconst C dX12_canBe_0 (r_istore_n C dX12_canBe_1 rfl (by decide) ?_))
  exact l1 49 0 _ _ _ μ rfl (by simp (disch := (first | omega | (simp (disch := omega) only [ti_ofInt, ti_addc, ti_subc, ti_mulc, ti_cmul, ti_divc, ti_remc, ti_zero, ti_add, ti_sub, ti_neg, if_lt_ti, if_gt_ti, bP_e0, Classical.not_not, tl_i2l]; omega))) only [ti_ofInt, ti_addc, ti_subc, ti_mulc, ti_cmul, ti_divc, ti_remc, ti_zero, ti_add, ti_sub, ti_neg, if_lt_ti, if_gt_ti, bP_e0, Classical.not_not, tl_i2l]; rfl) (fun _ _ _ => rfl) (fun j hj => absurd hj (Nat.not_lt_zero _))
def mmi (μ : kMem) (x : Int) : Int := (μ.1 43 x.toNat).toInt
def msta (μ : kMem) (x : Int) : Nat := (μ.1 42 x.toNat).toInt.toNat
noncomputable def mLo (μ : kMem) (x y : Int) : Int := mmi μ y - mmi μ x - fw 7 (mcm μ) 7 (msta μ y) (msta μ x)
noncomputable def mHi (μ : kMem) (x y : Int) : Int := mmi μ y - mmi μ x + fw 7 (mcm μ) 7 (msta μ x) (msta μ y)
def mEv2 (μ : kMem) (x y : Int) : Prop := (0 ≤ x ∧ x < (μ.1 0 54).toInt) ∧ (0 ≤ y ∧ y < (μ.1 0 54).toInt)
theorem moOnly_all {μ μ' : kMem} (h : moOnly μ μ') : mSm μ μ' ∧ mcm μ' = mcm μ ∧ (mClOk μ → mClOk μ') ∧ mmi μ' = mmi μ ∧ msta μ' = msta μ ∧ mLo μ' = mLo μ ∧ mHi μ' = mHi μ ∧ mCan μ' = mCan μ ∧ mEv2 μ' = mEv2 μ := by
  have far : ∀ a b : Nat, a ≠ 47 → μ'.1 a b = μ.1 a b := h
  have e1 : mfo μ' = mfo μ := by funext f; unfold mfo; simp (disch := decide) only [far]
  have e2 : mft μ' = mft μ := by funext f; unfold mft; simp (disch := decide) only [far]
  have e3 : mfw μ' = mfw μ := by funext f; unfold mfw; simp (disch := decide) only [far]
  have e4 : mcg μ' = mcg μ := by funext f; unfold mcg; simp (disch := decide) only [far]
  have e5 : mcl μ' = mcl μ := by funext f; unfold mcl; simp (disch := decide) only [far]
  have e6 : mcm μ' = mcm μ := by unfold mcm; rw [e1, e2, e3, e4, e5]; simp (disch := decide) only [far]
  have e7 : mmi μ' = mmi μ := by funext f; unfold mmi; simp (disch := decide) only [far]
  have e8 : msta μ' = msta μ := by funext f; unfold msta; simp (disch := decide) only [far]
  refine ⟨fun a b q => far a b (by unfold relM at q; omega), e6, fun q => ?_, e7, e8, ?_, ?_, ?_, ?_⟩
  · unfold mClOk at q ⊢
    simp (disch := decide) only [far]
    exact q
  · funext a b; unfold mLo; rw [e6, e7, e8]
  · funext a b; unfold mHi; rw [e6, e7, e8]
  · unfold mCan; rw [e6]
  · funext a b; unfold mEv2; simp (disch := decide) only [far]
theorem msta_b {μ : kMem} (h : mClOk μ) (x : Int) : msta μ x < 6 ∧ 0 ≤ mmi μ x ∧ mmi μ x ≤ 999 := by
  have h1 := (h.2.2 x.toNat).2
  unfold msta mmi
  omega
theorem mcm_7 {μ : kMem} (h : mClOk μ) {a b : Nat} (ha : a < 7) (hb : b < 7) : -312000000 ≤ fw 7 (mcm μ) 7 a b ∧ fw 7 (mcm μ) 7 a b ≤ 100000 := by
  have h1 := (tw_low (n := 7) (k := 6) (m := fw 7 (mcm μ) 6) (B := 52000000) (by omega) (by omega) (fun a b ha hb => (mcm_low h (Nat.le_refl _) ha hb).1) 49 a b ha hb).2.1
  have h2 := tw_le (k := 6) (m := fw 7 (mcm μ) 6) (a := a) hb 49
  have h3 := (mcm_low h (Nat.le_refl 6) ha hb).2
  have e : fw 7 (mcm μ) 7 a b = tw 7 6 (fw 7 (mcm μ) 6) 49 a b := rfl
  omega
theorem ok_X12_apart {x y w : Int32} {μ : kMem} (h : mClOk μ) : kOk yX12_apart cX12_apart 7 (some .int) rmX12_apart shM 48 [.ref 0, .int x, .int y, .int w] μ (kI fun r μ' => moOnly μ μ' ∧ r.toInt = apaA (mEv2 μ x.toInt y.toInt ∧ mCan μ) (mLo μ x.toInt y.toInt) (mHi μ x.toInt y.toInt) w.toInt) := by
  have z0 : (Int32.ofInt 0).toInt = 0 := by decide
  have mv : (-2147483648 : Int32).toInt = -2147483648 := by decide
  have hev := h.1
  have hx := msta_b h x.toInt
  have hy := msta_b h y.toInt
  have b1 := mcm_7 h (a := msta μ y.toInt) (b := msta μ x.toInt) (by omega) (by omega)
  have b2 := mcm_7 h (a := msta μ x.toInt) (b := msta μ y.toInt) (by omega) (by omega)
  have no : ¬ (mEv2 μ x.toInt y.toInt ∧ mCan μ) → (-2147483648 : Int32).toInt = apaA (mEv2 μ x.toInt y.toInt ∧ mCan μ) (mLo μ x.toInt y.toInt) (mHi μ x.toInt y.toInt) w.toInt := fun q => by unfold apaA; rw [if_neg q, mv]
  have no2 : ¬ (0 ≤ w.toInt ∧ w.toInt ≤ 1) → (-2147483648 : Int32).toInt = apaA (mEv2 μ x.toInt y.toInt ∧ mCan μ) (mLo μ x.toInt y.toInt) (mHi μ x.toInt y.toInt) w.toInt := fun q => by
    unfold apaA
    split
    · rw [if_neg (by omega), if_neg (by omega), mv]
    · exact mv
  have key : ∀ (μ1 : kMem) (r : Int32), (moOnly μ μ1 ∧ ((r = Int32.ofInt 1 ∧ mCan μ ∧ ∀ a b, a < 7 → b < 7 → mo μ1 a b = fw 7 (mcm μ) 7 a b) ∨ (r = Int32.ofInt 0 ∧ ¬ mCan μ))) → ¬ r.toInt = 0 → mCan μ ∧ (∀ j, μ1.1 42 j = μ.1 42 j) ∧ (∀ j, μ1.1 43 j = μ.1 43 j) ∧ ∀ a b, a < 7 → b < 7 → (μ1.1 47 (a * 7 + b)).toInt = fw 7 (mcm μ) 7 a b := fun μ1 r q c => by
    obtain ⟨q1, q2⟩ := q
    rcases q2 with ⟨-, q3, q4⟩ | ⟨q3, -⟩
    · exact ⟨q3, fun j => q1 42 j (by decide), fun j => q1 43 j (by decide), fun a b ha hb => q4 a b ha hb⟩
    · rw [q3] at c
      exact absurd z0 c
  refine kOk.of rfl (Nat.le_of_ble_eq_true rfl) (fun J C => ?_)
  have C : kR cX12_apart RX12 7 rmX12_apart shM 48 (some .int) _ J := C
  refine (r_aload_n C dX12_apart_0 rfl rfl (r_iload_n C dX12_apart_1 rfl rfl (r_v1P C yv_X12_isEvent lk_X12_384 dX12_apart_2 rfl nM_0 sM_0 rfl (Nat.le_of_ble_eq_true rfl) (ok_X12_isEvent ?_) (r_if_eq C (tgt := 33) dX12_apart_5 rfl (fun c5 => (r_ldcw C dX12_apart_33 kc_X12_399 (r_iret C dX12_apart_36 ?_))) (fun c5 => (r_aload_n C dX12_apart_8 rfl rfl (r_iload_n C dX12_apart_9 rfl rfl (r_v1P C yv_X12_isEvent lk_X12_384 dX12_apart_10 rfl nM_0 sM_0 rfl (Nat.le_of_ble_eq_true rfl) (ok_X12_isEvent ?_) (r_if_eq C (tgt := 33) dX12_apart_13 rfl (fun c13 => (r_ldcw C dX12_apart_33 kc_X12_399 (r_iret C dX12_apart_36 ?_))) (fun c13 => (r_iload_n C dX12_apart_16 rfl rfl (r_i2l C dX12_apart_17 (r_lconst C dX12_apart_18 rfl (r_lconst C dX12_apart_19 rfl (r_s3P C ys_X12_in lk_X12_155 dX12_apart_20 rfl (Nat.le_of_ble_eq_true rfl) ok_X12_in (r_if_eq C (tgt := 33) dX12_apart_23 rfl (fun c23 => (r_ldcw C dX12_apart_33 kc_X12_399 (r_iret C dX12_apart_36 ?_))) (fun c23 => (r_aload_n C dX12_apart_26 rfl rfl (r_v0I C yv_X12_canBe lk_X12_396 dX12_apart_27 rfl nM_0 sM_0 rfl (Nat.le_of_ble_eq_true rfl) (ok_X12_canBe ?_) (fun r27 μ27 h27 => (r_if_ne C (tgt := 37) dX12_apart_30 rfl (fun c30 => (r_aload_n C dX12_apart_37 rfl rfl (r_getR C dX12_apart_38 fd_X12_129 nM_0 sM_0 rfl (r_iload_n C dX12_apart_41 rfl rfl (r_iald C dX12_apart_42 nM_42 sM_42 ?_ (r_istore C dX12_apart_43 (by decide) (r_aload_n C dX12_apart_45 rfl rfl (r_getR C dX12_apart_46 fd_X12_129 nM_0 sM_0 rfl (r_iload_n C dX12_apart_49 rfl rfl (r_iald C dX12_apart_50 nM_42 sM_42 ?_ (r_istore C dX12_apart_51 (by decide) (r_aload_n C dX12_apart_53 rfl rfl (r_getR C dX12_apart_54 fd_X12_132 nM_0 sM_0 rfl (r_iload_n C dX12_apart_57 rfl rfl (r_iald C dX12_apart_58 nM_43 sM_43 ?_ (r_aload_n C dX12_apart_59 rfl rfl (r_getR C dX12_apart_60 fd_X12_132 nM_0 sM_0 rfl (r_iload_n C dX12_apart_63 rfl rfl (r_iald C dX12_apart_64 nM_43 sM_43 ?_ (r_isub C dX12_apart_65 (r_istore C dX12_apart_66 (by decide) (r_iload_n C dX12_apart_68 rfl rfl (r_if_ne C (tgt := 91) dX12_apart_69 rfl (fun c69 => (r_iload C dX12_apart_91 rfl (r_aload_n C dX12_apart_93 rfl rfl (r_getR C dX12_apart_94 fd_X12_144 nM_0 sM_0 rfl (r_bipush C dX12_apart_97 (by decide +kernel) (r_iload C dX12_apart_99 rfl (r_imul C dX12_apart_101 (r_iload C dX12_apart_102 rfl (r_iadd C dX12_apart_104 (r_iald C dX12_apart_105 nM_47 sM_47 ?_ (r_iadd C dX12_apart_106 (r_iret C dX12_apart_107 ?_)))))))))))) (fun c69 => (r_iload C dX12_apart_72 rfl (r_aload_n C dX12_apart_74 rfl rfl (r_getR C dX12_apart_75 fd_X12_144 nM_0 sM_0 rfl (r_bipush C dX12_apart_78 (by decide +kernel) (r_iload C dX12_apart_80 rfl (r_imul C dX12_apart_82 (r_iload C dX12_apart_83 rfl (r_iadd C dX12_apart_85 (r_iald C dX12_apart_86 nM_47 sM_47 ?_ (r_isub C dX12_apart_87 (r_goto C (tgt := 107) dX12_apart_88 rfl (r_iret C dX12_apart_107 ?_)))))))))))))))))))))))))))))))))))) (fun c30 => (r_ldcw C dX12_apart_33 kc_X12_399 (r_iret C dX12_apart_36 ?_))))))))))))))))))))))))
  · exact hev.1
  · exact ⟨fun _ _ _ => rfl, no (fun z => bP_e0.mp c5 z.1.1)⟩
  · exact hev.1
  · exact ⟨fun _ _ _ => rfl, no (fun z => bP_e0.mp c13 z.1.2)⟩
  · have c := bP_e0.mp c23
    simp only [tl_i2l, ll_c0, ll_c1, ll_m1, ll_32, ll_97, ll_25, ll_255255, ll_5, ll_99, ll_20, ll_9, ll_999, ll_1000000, ll_17575, ll_3, ll_200, ll_60, ll_2, ll_5000, ll_m60, ll_m99] at c
    exact ⟨fun _ _ _ => rfl, no2 c⟩
  · exact h
  · have p1 := bP_ne c5
    omega
  · have p2 := bP_ne c13
    omega
  · have p2 := bP_ne c13
    omega
  · have p1 := bP_ne c5
    omega
  · obtain ⟨k1, k2, k3, k4⟩ := key _ _ h27 c30
    rw [k2, k2]
    have hs := (h.2.2 x.toInt.toNat).2.1
    have ht := (h.2.2 y.toInt.toNat).2.1
    have i1 : (Int32.ofInt 7 * μ.1 42 x.toInt.toNat).toInt = 7 * (μ.1 42 x.toInt.toNat).toInt := ti_cmul (by omega)
    rw [ti_add (by omega), i1]
    omega
  · obtain ⟨k1, k2, k3, k4⟩ := key _ _ h27 c30
    have hs := (h.2.2 x.toInt.toNat).2.1
    have ht := (h.2.2 y.toInt.toNat).2.1
    have i1 : (Int32.ofInt 7 * μ.1 42 x.toInt.toNat).toInt = 7 * (μ.1 42 x.toInt.toNat).toInt := ti_cmul (by omega)
    have i2 : (Int32.ofInt 7 * μ.1 42 x.toInt.toNat + μ.1 42 y.toInt.toNat).toInt = ((msta μ x.toInt * 7 + msta μ y.toInt : Nat) : Int) := by
      rw [ti_add (by omega), i1]
      unfold msta
      omega
    have e4 := k4 (msta μ x.toInt) (msta μ y.toInt) (by omega) (by omega)
    have c := bP_ne c23
    simp only [tl_i2l, ll_c0, ll_c1, ll_m1, ll_32, ll_97, ll_25, ll_255255, ll_5, ll_99, ll_20, ll_9, ll_999, ll_1000000, ll_17575, ll_3, ll_200, ll_60, ll_2, ll_5000, ll_m60, ll_m99] at c
    refine ⟨h27.1, ?_⟩
    rw [k2, k2, k3, k3, i2, Int.toNat_natCast]
    unfold apaA
    rw [if_pos ⟨⟨bP_ne c5, bP_ne c13⟩, k1⟩, if_neg c69, if_pos (by omega)]
    unfold mHi
    have d : (μ.1 43 y.toInt.toNat - μ.1 43 x.toInt.toNat).toInt = mmi μ y.toInt - mmi μ x.toInt := ti_sub (by unfold mmi at hx hy; omega)
    rw [ti_add (by omega), d, e4]
  · obtain ⟨k1, k2, k3, k4⟩ := key _ _ h27 c30
    rw [k2, k2]
    have i1 : (Int32.ofInt 7 * μ.1 42 y.toInt.toNat).toInt = 7 * (μ.1 42 y.toInt.toNat).toInt := ti_cmul (by have := (h.2.2 y.toInt.toNat).2.1; omega)
    have hs := (h.2.2 x.toInt.toNat).2.1
    have ht := (h.2.2 y.toInt.toNat).2.1
    rw [ti_add (by omega), i1]
    omega
  · obtain ⟨k1, k2, k3, k4⟩ := key _ _ h27 c30
    have hs := (h.2.2 x.toInt.toNat).2.1
    have ht := (h.2.2 y.toInt.toNat).2.1
    have i1 : (Int32.ofInt 7 * μ.1 42 y.toInt.toNat).toInt = 7 * (μ.1 42 y.toInt.toNat).toInt := ti_cmul (by omega)
    have i2 : (Int32.ofInt 7 * μ.1 42 y.toInt.toNat + μ.1 42 x.toInt.toNat).toInt = ((msta μ y.toInt * 7 + msta μ x.toInt : Nat) : Int) := by
      rw [ti_add (by omega), i1]
      unfold msta
      omega
    have e4 := k4 (msta μ y.toInt) (msta μ x.toInt) (by omega) (by omega)
    refine ⟨h27.1, ?_⟩
    rw [k2, k2, k3, k3, i2, Int.toNat_natCast]
    unfold apaA
    rw [if_pos ⟨⟨bP_ne c5, bP_ne c13⟩, k1⟩, if_pos c69]
    unfold mLo
    have d : (μ.1 43 y.toInt.toNat - μ.1 43 x.toInt.toNat).toInt = mmi μ y.toInt - mmi μ x.toInt := ti_sub (by unfold mmi at hx hy; omega)
    rw [ti_sub (by omega), d, e4]
  · refine ⟨h27.1, no (fun z => ?_)⟩
    rcases h27.2 with ⟨q3, -⟩ | ⟨-, q3⟩
    · rw [q3] at c30
      exact absurd c30 (by decide)
    · exact q3 z.2
theorem ok_X12_first {x y : Int32} {μ : kMem} (h : mClOk μ) : kOk yX12_first cX12_first 5 (some .int) rmX12_first shM 48 [.ref 0, .int x, .int y] μ (kI fun r μ' => moOnly μ μ' ∧ r.toInt = firA (mEv2 μ x.toInt y.toInt ∧ mCan μ) (mLo μ x.toInt y.toInt) (mHi μ x.toInt y.toInt)) := by
  have z0 : (Int32.ofInt 0).toInt = 0 := by decide
  have o1 : (Int32.ofInt 1).toInt = 1 := by decide
  have o2 : (Int32.ofInt 2).toInt = 2 := by decide
  have mm : (Int32.ofInt (-1)).toInt = -1 := by decide
  have hev := h.1
  have no : ¬ (mEv2 μ x.toInt y.toInt ∧ mCan μ) → (Int32.ofInt (-1)).toInt = firA (mEv2 μ x.toInt y.toInt ∧ mCan μ) (mLo μ x.toInt y.toInt) (mHi μ x.toInt y.toInt) := fun q => by unfold firA; rw [if_neg q, mm]
  have tr : ∀ μ1 μ2 : kMem, moOnly μ μ1 → moOnly μ1 μ2 → moOnly μ μ2 := fun μ1 μ2 q1 q2 a b n => by rw [q2 a b n, q1 a b n]
  have key : ∀ (μ1 : kMem) (r : Int32), (moOnly μ μ1 ∧ ((r = Int32.ofInt 1 ∧ mCan μ ∧ ∀ a b, a < 7 → b < 7 → mo μ1 a b = fw 7 (mcm μ) 7 a b) ∨ (r = Int32.ofInt 0 ∧ ¬ mCan μ))) → ¬ r.toInt = 0 → mCan μ := fun μ1 r q c => by
    rcases q.2 with ⟨-, q3, -⟩ | ⟨q3, -⟩
    · exact q3
    · rw [q3] at c
      exact absurd z0 c
  have ap : ∀ (μ1 μ2 : kMem) (r : Int32) (w : Int), moOnly μ μ1 → (moOnly μ1 μ2 ∧ r.toInt = apaA (mEv2 μ1 x.toInt y.toInt ∧ mCan μ1) (mLo μ1 x.toInt y.toInt) (mHi μ1 x.toInt y.toInt) w) → (mEv2 μ x.toInt y.toInt ∧ mCan μ) → moOnly μ μ2 ∧ r.toInt = (if w = 0 then mLo μ x.toInt y.toInt else if w = 1 then mHi μ x.toInt y.toInt else -2147483648) := fun μ1 μ2 r w q1 q2 q3 => by
    obtain ⟨a1, a2, a3, a4, a5, a6, a7, a8, a9⟩ := moOnly_all q1
    obtain ⟨q4, q5⟩ := q2
    rw [a6, a7, a8, a9] at q5
    unfold apaA at q5
    rw [if_pos q3] at q5
    exact ⟨tr _ _ q1 q4, q5⟩
  have fin : (mEv2 μ x.toInt y.toInt ∧ mCan μ) → ∀ r : Int32, r.toInt = (if 0 < mLo μ x.toInt y.toInt then 1 else if mHi μ x.toInt y.toInt < 0 then 2 else if mLo μ x.toInt y.toInt = 0 ∧ mHi μ x.toInt y.toInt = 0 then 0 else -1) → r.toInt = firA (mEv2 μ x.toInt y.toInt ∧ mCan μ) (mLo μ x.toInt y.toInt) (mHi μ x.toInt y.toInt) := fun q r e => by unfold firA; rw [if_pos q, e]
  refine kOk.of rfl (Nat.le_of_ble_eq_true rfl) (fun J C => ?_)
  have C : kR cX12_first RX12 5 rmX12_first shM 48 (some .int) _ J := C
  refine (r_aload_n C dX12_first_0 rfl rfl (r_iload_n C dX12_first_1 rfl rfl (r_v1P C yv_X12_isEvent lk_X12_384 dX12_first_2 rfl nM_0 sM_0 rfl (Nat.le_of_ble_eq_true rfl) (ok_X12_isEvent ?_) (r_if_eq C (tgt := 23) dX12_first_5 rfl (fun c5 => (r_iconst C dX12_first_23 (r_iret C dX12_first_24 ?_))) (fun c5 => (r_aload_n C dX12_first_8 rfl rfl (r_iload_n C dX12_first_9 rfl rfl (r_v1P C yv_X12_isEvent lk_X12_384 dX12_first_10 rfl nM_0 sM_0 rfl (Nat.le_of_ble_eq_true rfl) (ok_X12_isEvent ?_) (r_if_eq C (tgt := 23) dX12_first_13 rfl (fun c13 => (r_iconst C dX12_first_23 (r_iret C dX12_first_24 ?_))) (fun c13 => (r_aload_n C dX12_first_16 rfl rfl (r_v0I C yv_X12_canBe lk_X12_396 dX12_first_17 rfl nM_0 sM_0 rfl (Nat.le_of_ble_eq_true rfl) (ok_X12_canBe ?_) (fun r17 μ17 h17 => (r_if_ne C (tgt := 25) dX12_first_20 rfl (fun c20 => (r_aload_n C dX12_first_25 rfl rfl (r_iload_n C dX12_first_26 rfl rfl (r_iload_n C dX12_first_27 rfl rfl (r_iconst C dX12_first_28 (r_v3I C yv_X12_apart lk_X12_400 dX12_first_29 rfl nM_0 sM_0 rfl (Nat.le_of_ble_eq_true rfl) (ok_X12_apart ?_) (fun r29 μ29 h29 => (r_istore_n C dX12_first_32 rfl (by decide) (r_aload_n C dX12_first_33 rfl rfl (r_iload_n C dX12_first_34 rfl rfl (r_iload_n C dX12_first_35 rfl rfl (r_iconst C dX12_first_36 (r_v3I C yv_X12_apart lk_X12_400 dX12_first_37 rfl nM_0 sM_0 rfl (Nat.le_of_ble_eq_true rfl) (ok_X12_apart ?_) (fun r37 μ37 h37 => (r_istore C dX12_first_40 (by decide) (r_iload_n C dX12_first_42 rfl rfl (r_if_le C (tgt := 50) dX12_first_43 rfl (fun c43 => (r_iload C dX12_first_50 rfl (r_if_ge C (tgt := 59) dX12_first_52 rfl (fun c52 => (r_iload_n C dX12_first_59 rfl rfl (r_if_ne C (tgt := 72) dX12_first_60 rfl (fun c60 => (r_iconst C dX12_first_72 (r_iret C dX12_first_73 ?_))) (fun c60 => (r_iload C dX12_first_63 rfl (r_if_ne C (tgt := 72) dX12_first_65 rfl (fun c65 => (r_iconst C dX12_first_72 (r_iret C dX12_first_73 ?_))) (fun c65 => (r_iconst C dX12_first_68 (r_goto C (tgt := 73) dX12_first_69 rfl (r_iret C dX12_first_73 ?_)))))))))) (fun c52 => (r_iconst C dX12_first_55 (r_goto C (tgt := 73) dX12_first_56 rfl (r_iret C dX12_first_73 ?_))))))) (fun c43 => (r_iconst C dX12_first_46 (r_goto C (tgt := 73) dX12_first_47 rfl (r_iret C dX12_first_73 ?_))))))))))))))))))))) (fun c20 => (r_iconst C dX12_first_23 (r_iret C dX12_first_24 ?_)))))))))))))))))
  · exact hev.1
  · exact ⟨fun _ _ _ => rfl, no (fun z => bP_e0.mp c5 z.1.1)⟩
  · exact hev.1
  · exact ⟨fun _ _ _ => rfl, no (fun z => bP_e0.mp c13 z.1.2)⟩
  · exact h
  · exact (moOnly_all h17.1).2.2.1 h
  · have hc : mEv2 μ x.toInt y.toInt ∧ mCan μ := ⟨⟨bP_ne c5, bP_ne c13⟩, key _ _ h17 c20⟩
    exact (moOnly_all (ap _ _ _ _ h17.1 h29 hc).1).2.2.1 h
  · have hc : mEv2 μ x.toInt y.toInt ∧ mCan μ := ⟨⟨bP_ne c5, bP_ne c13⟩, key _ _ h17 c20⟩
    have q1 := ap _ _ _ _ h17.1 h29 hc
    have q2 := ap _ _ _ _ q1.1 h37 hc
    rw [z0, if_pos rfl] at q1
    rw [o1, if_neg (by decide), if_pos rfl] at q2
    exact ⟨q2.1, fin hc _ (by rw [if_neg (by omega), if_neg (by omega), if_neg (by omega), mm])⟩
  · have hc : mEv2 μ x.toInt y.toInt ∧ mCan μ := ⟨⟨bP_ne c5, bP_ne c13⟩, key _ _ h17 c20⟩
    have q1 := ap _ _ _ _ h17.1 h29 hc
    have q2 := ap _ _ _ _ q1.1 h37 hc
    rw [z0, if_pos rfl] at q1
    rw [o1, if_neg (by decide), if_pos rfl] at q2
    exact ⟨q2.1, fin hc _ (by rw [if_neg (by omega), if_neg (by omega), if_neg (by omega), mm])⟩
  · have hc : mEv2 μ x.toInt y.toInt ∧ mCan μ := ⟨⟨bP_ne c5, bP_ne c13⟩, key _ _ h17 c20⟩
    have q1 := ap _ _ _ _ h17.1 h29 hc
    have q2 := ap _ _ _ _ q1.1 h37 hc
    rw [z0, if_pos rfl] at q1
    rw [o1, if_neg (by decide), if_pos rfl] at q2
    exact ⟨q2.1, fin hc _ (by rw [if_neg (by omega), if_neg (by omega), if_pos (by omega), z0])⟩
  · have hc : mEv2 μ x.toInt y.toInt ∧ mCan μ := ⟨⟨bP_ne c5, bP_ne c13⟩, key _ _ h17 c20⟩
    have q1 := ap _ _ _ _ h17.1 h29 hc
    have q2 := ap _ _ _ _ q1.1 h37 hc
    rw [z0, if_pos rfl] at q1
    rw [o1, if_neg (by decide), if_pos rfl] at q2
    exact ⟨q2.1, fin hc _ (by rw [if_neg (by omega), if_pos (by omega), o2])⟩
  · have hc : mEv2 μ x.toInt y.toInt ∧ mCan μ := ⟨⟨bP_ne c5, bP_ne c13⟩, key _ _ h17 c20⟩
    have q1 := ap _ _ _ _ h17.1 h29 hc
    have q2 := ap _ _ _ _ q1.1 h37 hc
    rw [z0, if_pos rfl] at q1
    rw [o1, if_neg (by decide), if_pos rfl] at q2
    exact ⟨q2.1, fin hc _ (by rw [if_pos (by omega), o1])⟩
  · refine ⟨h17.1, no (fun z => ?_)⟩
    rcases h17.2 with ⟨q3, -⟩ | ⟨-, q3⟩
    · rw [q3] at c20
      exact absurd c20 (by decide)
    · exact q3 z.2

