/-! ===== the model: the nearest ===== -/
def mNv (μ : kMem) (C : Nat → Int) (j : Nat) : Nat → Int := pNv (mrs μ) (mmc μ) (msz μ) (mkd μ) C j
theorem mNv_b {μ : kMem} (h : mHdOk μ) {C : Nat → Int} {j : Nat} (hC : ∀ i, j < i → i < mmc μ → -1 ≤ C i ∧ C i ≤ 510 * ((mmc μ : Int) - i)) (l : Nat) : -1 ≤ mNv μ C j l ∧ (mNv μ C j l = -1 ∨ mNv μ C j l ≤ 510 * ((mmc μ : Int) - j)) := by
  have h1 := pWv_comb (mrs_b h) (n := msz μ l) (kd := mkd μ l) (fun i a b => (hC i a b).1)
  have h2 := pWv_b (mrs_b h) (n := msz μ l) (kd := mkd μ l) hC 3
  have h3 := pWv_b (mrs_b h) (n := msz μ l) (kd := mkd μ l) hC 4
  have e : mNv μ C j l = cfr (mrs μ) (mmc μ) (msz μ l) (mkd μ l) C j := rfl
  rw [e]
  by_cases q : cfr (mrs μ) (mmc μ) (msz μ l) (mkd μ l) C j = -1
  · omega
  · have := h1.2 q
    omega
theorem pWv_congr {cs : Nat → Int → Int} {mc n : Nat} {kd : Nat → Int} {C D : Nat → Int} {j : Nat} (e : ∀ i, j < i → i < mc → C i = D i) (k : Int) : pWv cs mc n kd C j k = pWv cs mc n kd D j k := by
  unfold pWv
  by_cases q : lcst cs mc n kd j = -1
  · rw [if_pos q, if_pos q]
  · have := lcst_n q
    rw [if_neg q, if_neg q]
    by_cases q2 : j + n = mc
    · rw [if_pos q2, if_pos q2]
    · rw [if_neg q2, if_neg q2, e (j + n) (by omega) (by omega)]
theorem bestF_b {v : Nat → Int} {M : Int} (h : ∀ l, -1 ≤ v l ∧ (v l = -1 ∨ v l ≤ M)) : ∀ l, -1 ≤ (bestF v l).1 ∧ ((bestF v l).1 = -1 ∨ (bestF v l).1 ≤ M) := by
  intro l
  induction l with
  | zero => exact ⟨Int.le_refl _, Or.inl rfl⟩
  | succ l ih =>
    unfold bestF
    split
    · exact h l
    · exact ih
theorem bestF_s {v : Nat → Int} (l : Nat) : (bestF v (l + 1)).1 = if ¬ v l = -1 ∧ ((bestF v l).1 = -1 ∨ v l < (bestF v l).1) then v l else (bestF v l).1 := by
  have e : bestF v (l + 1) = if ¬ v l = -1 ∧ ((bestF v l).1 = -1 ∨ v l < (bestF v l).1) then (v l, (l : Int)) else bestF v l := rfl
  rw [e]
  split <;> rfl
/-- the costs from a mark on are those of the nearest -/
def mNr (μ1 μ : kMem) (jj : Nat) : Prop := ∀ i, jj ≤ i → i < mmc μ1 → mC μ i = (bestF (mNv μ1 (mC μ) i) 26).1 ∧ -1 ≤ mC μ i ∧ mC μ i ≤ 510 * ((mmc μ1 : Int) - i)
noncomputable def mF (μ1 : kMem) (C : Nat → Int) : Nat → Int := fun i => (bestF (mNv μ1 C i) 26).2
/-- how the search goes: from the last mark on -/
def mNk (μ1 μ : kMem) : Prop := ∀ a b : Nat, a ≠ 22 → a ≠ 23 → μ.1 a b = μ1.1 a b
theorem mNk_rs {μ1 μ : kMem} (h : mNk μ1 μ) : mrs μ = mrs μ1 ∧ mmc μ = mmc μ1 ∧ msz μ = msz μ1 ∧ mkd μ = mkd μ1 ∧ (mRd μ1 → mRd μ) ∧ mlc μ = mlc μ1 ∧ mmk μ = mmk μ1 := mRS_all (fun a b q => h a b (by omega) (by omega))
def mRow (L : List Int) (μ : kMem) : Prop := ∀ j (hj : j < L.length), (μ.1 23 j).toInt = L[j]
theorem mRow_add {L : List Int} {μ : kMem} (h : mRow L μ) {x : Int32} {y : Int} (hx : x.toInt = y) : mRow (L ++ [y]) (up μ 23 L.length x) := by
  intro j hj
  by_cases e : j = L.length
  · subst e
    rw [up_same]
    simp [hx]
  · have hj2 : j < L.length := by simp at hj; omega
    rw [up_nek _ _ e, h j hj2, List.getElem_append_left hj2]
theorem mRow_up {L : List Int} {μ : kMem} (h : mRow L μ) {a b : Nat} {x : Int32} (n : a ≠ 23) : mRow L (up μ a b x) := fun j hj => by rw [up_neo _ _ (Ne.symm n)]; exact h j hj
/-- the way of the nearest is written -/
theorem near_walk {Ψ : Int32 → kMem → Prop} {J : kJ} {x y k : Int32} {μ1 : kMem} (C : kR cX12_nearest RX12 8 rmX12_nearest shM 48 (some .int) (kI Ψ) J) (hR : mRd μ1) (fin : ∀ (r : Int32) (μ' : kMem), mNk μ1 μ' → nrA (mrs μ1) (mmc μ1) (msz μ1) (mkd μ1) k.toInt r.toInt → Ψ r μ') (Cc : Nat → Int) (hN : pNr (mrs μ1) (mmc μ1) (msz μ1) (mkd μ1) Cc (mF μ1 Cc)) (hCb : ∀ i, i < mmc μ1 → -1 ≤ Cc i ∧ Cc i ≤ 510 * ((mmc μ1 : Int) - i)) (hno : ¬ (Cc 0 = -1 ∨ k.toInt = -2)) : ∀ (f m : Nat) (L : List Int) (n p : Int32) (μ' : kMem) (z6 z7 : Option Value), f ≤ 60 → n.toInt = L.length → p.toInt = 2 * (m : Int) → mRow L μ' → L.length + 2 * (mmc μ1 - m) ≤ 120 → m ≤ mmc μ1 → mmc μ1 - m ≤ f → (m < mmc μ1 → ¬ Cc m = -1) → (∀ i, i < mmc μ1 → mC μ' i = Cc i) → L ++ wrF (mF μ1 Cc) (msz μ1) (pBl (mrs μ1)) (mmc μ1) f m = wrF (mF μ1 Cc) (msz μ1) (pBl (mrs μ1)) (mmc μ1) 60 0 → mNk μ1 μ' → J 150 [some (.ref 0), some (.int x), some (.int y), some (.int k), some (.int n), some (.int p), z6, z7] [] μ' := by
  have m3 : (Int32.ofInt 3).toInt = 3 := by decide
  have m4 : (Int32.ofInt 4).toInt = 4 := by decide
  have mm : (Int32.ofInt (-1)).toInt = -1 := by decide
  have m97 : (Int32.ofInt 97).toInt = 97 := by decide
  have m32 : (Int32.ofInt 32).toInt = 32 := by decide
  have hn := mRd_n hR
  intro f
  induction f using Nat.strongRecOn with
  | ind f ih =>
    intro m L n p μ' z6 z7 hf hnL hp hRow hL hm hmf hCm hCC hW hK
    obtain ⟨r1, r2, r3, r4, r5, r6, r7⟩ := mNk_rs hK
    have e21 : μ'.1 0 21 = μ1.1 0 21 := hK 0 21 (by decide) (by decide)
    have epm : p.toInt.toNat = 2 * m := by omega
    by_cases hmm : mmc μ1 ≤ m
    · rw [wrF_stop f hmm, List.append_nil] at hW
      have hans : ∀ r : Int32, r.toInt = rowA L k.toInt → Ψ r μ' := fun r q => fin r μ' hK ⟨Cc, mF μ1 Cc, hN, by rw [if_neg hno, q, ← hW]⟩
      have en1 : (n - Int32.ofInt 1).toInt = (L.length : Int) - 1 := by rw [ti_subc (by omega), hnL]
      refine (r_iload C dX12_nearest_150 rfl (r_aload_n C dX12_nearest_152 rfl rfl (r_getI C dX12_nearest_153 fd_X12_260 nM_0 sM_0 rfl (r_icmp_ge C (tgt := 274) dX12_nearest_156 rfl (fun c156 => (r_iload_n C dX12_nearest_274 rfl rfl (r_iconst C dX12_nearest_275 (r_icmp_ne C (tgt := 284) dX12_nearest_276 rfl (fun c276 => (r_iload_n C dX12_nearest_284 rfl rfl (r_i2l C dX12_nearest_285 (r_lconst C dX12_nearest_286 rfl (r_iload C dX12_nearest_287 rfl (r_iconst C dX12_nearest_289 (r_isub C dX12_nearest_290 (r_i2l C dX12_nearest_291 (r_s3P C ys_X12_in lk_X12_155 dX12_nearest_292 rfl (Nat.le_of_ble_eq_true rfl) ok_X12_in (r_if_eq C (tgt := 307) dX12_nearest_295 rfl (fun c295 => (r_iconst C dX12_nearest_307 (r_iret C dX12_nearest_308 ?_))) (fun c295 => (r_aload_n C dX12_nearest_298 rfl rfl (r_getR C dX12_nearest_299 fd_X12_72 nM_0 sM_0 rfl (r_iload_n C dX12_nearest_302 rfl rfl (r_bald C dX12_nearest_303 nM_23 sM_23 ?_ (r_goto C (tgt := 308) dX12_nearest_304 rfl (r_iret C dX12_nearest_308 ?_))))))))))))))))) (fun c276 => (r_iload C dX12_nearest_279 rfl (r_goto C (tgt := 308) dX12_nearest_281 rfl (r_iret C dX12_nearest_308 ?_)))))))) (fun c156 => (r_iconst C dX12_nearest_159 (r_istore C dX12_nearest_160 (by decide) (r_iconst C dX12_nearest_162 (r_istore C dX12_nearest_163 (by decide) ?_)))))))))
      · have c := bP_e0.mp c295
        simp only [tl_i2l, ll_c0, ll_c1, ll_m1, ll_32, ll_97, ll_25, ll_255255, ll_5, ll_99, ll_20, ll_9, ll_999, ll_1000000, ll_17575, ll_3, ll_200, ll_60, ll_2, ll_5000, ll_m60, ll_m99] at c
        rw [en1] at c
        rw [mm] at c276
        refine hans _ ?_
        unfold rowA
        rw [if_neg c276, dif_neg (by omega), mm]
      · have c := bP_ne c295
        simp only [tl_i2l, ll_c0, ll_c1, ll_m1, ll_32, ll_97, ll_25, ll_255255, ll_5, ll_99, ll_20, ll_9, ll_999, ll_1000000, ll_17575, ll_3, ll_200, ll_60, ll_2, ll_5000, ll_m60, ll_m99] at c
        rw [en1] at c
        omega
      · have c := bP_ne c295
        simp only [tl_i2l, ll_c0, ll_c1, ll_m1, ll_32, ll_97, ll_25, ll_255255, ll_5, ll_99, ll_20, ll_9, ll_999, ll_1000000, ll_17575, ll_3, ll_200, ll_60, ll_2, ll_5000, ll_m60, ll_m99] at c
        rw [en1] at c
        rw [mm] at c276
        refine hans _ ?_
        unfold rowA
        rw [if_neg c276, dif_pos ⟨c.1, by omega⟩]
        exact hRow k.toInt.toNat (by omega)
      · rw [mm] at c276
        refine hans _ ?_
        unfold rowA
        rw [if_pos c276, hnL]
      · rw [e21] at c156
        omega
    · have hlt : m < mmc μ1 := by omega
      obtain ⟨ff, f1, f2, f3, f4, f5, f6, f7⟩ := pNr_step (mrs_b hR.2.1) hN hCb hlt (hCm hlt)
      have hCm' := hCm hlt
      have hw := fun c : Nat => pWv_comb (mrs_b hR.2.1) (mc := mmc μ1) (n := msz μ1 c) (kd := mkd μ1 c) (C := Cc) (j := m) (fun i a b => (hCb i b).1)
      have hf : ¬ cfr (mrs μ1) (mmc μ1) (msz μ1 ff) (mkd μ1 ff) Cc m = -1 := by rw [show cfr (mrs μ1) (mmc μ1) (msz μ1 ff) (mkd μ1 ff) Cc m = Cc m from f6.symm]; exact hCm'
      have hcf := (hw ff).2 hf
      rw [show cfr (mrs μ1) (mmc μ1) (msz μ1 ff) (mkd μ1 ff) Cc m = Cc m from f6.symm] at hcf
      obtain ⟨tp, htp⟩ : ∃ tp : Nat, tp = 2 * ff + (if pWv (mrs μ1) (mmc μ1) (msz μ1 ff) (mkd μ1 ff) Cc m 3 = Cc m then 0 else 1) := ⟨_, rfl⟩
      have htp1 : tp ≤ 2 * ff + 1 := by rw [htp]; split <;> omega
      have hE : ∀ c q : Nat, 2 * c + q ≤ tp → q ≤ 1 → (pWv (mrs μ1) (mmc μ1) (msz μ1 c) (mkd μ1 c) Cc m (3 + (q : Int)) = Cc m ↔ 2 * c + q = tp) := by
        intro c q h1 h2
        by_cases e : c = ff
        · subst e
          rcases (show q = 0 ∨ q = 1 by omega) with rfl | rfl
          · show pWv (mrs μ1) (mmc μ1) (msz μ1 c) (mkd μ1 c) Cc m 3 = Cc m ↔ _
            split at htp
            · rename_i z
              exact ⟨fun _ => by omega, fun _ => z⟩
            · rename_i z
              exact ⟨fun y => absurd y z, fun y => by omega⟩
          · show pWv (mrs μ1) (mmc μ1) (msz μ1 c) (mkd μ1 c) Cc m 4 = Cc m ↔ _
            split at htp
            · omega
            · rename_i z
              exact ⟨fun _ => by omega, fun _ => (hcf.2.2.1.resolve_left (fun y => z y.symm)).symm⟩
        · have hlt2 : c < ff := by omega
          have h3 := f7 c hlt2
          have h4 := hw c
          have e5 : pNv (mrs μ1) (mmc μ1) (msz μ1) (mkd μ1) Cc m c = cfr (mrs μ1) (mmc μ1) (msz μ1 c) (mkd μ1 c) Cc m := rfl
          rw [e5] at h3
          refine ⟨fun y => ?_, fun y => by omega⟩
          exfalso
          rcases (show q = 0 ∨ q = 1 by omega) with rfl | rfl
          · have y : pWv (mrs μ1) (mmc μ1) (msz μ1 c) (mkd μ1 c) Cc m 3 = Cc m := y
            by_cases z : cfr (mrs μ1) (mmc μ1) (msz μ1 c) (mkd μ1 c) Cc m = -1
            · have := (h4.1.mp z).1; omega
            · have := (h4.2 z).1; omega
          · have y : pWv (mrs μ1) (mmc μ1) (msz μ1 c) (mkd μ1 c) Cc m 4 = Cc m := y
            by_cases z : cfr (mrs μ1) (mmc μ1) (msz μ1 c) (mkd μ1 c) Cc m = -1
            · have := (h4.1.mp z).2; omega
            · have := (h4.2 z).2.1; omega
      have hblank : tp = 2 * ff ↔ ¬ (m + msz μ1 ff < mmc μ1 ∧ pBl (mrs μ1) (m + msz μ1 ff)) := by
        rw [← hcf.2.2.2]
        split at htp
        · rename_i z
          exact ⟨fun _ => z, fun _ => by omega⟩
        · rename_i z
          exact ⟨fun y => by omega, fun y => absurd y z⟩
      clear htp
      obtain ⟨g, hg⟩ : ∃ g, f = g + 1 := ⟨f - 1, by omega⟩
      subst hg
      have eW : wrF (mF μ1 Cc) (msz μ1) (pBl (mrs μ1)) (mmc μ1) (g + 1) m = (97 + mF μ1 Cc m) :: (@ite _ (m + msz μ1 (mF μ1 Cc m) < mmc μ1 ∧ pBl (mrs μ1) (m + msz μ1 (mF μ1 Cc m))) (Classical.propDecidable _) (32 :: wrF (mF μ1 Cc) (msz μ1) (pBl (mrs μ1)) (mmc μ1) g (m + msz μ1 (mF μ1 Cc m))) (wrF (mF μ1 Cc) (msz μ1) (pBl (mrs μ1)) (mmc μ1) g (m + msz μ1 (mF μ1 Cc m)))) := by
        show (if mmc μ1 ≤ m then [] else _) = _
        rw [if_neg hmm]
      rw [eW, f2] at hW
      have hsl : ∀ t : Int32, ∀ μ3 : kMem, (∀ i, mC (up μ3 23 n.toInt.toNat t) i = mC μ3 i) ∧ (mNk μ1 μ3 → mNk μ1 (up μ3 23 n.toInt.toNat t)) := fun t μ3 => ⟨fun i => by unfold mC; rw [up_neo _ _ (by decide)], fun q a b n1 n2 => by rw [up_neo _ _ n2]; exact q a b n1 n2⟩
      have enl : n.toInt.toNat = L.length := by omega
      have search : ∀ (d c q : Nat) (u w : Int32), 2 * c + q + d = tp → q ≤ 1 → u.toInt = c → w.toInt = 3 + (q : Int) → J 165 [some (.ref 0), some (.int x), some (.int y), some (.int k), some (.int n), some (.int p), some (.int u), some (.int w)] [] μ' := by
        intro d
        induction d using Nat.strongRecOn with
        | ind d ihd =>
          intro c q u w hd hq hu hw'
          have hcE := hE c q (by omega) hq
          have hwb := pWv_b (mrs_b hR.2.1) (n := msz μ1 c) (kd := mkd μ1 c) (C := Cc) (j := m) (fun i a b => hCb i b) (3 + (q : Int))
          have ej2 : p.toInt.toNat / 2 = m := by omega
          obtain ⟨wv, hwv⟩ : ∃ wv, wv = pWv (mrs μ1) (mmc μ1) (msz μ1 c) (mkd μ1 c) Cc m (3 + (q : Int)) := ⟨_, rfl⟩
          rw [← hwv] at hwb hcE
          have emw : mwv μ' (p.toInt.toNat / 2) u.toInt w.toInt = wv := by
            unfold mwv
            rw [r1, r2, r3, r4, ej2, hu, hw', hwv]
            exact pWv_congr (fun i _ b => hCC i b) _
          have iw := ti_ofInt (n := wv) (by omega)
          have e22 : (μ'.1 22 p.toInt.toNat).toInt = Cc m := by rw [epm, ← hCC m hlt]; rfl
          have hc26 : c < 26 := by omega
          have em : (μ'.1 3 u.toInt.toNat).toInt = mmk μ1 (c : Int) := by
            unfold mmk
            rw [if_pos (by omega), show u.toInt.toNat = c by omega, Int.toNat_natCast, hK 3 c (by decide) (by decide)]
          have hmd : mdOk (μ'.1 3 u.toInt.toNat).toInt := by
            rw [em]
            unfold mmk
            rw [if_pos (by omega), Int.toNat_natCast]
            exact hR.2.2.1 c hc26
          have hdl := dnF_le 5 (μ'.1 3 u.toInt.toNat).toInt
          have edn : dnF 5 (μ'.1 3 u.toInt.toNat).toInt = msz μ1 (c : Int) := by rw [em]; rfl
          have ei1 : (Int32.ofInt 2 * Int32.ofInt (dnF 5 (μ'.1 3 u.toInt.toNat).toInt)).toInt = 2 * (msz μ1 (c : Int) : Int) := by rw [ti_cmul (by rw [ti_ofInt (by omega)]; omega), ti_ofInt (by omega), edn]
          have eip : (p + Int32.ofInt 2 * Int32.ofInt (dnF 5 (μ'.1 3 u.toInt.toNat).toInt)).toInt = 2 * ((m + msz μ1 (c : Int) : Nat) : Int) := by rw [ti_add (by omega), ei1]; omega
          have e97 : (Int32.ofInt 97 + u).toInt = 97 + (c : Int) := by rw [ti_add (by omega), m97]; omega
          have eb : (Int32.ofInt 97 + u).toInt8.toInt32.toInt8.toInt32.toInt = 97 + (c : Int) := by
            rw [i8_id (by rw [i8_id (by omega)]; omega), i8_id (by omega)]
            exact e97
          have eb2 : (Int32.ofInt 32).toInt8.toInt32.toInt = 32 := by
            rw [i8_id (by omega)]
            exact m32
          have en1 : (n + Int32.ofInt 1).toInt = (L.length : Int) + 1 := by rw [ti_addc (by omega), hnL]
          refine (r_aload_n C dX12_nearest_165 rfl rfl (r_iload C dX12_nearest_166 rfl (r_iload C dX12_nearest_168 rfl (r_iload C dX12_nearest_170 rfl (r_v3P C yv_X12_whole lk_X12_307 dX12_nearest_172 rfl nM_0 sM_0 rfl (Nat.le_of_ble_eq_true rfl) (ok_X12_whole ?_) (r_aload_n C dX12_nearest_175 rfl rfl (r_getR C dX12_nearest_176 fd_X12_69 nM_0 sM_0 rfl (r_iload C dX12_nearest_179 rfl (r_iald C dX12_nearest_181 nM_22 sM_22 ?_ (r_icmp_eq C (tgt := 218) dX12_nearest_182 rfl (fun c182 => (r_aload_n C dX12_nearest_218 rfl rfl (r_getR C dX12_nearest_219 fd_X12_72 nM_0 sM_0 rfl (r_iload C dX12_nearest_222 rfl (r_bipush C dX12_nearest_224 (by decide +kernel) (r_iload C dX12_nearest_226 rfl (r_iadd C dX12_nearest_228 (r_i2b C dX12_nearest_229 (r_bast C dX12_nearest_230 nM_23 sM_23 ?_ (r_iinc C dX12_nearest_231 rfl (by decide) (r_iload C dX12_nearest_234 rfl (r_iconst C dX12_nearest_236 (r_aload_n C dX12_nearest_237 rfl rfl (r_getR C dX12_nearest_238 fd_X12_15 nM_0 sM_0 rfl (r_iconst C dX12_nearest_241 (r_aald C (r := 3) dX12_nearest_242 nM_2 (by decide) sM_2 (by decide) (by decide) (r_iload C dX12_nearest_243 rfl (r_iald C dX12_nearest_245 nM_3 sM_3 ?_ (r_s1P C ys_X12_marksMany lk_X12_277 dX12_nearest_246 rfl (Nat.le_of_ble_eq_true rfl) (ok_X12_marksMany ?_) (r_imul C dX12_nearest_249 (r_iadd C dX12_nearest_250 (r_istore C dX12_nearest_251 (by decide) (r_iload C dX12_nearest_253 rfl (r_iconst C dX12_nearest_255 (r_icmp_ne C (tgt := 271) dX12_nearest_256 rfl (fun c256 => (r_goto C (tgt := 150) dX12_nearest_271 rfl ?_)) (fun c256 => (r_aload_n C dX12_nearest_259 rfl rfl (r_getR C dX12_nearest_260 fd_X12_72 nM_0 sM_0 rfl (r_iload C dX12_nearest_263 rfl (r_bipush C dX12_nearest_265 (by decide +kernel) (r_bast C dX12_nearest_267 nM_23 sM_23 ?_ (r_iinc C dX12_nearest_268 rfl (by decide) (r_goto C (tgt := 150) dX12_nearest_271 rfl ?_))))))))))))))))))))))))))))))))) (fun c182 => (r_iload C dX12_nearest_185 rfl (r_iconst C dX12_nearest_187 (r_icmp_ne C (tgt := 198) dX12_nearest_188 rfl (fun c188 => (r_iload C dX12_nearest_198 rfl (r_istore C dX12_nearest_200 (by decide) (r_iload C dX12_nearest_202 rfl (r_iconst C dX12_nearest_204 (r_icmp_ne C (tgt := 212) dX12_nearest_205 rfl (fun c205 => (r_iconst C dX12_nearest_212 (r_istore C dX12_nearest_213 (by decide) (r_goto C (tgt := 165) dX12_nearest_215 rfl ?_)))) (fun c205 => (r_iconst C dX12_nearest_208 (r_goto C (tgt := 213) dX12_nearest_209 rfl (r_istore C dX12_nearest_213 (by decide) (r_goto C (tgt := 165) dX12_nearest_215 rfl ?_))))))))))) (fun c188 => (r_iload C dX12_nearest_191 rfl (r_iconst C dX12_nearest_193 (r_iadd C dX12_nearest_194 (r_goto C (tgt := 200) dX12_nearest_195 rfl (r_istore C dX12_nearest_200 (by decide) (r_iload C dX12_nearest_202 rfl (r_iconst C dX12_nearest_204 (r_icmp_ne C (tgt := 212) dX12_nearest_205 rfl (fun c205 => (r_iconst C dX12_nearest_212 (r_istore C dX12_nearest_213 (by decide) (r_goto C (tgt := 165) dX12_nearest_215 rfl ?_)))) (fun c205 => (r_iconst C dX12_nearest_208 (r_goto C (tgt := 213) dX12_nearest_209 rfl (r_istore C dX12_nearest_213 (by decide) (r_goto C (tgt := 165) dX12_nearest_215 rfl ?_))))))))))))))))))))))))))))
          · rw [e21, ej2, r2]
            exact ⟨r5 hR, ⟨by omega, by omega, by omega⟩, ⟨by omega, by omega⟩, ⟨by omega, by omega⟩, fun i a b => by rw [hCC i b]; exact hCb i b⟩
          · omega
          · omega
          · omega
          · simp (disch := decide) only [up_same, up_neo, up_nek, up_2]
            exact ⟨hmd.1, hmd.2.1⟩
          · rw [emw, iw, e22] at c182
            have e := hcE.mp c182
            rw [m4] at c256
            have q0 : q = 0 := by omega
            subst q0
            have ec : c = ff := by omega
            subst ec
            rw [if_neg (hblank.mp (by omega))] at hW
            simp (disch := decide) only [up_same, up_neo, up_nek, up_2]
            rw [enl]
            refine ih g (by omega) (m + msz μ1 (c : Int)) (L ++ [97 + (c : Int)]) _ _ _ _ _ (by omega) ?_ eip (mRow_add hRow eb) ?_ f4 (by omega) f5 ?_ ?_ ?_
            · simp only [List.length_append, List.length_cons, List.length_nil]
              omega
            · simp only [List.length_append, List.length_cons, List.length_nil]
              omega
            · intro i hi
              rw [← enl, (hsl _ μ').1 i]
              exact hCC i hi
            · rw [List.append_assoc]
              exact hW
            · rw [← enl]
              exact (hsl _ μ').2 hK
          · omega
          · rw [emw, iw, e22] at c182
            have e := hcE.mp c182
            rw [m4] at c256
            have q1 : q = 1 := by omega
            subst q1
            have ec : c = ff := by omega
            subst ec
            rw [if_pos (Classical.not_not.mp (fun z => by have := hblank.mpr z; omega))] at hW
            simp (disch := decide) only [up_same, up_neo, up_nek, up_2]
            rw [en1, show ((L.length : Int) + 1).toNat = (L ++ [97 + (c : Int)]).length by simp only [List.length_append, List.length_cons, List.length_nil]; omega, enl]
            refine ih g (by omega) (m + msz μ1 (c : Int)) (L ++ [97 + (c : Int)] ++ [32]) _ _ _ _ _ (by omega) ?_ eip (mRow_add (mRow_add hRow eb) eb2) ?_ f4 (by omega) f5 ?_ ?_ ?_
            · rw [ti_addc (by omega), en1]
              simp only [List.length_append, List.length_cons, List.length_nil]
              omega
            · simp only [List.length_append, List.length_cons, List.length_nil]
              omega
            · intro i hi
              rw [← hCC i hi]
              unfold mC
              rw [up_neo _ _ (by decide), up_neo _ _ (by decide)]
            · rw [List.append_assoc, List.append_assoc]
              exact hW
            · intro a b n1 n2
              rw [up_neo _ _ n2, up_neo _ _ n2]
              exact hK a b n1 n2
          · rw [emw, iw, e22] at c182
            rw [m4] at c188
            have q0 : q = 0 := by omega
            subst q0
            have hne : ¬ 2 * c + 0 = tp := fun z => c182 (hcE.mpr z)
            exact ihd (d - 1) (by omega) c 1 _ _ (by omega) (by omega) hu (by simp (disch := (first | omega | (simp (disch := omega) only [ti_ofInt, ti_addc, ti_subc, ti_mulc, ti_cmul, ti_divc, ti_remc, ti_zero, ti_add, ti_sub, ti_neg, if_lt_ti, if_gt_ti, bP_e0, Classical.not_not, tl_i2l]; omega))) only [ti_ofInt, ti_addc, ti_subc, ti_mulc, ti_cmul, ti_divc, ti_remc, ti_zero, ti_add, ti_sub, ti_neg, if_lt_ti, if_gt_ti, bP_e0, Classical.not_not, tl_i2l]; rfl)
          · rw [m4] at c188 c205; omega
          · rw [m4] at c188 c205; omega
          · rw [emw, iw, e22] at c182
            rw [m4] at c188
            have q1 : q = 1 := by omega
            subst q1
            have hne : ¬ 2 * c + 1 = tp := fun z => c182 (hcE.mpr z)
            exact ihd (d - 1) (by omega) (c + 1) 0 _ _ (by omega) (by omega) (by simp (disch := (first | omega | (simp (disch := omega) only [ti_ofInt, ti_addc, ti_subc, ti_mulc, ti_cmul, ti_divc, ti_remc, ti_zero, ti_add, ti_sub, ti_neg, if_lt_ti, if_gt_ti, bP_e0, Classical.not_not, tl_i2l]; omega))) only [ti_ofInt, ti_addc, ti_subc, ti_mulc, ti_cmul, ti_divc, ti_remc, ti_zero, ti_add, ti_sub, ti_neg, if_lt_ti, if_gt_ti, bP_e0, Classical.not_not, tl_i2l]; omega) (by simp (disch := (first | omega | (simp (disch := omega) only [ti_ofInt, ti_addc, ti_subc, ti_mulc, ti_cmul, ti_divc, ti_remc, ti_zero, ti_add, ti_sub, ti_neg, if_lt_ti, if_gt_ti, bP_e0, Classical.not_not, tl_i2l]; omega))) only [ti_ofInt, ti_addc, ti_subc, ti_mulc, ti_cmul, ti_divc, ti_remc, ti_zero, ti_add, ti_sub, ti_neg, if_lt_ti, if_gt_ti, bP_e0, Classical.not_not, tl_i2l]; rfl)
      refine (r_iload C dX12_nearest_150 rfl (r_aload_n C dX12_nearest_152 rfl rfl (r_getI C dX12_nearest_153 fd_X12_260 nM_0 sM_0 rfl (r_icmp_ge C (tgt := 274) dX12_nearest_156 rfl (fun c156 => (r_iload_n C dX12_nearest_274 rfl rfl (r_iconst C dX12_nearest_275 (r_icmp_ne C (tgt := 284) dX12_nearest_276 rfl (fun c276 => (r_iload_n C dX12_nearest_284 rfl rfl (r_i2l C dX12_nearest_285 (r_lconst C dX12_nearest_286 rfl (r_iload C dX12_nearest_287 rfl (r_iconst C dX12_nearest_289 (r_isub C dX12_nearest_290 (r_i2l C dX12_nearest_291 (r_s3P C ys_X12_in lk_X12_155 dX12_nearest_292 rfl (Nat.le_of_ble_eq_true rfl) ok_X12_in (r_if_eq C (tgt := 307) dX12_nearest_295 rfl (fun c295 => (r_iconst C dX12_nearest_307 (r_iret C dX12_nearest_308 ?_))) (fun c295 => (r_aload_n C dX12_nearest_298 rfl rfl (r_getR C dX12_nearest_299 fd_X12_72 nM_0 sM_0 rfl (r_iload_n C dX12_nearest_302 rfl rfl (r_bald C dX12_nearest_303 nM_23 sM_23 ?_ (r_goto C (tgt := 308) dX12_nearest_304 rfl (r_iret C dX12_nearest_308 ?_))))))))))))))))) (fun c276 => (r_iload C dX12_nearest_279 rfl (r_goto C (tgt := 308) dX12_nearest_281 rfl (r_iret C dX12_nearest_308 ?_)))))))) (fun c156 => (r_iconst C dX12_nearest_159 (r_istore C dX12_nearest_160 (by decide) (r_iconst C dX12_nearest_162 (r_istore C dX12_nearest_163 (by decide) ?_)))))))))
      · rw [e21] at c156; omega
      · rw [e21] at c156; omega
      · rw [e21] at c156; omega
      · rw [e21] at c156; omega
      · exact search tp 0 0 _ _ (by omega) (by omega) (by simp (disch := (first | omega | (simp (disch := omega) only [ti_ofInt, ti_addc, ti_subc, ti_mulc, ti_cmul, ti_divc, ti_remc, ti_zero, ti_add, ti_sub, ti_neg, if_lt_ti, if_gt_ti, bP_e0, Classical.not_not, tl_i2l]; omega))) only [ti_ofInt, ti_addc, ti_subc, ti_mulc, ti_cmul, ti_divc, ti_remc, ti_zero, ti_add, ti_sub, ti_neg, if_lt_ti, if_gt_ti, bP_e0, Classical.not_not, tl_i2l]; rfl) (by simp (disch := (first | omega | (simp (disch := omega) only [ti_ofInt, ti_addc, ti_subc, ti_mulc, ti_cmul, ti_divc, ti_remc, ti_zero, ti_add, ti_sub, ti_neg, if_lt_ti, if_gt_ti, bP_e0, Classical.not_not, tl_i2l]; omega))) only [ti_ofInt, ti_addc, ti_subc, ti_mulc, ti_cmul, ti_divc, ti_remc, ti_zero, ti_add, ti_sub, ti_neg, if_lt_ti, if_gt_ti, bP_e0, Classical.not_not, tl_i2l]; rfl)
set_option maxHeartbeats 4000000 in
theorem ok_X12_nearest {x y k : Int32} {μ : kMem} (h : mRI μ) : kOk yX12_nearest cX12_nearest 8 (some .int) rmX12_nearest shM 48 [.ref 0, .int x, .int y, .int k] μ (kI fun r μ' => (¬ mcan μ x.toInt y.toInt ∧ r = Int32.ofInt (-1) ∧ μ' = μ) ∨ (mcan μ x.toInt y.toInt ∧ mSm μ μ' ∧ nrA (mcs μ x.toInt y.toInt) (mmc μ) (msz μ) (mkd μ) k.toInt r.toInt)) := by
  have z0 : (Int32.ofInt 0).toInt = 0 := by decide
  have n0 : (Int32.ofInt 0).toInt.toNat = 2 * 0 := by decide
  have m26 : (Int32.ofInt 26).toInt = 26 := by decide
  have m3 : (Int32.ofInt 3).toInt = 3 := by decide
  have m4 : (Int32.ofInt 4).toInt = 4 := by decide
  have mm : (Int32.ofInt (-1)).toInt = -1 := by decide
  have m2 : (Int32.ofInt (-2)).toInt = -2 := by decide
  have m97 : (Int32.ofInt 97).toInt = 97 := by decide
  have m32 : (Int32.ofInt 32).toInt = 32 := by decide
  refine kOk.of rfl (Nat.le_of_ble_eq_true rfl) (fun J C => ?_)
  have C : kR cX12_nearest RX12 8 rmX12_nearest shM 48 (some .int) _ J := C
  have main : ∀ μ1 : kMem, mRd μ1 → (∀ (r : Int32) (μ' : kMem), mNk μ1 μ' → nrA (mrs μ1) (mmc μ1) (msz μ1) (mkd μ1) k.toInt r.toInt → ((¬ mcan μ x.toInt y.toInt ∧ r = Int32.ofInt (-1) ∧ μ' = μ) ∨ (mcan μ x.toInt y.toInt ∧ mSm μ μ' ∧ nrA (mcs μ x.toInt y.toInt) (mmc μ) (msz μ) (mkd μ) k.toInt r.toInt))) → ∀ (jj : Nat) (v : Int32) (μ' : kMem) (z5 z6 z7 : Option Value), jj ≤ mmc μ1 → v.toInt = 2 * (jj : Int) - 2 → mNr μ1 μ' jj → mNk μ1 μ' → J 19 [some (.ref 0), some (.int x), some (.int y), some (.int k), some (.int v), z5, z6, z7] [] μ' := by
    intro μ1 hR fin
    have hn := mRd_n hR
    intro jj
    induction jj using Nat.strongRecOn with
    | ind jj ih =>
      intro v μ' z5 z6 z7 hjj hv hI hK
      obtain ⟨r1, r2, r3, r4, r5, r6, r7⟩ := mNk_rs hK
      by_cases hj0 : jj = 0
      · subst hj0
        have hN : pNr (mrs μ1) (mmc μ1) (msz μ1) (mkd μ1) (mC μ') (mF μ1 (mC μ')) := fun i hi => ⟨(hI i (Nat.zero_le _) hi).1, rfl⟩
        have e0 : (μ'.1 22 (Int32.ofInt 0).toInt.toNat).toInt = mC μ' 0 := by rw [n0]; rfl
        refine (r_iload C dX12_nearest_19 rfl (r_if_lt C (tgt := 119) dX12_nearest_21 rfl (fun c21 => (r_aload_n C dX12_nearest_119 rfl rfl (r_getR C dX12_nearest_120 fd_X12_69 nM_0 sM_0 rfl (r_iconst C dX12_nearest_123 (r_iald C dX12_nearest_124 nM_22 sM_22 (by decide) (r_iconst C dX12_nearest_125 (r_icmp_ne C (tgt := 131) dX12_nearest_126 rfl (fun c126 => (r_iload_n C dX12_nearest_131 rfl rfl (r_bipush C dX12_nearest_132 (by decide +kernel) (r_icmp_ne C (tgt := 144) dX12_nearest_134 rfl (fun c134 => (r_iconst C dX12_nearest_144 (r_istore C dX12_nearest_145 (by decide) (r_iconst C dX12_nearest_147 (r_istore C dX12_nearest_148 (by decide) ?_))))) (fun c134 => (r_aload_n C dX12_nearest_137 rfl rfl (r_getR C dX12_nearest_138 fd_X12_69 nM_0 sM_0 rfl (r_iconst C dX12_nearest_141 (r_iald C dX12_nearest_142 nM_22 sM_22 (by decide) (r_iret C dX12_nearest_143 ?_)))))))))) (fun c126 => (r_iconst C dX12_nearest_129 (r_iret C dX12_nearest_130 ?_)))))))))) (fun c21 => (r_aload_n C dX12_nearest_24 rfl rfl (r_getR C dX12_nearest_25 fd_X12_69 nM_0 sM_0 rfl (r_iload C dX12_nearest_28 rfl (r_iconst C dX12_nearest_30 (r_iast C dX12_nearest_31 nM_22 sM_22 ?_ (r_iconst C dX12_nearest_32 (r_istore C dX12_nearest_33 (by decide) ?_))))))))))
        · rw [e0, mm] at c126
          rw [m2] at c134
          exact near_walk C hR fin (mC μ') hN (fun i hi => (hI i (Nat.zero_le _) hi).2) (by omega) 60 0 [] _ _ μ' _ _ (Nat.le_refl _) (by simp (disch := (first | omega | (simp (disch := omega) only [ti_ofInt, ti_addc, ti_subc, ti_mulc, ti_cmul, ti_divc, ti_remc, ti_zero, ti_add, ti_sub, ti_neg, if_lt_ti, if_gt_ti, bP_e0, Classical.not_not, tl_i2l]; omega))) only [ti_ofInt, ti_addc, ti_subc, ti_mulc, ti_cmul, ti_divc, ti_remc, ti_zero, ti_add, ti_sub, ti_neg, if_lt_ti, if_gt_ti, bP_e0, Classical.not_not, tl_i2l]; rfl) (by simp (disch := (first | omega | (simp (disch := omega) only [ti_ofInt, ti_addc, ti_subc, ti_mulc, ti_cmul, ti_divc, ti_remc, ti_zero, ti_add, ti_sub, ti_neg, if_lt_ti, if_gt_ti, bP_e0, Classical.not_not, tl_i2l]; omega))) only [ti_ofInt, ti_addc, ti_subc, ti_mulc, ti_cmul, ti_divc, ti_remc, ti_zero, ti_add, ti_sub, ti_neg, if_lt_ti, if_gt_ti, bP_e0, Classical.not_not, tl_i2l]; rfl) (fun j hj => absurd hj (Nat.not_lt_zero _)) (by simp only [List.length_nil]; omega) (Nat.zero_le _) (by omega) (fun _ => c126) (fun _ _ => rfl) rfl hK
        · rw [m2] at c134
          refine fin _ μ' hK ⟨mC μ', mF μ1 (mC μ'), hN, ?_⟩
          rw [if_pos (Or.inr c134), e0]
        · rw [e0, mm] at c126
          refine fin _ μ' hK ⟨mC μ', mF μ1 (mC μ'), hN, ?_⟩
          rw [if_pos (Or.inl c126), mm, c126]
        · omega
        · omega
      obtain ⟨j, ej⟩ : ∃ j, jj = j + 1 := ⟨jj - 1, by omega⟩
      subst ej
      have evj : v.toInt.toNat = 2 * j := by omega
      have hCb : ∀ i, j < i → i < mmc μ1 → -1 ≤ mC μ' i ∧ mC μ' i ≤ 510 * ((mmc μ1 : Int) - i) := fun i a b => (hI i (by omega) b).2
      have hNb := mNv_b hR.2.1 hCb
      have hBb := bestF_b hNb
      have cl : ∀ (n c : Nat) (u : Int32) (μ2 : kMem) (z6 z7 : Option Value), c + n = 26 → u.toInt = c → (∀ i, j < i → i < mmc μ1 → mC μ2 i = mC μ' i) → mC μ2 j = (bestF (mNv μ1 (mC μ') j) c).1 → mNk μ1 μ2 → J 35 [some (.ref 0), some (.int x), some (.int y), some (.int k), some (.int v), some (.int u), z6, z7] [] μ2 := by
        intro n
        induction n using Nat.strongRecOn with
        | ind n ihc =>
          intro c u μ2 z6 z7 hcn hu hA hB hK2
          refine (r_iload C dX12_nearest_35 rfl (r_bipush C dX12_nearest_37 (by decide +kernel) (r_icmp_ge C (tgt := 113) dX12_nearest_39 rfl (fun c39 => (r_iinc C dX12_nearest_113 rfl (by decide) (r_goto C (tgt := 19) dX12_nearest_116 rfl ?_))) (fun c39 => (r_iconst C dX12_nearest_42 (r_istore C dX12_nearest_43 (by decide) ?_))))))
          · rw [m26] at c39
            have ec : c = 26 := by omega
            subst ec
            refine ih j (by omega) _ μ2 _ _ _ (by omega) (by simp (disch := (first | omega | (simp (disch := omega) only [ti_ofInt, ti_addc, ti_subc, ti_mulc, ti_cmul, ti_divc, ti_remc, ti_zero, ti_add, ti_sub, ti_neg, if_lt_ti, if_gt_ti, bP_e0, Classical.not_not, tl_i2l]; omega))) only [ti_ofInt, ti_addc, ti_subc, ti_mulc, ti_cmul, ti_divc, ti_remc, ti_zero, ti_add, ti_sub, ti_neg, if_lt_ti, if_gt_ti, bP_e0, Classical.not_not, tl_i2l]; omega) ?_ hK2
            intro i a b
            have e : (bestF (mNv μ1 (mC μ2) i) 26).1 = (bestF (mNv μ1 (mC μ') i) 26).1 := by rw [bestF_congr 26 (fun l _ => pNv_congr (fun q a2 b2 => hA q (by omega) b2) l)]
            rw [e]
            by_cases e2 : i = j
            · subst e2
              have := hBb 26
              rw [hB]
              exact ⟨rfl, by omega, by omega⟩
            · rw [hA i (by omega) b]
              exact hI i (by omega) b
          · rw [m26] at c39
            have hc26 : c < 26 := by omega
            have hcomb := pWv_comb (mrs_b hR.2.1) (mc := mmc μ1) (n := msz μ1 c) (kd := mkd μ1 c) (C := mC μ') (j := j) (fun i a b => (hCb i a b).1)
            have hw3 := pWv_b (mrs_b hR.2.1) (n := msz μ1 c) (kd := mkd μ1 c) hCb 3
            have hw4 := pWv_b (mrs_b hR.2.1) (n := msz μ1 c) (kd := mkd μ1 c) hCb 4
            have hupd := updB_2 (hBb c).1 ⟨hw3.1, hw4.1⟩ hcomb.1 (fun z => ⟨(hcomb.2 z).1, (hcomb.2 z).2.1, (hcomb.2 z).2.2.1⟩)
            have ekl : (bestF (mNv μ1 (mC μ') j) (c + 1)).1 = updB (updB (bestF (mNv μ1 (mC μ') j) c).1 (pWv (mrs μ1) (mmc μ1) (msz μ1 c) (mkd μ1 c) (mC μ') j 3)) (pWv (mrs μ1) (mmc μ1) (msz μ1 c) (mkd μ1 c) (mC μ') j 4) := by
              rw [hupd, bestF_s]
              rfl
            obtain ⟨Bq, b0, b1, b2⟩ : ∃ Bq : Nat → Int, Bq 0 = (bestF (mNv μ1 (mC μ') j) c).1 ∧ (∀ q, q < 2 → Bq (q + 1) = updB (Bq q) (pWv (mrs μ1) (mmc μ1) (msz μ1 c) (mkd μ1 c) (mC μ') j (3 + (q : Int)))) ∧ Bq 2 = (bestF (mNv μ1 (mC μ') j) (c + 1)).1 := by
              refine ⟨fun q => if q = 0 then (bestF (mNv μ1 (mC μ') j) c).1 else if q = 1 then updB (bestF (mNv μ1 (mC μ') j) c).1 (pWv (mrs μ1) (mmc μ1) (msz μ1 c) (mkd μ1 c) (mC μ') j 3) else (bestF (mNv μ1 (mC μ') j) (c + 1)).1, rfl, fun q hq => ?_, rfl⟩
              rcases (show q = 0 ∨ q = 1 by omega) with rfl | rfl
              · rfl
              · exact ekl
            have kl : ∀ (d q : Nat) (w : Int32) (μ3 : kMem) (z7 : Option Value), q + d = 2 → w.toInt = 3 + (q : Int) → (∀ i, j < i → i < mmc μ1 → mC μ3 i = mC μ' i) → mC μ3 j = Bq q → mNk μ1 μ3 → J 45 [some (.ref 0), some (.int x), some (.int y), some (.int k), some (.int v), some (.int u), some (.int w), z7] [] μ3 := by
              intro d
              induction d with
              | zero =>
                intro q w μ3 z7 hq hw hA3 hB3 hK3
                have q2 : q = 2 := by omega
                subst q2
                rw [b2] at hB3
                refine (r_iload C dX12_nearest_45 rfl (r_iconst C dX12_nearest_47 (r_icmp_gt C (tgt := 107) dX12_nearest_48 rfl (fun c48 => (r_iinc C dX12_nearest_107 rfl (by decide) (r_goto C (tgt := 35) dX12_nearest_110 rfl ?_))) (fun c48 => (r_aload_n C dX12_nearest_51 rfl rfl (r_iload C dX12_nearest_52 rfl (r_iload C dX12_nearest_54 rfl (r_iload C dX12_nearest_56 rfl (r_v3P C yv_X12_whole lk_X12_307 dX12_nearest_58 rfl nM_0 sM_0 rfl (Nat.le_of_ble_eq_true rfl) (ok_X12_whole ?_) (r_istore C dX12_nearest_61 (by decide) (r_iload C dX12_nearest_63 rfl (r_iconst C dX12_nearest_65 (r_icmp_eq C (tgt := 101) dX12_nearest_66 rfl (fun c66 => (r_iinc C dX12_nearest_101 rfl (by decide) (r_goto C (tgt := 45) dX12_nearest_104 rfl ?_))) (fun c66 => (r_aload_n C dX12_nearest_69 rfl rfl (r_getR C dX12_nearest_70 fd_X12_69 nM_0 sM_0 rfl (r_iload C dX12_nearest_73 rfl (r_iald C dX12_nearest_75 nM_22 sM_22 ?_ (r_iconst C dX12_nearest_76 (r_icmp_eq C (tgt := 92) dX12_nearest_77 rfl (fun c77 => (r_aload_n C dX12_nearest_92 rfl rfl (r_getR C dX12_nearest_93 fd_X12_69 nM_0 sM_0 rfl (r_iload C dX12_nearest_96 rfl (r_iload C dX12_nearest_98 rfl (r_iast C dX12_nearest_100 nM_22 sM_22 ?_ (r_iinc C dX12_nearest_101 rfl (by decide) (r_goto C (tgt := 45) dX12_nearest_104 rfl ?_)))))))) (fun c77 => (r_iload C dX12_nearest_80 rfl (r_aload_n C dX12_nearest_82 rfl rfl (r_getR C dX12_nearest_83 fd_X12_69 nM_0 sM_0 rfl (r_iload C dX12_nearest_86 rfl (r_iald C dX12_nearest_88 nM_22 sM_22 ?_ (r_icmp_ge C (tgt := 101) dX12_nearest_89 rfl (fun c89 => (r_iinc C dX12_nearest_101 rfl (by decide) (r_goto C (tgt := 45) dX12_nearest_104 rfl ?_))) (fun c89 => (r_aload_n C dX12_nearest_92 rfl rfl (r_getR C dX12_nearest_93 fd_X12_69 nM_0 sM_0 rfl (r_iload C dX12_nearest_96 rfl (r_iload C dX12_nearest_98 rfl (r_iast C dX12_nearest_100 nM_22 sM_22 ?_ (r_iinc C dX12_nearest_101 rfl (by decide) (r_goto C (tgt := 45) dX12_nearest_104 rfl ?_)))))))))))))))))))))))))))))))))))
                · exact ihc (n - 1) (by omega) (c + 1) _ μ3 _ _ (by omega) (by simp (disch := (first | omega | (simp (disch := omega) only [ti_ofInt, ti_addc, ti_subc, ti_mulc, ti_cmul, ti_divc, ti_remc, ti_zero, ti_add, ti_sub, ti_neg, if_lt_ti, if_gt_ti, bP_e0, Classical.not_not, tl_i2l]; omega))) only [ti_ofInt, ti_addc, ti_subc, ti_mulc, ti_cmul, ti_divc, ti_remc, ti_zero, ti_add, ti_sub, ti_neg, if_lt_ti, if_gt_ti, bP_e0, Classical.not_not, tl_i2l]; omega) hA3 hB3 hK3
                all_goals (exfalso; rw [m4] at c48; omega)
              | succ d ihd =>
                intro q w μ3 z7 hq hw hA3 hB3 hK3
                obtain ⟨s1, s2, s3, s4, s5, s6, s7⟩ := mNk_rs hK3
                have hq2 : q < 2 := by omega
                have hb1 := b1 q hq2
                have hwb := pWv_b (mrs_b hR.2.1) (n := msz μ1 c) (kd := mkd μ1 c) hCb (3 + (q : Int))
                have ej2 : v.toInt.toNat / 2 = j := by omega
                obtain ⟨wv, hwv⟩ : ∃ wv, wv = pWv (mrs μ1) (mmc μ1) (msz μ1 c) (mkd μ1 c) (mC μ') j (3 + (q : Int)) := ⟨_, rfl⟩
                rw [← hwv] at hwb hb1
                have emw : mwv μ3 (v.toInt.toNat / 2) u.toInt w.toInt = wv := by
                  unfold mwv
                  rw [s1, s2, s3, s4, ej2, hu, hw, hwv]
                  exact pWv_congr hA3 _
                have iw := ti_ofInt (n := wv) (by omega)
                have e22 : (μ3.1 22 v.toInt.toNat).toInt = Bq q := by rw [evj, ← hB3]; rfl
                have eWj : ∀ t : Int32, mC (up μ3 22 v.toInt.toNat t) j = t.toInt := fun t => by
                  unfold mC
                  rw [evj, up_same]
                have keep : Bq (q + 1) = Bq q → ∀ z7, J 45 [some (.ref 0), some (.int x), some (.int y), some (.int k), some (.int v), some (.int u), some (.int (w + Int32.ofInt 1)), z7] [] μ3 := fun e z7 => ihd (q + 1) _ μ3 z7 (by omega) (by simp (disch := (first | omega | (simp (disch := omega) only [ti_ofInt, ti_addc, ti_subc, ti_mulc, ti_cmul, ti_divc, ti_remc, ti_zero, ti_add, ti_sub, ti_neg, if_lt_ti, if_gt_ti, bP_e0, Classical.not_not, tl_i2l]; omega))) only [ti_ofInt, ti_addc, ti_subc, ti_mulc, ti_cmul, ti_divc, ti_remc, ti_zero, ti_add, ti_sub, ti_neg, if_lt_ti, if_gt_ti, bP_e0, Classical.not_not, tl_i2l]; omega) hA3 (by rw [e]; exact hB3) hK3
                have store : Bq (q + 1) = wv → ∀ z7, J 45 [some (.ref 0), some (.int x), some (.int y), some (.int k), some (.int v), some (.int u), some (.int (w + Int32.ofInt 1)), z7] [] (up μ3 22 v.toInt.toNat (Int32.ofInt (mwv μ3 (v.toInt.toNat / 2) u.toInt w.toInt))) := fun e z7 => by
                  refine ihd (q + 1) _ _ z7 (by omega) (by simp (disch := (first | omega | (simp (disch := omega) only [ti_ofInt, ti_addc, ti_subc, ti_mulc, ti_cmul, ti_divc, ti_remc, ti_zero, ti_add, ti_sub, ti_neg, if_lt_ti, if_gt_ti, bP_e0, Classical.not_not, tl_i2l]; omega))) only [ti_ofInt, ti_addc, ti_subc, ti_mulc, ti_cmul, ti_divc, ti_remc, ti_zero, ti_add, ti_sub, ti_neg, if_lt_ti, if_gt_ti, bP_e0, Classical.not_not, tl_i2l]; omega) ?_ ?_ ?_
                  · intro i a b
                    have : ∀ t : Int32, mC (up μ3 22 v.toInt.toNat t) i = mC μ3 i := fun t => by
                      unfold mC
                      rw [up_nek _ _ (by omega)]
                    rw [this]
                    exact hA3 i a b
                  · rw [eWj, emw, iw, e]
                  · intro a b n1 n2
                    rw [up_neo _ _ n1]
                    exact hK3 a b n1 n2
                refine (r_iload C dX12_nearest_45 rfl (r_iconst C dX12_nearest_47 (r_icmp_gt C (tgt := 107) dX12_nearest_48 rfl (fun c48 => (r_iinc C dX12_nearest_107 rfl (by decide) (r_goto C (tgt := 35) dX12_nearest_110 rfl ?_))) (fun c48 => (r_aload_n C dX12_nearest_51 rfl rfl (r_iload C dX12_nearest_52 rfl (r_iload C dX12_nearest_54 rfl (r_iload C dX12_nearest_56 rfl (r_v3P C yv_X12_whole lk_X12_307 dX12_nearest_58 rfl nM_0 sM_0 rfl (Nat.le_of_ble_eq_true rfl) (ok_X12_whole ?_) (r_istore C dX12_nearest_61 (by decide) (r_iload C dX12_nearest_63 rfl (r_iconst C dX12_nearest_65 (r_icmp_eq C (tgt := 101) dX12_nearest_66 rfl (fun c66 => (r_iinc C dX12_nearest_101 rfl (by decide) (r_goto C (tgt := 45) dX12_nearest_104 rfl ?_))) (fun c66 => (r_aload_n C dX12_nearest_69 rfl rfl (r_getR C dX12_nearest_70 fd_X12_69 nM_0 sM_0 rfl (r_iload C dX12_nearest_73 rfl (r_iald C dX12_nearest_75 nM_22 sM_22 ?_ (r_iconst C dX12_nearest_76 (r_icmp_eq C (tgt := 92) dX12_nearest_77 rfl (fun c77 => (r_aload_n C dX12_nearest_92 rfl rfl (r_getR C dX12_nearest_93 fd_X12_69 nM_0 sM_0 rfl (r_iload C dX12_nearest_96 rfl (r_iload C dX12_nearest_98 rfl (r_iast C dX12_nearest_100 nM_22 sM_22 ?_ (r_iinc C dX12_nearest_101 rfl (by decide) (r_goto C (tgt := 45) dX12_nearest_104 rfl ?_)))))))) (fun c77 => (r_iload C dX12_nearest_80 rfl (r_aload_n C dX12_nearest_82 rfl rfl (r_getR C dX12_nearest_83 fd_X12_69 nM_0 sM_0 rfl (r_iload C dX12_nearest_86 rfl (r_iald C dX12_nearest_88 nM_22 sM_22 ?_ (r_icmp_ge C (tgt := 101) dX12_nearest_89 rfl (fun c89 => (r_iinc C dX12_nearest_101 rfl (by decide) (r_goto C (tgt := 45) dX12_nearest_104 rfl ?_))) (fun c89 => (r_aload_n C dX12_nearest_92 rfl rfl (r_getR C dX12_nearest_93 fd_X12_69 nM_0 sM_0 rfl (r_iload C dX12_nearest_96 rfl (r_iload C dX12_nearest_98 rfl (r_iast C dX12_nearest_100 nM_22 sM_22 ?_ (r_iinc C dX12_nearest_101 rfl (by decide) (r_goto C (tgt := 45) dX12_nearest_104 rfl ?_)))))))))))))))))))))))))))))))))))
                · rw [m4] at c48; omega
                · rw [hK3 0 21 (by decide) (by decide), ej2, s2]
                  exact ⟨s5 hR, ⟨by omega, by omega, by omega⟩, ⟨by omega, by omega⟩, ⟨by omega, by omega⟩, fun i a b => by rw [hA3 i a b]; exact hCb i a b⟩
                · rw [emw, iw, mm] at c66
                  refine keep ?_ _
                  rw [hb1]
                  unfold updB
                  rw [if_neg (fun z => z.1 c66)]
                · omega
                · omega
                · rw [emw, iw, mm] at c66
                  rw [e22, mm] at c77
                  refine store ?_ _
                  rw [hb1]
                  unfold updB
                  rw [if_pos ⟨c66, Or.inl c77⟩]
                · omega
                · rw [emw, iw, mm] at c66
                  rw [e22, mm] at c77
                  rw [emw, iw, e22] at c89
                  refine keep ?_ _
                  rw [hb1]
                  unfold updB
                  rw [if_neg (fun z => z.2.elim c77 (by omega))]
                · omega
                · rw [emw, iw, mm] at c66
                  rw [e22, mm] at c77
                  rw [emw, iw, e22] at c89
                  refine store ?_ _
                  rw [hb1]
                  unfold updB
                  rw [if_pos ⟨c66, Or.inr c89⟩]
            exact kl 2 0 _ μ2 _ rfl (by simp (disch := (first | omega | (simp (disch := omega) only [ti_ofInt, ti_addc, ti_subc, ti_mulc, ti_cmul, ti_divc, ti_remc, ti_zero, ti_add, ti_sub, ti_neg, if_lt_ti, if_gt_ti, bP_e0, Classical.not_not, tl_i2l]; omega))) only [ti_ofInt, ti_addc, ti_subc, ti_mulc, ti_cmul, ti_divc, ti_remc, ti_zero, ti_add, ti_sub, ti_neg, if_lt_ti, if_gt_ti, bP_e0, Classical.not_not, tl_i2l]; rfl) hA (by rw [b0]; exact hB) hK2
      refine (r_iload C dX12_nearest_19 rfl (r_if_lt C (tgt := 119) dX12_nearest_21 rfl (fun c21 => (r_aload_n C dX12_nearest_119 rfl rfl (r_getR C dX12_nearest_120 fd_X12_69 nM_0 sM_0 rfl (r_iconst C dX12_nearest_123 (r_iald C dX12_nearest_124 nM_22 sM_22 (by decide) (r_iconst C dX12_nearest_125 (r_icmp_ne C (tgt := 131) dX12_nearest_126 rfl (fun c126 => (r_iload_n C dX12_nearest_131 rfl rfl (r_bipush C dX12_nearest_132 (by decide +kernel) (r_icmp_ne C (tgt := 144) dX12_nearest_134 rfl (fun c134 => (r_iconst C dX12_nearest_144 (r_istore C dX12_nearest_145 (by decide) (r_iconst C dX12_nearest_147 (r_istore C dX12_nearest_148 (by decide) ?_))))) (fun c134 => (r_aload_n C dX12_nearest_137 rfl rfl (r_getR C dX12_nearest_138 fd_X12_69 nM_0 sM_0 rfl (r_iconst C dX12_nearest_141 (r_iald C dX12_nearest_142 nM_22 sM_22 (by decide) (r_iret C dX12_nearest_143 ?_)))))))))) (fun c126 => (r_iconst C dX12_nearest_129 (r_iret C dX12_nearest_130 ?_)))))))))) (fun c21 => (r_aload_n C dX12_nearest_24 rfl rfl (r_getR C dX12_nearest_25 fd_X12_69 nM_0 sM_0 rfl (r_iload C dX12_nearest_28 rfl (r_iconst C dX12_nearest_30 (r_iast C dX12_nearest_31 nM_22 sM_22 ?_ (r_iconst C dX12_nearest_32 (r_istore C dX12_nearest_33 (by decide) ?_))))))))))
      · omega
      · omega
      · omega
      · omega
      · refine cl 26 0 _ _ _ _ rfl (by simp (disch := (first | omega | (simp (disch := omega) only [ti_ofInt, ti_addc, ti_subc, ti_mulc, ti_cmul, ti_divc, ti_remc, ti_zero, ti_add, ti_sub, ti_neg, if_lt_ti, if_gt_ti, bP_e0, Classical.not_not, tl_i2l]; omega))) only [ti_ofInt, ti_addc, ti_subc, ti_mulc, ti_cmul, ti_divc, ti_remc, ti_zero, ti_add, ti_sub, ti_neg, if_lt_ti, if_gt_ti, bP_e0, Classical.not_not, tl_i2l]; rfl) ?_ ?_ ?_
        · intro i a b
          unfold mC
          rw [up_nek _ _ (by omega)]
        · unfold mC
          rw [evj, up_same, mm]
          rfl
        · intro a b n1 n2
          rw [up_neo _ _ n1]
          exact hK a b n1 n2
  refine (r_aload_n C dX12_nearest_0 rfl rfl (r_iload_n C dX12_nearest_1 rfl rfl (r_iload_n C dX12_nearest_2 rfl rfl (r_v2I C yv_X12_takes lk_X12_294 dX12_nearest_3 rfl nM_0 sM_0 rfl (Nat.le_of_ble_eq_true rfl) (ok_X12_takes ?_) (fun r3 μ3 h3 => (r_if_ne C (tgt := 11) dX12_nearest_6 rfl (fun c6 => (r_aload_n C dX12_nearest_11 rfl rfl (r_getI C dX12_nearest_12 fd_X12_260 nM_0 sM_0 rfl (r_iconst C dX12_nearest_15 (r_isub C dX12_nearest_16 (r_istore C dX12_nearest_17 (by decide) ?_)))))) (fun c6 => (r_iconst C dX12_nearest_9 (r_iret C dX12_nearest_10 ?_)))))))))
  · exact h
  · rcases h3 with ⟨-, q, -⟩ | ⟨hc, -, e⟩
    · rw [q, z0] at c6
      exact absurd rfl c6
    · obtain ⟨t1, t2, t3, t4, t5, t6, t7⟩ := mTk_all h hc e
      have hn := mRd_n t1
      refine main μ3 t1 ?_ (mmc μ3) _ μ3 _ _ _ (Nat.le_refl _) (by rw [ti_subc (by omega)]; omega) (fun i a b => by omega) (fun _ _ _ _ => rfl)
      intro r μ' w1 w2
      refine Or.inr ⟨hc, fun a b q => by rw [w1 a b (by unfold relM at q; omega) (by unfold relM at q; omega)]; exact t6 a b q, ?_⟩
      rw [← t2, ← t3, ← t4, ← t5]
      exact w2
  · rcases h3 with ⟨q1, -, q3⟩ | ⟨-, q, -⟩
    · exact Or.inl ⟨q1, rfl, q3⟩
    · rw [q] at c6
      exact absurd c6 (by decide)

