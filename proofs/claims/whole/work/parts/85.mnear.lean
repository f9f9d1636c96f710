/-! ===== the model: the nearest ===== -/
def mNv (μ : kMem) (C : Nat → Int) (j : Nat) : Nat → Int := pNv (mrs μ) (mmc μ) (msz μ) (mkd μ) C j
theorem mNv_b {μ : kMem} (h : mHdOk μ) {C : Nat → Int} {j : Nat} (hC : ∀ i, j < i → i < mmc μ → -1 ≤ C i ∧ C i ≤ 510 * ((mmc μ : Int) - i)) (l : Nat) : -1 ≤ mNv μ C j l ∧ (mNv μ C j l = -1 ∨ mNv μ C j l ≤ 510 * ((mmc μ : Int) - j)) := by
  have h1 := pWv_comb (mrs_b h) (n := msz μ l) (kd := mkd μ l) (fun i a b => (hC i a b).1)
  have h2 := pWv_b (mrs_b h) (n := msz μ l) (kd := mkd μ l) hC 3
  have h3 := pWv_b (mrs_b h) (n := msz μ l) (kd := mkd μ l) hC 4
  have e : mNv μ C j l = cfr (mrs μ) (mmc μ) (msz μ l) (mkd μ l) C j := rfl
  rw [e]
  by_cases q : cfr (mrs μ) (mmc μ) (msz μ l) (mkd μ l) C j = -1
  · omega
  · have := h1.2 q
    omega
theorem pWv_congr {cs : Nat → Int → Int} {mc n : Nat} {kd : Nat → Int} {C D : Nat → Int} {j : Nat} (e : ∀ i, j < i → i < mc → C i = D i) (k : Int) : pWv cs mc n kd C j k = pWv cs mc n kd D j k := by
  unfold pWv
  by_cases q : lcst cs mc n kd j = -1
  · rw [if_pos q, if_pos q]
  · have := lcst_n q
    rw [if_neg q, if_neg q]
    by_cases q2 : j + n = mc
    · rw [if_pos q2, if_pos q2]
    · rw [if_neg q2, if_neg q2, e (j + n) (by omega) (by omega)]
theorem bestF_b {v : Nat → Int} {M : Int} (h : ∀ l, -1 ≤ v l ∧ (v l = -1 ∨ v l ≤ M)) : ∀ l, -1 ≤ (bestF v l).1 ∧ ((bestF v l).1 = -1 ∨ (bestF v l).1 ≤ M) := by
  intro l
  induction l with
  | zero => exact ⟨Int.le_refl _, Or.inl rfl⟩
  | succ l ih =>
    unfold bestF
    split
    · exact h l
    · exact ih
theorem bestF_s {v : Nat → Int} (l : Nat) : (bestF v (l + 1)).1 = if ¬ v l = -1 ∧ ((bestF v l).1 = -1 ∨ v l < (bestF v l).1) then v l else (bestF v l).1 := by
  have e : bestF v (l + 1) = if ¬ v l = -1 ∧ ((bestF v l).1 = -1 ∨ v l < (bestF v l).1) then (v l, (l : Int)) else bestF v l := rfl
  rw [e]
  split <;> rfl
/-- the costs from a mark on are those of the nearest -/
def mNr (μ1 μ : kMem) (jj : Nat) : Prop := ∀ i, jj ≤ i → i < mmc μ1 → mC μ i = (bestF (mNv μ1 (mC μ) i) 26).1 ∧ -1 ≤ mC μ i ∧ mC μ i ≤ 510 * ((mmc μ1 : Int) - i)
noncomputable def mF (μ1 : kMem) (C : Nat → Int) : Nat → Int := fun i => (bestF (mNv μ1 C i) 26).2
/-- how the search goes: from the last mark on -/
def mNk (μ1 μ : kMem) : Prop := ∀ a b : Nat, a ≠ 22 → a ≠ 23 → μ.1 a b = μ1.1 a b
theorem mNk_rs {μ1 μ : kMem} (h : mNk μ1 μ) : mrs μ = mrs μ1 ∧ mmc μ = mmc μ1 ∧ msz μ = msz μ1 ∧ mkd μ = mkd μ1 ∧ (mRd μ1 → mRd μ) ∧ mlc μ = mlc μ1 ∧ mmk μ = mmk μ1 := mRS_all (fun a b q => h a b (by omega) (by omega))
def mRow (L : List Int) (μ : kMem) : Prop := ∀ j (hj : j < L.length), (μ.1 23 j).toInt = L[j]
theorem mRow_add {L : List Int} {μ : kMem} (h : mRow L μ) {x : Int32} {y : Int} (hx : x.toInt = y) : mRow (L ++ [y]) (up μ 23 L.length x) := by
  intro j hj
  by_cases e : j = L.length
  · subst e
    rw [up_same]
    simp [hx]
  · have hj2 : j < L.length := by simp at hj; omega
    rw [up_nek _ _ e, h j hj2, List.getElem_append_left hj2]
theorem mRow_up {L : List Int} {μ : kMem} (h : mRow L μ) {a b : Nat} {x : Int32} (n : a ≠ 23) : mRow L (up μ a b x) := fun j hj => by rw [up_neo _ _ (Ne.symm n)]; exact h j hj
set_option maxHeartbeats 8000000 in
/-- the way of the nearest is written -/
theorem near_walk {Ψ : Int32 → kMem → Prop} {J : kJ} {x y k : Int32} {μ1 : kMem} (C : kR cX12_nearest RX12 8 rmX12_nearest shM 48 (some .int) (kI Ψ) J) (hR : mRd μ1) (fin : ∀ (r : Int32) (μ' : kMem), mNk μ1 μ' → nrA (mrs μ1) (mmc μ1) (msz μ1) (mkd μ1) k.toInt r.toInt → Ψ r μ') (Cc : Nat → Int) (hN : pNr (mrs μ1) (mmc μ1) (msz μ1) (mkd μ1) Cc (mF μ1 Cc)) (hCb : ∀ i, i < mmc μ1 → -1 ≤ Cc i ∧ Cc i ≤ 510 * ((mmc μ1 : Int) - i)) (hno : ¬ (Cc 0 = -1 ∨ k.toInt = -2)) : ∀ (f m : Nat) (L : List Int) (n p : Int32) (μ' : kMem) (z6 z7 : Option Value), f ≤ 60 → n.toInt = L.length → p.toInt = 2 * (m : Int) → mRow L μ' → L.length + 2 * (mmc μ1 - m) ≤ 120 → m ≤ mmc μ1 → mmc μ1 - m ≤ f → (m < mmc μ1 → ¬ Cc m = -1) → (∀ i, i < mmc μ1 → mC μ' i = Cc i) → L ++ wrF (mF μ1 Cc) (msz μ1) (pBl (mrs μ1)) (mmc μ1) f m = wrF (mF μ1 Cc) (msz μ1) (pBl (mrs μ1)) (mmc μ1) 60 0 → mNk μ1 μ' → J 150 [some (.ref 0), some (.int x), some (.int y), some (.int k), some (.int n), some (.int p), z6, z7] [] μ' := by
  have m3 : (Int32.ofInt 3).toInt = 3 := by decide
  have m4 : (Int32.ofInt 4).toInt = 4 := by decide
  have mm : (Int32.ofInt (-1)).toInt = -1 := by decide
  have m97 : (Int32.ofInt 97).toInt = 97 := by decide
  have m32 : (Int32.ofInt 32).toInt = 32 := by decide
  have hn := mRd_n hR
  intro f
  induction f using Nat.strongRecOn with
  | ind f ih =>
    intro m L n p μ' z6 z7 hf hnL hp hRow hL hm hmf hCm hCC hW hK
    obtain ⟨r1, r2, r3, r4, r5, r6, r7⟩ := mNk_rs hK
    have e21 : μ'.1 0 21 = μ1.1 0 21 := hK 0 21 (by decide) (by decide)
    have epm : p.toInt.toNat = 2 * m := by omega
    by_cases hmm : mmc μ1 ≤ m
    · rw [wrF_stop f hmm, List.append_nil] at hW
      have hans : ∀ r : Int32, r.toInt = rowA L k.toInt → Ψ r μ' := fun r q => fin r μ' hK ⟨Cc, mF μ1 Cc, hN, by rw [if_neg hno, q, ← hW]⟩
      have en1 : (n - Int32.ofInt 1).toInt = (L.length : Int) - 1 := by rw [ti_subc (by omega), hnL]
      refine (r_iload C dX12_nearest_150 rfl (r_aload_n C dX12_nearest_152 rfl rfl (r_getI C dX12_nearest_153 fd_X12_260 nM_0 sM_0 rfl (r_icmp_ge C (tgt := 274) dX12_nearest_156 rfl (fun c156 => (r_iload_n C dX12_nearest_274 rfl rfl (r_iconst C dX12_nearest_275 (r_icmp_ne C (tgt := 284) dX12_nearest_276 rfl (fun c276 => (r_iload_n C dX12_nearest_284 rfl rfl (r_i2l C dX12_nearest_285 (r_lconst C dX12_nearest_286 rfl (r_iload C dX12_nearest_287 rfl (r_iconst C dX12_nearest_289 (r_isub C dX12_nearest_290 (r_i2l C dX12_nearest_291 (r_s3P C ys_X12_in lk_X12_155 dX12_nearest_292 rfl (Nat.le_of_ble_eq_true rfl) ok_X12_in (r_if_eq C (tgt := 307) dX12_nearest_295 rfl (fun c295 => (r_iconst C dX12_nearest_307 (r_iret C dX12_nearest_308 ?_))) (fun c295 => (r_aload_n C dX12_nearest_298 rfl rfl (r_getR C dX12_nearest_299 fd_X12_72 nM_0 sM_0 rfl (r_iload_n C dX12_nearest_302 rfl rfl (r_bald C dX12_nearest_303 nM_23 sM_23 ?_ (r_goto C (tgt := 308) dX12_nearest_304 rfl (r_iret C dX12_nearest_308 ?_))))))))))))))))) (fun c276 => (r_iload C dX12_nearest_279 rfl (r_goto C (tgt := 308) dX12_nearest_281 rfl (r_iret C dX12_nearest_308 ?_)))))))) (fun c156 => (r_iconst C dX12_nearest_159 (r_istore C dX12_nearest_160 (by decide) (r_iconst C dX12_nearest_162 (r_istore C dX12_nearest_163 (by decide) ?_)))))))))
      · have c := bP_e0.mp c295
        simp only [tl_i2l, ll_c0, ll_c1, ll_m1, ll_32, ll_97, ll_25, ll_255255, ll_5, ll_99, ll_20, ll_9, ll_999, ll_1000000, ll_17575, ll_3, ll_200, ll_60, ll_2, ll_5000, ll_m60, ll_m99] at c
        rw [en1] at c
        rw [mm] at c276
        refine hans _ ?_
        unfold rowA
        rw [if_neg c276, dif_neg (by omega), mm]
      · have c := bP_ne c295
        simp only [tl_i2l, ll_c0, ll_c1, ll_m1, ll_32, ll_97, ll_25, ll_255255, ll_5, ll_99, ll_20, ll_9, ll_999, ll_1000000, ll_17575, ll_3, ll_200, ll_60, ll_2, ll_5000, ll_m60, ll_m99] at c
        rw [en1] at c
        omega
      · have c := bP_ne c295
        simp only [tl_i2l, ll_c0, ll_c1, ll_m1, ll_32, ll_97, ll_25, ll_255255, ll_5, ll_99, ll_20, ll_9, ll_999, ll_1000000, ll_17575, ll_3, ll_200, ll_60, ll_2, ll_5000, ll_m60, ll_m99] at c
        rw [en1] at c
        rw [mm] at c276
        refine hans _ ?_
        unfold rowA
        rw [if_neg c276, dif_pos ⟨c.1, by omega⟩]
        exact hRow k.toInt.toNat (by omega)
      · rw [mm] at c276
        refine hans _ ?_
        unfold rowA
        rw [if_pos c276, hnL]
      · rw [e21] at c156
        omega
    · have hlt : m < mmc μ1 := by omega
      obtain ⟨ff, f1, f2, f3, f4, f5, f6, f7⟩ := pNr_step (mrs_b hR.2.1) hN hCb hlt (hCm hlt)
      have hCm' := hCm hlt
      have hw := fun c : Nat => pWv_comb (mrs_b hR.2.1) (mc := mmc μ1) (n := msz μ1 c) (kd := mkd μ1 c) (C := Cc) (j := m) (fun i a b => (hCb i b).1)
      have hf : ¬ cfr (mrs μ1) (mmc μ1) (msz μ1 ff) (mkd μ1 ff) Cc m = -1 := by rw [show cfr (mrs μ1) (mmc μ1) (msz μ1 ff) (mkd μ1 ff) Cc m = Cc m from f6.symm]; exact hCm'
      have hcf := (hw ff).2 hf
      rw [show cfr (mrs μ1) (mmc μ1) (msz μ1 ff) (mkd μ1 ff) Cc m = Cc m from f6.symm] at hcf
      obtain ⟨tp, htp⟩ : ∃ tp : Nat, tp = 2 * ff + (if pWv (mrs μ1) (mmc μ1) (msz μ1 ff) (mkd μ1 ff) Cc m 3 = Cc m then 0 else 1) := ⟨_, rfl⟩
      have htp1 : tp ≤ 2 * ff + 1 := by rw [htp]; split <;> omega
      have htp0 : 2 * ff ≤ tp := by rw [htp]; split <;> omega
      have hE : ∀ c q : Nat, 2 * c + q ≤ tp → q ≤ 1 → (pWv (mrs μ1) (mmc μ1) (msz μ1 c) (mkd μ1 c) Cc m (3 + (q : Int)) = Cc m ↔ 2 * c + q = tp) := by
        intro c q h1 h2
        by_cases e : c = ff
        · subst e
          rcases (show q = 0 ∨ q = 1 by omega) with rfl | rfl
          · show pWv (mrs μ1) (mmc μ1) (msz μ1 c) (mkd μ1 c) Cc m 3 = Cc m ↔ _
            split at htp
            · rename_i z
              exact ⟨fun _ => by omega, fun _ => z⟩
            · rename_i z
              exact ⟨fun y => absurd y z, fun y => by omega⟩
          · show pWv (mrs μ1) (mmc μ1) (msz μ1 c) (mkd μ1 c) Cc m 4 = Cc m ↔ _
            split at htp
            · omega
            · rename_i z
              exact ⟨fun _ => by omega, fun _ => (hcf.2.2.1.resolve_left (fun y => z y.symm)).symm⟩
        · have hlt2 : c < ff := by omega
          have h3 := f7 c hlt2
          have h4 := hw c
          have e5 : pNv (mrs μ1) (mmc μ1) (msz μ1) (mkd μ1) Cc m c = cfr (mrs μ1) (mmc μ1) (msz μ1 c) (mkd μ1 c) Cc m := rfl
          rw [e5] at h3
          refine ⟨fun y => ?_, fun y => by omega⟩
          exfalso
          rcases (show q = 0 ∨ q = 1 by omega) with rfl | rfl
          · have y : pWv (mrs μ1) (mmc μ1) (msz μ1 c) (mkd μ1 c) Cc m 3 = Cc m := y
            by_cases z : cfr (mrs μ1) (mmc μ1) (msz μ1 c) (mkd μ1 c) Cc m = -1
            · have := (h4.1.mp z).1; omega
            · have := (h4.2 z).1; omega
          · have y : pWv (mrs μ1) (mmc μ1) (msz μ1 c) (mkd μ1 c) Cc m 4 = Cc m := y
            by_cases z : cfr (mrs μ1) (mmc μ1) (msz μ1 c) (mkd μ1 c) Cc m = -1
            · have := (h4.1.mp z).2; omega
            · have := (h4.2 z).2.1; omega
      have hblank : tp = 2 * ff ↔ ¬ (m + msz μ1 ff < mmc μ1 ∧ pBl (mrs μ1) (m + msz μ1 ff)) := by
        rw [← hcf.2.2.2]
        split at htp
        · rename_i z
          exact ⟨fun _ => z, fun _ => by omega⟩
        · rename_i z
          exact ⟨fun y => by omega, fun y => absurd y z⟩
      clear htp hw hcf f7 hf f6
      replace hblank : Unit → (tp = 2 * ff ↔ ¬ (m + msz μ1 ff < mmc μ1 ∧ pBl (mrs μ1) (m + msz μ1 ff))) := fun _ => hblank
      replace hno : Unit → ¬ (Cc 0 = -1 ∨ k.toInt = -2) := fun _ => hno
      replace hCm : Unit → (m < mmc μ1 → ¬ Cc m = -1) := fun _ => hCm
      obtain ⟨g, hg⟩ : ∃ g, f = g + 1 := ⟨f - 1, by omega⟩
      subst hg
      have eW : wrF (mF μ1 Cc) (msz μ1) (pBl (mrs μ1)) (mmc μ1) (g + 1) m = (97 + mF μ1 Cc m) :: (@ite _ (m + msz μ1 (mF μ1 Cc m) < mmc μ1 ∧ pBl (mrs μ1) (m + msz μ1 (mF μ1 Cc m))) (Classical.propDecidable _) (32 :: wrF (mF μ1 Cc) (msz μ1) (pBl (mrs μ1)) (mmc μ1) g (m + msz μ1 (mF μ1 Cc m))) (wrF (mF μ1 Cc) (msz μ1) (pBl (mrs μ1)) (mmc μ1) g (m + msz μ1 (mF μ1 Cc m)))) := by
        show (if mmc μ1 ≤ m then [] else _) = _
        rw [if_neg hmm]
      rw [eW, f2] at hW
      have hsl : ∀ t : Int32, ∀ μ3 : kMem, (∀ i, mC (up μ3 23 n.toInt.toNat t) i = mC μ3 i) ∧ (mNk μ1 μ3 → mNk μ1 (up μ3 23 n.toInt.toNat t)) := fun t μ3 => ⟨fun i => by unfold mC; rw [up_neo _ _ (by decide)], fun q a b n1 n2 => by rw [up_neo _ _ n2]; exact q a b n1 n2⟩
      have enl : n.toInt.toNat = L.length := by omega
      have search : ∀ (d c q : Nat) (u w : Int32), 2 * c + q + d = tp → q ≤ 1 → u.toInt = c → w.toInt = 3 + (q : Int) → J 165 [some (.ref 0), some (.int x), some (.int y), some (.int k), some (.int n), some (.int p), some (.int u), some (.int w)] [] μ' := by
        intro d
        induction d using Nat.strongRecOn with
        | ind d ihd =>
          intro c q u w hd hq hu hw'
          have hcE := hE c q (by omega) hq
          have hwb := pWv_b (mrs_b hR.2.1) (n := msz μ1 c) (kd := mkd μ1 c) (C := Cc) (j := m) (fun i a b => hCb i b) (3 + (q : Int))
          have ej2 : p.toInt.toNat / 2 = m := by omega
          obtain ⟨wv, hwv⟩ : ∃ wv, wv = pWv (mrs μ1) (mmc μ1) (msz μ1 c) (mkd μ1 c) Cc m (3 + (q : Int)) := ⟨_, rfl⟩
          rw [← hwv] at hwb hcE
          replace hcE : Unit → (wv = Cc m ↔ 2 * c + q = tp) := fun _ => hcE
          have emw : mwv μ' (p.toInt.toNat / 2) u.toInt w.toInt = wv := by
            unfold mwv
            rw [r1, r2, r3, r4, ej2, hu, hw', hwv]
            exact pWv_congr (fun i _ b => hCC i b) _
          have iw := ti_ofInt (n := wv) (by omega)
          have e22 : (μ'.1 22 p.toInt.toNat).toInt = Cc m := by rw [epm, ← hCC m hlt]; rfl
          have hc26 : c < 26 := by omega
          have em : (μ'.1 3 u.toInt.toNat).toInt = mmk μ1 (c : Int) := by
            unfold mmk
            rw [if_pos (by omega), show u.toInt.toNat = c by omega, Int.toNat_natCast, hK 3 c (by decide) (by decide)]
          have hmd : mdOk (μ'.1 3 u.toInt.toNat).toInt := by
            rw [em]
            unfold mmk
            rw [if_pos (by omega), Int.toNat_natCast]
            exact hR.2.2.1 c hc26
          have hdl := dnF_le 5 (μ'.1 3 u.toInt.toNat).toInt
          have edn : dnF 5 (μ'.1 3 u.toInt.toNat).toInt = msz μ1 (c : Int) := by rw [em]; rfl
          have ei1 : (Int32.ofInt 2 * Int32.ofInt (dnF 5 (μ'.1 3 u.toInt.toNat).toInt)).toInt = 2 * (msz μ1 (c : Int) : Int) := by rw [ti_cmul (by rw [ti_ofInt (by omega)]; omega), ti_ofInt (by omega), edn]
          have eip : (p + Int32.ofInt 2 * Int32.ofInt (dnF 5 (μ'.1 3 u.toInt.toNat).toInt)).toInt = 2 * ((m + msz μ1 (c : Int) : Nat) : Int) := by rw [ti_add (by omega), ei1]; omega
          have e97 : (Int32.ofInt 97 + u).toInt = 97 + (c : Int) := by rw [ti_add (by omega), m97]; omega
          have eb : (Int32.ofInt 97 + u).toInt8.toInt32.toInt8.toInt32.toInt = 97 + (c : Int) := by
            rw [i8_id (by rw [i8_id (by omega)]; omega), i8_id (by omega)]
            exact e97
          have eb2 : (Int32.ofInt 32).toInt8.toInt32.toInt = 32 := by
            rw [i8_id (by omega)]
            exact m32
          have en1 : (n + Int32.ofInt 1).toInt = (L.length : Int) + 1 := by rw [ti_addc (by omega), hnL]
          refine (r_aload_n C dX12_nearest_165 rfl rfl (r_iload C dX12_nearest_166 rfl (r_iload C dX12_nearest_168 rfl (r_iload C dX12_nearest_170 rfl (r_v3P C yv_X12_whole lk_X12_307 dX12_nearest_172 rfl nM_0 sM_0 rfl (Nat.le_of_ble_eq_true rfl) (ok_X12_whole ?_) (r_aload_n C dX12_nearest_175 rfl rfl (r_getR C dX12_nearest_176 fd_X12_69 nM_0 sM_0 rfl (r_iload C dX12_nearest_179 rfl (r_iald C dX12_nearest_181 nM_22 sM_22 ?_ (r_icmp_eq C (tgt := 218) dX12_nearest_182 rfl (fun c182 => (r_aload_n C dX12_nearest_218 rfl rfl (r_getR C dX12_nearest_219 fd_X12_72 nM_0 sM_0 rfl (r_iload C dX12_nearest_222 rfl (r_bipush C dX12_nearest_224 (by decide +kernel) (r_iload C dX12_nearest_226 rfl (r_iadd C dX12_nearest_228 (r_i2b C dX12_nearest_229 (r_bast C dX12_nearest_230 nM_23 sM_23 ?_ (r_iinc C dX12_nearest_231 rfl (by decide) (r_iload C dX12_nearest_234 rfl (r_iconst C dX12_nearest_236 (r_aload_n C dX12_nearest_237 rfl rfl (r_getR C dX12_nearest_238 fd_X12_15 nM_0 sM_0 rfl (r_iconst C dX12_nearest_241 (r_aald C (r := 3) dX12_nearest_242 nM_2 (by decide) sM_2 (by decide) (by decide) (r_iload C dX12_nearest_243 rfl (r_iald C dX12_nearest_245 nM_3 sM_3 ?_ (r_s1P C ys_X12_marksMany lk_X12_277 dX12_nearest_246 rfl (Nat.le_of_ble_eq_true rfl) (ok_X12_marksMany ?_) (r_imul C dX12_nearest_249 (r_iadd C dX12_nearest_250 (r_istore C dX12_nearest_251 (by decide) (r_iload C dX12_nearest_253 rfl (r_iconst C dX12_nearest_255 (r_icmp_ne C (tgt := 271) dX12_nearest_256 rfl (fun c256 => (r_goto C (tgt := 150) dX12_nearest_271 rfl ?_)) (fun c256 => (r_aload_n C dX12_nearest_259 rfl rfl (r_getR C dX12_nearest_260 fd_X12_72 nM_0 sM_0 rfl (r_iload C dX12_nearest_263 rfl (r_bipush C dX12_nearest_265 (by decide +kernel) (r_bast C dX12_nearest_267 nM_23 sM_23 ?_ (r_iinc C dX12_nearest_268 rfl (by decide) (r_goto C (tgt := 150) dX12_nearest_271 rfl ?_))))))))))))))))))))))))))))))))) (fun c182 => (r_iload C dX12_nearest_185 rfl (r_iconst C dX12_nearest_187 (r_icmp_ne C (tgt := 198) dX12_nearest_188 rfl (fun c188 => (r_iload C dX12_nearest_198 rfl (r_istore C dX12_nearest_200 (by decide) (r_iload C dX12_nearest_202 rfl (r_iconst C dX12_nearest_204 (r_icmp_ne C (tgt := 212) dX12_nearest_205 rfl (fun c205 => (r_iconst C dX12_nearest_212 (r_istore C dX12_nearest_213 (by decide) (r_goto C (tgt := 165) dX12_nearest_215 rfl ?_)))) (fun c205 => (r_iconst C dX12_nearest_208 (r_goto C (tgt := 213) dX12_nearest_209 rfl (r_istore C dX12_nearest_213 (by decide) (r_goto C (tgt := 165) dX12_nearest_215 rfl ?_))))))))))) (fun c188 => (r_iload C dX12_nearest_191 rfl (r_iconst C dX12_nearest_193 (r_iadd C dX12_nearest_194 (r_goto C (tgt := 200) dX12_nearest_195 rfl (r_istore C dX12_nearest_200 (by decide) (r_iload C dX12_nearest_202 rfl (r_iconst C dX12_nearest_204 (r_icmp_ne C (tgt := 212) dX12_nearest_205 rfl (fun c205 => (r_iconst C dX12_nearest_212 (r_istore C dX12_nearest_213 (by decide) (r_goto C (tgt := 165) dX12_nearest_215 rfl ?_)))) (fun c205 => (r_iconst C dX12_nearest_208 (r_goto C (tgt := 213) dX12_nearest_209 rfl (r_istore C dX12_nearest_213 (by decide) (r_goto C (tgt := 165) dX12_nearest_215 rfl ?_))))))))))))))))))))))))))))
          · rw [e21, ej2, r2]
            exact ⟨r5 hR, ⟨by omega, by omega, by omega⟩, ⟨by omega, by omega⟩, ⟨by omega, by omega⟩, fun i a b => by rw [hCC i b]; exact hCb i b⟩
          · omega
          · omega
          · omega
          · simp (disch := decide) only [up_same, up_neo, up_nek, up_2]
            exact ⟨hmd.1, hmd.2.1⟩
          · rw [emw, iw, e22] at c182
            have e := (hcE ()).mp c182
            rw [m4] at c256
            have q0 : q = 0 := by omega
            subst q0
            have ec : c = ff := by omega
            subst ec
            rw [if_neg ((hblank ()).mp (by omega))] at hW
            simp (disch := decide) only [up_same, up_neo, up_nek, up_2]
            rw [enl]
            refine ih g (by omega) (m + msz μ1 (c : Int)) (L ++ [97 + (c : Int)]) _ _ _ _ _ (by omega) ?_ eip (mRow_add hRow eb) ?_ f4 (by omega) f5 ?_ ?_ ?_
            · simp only [List.length_append, List.length_cons, List.length_nil]
              omega
            · simp only [List.length_append, List.length_cons, List.length_nil]
              omega
            · intro i hi
              rw [← enl, (hsl _ μ').1 i]
              exact hCC i hi
            · rw [List.append_assoc]
              exact hW
            · rw [← enl]
              exact (hsl _ μ').2 hK
          · omega
          · rw [emw, iw, e22] at c182
            have e := (hcE ()).mp c182
            rw [m4] at c256
            have q1 : q = 1 := by omega
            subst q1
            have ec : c = ff := by omega
            subst ec
            rw [if_pos (Classical.not_not.mp (fun z => by have := (hblank ()).mpr z; omega))] at hW
            simp (disch := decide) only [up_same, up_neo, up_nek, up_2]
            rw [en1, show ((L.length : Int) + 1).toNat = (L ++ [97 + (c : Int)]).length by simp only [List.length_append, List.length_cons, List.length_nil]; omega, enl]
            refine ih g (by omega) (m + msz μ1 (c : Int)) (L ++ [97 + (c : Int)] ++ [32]) _ _ _ _ _ (by omega) ?_ eip (mRow_add (mRow_add hRow eb) eb2) ?_ f4 (by omega) f5 ?_ ?_ ?_
            · rw [ti_addc (by omega), en1]
              simp only [List.length_append, List.length_cons, List.length_nil]
              omega
            · simp only [List.length_append, List.length_cons, List.length_nil]
              omega
            · intro i hi
              rw [← hCC i hi]
              unfold mC
              rw [up_neo _ _ (by decide), up_neo _ _ (by decide)]
            · rw [List.append_assoc, List.append_assoc]
              exact hW
            · intro a b n1 n2
              rw [up_neo _ _ n2, up_neo _ _ n2]
              exact hK a b n1 n2
          · rw [emw, iw, e22] at c182
            rw [m4] at c188
            have q0 : q = 0 := by omega
            subst q0
            have hne : ¬ 2 * c + 0 = tp := fun z => c182 ((hcE ()).mpr z)
            exact ihd (d - 1) (by omega) c 1 _ _ (by omega) (by omega) hu (by simp (disch := (first | omega | (simp (disch := omega) only [ti_ofInt, ti_addc, ti_subc, ti_mulc, ti_cmul, ti_divc, ti_remc, ti_zero, ti_add, ti_sub, ti_neg, if_lt_ti, if_gt_ti, bP_e0, Classical.not_not, tl_i2l]; omega))) only [ti_ofInt, ti_addc, ti_subc, ti_mulc, ti_cmul, ti_divc, ti_remc, ti_zero, ti_add, ti_sub, ti_neg, if_lt_ti, if_gt_ti, bP_e0, Classical.not_not, tl_i2l]; rfl)
          · rw [m4] at c188 c205; omega
          · rw [m4] at c188 c205; omega
          · rw [emw, iw, e22] at c182
            rw [m4] at c188
            have q1 : q = 1 := by omega
            subst q1
            have hne : ¬ 2 * c + 1 = tp := fun z => c182 ((hcE ()).mpr z)
            exact ihd (d - 1) (by omega) (c + 1) 0 _ _ (by omega) (by omega) (by simp (disch := (first | omega | (simp (disch := omega) only [ti_ofInt, ti_addc, ti_subc, ti_mulc, ti_cmul, ti_divc, ti_remc, ti_zero, ti_add, ti_sub, ti_neg, if_lt_ti, if_gt_ti, bP_e0, Classical.not_not, tl_i2l]; omega))) only [ti_ofInt, ti_addc, ti_subc, ti_mulc, ti_cmul, ti_divc, ti_remc, ti_zero, ti_add, ti_sub, ti_neg, if_lt_ti, if_gt_ti, bP_e0, Classical.not_not, tl_i2l]; omega) (by simp (disch := (first | omega | (simp (disch := omega) only [ti_ofInt, ti_addc, ti_subc, ti_mulc, ti_cmul, ti_divc, ti_remc, ti_zero, ti_add, ti_sub, ti_neg, if_lt_ti, if_gt_ti, bP_e0, Classical.not_not, tl_i2l]; omega))) only [ti_ofInt, ti_addc, ti_subc, ti_mulc, ti_cmul, ti_divc, ti_remc, ti_zero, ti_add, ti_sub, ti_neg, if_lt_ti, if_gt_ti, bP_e0, Classical.not_not, tl_i2l]; rfl)
      refine (r_iload C dX12_nearest_150 rfl (r_aload_n C dX12_nearest_152 rfl rfl (r_getI C dX12_nearest_153 fd_X12_260 nM_0 sM_0 rfl (r_icmp_ge C (tgt := 274) dX12_nearest_156 rfl (fun c156 => (r_iload_n C dX12_nearest_274 rfl rfl (r_iconst C dX12_nearest_275 (r_icmp_ne C (tgt := 284) dX12_nearest_276 rfl (fun c276 => (r_iload_n C dX12_nearest_284 rfl rfl (r_i2l C dX12_nearest_285 (r_lconst C dX12_nearest_286 rfl (r_iload C dX12_nearest_287 rfl (r_iconst C dX12_nearest_289 (r_isub C dX12_nearest_290 (r_i2l C dX12_nearest_291 (r_s3P C ys_X12_in lk_X12_155 dX12_nearest_292 rfl (Nat.le_of_ble_eq_true rfl) ok_X12_in (r_if_eq C (tgt := 307) dX12_nearest_295 rfl (fun c295 => (r_iconst C dX12_nearest_307 (r_iret C dX12_nearest_308 ?_))) (fun c295 => (r_aload_n C dX12_nearest_298 rfl rfl (r_getR C dX12_nearest_299 fd_X12_72 nM_0 sM_0 rfl (r_iload_n C dX12_nearest_302 rfl rfl (r_bald C dX12_nearest_303 nM_23 sM_23 ?_ (r_goto C (tgt := 308) dX12_nearest_304 rfl (r_iret C dX12_nearest_308 ?_))))))))))))))))) (fun c276 => (r_iload C dX12_nearest_279 rfl (r_goto C (tgt := 308) dX12_nearest_281 rfl (r_iret C dX12_nearest_308 ?_)))))))) (fun c156 => (r_iconst C dX12_nearest_159 (r_istore C dX12_nearest_160 (by decide) (r_iconst C dX12_nearest_162 (r_istore C dX12_nearest_163 (by decide) ?_)))))))))
      · rw [e21] at c156; omega
      · rw [e21] at c156; omega
      · rw [e21] at c156; omega
      · rw [e21] at c156; omega
      · exact search tp 0 0 _ _ (by omega) (by omega) (by simp (disch := (first | omega | (simp (disch := omega) only [ti_ofInt, ti_addc, ti_subc, ti_mulc, ti_cmul, ti_divc, ti_remc, ti_zero, ti_add, ti_sub, ti_neg, if_lt_ti, if_gt_ti, bP_e0, Classical.not_not, tl_i2l]; omega))) only [ti_ofInt, ti_addc, ti_subc, ti_mulc, ti_cmul, ti_divc, ti_remc, ti_zero, ti_add, ti_sub, ti_neg, if_lt_ti, if_gt_ti, bP_e0, Classical.not_not, tl_i2l]; rfl) (by simp (disch := (first | omega | (simp (disch := omega) only [ti_ofInt, ti_addc, ti_subc, ti_mulc, ti_cmul, ti_divc, ti_remc, ti_zero, ti_add, ti_sub, ti_neg, if_lt_ti, if_gt_ti, bP_e0, Classical.not_not, tl_i2l]; omega))) only [ti_ofInt, ti_addc, ti_subc, ti_mulc, ti_cmul, ti_divc, ti_remc, ti_zero, ti_add, ti_sub, ti_neg, if_lt_ti, if_gt_ti, bP_e0, Classical.not_not, tl_i2l]; rfl)

