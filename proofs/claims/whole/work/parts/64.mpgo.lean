/-! ===== the model: the run, minute by minute ===== -/
theorem ok_X12_runs {x y : Int32} {μ : kMem} (h : mLnOk μ ∧ mPsOk μ ∧ (0 ≤ x.toInt ∧ x.toInt ≤ 8000) ∧ (y.toInt = -1 ∨ (0 ≤ y.toInt ∧ y.toInt < (μ.1 0 19).toInt))) : kOk yX12_runs cX12_runs 6 (none) rmX12_runs shM 48 [.ref 0, .int x, .int y] μ (kN fun μ' => mPsame μ μ' ∧ mPr (mpd μ) (msnm μ) (fun m => pT (mpd μ) m < x.toInt + 1) (fun m => sS (pRun (mpd μ) (x.toInt.toNat + 1)) m < x.toInt + 1) x.toInt (pRun (mpd μ) (x.toInt.toNat + 1)) y.toInt μ') := by
  obtain ⟨hl, hp, ⟨hx0, hx1⟩, hy⟩ := h
  have mm : (Int32.ofInt (-1)).toInt = -1 := by decide
  have z0 : (Int32.ofInt 0).toInt = 0 := by decide
  have hd := mpd_ok hl hp
  have hln := mLn_n hl
  have hmn := hp.1
  obtain ⟨d, hdd⟩ : ∃ d, d = mpd μ := ⟨_, rfl⟩
  have enm : (pNm d : Int) = (μ.1 0 36).toInt := by
    rw [hdd]
    show (((μ.1 0 36).toInt.toNat : Nat) : Int) = _
    omega
  have enl : pNl d = mln μ := by rw [hdd]; rfl
  have hsn : ∀ m, m < pNm d → _ := fun m hm => msnm_ok hl hp (m := m) (by rw [← hdd]; exact hm)
  have eT : ∀ m, (μ.1 28 m).toInt = pT d m := fun m => by rw [hdd]; rfl
  have eW : ∀ m, (μ.1 29 m).toInt = pW d m := fun m => by rw [hdd]; rfl
  have hca := @mPr_ca μ
  rw [← hdd] at hd hsn hca ⊢
  refine kOk.of rfl (Nat.le_of_ble_eq_true rfl) (fun J C => ?_)
  have C : kR cX12_runs RX12 6 rmX12_runs shM 48 (none) _ J := C
  have main : ∀ (n t : Nat) (v : Int32) (z4 z5 : Option Value) (μ' : kMem), (t : Int) + n = x.toInt + 1 → v.toInt = t → mPsame μ μ' → mPr d (msnm μ) (fun m => pT d m < (t : Int)) (fun m => sS (pRun d t) m < (t : Int)) (max ((t : Int) - 1) 0) (pRun d t) y.toInt μ' → J 67 [some (.ref 0), some (.int x), some (.int y), some (.int v), z4, z5] [] μ' := by
    intro n
    induction n using Nat.strongRecOn with
    | ind n ih =>
      intro t v z4 z5 μ' hn hv hS hR
      have hI0 : pIv d (pRun d t) t := pIv_run hd t
      have hI1 : pIv d (pRun d t) ((t : Int) + 1) := pIv_later hI0 (by omega)
      -- the lines begin
      have lC : (t : Int) ≤ x.toInt → ∀ (k l : Nat) (u : Int32) (z5 : Option Value) (μ' : kMem), l + k = pNl d → u.toInt = l → mPsame μ μ' → mPr d (msnm μ) (fun m => pT d m < (t : Int) + 1) (fun m => sS (pLn d t (pRun d t) l) m < (t : Int) + 1) (t : Int) (pLn d t (pRun d t) l) y.toInt μ' → J 187 [some (.ref 0), some (.int x), some (.int y), some (.int v), some (.int u), z5] [] μ' := by
        intro htx k
        induction k using Nat.strongRecOn with
        | ind k ihk =>
          intro l u z5 μ' hk hu hS hR
          have eu : u.toInt.toNat = l := by omega
          have e36 : μ'.1 0 36 = μ.1 0 36 := hS 0 36 (by omega) (by omega)
          have e19 : μ'.1 0 19 = μ.1 0 19 := hS 0 19 (by omega) (by omega)
          have e29 : ∀ j, μ'.1 29 j = μ.1 29 j := fun j => hS 29 j (by omega) (by omega)
          have hIl := pIv_ln hd hI1 (by omega : (0 : Int) ≤ t) l
          obtain ⟨s, hs⟩ : ∃ s, s = pLn d t (pRun d t) l := ⟨_, rfl⟩
          have hs1 : pLn d t (pRun d t) (l + 1) = if sF s l ≤ t then (match pCh d s l t with | none => s | some m => pBg d s m l t) else s := by rw [hs]; rfl
          rw [← hs] at hR hIl
          by_cases hlk : l < pNl d
          · have hmp := hR.2.1 l hlk
            obtain ⟨ca1, ca2⟩ := hca (t := t) (tp := y.toInt) (fb := t) (s := s) (μ := μ') (l := l) hl hp hS hIl hR
            have eo : chF (mCa μ' l) (mAh μ') (pNm d) = pCh d s l t := chF_congr (pNm d) ca1 ca2
            have e36n : (μ'.1 0 36).toInt.toNat = pNm d := by rw [e36]; omega
            obtain ⟨w, hw⟩ : ∃ w, w = optI (chF (mCa μ' u.toInt.toNat) (mAh μ') (μ'.1 0 36).toInt.toNat) := ⟨_, rfl⟩
            have hw2 : w = optI (pCh d s l t) := by rw [hw, eu, e36n, eo]
            have skip : pLn d t (pRun d t) (l + 1) = s → ∀ z5, J 187 [some (.ref 0), some (.int x), some (.int y), some (.int v), some (.int (u + Int32.ofInt 1)), z5] [] μ' := fun q z5 => by
              refine ihk (k - 1) (by omega) (l + 1) _ _ μ' (by omega) (by simp (disch := (first | omega | (simp (disch := omega) only [ti_ofInt, ti_addc, ti_subc, ti_mulc, ti_cmul, ti_divc, ti_remc, ti_zero, ti_add, ti_sub, ti_neg, if_lt_ti, if_gt_ti, bP_e0, Classical.not_not, tl_i2l]; omega))) only [ti_ofInt, ti_addc, ti_subc, ti_mulc, ti_cmul, ti_divc, ti_remc, ti_zero, ti_add, ti_sub, ti_neg, if_lt_ti, if_gt_ti, bP_e0, Classical.not_not, tl_i2l]; omega) hS ?_
              rw [q]
              exact hR
            have hno : (optI (pCh d s l t)).toInt = -1 ↔ pCh d s l t = none := optI_none (fun b q => by have := (chF_some _ _ q).1; have := hd.1; omega)
            cases ho : pCh d s l t with
            | none =>
              have wv : w.toInt = -1 := by rw [hw2]; exact hno.mpr ho
              rw [ho] at hs1
              have hs2 : pLn d t (pRun d t) (l + 1) = s := by rw [hs1]; split <;> rfl
              refine (r_iload C dX12_runs_187 rfl (r_aload_n C dX12_runs_189 rfl rfl (r_getI C dX12_runs_190 fd_X12_243 nM_0 sM_0 rfl (r_icmp_ge C (tgt := 318) dX12_runs_193 rfl (fun c193 => (r_iinc C dX12_runs_318 rfl (by decide) (r_goto C (tgt := 67) dX12_runs_321 rfl ?_))) (fun c193 => (r_aload_n C dX12_runs_196 rfl rfl (r_getR C dX12_runs_197 fd_X12_114 nM_0 sM_0 rfl (r_iload C dX12_runs_200 rfl (r_iald C dX12_runs_202 nM_37 sM_37 ?_ (r_iconst C dX12_runs_203 (r_icmp_eq C (tgt := 210) dX12_runs_204 rfl (fun c204 => (r_aload_n C dX12_runs_210 rfl rfl (r_iload C dX12_runs_211 rfl (r_iload_n C dX12_runs_213 rfl rfl (r_v2P C yv_X12_chosen lk_X12_369 dX12_runs_214 rfl nM_0 sM_0 rfl (Nat.le_of_ble_eq_true rfl) (ok_X12_chosen ?_) (r_istore C dX12_runs_217 (by decide) (r_iload C dX12_runs_219 rfl (r_iconst C dX12_runs_221 (r_icmp_ne C (tgt := 228) dX12_runs_222 rfl (fun c222 => (r_aload_n C dX12_runs_228 rfl rfl (r_getR C dX12_runs_229 fd_X12_114 nM_0 sM_0 rfl (r_iload C dX12_runs_232 rfl (r_iload C dX12_runs_234 rfl (r_iast C dX12_runs_236 nM_37 sM_37 ?_ (r_aload_n C dX12_runs_237 rfl rfl (r_getR C dX12_runs_238 fd_X12_99 nM_0 sM_0 rfl (r_iload C dX12_runs_241 rfl (r_bipush C dX12_runs_243 (by decide +kernel) (r_iload C dX12_runs_245 rfl (r_iadd C dX12_runs_247 (r_iast C dX12_runs_248 nM_32 sM_32 ?_ (r_aload_n C dX12_runs_249 rfl rfl (r_getR C dX12_runs_250 fd_X12_105 nM_0 sM_0 rfl (r_iload C dX12_runs_253 rfl (r_iload_n C dX12_runs_255 rfl rfl (r_aload_n C dX12_runs_256 rfl rfl (r_getR C dX12_runs_257 fd_X12_90 nM_0 sM_0 rfl (r_iload C dX12_runs_260 rfl (r_iald C dX12_runs_262 nM_29 sM_29 ?_ (r_iadd C dX12_runs_263 (r_iast C dX12_runs_264 nM_34 sM_34 ?_ (r_aload_n C dX12_runs_265 rfl rfl (r_getR C dX12_runs_266 fd_X12_111 nM_0 sM_0 rfl (r_iload C dX12_runs_269 rfl (r_dup2 C dX12_runs_271 rfl rfl (r_iald C dX12_runs_272 nM_36 sM_36 ?_ (r_aload_n C dX12_runs_273 rfl rfl (r_getR C dX12_runs_274 fd_X12_90 nM_0 sM_0 rfl (r_iload C dX12_runs_277 rfl (r_iald C dX12_runs_279 nM_29 sM_29 ?_ (r_iadd C dX12_runs_280 (r_iast C dX12_runs_281 nM_36 sM_36 ?_ (r_iload C dX12_runs_282 rfl (r_iload_n C dX12_runs_284 rfl rfl (r_icmp_eq C (tgt := 291) dX12_runs_285 rfl (fun c285 => (r_aload_n C dX12_runs_291 rfl rfl (r_getR C dX12_runs_292 fd_X12_117 nM_0 sM_0 rfl (r_aload_n C dX12_runs_295 rfl rfl (r_getI C dX12_runs_296 fd_X12_362 nM_0 sM_0 rfl (r_iload C dX12_runs_299 rfl (r_iast C dX12_runs_301 nM_38 sM_38 ?_ (r_aload_n C dX12_runs_302 rfl rfl (r_dup C dX12_runs_303 rfl (r_getI C dX12_runs_304 fd_X12_362 nM_0 sM_0 rfl (r_iconst C dX12_runs_307 (r_iadd C dX12_runs_308 (r_putI C dX12_runs_309 fw_X12_362 nM_0 sM_0 rfl (r_iinc C dX12_runs_312 rfl (by decide) (r_goto C (tgt := 187) dX12_runs_315 rfl ?_))))))))))))))) (fun c285 => (r_goto C (tgt := 312) dX12_runs_288 rfl (r_iinc C dX12_runs_312 rfl (by decide) (r_goto C (tgt := 187) dX12_runs_315 rfl ?_))))))))))))))))))))))))))))))))))))))))) (fun c222 => (r_goto C (tgt := 312) dX12_runs_225 rfl (r_iinc C dX12_runs_312 rfl (by decide) (r_goto C (tgt := 187) dX12_runs_315 rfl ?_))))))))))))) (fun c204 => (r_goto C (tgt := 312) dX12_runs_207 rfl (r_iinc C dX12_runs_312 rfl (by decide) (r_goto C (tgt := 187) dX12_runs_315 rfl ?_)))))))))))))))
              · rw [e19] at c193; omega
              · omega
              · rw [e36]
                exact ⟨hmn, by omega, by omega⟩
              · rw [← hw, mm] at c222; omega
              · rw [← hw, mm] at c222; omega
              · rw [← hw, mm] at c222; omega
              · rw [← hw, mm] at c222; omega
              · rw [← hw, mm] at c222; omega
              · rw [← hw, mm] at c222; omega
              · rw [← hw, mm] at c222; omega
              · rw [← hw, mm] at c222; omega
              · rw [← hw, mm] at c222; omega
              · rw [← hw, mm] at c222; omega
              · exact skip hs2 _
              · exact skip hs2 _
            | some m0 =>
              obtain ⟨k1, k2⟩ := chF_some _ _ ho
              have hmc : m0 < pNm d := k1
              have hpc : pCa d s l t m0 := k2
              have wv : w.toInt = m0 := by rw [hw2, ho]; exact optI_some (by have := hd.1; omega)
              have ew : w.toInt.toNat = m0 := by omega
              have hm20 : pNm d ≤ 20 := hd.1
              have hdm := hd.2.2 m0 hmc
              have hivm := hIl.1 m0 hmc
              have hU0 : pT d m0 < (t : Int) + 1 := by
                rcases Nat.eq_zero_or_pos (sG s m0) with q | q
                · have := hivm.2.1 q
                  have := hpc.2.2
                  omega
                · have q1 := hivm.2.2.1 q
                  have q2 := hivm.2.2.2.1 (sG s m0 - 1) (by omega)
                  have := hpc.2.2
                  omega
              have hA0 : sS s m0 < (t : Int) + 1 := by have := hpc.2.2; omega
              have hpm := hR.1 m0 hmc
              have hrode := hpm.1
              have hrb : 0 ≤ (sG s m0 : Int) * pW d m0 ∧ (sG s m0 : Int) * pW d m0 ≤ 5 * 60 := by
                have q := hivm.1
                exact ⟨Int.mul_nonneg (by omega) (by omega), Int.mul_le_mul (by omega) (by omega) (by omega) (by decide)⟩
              have hfr : (μ'.1 37 l).toInt = -1 → sF s l ≤ t := fun hon => by
                rcases hmp with ⟨-, q⟩ | ⟨m, -, q, -⟩
                · exact q
                · rw [hon] at q; omega
              have hlen : (μ'.1 37 l).toInt = -1 → (sH s l).length < 20 := fun hon => by
                have q := (pIv_bg hd hIl (by omega) hmc hpc (hfr hon)).2 l
                have q2 := q.2.2.2.2
                rw [pBg_H] at q2
                dsimp only at q2
                rw [if_pos rfl, List.length_append] at q2
                have q3 := cntF_le (fun m => ∃ h, h < sG (pBg d s m0 l t) m ∧ pR d m h = l) (pNm d)
                have e9 : [(m0, (t : Int))].length = 1 := rfl
                omega
              have go : (μ'.1 37 l).toInt = -1 → ∀ (z5 : Option Value) (μ2 : kMem), mPsame μ' μ2 → (∀ a b : Nat, 32 ≤ a → a ≤ 39 → a ≠ 37 → a ≠ 38 → b ≠ m0 → μ2.1 a b = μ'.1 a b) → (μ2.1 36 m0).toInt = (μ'.1 36 m0).toInt + pW d m0 → (μ2.1 32 m0).toInt = 10 + (l : Int) → (μ2.1 34 m0).toInt = (t : Int) + pW d m0 → μ2.1 35 m0 = μ'.1 35 m0 → ((μ2.1 37 l).toInt = (m0 : Int) ∧ ∀ j, j ≠ l → μ2.1 37 j = μ'.1 37 j) → (∀ j : Nat, y.toInt = (j : Int) → (j ≠ l → μ2.1 0 45 = μ'.1 0 45 ∧ ∀ i, μ2.1 38 i = μ'.1 38 i) ∧ (j = l → (μ2.1 0 45).toInt = (μ'.1 0 45).toInt + 1 ∧ (∀ i : Nat, (i : Int) < (μ'.1 0 45).toInt → μ2.1 38 i = μ'.1 38 i) ∧ (μ2.1 38 (μ'.1 0 45).toInt.toNat).toInt = (m0 : Int))) → J 187 [some (.ref 0), some (.int x), some (.int y), some (.int v), some (.int (u + Int32.ofInt 1)), z5] [] μ2 := by
                intro hon z5 μ2 g0 g1 g2 g3 g4 g5 g6 g7
                have hf := hfr hon
                have hs2 : pLn d t (pRun d t) (l + 1) = pBg d s m0 l t := by rw [hs1, if_pos hf, ho]
                refine ihk (k - 1) (by omega) (l + 1) _ _ μ2 (by omega) (by simp (disch := (first | omega | (simp (disch := omega) only [ti_ofInt, ti_addc, ti_subc, ti_mulc, ti_cmul, ti_divc, ti_remc, ti_zero, ti_add, ti_sub, ti_neg, if_lt_ti, if_gt_ti, bP_e0, Classical.not_not, tl_i2l]; omega))) only [ti_ofInt, ti_addc, ti_subc, ti_mulc, ti_cmul, ti_divc, ti_remc, ti_zero, ti_add, ti_sub, ti_neg, if_lt_ti, if_gt_ti, bP_e0, Classical.not_not, tl_i2l]; omega) (hS.tr g0) ?_
                rw [hs2]
                refine hR.bg hmc hU0 hA0 (fun m hm hne => ?_) ?_ hpc.1 hpc.2.1 hon g1 g2 g3 g4 g5 g6 g7
                · rw [pBg_S]
                  dsimp only
                  rw [if_neg hne]
                · rw [pBg_S]
                  dsimp only
                  rw [if_pos rfl]
                  omega
              have e10 : (Int32.ofInt 10 + u).toInt = 10 + (l : Int) := by
                have m10 : (Int32.ofInt 10).toInt = 10 := by decide
                have := hln.2
                rw [ti_add (by omega), m10, hu]
              have etw : (v + μ'.1 29 m0).toInt = (t : Int) + pW d m0 := by
                have := eW m0
                rw [e29, ti_add (by omega), hv, this]
              have erw : (μ'.1 36 m0 + μ'.1 29 m0).toInt = (μ'.1 36 m0).toInt + pW d m0 := by
                have := eW m0
                rw [e29, ti_add (by omega), this]
              refine (r_iload C dX12_runs_187 rfl (r_aload_n C dX12_runs_189 rfl rfl (r_getI C dX12_runs_190 fd_X12_243 nM_0 sM_0 rfl (r_icmp_ge C (tgt := 318) dX12_runs_193 rfl (fun c193 => (r_iinc C dX12_runs_318 rfl (by decide) (r_goto C (tgt := 67) dX12_runs_321 rfl ?_))) (fun c193 => (r_aload_n C dX12_runs_196 rfl rfl (r_getR C dX12_runs_197 fd_X12_114 nM_0 sM_0 rfl (r_iload C dX12_runs_200 rfl (r_iald C dX12_runs_202 nM_37 sM_37 ?_ (r_iconst C dX12_runs_203 (r_icmp_eq C (tgt := 210) dX12_runs_204 rfl (fun c204 => (r_aload_n C dX12_runs_210 rfl rfl (r_iload C dX12_runs_211 rfl (r_iload_n C dX12_runs_213 rfl rfl (r_v2P C yv_X12_chosen lk_X12_369 dX12_runs_214 rfl nM_0 sM_0 rfl (Nat.le_of_ble_eq_true rfl) (ok_X12_chosen ?_) (r_istore C dX12_runs_217 (by decide) (r_iload C dX12_runs_219 rfl (r_iconst C dX12_runs_221 (r_icmp_ne C (tgt := 228) dX12_runs_222 rfl (fun c222 => (r_aload_n C dX12_runs_228 rfl rfl (r_getR C dX12_runs_229 fd_X12_114 nM_0 sM_0 rfl (r_iload C dX12_runs_232 rfl (r_iload C dX12_runs_234 rfl (r_iast C dX12_runs_236 nM_37 sM_37 ?_ (r_aload_n C dX12_runs_237 rfl rfl (r_getR C dX12_runs_238 fd_X12_99 nM_0 sM_0 rfl (r_iload C dX12_runs_241 rfl (r_bipush C dX12_runs_243 (by decide +kernel) (r_iload C dX12_runs_245 rfl (r_iadd C dX12_runs_247 (r_iast C dX12_runs_248 nM_32 sM_32 ?_ (r_aload_n C dX12_runs_249 rfl rfl (r_getR C dX12_runs_250 fd_X12_105 nM_0 sM_0 rfl (r_iload C dX12_runs_253 rfl (r_iload_n C dX12_runs_255 rfl rfl (r_aload_n C dX12_runs_256 rfl rfl (r_getR C dX12_runs_257 fd_X12_90 nM_0 sM_0 rfl (r_iload C dX12_runs_260 rfl (r_iald C dX12_runs_262 nM_29 sM_29 ?_ (r_iadd C dX12_runs_263 (r_iast C dX12_runs_264 nM_34 sM_34 ?_ (r_aload_n C dX12_runs_265 rfl rfl (r_getR C dX12_runs_266 fd_X12_111 nM_0 sM_0 rfl (r_iload C dX12_runs_269 rfl (r_dup2 C dX12_runs_271 rfl rfl (r_iald C dX12_runs_272 nM_36 sM_36 ?_ (r_aload_n C dX12_runs_273 rfl rfl (r_getR C dX12_runs_274 fd_X12_90 nM_0 sM_0 rfl (r_iload C dX12_runs_277 rfl (r_iald C dX12_runs_279 nM_29 sM_29 ?_ (r_iadd C dX12_runs_280 (r_iast C dX12_runs_281 nM_36 sM_36 ?_ (r_iload C dX12_runs_282 rfl (r_iload_n C dX12_runs_284 rfl rfl (r_icmp_eq C (tgt := 291) dX12_runs_285 rfl (fun c285 => (r_aload_n C dX12_runs_291 rfl rfl (r_getR C dX12_runs_292 fd_X12_117 nM_0 sM_0 rfl (r_aload_n C dX12_runs_295 rfl rfl (r_getI C dX12_runs_296 fd_X12_362 nM_0 sM_0 rfl (r_iload C dX12_runs_299 rfl (r_iast C dX12_runs_301 nM_38 sM_38 ?_ (r_aload_n C dX12_runs_302 rfl rfl (r_dup C dX12_runs_303 rfl (r_getI C dX12_runs_304 fd_X12_362 nM_0 sM_0 rfl (r_iconst C dX12_runs_307 (r_iadd C dX12_runs_308 (r_putI C dX12_runs_309 fw_X12_362 nM_0 sM_0 rfl (r_iinc C dX12_runs_312 rfl (by decide) (r_goto C (tgt := 187) dX12_runs_315 rfl ?_))))))))))))))) (fun c285 => (r_goto C (tgt := 312) dX12_runs_288 rfl (r_iinc C dX12_runs_312 rfl (by decide) (r_goto C (tgt := 187) dX12_runs_315 rfl ?_))))))))))))))))))))))))))))))))))))))))) (fun c222 => (r_goto C (tgt := 312) dX12_runs_225 rfl (r_iinc C dX12_runs_312 rfl (by decide) (r_goto C (tgt := 187) dX12_runs_315 rfl ?_))))))))))))) (fun c204 => (r_goto C (tgt := 312) dX12_runs_207 rfl (r_iinc C dX12_runs_312 rfl (by decide) (r_goto C (tgt := 187) dX12_runs_315 rfl ?_)))))))))))))))
              · rw [e19] at c193; omega
              · omega
              · rw [e36]
                exact ⟨hmn, by omega, by omega⟩
              · omega
              · rw [← hw]; omega
              · rw [← hw]; omega
              · rw [← hw]; omega
              · rw [← hw]; omega
              · rw [← hw]; omega
              · rw [← hw]; omega
              · simp (disch := decide) only [up_same, up_neo, up_nek, up_2]
                rw [eu, mm] at c204
                obtain ⟨q1, q2⟩ := hR.2.2 l (by omega)
                have := hlen c204
                omega
              · rw [eu, mm] at c204
                simp (disch := decide) only [up_same, up_neo, up_nek, up_2]
                rw [← hw, ew, eu]
                obtain ⟨q1, q2⟩ := hR.2.2 l (by omega)
                have hlen2 := hlen c204
                refine go c204 _ _ (fun a b n1 n2 => ?_) (fun a b n1 n2 n3 n4 n5 => ?_) ?_ ?_ ?_ ?_ ⟨?_, fun j hj => ?_⟩ (fun j hj => ⟨fun hne => by omega, fun _ => ⟨?_, fun i hi => ?_, ?_⟩⟩)
                · rw [up_ne _ _ n1, up_neo _ _ (by omega), up_neo _ _ (by omega), up_neo _ _ (by omega), up_neo _ _ (by omega), up_neo _ _ (by omega)]
                · rw [up_neo _ _ (by omega), up_neo _ _ n4, up_nek _ _ n5, up_nek _ _ n5, up_nek _ _ n5, up_neo _ _ n3]
                · simp (disch := decide) only [up_same, up_neo, up_nek, up_2]
                  exact erw
                · simp (disch := decide) only [up_same, up_neo, up_nek, up_2]
                  exact e10
                · simp (disch := decide) only [up_same, up_neo, up_nek, up_2]
                  exact etw
                · simp (disch := decide) only [up_same, up_neo, up_nek, up_2]
                · simp (disch := decide) only [up_same, up_neo, up_nek, up_2]
                  exact wv
                · simp (disch := decide) only [up_same, up_neo, up_nek, up_2]
                  rw [up_nek _ _ hj]
                · simp (disch := decide) only [up_same, up_neo, up_nek, up_2]
                  rw [ti_addc (by omega)]
                · simp (disch := decide) only [up_same, up_neo, up_nek, up_2]
                  rw [up_nek _ _ (by omega)]
                  simp (disch := decide) only [up_same, up_neo, up_nek, up_2]
                · simp (disch := decide) only [up_same, up_neo, up_nek, up_2]
                  exact wv
              · rw [eu, mm] at c204
                simp (disch := decide) only [up_same, up_neo, up_nek, up_2]
                rw [← hw, ew, eu]
                refine go c204 _ _ (fun a b n1 n2 => ?_) (fun a b n1 n2 n3 n4 n5 => ?_) ?_ ?_ ?_ ?_ ⟨?_, fun j hj => ?_⟩ (fun j hj => ⟨fun hne => ⟨?_, fun i => ?_⟩, fun hne => by omega⟩)
                · rw [up_neo _ _ (by omega), up_neo _ _ (by omega), up_neo _ _ (by omega), up_neo _ _ (by omega)]
                · rw [up_nek _ _ n5, up_nek _ _ n5, up_nek _ _ n5, up_neo _ _ n3]
                · simp (disch := decide) only [up_same, up_neo, up_nek, up_2]
                  exact erw
                · simp (disch := decide) only [up_same, up_neo, up_nek, up_2]
                  exact e10
                · simp (disch := decide) only [up_same, up_neo, up_nek, up_2]
                  exact etw
                · simp (disch := decide) only [up_same, up_neo, up_nek, up_2]
                · simp (disch := decide) only [up_same, up_neo, up_nek, up_2]
                  exact wv
                · simp (disch := decide) only [up_same, up_neo, up_nek, up_2]
                  rw [up_nek _ _ hj]
                · simp (disch := decide) only [up_same, up_neo, up_nek, up_2]
                · simp (disch := decide) only [up_same, up_neo, up_nek, up_2]
              · rw [← hw, mm] at c222; omega
              · rw [eu, mm] at c204
                refine skip ?_ _
                have hf : ¬ sF s l ≤ t := by
                  rcases hmp with ⟨q, -⟩ | ⟨m, q1, q2, q3, q4, q5, q6⟩
                  · exact absurd q c204
                  · omega
                rw [hs1, if_neg hf]
          · have el : l = pNl d := by omega
            refine (r_iload C dX12_runs_187 rfl (r_aload_n C dX12_runs_189 rfl rfl (r_getI C dX12_runs_190 fd_X12_243 nM_0 sM_0 rfl (r_icmp_ge C (tgt := 318) dX12_runs_193 rfl (fun c193 => (r_iinc C dX12_runs_318 rfl (by decide) (r_goto C (tgt := 67) dX12_runs_321 rfl ?_))) (fun c193 => (r_aload_n C dX12_runs_196 rfl rfl (r_getR C dX12_runs_197 fd_X12_114 nM_0 sM_0 rfl (r_iload C dX12_runs_200 rfl (r_iald C dX12_runs_202 nM_37 sM_37 ?_ (r_iconst C dX12_runs_203 (r_icmp_eq C (tgt := 210) dX12_runs_204 rfl (fun c204 => (r_aload_n C dX12_runs_210 rfl rfl (r_iload C dX12_runs_211 rfl (r_iload_n C dX12_runs_213 rfl rfl (r_v2P C yv_X12_chosen lk_X12_369 dX12_runs_214 rfl nM_0 sM_0 rfl (Nat.le_of_ble_eq_true rfl) (ok_X12_chosen ?_) (r_istore C dX12_runs_217 (by decide) (r_iload C dX12_runs_219 rfl (r_iconst C dX12_runs_221 (r_icmp_ne C (tgt := 228) dX12_runs_222 rfl (fun c222 => (r_aload_n C dX12_runs_228 rfl rfl (r_getR C dX12_runs_229 fd_X12_114 nM_0 sM_0 rfl (r_iload C dX12_runs_232 rfl (r_iload C dX12_runs_234 rfl (r_iast C dX12_runs_236 nM_37 sM_37 ?_ (r_aload_n C dX12_runs_237 rfl rfl (r_getR C dX12_runs_238 fd_X12_99 nM_0 sM_0 rfl (r_iload C dX12_runs_241 rfl (r_bipush C dX12_runs_243 (by decide +kernel) (r_iload C dX12_runs_245 rfl (r_iadd C dX12_runs_247 (r_iast C dX12_runs_248 nM_32 sM_32 ?_ (r_aload_n C dX12_runs_249 rfl rfl (r_getR C dX12_runs_250 fd_X12_105 nM_0 sM_0 rfl (r_iload C dX12_runs_253 rfl (r_iload_n C dX12_runs_255 rfl rfl (r_aload_n C dX12_runs_256 rfl rfl (r_getR C dX12_runs_257 fd_X12_90 nM_0 sM_0 rfl (r_iload C dX12_runs_260 rfl (r_iald C dX12_runs_262 nM_29 sM_29 ?_ (r_iadd C dX12_runs_263 (r_iast C dX12_runs_264 nM_34 sM_34 ?_ (r_aload_n C dX12_runs_265 rfl rfl (r_getR C dX12_runs_266 fd_X12_111 nM_0 sM_0 rfl (r_iload C dX12_runs_269 rfl (r_dup2 C dX12_runs_271 rfl rfl (r_iald C dX12_runs_272 nM_36 sM_36 ?_ (r_aload_n C dX12_runs_273 rfl rfl (r_getR C dX12_runs_274 fd_X12_90 nM_0 sM_0 rfl (r_iload C dX12_runs_277 rfl (r_iald C dX12_runs_279 nM_29 sM_29 ?_ (r_iadd C dX12_runs_280 (r_iast C dX12_runs_281 nM_36 sM_36 ?_ (r_iload C dX12_runs_282 rfl (r_iload_n C dX12_runs_284 rfl rfl (r_icmp_eq C (tgt := 291) dX12_runs_285 rfl (fun c285 => (r_aload_n C dX12_runs_291 rfl rfl (r_getR C dX12_runs_292 fd_X12_117 nM_0 sM_0 rfl (r_aload_n C dX12_runs_295 rfl rfl (r_getI C dX12_runs_296 fd_X12_362 nM_0 sM_0 rfl (r_iload C dX12_runs_299 rfl (r_iast C dX12_runs_301 nM_38 sM_38 ?_ (r_aload_n C dX12_runs_302 rfl rfl (r_dup C dX12_runs_303 rfl (r_getI C dX12_runs_304 fd_X12_362 nM_0 sM_0 rfl (r_iconst C dX12_runs_307 (r_iadd C dX12_runs_308 (r_putI C dX12_runs_309 fw_X12_362 nM_0 sM_0 rfl (r_iinc C dX12_runs_312 rfl (by decide) (r_goto C (tgt := 187) dX12_runs_315 rfl ?_))))))))))))))) (fun c285 => (r_goto C (tgt := 312) dX12_runs_288 rfl (r_iinc C dX12_runs_312 rfl (by decide) (r_goto C (tgt := 187) dX12_runs_315 rfl ?_))))))))))))))))))))))))))))))))))))))))) (fun c222 => (r_goto C (tgt := 312) dX12_runs_225 rfl (r_iinc C dX12_runs_312 rfl (by decide) (r_goto C (tgt := 187) dX12_runs_315 rfl ?_))))))))))))) (fun c204 => (r_goto C (tgt := 312) dX12_runs_207 rfl (r_iinc C dX12_runs_312 rfl (by decide) (r_goto C (tgt := 187) dX12_runs_315 rfl ?_)))))))))))))))
            · subst el
              refine ih (n - 1) (by omega) (t + 1) _ _ _ μ' (by omega) (by simp (disch := (first | omega | (simp (disch := omega) only [ti_ofInt, ti_addc, ti_subc, ti_mulc, ti_cmul, ti_divc, ti_remc, ti_zero, ti_add, ti_sub, ti_neg, if_lt_ti, if_gt_ti, bP_e0, Classical.not_not, tl_i2l]; omega))) only [ti_ofInt, ti_addc, ti_subc, ti_mulc, ti_cmul, ti_divc, ti_remc, ti_zero, ti_add, ti_sub, ti_neg, if_lt_ti, if_gt_ti, bP_e0, Classical.not_not, tl_i2l]; omega) hS ?_
              have e : pRun d (t + 1) = pLn d t (pRun d t) (pNl d) := rfl
              rw [e]
              rw [hs] at hR
              refine hR.cg (fun m _ => ?_) (fun m _ _ => ?_) (by omega)
              · show _ ↔ pT d m < (t : Int) + 1
                exact Iff.rfl
              · show _ ↔ sS (pLn d t (pRun d t) (pNl d)) m < (t : Int) + 1
                exact Iff.rfl
            all_goals (exfalso; rw [e19] at c193; omega)
      -- messages come up
      have lB : (t : Int) ≤ x.toInt → ∀ (k i : Nat) (u : Int32) (z5 : Option Value) (μ' : kMem), i + k = pNm d → u.toInt = i → mPsame μ μ' → mPr d (msnm μ) (fun m => pT d m < (t : Int) ∨ (pT d m = (t : Int) ∧ m < i)) (fun m => sS (pRun d t) m < (t : Int) + 1) (t : Int) (pRun d t) y.toInt μ' → J 144 [some (.ref 0), some (.int x), some (.int y), some (.int v), some (.int u), z5] [] μ' := by
        intro htx k
        induction k using Nat.strongRecOn with
        | ind k ihk =>
          intro i u z5 μ' hk hu hS hR
          have eu : u.toInt.toNat = i := by omega
          have e36 : μ'.1 0 36 = μ.1 0 36 := hS 0 36 (by omega) (by omega)
          have e28 : (μ'.1 28 u.toInt.toNat).toInt = pT d i := by rw [eu, hS 28 i (by omega) (by omega)]; exact eT i
          have e26 : μ'.1 26 u.toInt.toNat = μ.1 26 i := by rw [eu]; exact hS 26 i (by omega) (by omega)
          have e27 : μ'.1 27 u.toInt.toNat = μ.1 27 i := by rw [eu]; exact hS 27 i (by omega) (by omega)
          have hall := mPsame_all hS
          have hm20 : pNm d ≤ 20 := hd.1
          by_cases hik : i < pNm d
          · have hs := hsn i hik
            have hdm := hd.2.2 i hik
            have hiv := hI0.1 i hik
            refine (r_iload C dX12_runs_144 rfl (r_aload_n C dX12_runs_146 rfl rfl (r_getI C dX12_runs_147 fd_X12_359 nM_0 sM_0 rfl (r_icmp_ge C (tgt := 184) dX12_runs_150 rfl (fun c150 => (r_iconst C dX12_runs_184 (r_istore C dX12_runs_185 (by decide) ?_))) (fun c150 => (r_aload_n C dX12_runs_153 rfl rfl (r_getR C dX12_runs_154 fd_X12_87 nM_0 sM_0 rfl (r_iload C dX12_runs_157 rfl (r_iald C dX12_runs_159 nM_28 sM_28 ?_ (r_iload_n C dX12_runs_160 rfl rfl (r_icmp_ne C (tgt := 178) dX12_runs_161 rfl (fun c161 => (r_iinc C dX12_runs_178 rfl (by decide) (r_goto C (tgt := 144) dX12_runs_181 rfl ?_))) (fun c161 => (r_aload_n C dX12_runs_164 rfl rfl (r_iload C dX12_runs_165 rfl (r_aload_n C dX12_runs_167 rfl rfl (r_getR C dX12_runs_168 fd_X12_81 nM_0 sM_0 rfl (r_iload C dX12_runs_171 rfl (r_iald C dX12_runs_173 nM_26 sM_26 ?_ (r_iload_n C dX12_runs_174 rfl rfl (r_v3N C yv_X12_comesTo lk_X12_365 dX12_runs_175 rfl nM_0 sM_0 rfl (Nat.le_of_ble_eq_true rfl) (ok_X12_comesTo ?_) (fun μ175 h175 => (r_iinc C dX12_runs_178 rfl (by decide) (r_goto C (tgt := 144) dX12_runs_181 rfl ?_)))))))))))))))))))))))
            · rw [e36] at c150; omega
            · omega
            · rw [e28, hv] at c161
              refine ihk (k - 1) (by omega) (i + 1) _ _ μ' (by omega) (by simp (disch := (first | omega | (simp (disch := omega) only [ti_ofInt, ti_addc, ti_subc, ti_mulc, ti_cmul, ti_divc, ti_remc, ti_zero, ti_add, ti_sub, ti_neg, if_lt_ti, if_gt_ti, bP_e0, Classical.not_not, tl_i2l]; omega))) only [ti_ofInt, ti_addc, ti_subc, ti_mulc, ti_cmul, ti_divc, ti_remc, ti_zero, ti_add, ti_sub, ti_neg, if_lt_ti, if_gt_ti, bP_e0, Classical.not_not, tl_i2l]; omega) hS (hR.cg (fun m _ => ?_) (fun m _ _ => Iff.rfl) (Int.le_refl _))
              by_cases e : m = i
              · subst e; omega
              · omega
            · omega
            · rw [e26, eu]
              refine ⟨hall.2.2.1 hl, by omega, by omega, ?_⟩
              rw [← eu, e27]
              omega
            · rw [e28, hv] at c161
              rw [eu] at h175
              have ec : (μ'.1 27 i).toInt = (μ.1 27 i).toInt := by rw [← eu, e27, eu]
              have e26' : μ'.1 26 i = μ.1 26 i := by rw [← eu, e26, eu]
              have hps := h175.ps
              obtain ⟨g1, g2, g3, g4, g5⟩ := h175
              rw [ec, e26'] at g4 g5
              rw [e26'] at g2
              rw [hall.2.2.2.2.2, hall.2.2.2.1] at g5
              rw [hv] at g3
              have hG0 : sG (pRun d t) i = 0 := by
                rcases Nat.eq_zero_or_pos (sG (pRun d t) i) with q | q
                · exact q
                · have := hiv.2.2.2.1 (sG (pRun d t) i - 1) (by omega)
                  omega
              have hS0 := hiv.2.1 hG0
              have hUi : ¬ (pT d i < (t : Int) ∨ (pT d i = (t : Int) ∧ i < i)) := by omega
              have harr := ((hR.1 i hik).2.1 hUi).2
              have hne : ¬ (μ.1 26 i).toInt = (μ.1 27 i).toInt := fun q => by
                have q1 := (hs.1 0 (by omega)).1.mp (by have := hs.2.2.1; omega)
                omega
              have g5 := g5 hne
              refine ihk (k - 1) (by omega) (i + 1) _ _ _ (by omega) (by simp (disch := (first | omega | (simp (disch := omega) only [ti_ofInt, ti_addc, ti_subc, ti_mulc, ti_cmul, ti_divc, ti_remc, ti_zero, ti_add, ti_sub, ti_neg, if_lt_ti, if_gt_ti, bP_e0, Classical.not_not, tl_i2l]; omega))) only [ti_ofInt, ti_addc, ti_subc, ti_mulc, ti_cmul, ti_divc, ti_remc, ti_zero, ti_add, ti_sub, ti_neg, if_lt_ti, if_gt_ti, bP_e0, Classical.not_not, tl_i2l]; omega) (hS.tr hps) ?_
              refine hR.land hik (fun m hm hne => ?_) (fun m hm hne => Iff.rfl) (Or.inr ⟨c161, by omega⟩) (by omega) (fun a b n1 n2 n3 n4 => g1 a b (by omega) (Or.inr n4)) (g1 36 i (by decide) (Or.inl (by decide))) ⟨?_, by rw [g3, hS0, c161], fun q => by omega, fun _ => ⟨by rw [g5.1]; exact harr, ?_⟩⟩ (fun j hj => Or.inl ⟨g1 37 j (by decide) (Or.inl (by decide)), fun q => ?_⟩) (fun m hm q1 q2 => ?_) ⟨g1 0 45 (by decide) (Or.inl (by decide)), fun j => g1 38 j (by decide) (Or.inl (by decide))⟩
              · omega
              · rw [g2, hG0, hs.2.2.1, hs.2.2.2.2.2.2.1]
              · have q := (hs.2.1 0 (by omega)).1
                rw [hs.2.2.1] at q
                rw [g5.2, hG0, ← q]
                rfl
              · rcases hR.2.1 j hj with ⟨a, -⟩ | ⟨m, a, b, c, e, f⟩
                · omega
                · have em : m = i := by omega
                  subst em
                  exact hUi c
              · have q3 := ((hR.1 m hm).2.2.2 q1 q2).1
                exact (hd.2.2 m hm).2.2.2.1 _ (by have := (hI0.1 m hm).1; omega)
          · have ei : i = pNm d := by omega
            refine (r_iload C dX12_runs_144 rfl (r_aload_n C dX12_runs_146 rfl rfl (r_getI C dX12_runs_147 fd_X12_359 nM_0 sM_0 rfl (r_icmp_ge C (tgt := 184) dX12_runs_150 rfl (fun c150 => (r_iconst C dX12_runs_184 (r_istore C dX12_runs_185 (by decide) ?_))) (fun c150 => (r_aload_n C dX12_runs_153 rfl rfl (r_getR C dX12_runs_154 fd_X12_87 nM_0 sM_0 rfl (r_iload C dX12_runs_157 rfl (r_iald C dX12_runs_159 nM_28 sM_28 ?_ (r_iload_n C dX12_runs_160 rfl rfl (r_icmp_ne C (tgt := 178) dX12_runs_161 rfl (fun c161 => (r_iinc C dX12_runs_178 rfl (by decide) (r_goto C (tgt := 144) dX12_runs_181 rfl ?_))) (fun c161 => (r_aload_n C dX12_runs_164 rfl rfl (r_iload C dX12_runs_165 rfl (r_aload_n C dX12_runs_167 rfl rfl (r_getR C dX12_runs_168 fd_X12_81 nM_0 sM_0 rfl (r_iload C dX12_runs_171 rfl (r_iald C dX12_runs_173 nM_26 sM_26 ?_ (r_iload_n C dX12_runs_174 rfl rfl (r_v3N C yv_X12_comesTo lk_X12_365 dX12_runs_175 rfl nM_0 sM_0 rfl (Nat.le_of_ble_eq_true rfl) (ok_X12_comesTo ?_) (fun μ175 h175 => (r_iinc C dX12_runs_178 rfl (by decide) (r_goto C (tgt := 144) dX12_runs_181 rfl ?_)))))))))))))))))))))))
            · refine lC htx (pNl d) 0 _ _ μ' (by omega) (by simp (disch := (first | omega | (simp (disch := omega) only [ti_ofInt, ti_addc, ti_subc, ti_mulc, ti_cmul, ti_divc, ti_remc, ti_zero, ti_add, ti_sub, ti_neg, if_lt_ti, if_gt_ti, bP_e0, Classical.not_not, tl_i2l]; omega))) only [ti_ofInt, ti_addc, ti_subc, ti_mulc, ti_cmul, ti_divc, ti_remc, ti_zero, ti_add, ti_sub, ti_neg, if_lt_ti, if_gt_ti, bP_e0, Classical.not_not, tl_i2l]; rfl) hS ?_
              have e : pLn d t (pRun d t) 0 = pRun d t := rfl
              rw [e]
              exact hR.cg (fun m hm => by omega) (fun m _ _ => Iff.rfl) (Int.le_refl _)
            all_goals (exfalso; rw [e36] at c150; omega)
      -- the lines end
      have lA : (t : Int) ≤ x.toInt → ∀ (k l : Nat) (u : Int32) (z5 : Option Value) (μ' : kMem), l + k = pNl d → u.toInt = l → mPsame μ μ' → mPr d (msnm μ) (fun m => pT d m < (t : Int)) (fun m => sS (pRun d t) m < (t : Int) ∨ (sS (pRun d t) m = (t : Int) ∧ 0 < sG (pRun d t) m ∧ pR d m (sG (pRun d t) m - 1) < l)) (t : Int) (pRun d t) y.toInt μ' → J 75 [some (.ref 0), some (.int x), some (.int y), some (.int v), some (.int u), z5] [] μ' := by
        intro htx k
        induction k using Nat.strongRecOn with
        | ind k ihk =>
          intro l u z5 μ' hk hu hS hR
          have eu : u.toInt.toNat = l := by omega
          have e19 : μ'.1 0 19 = μ.1 0 19 := hS 0 19 (by omega) (by omega)
          have e17 : μ'.1 17 u.toInt.toNat = μ.1 17 l := by rw [eu]; exact hS 17 l (by omega) (by omega)
          have hall := mPsame_all hS
          have hm20 : pNm d ≤ 20 := hd.1
          have hG : ∀ m, m < pNm d → 0 < sG (pRun d t) m → pT d m < (t : Int) ∧ pR d m (sG (pRun d t) m - 1) < pNl d := fun m hm q => by
            have q1 := (hI0.1 m hm).2.2.2.1 (sG (pRun d t) m - 1) (by omega)
            have q2 := (hd.2.2 m hm).2.2.2.1 (sG (pRun d t) m - 1) (by have := (hI0.1 m hm).1; omega)
            exact ⟨by omega, q2⟩
          by_cases hlk : l < pNl d
          · have hmp := hR.2.1 l hlk
            have hst := mLn_st hl l
            -- who lands on this line is on it
            have key : ∀ m, m < pNm d → sS (pRun d t) m = (t : Int) → 0 < sG (pRun d t) m → pR d m (sG (pRun d t) m - 1) = l → (μ'.1 37 l).toInt = (m : Int) ∧ (μ'.1 34 m).toInt = (t : Int) := fun m hm q1 q2 q3 => by
              have f := (hR.1 m hm).2.2.2 (hG m hm q2).1 (by omega)
              rw [q3, q1] at f
              exact ⟨f.2.2.2.2, f.2.2.1⟩
            have skip : (∀ m, m < pNm d → sS (pRun d t) m = (t : Int) → 0 < sG (pRun d t) m → ¬ pR d m (sG (pRun d t) m - 1) = l) → ∀ z5, J 75 [some (.ref 0), some (.int x), some (.int y), some (.int v), some (.int (u + Int32.ofInt 1)), z5] [] μ' := fun q z5 => by
              refine ihk (k - 1) (by omega) (l + 1) _ _ μ' (by omega) (by simp (disch := (first | omega | (simp (disch := omega) only [ti_ofInt, ti_addc, ti_subc, ti_mulc, ti_cmul, ti_divc, ti_remc, ti_zero, ti_add, ti_sub, ti_neg, if_lt_ti, if_gt_ti, bP_e0, Classical.not_not, tl_i2l]; omega))) only [ti_ofInt, ti_addc, ti_subc, ti_mulc, ti_cmul, ti_divc, ti_remc, ti_zero, ti_add, ti_sub, ti_neg, if_lt_ti, if_gt_ti, bP_e0, Classical.not_not, tl_i2l]; omega) hS (hR.cg (fun m _ => Iff.rfl) (fun m hm _ => ?_) (Int.le_refl _))
              have := q m hm
              constructor
              · rintro (a | ⟨a, b, c⟩)
                · exact Or.inl a
                · have := this a b
                  exact Or.inr ⟨a, b, by omega⟩
              · rintro (a | ⟨a, b, c⟩)
                · exact Or.inl a
                · exact Or.inr ⟨a, b, by omega⟩
            rcases hmp with ⟨hon, hfl⟩ | ⟨m0, hm0, hon, hU, hA, hRl, hF⟩
            · refine (r_iload C dX12_runs_75 rfl (r_aload_n C dX12_runs_77 rfl rfl (r_getI C dX12_runs_78 fd_X12_243 nM_0 sM_0 rfl (r_icmp_ge C (tgt := 141) dX12_runs_81 rfl (fun c81 => (r_iconst C dX12_runs_141 (r_istore C dX12_runs_142 (by decide) ?_))) (fun c81 => (r_aload_n C dX12_runs_84 rfl rfl (r_getR C dX12_runs_85 fd_X12_114 nM_0 sM_0 rfl (r_iload C dX12_runs_88 rfl (r_iald C dX12_runs_90 nM_37 sM_37 ?_ (r_istore C dX12_runs_91 (by decide) (r_iload C dX12_runs_93 rfl (r_iconst C dX12_runs_95 (r_icmp_eq C (tgt := 135) dX12_runs_96 rfl (fun c96 => (r_iinc C dX12_runs_135 rfl (by decide) (r_goto C (tgt := 75) dX12_runs_138 rfl ?_))) (fun c96 => (r_aload_n C dX12_runs_99 rfl rfl (r_getR C dX12_runs_100 fd_X12_105 nM_0 sM_0 rfl (r_iload C dX12_runs_103 rfl (r_iald C dX12_runs_105 nM_34 sM_34 ?_ (r_iload_n C dX12_runs_106 rfl rfl (r_icmp_eq C (tgt := 113) dX12_runs_107 rfl (fun c107 => (r_aload_n C dX12_runs_113 rfl rfl (r_getR C dX12_runs_114 fd_X12_114 nM_0 sM_0 rfl (r_iload C dX12_runs_117 rfl (r_iconst C dX12_runs_119 (r_iast C dX12_runs_120 nM_37 sM_37 ?_ (r_aload_n C dX12_runs_121 rfl rfl (r_iload C dX12_runs_122 rfl (r_aload_n C dX12_runs_124 rfl rfl (r_getR C dX12_runs_125 fd_X12_54 nM_0 sM_0 rfl (r_iload C dX12_runs_128 rfl (r_iald C dX12_runs_130 nM_17 sM_17 ?_ (r_iload_n C dX12_runs_131 rfl rfl (r_v3N C yv_X12_comesTo lk_X12_365 dX12_runs_132 rfl nM_0 sM_0 rfl (Nat.le_of_ble_eq_true rfl) (ok_X12_comesTo ?_) (fun μ132 h132 => (r_iinc C dX12_runs_135 rfl (by decide) (r_goto C (tgt := 75) dX12_runs_138 rfl ?_))))))))))))))))) (fun c107 => (r_goto C (tgt := 135) dX12_runs_110 rfl (r_iinc C dX12_runs_135 rfl (by decide) (r_goto C (tgt := 75) dX12_runs_138 rfl ?_))))))))))))))))))))))))
              · rw [e19] at c81; omega
              · omega
              · refine skip (fun m hm q1 q2 q3 => ?_) _
                have := (key m hm q1 q2 q3).1
                omega
              all_goals (exfalso; rw [eu, mm] at c96; exact c96 hon)
            · have em : (μ'.1 37 u.toInt.toNat).toInt = (m0 : Int) := by rw [eu]; exact hon
              have emn : (μ'.1 37 u.toInt.toNat).toInt.toNat = m0 := by omega
              have hpm := (hR.1 m0 hm0).2.2.2 hU hA
              have hs := hsn m0 hm0
              have hiv := hI0.1 m0 hm0
              refine (r_iload C dX12_runs_75 rfl (r_aload_n C dX12_runs_77 rfl rfl (r_getI C dX12_runs_78 fd_X12_243 nM_0 sM_0 rfl (r_icmp_ge C (tgt := 141) dX12_runs_81 rfl (fun c81 => (r_iconst C dX12_runs_141 (r_istore C dX12_runs_142 (by decide) ?_))) (fun c81 => (r_aload_n C dX12_runs_84 rfl rfl (r_getR C dX12_runs_85 fd_X12_114 nM_0 sM_0 rfl (r_iload C dX12_runs_88 rfl (r_iald C dX12_runs_90 nM_37 sM_37 ?_ (r_istore C dX12_runs_91 (by decide) (r_iload C dX12_runs_93 rfl (r_iconst C dX12_runs_95 (r_icmp_eq C (tgt := 135) dX12_runs_96 rfl (fun c96 => (r_iinc C dX12_runs_135 rfl (by decide) (r_goto C (tgt := 75) dX12_runs_138 rfl ?_))) (fun c96 => (r_aload_n C dX12_runs_99 rfl rfl (r_getR C dX12_runs_100 fd_X12_105 nM_0 sM_0 rfl (r_iload C dX12_runs_103 rfl (r_iald C dX12_runs_105 nM_34 sM_34 ?_ (r_iload_n C dX12_runs_106 rfl rfl (r_icmp_eq C (tgt := 113) dX12_runs_107 rfl (fun c107 => (r_aload_n C dX12_runs_113 rfl rfl (r_getR C dX12_runs_114 fd_X12_114 nM_0 sM_0 rfl (r_iload C dX12_runs_117 rfl (r_iconst C dX12_runs_119 (r_iast C dX12_runs_120 nM_37 sM_37 ?_ (r_aload_n C dX12_runs_121 rfl rfl (r_iload C dX12_runs_122 rfl (r_aload_n C dX12_runs_124 rfl rfl (r_getR C dX12_runs_125 fd_X12_54 nM_0 sM_0 rfl (r_iload C dX12_runs_128 rfl (r_iald C dX12_runs_130 nM_17 sM_17 ?_ (r_iload_n C dX12_runs_131 rfl rfl (r_v3N C yv_X12_comesTo lk_X12_365 dX12_runs_132 rfl nM_0 sM_0 rfl (Nat.le_of_ble_eq_true rfl) (ok_X12_comesTo ?_) (fun μ132 h132 => (r_iinc C dX12_runs_135 rfl (by decide) (r_goto C (tgt := 75) dX12_runs_138 rfl ?_))))))))))))))))) (fun c107 => (r_goto C (tgt := 135) dX12_runs_110 rfl (r_iinc C dX12_runs_135 rfl (by decide) (r_goto C (tgt := 75) dX12_runs_138 rfl ?_))))))))))))))))))))))))
              · rw [e19] at c81; omega
              · omega
              · rw [em, mm] at c96; omega
              · omega
              · omega
              · omega
              · rw [emn]
                simp (disch := decide) only [up_same, up_neo, up_nek, up_2]
                rw [e17]
                have e27 : μ'.1 27 m0 = μ.1 27 m0 := hS 27 m0 (by omega) (by omega)
                rw [e27]
                refine ⟨?_, by omega, by omega, by omega⟩
                have q := (mPsame_all (show mPsame μ (up μ' 37 u.toInt.toNat (Int32.ofInt (-1))) from fun a b n1 n2 => by rw [up_neo _ _ (by omega)]; exact hS a b n1 n2)).2.2.1
                exact q hl
              · rw [emn, hv] at c107
                rw [emn] at h132
                obtain ⟨μ1, hμ1⟩ : ∃ μ1, μ1 = up μ' 37 u.toInt.toNat (Int32.ofInt (-1)) := ⟨_, rfl⟩
                rw [← hμ1] at h132
                have hS1 : mPsame μ μ1 := fun a b n1 n2 => by rw [hμ1, up_neo _ _ (by omega)]; exact hS a b n1 n2
                have hall1 := mPsame_all hS1
                have f1 : ∀ a b : Nat, a ≠ 37 → μ1.1 a b = μ'.1 a b := fun a b q => by rw [hμ1, up_neo _ _ q]
                have e17' : μ1.1 17 u.toInt.toNat = μ.1 17 l := by rw [f1 17 _ (by decide)]; exact e17
                have e27 : μ1.1 27 m0 = μ.1 27 m0 := hS1 27 m0 (by omega) (by omega)
                have hps := h132.ps
                obtain ⟨g1, g2, g3, g4, g5⟩ := h132
                rw [e17'] at g2 g4 g5
                rw [e27] at g4 g5
                rw [hall1.2.2.2.2.2, hall1.2.2.2.1] at g5
                rw [hv] at g3
                have hSt : sS (pRun d t) m0 = (t : Int) := by rw [← hpm.2.2.1]; exact c107
                have hGp := hpm.1
                have hk1 := (hs.2.1 (sG (pRun d t) m0 - 1) (by have := hiv.1; omega)).2.2.1
                rw [show sG (pRun d t) m0 - 1 + 1 = sG (pRun d t) m0 by omega, hRl] at hk1
                have est : (μ.1 17 l).toInt = (msnm μ m0 (sG (pRun d t) m0) : Int) := by rw [← hk1]; exact hst.2.2.2.symm
                have hgz := (hs.1 (sG (pRun d t) m0) hiv.1).1
                have egl := hs.2.2.2.2.2.1
                refine ihk (k - 1) (by omega) (l + 1) _ _ _ (by omega) (by simp (disch := (first | omega | (simp (disch := omega) only [ti_ofInt, ti_addc, ti_subc, ti_mulc, ti_cmul, ti_divc, ti_remc, ti_zero, ti_add, ti_sub, ti_neg, if_lt_ti, if_gt_ti, bP_e0, Classical.not_not, tl_i2l]; omega))) only [ti_ofInt, ti_addc, ti_subc, ti_mulc, ti_cmul, ti_divc, ti_remc, ti_zero, ti_add, ti_sub, ti_neg, if_lt_ti, if_gt_ti, bP_e0, Classical.not_not, tl_i2l]; omega) (hS1.tr hps) ?_
                refine hR.land hm0 (fun m hm hne => Iff.rfl) (fun m hm hne => ?_) hU (Or.inr ⟨hSt, hGp, by omega⟩) (fun a b n1 n2 n3 n4 => by rw [g1 a b (by omega) (Or.inr n4), f1 a b n3]) (by rw [g1 36 m0 (by decide) (Or.inl (by decide)), f1 36 _ (by decide)]) ⟨by rw [g2, est], by rw [g3, hSt], fun q => ?_, fun q => ?_⟩ (fun j hj => ?_) (fun m hm q1 q2 => (hG m hm ((hR.1 m hm).2.2.2 q1 q2).1).2) ⟨by rw [g1 0 45 (by decide) (Or.inl (by decide)), f1 0 45 (by decide)], fun j => by rw [g1 38 j (by decide) (Or.inl (by decide)), f1 38 j (by decide)]⟩
                · have nk : sS (pRun d t) m = (t : Int) → 0 < sG (pRun d t) m → ¬ pR d m (sG (pRun d t) m - 1) = l := fun a b c => by
                    have := (key m hm a b c).1
                    omega
                  constructor
                  · rintro (a | ⟨a, b, c⟩)
                    · exact Or.inl a
                    · have := nk a b
                      exact Or.inr ⟨a, b, by omega⟩
                  · rintro (a | ⟨a, b, c⟩)
                    · exact Or.inl a
                    · exact Or.inr ⟨a, b, by omega⟩
                · rw [g4 (by have := hgz.mpr q; omega), hSt, hv]
                · have g6 := g5 (fun z => by have := hgz.mp (by omega); omega)
                  refine ⟨by rw [g6.1, f1 35 _ (by decide)]; exact hpm.2.2.2.1, ?_⟩
                  rw [g6.2, est, Int.toNat_natCast]
                  exact (hs.2.1 _ q).1
                · by_cases e : j = l
                  · subst e
                    refine Or.inr ⟨?_, hon, by omega⟩
                    rw [g1 37 j (by decide) (Or.inl (by decide)), hμ1, eu, up_same, mm]
                  · refine Or.inl ⟨?_, fun q => ?_⟩
                    · rw [g1 37 j (by decide) (Or.inl (by decide)), hμ1, eu, up_nek _ _ e]
                    · rcases hR.2.1 j hj with ⟨a, -⟩ | ⟨m, a, b, c, f, g, -⟩
                      · omega
                      · have em2 : m = m0 := by omega
                        subst em2
                        exact e (by rw [← g, hRl])
              · rw [emn, hv] at c107
                refine skip (fun m hm q1 q2 q3 => ?_) _
                have q4 := key m hm q1 q2 q3
                have em2 : m = m0 := by omega
                subst em2
                exact c107 q4.2
          · have el : l = pNl d := by omega
            refine (r_iload C dX12_runs_75 rfl (r_aload_n C dX12_runs_77 rfl rfl (r_getI C dX12_runs_78 fd_X12_243 nM_0 sM_0 rfl (r_icmp_ge C (tgt := 141) dX12_runs_81 rfl (fun c81 => (r_iconst C dX12_runs_141 (r_istore C dX12_runs_142 (by decide) ?_))) (fun c81 => (r_aload_n C dX12_runs_84 rfl rfl (r_getR C dX12_runs_85 fd_X12_114 nM_0 sM_0 rfl (r_iload C dX12_runs_88 rfl (r_iald C dX12_runs_90 nM_37 sM_37 ?_ (r_istore C dX12_runs_91 (by decide) (r_iload C dX12_runs_93 rfl (r_iconst C dX12_runs_95 (r_icmp_eq C (tgt := 135) dX12_runs_96 rfl (fun c96 => (r_iinc C dX12_runs_135 rfl (by decide) (r_goto C (tgt := 75) dX12_runs_138 rfl ?_))) (fun c96 => (r_aload_n C dX12_runs_99 rfl rfl (r_getR C dX12_runs_100 fd_X12_105 nM_0 sM_0 rfl (r_iload C dX12_runs_103 rfl (r_iald C dX12_runs_105 nM_34 sM_34 ?_ (r_iload_n C dX12_runs_106 rfl rfl (r_icmp_eq C (tgt := 113) dX12_runs_107 rfl (fun c107 => (r_aload_n C dX12_runs_113 rfl rfl (r_getR C dX12_runs_114 fd_X12_114 nM_0 sM_0 rfl (r_iload C dX12_runs_117 rfl (r_iconst C dX12_runs_119 (r_iast C dX12_runs_120 nM_37 sM_37 ?_ (r_aload_n C dX12_runs_121 rfl rfl (r_iload C dX12_runs_122 rfl (r_aload_n C dX12_runs_124 rfl rfl (r_getR C dX12_runs_125 fd_X12_54 nM_0 sM_0 rfl (r_iload C dX12_runs_128 rfl (r_iald C dX12_runs_130 nM_17 sM_17 ?_ (r_iload_n C dX12_runs_131 rfl rfl (r_v3N C yv_X12_comesTo lk_X12_365 dX12_runs_132 rfl nM_0 sM_0 rfl (Nat.le_of_ble_eq_true rfl) (ok_X12_comesTo ?_) (fun μ132 h132 => (r_iinc C dX12_runs_135 rfl (by decide) (r_goto C (tgt := 75) dX12_runs_138 rfl ?_))))))))))))))))) (fun c107 => (r_goto C (tgt := 135) dX12_runs_110 rfl (r_iinc C dX12_runs_135 rfl (by decide) (r_goto C (tgt := 75) dX12_runs_138 rfl ?_))))))))))))))))))))))))
            · refine lB htx (pNm d) 0 _ _ μ' (by omega) (by simp (disch := (first | omega | (simp (disch := omega) only [ti_ofInt, ti_addc, ti_subc, ti_mulc, ti_cmul, ti_divc, ti_remc, ti_zero, ti_add, ti_sub, ti_neg, if_lt_ti, if_gt_ti, bP_e0, Classical.not_not, tl_i2l]; omega))) only [ti_ofInt, ti_addc, ti_subc, ti_mulc, ti_cmul, ti_divc, ti_remc, ti_zero, ti_add, ti_sub, ti_neg, if_lt_ti, if_gt_ti, bP_e0, Classical.not_not, tl_i2l]; rfl) hS (hR.cg (fun m hm => by omega) (fun m hm hU => ?_) (Int.le_refl _))
              constructor
              · intro a
                rcases (show sS (pRun d t) m < (t : Int) ∨ sS (pRun d t) m = (t : Int) by omega) with b | b
                · exact Or.inl b
                · have hg : 0 < sG (pRun d t) m := by
                    rcases Nat.eq_zero_or_pos (sG (pRun d t) m) with q | q
                    · have := (hI0.1 m hm).2.1 q
                      omega
                    · exact q
                  exact Or.inr ⟨b, hg, by have := (hG m hm hg).2; omega⟩
              · rintro (a | ⟨a, -, -⟩) <;> omega
            all_goals (exfalso; rw [e19] at c81; omega)
      by_cases htx : (t : Int) ≤ x.toInt
      · refine (r_iload_n C dX12_runs_67 rfl rfl (r_iload_n C dX12_runs_68 rfl rfl (r_icmp_gt C (tgt := 324) dX12_runs_69 rfl (fun c69 => (r_ret C dX12_runs_324 ?_)) (fun c69 => (r_iconst C dX12_runs_72 (r_istore C dX12_runs_73 (by decide) ?_))))))
        · exfalso; omega
        · refine lA htx (pNl d) 0 _ _ μ' (by omega) (by simp (disch := (first | omega | (simp (disch := omega) only [ti_ofInt, ti_addc, ti_subc, ti_mulc, ti_cmul, ti_divc, ti_remc, ti_zero, ti_add, ti_sub, ti_neg, if_lt_ti, if_gt_ti, bP_e0, Classical.not_not, tl_i2l]; omega))) only [ti_ofInt, ti_addc, ti_subc, ti_mulc, ti_cmul, ti_divc, ti_remc, ti_zero, ti_add, ti_sub, ti_neg, if_lt_ti, if_gt_ti, bP_e0, Classical.not_not, tl_i2l]; rfl) hS (hR.cg (fun m _ => Iff.rfl) (fun m hm _ => ?_) (by omega))
          omega
      · have et : t = x.toInt.toNat + 1 := by omega
        subst et
        refine (r_iload_n C dX12_runs_67 rfl rfl (r_iload_n C dX12_runs_68 rfl rfl (r_icmp_gt C (tgt := 324) dX12_runs_69 rfl (fun c69 => (r_ret C dX12_runs_324 ?_)) (fun c69 => (r_iconst C dX12_runs_72 (r_istore C dX12_runs_73 (by decide) ?_))))))
        · refine ⟨hS, hR.cg (fun m _ => ?_) (fun m _ _ => ?_) (by omega)⟩
          · omega
          · omega
        · exfalso; omega
  have l2 : ∀ (k l : Nat) (v : Int32) (z4 z5 : Option Value) (μ' : kMem), l + k = pNl d → v.toInt = l → mPsame μ μ' → (μ'.1 0 45).toInt = 0 → (∀ m, m < pNm d → (μ'.1 32 m).toInt = -1 ∧ (μ'.1 35 m).toInt = -1 ∧ (μ'.1 36 m).toInt = 0) → (∀ j, j < l → (μ'.1 37 j).toInt = -1) → J 44 [some (.ref 0), some (.int x), some (.int y), some (.int v), z4, z5] [] μ' := by
    intro k
    induction k using Nat.strongRecOn with
    | ind k ih =>
      intro l v z4 z5 μ' hk hv hS h45 hM hL
      have ev : v.toInt.toNat = l := by omega
      have e19 : μ'.1 0 19 = μ.1 0 19 := hS 0 19 (by omega) (by omega)
      refine (r_iload_n C dX12_runs_44 rfl rfl (r_aload_n C dX12_runs_45 rfl rfl (r_getI C dX12_runs_46 fd_X12_243 nM_0 sM_0 rfl (r_icmp_ge C (tgt := 65) dX12_runs_49 rfl (fun c49 => (r_iconst C dX12_runs_65 (r_istore_n C dX12_runs_66 rfl (by decide) ?_))) (fun c49 => (r_aload_n C dX12_runs_52 rfl rfl (r_getR C dX12_runs_53 fd_X12_114 nM_0 sM_0 rfl (r_iload_n C dX12_runs_56 rfl rfl (r_iconst C dX12_runs_57 (r_iast C dX12_runs_58 nM_37 sM_37 ?_ (r_iinc C dX12_runs_59 rfl (by decide) (r_goto C (tgt := 44) dX12_runs_62 rfl ?_))))))))))))
      · rw [e19] at c49
        refine main (x.toInt.toNat + 1) 0 _ _ _ μ' (by omega) (by simp (disch := (first | omega | (simp (disch := omega) only [ti_ofInt, ti_addc, ti_subc, ti_mulc, ti_cmul, ti_divc, ti_remc, ti_zero, ti_add, ti_sub, ti_neg, if_lt_ti, if_gt_ti, bP_e0, Classical.not_not, tl_i2l]; omega))) only [ti_ofInt, ti_addc, ti_subc, ti_mulc, ti_cmul, ti_divc, ti_remc, ti_zero, ti_add, ti_sub, ti_neg, if_lt_ti, if_gt_ti, bP_e0, Classical.not_not, tl_i2l]; rfl) hS ⟨fun m hm => ?_, fun j hj => Or.inl ⟨hL j (by omega), ?_⟩, fun j q => ⟨?_, fun i hi => ?_⟩⟩
        · obtain ⟨a, b, c⟩ := hM m hm
          have hT := (hd.2.2 m hm).2.1
          refine ⟨?_, fun _ => ⟨a, b⟩, fun q => ?_, fun q => ?_⟩
          · rw [c]
            show (0 : Int) = ((0 : Nat) : Int) * pW d m
            omega
          · exfalso; omega
          · exfalso; omega
        · show (0 : Int) ≤ _
          omega
        · rw [h45]
          rfl
        · exact absurd hi (Nat.not_lt_zero _)
      · rw [e19] at c49; omega
      · rw [e19] at c49
        refine ih (k - 1) (by omega) (l + 1) _ _ _ _ (by omega) (by simp (disch := (first | omega | (simp (disch := omega) only [ti_ofInt, ti_addc, ti_subc, ti_mulc, ti_cmul, ti_divc, ti_remc, ti_zero, ti_add, ti_sub, ti_neg, if_lt_ti, if_gt_ti, bP_e0, Classical.not_not, tl_i2l]; omega))) only [ti_ofInt, ti_addc, ti_subc, ti_mulc, ti_cmul, ti_divc, ti_remc, ti_zero, ti_add, ti_sub, ti_neg, if_lt_ti, if_gt_ti, bP_e0, Classical.not_not, tl_i2l]; omega) (fun a b n1 n2 => by rw [up_neo _ _ (by omega)]; exact hS a b n1 n2) (by simp (disch := decide) only [up_same, up_neo, up_nek, up_2]; exact h45) (fun m hm => by simp (disch := decide) only [up_same, up_neo, up_nek, up_2]; exact hM m hm) (fun j hj => ?_)
        rw [ev]
        by_cases e : j = l
        · subst e
          rw [up_same, mm]
        · rw [up_nek _ _ e]
          exact hL j (by omega)
  have l1 : ∀ (k m : Nat) (v : Int32) (z4 z5 : Option Value) (μ' : kMem), m + k = pNm d → v.toInt = m → mPsame μ μ' → (μ'.1 0 45).toInt = 0 → (∀ j, j < m → (μ'.1 32 j).toInt = -1 ∧ (μ'.1 35 j).toInt = -1 ∧ (μ'.1 36 j).toInt = 0) → J 7 [some (.ref 0), some (.int x), some (.int y), some (.int v), z4, z5] [] μ' := by
    intro k
    induction k using Nat.strongRecOn with
    | ind k ih =>
      intro m v z4 z5 μ' hk hv hS h45 hM
      have ev : v.toInt.toNat = m := by omega
      have e36 : μ'.1 0 36 = μ.1 0 36 := hS 0 36 (by omega) (by omega)
      have hm20 : pNm d ≤ 20 := hd.1
      refine (r_iload_n C dX12_runs_7 rfl rfl (r_aload_n C dX12_runs_8 rfl rfl (r_getI C dX12_runs_9 fd_X12_359 nM_0 sM_0 rfl (r_icmp_ge C (tgt := 42) dX12_runs_12 rfl (fun c12 => (r_iconst C dX12_runs_42 (r_istore_n C dX12_runs_43 rfl (by decide) ?_))) (fun c12 => (r_aload_n C dX12_runs_15 rfl rfl (r_getR C dX12_runs_16 fd_X12_99 nM_0 sM_0 rfl (r_iload_n C dX12_runs_19 rfl rfl (r_iconst C dX12_runs_20 (r_iast C dX12_runs_21 nM_32 sM_32 ?_ (r_aload_n C dX12_runs_22 rfl rfl (r_getR C dX12_runs_23 fd_X12_108 nM_0 sM_0 rfl (r_iload_n C dX12_runs_26 rfl rfl (r_iconst C dX12_runs_27 (r_iast C dX12_runs_28 nM_35 sM_35 ?_ (r_aload_n C dX12_runs_29 rfl rfl (r_getR C dX12_runs_30 fd_X12_111 nM_0 sM_0 rfl (r_iload_n C dX12_runs_33 rfl rfl (r_iconst C dX12_runs_34 (r_iast C dX12_runs_35 nM_36 sM_36 ?_ (r_iinc C dX12_runs_36 rfl (by decide) (r_goto C (tgt := 7) dX12_runs_39 rfl ?_))))))))))))))))))))))
      · rw [e36] at c12
        exact l2 (pNl d) 0 _ _ _ μ' (by omega) (by simp (disch := (first | omega | (simp (disch := omega) only [ti_ofInt, ti_addc, ti_subc, ti_mulc, ti_cmul, ti_divc, ti_remc, ti_zero, ti_add, ti_sub, ti_neg, if_lt_ti, if_gt_ti, bP_e0, Classical.not_not, tl_i2l]; omega))) only [ti_ofInt, ti_addc, ti_subc, ti_mulc, ti_cmul, ti_divc, ti_remc, ti_zero, ti_add, ti_sub, ti_neg, if_lt_ti, if_gt_ti, bP_e0, Classical.not_not, tl_i2l]; rfl) hS h45 (fun j hj => hM j (by omega)) (fun j hj => absurd hj (Nat.not_lt_zero _))
      · rw [e36] at c12; omega
      · rw [e36] at c12; omega
      · rw [e36] at c12; omega
      · rw [e36] at c12
        refine ih (k - 1) (by omega) (m + 1) _ _ _ _ (by omega) (by simp (disch := (first | omega | (simp (disch := omega) only [ti_ofInt, ti_addc, ti_subc, ti_mulc, ti_cmul, ti_divc, ti_remc, ti_zero, ti_add, ti_sub, ti_neg, if_lt_ti, if_gt_ti, bP_e0, Classical.not_not, tl_i2l]; omega))) only [ti_ofInt, ti_addc, ti_subc, ti_mulc, ti_cmul, ti_divc, ti_remc, ti_zero, ti_add, ti_sub, ti_neg, if_lt_ti, if_gt_ti, bP_e0, Classical.not_not, tl_i2l]; omega) (fun a b n1 n2 => by rw [up_neo _ _ (by omega), up_neo _ _ (by omega), up_neo _ _ (by omega)]; exact hS a b n1 n2) (by simp (disch := decide) only [up_same, up_neo, up_nek, up_2]; exact h45) (fun j hj => ?_)
        rw [ev]
        by_cases e : j = m
        · subst e
          simp (disch := decide) only [up_same, up_neo, up_nek, up_2]
          exact ⟨mm, mm, z0⟩
        · rw [up_nek _ _ e, up_nek _ _ e, up_nek _ _ e, up_nek _ _ e, up_nek _ _ e, up_nek _ _ e, up_nek _ _ e, up_nek _ _ e, up_nek _ _ e]
          exact hM j (by omega)
  refine (r_aload_n C dX12_runs_0 rfl rfl (r_iconst C dX12_runs_1 (r_putI C dX12_runs_2 fw_X12_362 nM_0 sM_0 rfl (r_iconst C dX12_runs_5 (r_istore_n C dX12_runs_6 rfl (by decide) ?_)))))
  refine l1 (pNm d) 0 _ _ _ _ (by omega) (by simp (disch := (first | omega | (simp (disch := omega) only [ti_ofInt, ti_addc, ti_subc, ti_mulc, ti_cmul, ti_divc, ti_remc, ti_zero, ti_add, ti_sub, ti_neg, if_lt_ti, if_gt_ti, bP_e0, Classical.not_not, tl_i2l]; omega))) only [ti_ofInt, ti_addc, ti_subc, ti_mulc, ti_cmul, ti_divc, ti_remc, ti_zero, ti_add, ti_sub, ti_neg, if_lt_ti, if_gt_ti, bP_e0, Classical.not_not, tl_i2l]; rfl) (fun a b n1 n2 => up_ne _ _ n1) (by rw [up_same]; exact z0) (fun j hj => absurd hj (Nat.not_lt_zero _))

