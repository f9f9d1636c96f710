/-! ===== the law: its thirty cases ===== -/
theorem l_in {v : Int32} {Ls : Nat} {k : Int} (hv : 0 ≤ v.toInt ∧ v.toInt + 6 ≤ (Ls : Int)) (hL : Ls ≤ 3072) (hk : 0 ≤ k ∧ k ≤ 5) : 0 ≤ (v + Int32.ofInt k).toInt ∧ (v + Int32.ofInt k).toInt < (Ls : Int) := by
  rw [ti_addc (by omega)]
  omega
set_option maxRecDepth 20000 in
theorem lc_feed {Ls : Nat} {xs : Nat → Int32} {J : lJt} (C : lR Ls xs J) {v : Int32} {κ μ : kMem} (h : Rl κ μ) (hv : 0 ≤ v.toInt ∧ v.toInt + 6 ≤ (Ls : Int)) (hL : Ls ≤ 3072) (nx : ∀ κ1 μ1, Rl κ1 μ1 → J 1178 [some (.ref 0), some (.ref 1), some (.ref 2), some (.int v)] [] κ1 μ1) : J 168 [some (.ref 0), some (.ref 1), some (.ref 2), some (.int v)] [] κ μ := by
  have ri := h.ri
  obtain ⟨⟨t1, t2, -, -⟩, ⟨-, dd, dok, kc, mc⟩, ⟨-, mhd, -, -⟩, ⟨ln, mln, -, -, -⟩, ⟨tp, mtp, -, -⟩, ⟨ps, mps, -, -⟩, ⟨cl, mcl, -, -, -⟩⟩ := id h
  refine l_aload_n C dL_law_168 (i := 1) rfl rfl ?_
  refine l_aload_n C dL_law_169 (i := 0) rfl rfl ?_
  refine l_iload_n C dL_law_170 (i := 3) rfl rfl ?_
  refine l_iconst C dL_law_171 ?_
  refine l_iadd C dL_law_172 ?_
  refine l_ald C dL_law_173 (l_in hv hL (by decide)) ?_
  refine l_aload_n C dL_law_174 (i := 0) rfl rfl ?_
  refine l_iload_n C dL_law_175 (i := 3) rfl rfl ?_
  refine l_iconst C dL_law_176 ?_
  refine l_iadd C dL_law_177 ?_
  refine l_ald C dL_law_178 (l_in hv hL (by decide)) ?_
  refine l_aload_n C dL_law_179 (i := 0) rfl rfl ?_
  refine l_iload_n C dL_law_180 (i := 3) rfl rfl ?_
  refine l_iconst C dL_law_181 ?_
  refine l_iadd C dL_law_182 ?_
  refine l_ald C dL_law_183 (l_in hv hL (by decide)) ?_
  refine l_aload_n C dL_law_184 (i := 0) rfl rfl ?_
  refine l_iload_n C dL_law_185 (i := 3) rfl rfl ?_
  refine l_iconst C dL_law_186 ?_
  refine l_iadd C dL_law_187 ?_
  refine l_ald C dL_law_188 (l_in hv hL (by decide)) ?_
  refine l_aload_n C dL_law_189 (i := 0) rfl rfl ?_
  refine l_iload_n C dL_law_190 (i := 3) rfl rfl ?_
  refine l_iconst C dL_law_191 ?_
  refine l_iadd C dL_law_192 ?_
  refine l_ald C dL_law_193 (l_in hv hL (by decide)) ?_
  refine l_callK C yv_X11_feed rfl (tb2 118 rfl rfl) rfl (As := [xs (v + Int32.ofInt 1).toNatClampNeg, xs (v + Int32.ofInt 2).toNatClampNeg, xs (v + Int32.ofInt 3).toNatClampNeg, xs (v + Int32.ofInt 4).toNatClampNeg, xs (v + Int32.ofInt 5).toNatClampNeg]) (rest := []) rfl (Nat.le_of_ble_eq_true rfl) (ok_X11_feed t1.1) dL_law_194 rfl (fun r κ1 hk => ?_)
  refine l_aload_n C dL_law_197 (i := 2) rfl rfl ?_
  refine l_aload_n C dL_law_198 (i := 0) rfl rfl ?_
  refine l_iload_n C dL_law_199 (i := 3) rfl rfl ?_
  refine l_iconst C dL_law_200 ?_
  refine l_iadd C dL_law_201 ?_
  refine l_ald C dL_law_202 (l_in hv hL (by decide)) ?_
  refine l_aload_n C dL_law_203 (i := 0) rfl rfl ?_
  refine l_iload_n C dL_law_204 (i := 3) rfl rfl ?_
  refine l_iconst C dL_law_205 ?_
  refine l_iadd C dL_law_206 ?_
  refine l_ald C dL_law_207 (l_in hv hL (by decide)) ?_
  refine l_aload_n C dL_law_208 (i := 0) rfl rfl ?_
  refine l_iload_n C dL_law_209 (i := 3) rfl rfl ?_
  refine l_iconst C dL_law_210 ?_
  refine l_iadd C dL_law_211 ?_
  refine l_ald C dL_law_212 (l_in hv hL (by decide)) ?_
  refine l_aload_n C dL_law_213 (i := 0) rfl rfl ?_
  refine l_iload_n C dL_law_214 (i := 3) rfl rfl ?_
  refine l_iconst C dL_law_215 ?_
  refine l_iadd C dL_law_216 ?_
  refine l_ald C dL_law_217 (l_in hv hL (by decide)) ?_
  refine l_aload_n C dL_law_218 (i := 0) rfl rfl ?_
  refine l_iload_n C dL_law_219 (i := 3) rfl rfl ?_
  refine l_iconst C dL_law_220 ?_
  refine l_iadd C dL_law_221 ?_
  refine l_ald C dL_law_222 (l_in hv hL (by decide)) ?_
  refine l_callM C yv_X12_feed rfl (tb6 36 rfl rfl) rfl (As := [xs (v + Int32.ofInt 1).toNatClampNeg, xs (v + Int32.ofInt 2).toNatClampNeg, xs (v + Int32.ofInt 3).toNatClampNeg, xs (v + Int32.ofInt 4).toNatClampNeg, xs (v + Int32.ofInt 5).toNatClampNeg]) (rest := [.int r]) rfl (Nat.le_of_ble_eq_true rfl) (ok_X12_feed t2.1) dL_law_223 rfl (fun r1 μ1 hm => ?_)
  obtain ⟨e, h9⟩ := st_feed h hk hm
  subst e
  refine l_eq C dL_law_226 (tgt := 1178) (by decide) ?_
  exact nx _ _ h9
set_option maxRecDepth 20000 in
theorem lc_end {Ls : Nat} {xs : Nat → Int32} {J : lJt} (C : lR Ls xs J) {v : Int32} {κ μ : kMem} (h : Rl κ μ) (hv : 0 ≤ v.toInt ∧ v.toInt + 6 ≤ (Ls : Int)) (hL : Ls ≤ 3072) (nx : ∀ κ1 μ1, Rl κ1 μ1 → J 1178 [some (.ref 0), some (.ref 1), some (.ref 2), some (.int v)] [] κ1 μ1) : J 231 [some (.ref 0), some (.ref 1), some (.ref 2), some (.int v)] [] κ μ := by
  refine l_aload_n C dL_law_231 (i := 1) rfl rfl ?_
  refine l_aload_n C dL_law_232 (i := 0) rfl rfl ?_
  refine l_iload_n C dL_law_233 (i := 3) rfl rfl ?_
  refine l_iconst C dL_law_234 ?_
  refine l_iadd C dL_law_235 ?_
  refine l_ald C dL_law_236 (l_in hv hL (by decide)) ?_
  refine l_callK C yv_X11_end rfl (tb2 134 rfl rfl) rfl (As := [xs (v + Int32.ofInt 1).toNatClampNeg]) (rest := []) rfl (Nat.le_of_ble_eq_true rfl) (ok_X11_end) dL_law_237 rfl (fun r κ1 hk => ?_)
  refine l_aload_n C dL_law_240 (i := 2) rfl rfl ?_
  refine l_aload_n C dL_law_241 (i := 0) rfl rfl ?_
  refine l_iload_n C dL_law_242 (i := 3) rfl rfl ?_
  refine l_iconst C dL_law_243 ?_
  refine l_iadd C dL_law_244 ?_
  refine l_ald C dL_law_245 (l_in hv hL (by decide)) ?_
  refine l_callM C yv_X12_end rfl (tb6 44 rfl rfl) rfl (As := [xs (v + Int32.ofInt 1).toNatClampNeg]) (rest := [.int r]) rfl (Nat.le_of_ble_eq_true rfl) (ok_X12_end) dL_law_246 rfl (fun r1 μ1 hm => ?_)
  obtain ⟨e, h9⟩ := st_end h hk hm
  subst e
  refine l_eq C dL_law_249 (tgt := 1178) (by decide) ?_
  exact nx _ _ h9
set_option maxRecDepth 20000 in
theorem lc_fault {Ls : Nat} {xs : Nat → Int32} {J : lJt} (C : lR Ls xs J) {v : Int32} {κ μ : kMem} (h : Rl κ μ) (hv : 0 ≤ v.toInt ∧ v.toInt + 6 ≤ (Ls : Int)) (hL : Ls ≤ 3072) (nx : ∀ κ1 μ1, Rl κ1 μ1 → J 1178 [some (.ref 0), some (.ref 1), some (.ref 2), some (.int v)] [] κ1 μ1) : J 254 [some (.ref 0), some (.ref 1), some (.ref 2), some (.int v)] [] κ μ := by
  have ri := h.ri
  obtain ⟨⟨t1, t2, -, -⟩, ⟨-, dd, dok, kc, mc⟩, ⟨-, mhd, -, -⟩, ⟨ln, mln, -, -, -⟩, ⟨tp, mtp, -, -⟩, ⟨ps, mps, -, -⟩, ⟨cl, mcl, -, -, -⟩⟩ := id h
  refine l_aload_n C dL_law_254 (i := 1) rfl rfl ?_
  refine l_callK C yv_X11_fault rfl (tb2 142 rfl rfl) rfl (As := []) (rest := []) rfl (Nat.le_of_ble_eq_true rfl) (ok_X11_fault t1) dL_law_255 rfl (fun r κ1 hk => ?_)
  refine l_aload_n C dL_law_258 (i := 2) rfl rfl ?_
  refine l_callM C yv_X12_fault rfl (tb6 51 rfl rfl) rfl (As := []) (rest := [.int r]) rfl (Nat.le_of_ble_eq_true rfl) (ok_X12_fault t2) dL_law_259 rfl (fun r1 μ1 hm => ?_)
  obtain ⟨e, h9⟩ := st_fault h hk hm
  subst e
  refine l_eq C dL_law_262 (tgt := 1178) (by decide) ?_
  exact nx _ _ h9
set_option maxRecDepth 20000 in
theorem lc_code {Ls : Nat} {xs : Nat → Int32} {J : lJt} (C : lR Ls xs J) {v : Int32} {κ μ : kMem} (h : Rl κ μ) (hv : 0 ≤ v.toInt ∧ v.toInt + 6 ≤ (Ls : Int)) (hL : Ls ≤ 3072) (nx : ∀ κ1 μ1, Rl κ1 μ1 → J 1178 [some (.ref 0), some (.ref 1), some (.ref 2), some (.int v)] [] κ1 μ1) : J 267 [some (.ref 0), some (.ref 1), some (.ref 2), some (.int v)] [] κ μ := by
  have ri := h.ri
  obtain ⟨⟨t1, t2, -, -⟩, ⟨-, dd, dok, kc, mc⟩, ⟨-, mhd, -, -⟩, ⟨ln, mln, -, -, -⟩, ⟨tp, mtp, -, -⟩, ⟨ps, mps, -, -⟩, ⟨cl, mcl, -, -, -⟩⟩ := id h
  refine l_aload_n C dL_law_267 (i := 1) rfl rfl ?_
  refine l_callK C yv_X11_code rfl (tb3 48 rfl rfl) rfl (As := []) (rest := []) rfl (Nat.le_of_ble_eq_true rfl) (ok_X11_code t1) dL_law_268 rfl (fun r κ1 hk => ?_)
  refine l_aload_n C dL_law_271 (i := 2) rfl rfl ?_
  refine l_callM C yv_X12_code rfl (tb6 104 rfl rfl) rfl (As := []) (rest := [.int r]) rfl (Nat.le_of_ble_eq_true rfl) (ok_X12_code t2) dL_law_272 rfl (fun r1 μ1 hm => ?_)
  obtain ⟨e, h9⟩ := st_code h hk hm
  subst e
  refine l_eq C dL_law_275 (tgt := 1178) (by decide) ?_
  exact nx _ _ h9
set_option maxRecDepth 20000 in
theorem lc_marks {Ls : Nat} {xs : Nat → Int32} {J : lJt} (C : lR Ls xs J) {v : Int32} {κ μ : kMem} (h : Rl κ μ) (hv : 0 ≤ v.toInt ∧ v.toInt + 6 ≤ (Ls : Int)) (hL : Ls ≤ 3072) (nx : ∀ κ1 μ1, Rl κ1 μ1 → J 1178 [some (.ref 0), some (.ref 1), some (.ref 2), some (.int v)] [] κ1 μ1) : J 280 [some (.ref 0), some (.ref 1), some (.ref 2), some (.int v)] [] κ μ := by
  refine l_aload_n C dL_law_280 (i := 1) rfl rfl ?_
  refine l_aload_n C dL_law_281 (i := 0) rfl rfl ?_
  refine l_iload_n C dL_law_282 (i := 3) rfl rfl ?_
  refine l_iconst C dL_law_283 ?_
  refine l_iadd C dL_law_284 ?_
  refine l_ald C dL_law_285 (l_in hv hL (by decide)) ?_
  refine l_callK C yv_X11_marks rfl (tb3 57 rfl rfl) rfl (As := [xs (v + Int32.ofInt 1).toNatClampNeg]) (rest := []) rfl (Nat.le_of_ble_eq_true rfl) (ok_X11_marks) dL_law_286 rfl (fun r κ1 hk => ?_)
  refine l_aload_n C dL_law_289 (i := 2) rfl rfl ?_
  refine l_aload_n C dL_law_290 (i := 0) rfl rfl ?_
  refine l_iload_n C dL_law_291 (i := 3) rfl rfl ?_
  refine l_iconst C dL_law_292 ?_
  refine l_iadd C dL_law_293 ?_
  refine l_ald C dL_law_294 (l_in hv hL (by decide)) ?_
  refine l_callM C yv_X12_marks rfl (tb6 108 rfl rfl) rfl (As := [xs (v + Int32.ofInt 1).toNatClampNeg]) (rest := [.int r]) rfl (Nat.le_of_ble_eq_true rfl) (ok_X12_marks) dL_law_295 rfl (fun r1 μ1 hm => ?_)
  obtain ⟨e, h9⟩ := st_marks h hk hm
  subst e
  refine l_eq C dL_law_298 (tgt := 1178) (by decide) ?_
  exact nx _ _ h9
set_option maxRecDepth 20000 in
theorem lc_group {Ls : Nat} {xs : Nat → Int32} {J : lJt} (C : lR Ls xs J) {v : Int32} {κ μ : kMem} (h : Rl κ μ) (hv : 0 ≤ v.toInt ∧ v.toInt + 6 ≤ (Ls : Int)) (hL : Ls ≤ 3072) (nx : ∀ κ1 μ1, Rl κ1 μ1 → J 1178 [some (.ref 0), some (.ref 1), some (.ref 2), some (.int v)] [] κ1 μ1) : J 303 [some (.ref 0), some (.ref 1), some (.ref 2), some (.int v)] [] κ μ := by
  have ri := h.ri
  obtain ⟨⟨t1, t2, -, -⟩, ⟨-, dd, dok, kc, mc⟩, ⟨-, mhd, -, -⟩, ⟨ln, mln, -, -, -⟩, ⟨tp, mtp, -, -⟩, ⟨ps, mps, -, -⟩, ⟨cl, mcl, -, -, -⟩⟩ := id h
  refine l_aload_n C dL_law_303 (i := 1) rfl rfl ?_
  refine l_aload_n C dL_law_304 (i := 0) rfl rfl ?_
  refine l_iload_n C dL_law_305 (i := 3) rfl rfl ?_
  refine l_iconst C dL_law_306 ?_
  refine l_iadd C dL_law_307 ?_
  refine l_ald C dL_law_308 (l_in hv hL (by decide)) ?_
  refine l_callK C yv_X11_group rfl (tb3 65 rfl rfl) rfl (As := [xs (v + Int32.ofInt 1).toNatClampNeg]) (rest := []) rfl (Nat.le_of_ble_eq_true rfl) (ok_X11_group (by rw [kc.2.2.1]; have := dok.1; omega)) dL_law_309 rfl (fun r κ1 hk => ?_)
  refine l_aload_n C dL_law_312 (i := 2) rfl rfl ?_
  refine l_aload_n C dL_law_313 (i := 0) rfl rfl ?_
  refine l_iload_n C dL_law_314 (i := 3) rfl rfl ?_
  refine l_iconst C dL_law_315 ?_
  refine l_iadd C dL_law_316 ?_
  refine l_ald C dL_law_317 (l_in hv hL (by decide)) ?_
  refine l_callM C yv_X12_group rfl (tb6 113 rfl rfl) rfl (As := [xs (v + Int32.ofInt 1).toNatClampNeg]) (rest := [.int r]) rfl (Nat.le_of_ble_eq_true rfl) (ok_X12_group (by rw [mc.2.2.1]; have := dok.1; omega)) dL_law_318 rfl (fun r1 μ1 hm => ?_)
  obtain ⟨e, h9⟩ := st_group h hk hm
  subst e
  refine l_eq C dL_law_321 (tgt := 1178) (by decide) ?_
  exact nx _ _ h9
set_option maxRecDepth 20000 in
theorem lc_hand {Ls : Nat} {xs : Nat → Int32} {J : lJt} (C : lR Ls xs J) {v : Int32} {κ μ : kMem} (h : Rl κ μ) (hv : 0 ≤ v.toInt ∧ v.toInt + 6 ≤ (Ls : Int)) (hL : Ls ≤ 3072) (nx : ∀ κ1 μ1, Rl κ1 μ1 → J 1178 [some (.ref 0), some (.ref 1), some (.ref 2), some (.int v)] [] κ1 μ1) : J 326 [some (.ref 0), some (.ref 1), some (.ref 2), some (.int v)] [] κ μ := by
  have ri := h.ri
  obtain ⟨⟨t1, t2, -, -⟩, ⟨-, dd, dok, kc, mc⟩, ⟨-, mhd, -, -⟩, ⟨ln, mln, -, -, -⟩, ⟨tp, mtp, -, -⟩, ⟨ps, mps, -, -⟩, ⟨cl, mcl, -, -, -⟩⟩ := id h
  refine l_aload_n C dL_law_326 (i := 1) rfl rfl ?_
  refine l_aload_n C dL_law_327 (i := 0) rfl rfl ?_
  refine l_iload_n C dL_law_328 (i := 3) rfl rfl ?_
  refine l_iconst C dL_law_329 ?_
  refine l_iadd C dL_law_330 ?_
  refine l_ald C dL_law_331 (l_in hv hL (by decide)) ?_
  refine l_aload_n C dL_law_332 (i := 0) rfl rfl ?_
  refine l_iload_n C dL_law_333 (i := 3) rfl rfl ?_
  refine l_iconst C dL_law_334 ?_
  refine l_iadd C dL_law_335 ?_
  refine l_ald C dL_law_336 (l_in hv hL (by decide)) ?_
  refine l_aload_n C dL_law_337 (i := 0) rfl rfl ?_
  refine l_iload_n C dL_law_338 (i := 3) rfl rfl ?_
  refine l_iconst C dL_law_339 ?_
  refine l_iadd C dL_law_340 ?_
  refine l_ald C dL_law_341 (l_in hv hL (by decide)) ?_
  refine l_aload_n C dL_law_342 (i := 0) rfl rfl ?_
  refine l_iload_n C dL_law_343 (i := 3) rfl rfl ?_
  refine l_iconst C dL_law_344 ?_
  refine l_iadd C dL_law_345 ?_
  refine l_ald C dL_law_346 (l_in hv hL (by decide)) ?_
  refine l_aload_n C dL_law_347 (i := 0) rfl rfl ?_
  refine l_iload_n C dL_law_348 (i := 3) rfl rfl ?_
  refine l_iconst C dL_law_349 ?_
  refine l_iadd C dL_law_350 ?_
  refine l_ald C dL_law_351 (l_in hv hL (by decide)) ?_
  refine l_callK C yv_X11_hand rfl (tb3 84 rfl rfl) rfl (As := [xs (v + Int32.ofInt 1).toNatClampNeg, xs (v + Int32.ofInt 2).toNatClampNeg, xs (v + Int32.ofInt 3).toNatClampNeg, xs (v + Int32.ofInt 4).toNatClampNeg, xs (v + Int32.ofInt 5).toNatClampNeg]) (rest := []) rfl (Nat.le_of_ble_eq_true rfl) (ok_X11_hand ri.1.1) dL_law_352 rfl (fun r κ1 hk => ?_)
  refine l_aload_n C dL_law_355 (i := 2) rfl rfl ?_
  refine l_aload_n C dL_law_356 (i := 0) rfl rfl ?_
  refine l_iload_n C dL_law_357 (i := 3) rfl rfl ?_
  refine l_iconst C dL_law_358 ?_
  refine l_iadd C dL_law_359 ?_
  refine l_ald C dL_law_360 (l_in hv hL (by decide)) ?_
  refine l_aload_n C dL_law_361 (i := 0) rfl rfl ?_
  refine l_iload_n C dL_law_362 (i := 3) rfl rfl ?_
  refine l_iconst C dL_law_363 ?_
  refine l_iadd C dL_law_364 ?_
  refine l_ald C dL_law_365 (l_in hv hL (by decide)) ?_
  refine l_aload_n C dL_law_366 (i := 0) rfl rfl ?_
  refine l_iload_n C dL_law_367 (i := 3) rfl rfl ?_
  refine l_iconst C dL_law_368 ?_
  refine l_iadd C dL_law_369 ?_
  refine l_ald C dL_law_370 (l_in hv hL (by decide)) ?_
  refine l_aload_n C dL_law_371 (i := 0) rfl rfl ?_
  refine l_iload_n C dL_law_372 (i := 3) rfl rfl ?_
  refine l_iconst C dL_law_373 ?_
  refine l_iadd C dL_law_374 ?_
  refine l_ald C dL_law_375 (l_in hv hL (by decide)) ?_
  refine l_aload_n C dL_law_376 (i := 0) rfl rfl ?_
  refine l_iload_n C dL_law_377 (i := 3) rfl rfl ?_
  refine l_iconst C dL_law_378 ?_
  refine l_iadd C dL_law_379 ?_
  refine l_ald C dL_law_380 (l_in hv hL (by decide)) ?_
  refine l_callM C yv_X12_hand rfl (tb6 117 rfl rfl) rfl (As := [xs (v + Int32.ofInt 1).toNatClampNeg, xs (v + Int32.ofInt 2).toNatClampNeg, xs (v + Int32.ofInt 3).toNatClampNeg, xs (v + Int32.ofInt 4).toNatClampNeg, xs (v + Int32.ofInt 5).toNatClampNeg]) (rest := [.int r]) rfl (Nat.le_of_ble_eq_true rfl) (ok_X12_hand mhd.1) dL_law_381 rfl (fun r1 μ1 hm => ?_)
  obtain ⟨e, h9⟩ := st_hand h hk hm
  subst e
  refine l_eq C dL_law_384 (tgt := 1178) (by decide) ?_
  exact nx _ _ h9
set_option maxRecDepth 20000 in
theorem lc_line {Ls : Nat} {xs : Nat → Int32} {J : lJt} (C : lR Ls xs J) {v : Int32} {κ μ : kMem} (h : Rl κ μ) (hv : 0 ≤ v.toInt ∧ v.toInt + 6 ≤ (Ls : Int)) (hL : Ls ≤ 3072) (nx : ∀ κ1 μ1, Rl κ1 μ1 → J 1178 [some (.ref 0), some (.ref 1), some (.ref 2), some (.int v)] [] κ1 μ1) : J 389 [some (.ref 0), some (.ref 1), some (.ref 2), some (.int v)] [] κ μ := by
  have ri := h.ri
  obtain ⟨⟨t1, t2, -, -⟩, ⟨-, dd, dok, kc, mc⟩, ⟨-, mhd, -, -⟩, ⟨ln, mln, -, -, -⟩, ⟨tp, mtp, -, -⟩, ⟨ps, mps, -, -⟩, ⟨cl, mcl, -, -, -⟩⟩ := id h
  refine l_aload_n C dL_law_389 (i := 1) rfl rfl ?_
  refine l_aload_n C dL_law_390 (i := 0) rfl rfl ?_
  refine l_iload_n C dL_law_391 (i := 3) rfl rfl ?_
  refine l_iconst C dL_law_392 ?_
  refine l_iadd C dL_law_393 ?_
  refine l_ald C dL_law_394 (l_in hv hL (by decide)) ?_
  refine l_aload_n C dL_law_395 (i := 0) rfl rfl ?_
  refine l_iload_n C dL_law_396 (i := 3) rfl rfl ?_
  refine l_iconst C dL_law_397 ?_
  refine l_iadd C dL_law_398 ?_
  refine l_ald C dL_law_399 (l_in hv hL (by decide)) ?_
  refine l_aload_n C dL_law_400 (i := 0) rfl rfl ?_
  refine l_iload_n C dL_law_401 (i := 3) rfl rfl ?_
  refine l_iconst C dL_law_402 ?_
  refine l_iadd C dL_law_403 ?_
  refine l_ald C dL_law_404 (l_in hv hL (by decide)) ?_
  refine l_aload_n C dL_law_405 (i := 0) rfl rfl ?_
  refine l_iload_n C dL_law_406 (i := 3) rfl rfl ?_
  refine l_iconst C dL_law_407 ?_
  refine l_iadd C dL_law_408 ?_
  refine l_ald C dL_law_409 (l_in hv hL (by decide)) ?_
  refine l_callK C yv_X11_line rfl (tb3 95 rfl rfl) rfl (As := [xs (v + Int32.ofInt 1).toNatClampNeg, xs (v + Int32.ofInt 2).toNatClampNeg, xs (v + Int32.ofInt 3).toNatClampNeg, xs (v + Int32.ofInt 4).toNatClampNeg]) (rest := []) rfl (Nat.le_of_ble_eq_true rfl) (ok_X11_line ln.1) dL_law_410 rfl (fun r κ1 hk => ?_)
  refine l_aload_n C dL_law_413 (i := 2) rfl rfl ?_
  refine l_aload_n C dL_law_414 (i := 0) rfl rfl ?_
  refine l_iload_n C dL_law_415 (i := 3) rfl rfl ?_
  refine l_iconst C dL_law_416 ?_
  refine l_iadd C dL_law_417 ?_
  refine l_ald C dL_law_418 (l_in hv hL (by decide)) ?_
  refine l_aload_n C dL_law_419 (i := 0) rfl rfl ?_
  refine l_iload_n C dL_law_420 (i := 3) rfl rfl ?_
  refine l_iconst C dL_law_421 ?_
  refine l_iadd C dL_law_422 ?_
  refine l_ald C dL_law_423 (l_in hv hL (by decide)) ?_
  refine l_aload_n C dL_law_424 (i := 0) rfl rfl ?_
  refine l_iload_n C dL_law_425 (i := 3) rfl rfl ?_
  refine l_iconst C dL_law_426 ?_
  refine l_iadd C dL_law_427 ?_
  refine l_ald C dL_law_428 (l_in hv hL (by decide)) ?_
  refine l_aload_n C dL_law_429 (i := 0) rfl rfl ?_
  refine l_iload_n C dL_law_430 (i := 3) rfl rfl ?_
  refine l_iconst C dL_law_431 ?_
  refine l_iadd C dL_law_432 ?_
  refine l_ald C dL_law_433 (l_in hv hL (by decide)) ?_
  refine l_callM C yv_X12_line rfl (tb6 129 rfl rfl) rfl (As := [xs (v + Int32.ofInt 1).toNatClampNeg, xs (v + Int32.ofInt 2).toNatClampNeg, xs (v + Int32.ofInt 3).toNatClampNeg, xs (v + Int32.ofInt 4).toNatClampNeg]) (rest := [.int r]) rfl (Nat.le_of_ble_eq_true rfl) (ok_X12_line mln.1) dL_law_434 rfl (fun r1 μ1 hm => ?_)
  obtain ⟨e, h9⟩ := st_line h hk hm
  subst e
  refine l_eq C dL_law_437 (tgt := 1178) (by decide) ?_
  exact nx _ _ h9
set_option maxRecDepth 20000 in
theorem lc_rain {Ls : Nat} {xs : Nat → Int32} {J : lJt} (C : lR Ls xs J) {v : Int32} {κ μ : kMem} (h : Rl κ μ) (hv : 0 ≤ v.toInt ∧ v.toInt + 6 ≤ (Ls : Int)) (hL : Ls ≤ 3072) (nx : ∀ κ1 μ1, Rl κ1 μ1 → J 1178 [some (.ref 0), some (.ref 1), some (.ref 2), some (.int v)] [] κ1 μ1) : J 442 [some (.ref 0), some (.ref 1), some (.ref 2), some (.int v)] [] κ μ := by
  refine l_aload_n C dL_law_442 (i := 1) rfl rfl ?_
  refine l_aload_n C dL_law_443 (i := 0) rfl rfl ?_
  refine l_iload_n C dL_law_444 (i := 3) rfl rfl ?_
  refine l_iconst C dL_law_445 ?_
  refine l_iadd C dL_law_446 ?_
  refine l_ald C dL_law_447 (l_in hv hL (by decide)) ?_
  refine l_callK C yv_X11_rain rfl (tb3 109 rfl rfl) rfl (As := [xs (v + Int32.ofInt 1).toNatClampNeg]) (rest := []) rfl (Nat.le_of_ble_eq_true rfl) (ok_X11_rain) dL_law_448 rfl (fun r κ1 hk => ?_)
  refine l_aload_n C dL_law_451 (i := 2) rfl rfl ?_
  refine l_aload_n C dL_law_452 (i := 0) rfl rfl ?_
  refine l_iload_n C dL_law_453 (i := 3) rfl rfl ?_
  refine l_iconst C dL_law_454 ?_
  refine l_iadd C dL_law_455 ?_
  refine l_ald C dL_law_456 (l_in hv hL (by decide)) ?_
  refine l_callM C yv_X12_rain rfl (tb6 139 rfl rfl) rfl (As := [xs (v + Int32.ofInt 1).toNatClampNeg]) (rest := [.int r]) rfl (Nat.le_of_ble_eq_true rfl) (ok_X12_rain) dL_law_457 rfl (fun r1 μ1 hm => ?_)
  obtain ⟨e, h9⟩ := st_rain h hk hm
  subst e
  refine l_eq C dL_law_460 (tgt := 1178) (by decide) ?_
  exact nx _ _ h9
set_option maxRecDepth 20000 in
theorem lc_bite {Ls : Nat} {xs : Nat → Int32} {J : lJt} (C : lR Ls xs J) {v : Int32} {κ μ : kMem} (h : Rl κ μ) (hv : 0 ≤ v.toInt ∧ v.toInt + 6 ≤ (Ls : Int)) (hL : Ls ≤ 3072) (nx : ∀ κ1 μ1, Rl κ1 μ1 → J 1178 [some (.ref 0), some (.ref 1), some (.ref 2), some (.int v)] [] κ1 μ1) : J 465 [some (.ref 0), some (.ref 1), some (.ref 2), some (.int v)] [] κ μ := by
  have ri := h.ri
  obtain ⟨⟨t1, t2, -, -⟩, ⟨-, dd, dok, kc, mc⟩, ⟨-, mhd, -, -⟩, ⟨ln, mln, -, -, -⟩, ⟨tp, mtp, -, -⟩, ⟨ps, mps, -, -⟩, ⟨cl, mcl, -, -, -⟩⟩ := id h
  refine l_aload_n C dL_law_465 (i := 1) rfl rfl ?_
  refine l_aload_n C dL_law_466 (i := 0) rfl rfl ?_
  refine l_iload_n C dL_law_467 (i := 3) rfl rfl ?_
  refine l_iconst C dL_law_468 ?_
  refine l_iadd C dL_law_469 ?_
  refine l_ald C dL_law_470 (l_in hv hL (by decide)) ?_
  refine l_callK C yv_X11_bite rfl (tb3 117 rfl rfl) rfl (As := [xs (v + Int32.ofInt 1).toNatClampNeg]) (rest := []) rfl (Nat.le_of_ble_eq_true rfl) (ok_X11_bite ln) dL_law_471 rfl (fun r κ1 hk => ?_)
  refine l_aload_n C dL_law_474 (i := 2) rfl rfl ?_
  refine l_aload_n C dL_law_475 (i := 0) rfl rfl ?_
  refine l_iload_n C dL_law_476 (i := 3) rfl rfl ?_
  refine l_iconst C dL_law_477 ?_
  refine l_iadd C dL_law_478 ?_
  refine l_ald C dL_law_479 (l_in hv hL (by decide)) ?_
  refine l_callM C yv_X12_bite rfl (tb6 144 rfl rfl) rfl (As := [xs (v + Int32.ofInt 1).toNatClampNeg]) (rest := [.int r]) rfl (Nat.le_of_ble_eq_true rfl) (ok_X12_bite mln) dL_law_480 rfl (fun r1 μ1 hm => ?_)
  obtain ⟨e, h9⟩ := st_bite h hk hm
  subst e
  refine l_eq C dL_law_483 (tgt := 1178) (by decide) ?_
  exact nx _ _ h9
set_option maxRecDepth 20000 in
theorem lc_length {Ls : Nat} {xs : Nat → Int32} {J : lJt} (C : lR Ls xs J) {v : Int32} {κ μ : kMem} (h : Rl κ μ) (hv : 0 ≤ v.toInt ∧ v.toInt + 6 ≤ (Ls : Int)) (hL : Ls ≤ 3072) (nx : ∀ κ1 μ1, Rl κ1 μ1 → J 1178 [some (.ref 0), some (.ref 1), some (.ref 2), some (.int v)] [] κ1 μ1) : J 488 [some (.ref 0), some (.ref 1), some (.ref 2), some (.int v)] [] κ μ := by
  have ri := h.ri
  obtain ⟨⟨t1, t2, -, -⟩, ⟨-, dd, dok, kc, mc⟩, ⟨-, mhd, -, -⟩, ⟨ln, mln, -, -, -⟩, ⟨tp, mtp, -, -⟩, ⟨ps, mps, -, -⟩, ⟨cl, mcl, -, -, -⟩⟩ := id h
  refine l_aload_n C dL_law_488 (i := 1) rfl rfl ?_
  refine l_aload_n C dL_law_489 (i := 0) rfl rfl ?_
  refine l_iload_n C dL_law_490 (i := 3) rfl rfl ?_
  refine l_iconst C dL_law_491 ?_
  refine l_iadd C dL_law_492 ?_
  refine l_ald C dL_law_493 (l_in hv hL (by decide)) ?_
  refine l_callK C yv_X11_length rfl (tb3 130 rfl rfl) rfl (As := [xs (v + Int32.ofInt 1).toNatClampNeg]) (rest := []) rfl (Nat.le_of_ble_eq_true rfl) (ok_X11_length tp.1) dL_law_494 rfl (fun r κ1 hk => ?_)
  refine l_aload_n C dL_law_497 (i := 2) rfl rfl ?_
  refine l_aload_n C dL_law_498 (i := 0) rfl rfl ?_
  refine l_iload_n C dL_law_499 (i := 3) rfl rfl ?_
  refine l_iconst C dL_law_500 ?_
  refine l_iadd C dL_law_501 ?_
  refine l_ald C dL_law_502 (l_in hv hL (by decide)) ?_
  refine l_callM C yv_X12_length rfl (tb6 156 rfl rfl) rfl (As := [xs (v + Int32.ofInt 1).toNatClampNeg]) (rest := [.int r]) rfl (Nat.le_of_ble_eq_true rfl) (ok_X12_length mtp.1) dL_law_503 rfl (fun r1 μ1 hm => ?_)
  obtain ⟨e, h9⟩ := st_length h hk hm
  subst e
  refine l_eq C dL_law_506 (tgt := 1178) (by decide) ?_
  exact nx _ _ h9
set_option maxRecDepth 20000 in
theorem lc_cut {Ls : Nat} {xs : Nat → Int32} {J : lJt} (C : lR Ls xs J) {v : Int32} {κ μ : kMem} (h : Rl κ μ) (hv : 0 ≤ v.toInt ∧ v.toInt + 6 ≤ (Ls : Int)) (hL : Ls ≤ 3072) (nx : ∀ κ1 μ1, Rl κ1 μ1 → J 1178 [some (.ref 0), some (.ref 1), some (.ref 2), some (.int v)] [] κ1 μ1) : J 511 [some (.ref 0), some (.ref 1), some (.ref 2), some (.int v)] [] κ μ := by
  refine l_aload_n C dL_law_511 (i := 1) rfl rfl ?_
  refine l_aload_n C dL_law_512 (i := 0) rfl rfl ?_
  refine l_iload_n C dL_law_513 (i := 3) rfl rfl ?_
  refine l_iconst C dL_law_514 ?_
  refine l_iadd C dL_law_515 ?_
  refine l_ald C dL_law_516 (l_in hv hL (by decide)) ?_
  refine l_callK C yv_X11_cut rfl (tb3 138 rfl rfl) rfl (As := [xs (v + Int32.ofInt 1).toNatClampNeg]) (rest := []) rfl (Nat.le_of_ble_eq_true rfl) (ok_X11_cut) dL_law_517 rfl (fun r κ1 hk => ?_)
  refine l_aload_n C dL_law_520 (i := 2) rfl rfl ?_
  refine l_aload_n C dL_law_521 (i := 0) rfl rfl ?_
  refine l_iload_n C dL_law_522 (i := 3) rfl rfl ?_
  refine l_iconst C dL_law_523 ?_
  refine l_iadd C dL_law_524 ?_
  refine l_ald C dL_law_525 (l_in hv hL (by decide)) ?_
  refine l_callM C yv_X12_cut rfl (tb6 161 rfl rfl) rfl (As := [xs (v + Int32.ofInt 1).toNatClampNeg]) (rest := [.int r]) rfl (Nat.le_of_ble_eq_true rfl) (ok_X12_cut) dL_law_526 rfl (fun r1 μ1 hm => ?_)
  obtain ⟨e, h9⟩ := st_cut h hk hm
  subst e
  refine l_eq C dL_law_529 (tgt := 1178) (by decide) ?_
  exact nx _ _ h9
set_option maxRecDepth 20000 in
theorem lc_tape {Ls : Nat} {xs : Nat → Int32} {J : lJt} (C : lR Ls xs J) {v : Int32} {κ μ : kMem} (h : Rl κ μ) (hv : 0 ≤ v.toInt ∧ v.toInt + 6 ≤ (Ls : Int)) (hL : Ls ≤ 3072) (nx : ∀ κ1 μ1, Rl κ1 μ1 → J 1178 [some (.ref 0), some (.ref 1), some (.ref 2), some (.int v)] [] κ1 μ1) : J 534 [some (.ref 0), some (.ref 1), some (.ref 2), some (.int v)] [] κ μ := by
  have ri := h.ri
  obtain ⟨⟨t1, t2, -, -⟩, ⟨-, dd, dok, kc, mc⟩, ⟨-, mhd, -, -⟩, ⟨ln, mln, -, -, -⟩, ⟨tp, mtp, -, -⟩, ⟨ps, mps, -, -⟩, ⟨cl, mcl, -, -, -⟩⟩ := id h
  refine l_aload_n C dL_law_534 (i := 1) rfl rfl ?_
  refine l_aload_n C dL_law_535 (i := 0) rfl rfl ?_
  refine l_iload_n C dL_law_536 (i := 3) rfl rfl ?_
  refine l_iconst C dL_law_537 ?_
  refine l_iadd C dL_law_538 ?_
  refine l_ald C dL_law_539 (l_in hv hL (by decide)) ?_
  refine l_callK C yv_X11_tape rfl (tb3 146 rfl rfl) rfl (As := [xs (v + Int32.ofInt 1).toNatClampNeg]) (rest := []) rfl (Nat.le_of_ble_eq_true rfl) (ok_X11_tape tp.1.2) dL_law_540 rfl (fun r κ1 hk => ?_)
  refine l_aload_n C dL_law_543 (i := 2) rfl rfl ?_
  refine l_aload_n C dL_law_544 (i := 0) rfl rfl ?_
  refine l_iload_n C dL_law_545 (i := 3) rfl rfl ?_
  refine l_iconst C dL_law_546 ?_
  refine l_iadd C dL_law_547 ?_
  refine l_ald C dL_law_548 (l_in hv hL (by decide)) ?_
  refine l_callM C yv_X12_tape rfl (tb6 165 rfl rfl) rfl (As := [xs (v + Int32.ofInt 1).toNatClampNeg]) (rest := [.int r]) rfl (Nat.le_of_ble_eq_true rfl) (ok_X12_tape mtp.1) dL_law_549 rfl (fun r1 μ1 hm => ?_)
  obtain ⟨e, h9⟩ := st_tape h hk hm
  subst e
  refine l_eq C dL_law_552 (tgt := 1178) (by decide) ?_
  exact nx _ _ h9
set_option maxRecDepth 20000 in
theorem lc_readings {Ls : Nat} {xs : Nat → Int32} {J : lJt} (C : lR Ls xs J) {v : Int32} {κ μ : kMem} (h : Rl κ μ) (hv : 0 ≤ v.toInt ∧ v.toInt + 6 ≤ (Ls : Int)) (hL : Ls ≤ 3072) (nx : ∀ κ1 μ1, Rl κ1 μ1 → J 1178 [some (.ref 0), some (.ref 1), some (.ref 2), some (.int v)] [] κ1 μ1) : J 557 [some (.ref 0), some (.ref 1), some (.ref 2), some (.int v)] [] κ μ := by
  have ri := h.ri
  obtain ⟨⟨t1, t2, -, -⟩, ⟨-, dd, dok, kc, mc⟩, ⟨-, mhd, -, -⟩, ⟨ln, mln, -, -, -⟩, ⟨tp, mtp, -, -⟩, ⟨ps, mps, -, -⟩, ⟨cl, mcl, -, -, -⟩⟩ := id h
  refine l_aload_n C dL_law_557 (i := 1) rfl rfl ?_
  refine l_aload_n C dL_law_558 (i := 0) rfl rfl ?_
  refine l_iload_n C dL_law_559 (i := 3) rfl rfl ?_
  refine l_iconst C dL_law_560 ?_
  refine l_iadd C dL_law_561 ?_
  refine l_ald C dL_law_562 (l_in hv hL (by decide)) ?_
  refine l_aload_n C dL_law_563 (i := 0) rfl rfl ?_
  refine l_iload_n C dL_law_564 (i := 3) rfl rfl ?_
  refine l_iconst C dL_law_565 ?_
  refine l_iadd C dL_law_566 ?_
  refine l_ald C dL_law_567 (l_in hv hL (by decide)) ?_
  refine l_callK C yv_X11_readings rfl (tb3 154 rfl rfl) rfl (As := [xs (v + Int32.ofInt 1).toNatClampNeg, xs (v + Int32.ofInt 2).toNatClampNeg]) (rest := []) rfl (Nat.le_of_ble_eq_true rfl) (ok_X11_readings ri.1) dL_law_568 rfl (fun r κ1 hk => ?_)
  refine l_aload_n C dL_law_571 (i := 2) rfl rfl ?_
  refine l_aload_n C dL_law_572 (i := 0) rfl rfl ?_
  refine l_iload_n C dL_law_573 (i := 3) rfl rfl ?_
  refine l_iconst C dL_law_574 ?_
  refine l_iadd C dL_law_575 ?_
  refine l_ald C dL_law_576 (l_in hv hL (by decide)) ?_
  refine l_aload_n C dL_law_577 (i := 0) rfl rfl ?_
  refine l_iload_n C dL_law_578 (i := 3) rfl rfl ?_
  refine l_iconst C dL_law_579 ?_
  refine l_iadd C dL_law_580 ?_
  refine l_ald C dL_law_581 (l_in hv hL (by decide)) ?_
  refine l_callM C yv_X12_readings rfl (tb6 169 rfl rfl) rfl (As := [xs (v + Int32.ofInt 1).toNatClampNeg, xs (v + Int32.ofInt 2).toNatClampNeg]) (rest := [.int r]) rfl (Nat.le_of_ble_eq_true rfl) (ok_X12_readings ri.2.1) dL_law_582 rfl (fun r1 μ1 hm => ?_)
  obtain ⟨e, h9⟩ := st_readings h hk hm
  subst e
  refine l_eq C dL_law_585 (tgt := 1178) (by decide) ?_
  exact nx _ _ h9
set_option maxRecDepth 20000 in
theorem lc_nearest {Ls : Nat} {xs : Nat → Int32} {J : lJt} (C : lR Ls xs J) {v : Int32} {κ μ : kMem} (h : Rl κ μ) (hv : 0 ≤ v.toInt ∧ v.toInt + 6 ≤ (Ls : Int)) (hL : Ls ≤ 3072) (nx : ∀ κ1 μ1, Rl κ1 μ1 → J 1178 [some (.ref 0), some (.ref 1), some (.ref 2), some (.int v)] [] κ1 μ1) : J 590 [some (.ref 0), some (.ref 1), some (.ref 2), some (.int v)] [] κ μ := by
  have ri := h.ri
  obtain ⟨⟨t1, t2, -, -⟩, ⟨-, dd, dok, kc, mc⟩, ⟨-, mhd, -, -⟩, ⟨ln, mln, -, -, -⟩, ⟨tp, mtp, -, -⟩, ⟨ps, mps, -, -⟩, ⟨cl, mcl, -, -, -⟩⟩ := id h
  refine l_aload_n C dL_law_590 (i := 1) rfl rfl ?_
  refine l_aload_n C dL_law_591 (i := 0) rfl rfl ?_
  refine l_iload_n C dL_law_592 (i := 3) rfl rfl ?_
  refine l_iconst C dL_law_593 ?_
  refine l_iadd C dL_law_594 ?_
  refine l_ald C dL_law_595 (l_in hv hL (by decide)) ?_
  refine l_aload_n C dL_law_596 (i := 0) rfl rfl ?_
  refine l_iload_n C dL_law_597 (i := 3) rfl rfl ?_
  refine l_iconst C dL_law_598 ?_
  refine l_iadd C dL_law_599 ?_
  refine l_ald C dL_law_600 (l_in hv hL (by decide)) ?_
  refine l_aload_n C dL_law_601 (i := 0) rfl rfl ?_
  refine l_iload_n C dL_law_602 (i := 3) rfl rfl ?_
  refine l_iconst C dL_law_603 ?_
  refine l_iadd C dL_law_604 ?_
  refine l_ald C dL_law_605 (l_in hv hL (by decide)) ?_
  refine l_callK C yv_X11_nearest rfl (tb3 228 rfl rfl) rfl (As := [xs (v + Int32.ofInt 1).toNatClampNeg, xs (v + Int32.ofInt 2).toNatClampNeg, xs (v + Int32.ofInt 3).toNatClampNeg]) (rest := []) rfl (Nat.le_of_ble_eq_true rfl) (ok_X11_nearest ri.1) dL_law_606 rfl (fun r κ1 hk => ?_)
  refine l_aload_n C dL_law_609 (i := 2) rfl rfl ?_
  refine l_aload_n C dL_law_610 (i := 0) rfl rfl ?_
  refine l_iload_n C dL_law_611 (i := 3) rfl rfl ?_
  refine l_iconst C dL_law_612 ?_
  refine l_iadd C dL_law_613 ?_
  refine l_ald C dL_law_614 (l_in hv hL (by decide)) ?_
  refine l_aload_n C dL_law_615 (i := 0) rfl rfl ?_
  refine l_iload_n C dL_law_616 (i := 3) rfl rfl ?_
  refine l_iconst C dL_law_617 ?_
  refine l_iadd C dL_law_618 ?_
  refine l_ald C dL_law_619 (l_in hv hL (by decide)) ?_
  refine l_aload_n C dL_law_620 (i := 0) rfl rfl ?_
  refine l_iload_n C dL_law_621 (i := 3) rfl rfl ?_
  refine l_iconst C dL_law_622 ?_
  refine l_iadd C dL_law_623 ?_
  refine l_ald C dL_law_624 (l_in hv hL (by decide)) ?_
  refine l_callM C yv_X12_nearest rfl (tb6 201 rfl rfl) rfl (As := [xs (v + Int32.ofInt 1).toNatClampNeg, xs (v + Int32.ofInt 2).toNatClampNeg, xs (v + Int32.ofInt 3).toNatClampNeg]) (rest := [.int r]) rfl (Nat.le_of_ble_eq_true rfl) (ok_X12_nearest ri.2.1) dL_law_625 rfl (fun r1 μ1 hm => ?_)
  obtain ⟨e, h9⟩ := st_nearest h hk hm
  subst e
  refine l_eq C dL_law_628 (tgt := 1178) (by decide) ?_
  exact nx _ _ h9
set_option maxRecDepth 20000 in
theorem lc_suspects {Ls : Nat} {xs : Nat → Int32} {J : lJt} (C : lR Ls xs J) {v : Int32} {κ μ : kMem} (h : Rl κ μ) (hv : 0 ≤ v.toInt ∧ v.toInt + 6 ≤ (Ls : Int)) (hL : Ls ≤ 3072) (nx : ∀ κ1 μ1, Rl κ1 μ1 → J 1178 [some (.ref 0), some (.ref 1), some (.ref 2), some (.int v)] [] κ1 μ1) : J 633 [some (.ref 0), some (.ref 1), some (.ref 2), some (.int v)] [] κ μ := by
  have ri := h.ri
  obtain ⟨⟨t1, t2, -, -⟩, ⟨-, dd, dok, kc, mc⟩, ⟨-, mhd, -, -⟩, ⟨ln, mln, -, -, -⟩, ⟨tp, mtp, -, -⟩, ⟨ps, mps, -, -⟩, ⟨cl, mcl, -, -, -⟩⟩ := id h
  refine l_aload_n C dL_law_633 (i := 1) rfl rfl ?_
  refine l_aload_n C dL_law_634 (i := 0) rfl rfl ?_
  refine l_iload_n C dL_law_635 (i := 3) rfl rfl ?_
  refine l_iconst C dL_law_636 ?_
  refine l_iadd C dL_law_637 ?_
  refine l_ald C dL_law_638 (l_in hv hL (by decide)) ?_
  refine l_callK C yv_X11_suspects rfl (tb4 23 rfl rfl) rfl (As := [xs (v + Int32.ofInt 1).toNatClampNeg]) (rest := []) rfl (Nat.le_of_ble_eq_true rfl) (ok_X11_suspects ⟨ri.1, t1⟩) dL_law_639 rfl (fun r κ1 hk => ?_)
  refine l_aload_n C dL_law_642 (i := 2) rfl rfl ?_
  refine l_aload_n C dL_law_643 (i := 0) rfl rfl ?_
  refine l_iload_n C dL_law_644 (i := 3) rfl rfl ?_
  refine l_iconst C dL_law_645 ?_
  refine l_iadd C dL_law_646 ?_
  refine l_ald C dL_law_647 (l_in hv hL (by decide)) ?_
  refine l_callM C yv_X12_suspects rfl (tb6 218 rfl rfl) rfl (As := [xs (v + Int32.ofInt 1).toNatClampNeg]) (rest := [.int r]) rfl (Nat.le_of_ble_eq_true rfl) (ok_X12_suspects ⟨ri.2.1, t2⟩) dL_law_648 rfl (fun r1 μ1 hm => ?_)
  obtain ⟨e, h9⟩ := st_suspects h hk hm
  subst e
  refine l_eq C dL_law_651 (tgt := 1178) (by decide) ?_
  exact nx _ _ h9
set_option maxRecDepth 20000 in
theorem lc_likelier {Ls : Nat} {xs : Nat → Int32} {J : lJt} (C : lR Ls xs J) {v : Int32} {κ μ : kMem} (h : Rl κ μ) (hv : 0 ≤ v.toInt ∧ v.toInt + 6 ≤ (Ls : Int)) (hL : Ls ≤ 3072) (nx : ∀ κ1 μ1, Rl κ1 μ1 → J 1178 [some (.ref 0), some (.ref 1), some (.ref 2), some (.int v)] [] κ1 μ1) : J 656 [some (.ref 0), some (.ref 1), some (.ref 2), some (.int v)] [] κ μ := by
  have ri := h.ri
  obtain ⟨⟨t1, t2, -, -⟩, ⟨-, dd, dok, kc, mc⟩, ⟨-, mhd, -, -⟩, ⟨ln, mln, -, -, -⟩, ⟨tp, mtp, -, -⟩, ⟨ps, mps, -, -⟩, ⟨cl, mcl, -, -, -⟩⟩ := id h
  refine l_aload_n C dL_law_656 (i := 1) rfl rfl ?_
  refine l_aload_n C dL_law_657 (i := 0) rfl rfl ?_
  refine l_iload_n C dL_law_658 (i := 3) rfl rfl ?_
  refine l_iconst C dL_law_659 ?_
  refine l_iadd C dL_law_660 ?_
  refine l_ald C dL_law_661 (l_in hv hL (by decide)) ?_
  refine l_aload_n C dL_law_662 (i := 0) rfl rfl ?_
  refine l_iload_n C dL_law_663 (i := 3) rfl rfl ?_
  refine l_iconst C dL_law_664 ?_
  refine l_iadd C dL_law_665 ?_
  refine l_ald C dL_law_666 (l_in hv hL (by decide)) ?_
  refine l_aload_n C dL_law_667 (i := 0) rfl rfl ?_
  refine l_iload_n C dL_law_668 (i := 3) rfl rfl ?_
  refine l_iconst C dL_law_669 ?_
  refine l_iadd C dL_law_670 ?_
  refine l_ald C dL_law_671 (l_in hv hL (by decide)) ?_
  refine l_callK C yv_X11_likelier rfl (tb4 74 rfl rfl) rfl (As := [xs (v + Int32.ofInt 1).toNatClampNeg, xs (v + Int32.ofInt 2).toNatClampNeg, xs (v + Int32.ofInt 3).toNatClampNeg]) (rest := []) rfl (Nat.le_of_ble_eq_true rfl) (ok_X11_likelier ⟨ri.1, t1⟩) dL_law_672 rfl (fun r κ1 hk => ?_)
  refine l_aload_n C dL_law_675 (i := 2) rfl rfl ?_
  refine l_aload_n C dL_law_676 (i := 0) rfl rfl ?_
  refine l_iload_n C dL_law_677 (i := 3) rfl rfl ?_
  refine l_iconst C dL_law_678 ?_
  refine l_iadd C dL_law_679 ?_
  refine l_ald C dL_law_680 (l_in hv hL (by decide)) ?_
  refine l_aload_n C dL_law_681 (i := 0) rfl rfl ?_
  refine l_iload_n C dL_law_682 (i := 3) rfl rfl ?_
  refine l_iconst C dL_law_683 ?_
  refine l_iadd C dL_law_684 ?_
  refine l_ald C dL_law_685 (l_in hv hL (by decide)) ?_
  refine l_aload_n C dL_law_686 (i := 0) rfl rfl ?_
  refine l_iload_n C dL_law_687 (i := 3) rfl rfl ?_
  refine l_iconst C dL_law_688 ?_
  refine l_iadd C dL_law_689 ?_
  refine l_ald C dL_law_690 (l_in hv hL (by decide)) ?_
  refine l_callM C yv_X12_likelier rfl (tb7 2 rfl rfl) rfl (As := [xs (v + Int32.ofInt 1).toNatClampNeg, xs (v + Int32.ofInt 2).toNatClampNeg, xs (v + Int32.ofInt 3).toNatClampNeg]) (rest := [.int r]) rfl (Nat.le_of_ble_eq_true rfl) (ok_X12_likelier ⟨ri.2.1, t2⟩) dL_law_691 rfl (fun r1 μ1 hm => ?_)
  obtain ⟨e, h9⟩ := st_likelier h hk hm
  subst e
  refine l_eq C dL_law_694 (tgt := 1178) (by decide) ?_
  exact nx _ _ h9
set_option maxRecDepth 20000 in
theorem lc_key {Ls : Nat} {xs : Nat → Int32} {J : lJt} (C : lR Ls xs J) {v : Int32} {κ μ : kMem} (h : Rl κ μ) (hv : 0 ≤ v.toInt ∧ v.toInt + 6 ≤ (Ls : Int)) (hL : Ls ≤ 3072) (nx : ∀ κ1 μ1, Rl κ1 μ1 → J 1178 [some (.ref 0), some (.ref 1), some (.ref 2), some (.int v)] [] κ1 μ1) : J 699 [some (.ref 0), some (.ref 1), some (.ref 2), some (.int v)] [] κ μ := by
  have ri := h.ri
  obtain ⟨⟨t1, t2, -, -⟩, ⟨-, dd, dok, kc, mc⟩, ⟨-, mhd, -, -⟩, ⟨ln, mln, -, -, -⟩, ⟨tp, mtp, -, -⟩, ⟨ps, mps, -, -⟩, ⟨cl, mcl, -, -, -⟩⟩ := id h
  refine l_aload_n C dL_law_699 (i := 1) rfl rfl ?_
  refine l_aload_n C dL_law_700 (i := 0) rfl rfl ?_
  refine l_iload_n C dL_law_701 (i := 3) rfl rfl ?_
  refine l_iconst C dL_law_702 ?_
  refine l_iadd C dL_law_703 ?_
  refine l_ald C dL_law_704 (l_in hv hL (by decide)) ?_
  refine l_aload_n C dL_law_705 (i := 0) rfl rfl ?_
  refine l_iload_n C dL_law_706 (i := 3) rfl rfl ?_
  refine l_iconst C dL_law_707 ?_
  refine l_iadd C dL_law_708 ?_
  refine l_ald C dL_law_709 (l_in hv hL (by decide)) ?_
  refine l_aload_n C dL_law_710 (i := 0) rfl rfl ?_
  refine l_iload_n C dL_law_711 (i := 3) rfl rfl ?_
  refine l_iconst C dL_law_712 ?_
  refine l_iadd C dL_law_713 ?_
  refine l_ald C dL_law_714 (l_in hv hL (by decide)) ?_
  refine l_callK C yv_X11_key rfl (tb4 104 rfl rfl) rfl (As := [xs (v + Int32.ofInt 1).toNatClampNeg, xs (v + Int32.ofInt 2).toNatClampNeg, xs (v + Int32.ofInt 3).toNatClampNeg]) (rest := []) rfl (Nat.le_of_ble_eq_true rfl) (ok_X11_key ⟨ri.1, t1⟩) dL_law_715 rfl (fun r κ1 hk => ?_)
  refine l_aload_n C dL_law_718 (i := 2) rfl rfl ?_
  refine l_aload_n C dL_law_719 (i := 0) rfl rfl ?_
  refine l_iload_n C dL_law_720 (i := 3) rfl rfl ?_
  refine l_iconst C dL_law_721 ?_
  refine l_iadd C dL_law_722 ?_
  refine l_ald C dL_law_723 (l_in hv hL (by decide)) ?_
  refine l_aload_n C dL_law_724 (i := 0) rfl rfl ?_
  refine l_iload_n C dL_law_725 (i := 3) rfl rfl ?_
  refine l_iconst C dL_law_726 ?_
  refine l_iadd C dL_law_727 ?_
  refine l_ald C dL_law_728 (l_in hv hL (by decide)) ?_
  refine l_aload_n C dL_law_729 (i := 0) rfl rfl ?_
  refine l_iload_n C dL_law_730 (i := 3) rfl rfl ?_
  refine l_iconst C dL_law_731 ?_
  refine l_iadd C dL_law_732 ?_
  refine l_ald C dL_law_733 (l_in hv hL (by decide)) ?_
  refine l_callM C yv_X12_key rfl (tb7 14 rfl rfl) rfl (As := [xs (v + Int32.ofInt 1).toNatClampNeg, xs (v + Int32.ofInt 2).toNatClampNeg, xs (v + Int32.ofInt 3).toNatClampNeg]) (rest := [.int r]) rfl (Nat.le_of_ble_eq_true rfl) (ok_X12_key ⟨ri.2.1, t2⟩) dL_law_734 rfl (fun r1 μ1 hm => ?_)
  obtain ⟨e, h9⟩ := st_key h hk hm
  subst e
  refine l_eq C dL_law_737 (tgt := 1178) (by decide) ?_
  exact nx _ _ h9
set_option maxRecDepth 20000 in
theorem lc_mended {Ls : Nat} {xs : Nat → Int32} {J : lJt} (C : lR Ls xs J) {v : Int32} {κ μ : kMem} (h : Rl κ μ) (hv : 0 ≤ v.toInt ∧ v.toInt + 6 ≤ (Ls : Int)) (hL : Ls ≤ 3072) (nx : ∀ κ1 μ1, Rl κ1 μ1 → J 1178 [some (.ref 0), some (.ref 1), some (.ref 2), some (.int v)] [] κ1 μ1) : J 742 [some (.ref 0), some (.ref 1), some (.ref 2), some (.int v)] [] κ μ := by
  have ri := h.ri
  obtain ⟨⟨t1, t2, -, -⟩, ⟨-, dd, dok, kc, mc⟩, ⟨-, mhd, -, -⟩, ⟨ln, mln, -, -, -⟩, ⟨tp, mtp, -, -⟩, ⟨ps, mps, -, -⟩, ⟨cl, mcl, -, -, -⟩⟩ := id h
  refine l_aload_n C dL_law_742 (i := 1) rfl rfl ?_
  refine l_aload_n C dL_law_743 (i := 0) rfl rfl ?_
  refine l_iload_n C dL_law_744 (i := 3) rfl rfl ?_
  refine l_iconst C dL_law_745 ?_
  refine l_iadd C dL_law_746 ?_
  refine l_ald C dL_law_747 (l_in hv hL (by decide)) ?_
  refine l_aload_n C dL_law_748 (i := 0) rfl rfl ?_
  refine l_iload_n C dL_law_749 (i := 3) rfl rfl ?_
  refine l_iconst C dL_law_750 ?_
  refine l_iadd C dL_law_751 ?_
  refine l_ald C dL_law_752 (l_in hv hL (by decide)) ?_
  refine l_aload_n C dL_law_753 (i := 0) rfl rfl ?_
  refine l_iload_n C dL_law_754 (i := 3) rfl rfl ?_
  refine l_iconst C dL_law_755 ?_
  refine l_iadd C dL_law_756 ?_
  refine l_ald C dL_law_757 (l_in hv hL (by decide)) ?_
  refine l_callK C yv_X11_mended rfl (tb3 73 rfl rfl) rfl (As := [xs (v + Int32.ofInt 1).toNatClampNeg, xs (v + Int32.ofInt 2).toNatClampNeg, xs (v + Int32.ofInt 3).toNatClampNeg]) (rest := []) rfl (Nat.le_of_ble_eq_true rfl) (ok_X11_mended (by rw [kc.2.2.1]; have := dok.1; exact ⟨by omega, by omega, fun w hw => by rw [kc.2.2.2 w (by omega)]; exact (dok.2.2 w (by omega)).1⟩)) dL_law_758 rfl (fun r κ1 hk => ?_)
  refine l_aload_n C dL_law_761 (i := 2) rfl rfl ?_
  refine l_aload_n C dL_law_762 (i := 0) rfl rfl ?_
  refine l_iload_n C dL_law_763 (i := 3) rfl rfl ?_
  refine l_iconst C dL_law_764 ?_
  refine l_iadd C dL_law_765 ?_
  refine l_ald C dL_law_766 (l_in hv hL (by decide)) ?_
  refine l_aload_n C dL_law_767 (i := 0) rfl rfl ?_
  refine l_iload_n C dL_law_768 (i := 3) rfl rfl ?_
  refine l_iconst C dL_law_769 ?_
  refine l_iadd C dL_law_770 ?_
  refine l_ald C dL_law_771 (l_in hv hL (by decide)) ?_
  refine l_aload_n C dL_law_772 (i := 0) rfl rfl ?_
  refine l_iload_n C dL_law_773 (i := 3) rfl rfl ?_
  refine l_iconst C dL_law_774 ?_
  refine l_iadd C dL_law_775 ?_
  refine l_ald C dL_law_776 (l_in hv hL (by decide)) ?_
  refine l_callM C yv_X12_mended rfl (tb7 23 rfl rfl) rfl (As := [xs (v + Int32.ofInt 1).toNatClampNeg, xs (v + Int32.ofInt 2).toNatClampNeg, xs (v + Int32.ofInt 3).toNatClampNeg]) (rest := [.int r]) rfl (Nat.le_of_ble_eq_true rfl) (ok_X12_mended (by rw [mc.2.2.1]; have := dok.1; exact ⟨⟨by omega, by omega⟩, fun w hw => by rw [mc.2.2.2 w (by omega)]; exact (dok.2.2 w (by omega)).1⟩)) dL_law_777 rfl (fun r1 μ1 hm => ?_)
  obtain ⟨e, h9⟩ := st_mended h hk hm
  subst e
  refine l_eq C dL_law_780 (tgt := 1178) (by decide) ?_
  exact nx _ _ h9
set_option maxRecDepth 20000 in
theorem lc_message {Ls : Nat} {xs : Nat → Int32} {J : lJt} (C : lR Ls xs J) {v : Int32} {κ μ : kMem} (h : Rl κ μ) (hv : 0 ≤ v.toInt ∧ v.toInt + 6 ≤ (Ls : Int)) (hL : Ls ≤ 3072) (nx : ∀ κ1 μ1, Rl κ1 μ1 → J 1178 [some (.ref 0), some (.ref 1), some (.ref 2), some (.int v)] [] κ1 μ1) : J 785 [some (.ref 0), some (.ref 1), some (.ref 2), some (.int v)] [] κ μ := by
  have ri := h.ri
  obtain ⟨⟨t1, t2, -, -⟩, ⟨-, dd, dok, kc, mc⟩, ⟨-, mhd, -, -⟩, ⟨ln, mln, -, -, -⟩, ⟨tp, mtp, -, -⟩, ⟨ps, mps, -, -⟩, ⟨cl, mcl, -, -, -⟩⟩ := id h
  refine l_aload_n C dL_law_785 (i := 1) rfl rfl ?_
  refine l_aload_n C dL_law_786 (i := 0) rfl rfl ?_
  refine l_iload_n C dL_law_787 (i := 3) rfl rfl ?_
  refine l_iconst C dL_law_788 ?_
  refine l_iadd C dL_law_789 ?_
  refine l_ald C dL_law_790 (l_in hv hL (by decide)) ?_
  refine l_aload_n C dL_law_791 (i := 0) rfl rfl ?_
  refine l_iload_n C dL_law_792 (i := 3) rfl rfl ?_
  refine l_iconst C dL_law_793 ?_
  refine l_iadd C dL_law_794 ?_
  refine l_ald C dL_law_795 (l_in hv hL (by decide)) ?_
  refine l_aload_n C dL_law_796 (i := 0) rfl rfl ?_
  refine l_iload_n C dL_law_797 (i := 3) rfl rfl ?_
  refine l_iconst C dL_law_798 ?_
  refine l_iadd C dL_law_799 ?_
  refine l_ald C dL_law_800 (l_in hv hL (by decide)) ?_
  refine l_callK C yv_X11_message rfl (tb4 127 rfl rfl) rfl (As := [xs (v + Int32.ofInt 1).toNatClampNeg, xs (v + Int32.ofInt 2).toNatClampNeg, xs (v + Int32.ofInt 3).toNatClampNeg]) (rest := []) rfl (Nat.le_of_ble_eq_true rfl) (ok_X11_message ⟨ln, ps.1⟩) dL_law_801 rfl (fun r κ1 hk => ?_)
  refine l_aload_n C dL_law_804 (i := 2) rfl rfl ?_
  refine l_aload_n C dL_law_805 (i := 0) rfl rfl ?_
  refine l_iload_n C dL_law_806 (i := 3) rfl rfl ?_
  refine l_iconst C dL_law_807 ?_
  refine l_iadd C dL_law_808 ?_
  refine l_ald C dL_law_809 (l_in hv hL (by decide)) ?_
  refine l_aload_n C dL_law_810 (i := 0) rfl rfl ?_
  refine l_iload_n C dL_law_811 (i := 3) rfl rfl ?_
  refine l_iconst C dL_law_812 ?_
  refine l_iadd C dL_law_813 ?_
  refine l_ald C dL_law_814 (l_in hv hL (by decide)) ?_
  refine l_aload_n C dL_law_815 (i := 0) rfl rfl ?_
  refine l_iload_n C dL_law_816 (i := 3) rfl rfl ?_
  refine l_iconst C dL_law_817 ?_
  refine l_iadd C dL_law_818 ?_
  refine l_ald C dL_law_819 (l_in hv hL (by decide)) ?_
  refine l_callM C yv_X12_message rfl (tb7 41 rfl rfl) rfl (As := [xs (v + Int32.ofInt 1).toNatClampNeg, xs (v + Int32.ofInt 2).toNatClampNeg, xs (v + Int32.ofInt 3).toNatClampNeg]) (rest := [.int r]) rfl (Nat.le_of_ble_eq_true rfl) (ok_X12_message ⟨mln, mps.1⟩) dL_law_820 rfl (fun r1 μ1 hm => ?_)
  obtain ⟨e, h9⟩ := st_message h hk hm
  subst e
  refine l_eq C dL_law_823 (tgt := 1178) (by decide) ?_
  exact nx _ _ h9
set_option maxRecDepth 20000 in
theorem lc_route {Ls : Nat} {xs : Nat → Int32} {J : lJt} (C : lR Ls xs J) {v : Int32} {κ μ : kMem} (h : Rl κ μ) (hv : 0 ≤ v.toInt ∧ v.toInt + 6 ≤ (Ls : Int)) (hL : Ls ≤ 3072) (nx : ∀ κ1 μ1, Rl κ1 μ1 → J 1178 [some (.ref 0), some (.ref 1), some (.ref 2), some (.int v)] [] κ1 μ1) : J 828 [some (.ref 0), some (.ref 1), some (.ref 2), some (.int v)] [] κ μ := by
  have ri := h.ri
  obtain ⟨⟨t1, t2, -, -⟩, ⟨-, dd, dok, kc, mc⟩, ⟨-, mhd, -, -⟩, ⟨ln, mln, -, -, -⟩, ⟨tp, mtp, -, -⟩, ⟨ps, mps, -, -⟩, ⟨cl, mcl, -, -, -⟩⟩ := id h
  refine l_aload_n C dL_law_828 (i := 1) rfl rfl ?_
  refine l_aload_n C dL_law_829 (i := 0) rfl rfl ?_
  refine l_iload_n C dL_law_830 (i := 3) rfl rfl ?_
  refine l_iconst C dL_law_831 ?_
  refine l_iadd C dL_law_832 ?_
  refine l_ald C dL_law_833 (l_in hv hL (by decide)) ?_
  refine l_aload_n C dL_law_834 (i := 0) rfl rfl ?_
  refine l_iload_n C dL_law_835 (i := 3) rfl rfl ?_
  refine l_iconst C dL_law_836 ?_
  refine l_iadd C dL_law_837 ?_
  refine l_ald C dL_law_838 (l_in hv hL (by decide)) ?_
  refine l_aload_n C dL_law_839 (i := 0) rfl rfl ?_
  refine l_iload_n C dL_law_840 (i := 3) rfl rfl ?_
  refine l_iconst C dL_law_841 ?_
  refine l_iadd C dL_law_842 ?_
  refine l_ald C dL_law_843 (l_in hv hL (by decide)) ?_
  refine l_callK C yv_X11_route rfl (tb4 149 rfl rfl) rfl (As := [xs (v + Int32.ofInt 1).toNatClampNeg, xs (v + Int32.ofInt 2).toNatClampNeg, xs (v + Int32.ofInt 3).toNatClampNeg]) (rest := []) rfl (Nat.le_of_ble_eq_true rfl) (ok_X11_route ln) dL_law_844 rfl (fun r κ1 hk => ?_)
  refine l_aload_n C dL_law_847 (i := 2) rfl rfl ?_
  refine l_aload_n C dL_law_848 (i := 0) rfl rfl ?_
  refine l_iload_n C dL_law_849 (i := 3) rfl rfl ?_
  refine l_iconst C dL_law_850 ?_
  refine l_iadd C dL_law_851 ?_
  refine l_ald C dL_law_852 (l_in hv hL (by decide)) ?_
  refine l_aload_n C dL_law_853 (i := 0) rfl rfl ?_
  refine l_iload_n C dL_law_854 (i := 3) rfl rfl ?_
  refine l_iconst C dL_law_855 ?_
  refine l_iadd C dL_law_856 ?_
  refine l_ald C dL_law_857 (l_in hv hL (by decide)) ?_
  refine l_aload_n C dL_law_858 (i := 0) rfl rfl ?_
  refine l_iload_n C dL_law_859 (i := 3) rfl rfl ?_
  refine l_iconst C dL_law_860 ?_
  refine l_iadd C dL_law_861 ?_
  refine l_ald C dL_law_862 (l_in hv hL (by decide)) ?_
  refine l_callM C yv_X12_route rfl (tb7 29 rfl rfl) rfl (As := [xs (v + Int32.ofInt 1).toNatClampNeg, xs (v + Int32.ofInt 2).toNatClampNeg, xs (v + Int32.ofInt 3).toNatClampNeg]) (rest := [.int r]) rfl (Nat.le_of_ble_eq_true rfl) (ok_X12_route mln) dL_law_863 rfl (fun r1 μ1 hm => ?_)
  obtain ⟨e, h9⟩ := st_route h hk hm
  subst e
  refine l_eq C dL_law_866 (tgt := 1178) (by decide) ?_
  exact nx _ _ h9
set_option maxRecDepth 20000 in
theorem lc_sent {Ls : Nat} {xs : Nat → Int32} {J : lJt} (C : lR Ls xs J) {v : Int32} {κ μ : kMem} (h : Rl κ μ) (hv : 0 ≤ v.toInt ∧ v.toInt + 6 ≤ (Ls : Int)) (hL : Ls ≤ 3072) (nx : ∀ κ1 μ1, Rl κ1 μ1 → J 1178 [some (.ref 0), some (.ref 1), some (.ref 2), some (.int v)] [] κ1 μ1) : J 871 [some (.ref 0), some (.ref 1), some (.ref 2), some (.int v)] [] κ μ := by
  have ri := h.ri
  obtain ⟨⟨t1, t2, -, -⟩, ⟨-, dd, dok, kc, mc⟩, ⟨-, mhd, -, -⟩, ⟨ln, mln, -, -, -⟩, ⟨tp, mtp, -, -⟩, ⟨ps, mps, -, -⟩, ⟨cl, mcl, -, -, -⟩⟩ := id h
  refine l_aload_n C dL_law_871 (i := 1) rfl rfl ?_
  refine l_aload_n C dL_law_872 (i := 0) rfl rfl ?_
  refine l_iload_n C dL_law_873 (i := 3) rfl rfl ?_
  refine l_iconst C dL_law_874 ?_
  refine l_iadd C dL_law_875 ?_
  refine l_ald C dL_law_876 (l_in hv hL (by decide)) ?_
  refine l_aload_n C dL_law_877 (i := 0) rfl rfl ?_
  refine l_iload_n C dL_law_878 (i := 3) rfl rfl ?_
  refine l_iconst C dL_law_879 ?_
  refine l_iadd C dL_law_880 ?_
  refine l_ald C dL_law_881 (l_in hv hL (by decide)) ?_
  refine l_aload_n C dL_law_882 (i := 0) rfl rfl ?_
  refine l_iload_n C dL_law_883 (i := 3) rfl rfl ?_
  refine l_iconst C dL_law_884 ?_
  refine l_iadd C dL_law_885 ?_
  refine l_ald C dL_law_886 (l_in hv hL (by decide)) ?_
  refine l_callK C yv_X11_sent rfl (tb4 157 rfl rfl) rfl (As := [xs (v + Int32.ofInt 1).toNatClampNeg, xs (v + Int32.ofInt 2).toNatClampNeg, xs (v + Int32.ofInt 3).toNatClampNeg]) (rest := []) rfl (Nat.le_of_ble_eq_true rfl) (ok_X11_sent ⟨ln, ps⟩) dL_law_887 rfl (fun r κ1 hk => ?_)
  refine l_aload_n C dL_law_890 (i := 2) rfl rfl ?_
  refine l_aload_n C dL_law_891 (i := 0) rfl rfl ?_
  refine l_iload_n C dL_law_892 (i := 3) rfl rfl ?_
  refine l_iconst C dL_law_893 ?_
  refine l_iadd C dL_law_894 ?_
  refine l_ald C dL_law_895 (l_in hv hL (by decide)) ?_
  refine l_aload_n C dL_law_896 (i := 0) rfl rfl ?_
  refine l_iload_n C dL_law_897 (i := 3) rfl rfl ?_
  refine l_iconst C dL_law_898 ?_
  refine l_iadd C dL_law_899 ?_
  refine l_ald C dL_law_900 (l_in hv hL (by decide)) ?_
  refine l_aload_n C dL_law_901 (i := 0) rfl rfl ?_
  refine l_iload_n C dL_law_902 (i := 3) rfl rfl ?_
  refine l_iconst C dL_law_903 ?_
  refine l_iadd C dL_law_904 ?_
  refine l_ald C dL_law_905 (l_in hv hL (by decide)) ?_
  refine l_callM C yv_X12_sent rfl (tb7 47 rfl rfl) rfl (As := [xs (v + Int32.ofInt 1).toNatClampNeg, xs (v + Int32.ofInt 2).toNatClampNeg, xs (v + Int32.ofInt 3).toNatClampNeg]) (rest := [.int r]) rfl (Nat.le_of_ble_eq_true rfl) (ok_X12_sent ⟨mln, mps⟩) dL_law_906 rfl (fun r1 μ1 hm => ?_)
  obtain ⟨e, h9⟩ := st_sent h hk hm
  subst e
  refine l_eq C dL_law_909 (tgt := 1178) (by decide) ?_
  exact nx _ _ h9
set_option maxRecDepth 20000 in
theorem lc_tap {Ls : Nat} {xs : Nat → Int32} {J : lJt} (C : lR Ls xs J) {v : Int32} {κ μ : kMem} (h : Rl κ μ) (hv : 0 ≤ v.toInt ∧ v.toInt + 6 ≤ (Ls : Int)) (hL : Ls ≤ 3072) (nx : ∀ κ1 μ1, Rl κ1 μ1 → J 1178 [some (.ref 0), some (.ref 1), some (.ref 2), some (.int v)] [] κ1 μ1) : J 914 [some (.ref 0), some (.ref 1), some (.ref 2), some (.int v)] [] κ μ := by
  have ri := h.ri
  obtain ⟨⟨t1, t2, -, -⟩, ⟨-, dd, dok, kc, mc⟩, ⟨-, mhd, -, -⟩, ⟨ln, mln, -, -, -⟩, ⟨tp, mtp, -, -⟩, ⟨ps, mps, -, -⟩, ⟨cl, mcl, -, -, -⟩⟩ := id h
  refine l_aload_n C dL_law_914 (i := 1) rfl rfl ?_
  refine l_aload_n C dL_law_915 (i := 0) rfl rfl ?_
  refine l_iload_n C dL_law_916 (i := 3) rfl rfl ?_
  refine l_iconst C dL_law_917 ?_
  refine l_iadd C dL_law_918 ?_
  refine l_ald C dL_law_919 (l_in hv hL (by decide)) ?_
  refine l_aload_n C dL_law_920 (i := 0) rfl rfl ?_
  refine l_iload_n C dL_law_921 (i := 3) rfl rfl ?_
  refine l_iconst C dL_law_922 ?_
  refine l_iadd C dL_law_923 ?_
  refine l_ald C dL_law_924 (l_in hv hL (by decide)) ?_
  refine l_callK C yv_X11_tap rfl (tb4 215 rfl rfl) rfl (As := [xs (v + Int32.ofInt 1).toNatClampNeg, xs (v + Int32.ofInt 2).toNatClampNeg]) (rest := []) rfl (Nat.le_of_ble_eq_true rfl) (ok_X11_tap ⟨ln, ps⟩) dL_law_925 rfl (fun r κ1 hk => ?_)
  refine l_aload_n C dL_law_928 (i := 2) rfl rfl ?_
  refine l_aload_n C dL_law_929 (i := 0) rfl rfl ?_
  refine l_iload_n C dL_law_930 (i := 3) rfl rfl ?_
  refine l_iconst C dL_law_931 ?_
  refine l_iadd C dL_law_932 ?_
  refine l_ald C dL_law_933 (l_in hv hL (by decide)) ?_
  refine l_aload_n C dL_law_934 (i := 0) rfl rfl ?_
  refine l_iload_n C dL_law_935 (i := 3) rfl rfl ?_
  refine l_iconst C dL_law_936 ?_
  refine l_iadd C dL_law_937 ?_
  refine l_ald C dL_law_938 (l_in hv hL (by decide)) ?_
  refine l_callM C yv_X12_tap rfl (tb7 65 rfl rfl) rfl (As := [xs (v + Int32.ofInt 1).toNatClampNeg, xs (v + Int32.ofInt 2).toNatClampNeg]) (rest := [.int r]) rfl (Nat.le_of_ble_eq_true rfl) (ok_X12_tap ⟨mln, mps⟩) dL_law_939 rfl (fun r1 μ1 hm => ?_)
  obtain ⟨e, h9⟩ := st_tap h hk hm
  subst e
  refine l_eq C dL_law_942 (tgt := 1178) (by decide) ?_
  exact nx _ _ h9
set_option maxRecDepth 20000 in
theorem lc_clock {Ls : Nat} {xs : Nat → Int32} {J : lJt} (C : lR Ls xs J) {v : Int32} {κ μ : kMem} (h : Rl κ μ) (hv : 0 ≤ v.toInt ∧ v.toInt + 6 ≤ (Ls : Int)) (hL : Ls ≤ 3072) (nx : ∀ κ1 μ1, Rl κ1 μ1 → J 1178 [some (.ref 0), some (.ref 1), some (.ref 2), some (.int v)] [] κ1 μ1) : J 947 [some (.ref 0), some (.ref 1), some (.ref 2), some (.int v)] [] κ μ := by
  refine l_aload_n C dL_law_947 (i := 1) rfl rfl ?_
  refine l_aload_n C dL_law_948 (i := 0) rfl rfl ?_
  refine l_iload_n C dL_law_949 (i := 3) rfl rfl ?_
  refine l_iconst C dL_law_950 ?_
  refine l_iadd C dL_law_951 ?_
  refine l_ald C dL_law_952 (l_in hv hL (by decide)) ?_
  refine l_aload_n C dL_law_953 (i := 0) rfl rfl ?_
  refine l_iload_n C dL_law_954 (i := 3) rfl rfl ?_
  refine l_iconst C dL_law_955 ?_
  refine l_iadd C dL_law_956 ?_
  refine l_ald C dL_law_957 (l_in hv hL (by decide)) ?_
  refine l_aload_n C dL_law_958 (i := 0) rfl rfl ?_
  refine l_iload_n C dL_law_959 (i := 3) rfl rfl ?_
  refine l_iconst C dL_law_960 ?_
  refine l_iadd C dL_law_961 ?_
  refine l_ald C dL_law_962 (l_in hv hL (by decide)) ?_
  refine l_callK C yv_X11_clock rfl (tb4 231 rfl rfl) rfl (As := [xs (v + Int32.ofInt 1).toNatClampNeg, xs (v + Int32.ofInt 2).toNatClampNeg, xs (v + Int32.ofInt 3).toNatClampNeg]) (rest := []) rfl (Nat.le_of_ble_eq_true rfl) (ok_X11_clock) dL_law_963 rfl (fun r κ1 hk => ?_)
  refine l_aload_n C dL_law_966 (i := 2) rfl rfl ?_
  refine l_aload_n C dL_law_967 (i := 0) rfl rfl ?_
  refine l_iload_n C dL_law_968 (i := 3) rfl rfl ?_
  refine l_iconst C dL_law_969 ?_
  refine l_iadd C dL_law_970 ?_
  refine l_ald C dL_law_971 (l_in hv hL (by decide)) ?_
  refine l_aload_n C dL_law_972 (i := 0) rfl rfl ?_
  refine l_iload_n C dL_law_973 (i := 3) rfl rfl ?_
  refine l_iconst C dL_law_974 ?_
  refine l_iadd C dL_law_975 ?_
  refine l_ald C dL_law_976 (l_in hv hL (by decide)) ?_
  refine l_aload_n C dL_law_977 (i := 0) rfl rfl ?_
  refine l_iload_n C dL_law_978 (i := 3) rfl rfl ?_
  refine l_iconst C dL_law_979 ?_
  refine l_iadd C dL_law_980 ?_
  refine l_ald C dL_law_981 (l_in hv hL (by decide)) ?_
  refine l_callM C yv_X12_clock rfl (tb7 69 rfl rfl) rfl (As := [xs (v + Int32.ofInt 1).toNatClampNeg, xs (v + Int32.ofInt 2).toNatClampNeg, xs (v + Int32.ofInt 3).toNatClampNeg]) (rest := [.int r]) rfl (Nat.le_of_ble_eq_true rfl) (ok_X12_clock) dL_law_982 rfl (fun r1 μ1 hm => ?_)
  obtain ⟨e, h9⟩ := st_clock h hk hm
  subst e
  refine l_eq C dL_law_985 (tgt := 1178) (by decide) ?_
  exact nx _ _ h9
set_option maxRecDepth 20000 in
theorem lc_event {Ls : Nat} {xs : Nat → Int32} {J : lJt} (C : lR Ls xs J) {v : Int32} {κ μ : kMem} (h : Rl κ μ) (hv : 0 ≤ v.toInt ∧ v.toInt + 6 ≤ (Ls : Int)) (hL : Ls ≤ 3072) (nx : ∀ κ1 μ1, Rl κ1 μ1 → J 1178 [some (.ref 0), some (.ref 1), some (.ref 2), some (.int v)] [] κ1 μ1) : J 990 [some (.ref 0), some (.ref 1), some (.ref 2), some (.int v)] [] κ μ := by
  have ri := h.ri
  obtain ⟨⟨t1, t2, -, -⟩, ⟨-, dd, dok, kc, mc⟩, ⟨-, mhd, -, -⟩, ⟨ln, mln, -, -, -⟩, ⟨tp, mtp, -, -⟩, ⟨ps, mps, -, -⟩, ⟨cl, mcl, -, -, -⟩⟩ := id h
  refine l_aload_n C dL_law_990 (i := 1) rfl rfl ?_
  refine l_aload_n C dL_law_991 (i := 0) rfl rfl ?_
  refine l_iload_n C dL_law_992 (i := 3) rfl rfl ?_
  refine l_iconst C dL_law_993 ?_
  refine l_iadd C dL_law_994 ?_
  refine l_ald C dL_law_995 (l_in hv hL (by decide)) ?_
  refine l_aload_n C dL_law_996 (i := 0) rfl rfl ?_
  refine l_iload_n C dL_law_997 (i := 3) rfl rfl ?_
  refine l_iconst C dL_law_998 ?_
  refine l_iadd C dL_law_999 ?_
  refine l_ald C dL_law_1000 (l_in hv hL (by decide)) ?_
  refine l_callK C yv_X11_event rfl (tb5 0 rfl rfl) rfl (As := [xs (v + Int32.ofInt 1).toNatClampNeg, xs (v + Int32.ofInt 2).toNatClampNeg]) (rest := []) rfl (Nat.le_of_ble_eq_true rfl) (ok_X11_event cl.1) dL_law_1001 rfl (fun r κ1 hk => ?_)
  refine l_aload_n C dL_law_1004 (i := 2) rfl rfl ?_
  refine l_aload_n C dL_law_1005 (i := 0) rfl rfl ?_
  refine l_iload_n C dL_law_1006 (i := 3) rfl rfl ?_
  refine l_iconst C dL_law_1007 ?_
  refine l_iadd C dL_law_1008 ?_
  refine l_ald C dL_law_1009 (l_in hv hL (by decide)) ?_
  refine l_aload_n C dL_law_1010 (i := 0) rfl rfl ?_
  refine l_iload_n C dL_law_1011 (i := 3) rfl rfl ?_
  refine l_iconst C dL_law_1012 ?_
  refine l_iadd C dL_law_1013 ?_
  refine l_ald C dL_law_1014 (l_in hv hL (by decide)) ?_
  refine l_callM C yv_X12_event rfl (tb7 74 rfl rfl) rfl (As := [xs (v + Int32.ofInt 1).toNatClampNeg, xs (v + Int32.ofInt 2).toNatClampNeg]) (rest := [.int r]) rfl (Nat.le_of_ble_eq_true rfl) (ok_X12_event mcl.1) dL_law_1015 rfl (fun r1 μ1 hm => ?_)
  obtain ⟨e, h9⟩ := st_event h hk hm
  subst e
  refine l_eq C dL_law_1018 (tgt := 1178) (by decide) ?_
  exact nx _ _ h9
set_option maxRecDepth 20000 in
theorem lc_fact {Ls : Nat} {xs : Nat → Int32} {J : lJt} (C : lR Ls xs J) {v : Int32} {κ μ : kMem} (h : Rl κ μ) (hv : 0 ≤ v.toInt ∧ v.toInt + 6 ≤ (Ls : Int)) (hL : Ls ≤ 3072) (nx : ∀ κ1 μ1, Rl κ1 μ1 → J 1178 [some (.ref 0), some (.ref 1), some (.ref 2), some (.int v)] [] κ1 μ1) : J 1023 [some (.ref 0), some (.ref 1), some (.ref 2), some (.int v)] [] κ μ := by
  have ri := h.ri
  obtain ⟨⟨t1, t2, -, -⟩, ⟨-, dd, dok, kc, mc⟩, ⟨-, mhd, -, -⟩, ⟨ln, mln, -, -, -⟩, ⟨tp, mtp, -, -⟩, ⟨ps, mps, -, -⟩, ⟨cl, mcl, -, -, -⟩⟩ := id h
  refine l_aload_n C dL_law_1023 (i := 1) rfl rfl ?_
  refine l_aload_n C dL_law_1024 (i := 0) rfl rfl ?_
  refine l_iload_n C dL_law_1025 (i := 3) rfl rfl ?_
  refine l_iconst C dL_law_1026 ?_
  refine l_iadd C dL_law_1027 ?_
  refine l_ald C dL_law_1028 (l_in hv hL (by decide)) ?_
  refine l_aload_n C dL_law_1029 (i := 0) rfl rfl ?_
  refine l_iload_n C dL_law_1030 (i := 3) rfl rfl ?_
  refine l_iconst C dL_law_1031 ?_
  refine l_iadd C dL_law_1032 ?_
  refine l_ald C dL_law_1033 (l_in hv hL (by decide)) ?_
  refine l_aload_n C dL_law_1034 (i := 0) rfl rfl ?_
  refine l_iload_n C dL_law_1035 (i := 3) rfl rfl ?_
  refine l_iconst C dL_law_1036 ?_
  refine l_iadd C dL_law_1037 ?_
  refine l_ald C dL_law_1038 (l_in hv hL (by decide)) ?_
  refine l_callK C yv_X11_fact rfl (tb5 8 rfl rfl) rfl (As := [xs (v + Int32.ofInt 1).toNatClampNeg, xs (v + Int32.ofInt 2).toNatClampNeg, xs (v + Int32.ofInt 3).toNatClampNeg]) (rest := []) rfl (Nat.le_of_ble_eq_true rfl) (ok_X11_fact cl.2.1) dL_law_1039 rfl (fun r κ1 hk => ?_)
  refine l_aload_n C dL_law_1042 (i := 2) rfl rfl ?_
  refine l_aload_n C dL_law_1043 (i := 0) rfl rfl ?_
  refine l_iload_n C dL_law_1044 (i := 3) rfl rfl ?_
  refine l_iconst C dL_law_1045 ?_
  refine l_iadd C dL_law_1046 ?_
  refine l_ald C dL_law_1047 (l_in hv hL (by decide)) ?_
  refine l_aload_n C dL_law_1048 (i := 0) rfl rfl ?_
  refine l_iload_n C dL_law_1049 (i := 3) rfl rfl ?_
  refine l_iconst C dL_law_1050 ?_
  refine l_iadd C dL_law_1051 ?_
  refine l_ald C dL_law_1052 (l_in hv hL (by decide)) ?_
  refine l_aload_n C dL_law_1053 (i := 0) rfl rfl ?_
  refine l_iload_n C dL_law_1054 (i := 3) rfl rfl ?_
  refine l_iconst C dL_law_1055 ?_
  refine l_iadd C dL_law_1056 ?_
  refine l_ald C dL_law_1057 (l_in hv hL (by decide)) ?_
  refine l_callM C yv_X12_fact rfl (tb7 78 rfl rfl) rfl (As := [xs (v + Int32.ofInt 1).toNatClampNeg, xs (v + Int32.ofInt 2).toNatClampNeg, xs (v + Int32.ofInt 3).toNatClampNeg]) (rest := [.int r]) rfl (Nat.le_of_ble_eq_true rfl) (ok_X12_fact ⟨mcl.2.1, mcl.1.1⟩) dL_law_1058 rfl (fun r1 μ1 hm => ?_)
  obtain ⟨e, h9⟩ := st_fact h hk hm
  subst e
  refine l_eq C dL_law_1061 (tgt := 1178) (by decide) ?_
  exact nx _ _ h9
set_option maxRecDepth 20000 in
theorem lc_undo {Ls : Nat} {xs : Nat → Int32} {J : lJt} (C : lR Ls xs J) {v : Int32} {κ μ : kMem} (h : Rl κ μ) (hv : 0 ≤ v.toInt ∧ v.toInt + 6 ≤ (Ls : Int)) (hL : Ls ≤ 3072) (nx : ∀ κ1 μ1, Rl κ1 μ1 → J 1178 [some (.ref 0), some (.ref 1), some (.ref 2), some (.int v)] [] κ1 μ1) : J 1066 [some (.ref 0), some (.ref 1), some (.ref 2), some (.int v)] [] κ μ := by
  have ri := h.ri
  obtain ⟨⟨t1, t2, -, -⟩, ⟨-, dd, dok, kc, mc⟩, ⟨-, mhd, -, -⟩, ⟨ln, mln, -, -, -⟩, ⟨tp, mtp, -, -⟩, ⟨ps, mps, -, -⟩, ⟨cl, mcl, -, -, -⟩⟩ := id h
  refine l_aload_n C dL_law_1066 (i := 1) rfl rfl ?_
  refine l_callK C yv_X11_undo rfl (tb5 20 rfl rfl) rfl (As := []) (rest := []) rfl (Nat.le_of_ble_eq_true rfl) (ok_X11_undo cl.2.1.1) dL_law_1067 rfl (fun r κ1 hk => ?_)
  refine l_aload_n C dL_law_1070 (i := 2) rfl rfl ?_
  refine l_callM C yv_X12_undo rfl (tb7 87 rfl rfl) rfl (As := []) (rest := [.int r]) rfl (Nat.le_of_ble_eq_true rfl) (ok_X12_undo mcl.2.1.1) dL_law_1071 rfl (fun r1 μ1 hm => ?_)
  obtain ⟨e, h9⟩ := st_undo h hk hm
  subst e
  refine l_eq C dL_law_1074 (tgt := 1178) (by decide) ?_
  exact nx _ _ h9
set_option maxRecDepth 20000 in
theorem lc_apart {Ls : Nat} {xs : Nat → Int32} {J : lJt} (C : lR Ls xs J) {v : Int32} {κ μ : kMem} (h : Rl κ μ) (hv : 0 ≤ v.toInt ∧ v.toInt + 6 ≤ (Ls : Int)) (hL : Ls ≤ 3072) (nx : ∀ κ1 μ1, Rl κ1 μ1 → J 1178 [some (.ref 0), some (.ref 1), some (.ref 2), some (.int v)] [] κ1 μ1) : J 1079 [some (.ref 0), some (.ref 1), some (.ref 2), some (.int v)] [] κ μ := by
  have ri := h.ri
  obtain ⟨⟨t1, t2, -, -⟩, ⟨-, dd, dok, kc, mc⟩, ⟨-, mhd, -, -⟩, ⟨ln, mln, -, -, -⟩, ⟨tp, mtp, -, -⟩, ⟨ps, mps, -, -⟩, ⟨cl, mcl, -, -, -⟩⟩ := id h
  refine l_aload_n C dL_law_1079 (i := 1) rfl rfl ?_
  refine l_aload_n C dL_law_1080 (i := 0) rfl rfl ?_
  refine l_iload_n C dL_law_1081 (i := 3) rfl rfl ?_
  refine l_iconst C dL_law_1082 ?_
  refine l_iadd C dL_law_1083 ?_
  refine l_ald C dL_law_1084 (l_in hv hL (by decide)) ?_
  refine l_aload_n C dL_law_1085 (i := 0) rfl rfl ?_
  refine l_iload_n C dL_law_1086 (i := 3) rfl rfl ?_
  refine l_iconst C dL_law_1087 ?_
  refine l_iadd C dL_law_1088 ?_
  refine l_ald C dL_law_1089 (l_in hv hL (by decide)) ?_
  refine l_aload_n C dL_law_1090 (i := 0) rfl rfl ?_
  refine l_iload_n C dL_law_1091 (i := 3) rfl rfl ?_
  refine l_iconst C dL_law_1092 ?_
  refine l_iadd C dL_law_1093 ?_
  refine l_ald C dL_law_1094 (l_in hv hL (by decide)) ?_
  refine l_callK C yv_X11_apart rfl (tb5 28 rfl rfl) rfl (As := [xs (v + Int32.ofInt 1).toNatClampNeg, xs (v + Int32.ofInt 2).toNatClampNeg, xs (v + Int32.ofInt 3).toNatClampNeg]) (rest := []) rfl (Nat.le_of_ble_eq_true rfl) (ok_X11_apart cl) dL_law_1095 rfl (fun r κ1 hk => ?_)
  refine l_aload_n C dL_law_1098 (i := 2) rfl rfl ?_
  refine l_aload_n C dL_law_1099 (i := 0) rfl rfl ?_
  refine l_iload_n C dL_law_1100 (i := 3) rfl rfl ?_
  refine l_iconst C dL_law_1101 ?_
  refine l_iadd C dL_law_1102 ?_
  refine l_ald C dL_law_1103 (l_in hv hL (by decide)) ?_
  refine l_aload_n C dL_law_1104 (i := 0) rfl rfl ?_
  refine l_iload_n C dL_law_1105 (i := 3) rfl rfl ?_
  refine l_iconst C dL_law_1106 ?_
  refine l_iadd C dL_law_1107 ?_
  refine l_ald C dL_law_1108 (l_in hv hL (by decide)) ?_
  refine l_aload_n C dL_law_1109 (i := 0) rfl rfl ?_
  refine l_iload_n C dL_law_1110 (i := 3) rfl rfl ?_
  refine l_iconst C dL_law_1111 ?_
  refine l_iadd C dL_law_1112 ?_
  refine l_ald C dL_law_1113 (l_in hv hL (by decide)) ?_
  refine l_callM C yv_X12_apart rfl (tb7 91 rfl rfl) rfl (As := [xs (v + Int32.ofInt 1).toNatClampNeg, xs (v + Int32.ofInt 2).toNatClampNeg, xs (v + Int32.ofInt 3).toNatClampNeg]) (rest := [.int r]) rfl (Nat.le_of_ble_eq_true rfl) (ok_X12_apart mcl) dL_law_1114 rfl (fun r1 μ1 hm => ?_)
  obtain ⟨e, h9⟩ := st_apart h hk hm
  subst e
  refine l_eq C dL_law_1117 (tgt := 1178) (by decide) ?_
  exact nx _ _ h9
set_option maxRecDepth 20000 in
theorem lc_first {Ls : Nat} {xs : Nat → Int32} {J : lJt} (C : lR Ls xs J) {v : Int32} {κ μ : kMem} (h : Rl κ μ) (hv : 0 ≤ v.toInt ∧ v.toInt + 6 ≤ (Ls : Int)) (hL : Ls ≤ 3072) (nx : ∀ κ1 μ1, Rl κ1 μ1 → J 1178 [some (.ref 0), some (.ref 1), some (.ref 2), some (.int v)] [] κ1 μ1) : J 1122 [some (.ref 0), some (.ref 1), some (.ref 2), some (.int v)] [] κ μ := by
  have ri := h.ri
  obtain ⟨⟨t1, t2, -, -⟩, ⟨-, dd, dok, kc, mc⟩, ⟨-, mhd, -, -⟩, ⟨ln, mln, -, -, -⟩, ⟨tp, mtp, -, -⟩, ⟨ps, mps, -, -⟩, ⟨cl, mcl, -, -, -⟩⟩ := id h
  refine l_aload_n C dL_law_1122 (i := 1) rfl rfl ?_
  refine l_aload_n C dL_law_1123 (i := 0) rfl rfl ?_
  refine l_iload_n C dL_law_1124 (i := 3) rfl rfl ?_
  refine l_iconst C dL_law_1125 ?_
  refine l_iadd C dL_law_1126 ?_
  refine l_ald C dL_law_1127 (l_in hv hL (by decide)) ?_
  refine l_aload_n C dL_law_1128 (i := 0) rfl rfl ?_
  refine l_iload_n C dL_law_1129 (i := 3) rfl rfl ?_
  refine l_iconst C dL_law_1130 ?_
  refine l_iadd C dL_law_1131 ?_
  refine l_ald C dL_law_1132 (l_in hv hL (by decide)) ?_
  refine l_callK C yv_X11_first rfl (tb5 64 rfl rfl) rfl (As := [xs (v + Int32.ofInt 1).toNatClampNeg, xs (v + Int32.ofInt 2).toNatClampNeg]) (rest := []) rfl (Nat.le_of_ble_eq_true rfl) (ok_X11_first cl) dL_law_1133 rfl (fun r κ1 hk => ?_)
  refine l_aload_n C dL_law_1136 (i := 2) rfl rfl ?_
  refine l_aload_n C dL_law_1137 (i := 0) rfl rfl ?_
  refine l_iload_n C dL_law_1138 (i := 3) rfl rfl ?_
  refine l_iconst C dL_law_1139 ?_
  refine l_iadd C dL_law_1140 ?_
  refine l_ald C dL_law_1141 (l_in hv hL (by decide)) ?_
  refine l_aload_n C dL_law_1142 (i := 0) rfl rfl ?_
  refine l_iload_n C dL_law_1143 (i := 3) rfl rfl ?_
  refine l_iconst C dL_law_1144 ?_
  refine l_iadd C dL_law_1145 ?_
  refine l_ald C dL_law_1146 (l_in hv hL (by decide)) ?_
  refine l_callM C yv_X12_first rfl (tb7 105 rfl rfl) rfl (As := [xs (v + Int32.ofInt 1).toNatClampNeg, xs (v + Int32.ofInt 2).toNatClampNeg]) (rest := [.int r]) rfl (Nat.le_of_ble_eq_true rfl) (ok_X12_first mcl) dL_law_1147 rfl (fun r1 μ1 hm => ?_)
  obtain ⟨e, h9⟩ := st_first h hk hm
  subst e
  refine l_eq C dL_law_1150 (tgt := 1178) (by decide) ?_
  exact nx _ _ h9
set_option maxRecDepth 20000 in
theorem lc_count {Ls : Nat} {xs : Nat → Int32} {J : lJt} (C : lR Ls xs J) {v : Int32} {κ μ : kMem} (h : Rl κ μ) (hv : 0 ≤ v.toInt ∧ v.toInt + 6 ≤ (Ls : Int)) (hL : Ls ≤ 3072) (nx : ∀ κ1 μ1, Rl κ1 μ1 → J 1178 [some (.ref 0), some (.ref 1), some (.ref 2), some (.int v)] [] κ1 μ1) : J 1155 [some (.ref 0), some (.ref 1), some (.ref 2), some (.int v)] [] κ μ := by
  refine l_aload_n C dL_law_1155 (i := 1) rfl rfl ?_
  refine l_aload_n C dL_law_1156 (i := 0) rfl rfl ?_
  refine l_iload_n C dL_law_1157 (i := 3) rfl rfl ?_
  refine l_iconst C dL_law_1158 ?_
  refine l_iadd C dL_law_1159 ?_
  refine l_ald C dL_law_1160 (l_in hv hL (by decide)) ?_
  refine l_callK C yv_X11_count rfl (tb5 68 rfl rfl) rfl (As := [xs (v + Int32.ofInt 1).toNatClampNeg]) (rest := []) rfl (Nat.le_of_ble_eq_true rfl) (ok_X11_count) dL_law_1161 rfl (fun r κ1 hk => ?_)
  refine l_aload_n C dL_law_1164 (i := 2) rfl rfl ?_
  refine l_aload_n C dL_law_1165 (i := 0) rfl rfl ?_
  refine l_iload_n C dL_law_1166 (i := 3) rfl rfl ?_
  refine l_iconst C dL_law_1167 ?_
  refine l_iadd C dL_law_1168 ?_
  refine l_ald C dL_law_1169 (l_in hv hL (by decide)) ?_
  refine l_callM C yv_X12_count rfl (tb7 110 rfl rfl) rfl (As := [xs (v + Int32.ofInt 1).toNatClampNeg]) (rest := [.int r]) rfl (Nat.le_of_ble_eq_true rfl) (ok_X12_count) dL_law_1170 rfl (fun r1 μ1 hm => ?_)
  obtain ⟨e, h9⟩ := st_count h hk hm
  subst e
  refine l_eq C dL_law_1173 (tgt := 1178) (by decide) ?_
  exact nx _ _ h9
theorem lw_loop {Ls : Nat} {xs : Nat → Int32} {J : lJt} (C : lR Ls xs J) (hL : Ls ≤ 3072) : ∀ (f : Nat) (v : Int32) (κ μ : kMem), Rl κ μ → 0 ≤ v.toInt → v.toInt ≤ (Ls : Int) → (Ls : Int) - v.toInt < f → J 18 [some (.ref 0), some (.ref 1), some (.ref 2), some (.int v)] [] κ μ := by
  have m6 : (Int32.ofInt 6).toInt = 6 := by decide
  intro f
  induction f with
  | zero => intro v κ μ h h0 h1 h2; omega
  | succ f ih =>
    intro v κ μ h h0 h1 h2
    have eL : (Int32.ofNat Ls - Int32.ofInt 6).toInt = (Ls : Int) - 6 := by rw [ti_subc (by rw [ti_ofNat (by omega)]; omega), ti_ofNat (by omega)]
    refine l_iload_n C dL_law_18 (i := 3) rfl rfl ?_
    refine l_aload_n C dL_law_19 (i := 0) rfl rfl ?_
    refine l_len C dL_law_20 ?_
    refine l_bipush C dL_law_21 (by decide) ?_
    refine l_isub C dL_law_23 ?_
    refine l_gt C dL_law_24 (tgt := 1184) (by decide) (fun q => ?_) (fun q => ?_)
    · refine l_iconst C dL_law_1184 ?_
      exact l_ret C dL_law_1185
    · rw [eL] at q
      have hv : 0 ≤ v.toInt ∧ v.toInt + 6 ≤ (Ls : Int) := ⟨h0, by omega⟩
      have nx : ∀ κ1 μ1, Rl κ1 μ1 → J 1178 [some (.ref 0), some (.ref 1), some (.ref 2), some (.int v)] [] κ1 μ1 := fun κ1 μ1 h3 => by
        refine l_iinc C dL_law_1178 (i := 3) rfl (by decide) ?_
        refine l_goto C dL_law_1181 (tgt := 18) (by decide) ?_
        exact ih (v + Int32.ofInt 6) κ1 μ1 h3 (by rw [ti_addc (by omega)]; omega) (by rw [ti_addc (by omega)]; omega) (by rw [ti_addc (by omega)]; omega)
      refine l_aload_n C dL_law_27 (i := 0) rfl rfl ?_
      refine l_iload_n C dL_law_28 (i := 3) rfl rfl ?_
      refine l_ald C dL_law_29 ⟨h0, by omega⟩ ?_
      refine l_bipush C dL_law_30 (by decide) ?_
      refine l_iand C dL_law_32 ?_
      refine l_table C dL_law_33 (tg := 1178) (by decide) (by decide) (by decide) (fun i hi q1 q2 => ?_) (nx κ μ h)
      have hi : i < 30 := by omega
      rcases (show i = 0 ∨ i = 1 ∨ i = 2 ∨ i = 3 ∨ i = 4 ∨ i = 5 ∨ i = 6 ∨ i = 7 ∨ i = 8 ∨ i = 9 ∨ i = 10 ∨ i = 11 ∨ i = 12 ∨ i = 13 ∨ i = 14 ∨ i = 15 ∨ i = 16 ∨ i = 17 ∨ i = 18 ∨ i = 19 ∨ i = 20 ∨ i = 21 ∨ i = 22 ∨ i = 23 ∨ i = 24 ∨ i = 25 ∨ i = 26 ∨ i = 27 ∨ i = 28 ∨ i = 29 by omega) with rfl | rfl | rfl | rfl | rfl | rfl | rfl | rfl | rfl | rfl | rfl | rfl | rfl | rfl | rfl | rfl | rfl | rfl | rfl | rfl | rfl | rfl | rfl | rfl | rfl | rfl | rfl | rfl | rfl | rfl
      · exact lc_feed C h hv hL nx
      · exact lc_end C h hv hL nx
      · exact lc_fault C h hv hL nx
      · exact lc_code C h hv hL nx
      · exact lc_marks C h hv hL nx
      · exact lc_group C h hv hL nx
      · exact lc_hand C h hv hL nx
      · exact lc_line C h hv hL nx
      · exact lc_rain C h hv hL nx
      · exact lc_bite C h hv hL nx
      · exact lc_length C h hv hL nx
      · exact lc_cut C h hv hL nx
      · exact lc_tape C h hv hL nx
      · exact lc_readings C h hv hL nx
      · exact lc_nearest C h hv hL nx
      · exact lc_suspects C h hv hL nx
      · exact lc_likelier C h hv hL nx
      · exact lc_key C h hv hL nx
      · exact lc_mended C h hv hL nx
      · exact lc_message C h hv hL nx
      · exact lc_route C h hv hL nx
      · exact lc_sent C h hv hL nx
      · exact lc_tap C h hv hL nx
      · exact lc_clock C h hv hL nx
      · exact lc_event C h hv hL nx
      · exact lc_fact C h hv hL nx
      · exact lc_undo C h hv hL nx
      · exact lc_apart C h hv hL nx
      · exact lc_first C h hv hL nx
      · exact lc_count C h hv hL nx

