theorem nw_same {w : Cond} (hw : w.onTables = true) {a : Array Value} {U : State} {g : JFrame} {mk : MethodId} (h : va_Nw w U) : va_Nw w (U.calling g mk a) := va_Nw.same (u := U) (U := U.calling g mk a) hw rfl h
theorem cX11_b (a : Array Value) (U : State) (g : JFrame) (mk : MethodId) (h : cX11 U) : cX11 (U.calling g mk a) := by
  obtain ⟨h9, h18, h37, h44, h51, h83, h90, hc⟩ := h
  exact ⟨nw_same rfl h9, nw_same rfl h18, nw_same rfl h37, nw_same rfl h44, nw_same rfl h51, nw_same rfl h83, nw_same rfl h90, cov_moved (u := U) (U := U.calling g mk a) (Vm.Alike.refl U.vm) hc⟩
theorem cX11_w {s U : State} (hW : s.WarmedH U.vm) (h : cX11 s) : cX11 U := by
  obtain ⟨h9, h18, h37, h44, h51, h83, h90, hc⟩ := h
  exact ⟨va_Nw.warmM hW h9, va_Nw.warmM hW h18, va_Nw.warmM hW h37, va_Nw.warmM hW h44, va_Nw.warmM hW h51, va_Nw.warmM hW h83, va_Nw.warmM hW h90, cov_moved hW.alike hc⟩
theorem cX12_b {x : Nat → Nat} {h0 : Nat} (a : Array Value) (U : State) (g : JFrame) (mk : MethodId) (h : cX12 x h0 U) : cX12 x h0 (U.calling g mk a) := by
  obtain ⟨h1, h2, h3, h4, h5, h6, h7⟩ := h
  exact ⟨cov_moved (u := U) (U := U.calling g mk a) (Vm.Alike.refl U.vm) h1, cov_moved (u := U) (U := U.calling g mk a) (Vm.Alike.refl U.vm) h2, va_AO.moved (u := U) (U := U.calling g mk a) (Vm.Alike.refl U.vm) h3, vk_R.same (u := U) (U := U.calling g mk a) rfl h4, vk_R.same (u := U) (U := U.calling g mk a) rfl h5, vk_R.same (u := U) (U := U.calling g mk a) rfl h6, h7⟩
set_option maxRecDepth 100000 in
set_option maxHeartbeats 4000000 in
/-- the law, from its entry -/
theorem whole_start {p : Program} {e : Env} {s : State} {m : MethodId} {below : List Frame} {meth : Method} {c : Code} (l : Launch) (hflags : l.flags = flags0) {b L : Nat} {xs : Nat → Int32} (hL : L ≤ 3072) (C0 : lw_At p s m meth c b L xs) : W p l e room_1 s m #[Value.ref b] below meth c s.heap [] 0 0 (lw_Z below #[Value.ref b] s) (entryFrame m ([Value.ref b] : List Value).toArray 4) := by
  obtain ⟨hx, hb, hr, hml, hown, hts, hX, hbl, hlocks, hgv⟩ := id C0
  have hb : c.code = cL_law := hb
  have hw : ∀ w ∈ WG, w.before #[Value.ref b] s = true := fun w hw => hts w (WG_in hw).1
  have hvi : cov .int s := hts _ (tq2 36 rfl)
  have hvl : cov .long s := hts _ (tq5 100 rfl)
  have hvs : va_AO "java/lang/String" s := hts _ (tq5 102 rfl)
  obtain ⟨D, τ, hK⟩ := lw_K hw hvi hvl hvs
  obtain ⟨x, hS3, r0, r1, r2, u0, u1, u2, hZ, v, hv, hZf⟩ := lw_txt hts hgv
  have h11 : cX11 s := ⟨va_Nw.of rfl (hts _ (tq1 30 rfl)), va_Nw.of rfl (hts _ (tq1 44 rfl)), va_Nw.of rfl (hts _ (tq1 97 rfl)), va_Nw.of rfl (hts _ (tq1 110 rfl)), va_Nw.of rfl (hts _ (tq1 144 rfl)), va_Nw.of rfl (hts _ (tq2 31 rfl)), va_Nw.of rfl (hts _ (tq2 70 rfl)), hvi⟩
  have nw1 : va_Nw (.methodLinkNest "KeyFists$Lines" 44 yX11_areTwoStations "KeyFists") s := va_Nw.of rfl (hts _ (tq4 135 rfl))
  have nw2 : va_Nw (.methodLinkNest "KeyFists$Clocks" 45 yX11_isStation "KeyFists") s := va_Nw.of rfl (hts _ (tq4 239 rfl))
  have hkE : ∀ h : Nat, kE (adL h x) τ D (fun q => s.heap.size ≤ q) s s.heap := by
    intro h
    refine ⟨hK, ?_, r0, r1, r2, nw1, nw2, hZ, v, hv, ?_⟩
    · have e1 : (fun i => adL h x (1000 + i)) = fun i => x (1000 + i) := funext fun i => adL_ge (by omega)
      have e2 : (fun i => adL h x (2000 + i)) = fun i => x (2000 + i) := funext fun i => adL_ge (by omega)
      rw [e1, e2]
      exact hS3
    · rcases hv with rfl | rfl
      · exact hZf
      · exact hZf
  have hsx : ∀ i, i < 3 → x (1000 + i) < s.heap.size ∧ ∃ cellV : Cell, s.heap[x (1000 + i)]? = some cellV ∧ cellV.vm.isStatics = false ∧ s.vm.findClass "java/lang/String" = some cellV.cls := fun i hi => by
    obtain ⟨cellV, q1, q2, q3, -⟩ := (hS3.1 i hi).1
    exact ⟨(Array.getElem?_eq_some_iff.mp q1).1, cellV, q1, q2, q3⟩
  have CC : cC p s m #[Value.ref b] c cL_law R_law 4 D τ s.heap.size (fun q => s.heap.size ≤ q) := ⟨hx, hb, hml, hown, hw, hK, fun _ h => h⟩
  have hl := lv_entry ([.ref b]) (n := 4) (Nat.le_of_ble_eq_true rfl)
  rw [lg_entry_eq]
  generalize (lg_sl ([.ref b]) ++ List.replicate (4 - (lg_sl ([.ref b])).length) Slot.unset).toArray = ls at hl ⊢
  have hl : lv_has ls 4 [(0, .ref b)] := hl
  have key := fun (H : Heap) => lw_loop (Ls := L) (xs := xs) ⟨p, l, e, s, m, #[Value.ref b], below, meth, c, D, τ, x, b, ⟨hx, hb, hml, hr, hlocks, hown, hw, hX, hbl, hkE _, hkE _, rfl⟩, rfl⟩ hL (L + 1) (Int32.ofInt 0) kZ kZ Rl_zero (by decide) (by show (Int32.ofInt 0).toInt ≤ _; rw [show (Int32.ofInt 0).toInt = 0 by decide]; omega) (by rw [show (Int32.ofInt 0).toInt = 0 by decide]; omega) H
  have step2 : cJ p l e room_1 s m #[Value.ref b] below meth c D s.heap.size (fun q => s.heap.size ≤ q) 4 (lw_Z below #[Value.ref b] s) 15 [(1, .ref s.heap.size), (0, .ref b)] [.ref (s.heap.size + 68)] ((List.range 68).map (kent shK (adL s.heap.size x) τ kZ) ++ (List.range 48).map (kent shM (adL (s.heap.size + 68) x) τ kZ)) 116 4922 := by
    intro H locs ls hz hP hS hl
    refine lv_astore_n (lv' := [(2, .ref (s.heap.size + 68)), (1, .ref s.heap.size), (0, .ref b)]) hx hb dL_law_15 rfl hl (by decide) rfl (fun ls hl => ?_)
    refine lv_iconst (v := Int32.ofInt 0) hx hb dL_law_16 rfl ?_
    refine lv_istore_n (lv' := [(3, .int (Int32.ofInt 0)), (2, .ref (s.heap.size + 68)), (1, .ref s.heap.size), (0, .ref b)]) hx hb dL_law_17 rfl hl (by decide) rfl (fun ls hl => ?_)
    refine W.widen (k := 600000) (n := 7302250) (Nat.le_of_ble_eq_true rfl) (Nat.le_of_ble_eq_true rfl) ?_
    refine key H locs ls (fun k q hq => ?_) (fun k q hq => ?_) hS (lv_sub hl [3, 2, 1, 0] rfl)
    · obtain ⟨hk, -⟩ := wl_ad hq
      rw [wl_get hk] at hq
      cases hq
      have h9 := hP k (kent shK (adL s.heap.size x) τ kZ k) (by rw [List.getElem?_append_left (by rw [List.length_map, List.length_range]; exact hk), List.getElem?_map, List.getElem?_range hk]; rfl)
      rw [adL_lt (by omega)]
      exact h9
    · obtain ⟨hk, -⟩ := wl_ad hq
      rw [wl_get hk] at hq
      cases hq
      have h9 := hP (68 + k) (kent shM (adL (s.heap.size + 68) x) τ kZ k) (by rw [List.getElem?_append_right (by rw [List.length_map, List.length_range]; omega), List.length_map, List.length_range, show 68 + k - 68 = k by omega, List.getElem?_map, List.getElem?_range hk]; rfl)
      rw [adL_lt (by omega), Nat.add_assoc]
      exact h9
  have step1 : cJ p l e room_1 s m #[Value.ref b] below meth c D s.heap.size (fun q => s.heap.size ≤ q) 4 (lw_Z below #[Value.ref b] s) 7 [(0, .ref b)] [.ref s.heap.size] ((List.range 68).map (kent shK (adL s.heap.size x) τ kZ)) 68 2370 := by
    intro H locs ls hz hP hS hl
    refine lv_astore_n (lv' := [(1, .ref s.heap.size), (0, .ref b)]) hx hb dL_law_7 rfl hl (by decide) rfl (fun ls hl => ?_)
    suffices h9 : cJ p l e room_1 s m #[Value.ref b] below meth c D s.heap.size (fun q => s.heap.size ≤ q) 4 (lw_Z below #[Value.ref b] s) 8 [(1, .ref s.heap.size), (0, .ref b)] [] ((List.range 68).map (kent shK (adL s.heap.size x) τ kZ)) 68 2370 from h9 H locs ls hz hP hS hl
    refine c_new CC (Cn := RX12) (T := TX12) (N := 56) (ci := 12) (fs := [.null, .int 0, .int 0, .int 0, .int 0, .null, .null, .null, .null, .null, .null, .null, .null, .null, .null, .null, .null, .null, .int 0, .int 0, .int 0, .int 0, .int 0, .int 0, .null, .null, .null, .null, .int 0, .null, .null, .null, .null, .null, .null, .null, .int 0, .null, .null, .null, .null, .null, .null, .null, .null, .int 0, .null, .null, .null, .null, .null, .null, .null, .null, .int 0, .int 0]) (k := 68) uw_X12 tyX12_ok (tb5 92 rfl rfl) (tb5 93 rfl rfl) (tb1 13 rfl rfl) rfl (by decide +kernel) (Nat.le_of_ble_eq_true rfl) (Nat.le_of_ble_eq_true rfl) dL_law_8 rfl ?_
    refine c_dup CC dL_law_11 ?_
    refine c_callI CC (As := []) (rest := [.ref (s.heap.size + 68)]) (h1 := s.heap.size + 68) wi_X12 (tb5 94 rfl rfl) rfl rfl (Nat.le_of_ble_eq_true rfl) rfl rfl (mk_X12 x) cX12_b (fun H locs hS U hU hW => ⟨cov_moved hW.alike hvi, cov_moved hW.alike hvl, va_AO.moved hW.alike hvs, vk_R.warm hW u0, vk_R.warm hW u1, vk_R.warm hW u2, fun i hi => ?_⟩) dL_law_12 step2
    obtain ⟨q1, cellV, q2, q3, q4⟩ := hsx i hi
    exact ⟨by omega, cellV, by rw [hU, hS.2.1 _ q1 (Nat.not_le.mpr q1)]; exact q2, q3, by rw [hW.alike.findClass]; exact q4⟩
  have step0 : cJ p l e room_1 s m #[Value.ref b] below meth c D s.heap.size (fun q => s.heap.size ≤ q) 4 (lw_Z below #[Value.ref b] s) 0 [(0, .ref b)] [] [] 0 0 := by
    refine c_new CC (Cn := RX11) (T := TX11) (N := 13) (ci := 11) (fs := [.null, .null, .null, .null, .null, .null, .null, .null, .null, .null, .null, .null, .null]) (k := 0) uw_X11 tyX11_ok (tb1 20 rfl rfl) (tb1 21 rfl rfl) (tb1 1 rfl rfl) rfl (by decide +kernel) (Nat.le_of_ble_eq_true rfl) (Nat.le_of_ble_eq_true rfl) dL_law_0 rfl ?_
    refine c_dup CC dL_law_3 ?_
    exact c_callI (es := []) CC (As := []) (rest := [.ref (s.heap.size + 0)]) (h1 := s.heap.size + 0) wi_X11 (tb1 22 rfl rfl) rfl rfl (Nat.le_of_ble_eq_true rfl) rfl rfl (mk_X11 x) cX11_b (fun H locs hS U hU hW => cX11_w hW h11) dL_law_4 step1
  exact step0 s.heap [] ls rfl (fun k e h => by simp at h) va_S.rf hl

