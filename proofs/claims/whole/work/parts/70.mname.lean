/-! ===== the model: names, groups, words ===== -/
theorem name_step {x : Int64} {b : Int32} {q c : Int} (hx : x.toInt = q) (hq : 0 ≤ q ∧ q ≤ 1099511627775) (hb : b.toInt = c) (hc : 0 ≤ c ∧ c ≤ 127) : ((32 : Int64) * x + b.toInt64 - 97 + Int64.ofNat ((1 : Fin 2) : Nat)).toInt = 32 * q + (c - 96) := by
  have e1 : ((32 : Int64) * x).toInt = 32 * q := by rw [tl_mul (by rw [ll_32, hx]; omega), ll_32, hx]
  have e2 : ((32 : Int64) * x + b.toInt64).toInt = 32 * q + c := by rw [tl_add (by rw [e1, tl_i2l, hb]; omega), e1, tl_i2l, hb]
  have e3 : ((32 : Int64) * x + b.toInt64 - 97).toInt = 32 * q + c - 97 := by rw [tl_sub (by rw [e2, ll_97]; omega), e2, ll_97]
  rw [tl_add (by rw [e3, ll_c1]; omega), e3, ll_c1]
  omega
theorem cmp_z {x y : Int64} : (lg_cmp x y).toInt = 0 ↔ x.toInt = y.toInt := by
  rw [tl_cmp]
  by_cases h1 : x.toInt < y.toInt
  · rw [if_pos h1]
    exact ⟨fun q => absurd q (by decide), fun q => by omega⟩
  · rw [if_neg h1]
    by_cases h2 : x.toInt = y.toInt
    · rw [if_pos h2]
      exact ⟨fun _ => h2, fun _ => rfl⟩
    · rw [if_neg h2]
      exact ⟨fun q => absurd q (by decide), fun q => absurd q h2⟩
theorem tok_let {t : Nat → Int} {n s : Nat} (h : kdF t n s = 1) : ∀ i, s ≤ i → i < teF t n s → 97 ≤ t i ∧ t i ≤ 122 := by
  intro i h1 h2
  have q := kdF_pos h (by decide)
  have := teF_in q.1 (Or.inl q.2) h1 h2
  rw [q.2] at this
  exact ckF_1.mp this
noncomputable def nmV (t : Nat → Int) (n : Nat) (d : kDr) (s : Nat) : Int := @ite _ (nmOk t n d s) (Classical.propDecidable _) (encF t s (teF t n s - s)) (-1)
theorem nmV_b {t : Nat → Int} {n : Nat} {d : kDr} {s : Nat} : (nmOk t n d s → 0 ≤ nmV t n d s ∧ nmV t n d s ≤ 1099511627775 ∧ nmV t n d s = encL (tkL t s (teF t n s))) ∧ (¬ nmOk t n d s → nmV t n d s = -1) := by
  refine ⟨fun h => ?_, fun h => by unfold nmV; rw [if_neg h]⟩
  have hl := tok_let h.1
  have q := kdF_pos h.1 (by decide)
  have hb := encF_8 (t := t) (s := s) (k := teF t n s - s) h.2.1 (fun i hi => hl (s + i) (by omega) (by omega))
  have htb := teF_b (t := t) (n := n) (j := s) (by omega)
  have e : nmV t n d s = encF t s (teF t n s - s) := by unfold nmV; rw [if_pos h]
  rw [e]
  refine ⟨hb.1, hb.2, ?_⟩
  rw [← encL_tk, show s + (teF t n s - s) = teF t n s by omega]
theorem ok_X12_nameHere {μ0 μ : kMem} {d : kDr} {s : Nat} (h : mAt μ0 d s μ) : kOk yX12_nameHere cX12_nameHere 4 (some .long) rmX12_nameHere shM 48 [.ref 0] μ (kPL (Int64.ofInt (nmV (mt μ0) (mn μ0) d s)) μ) := by
  have htx := h.tx
  obtain ⟨t, ht⟩ : ∃ t, t = mt μ0 := ⟨_, rfl⟩
  obtain ⟨n, hnn⟩ : ∃ n, n = mn μ0 := ⟨_, rfl⟩
  have htk := h.2.1
  have hT := htk.1
  have hn := mn_i hT
  have hst := htk.st
  have hsz := htk.sz
  have hsl := htk.2.1.2
  have hto := htk.2.2
  rw [htx.1, htx.2, ← ht, ← hnn, h.2.2.1] at hsz hto
  rw [htx.2, ← hnn, h.2.2.1] at hsl
  rw [htx.2, ← hnn] at hn
  rw [h.2.2.1] at hst
  rw [← ht, ← hnn]
  have z0 : (Int32.ofInt 0).toInt = 0 := by decide
  have m3 : (Int32.ofInt 3).toInt = 3 := by decide
  have m8 : (Int32.ofInt 8).toInt = 8 := by decide
  have m97 : (Int32.ofInt 97).toInt = 97 := by decide
  have m122 : (Int32.ofInt 122).toInt = 122 := by decide
  have n1 : (Int32.ofInt 1).toInt.toNat = 1 := by decide
  have es : (μ.1 0 2).toInt.toNat = s := by omega
  have k1 : kdF t n s = 1 ↔ (s < n ∧ ckF (t s) = 1) := ⟨fun q => kdF_pos q (by decide), fun q => by rw [kdF_lt q.1]; exact q.2⟩
  have ck := mck1 hT s
  rw [htx.1, ← ht] at ck
  have htb := teF_b (t := t) (n := n) (j := s) hsl
  have hwm := h.1.2.2.2.1
  have hw20 := h.1.1.1
  have hb := nmV_b (t := t) (n := n) (d := d) (s := s)
  have bad : ¬ nmOk t n d s → (-1 : Int64) = Int64.ofInt (nmV t n d s) := fun q => by
    rw [hb.2 q]
    rfl
  refine kOk.of rfl (Nat.le_of_ble_eq_true rfl) (fun J C => ?_)
  have C : kR cX12_nameHere RX12 4 rmX12_nameHere shM 48 (some .long) _ J := C
  have last : ∀ (x : Int64), kdF t n s = 1 → teF t n s - s ≤ 8 → (¬ isW t n s 0 ∧ ¬ isW t n s 1 ∧ ¬ isW t n s 2) → x.toInt = encF t s (teF t n s - s) → ∀ (k j : Nat) (v : Int32), j + k = dW d → v.toInt = j → (∀ w, w < j → ¬ dN d w = tkL t s (teF t n s)) → J 101 [some (.ref 0), some (.long x), none, some (.int v)] [] μ := by
    intro x q1 q2 q3 hx k
    have hl := tok_let q1
    have hxL : x.toInt = encL (tkL t s (teF t n s)) := by rw [hx, ← encL_tk, show s + (teF t n s - s) = teF t n s by omega]
    have htl := tkL_let (t := t) (s := s) (e := teF t n s) hl
    induction k using Nat.strongRecOn with
    | ind k ih =>
      intro j v hk hv hI
      have ev : v.toInt.toNat = j := by omega
      have hdr := h.1.2.2.2.2 j
      have eqn : j < dW d → ((μ.2 10 j).toInt = x.toInt ↔ dN d j = tkL t s (teF t n s)) := fun q => by
        have w := hdr q
        rw [w.2.1, hxL]
        exact ⟨fun z => encL_inj w.2.2 htl z, fun z => by rw [z]⟩
      refine (r_iload_n C dX12_nameHere_101 rfl rfl (r_aload_n C dX12_nameHere_102 rfl rfl (r_getR C dX12_nameHere_103 fd_X12_30 nM_0 sM_0 rfl (r_iconst C dX12_nameHere_106 (r_iald C dX12_nameHere_107 nM_12 sM_12 (by decide) (r_icmp_ge C (tgt := 134) dX12_nameHere_108 rfl (fun c108 => (r_lload_n C dX12_nameHere_134 rfl rfl (r_lret C dX12_nameHere_135 ?_))) (fun c108 => (r_aload_n C dX12_nameHere_111 rfl rfl (r_getR C dX12_nameHere_112 fd_X12_23 nM_0 sM_0 rfl (r_iconst C dX12_nameHere_115 (r_aald C (r := 10) dX12_nameHere_116 nM_8 (by decide) sM_8 (by decide) (by decide) (r_iload_n C dX12_nameHere_117 rfl rfl (r_lald C dX12_nameHere_118 nM_10 sM_10 ?_ (r_lload_n C dX12_nameHere_119 rfl rfl (r_lcmp C dX12_nameHere_120 (r_if_ne C (tgt := 128) dX12_nameHere_121 rfl (fun c121 => (r_iinc C dX12_nameHere_128 rfl (by decide) (r_goto C (tgt := 101) dX12_nameHere_131 rfl ?_))) (fun c121 => (r_ldc2 C dX12_nameHere_124 kc_X12_194 (r_lret C dX12_nameHere_127 ?_)))))))))))))))))))
      · rw [n1, hwm] at c108
        have hok : nmOk t n d s := ⟨q1, q2, q3, fun w hw => hI w (by omega)⟩
        refine ⟨tl_ext ?_, rfl⟩
        have q := hb.1 hok
        rw [tl_ofInt (by omega), q.2.2]
        exact hxL
      · rw [n1, hwm] at c108; omega
      · rw [n1, hwm] at c108
        rw [ev, cmp_z, eqn (by omega)] at c121
        refine ih (k - 1) (by omega) (j + 1) _ (by omega) (by simp (disch := (first | omega | (simp (disch := omega) only [ti_ofInt, ti_addc, ti_subc, ti_mulc, ti_cmul, ti_divc, ti_remc, ti_zero, ti_add, ti_sub, ti_neg, if_lt_ti, if_gt_ti, bP_e0, Classical.not_not, tl_i2l]; omega))) only [ti_ofInt, ti_addc, ti_subc, ti_mulc, ti_cmul, ti_divc, ti_remc, ti_zero, ti_add, ti_sub, ti_neg, if_lt_ti, if_gt_ti, bP_e0, Classical.not_not, tl_i2l]; omega) (fun w hw => ?_)
        by_cases e : w = j
        · subst e; exact c121
        · exact hI w (by omega)
      · rw [n1, hwm] at c108
        rw [ev, cmp_z, eqn (by omega)] at c121
        exact ⟨bad (fun z => z.2.2.2 j (by omega) c121), rfl⟩
  have sum : kdF t n s = 1 → teF t n s - s ≤ 8 → (¬ isW t n s 0 ∧ ¬ isW t n s 1 ∧ ¬ isW t n s 2) → ∀ (k p : Nat) (x : Int64) (v : Int32), p + k = teF t n s - s → v.toInt = ((s + p : Nat) : Int) → x.toInt = encF t s p → J 65 [some (.ref 0), some (.long x), none, some (.int v)] [] μ := by
    intro q1 q2 q3 k
    have hl := tok_let q1
    induction k using Nat.strongRecOn with
    | ind k ih =>
      intro p x v hk hv hx
      have ev : v.toInt.toNat = s + p := by omega
      have hpb := encF_8 (t := t) (s := s) (k := p) (by omega) (fun i hi => hl (s + i) (by omega) (by omega))
      have hch : p < teF t n s - s → (μ.1 1 v.toInt.toNat).toInt = t (s + p) ∧ 97 ≤ t (s + p) ∧ t (s + p) ≤ 122 := fun q => by
        have w := hl (s + p) (by omega) (by omega)
        refine ⟨?_, w⟩
        have e := mt_is hT (s + p) (c := t (s + p)) (by omega)
        rw [ev]
        exact e.mpr (by rw [htx.1, ← ht])
      have step : p < teF t n s - s → J 65 [some (.ref 0), some (.long ((32 : Int64) * x + (μ.1 1 v.toInt.toNat).toInt64 - 97 + Int64.ofNat ((1 : Fin 2) : Nat))), none, some (.int (v + Int32.ofInt 1))] [] μ := fun q => by
        have w := hch q
        refine ih (k - 1) (by omega) (p + 1) _ _ (by omega) (by simp (disch := (first | omega | (simp (disch := omega) only [ti_ofInt, ti_addc, ti_subc, ti_mulc, ti_cmul, ti_divc, ti_remc, ti_zero, ti_add, ti_sub, ti_neg, if_lt_ti, if_gt_ti, bP_e0, Classical.not_not, tl_i2l]; omega))) only [ti_ofInt, ti_addc, ti_subc, ti_mulc, ti_cmul, ti_divc, ti_remc, ti_zero, ti_add, ti_sub, ti_neg, if_lt_ti, if_gt_ti, bP_e0, Classical.not_not, tl_i2l]; omega) ?_
        rw [name_step hx hpb w.1 (by omega)]
        rfl
      refine (r_iload_n C dX12_nameHere_65 rfl rfl (r_aload_n C dX12_nameHere_66 rfl rfl (r_getI C dX12_nameHere_67 fd_X12_159 nM_0 sM_0 rfl (r_icmp_ge C (tgt := 99) dX12_nameHere_70 rfl (fun c70 => (r_iconst C dX12_nameHere_99 (r_istore_n C dX12_nameHere_100 rfl (by decide) ?_))) (fun c70 => (r_ldc2 C dX12_nameHere_73 kc_X12_200 (r_lload_n C dX12_nameHere_76 rfl rfl (r_lmul C dX12_nameHere_77 (r_aload_n C dX12_nameHere_78 rfl rfl (r_getR C dX12_nameHere_79 fd_X12_9 nM_0 sM_0 rfl (r_iload_n C dX12_nameHere_82 rfl rfl (r_bald C dX12_nameHere_83 nM_1 sM_1 ?_ (r_i2l C dX12_nameHere_84 (r_ladd C dX12_nameHere_85 (r_ldc2 C dX12_nameHere_86 kc_X12_202 (r_lsub C dX12_nameHere_89 (r_lconst C dX12_nameHere_90 rfl (r_ladd C dX12_nameHere_91 (r_lstore_n C dX12_nameHere_92 rfl (by decide) (r_iinc C dX12_nameHere_93 rfl (by decide) (r_goto C (tgt := 65) dX12_nameHere_96 rfl ?_)))))))))))))))))))))
      · rw [hto] at c70
        exact last x q1 q2 q3 (by rw [hx, show p = teF t n s - s by omega]) (dW d) 0 _ (by omega) (by simp (disch := (first | omega | (simp (disch := omega) only [ti_ofInt, ti_addc, ti_subc, ti_mulc, ti_cmul, ti_divc, ti_remc, ti_zero, ti_add, ti_sub, ti_neg, if_lt_ti, if_gt_ti, bP_e0, Classical.not_not, tl_i2l]; omega))) only [ti_ofInt, ti_addc, ti_subc, ti_mulc, ti_cmul, ti_divc, ti_remc, ti_zero, ti_add, ti_sub, ti_neg, if_lt_ti, if_gt_ti, bP_e0, Classical.not_not, tl_i2l]; rfl) (fun w hw => absurd hw (Nat.not_lt_zero _))
      · rw [hto] at c70
        omega
      · rw [hto] at c70
        exact step (by omega)
  have words : kdF t n s = 1 → teF t n s - s ≤ 8 → ∀ (k j : Nat) (v : Int32) (z2 z3 : Option Value), j + k = 3 → v.toInt = j → (∀ w, w < j → ¬ isW t n s w) → J 35 [some (.ref 0), some (.int v), z2, z3] [] μ := by
    intro q1 q2 k
    induction k using Nat.strongRecOn with
    | ind k ih =>
      intro j v z2 z3 hk hv hI
      have ev : v.toInt.toNat = j := by omega
      have eW : isW (mt μ) (mn μ) (mts μ) v.toInt.toNat ↔ isW t n s j := by rw [htx.1, htx.2, h.2.2.1, ev, ← ht, ← hnn]
      refine (r_iload_n C dX12_nameHere_35 rfl rfl (r_iconst C dX12_nameHere_36 (r_icmp_ge C (tgt := 58) dX12_nameHere_37 rfl (fun c37 => (r_lconst C dX12_nameHere_58 rfl (r_lstore_n C dX12_nameHere_59 rfl (by decide) (r_aload_n C dX12_nameHere_60 rfl rfl (r_getI C dX12_nameHere_61 fd_X12_162 nM_0 sM_0 rfl (r_istore_n C dX12_nameHere_64 rfl (by decide) ?_)))))) (fun c37 => (r_aload_n C dX12_nameHere_40 rfl rfl (r_iload_n C dX12_nameHere_41 rfl rfl (r_v1P C yv_X12_isWord lk_X12_196 dX12_nameHere_42 rfl nM_0 sM_0 rfl (Nat.le_of_ble_eq_true rfl) (ok_X12_isWord ?_) (r_if_eq C (tgt := 52) dX12_nameHere_45 rfl (fun c45 => (r_iinc C dX12_nameHere_52 rfl (by decide) (r_goto C (tgt := 35) dX12_nameHere_55 rfl ?_))) (fun c45 => (r_ldc2 C dX12_nameHere_48 kc_X12_194 (r_lret C dX12_nameHere_51 ?_)))))))))))
      · rw [m3] at c37
        exact sum q1 q2 ⟨hI 0 (by omega), hI 1 (by omega), hI 2 (by omega)⟩ (teF t n s - s) 0 _ _ (by omega) (by omega) ll_c0
      · rw [m3] at c37
        exact ⟨htk, by omega, by omega⟩
      · rw [m3] at c37
        have c := bP_e0.mp c45
        rw [eW] at c
        refine ih (k - 1) (by omega) (j + 1) _ _ _ (by omega) (by simp (disch := (first | omega | (simp (disch := omega) only [ti_ofInt, ti_addc, ti_subc, ti_mulc, ti_cmul, ti_divc, ti_remc, ti_zero, ti_add, ti_sub, ti_neg, if_lt_ti, if_gt_ti, bP_e0, Classical.not_not, tl_i2l]; omega))) only [ti_ofInt, ti_addc, ti_subc, ti_mulc, ti_cmul, ti_divc, ti_remc, ti_zero, ti_add, ti_sub, ti_neg, if_lt_ti, if_gt_ti, bP_e0, Classical.not_not, tl_i2l]; omega) (fun w hw => ?_)
        by_cases e : w = j
        · subst e; exact c
        · exact hI w (by omega)
      · rw [m3] at c37
        have c := bP_ne c45
        rw [eW] at c
        refine ⟨bad (fun z => ?_), rfl⟩
        rcases (show j = 0 ∨ j = 1 ∨ j = 2 by omega) with e | e | e <;> rw [e] at c
        · exact z.2.2.1.1 c
        · exact z.2.2.1.2.1 c
        · exact z.2.2.1.2.2 c
  refine (r_aload_n C dX12_nameHere_0 rfl rfl (r_aload_n C dX12_nameHere_1 rfl rfl (r_getI C dX12_nameHere_2 fd_X12_162 nM_0 sM_0 rfl (r_bipush C dX12_nameHere_5 (by decide +kernel) (r_bipush C dX12_nameHere_7 (by decide +kernel) (r_v3P C yv_X12_between lk_X12_165 dX12_nameHere_9 rfl nM_0 sM_0 rfl (Nat.le_of_ble_eq_true rfl) (ok_X12_between ?_) (r_if_eq C (tgt := 29) dX12_nameHere_12 rfl (fun c12 => (r_ldc2 C dX12_nameHere_29 kc_X12_194 (r_lret C dX12_nameHere_32 ?_))) (fun c12 => (r_aload_n C dX12_nameHere_15 rfl rfl (r_getI C dX12_nameHere_16 fd_X12_159 nM_0 sM_0 rfl (r_aload_n C dX12_nameHere_19 rfl rfl (r_getI C dX12_nameHere_20 fd_X12_162 nM_0 sM_0 rfl (r_isub C dX12_nameHere_23 (r_bipush C dX12_nameHere_24 (by decide +kernel) (r_icmp_le C (tgt := 33) dX12_nameHere_26 rfl (fun c26 => (r_iconst C dX12_nameHere_33 (r_istore_n C dX12_nameHere_34 rfl (by decide) ?_))) (fun c26 => (r_ldc2 C dX12_nameHere_29 kc_X12_194 (r_lret C dX12_nameHere_32 ?_))))))))))))))))))
  · exact ⟨hT, by omega⟩
  · have q := bP_e0.mp c12
    rw [es, m97, m122, ck] at q
    exact ⟨bad (fun z => q ⟨by have := (k1.mp z.1).1; omega, (k1.mp z.1).2⟩), rfl⟩
  · have q := bP_ne c12
    rw [es, m97, m122, ck] at q
    rw [hsz, m8] at c26
    exact words (k1.mpr ⟨by omega, q.2⟩) (by omega) 3 0 _ _ _ rfl (by simp (disch := (first | omega | (simp (disch := omega) only [ti_ofInt, ti_addc, ti_subc, ti_mulc, ti_cmul, ti_divc, ti_remc, ti_zero, ti_add, ti_sub, ti_neg, if_lt_ti, if_gt_ti, bP_e0, Classical.not_not, tl_i2l]; omega))) only [ti_ofInt, ti_addc, ti_subc, ti_mulc, ti_cmul, ti_divc, ti_remc, ti_zero, ti_add, ti_sub, ti_neg, if_lt_ti, if_gt_ti, bP_e0, Classical.not_not, tl_i2l]; rfl) (fun w hw => absurd hw (Nat.not_lt_zero _))
  · rw [hsz, m8] at c26
    exact ⟨bad (fun z => by have := z.2.1; omega), rfl⟩
theorem grF_bp {t : Nat → Int} {s : Nat} : ∀ k, (∀ i, i < k → 97 ≤ t (s + i) ∧ t (s + i) ≤ 122) → 0 ≤ grF t s k ∧ grF t s k ≤ 26 ^ k - 1 := by
  intro k
  induction k with
  | zero => intro _; exact ⟨Int.le_refl _, by show (0 : Int) ≤ 26 ^ 0 - 1; decide⟩
  | succ k ih =>
    intro h
    have h1 := ih (fun i hi => h i (by omega))
    have h2 := h k (by omega)
    have e : (26 : Int) ^ (k + 1) = 26 ^ k * 26 := Int.pow_succ _ _
    show 0 ≤ grF t s k * 26 + (t (s + k) - 97) ∧ grF t s k * 26 + (t (s + k) - 97) ≤ 26 ^ (k + 1) - 1
    omega
theorem grF_3 {t : Nat → Int} {s k : Nat} (hk : k ≤ 3) (h : ∀ i, i < k → 97 ≤ t (s + i) ∧ t (s + i) ≤ 122) : 0 ≤ grF t s k ∧ grF t s k ≤ 17575 := by
  have h1 := grF_bp k h
  have h2 : (26 : Int) ^ k ≤ 17576 := by
    rcases (show k = 0 ∨ k = 1 ∨ k = 2 ∨ k = 3 by omega) with rfl | rfl | rfl | rfl <;> decide
  omega
noncomputable def wCV (t : Nat → Int) (n : Nat) (d : kDr) (s : Nat) : Int := @ite _ (wCok t n d s) (Classical.propDecidable _) (grF t s 3) (-1)
theorem wCV_b {t : Nat → Int} {n : Nat} {d : kDr} {s : Nat} : (wCok t n d s → 0 ≤ wCV t n d s ∧ wCV t n d s < 17576 ∧ wCV t n d s = grF t s 3) ∧ (¬ wCok t n d s → wCV t n d s = -1) := by
  refine ⟨fun h => ?_, fun h => by unfold wCV; rw [if_neg h]⟩
  have hl := tok_let h.1.1
  have h3 := h.1.2.1
  have hb := grF_3 (t := t) (s := s) (k := 3) (Nat.le_refl _) (fun i hi => hl (s + i) (by omega) (by omega))
  have e : wCV t n d s = grF t s 3 := by unfold wCV; rw [if_pos h]
  rw [e]
  exact ⟨hb.1, by omega, rfl⟩
theorem ok_X12_groupHere {μ0 μ : kMem} {d : kDr} {s : Nat} (h : mAt μ0 d s μ) : kOk yX12_groupHere cX12_groupHere 3 (some .int) rmX12_groupHere shM 48 [.ref 0] μ (kP (Int32.ofInt (wCV (mt μ0) (mn μ0) d s)) μ) := by
  have htx := h.tx
  obtain ⟨t, ht⟩ : ∃ t, t = mt μ0 := ⟨_, rfl⟩
  obtain ⟨n, hnn⟩ : ∃ n, n = mn μ0 := ⟨_, rfl⟩
  have htk := h.2.1
  have hT := htk.1
  have hn := mn_i hT
  have hst := htk.st
  have hsz := htk.sz
  have hsl := htk.2.1.2
  have hto := htk.2.2
  rw [htx.1, htx.2, ← ht, ← hnn, h.2.2.1] at hsz hto
  rw [htx.2, ← hnn, h.2.2.1] at hsl
  rw [htx.2, ← hnn] at hn
  rw [h.2.2.1] at hst
  rw [← ht, ← hnn]
  have m3 : (Int32.ofInt 3).toInt = 3 := by decide
  have m97 : (Int32.ofInt 97).toInt = 97 := by decide
  have m122 : (Int32.ofInt 122).toInt = 122 := by decide
  have n1 : (Int32.ofInt 1).toInt.toNat = 1 := by decide
  have es : (μ.1 0 2).toInt.toNat = s := by omega
  have k1 : kdF t n s = 1 ↔ (s < n ∧ ckF (t s) = 1) := ⟨fun q => kdF_pos q (by decide), fun q => by rw [kdF_lt q.1]; exact q.2⟩
  have ck := mck1 hT s
  rw [htx.1, ← ht] at ck
  have htb := teF_b (t := t) (n := n) (j := s) hsl
  have hwm := h.1.2.2.2.1
  have hw20 := h.1.1.1
  have hb := wCV_b (t := t) (n := n) (d := d) (s := s)
  have bad : ¬ wCok t n d s → Int32.ofInt (-1) = Int32.ofInt (wCV t n d s) := fun q => by rw [hb.2 q]
  refine kOk.of rfl (Nat.le_of_ble_eq_true rfl) (fun J C => ?_)
  have C : kR cX12_groupHere RX12 3 rmX12_groupHere shM 48 (some .int) _ J := C
  have last : ∀ (g : Int32), grOk t n d s → g.toInt = grF t s 3 → ∀ (k j : Nat) (v : Int32), j + k = dW d → v.toInt = j → (∀ w, w < j → ¬ dG d w = grF t s 3) → J 89 [some (.ref 0), some (.int g), some (.int v)] [] μ := by
    intro g hok hg k
    induction k using Nat.strongRecOn with
    | ind k ih =>
      intro j v hk hv hI
      have ev : v.toInt.toNat = j := by omega
      have hdr := h.1.2.2.2.2 j
      refine (r_iload_n C dX12_groupHere_89 rfl rfl (r_aload_n C dX12_groupHere_90 rfl rfl (r_getR C dX12_groupHere_91 fd_X12_30 nM_0 sM_0 rfl (r_iconst C dX12_groupHere_94 (r_iald C dX12_groupHere_95 nM_12 sM_12 (by decide) (r_icmp_ge C (tgt := 119) dX12_groupHere_96 rfl (fun c96 => (r_iload_n C dX12_groupHere_119 rfl rfl (r_iret C dX12_groupHere_120 ?_))) (fun c96 => (r_aload_n C dX12_groupHere_99 rfl rfl (r_getR C dX12_groupHere_100 fd_X12_18 nM_0 sM_0 rfl (r_iconst C dX12_groupHere_103 (r_aald C (r := 7) dX12_groupHere_104 nM_5 (by decide) sM_5 (by decide) (by decide) (r_iload_n C dX12_groupHere_105 rfl rfl (r_iald C dX12_groupHere_106 nM_7 sM_7 ?_ (r_iload_n C dX12_groupHere_107 rfl rfl (r_icmp_ne C (tgt := 113) dX12_groupHere_108 rfl (fun c108 => (r_iinc C dX12_groupHere_113 rfl (by decide) (r_goto C (tgt := 89) dX12_groupHere_116 rfl ?_))) (fun c108 => (r_iconst C dX12_groupHere_111 (r_iret C dX12_groupHere_112 ?_))))))))))))))))))
      · rw [n1, hwm] at c96
        have hc : wCok t n d s := ⟨hok, fun w hw => hI w (by omega)⟩
        refine ⟨ti_ext ?_, rfl⟩
        have q := hb.1 hc
        rw [ti_ofInt (by omega), q.2.2]
        exact hg
      · rw [n1, hwm] at c96; omega
      · rw [n1, hwm] at c96
        rw [ev, (hdr (by omega)).1, hg] at c108
        refine ih (k - 1) (by omega) (j + 1) _ (by omega) (by simp (disch := (first | omega | (simp (disch := omega) only [ti_ofInt, ti_addc, ti_subc, ti_mulc, ti_cmul, ti_divc, ti_remc, ti_zero, ti_add, ti_sub, ti_neg, if_lt_ti, if_gt_ti, bP_e0, Classical.not_not, tl_i2l]; omega))) only [ti_ofInt, ti_addc, ti_subc, ti_mulc, ti_cmul, ti_divc, ti_remc, ti_zero, ti_add, ti_sub, ti_neg, if_lt_ti, if_gt_ti, bP_e0, Classical.not_not, tl_i2l]; omega) (fun w hw => ?_)
        by_cases e : w = j
        · subst e; exact c108
        · exact hI w (by omega)
      · rw [n1, hwm] at c96
        rw [ev, (hdr (by omega)).1, hg] at c108
        exact ⟨bad (fun z => z.2 j (by omega) c108), rfl⟩
  have sum : kdF t n s = 1 → teF t n s - s = 3 → ∀ (k p : Nat) (g v : Int32), p + k = 3 → v.toInt = ((s + p : Nat) : Int) → g.toInt = grF t s p → (∀ i, i < p → 0 < dM d (t (s + i) - 97).toNat) → J 37 [some (.ref 0), some (.int g), some (.int v)] [] μ := by
    intro q1 q2 k
    have hl := tok_let q1
    induction k using Nat.strongRecOn with
    | ind k ih =>
      intro p g v hk hv hg hI
      have ev : v.toInt.toNat = s + p := by omega
      have hpb := grF_3 (t := t) (s := s) (k := p) (by omega) (fun i hi => hl (s + i) (by omega) (by omega))
      have hch : p < 3 → (μ.1 1 v.toInt.toNat).toInt = t (s + p) ∧ 97 ≤ t (s + p) ∧ t (s + p) ≤ 122 := fun q => by
        have w := hl (s + p) (by omega) (by omega)
        refine ⟨?_, w⟩
        have e := mt_is hT (s + p) (c := t (s + p)) (by omega)
        rw [ev]
        exact e.mpr (by rw [htx.1, ← ht])
      have hix : p < 3 → (μ.1 1 v.toInt.toNat - Int32.ofInt 97).toInt = t (s + p) - 97 := fun q => by
        have w := hch q
        rw [ti_subc (by omega), w.1]
      have hmk : p < 3 → (μ.1 4 (μ.1 1 v.toInt.toNat - Int32.ofInt 97).toInt.toNat).toInt = dM d (t (s + p) - 97).toNat := fun q => by
        have w := hch q
        rw [hix q]
        exact h.1.2.1 _ (by omega)
      have e26 : (Int32.ofInt 26 * g).toInt = 26 * grF t s p := by rw [ti_cmul (by omega), hg]
      refine (r_iload_n C dX12_groupHere_37 rfl rfl (r_aload_n C dX12_groupHere_38 rfl rfl (r_getI C dX12_groupHere_39 fd_X12_159 nM_0 sM_0 rfl (r_icmp_ge C (tgt := 87) dX12_groupHere_42 rfl (fun c42 => (r_iconst C dX12_groupHere_87 (r_istore_n C dX12_groupHere_88 rfl (by decide) ?_))) (fun c42 => (r_aload_n C dX12_groupHere_45 rfl rfl (r_getR C dX12_groupHere_46 fd_X12_15 nM_0 sM_0 rfl (r_iconst C dX12_groupHere_49 (r_aald C (r := 4) dX12_groupHere_50 nM_2 (by decide) sM_2 (by decide) (by decide) (r_aload_n C dX12_groupHere_51 rfl rfl (r_getR C dX12_groupHere_52 fd_X12_9 nM_0 sM_0 rfl (r_iload_n C dX12_groupHere_55 rfl rfl (r_bald C dX12_groupHere_56 nM_1 sM_1 ?_ (r_bipush C dX12_groupHere_57 (by decide +kernel) (r_isub C dX12_groupHere_59 (r_iald C dX12_groupHere_60 nM_4 sM_4 ?_ (r_if_ne C (tgt := 66) dX12_groupHere_61 rfl (fun c61 => (r_bipush C dX12_groupHere_66 (by decide +kernel) (r_iload_n C dX12_groupHere_68 rfl rfl (r_imul C dX12_groupHere_69 (r_aload_n C dX12_groupHere_70 rfl rfl (r_getR C dX12_groupHere_71 fd_X12_9 nM_0 sM_0 rfl (r_iload_n C dX12_groupHere_74 rfl rfl (r_bald C dX12_groupHere_75 nM_1 sM_1 ?_ (r_iadd C dX12_groupHere_76 (r_bipush C dX12_groupHere_77 (by decide +kernel) (r_isub C dX12_groupHere_79 (r_istore_n C dX12_groupHere_80 rfl (by decide) (r_iinc C dX12_groupHere_81 rfl (by decide) (r_goto C (tgt := 37) dX12_groupHere_84 rfl ?_)))))))))))))) (fun c61 => (r_iconst C dX12_groupHere_64 (r_iret C dX12_groupHere_65 ?_))))))))))))))))))))
      · rw [hto] at c42
        have ep : p = 3 := by omega
        subst ep
        exact last g ⟨q1, q2, hI⟩ hg (dW d) 0 _ (by omega) (by simp (disch := (first | omega | (simp (disch := omega) only [ti_ofInt, ti_addc, ti_subc, ti_mulc, ti_cmul, ti_divc, ti_remc, ti_zero, ti_add, ti_sub, ti_neg, if_lt_ti, if_gt_ti, bP_e0, Classical.not_not, tl_i2l]; omega))) only [ti_ofInt, ti_addc, ti_subc, ti_mulc, ti_cmul, ti_divc, ti_remc, ti_zero, ti_add, ti_sub, ti_neg, if_lt_ti, if_gt_ti, bP_e0, Classical.not_not, tl_i2l]; rfl) (fun w hw => absurd hw (Nat.not_lt_zero _))
      · rw [hto] at c42; omega
      · rw [hto] at c42
        have w := hch (by omega)
        rw [hix (by omega)]
        omega
      · rw [hto] at c42; omega
      · rw [hto] at c42
        have w := hch (by omega)
        rw [hmk (by omega)] at c61
        have hmd := (h.1.1.2.1 (t (s + p) - 97).toNat).1
        have e1 : (Int32.ofInt 26 * g + μ.1 1 v.toInt.toNat).toInt = 26 * grF t s p + t (s + p) := by rw [ti_add (by omega), e26, w.1]
        refine ih (k - 1) (by omega) (p + 1) _ _ (by omega) (by simp (disch := (first | omega | (simp (disch := omega) only [ti_ofInt, ti_addc, ti_subc, ti_mulc, ti_cmul, ti_divc, ti_remc, ti_zero, ti_add, ti_sub, ti_neg, if_lt_ti, if_gt_ti, bP_e0, Classical.not_not, tl_i2l]; omega))) only [ti_ofInt, ti_addc, ti_subc, ti_mulc, ti_cmul, ti_divc, ti_remc, ti_zero, ti_add, ti_sub, ti_neg, if_lt_ti, if_gt_ti, bP_e0, Classical.not_not, tl_i2l]; omega) ?_ (fun i hi => ?_)
        · rw [ti_subc (by omega), e1]
          show _ = grF t s p * 26 + (t (s + p) - 97)
          omega
        · by_cases e : i = p
          · subst e; omega
          · exact hI i (by omega)
      · rw [hto] at c42
        rw [hmk (by omega)] at c61
        exact ⟨bad (fun z => by have := z.1.2.2 p (by omega); omega), rfl⟩
  refine (r_aload_n C dX12_groupHere_0 rfl rfl (r_aload_n C dX12_groupHere_1 rfl rfl (r_getI C dX12_groupHere_2 fd_X12_162 nM_0 sM_0 rfl (r_bipush C dX12_groupHere_5 (by decide +kernel) (r_bipush C dX12_groupHere_7 (by decide +kernel) (r_v3P C yv_X12_between lk_X12_165 dX12_groupHere_9 rfl nM_0 sM_0 rfl (Nat.le_of_ble_eq_true rfl) (ok_X12_between ?_) (r_if_eq C (tgt := 28) dX12_groupHere_12 rfl (fun c12 => (r_iconst C dX12_groupHere_28 (r_iret C dX12_groupHere_29 ?_))) (fun c12 => (r_aload_n C dX12_groupHere_15 rfl rfl (r_getI C dX12_groupHere_16 fd_X12_159 nM_0 sM_0 rfl (r_aload_n C dX12_groupHere_19 rfl rfl (r_getI C dX12_groupHere_20 fd_X12_162 nM_0 sM_0 rfl (r_isub C dX12_groupHere_23 (r_iconst C dX12_groupHere_24 (r_icmp_eq C (tgt := 30) dX12_groupHere_25 rfl (fun c25 => (r_iconst C dX12_groupHere_30 (r_istore_n C dX12_groupHere_31 rfl (by decide) (r_aload_n C dX12_groupHere_32 rfl rfl (r_getI C dX12_groupHere_33 fd_X12_162 nM_0 sM_0 rfl (r_istore_n C dX12_groupHere_36 rfl (by decide) ?_)))))) (fun c25 => (r_iconst C dX12_groupHere_28 (r_iret C dX12_groupHere_29 ?_))))))))))))))))))
  · exact ⟨hT, by omega⟩
  · have q := bP_e0.mp c12
    rw [es, m97, m122, ck] at q
    exact ⟨bad (fun z => q ⟨by have := (k1.mp z.1.1).1; omega, (k1.mp z.1.1).2⟩), rfl⟩
  · have q := bP_ne c12
    rw [es, m97, m122, ck] at q
    rw [hsz, m3] at c25
    exact sum (k1.mpr ⟨by omega, q.2⟩) (by omega) 3 0 _ _ rfl (by omega) (by simp (disch := (first | omega | (simp (disch := omega) only [ti_ofInt, ti_addc, ti_subc, ti_mulc, ti_cmul, ti_divc, ti_remc, ti_zero, ti_add, ti_sub, ti_neg, if_lt_ti, if_gt_ti, bP_e0, Classical.not_not, tl_i2l]; omega))) only [ti_ofInt, ti_addc, ti_subc, ti_mulc, ti_cmul, ti_divc, ti_remc, ti_zero, ti_add, ti_sub, ti_neg, if_lt_ti, if_gt_ti, bP_e0, Classical.not_not, tl_i2l]; rfl) (fun i hi => absurd hi (Nat.not_lt_zero _))
  · rw [hsz, m3] at c25
    exact ⟨bad (fun z => by have := z.1.2.1; omega), rfl⟩

