/-! ===== Post: what is heard ===== -/
noncomputable def bonF (d : kPd) (s : kPs) (l m : Nat) : Int := if lstF (fun h => pR d m h = l) (sG s m) < sG s m then sB s m (lstF (fun h => pR d m h = l) (sG s m)) else -1
theorem bonF_b {d : kPd} {s : kPs} {t : Int} {l m : Nat} (hd : pOk d) (h : pIv d s t) (hm : m < pNm d) : (bonF d s l m = -1 ∧ ∀ b, ¬ (m, b) ∈ sH s l) ∨ (0 ≤ bonF d s l m ∧ bonF d s l m < t ∧ (m, bonF d s l m) ∈ sH s l) := by
  have hm4 := (h.2 l).2.2.2.1
  have hdm := hd.2.2 m hm
  have h1 := h.1 m hm
  unfold bonF
  rcases lstF_spec (fun h => pR d m h = l) (sG s m) with ⟨q1, q2⟩ | ⟨q1, q2, q3⟩
  · left
    rw [if_neg (by omega)]
    refine ⟨rfl, fun b q => ?_⟩
    obtain ⟨-, x, q3, q4, -⟩ := (hm4 m b).mp q
    exact q2 x q3 q4
  · right
    rw [if_pos q1]
    have := h1.2.2.2.1 _ q1
    exact ⟨by omega, by omega, (hm4 m _).mpr ⟨hm, _, q1, q2, rfl⟩⟩
/-- a message stands in the list with its own minute alone -/
theorem bonF_mem {d : kPd} {s : kPs} {t : Int} {l m : Nat} {b : Int} (hd : pOk d) (h : pIv d s t) (q : (m, b) ∈ sH s l) : m < pNm d ∧ bonF d s l m = b ∧ 0 ≤ b := by
  have hm4 := (h.2 l).2.2.2.1
  obtain ⟨hm, x, q1, q2, q3⟩ := (hm4 m b).mp q
  have hdm := hd.2.2 m hm
  have h1 := h.1 m hm
  have e : lstF (fun h => pR d m h = l) (sG s m) = x := by
    rcases lstF_spec (fun h => pR d m h = l) (sG s m) with ⟨a1, a2⟩ | ⟨a1, a2, a3⟩
    · exact absurd q2 (a2 x q1)
    · exact hdm.2.2.2.2 _ _ (by omega) (by omega) (by rw [a2, q2])
  have := h1.2.2.2.1 _ q1
  unfold bonF
  rw [e, if_pos q1, q3]
  exact ⟨hm, rfl, by omega⟩
theorem ok_X5_beginOn {l x : Int32} {s : kPs} {μ : kMem} (h : kPo s μ ∧ (0 ≤ x.toInt ∧ x.toInt < (μ.1 37 6).toInt) ∧ 0 ≤ l.toInt) : kOk yX5_beginOn cX5_beginOn 4 (some .int) rmX5_beginOn shK 68 [.ref 37, .int l, .int x] μ (kP (Int32.ofInt (bonF (kpd μ) s l.toInt.toNat x.toInt.toNat)) μ) := by
  obtain ⟨⟨hl, hp, hr⟩, ⟨hx, hx2⟩, hl1⟩ := h
  obtain ⟨m, hm⟩ : ∃ m : Nat, x.toInt = m := ⟨x.toInt.toNat, by omega⟩
  have em : x.toInt.toNat = m := by omega
  obtain ⟨k, hk⟩ : ∃ k : Nat, l.toInt = k := ⟨l.toInt.toNat, by omega⟩
  have ek : l.toInt.toNat = k := by omega
  rw [em, ek]
  have hn := kp_n hp
  have hd := kpd_ok hl hp
  obtain ⟨r1, r2⟩ := hr.1 m (by omega)
  obtain ⟨s1, s2, s3, s4⟩ := hr.2.1 m (by omega)
  have hdm := hd.2.2 m (by omega)
  have m5 : (Int32.ofInt 5).toInt = 5 := by decide
  refine kOk.of rfl (Nat.le_of_ble_eq_true rfl) (fun J C => ?_)
  have C : kR cX5_beginOn RX5 4 rmX5_beginOn shK 68 (some .int) _ J := C
  have loop : ∀ (n h : Nat) (v : Int32), h + n = sG s m → v.toInt = h → (∀ i, i < h → ¬ pR (kpd μ) m i = k) → J 2 [some (.ref 37), some (.int l), some (.int x), some (.int v)] [] μ := by
    intro n
    induction n using Nat.strongRecOn with
    | ind n ih =>
      intro h v hh hv hno
      have e5 : h < 5 → (x * Int32.ofInt 5 + v).toInt = ((m * 5 + h : Nat) : Int) := by
        intro q
        have a : (x * Int32.ofInt 5).toInt = x.toInt * 5 := ti_mulc (by omega)
        rw [ti_add (by omega), a]
        omega
      have e43 : h < sG s m → (μ.1 43 (x * Int32.ofInt 5 + v).toInt.toNat).toInt = pR (kpd μ) m h := by
        intro q
        rw [e5 (by omega), Int.toNat_natCast]
        exact r2 h (by omega)
      have e44 : h < sG s m → (μ.1 44 (x * Int32.ofInt 5 + v).toInt.toNat).toInt = sB s m h := by
        intro q
        rw [e5 (by omega), Int.toNat_natCast]
        exact s4 h q
      refine (r_iload_n C dX5_beginOn_2 rfl rfl (r_aload_n C dX5_beginOn_3 rfl rfl (r_getR C dX5_beginOn_4 fd_X5_38 nK_37 sK_37 rfl (r_iload_n C dX5_beginOn_7 rfl rfl (r_iald C dX5_beginOn_8 nK_46 sK_46 ?_ (r_icmp_ge C (tgt := 48) dX5_beginOn_9 rfl (fun c9 => (r_iconst C dX5_beginOn_48 (r_iret C dX5_beginOn_49 ?_))) (fun c9 => (r_iload_n C dX5_beginOn_12 rfl rfl (r_iconst C dX5_beginOn_13 (r_icmp_ge C (tgt := 48) dX5_beginOn_14 rfl (fun c14 => (r_iconst C dX5_beginOn_48 (r_iret C dX5_beginOn_49 ?_))) (fun c14 => (r_aload_n C dX5_beginOn_17 rfl rfl (r_getR C dX5_beginOn_18 fd_X5_29 nK_37 sK_37 rfl (r_iload_n C dX5_beginOn_21 rfl rfl (r_iconst C dX5_beginOn_22 (r_imul C dX5_beginOn_23 (r_iload_n C dX5_beginOn_24 rfl rfl (r_iadd C dX5_beginOn_25 (r_iald C dX5_beginOn_26 nK_43 sK_43 ?_ (r_iload_n C dX5_beginOn_27 rfl rfl (r_icmp_ne C (tgt := 42) dX5_beginOn_28 rfl (fun c28 => (r_iinc C dX5_beginOn_42 rfl (by decide) (r_goto C (tgt := 2) dX5_beginOn_45 rfl ?_))) (fun c28 => (r_aload_n C dX5_beginOn_31 rfl rfl (r_getR C dX5_beginOn_32 fd_X5_32 nK_37 sK_37 rfl (r_iload_n C dX5_beginOn_35 rfl rfl (r_iconst C dX5_beginOn_36 (r_imul C dX5_beginOn_37 (r_iload_n C dX5_beginOn_38 rfl rfl (r_iadd C dX5_beginOn_39 (r_iald C dX5_beginOn_40 nK_44 sK_44 ?_ (r_iret C dX5_beginOn_41 ?_)))))))))))))))))))))))))))))))
      · omega
      · rw [em, s2] at c9
        have e : lstF (fun h => pR (kpd μ) m h = k) (sG s m) = sG s m := lstF_no (by
          have : h = sG s m := by omega
          rw [← this]
          exact hno)
        refine ⟨?_, rfl⟩
        unfold bonF
        rw [e, if_neg (by omega)]
      · rw [em, s2] at c9
        rw [m5] at c14
        omega
      · rw [em, s2] at c9
        rw [e5 (by omega)]
        omega
      · rw [em, s2] at c9
        rw [e43 (by omega)] at c28
        refine ih (n - 1) (by omega) (h + 1) _ (by omega) (by simp (disch := (first | omega | (simp (disch := omega) only [ti_ofInt, ti_addc, ti_subc, ti_mulc, ti_cmul, ti_divc, ti_remc, ti_zero, ti_add, ti_sub, ti_neg, if_lt_ti, if_gt_ti, bP_e0, Classical.not_not, tl_i2l]; omega))) only [ti_ofInt, ti_addc, ti_subc, ti_mulc, ti_cmul, ti_divc, ti_remc, ti_zero, ti_add, ti_sub, ti_neg, if_lt_ti, if_gt_ti, bP_e0, Classical.not_not, tl_i2l]; omega) (fun i hi => ?_)
        by_cases e : i = h
        · subst e; omega
        · exact hno i (by omega)
      · rw [em, s2] at c9
        rw [e5 (by omega)]
        omega
      · rw [em, s2] at c9
        rw [e43 (by omega)] at c28
        have e : lstF (fun h => pR (kpd μ) m h = k) (sG s m) = h := lstF_is (by omega) (by omega) hno
        refine ⟨?_, rfl⟩
        unfold bonF
        rw [e, if_pos (by omega), ← e44 (by omega)]
        exact (ti_self _).symm
  refine (r_iconst C dX5_beginOn_0 (r_istore_n C dX5_beginOn_1 rfl (by decide) ?_))
  exact loop (sG s m) 0 _ (by omega) (by simp (disch := (first | omega | (simp (disch := omega) only [ti_ofInt, ti_addc, ti_subc, ti_mulc, ti_cmul, ti_divc, ti_remc, ti_zero, ti_add, ti_sub, ti_neg, if_lt_ti, if_gt_ti, bP_e0, Classical.not_not, tl_i2l]; omega))) only [ti_ofInt, ti_addc, ti_subc, ti_mulc, ti_cmul, ti_divc, ti_remc, ti_zero, ti_add, ti_sub, ti_neg, if_lt_ti, if_gt_ti, bP_e0, Classical.not_not, tl_i2l]; rfl) (fun i hi => absurd hi (Nat.not_lt_zero _))
theorem ok_X5_nextHeard {l a : Int32} {s : kPs} {μ : kMem} (h : kPo s μ ∧ pIv (kpd μ) s 8001 ∧ 0 ≤ l.toInt) : kOk yX5_nextHeard cX5_nextHeard 7 (some .int) rmX5_nextHeard shK 68 [.ref 37, .int l, .int a] μ (kI fun r μ' => μ' = μ ∧ ((r = Int32.ofInt (-1) ∧ ∀ m, m < pNm (kpd μ) → bonF (kpd μ) s l.toInt.toNat m ≤ a.toInt) ∨ ∃ m, m < pNm (kpd μ) ∧ r.toInt = (m : Int) ∧ a.toInt < bonF (kpd μ) s l.toInt.toNat m ∧ ∀ i, i < pNm (kpd μ) → a.toInt < bonF (kpd μ) s l.toInt.toNat i → bonF (kpd μ) s l.toInt.toNat m ≤ bonF (kpd μ) s l.toInt.toNat i)) := by
  obtain ⟨⟨hl, hp, hr⟩, hI, hl1⟩ := h
  obtain ⟨k, hk⟩ : ∃ k : Nat, l.toInt = k := ⟨l.toInt.toNat, by omega⟩
  have ek : l.toInt.toNat = k := by omega
  simp only [ek]
  have hn := kp_n hp
  have hd := kpd_ok hl hp
  have m1 : (Int32.ofInt (-1)).toInt = -1 := by decide
  have hbb : ∀ m, m < pNm (kpd μ) → -1 ≤ bonF (kpd μ) s k m ∧ bonF (kpd μ) s k m < 8001 := by
    intro m hm
    rcases bonF_b (l := k) hd hI hm with ⟨q, -⟩ | ⟨q1, q2, -⟩ <;> omega
  refine kOk.of rfl (Nat.le_of_ble_eq_true rfl) (fun J C => ?_)
  have C : kR cX5_nextHeard RX5 7 rmX5_nextHeard shK 68 (some .int) _ J := C
  have loop : ∀ (n i : Nat) (v r b : Int32) (z : Option Value), i + n = pNm (kpd μ) → v.toInt = i → ((r = Int32.ofInt (-1) ∧ ∀ m, m < i → bonF (kpd μ) s k m ≤ a.toInt) ∨ ∃ m, m < i ∧ r.toInt = (m : Int) ∧ a.toInt < bonF (kpd μ) s k m ∧ b.toInt = bonF (kpd μ) s k m ∧ ∀ j, j < i → a.toInt < bonF (kpd μ) s k j → bonF (kpd μ) s k m ≤ bonF (kpd μ) s k j) → J 8 [some (.ref 37), some (.int l), some (.int a), some (.int r), some (.int b), some (.int v), z] [] μ := by
    intro n
    induction n using Nat.strongRecOn with
    | ind n ih =>
      intro i v r b z hi hv hr2
      have evi : v.toInt.toNat = i := by omega
      have nx : i < pNm (kpd μ) → (v + Int32.ofInt 1).toInt = ((i + 1 : Nat) : Int) := fun q => by rw [ti_addc (by omega)]; omega
      have eb : i < pNm (kpd μ) → (Int32.ofInt (bonF (kpd μ) s l.toInt.toNat v.toInt.toNat)).toInt = bonF (kpd μ) s k i := by
        intro q
        have := hbb i q
        rw [ek, evi, ti_ofInt (by omega)]
      refine (r_iload C dX5_nextHeard_8 rfl (r_aload_n C dX5_nextHeard_10 rfl rfl (r_getI C dX5_nextHeard_11 fd_X5_51 nK_37 sK_37 rfl (r_icmp_ge C (tgt := 57) dX5_nextHeard_14 rfl (fun c14 => (r_iload_n C dX5_nextHeard_57 rfl rfl (r_iret C dX5_nextHeard_58 ?_))) (fun c14 => (r_aload_n C dX5_nextHeard_17 rfl rfl (r_iload_n C dX5_nextHeard_18 rfl rfl (r_iload C dX5_nextHeard_19 rfl (r_v2P C yv_X5_beginOn lk_X5_102 dX5_nextHeard_21 rfl nK_37 sK_37 rfl (Nat.le_of_ble_eq_true rfl) (ok_X5_beginOn (show kPo s μ ∧ _ from ⟨⟨hl, hp, hr⟩, ⟨by omega, by omega⟩, hl1⟩)) (r_istore C dX5_nextHeard_24 (by decide) (r_iload C dX5_nextHeard_26 rfl (r_iload_n C dX5_nextHeard_28 rfl rfl (r_icmp_le C (tgt := 51) dX5_nextHeard_29 rfl (fun c29 => (r_iinc C dX5_nextHeard_51 rfl (by decide) (r_goto C (tgt := 8) dX5_nextHeard_54 rfl ?_))) (fun c29 => (r_iload_n C dX5_nextHeard_32 rfl rfl (r_iconst C dX5_nextHeard_33 (r_icmp_eq C (tgt := 44) dX5_nextHeard_34 rfl (fun c34 => (r_iload C dX5_nextHeard_44 rfl (r_istore_n C dX5_nextHeard_46 rfl (by decide) (r_iload C dX5_nextHeard_47 rfl (r_istore C dX5_nextHeard_49 (by decide) (r_iinc C dX5_nextHeard_51 rfl (by decide) (r_goto C (tgt := 8) dX5_nextHeard_54 rfl ?_))))))) (fun c34 => (r_iload C dX5_nextHeard_37 rfl (r_iload C dX5_nextHeard_39 rfl (r_icmp_ge C (tgt := 51) dX5_nextHeard_41 rfl (fun c41 => (r_iinc C dX5_nextHeard_51 rfl (by decide) (r_goto C (tgt := 8) dX5_nextHeard_54 rfl ?_))) (fun c41 => (r_iload C dX5_nextHeard_44 rfl (r_istore_n C dX5_nextHeard_46 rfl (by decide) (r_iload C dX5_nextHeard_47 rfl (r_istore C dX5_nextHeard_49 (by decide) (r_iinc C dX5_nextHeard_51 rfl (by decide) (r_goto C (tgt := 8) dX5_nextHeard_54 rfl ?_))))))))))))))))))))))))))))
      · have e : i = pNm (kpd μ) := by omega
        subst e
        refine ⟨rfl, ?_⟩
        rcases hr2 with ⟨q1, q2⟩ | ⟨m, q1, q2, q3, q4, q5⟩
        · exact Or.inl ⟨q1, q2⟩
        · exact Or.inr ⟨m, q1, q2, q3, q5⟩
      · rw [eb (by omega)] at c29
        refine ih (n - 1) (by omega) (i + 1) _ _ _ _ (by omega) (nx (by omega)) ?_
        rcases hr2 with ⟨q1, q2⟩ | ⟨m, q1, q2, q3, q4, q5⟩
        · refine Or.inl ⟨q1, fun m hm => ?_⟩
          by_cases e : m = i
          · subst e; exact c29
          · exact q2 m (by omega)
        · refine Or.inr ⟨m, by omega, q2, q3, q4, fun j hj hg => ?_⟩
          by_cases e : j = i
          · subst e; omega
          · exact q5 j (by omega) hg
      · rw [eb (by omega)] at c29
        refine ih (n - 1) (by omega) (i + 1) _ _ _ _ (by omega) (nx (by omega)) (Or.inr ⟨i, by omega, by omega, by omega, eb (by omega), fun j hj hg => ?_⟩)
        by_cases e : j = i
        · subst e; exact Int.le_refl _
        · rcases hr2 with ⟨q1, q2⟩ | ⟨m, q1, q2, q3, q4, q5⟩
          · have := q2 j (by omega); omega
          · omega
      · rw [eb (by omega)] at c29
        rw [eb (by omega)] at c41
        refine ih (n - 1) (by omega) (i + 1) _ _ _ _ (by omega) (nx (by omega)) ?_
        rcases hr2 with ⟨q1, q2⟩ | ⟨m, q1, q2, q3, q4, q5⟩
        · exact absurd (by rw [q1]) c34
        · refine Or.inr ⟨m, by omega, q2, q3, q4, fun j hj hg => ?_⟩
          by_cases e : j = i
          · subst e; omega
          · exact q5 j (by omega) hg
      · rw [eb (by omega)] at c29
        rw [eb (by omega)] at c41
        refine ih (n - 1) (by omega) (i + 1) _ _ _ _ (by omega) (nx (by omega)) (Or.inr ⟨i, by omega, by omega, by omega, eb (by omega), fun j hj hg => ?_⟩)
        by_cases e : j = i
        · subst e; exact Int.le_refl _
        · rcases hr2 with ⟨q1, q2⟩ | ⟨m, q1, q2, q3, q4, q5⟩
          · exact absurd (by rw [q1]) c34
          · have := q5 j (by omega) hg
            omega
  refine (r_iconst C dX5_nextHeard_0 (r_istore_n C dX5_nextHeard_1 rfl (by decide) (r_iconst C dX5_nextHeard_2 (r_istore C dX5_nextHeard_3 (by decide) (r_iconst C dX5_nextHeard_5 (r_istore C dX5_nextHeard_6 (by decide) ?_))))))
  exact loop (pNm (kpd μ)) 0 _ _ _ _ (by omega) (by simp (disch := (first | omega | (simp (disch := omega) only [ti_ofInt, ti_addc, ti_subc, ti_mulc, ti_cmul, ti_divc, ti_remc, ti_zero, ti_add, ti_sub, ti_neg, if_lt_ti, if_gt_ti, bP_e0, Classical.not_not, tl_i2l]; omega))) only [ti_ofInt, ti_addc, ti_subc, ti_mulc, ti_cmul, ti_divc, ti_remc, ti_zero, ti_add, ti_sub, ti_neg, if_lt_ti, if_gt_ti, bP_e0, Classical.not_not, tl_i2l]; rfl) (Or.inl ⟨rfl, fun m hm => absurd hm (Nat.not_lt_zero _)⟩)
/-- what is asked of a list of what is heard -/
def khd (L : List (Nat × Int)) (k : Int) : Int := if k = -1 then (L.length : Int) else if h : 0 ≤ k ∧ k.toNat < L.length then ((L[k.toNat]'h.2).1 : Int) else -1
/-- the list up to a place has been heard -/
def hdI (L : List (Nat × Int)) (i : Nat) (a : Int) : Prop := i ≤ L.length ∧ (i = 0 → a = -1) ∧ ∀ (h : i - 1 < L.length), 0 < i → a = (L[i - 1]'h).2
theorem hd_end {d : kPd} {s : kPs} {t : Int} {l i : Nat} {a : Int} (hd : pOk d) (h : pIv d s t) (hi : hdI (sH s l) i a) (q : ∀ m, m < pNm d → bonF d s l m ≤ a) : i = (sH s l).length := by
  obtain ⟨h1, h2, h3⟩ := hi
  have hs := List.pairwise_iff_getElem.mp (h.2 l).2.2.1
  refine Classical.byContradiction (fun z => ?_)
  have hlt : i < (sH s l).length := by omega
  have hmem := List.getElem_mem hlt
  have h4 := bonF_mem (m := ((sH s l)[i]).1) (b := ((sH s l)[i]).2) hd h hmem
  have h5 := q _ h4.1
  rcases Nat.eq_zero_or_pos i with e | e
  · have := h2 e
    omega
  · have h6 := h3 (by omega) e
    have h7 := hs (i - 1) i (by omega) hlt (by omega)
    omega
theorem hd_next {d : kPd} {s : kPs} {t : Int} {l i m : Nat} {a : Int} (hd : pOk d) (h : pIv d s t) (hi : hdI (sH s l) i a) (hm : m < pNm d) (q1 : a < bonF d s l m) (q2 : ∀ j, j < pNm d → a < bonF d s l j → bonF d s l m ≤ bonF d s l j) : ∃ h : i < (sH s l).length, (sH s l)[i] = (m, bonF d s l m) := by
  obtain ⟨h1, h2, h3⟩ := hi
  have hs := List.pairwise_iff_getElem.mp (h.2 l).2.2.1
  have ha : -1 ≤ a := by
    rcases Nat.eq_zero_or_pos i with e | e
    · have := h2 e; omega
    · have h6 := h3 (by omega) e
      have h4 := bonF_mem (m := ((sH s l)[i - 1]).1) (b := ((sH s l)[i - 1]).2) hd h (List.getElem_mem (by omega))
      omega
  have hin : (m, bonF d s l m) ∈ sH s l := by
    rcases bonF_b (l := l) hd h hm with ⟨z, -⟩ | ⟨-, -, z⟩
    · omega
    · exact z
  obtain ⟨j, hj, ej⟩ := List.getElem_of_mem hin
  have hij : i ≤ j := by
    refine Classical.byContradiction (fun z => ?_)
    have h6 := h3 (by omega) (by omega)
    by_cases e : j = i - 1
    · subst e
      rw [ej] at h6
      have h6 : a = bonF d s l m := h6
      omega
    · have h7 := hs j (i - 1) hj (by omega) (by omega)
      rw [ej] at h7
      have h7 : bonF d s l m < _ := h7
      omega
  have hlt : i < (sH s l).length := by omega
  refine ⟨hlt, ?_⟩
  by_cases e : i = j
  · subst e; exact ej
  · exfalso
    have h7 := hs i j hlt hj (by omega)
    rw [ej] at h7
    have h7 : _ < bonF d s l m := h7
    have h4 := bonF_mem (m := ((sH s l)[i]).1) (b := ((sH s l)[i]).2) hd h (List.getElem_mem hlt)
    have h8 : a < ((sH s l)[i]).2 := by
      rcases Nat.eq_zero_or_pos i with e | e
      · have := h2 e; omega
      · have h6 := h3 (by omega) e
        have := hs (i - 1) i (by omega) hlt (by omega)
        omega
    have := q2 _ h4.1 (by omega)
    omega
theorem khd_at {L : List (Nat × Int)} {k : Int} {i : Nat} (h : i < L.length) (e : k = (i : Int)) : khd L k = ((L[i]'h).1 : Int) := by
  subst e
  unfold khd
  rw [if_neg (by omega), dif_pos ⟨by omega, by rw [Int.toNat_natCast]; exact h⟩]
  simp only [Int.toNat_natCast]
theorem ok_X5_kthHeard {l k : Int32} {s : kPs} {μ : kMem} (h : kPo s μ ∧ pIv (kpd μ) s 8001 ∧ 0 ≤ l.toInt) : kOk yX5_kthHeard cX5_kthHeard 7 (some .int) rmX5_kthHeard shK 68 [.ref 37, .int l, .int k] μ (kP (Int32.ofInt (khd (sH s l.toInt.toNat) k.toInt)) μ) := by
  obtain ⟨⟨hl, hp, hr⟩, hI, hl1⟩ := h
  obtain ⟨j, hj⟩ : ∃ j : Nat, l.toInt = j := ⟨l.toInt.toNat, by omega⟩
  have ej : l.toInt.toNat = j := by omega
  rw [ej]
  have hn := kp_n hp
  have hd := kpd_ok hl hp
  have m1 : (Int32.ofInt (-1)).toInt = -1 := by decide
  have m20 : (Int32.ofInt 20).toInt = 20 := by decide
  have hlen : (sH s j).length ≤ 20 := by
    have := (hI.2 j).2.2.2.2
    have := cntF_le (fun m => ∃ h, h < sG s m ∧ pR (kpd μ) m h = j) (pNm (kpd μ))
    omega
  refine kOk.of rfl (Nat.le_of_ble_eq_true rfl) (fun J C => ?_)
  have C : kR cX5_kthHeard RX5 7 rmX5_kthHeard shK 68 (some .int) _ J := C
  have loop : ∀ (n i : Nat) (h a v : Int32) (z : Option Value), i + n = 20 → h.toInt = i → v.toInt = i → hdI (sH s j) i a.toInt → (k.toInt < 0 ∨ i ≤ k.toInt) → J 8 [some (.ref 37), some (.int l), some (.int k), some (.int h), some (.int a), some (.int v), z] [] μ := by
    intro n
    induction n using Nat.strongRecOn with
    | ind n ih =>
      intro i h a v z hi hh hv hA hk
      have fin : i = (sH s j).length → k.toInt = -1 → h = Int32.ofInt (khd (sH s j) k.toInt) := by
        intro q1 q2
        unfold khd
        rw [if_pos q2]
        exact ti_ext (by rw [ti_ofInt (by omega)]; omega)
      have fin2 : i = (sH s j).length → ¬ k.toInt = -1 → Int32.ofInt (-1) = Int32.ofInt (khd (sH s j) k.toInt) := by
        intro q1 q2
        unfold khd
        rw [if_neg q2, dif_neg (by omega)]
      have hnx : ∀ r : Int32, (r = Int32.ofInt (-1) ∧ ∀ m, m < pNm (kpd μ) → bonF (kpd μ) s l.toInt.toNat m ≤ a.toInt) ∨ (∃ m, m < pNm (kpd μ) ∧ r.toInt = (m : Int) ∧ a.toInt < bonF (kpd μ) s l.toInt.toNat m ∧ ∀ i, i < pNm (kpd μ) → a.toInt < bonF (kpd μ) s l.toInt.toNat i → bonF (kpd μ) s l.toInt.toNat m ≤ bonF (kpd μ) s l.toInt.toNat i) → (r.toInt = -1 ∧ i = (sH s j).length) ∨ ∃ m, m < pNm (kpd μ) ∧ r.toInt = (m : Int) ∧ ∃ h : i < (sH s j).length, (sH s j)[i] = (m, bonF (kpd μ) s j m) := by
        intro r q
        rw [ej] at q
        rcases q with ⟨q1, q2⟩ | ⟨m, q1, q2, q3, q4⟩
        · exact Or.inl ⟨by rw [q1, m1], hd_end hd hI hA q2⟩
        · exact Or.inr ⟨m, q1, q2, hd_next hd hI hA q1 q3 q4⟩
      have hp56 : ∀ (r : Int32) (μ' : kMem), (μ' = μ ∧ ((r = Int32.ofInt (-1) ∧ ∀ m, m < pNm (kpd μ) → bonF (kpd μ) s l.toInt.toNat m ≤ a.toInt) ∨ ∃ m, m < pNm (kpd μ) ∧ r.toInt = (m : Int) ∧ a.toInt < bonF (kpd μ) s l.toInt.toNat m ∧ ∀ i, i < pNm (kpd μ) → a.toInt < bonF (kpd μ) s l.toInt.toNat i → bonF (kpd μ) s l.toInt.toNat m ≤ bonF (kpd μ) s l.toInt.toNat i)) → ¬ r.toInt = (Int32.ofInt (-1)).toInt → kPo s μ' ∧ (0 ≤ r.toInt ∧ r.toInt < (μ'.1 37 6).toInt) ∧ 0 ≤ l.toInt := by
        intro r μ' hq hr1
        obtain ⟨e, hq⟩ := hq
        rw [e]
        rcases hnx r hq with ⟨q1, -⟩ | ⟨m, q1, q2, -⟩
        · exact absurd (by rw [q1, m1]) hr1
        · exact ⟨⟨hl, hp, hr⟩, ⟨by omega, by omega⟩, hl1⟩
      have hA1 := hA.1
      refine (r_iload C dX5_kthHeard_8 rfl (r_bipush C dX5_kthHeard_10 (by decide +kernel) (r_icmp_ge C (tgt := 67) dX5_kthHeard_12 rfl (fun c12 => (r_iload_n C dX5_kthHeard_67 rfl rfl (r_iconst C dX5_kthHeard_68 (r_icmp_ne C (tgt := 76) dX5_kthHeard_69 rfl (fun c69 => (r_iconst C dX5_kthHeard_76 (r_iret C dX5_kthHeard_77 ?_))) (fun c69 => (r_iload_n C dX5_kthHeard_72 rfl rfl (r_goto C (tgt := 77) dX5_kthHeard_73 rfl (r_iret C dX5_kthHeard_77 ?_)))))))) (fun c12 => (r_aload_n C dX5_kthHeard_15 rfl rfl (r_iload_n C dX5_kthHeard_16 rfl rfl (r_iload C dX5_kthHeard_17 rfl (r_v2I C yv_X5_nextHeard lk_X5_99 dX5_kthHeard_19 rfl nK_37 sK_37 rfl (Nat.le_of_ble_eq_true rfl) (ok_X5_nextHeard (show kPo s μ ∧ _ from ⟨⟨hl, hp, hr⟩, hI, hl1⟩)) (fun r19 μ19 h19 => (r_istore C dX5_kthHeard_22 (by decide) (r_iload C dX5_kthHeard_24 rfl (r_iconst C dX5_kthHeard_26 (r_icmp_ne C (tgt := 41) dX5_kthHeard_27 rfl (fun c27 => (r_iload_n C dX5_kthHeard_41 rfl rfl (r_iload_n C dX5_kthHeard_42 rfl rfl (r_icmp_ne C (tgt := 49) dX5_kthHeard_43 rfl (fun c43 => (r_iinc C dX5_kthHeard_49 rfl (by decide) (r_aload_n C dX5_kthHeard_52 rfl rfl (r_iload_n C dX5_kthHeard_53 rfl rfl (r_iload C dX5_kthHeard_54 rfl (r_v2P C yv_X5_beginOn lk_X5_102 dX5_kthHeard_56 rfl nK_37 sK_37 rfl (Nat.le_of_ble_eq_true rfl) (ok_X5_beginOn (show kPo s μ19 ∧ _ from hp56 r19 μ19 h19 c27)) (r_istore C dX5_kthHeard_59 (by decide) (r_iinc C dX5_kthHeard_61 rfl (by decide) (r_goto C (tgt := 8) dX5_kthHeard_64 rfl ?_))))))))) (fun c43 => (r_iload C dX5_kthHeard_46 rfl (r_iret C dX5_kthHeard_48 ?_))))))) (fun c27 => (r_iload_n C dX5_kthHeard_30 rfl rfl (r_iconst C dX5_kthHeard_31 (r_icmp_ne C (tgt := 39) dX5_kthHeard_32 rfl (fun c32 => (r_iconst C dX5_kthHeard_39 (r_iret C dX5_kthHeard_40 ?_))) (fun c32 => (r_iload_n C dX5_kthHeard_35 rfl rfl (r_goto C (tgt := 40) dX5_kthHeard_36 rfl (r_iret C dX5_kthHeard_40 ?_)))))))))))))))))))))
      · rw [m20] at c12
        rw [m1] at c69
        exact ⟨fin2 (by omega) c69, rfl⟩
      · rw [m20] at c12
        rw [m1] at c69
        exact ⟨fin (by omega) c69, rfl⟩
      · rw [m20] at c12
        obtain ⟨q1, q2⟩ := h19
        rcases hnx _ q2 with ⟨e1, -⟩ | ⟨m, e1, e2, hlt, e4⟩
        · exact absurd (by rw [e1, m1]) c27
        · have emr : r19.toInt.toNat = m := by omega
          have hb := bonF_b (l := j) hd hI e1
          subst q1
          refine ih (n - 1) (by omega) (i + 1) _ _ _ _ (by omega) (by simp (disch := (first | omega | (simp (disch := omega) only [ti_ofInt, ti_addc, ti_subc, ti_mulc, ti_cmul, ti_divc, ti_remc, ti_zero, ti_add, ti_sub, ti_neg, if_lt_ti, if_gt_ti, bP_e0, Classical.not_not, tl_i2l]; omega))) only [ti_ofInt, ti_addc, ti_subc, ti_mulc, ti_cmul, ti_divc, ti_remc, ti_zero, ti_add, ti_sub, ti_neg, if_lt_ti, if_gt_ti, bP_e0, Classical.not_not, tl_i2l]; omega) (by simp (disch := (first | omega | (simp (disch := omega) only [ti_ofInt, ti_addc, ti_subc, ti_mulc, ti_cmul, ti_divc, ti_remc, ti_zero, ti_add, ti_sub, ti_neg, if_lt_ti, if_gt_ti, bP_e0, Classical.not_not, tl_i2l]; omega))) only [ti_ofInt, ti_addc, ti_subc, ti_mulc, ti_cmul, ti_divc, ti_remc, ti_zero, ti_add, ti_sub, ti_neg, if_lt_ti, if_gt_ti, bP_e0, Classical.not_not, tl_i2l]; omega) ⟨by omega, fun q => absurd q (by omega), fun h9 _ => ?_⟩ (by omega)
          show _ = ((sH s j)[i]'hlt).2
          rw [e4, ej, emr, ti_ofInt (by omega)]
      · obtain ⟨q1, q2⟩ := h19
        rcases hnx _ q2 with ⟨e1, -⟩ | ⟨m, e1, e2, hlt, e4⟩
        · exact absurd (by rw [e1, m1]) c27
        · refine ⟨ti_ext ?_, q1⟩
          rw [khd_at hlt (by omega), e4, e2, ti_ofInt (by omega)]
      · obtain ⟨q1, q2⟩ := h19
        rcases hnx _ q2 with ⟨e1, e2⟩ | ⟨m, e1, e2, -⟩
        · rw [m1] at c32
          exact ⟨fin2 e2 c32, q1⟩
        · rw [m1] at c27; omega
      · obtain ⟨q1, q2⟩ := h19
        rcases hnx _ q2 with ⟨e1, e2⟩ | ⟨m, e1, e2, -⟩
        · rw [m1] at c32
          exact ⟨fin e2 c32, q1⟩
        · rw [m1] at c27; omega
  refine (r_iconst C dX5_kthHeard_0 (r_istore_n C dX5_kthHeard_1 rfl (by decide) (r_iconst C dX5_kthHeard_2 (r_istore C dX5_kthHeard_3 (by decide) (r_iconst C dX5_kthHeard_5 (r_istore C dX5_kthHeard_6 (by decide) ?_))))))
  exact loop 20 0 _ _ _ _ (by omega) (by simp (disch := (first | omega | (simp (disch := omega) only [ti_ofInt, ti_addc, ti_subc, ti_mulc, ti_cmul, ti_divc, ti_remc, ti_zero, ti_add, ti_sub, ti_neg, if_lt_ti, if_gt_ti, bP_e0, Classical.not_not, tl_i2l]; omega))) only [ti_ofInt, ti_addc, ti_subc, ti_mulc, ti_cmul, ti_divc, ti_remc, ti_zero, ti_add, ti_sub, ti_neg, if_lt_ti, if_gt_ti, bP_e0, Classical.not_not, tl_i2l]; rfl) (by simp (disch := (first | omega | (simp (disch := omega) only [ti_ofInt, ti_addc, ti_subc, ti_mulc, ti_cmul, ti_divc, ti_remc, ti_zero, ti_add, ti_sub, ti_neg, if_lt_ti, if_gt_ti, bP_e0, Classical.not_not, tl_i2l]; omega))) only [ti_ofInt, ti_addc, ti_subc, ti_mulc, ti_cmul, ti_divc, ti_remc, ti_zero, ti_add, ti_sub, ti_neg, if_lt_ti, if_gt_ti, bP_e0, Classical.not_not, tl_i2l]; rfl) ⟨Nat.zero_le _, fun _ => m1, fun _ q => absurd q (Nat.lt_irrefl 0)⟩ (by omega)

