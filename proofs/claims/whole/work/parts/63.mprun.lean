/-! ===== the model: the post's run ===== -/
noncomputable def msnm (μ : kMem) (m : Nat) : Nat → Nat := msn μ (mpE μ m) (mpS μ m)
theorem msnm_ok {μ : kMem} (h : mLnOk μ) (hp : mPsOk μ) {m : Nat} (hm : m < pNm (mpd μ)) : (∀ k, k ≤ pZ (mpd μ) m → (msnm μ m k = mpE μ m ↔ k = pZ (mpd μ) m) ∧ msnm μ m k < 6) ∧ (∀ k, k < pZ (mpd μ) m → mfL μ (mpE μ m) (msnm μ m k) = (pR (mpd μ) m k : Int) ∧ mst_ μ (pR (mpd μ) m k) = msnm μ m k ∧ men_ μ (pR (mpd μ) m k) = msnm μ m (k + 1) ∧ pR (mpd μ) m k < mln μ) ∧ msnm μ m 0 = mpS μ m ∧ mpE μ m < 6 ∧ mpS μ m < 6 ∧ ((mpE μ m : Int) = (μ.1 27 m).toInt) ∧ (mpS μ m : Int) = (μ.1 26 m).toInt ∧ 0 < pZ (mpd μ) m := by
  have hm2 : m < (μ.1 0 36).toInt.toNat := hm
  obtain ⟨a, b, c, e, f, g⟩ := hp.2 m (by have := hp.1; omega)
  have eE : (mpE μ m : Int) = (μ.1 27 m).toInt := by unfold mpE; omega
  have eS : (mpS μ m : Int) = (μ.1 26 m).toInt := by unfold mpS; omega
  have hz : ∀ s : Nat, mds μ (mpE μ m) s = 0 ↔ s = mpE μ m := fun s => dsF_zero
  have ez : pZ (mpd μ) m = mds μ (mpE μ m) (mpS μ m) := rfl
  have hds : ∀ k, k ≤ pZ (mpd μ) m → mds μ (mpE μ m) (msnm μ m k) + k = pZ (mpd μ) m := fun k hk => snF_ds g k hk
  have fl : ∀ k, k < pZ (mpd μ) m → mfl μ (mpE μ m) (msnm μ m k) < mln μ ∧ mst_ μ (mfl μ (mpE μ m) (msnm μ m k)) = msnm μ m k := fun k hk => by
    have q := hds k (by omega)
    have q2 := flF_ok (st := mst_ μ) (en := men_ μ) (n := mln μ) (to := mpE μ m) (s := msnm μ m k) (show 0 < mds μ (mpE μ m) (msnm μ m k) by omega) (show mds μ (mpE μ m) (msnm μ m k) < 6 by omega)
    exact ⟨q2.1, q2.2.1⟩
  refine ⟨fun k hk => ⟨?_, ?_⟩, fun k hk => ⟨?_, (fl k hk).2, rfl, (fl k hk).1⟩, rfl, by omega, by omega, eE, eS, ?_⟩
  · have q := hds k hk
    have q2 := hz (msnm μ m k)
    exact ⟨fun z => by have := q2.mpr z; omega, fun z => q2.mp (by omega)⟩
  · by_cases q : k < pZ (mpd μ) m
    · have := (mLn_st h (mfl μ (mpE μ m) (msnm μ m k))).1
      rw [(fl k q).2] at this
      exact this
    · have q1 := hds k hk
      have q2 := (hz (msnm μ m k)).mp (by omega)
      omega
  · have q := hds k (by omega)
    unfold mfL
    rw [if_pos (by omega)]
    rfl
  · rw [ez]
    have q2 := hz (mpS μ m)
    rcases Nat.eq_zero_or_pos (mds μ (mpE μ m) (mpS μ m)) with w | w
    · have := q2.mp w
      omega
    · exact w
/-- the memory holds a state of the post: who is up, who is at a station -/
def mPm (d : kPd) (sn : Nat → Nat → Nat) (U A : Prop) (s : kPs) (m : Nat) (μ : kMem) : Prop := (μ.1 36 m).toInt = (sG s m : Int) * pW d m ∧ (¬ U → (μ.1 32 m).toInt = -1 ∧ (μ.1 35 m).toInt = -1) ∧ (U → A → (μ.1 32 m).toInt = (sn m (sG s m) : Int) ∧ (μ.1 33 m).toInt = sS s m ∧ (sG s m = pZ d m → (μ.1 35 m).toInt = sS s m) ∧ (sG s m < pZ d m → (μ.1 35 m).toInt = -1 ∧ (μ.1 39 m).toInt = (pR d m (sG s m) : Int))) ∧ (U → ¬ A → 0 < sG s m ∧ (μ.1 32 m).toInt = 10 + (pR d m (sG s m - 1) : Int) ∧ (μ.1 34 m).toInt = sS s m ∧ (μ.1 35 m).toInt = -1 ∧ (μ.1 37 (pR d m (sG s m - 1))).toInt = (m : Int))
def mPl (d : kPd) (U A : Nat → Prop) (fb : Int) (s : kPs) (l : Nat) (μ : kMem) : Prop := ((μ.1 37 l).toInt = -1 ∧ sF s l ≤ fb) ∨ ∃ m, m < pNm d ∧ (μ.1 37 l).toInt = (m : Int) ∧ U m ∧ ¬ A m ∧ pR d m (sG s m - 1) = l ∧ sF s l = sS s m
def mPh (s : kPs) (tp : Int) (μ : kMem) : Prop := ∀ l : Nat, tp = (l : Int) → (μ.1 0 45).toInt = ((sH s l).length : Int) ∧ ∀ j (hj : j < (sH s l).length), (μ.1 38 j).toInt = (((sH s l)[j]).1 : Int)
def mPr (d : kPd) (sn : Nat → Nat → Nat) (U A : Nat → Prop) (fb : Int) (s : kPs) (tp : Int) (μ : kMem) : Prop := (∀ m, m < pNm d → mPm d sn (U m) (A m) s m μ) ∧ (∀ l, l < pNl d → mPl d U A fb s l μ) ∧ mPh s tp μ
theorem mPr.cg {d : kPd} {sn : Nat → Nat → Nat} {U A U' A' : Nat → Prop} {fb fb' : Int} {s : kPs} {tp : Int} {μ : kMem} (h : mPr d sn U A fb s tp μ) (hU : ∀ m, m < pNm d → (U' m ↔ U m)) (hA : ∀ m, m < pNm d → U m → (A' m ↔ A m)) (hf : fb ≤ fb') : mPr d sn U' A' fb' s tp μ := by
  refine ⟨fun m hm => ?_, fun l hl => ?_, h.2.2⟩
  · obtain ⟨a, b, c, e⟩ := h.1 m hm
    have u := hU m hm
    exact ⟨a, fun q => b (fun z => q (u.mpr z)), fun q1 q2 => c (u.mp q1) ((hA m hm (u.mp q1)).mp q2), fun q1 q2 => e (u.mp q1) (fun z => q2 ((hA m hm (u.mp q1)).mpr z))⟩
  · rcases h.2.1 l hl with ⟨a, b⟩ | ⟨m, a, b, c, e, f⟩
    · exact Or.inl ⟨a, by omega⟩
    · exact Or.inr ⟨m, a, b, (hU m a).mpr c, fun z => e ((hA m a c).mp z), f⟩
/-- a message lands at a station -/
theorem mPr.land {d : kPd} {sn : Nat → Nat → Nat} {U A U' A' : Nat → Prop} {fb : Int} {s : kPs} {tp : Int} {μ μ2 : kMem} {m0 : Nat} (h : mPr d sn U A fb s tp μ) (hm0 : m0 < pNm d) (hU : ∀ m, m < pNm d → m ≠ m0 → (U' m ↔ U m)) (hA : ∀ m, m < pNm d → m ≠ m0 → (A' m ↔ A m)) (hU0 : U' m0) (hA0 : A' m0)
    (h1 : ∀ a b : Nat, 32 ≤ a → a ≤ 39 → a ≠ 37 → b ≠ m0 → μ2.1 a b = μ.1 a b) (h2 : μ2.1 36 m0 = μ.1 36 m0)
    (h3 : (μ2.1 32 m0).toInt = (sn m0 (sG s m0) : Int) ∧ (μ2.1 33 m0).toInt = sS s m0 ∧ (sG s m0 = pZ d m0 → (μ2.1 35 m0).toInt = sS s m0) ∧ (sG s m0 < pZ d m0 → (μ2.1 35 m0).toInt = -1 ∧ (μ2.1 39 m0).toInt = (pR d m0 (sG s m0) : Int)))
    (h4 : ∀ l, l < pNl d → (μ2.1 37 l = μ.1 37 l ∧ ¬ (μ.1 37 l).toInt = (m0 : Int)) ∨ ((μ2.1 37 l).toInt = -1 ∧ (μ.1 37 l).toInt = (m0 : Int) ∧ sF s l ≤ fb)) (hR : ∀ m, m < pNm d → U m → ¬ A m → pR d m (sG s m - 1) < pNl d)
    (h5 : μ2.1 0 45 = μ.1 0 45 ∧ ∀ j, μ2.1 38 j = μ.1 38 j) : mPr d sn U' A' fb s tp μ2 := by
  refine ⟨fun m hm => ?_, fun l hl => ?_, fun l q => ?_⟩
  · by_cases e : m = m0
    · subst e
      obtain ⟨a, -⟩ := h.1 m hm
      exact ⟨by rw [h2]; exact a, fun q => absurd hU0 q, fun _ _ => h3, fun _ q => absurd hA0 q⟩
    · obtain ⟨a, b, c, f⟩ := h.1 m hm
      have u := hU m hm e
      have v := hA m hm e
      have k32 := h1 32 m (by decide) (by decide) (by decide) e
      have k33 := h1 33 m (by decide) (by decide) (by decide) e
      have k34 := h1 34 m (by decide) (by decide) (by decide) e
      have k35 := h1 35 m (by decide) (by decide) (by decide) e
      have k36 := h1 36 m (by decide) (by decide) (by decide) e
      have k39 := h1 39 m (by decide) (by decide) (by decide) e
      unfold mPm
      rw [k32, k33, k34, k35, k36, k39]
      refine ⟨a, fun q => b (fun z => q (u.mpr z)), fun q1 q2 => c (u.mp q1) (v.mp q2), fun q1 q2 => ?_⟩
      obtain ⟨f1, f2, f3, f4, f5⟩ := f (u.mp q1) (fun z => q2 (v.mpr z))
      refine ⟨f1, f2, f3, f4, ?_⟩
      rcases h4 _ (hR m hm (u.mp q1) (fun z => q2 (v.mpr z))) with ⟨g1, g2⟩ | ⟨-, g2, -⟩
      · rw [g1]; exact f5
      · rw [f5] at g2
        omega
  · rcases h4 l hl with ⟨g1, g2⟩ | ⟨g1, g2, g3⟩
    · rcases h.2.1 l hl with ⟨a, b⟩ | ⟨m, a, b, c, e, f⟩
      · exact Or.inl ⟨by rw [g1]; exact a, b⟩
      · have em : m ≠ m0 := fun z => g2 (by rw [b, z])
        exact Or.inr ⟨m, a, by rw [g1]; exact b, (hU m a em).mpr c, fun z => e ((hA m a em).mp z), f⟩
    · exact Or.inl ⟨g1, g3⟩
  · rw [h5.1]
    refine ⟨(h.2.2 l q).1, fun j hj => ?_⟩
    rw [h5.2]
    exact (h.2.2 l q).2 j hj
/-- a message begins on a line -/
theorem mPr.bg {d : kPd} {sn : Nat → Nat → Nat} {U A A' : Nat → Prop} {fb t : Int} {s : kPs} {tp : Int} {μ μ2 : kMem} {m0 l0 : Nat} (h : mPr d sn U A fb s tp μ) (hm0 : m0 < pNm d) (hU0 : U m0) (hAU : A m0) (hA : ∀ m, m < pNm d → m ≠ m0 → (A' m ↔ A m)) (hA0 : ¬ A' m0) (hG : sG s m0 < pZ d m0) (hRl : pR d m0 (sG s m0) = l0) (hon : (μ.1 37 l0).toInt = -1)
    (h1 : ∀ a b : Nat, 32 ≤ a → a ≤ 39 → a ≠ 37 → a ≠ 38 → b ≠ m0 → μ2.1 a b = μ.1 a b)
    (h2 : (μ2.1 36 m0).toInt = (μ.1 36 m0).toInt + pW d m0) (h3 : (μ2.1 32 m0).toInt = 10 + (l0 : Int)) (h4 : (μ2.1 34 m0).toInt = t + pW d m0) (h5 : μ2.1 35 m0 = μ.1 35 m0)
    (h6 : (μ2.1 37 l0).toInt = (m0 : Int) ∧ ∀ l, l ≠ l0 → μ2.1 37 l = μ.1 37 l)
    (h7 : ∀ l : Nat, tp = (l : Int) → (l ≠ l0 → μ2.1 0 45 = μ.1 0 45 ∧ ∀ j, μ2.1 38 j = μ.1 38 j) ∧ (l = l0 → (μ2.1 0 45).toInt = (μ.1 0 45).toInt + 1 ∧ (∀ j : Nat, (j : Int) < (μ.1 0 45).toInt → μ2.1 38 j = μ.1 38 j) ∧ (μ2.1 38 (μ.1 0 45).toInt.toNat).toInt = (m0 : Int))) : mPr d sn U A' fb (pBg d s m0 l0 t) tp μ2 := by
  refine ⟨fun m hm => ?_, fun l hl => ?_, fun l q => ?_⟩
  · by_cases e : m = m0
    · subst e
      obtain ⟨a, b, c, f⟩ := h.1 m hm
      have c4 := (c hU0 hAU).2.2.2 hG
      unfold mPm
      rw [pBg_G, pBg_S]
      dsimp only
      rw [if_pos rfl, if_pos rfl]
      refine ⟨?_, fun q => absurd hU0 q, fun _ q => absurd q hA0, fun _ _ => ⟨by omega, ?_, h4, by rw [h5]; exact c4.1, ?_⟩⟩
      · rw [h2, a]
        rw [show ((sG s m + 1 : Nat) : Int) = (sG s m : Int) + 1 by omega, Int.add_mul, Int.one_mul]
      · rw [show sG s m + 1 - 1 = sG s m by omega, hRl]; exact h3
      · rw [show sG s m + 1 - 1 = sG s m by omega, hRl]; exact h6.1
    · obtain ⟨a, b, c, f⟩ := h.1 m hm
      have v := hA m hm e
      have k32 := h1 32 m (by decide) (by decide) (by decide) (by decide) e
      have k33 := h1 33 m (by decide) (by decide) (by decide) (by decide) e
      have k34 := h1 34 m (by decide) (by decide) (by decide) (by decide) e
      have k35 := h1 35 m (by decide) (by decide) (by decide) (by decide) e
      have k36 := h1 36 m (by decide) (by decide) (by decide) (by decide) e
      have k39 := h1 39 m (by decide) (by decide) (by decide) (by decide) e
      unfold mPm
      rw [k32, k33, k34, k35, k36, k39, pBg_G, pBg_S]
      dsimp only
      rw [if_neg e, if_neg e]
      refine ⟨a, b, fun q1 q2 => c q1 (v.mp q2), fun q1 q2 => ?_⟩
      obtain ⟨f1, f2, f3, f4, f5⟩ := f q1 (fun z => q2 (v.mpr z))
      refine ⟨f1, f2, f3, f4, ?_⟩
      have el : pR d m (sG s m - 1) ≠ l0 := fun z => by rw [z, hon] at f5; omega
      rw [h6.2 _ el]
      exact f5
  · unfold mPl
    rw [pBg_G, pBg_S, pBg_F]
    dsimp only
    by_cases e : l = l0
    · subst e
      refine Or.inr ⟨m0, hm0, h6.1, hU0, hA0, ?_, ?_⟩
      · rw [if_pos rfl, show sG s m0 + 1 - 1 = sG s m0 by omega]; exact hRl
      · rw [if_pos rfl, if_pos rfl]
    · rw [if_neg e, h6.2 l e]
      rcases h.2.1 l hl with ⟨a, b⟩ | ⟨m, a, b, c, f, g1, g2⟩
      · exact Or.inl ⟨a, b⟩
      · have em : m ≠ m0 := fun z => f (by rw [z]; exact hAU)
        refine Or.inr ⟨m, a, b, c, fun z => f ((hA m a em).mp z), ?_, ?_⟩
        · rw [if_neg em]; exact g1
        · rw [if_neg em]; exact g2
  · obtain ⟨g1, g2⟩ := h.2.2 l q
    obtain ⟨p1, p2⟩ := h7 l q
    rw [pBg_H]
    dsimp only
    by_cases e : l = l0
    · subst e
      rw [if_pos rfl]
      obtain ⟨q1, q2, q3⟩ := p2 rfl
      have e9 : [(m0, t)].length = 1 := rfl
      refine ⟨by rw [List.length_append, e9]; omega, fun j hj => ?_⟩
      have hj2 := hj
      rw [List.length_append, e9] at hj2
      by_cases ej : j = (sH s l).length
      · subst ej
        rw [g1, Int.toNat_natCast] at q3
        rw [q3]
        simp
      · rw [q2 j (by omega), g2 j (by omega), List.getElem_append_left (by omega)]
    · rw [if_neg e]
      obtain ⟨q1, q2⟩ := p1 e
      rw [q1]
      refine ⟨g1, fun j hj => ?_⟩
      rw [q2]
      exact g2 j hj
theorem mPr_ca {μ0 : kMem} {t tp fb : Int} {s : kPs} {μ : kMem} {l : Nat} (hl : mLnOk μ0) (hp : mPsOk μ0) (hS : mPsame μ0 μ) (hI : pIv (mpd μ0) s (t + 1)) (h : mPr (mpd μ0) (msnm μ0) (fun m => pT (mpd μ0) m < t + 1) (fun m => sS s m < t + 1) fb s tp μ) : (∀ m, m < pNm (mpd μ0) → (mCa μ l m ↔ pCa (mpd μ0) s l t m)) ∧ ∀ i j, i < pNm (mpd μ0) → j < pNm (mpd μ0) → mCa μ l i → mCa μ l j → (mAh μ i j ↔ pAh (mpd μ0) s i j) := by
  have hd := mpd_ok hl hp
  have hq : ∀ m, m < pNm (mpd μ0) → mCa μ l m → (pT (mpd μ0) m < t + 1 ∧ sS s m < t + 1) ∧ sG s m < pZ (mpd μ0) m := fun m hm z => by
    obtain ⟨a, b, c, f⟩ := h.1 m hm
    obtain ⟨z1, z2, z3⟩ := z
    have e16 : μ.1 16 l = μ0.1 16 l := hS 16 l (by omega) (by omega)
    have e27 : μ.1 27 m = μ0.1 27 m := hS 27 m (by omega) (by omega)
    rw [e16] at z1
    rw [e27] at z2
    have hst := mLn_st hl l
    have hsn := msnm_ok hl hp hm
    have hiv := hI.1 m hm
    have u : pT (mpd μ0) m < t + 1 := Classical.byContradiction (fun q => by have := (b q).1; omega)
    have v : sS s m < t + 1 := Classical.byContradiction (fun q => by have := (f u q).2.1; omega)
    obtain ⟨c1, -⟩ := c u v
    have hz := hsn.1 (sG s m) hiv.1
    refine ⟨⟨u, v⟩, ?_⟩
    rcases Nat.lt_or_ge (sG s m) (pZ (mpd μ0) m) with w | w
    · exact w
    · have := hz.1.mpr (by omega)
      exfalso
      apply z2
      rw [c1, this, hsn.2.2.2.2.2.1]
  refine ⟨fun m hm => ⟨fun z => ?_, fun z => ?_⟩, fun i j hi hj zi zj => ?_⟩
  · obtain ⟨⟨u, v⟩, g⟩ := hq m hm z
    obtain ⟨a, b, c, f⟩ := h.1 m hm
    have c4 := (c u v).2.2.2 g
    have z3 := z.2.2
    exact ⟨g, by omega, by omega⟩
  · obtain ⟨z1, z2, z3⟩ := z
    obtain ⟨a, b, c, f⟩ := h.1 m hm
    have hsn := msnm_ok hl hp hm
    have hiv := hI.1 m hm
    have hdm := hd.2.2 m hm
    have u : pT (mpd μ0) m < t + 1 := by
      rcases Nat.eq_zero_or_pos (sG s m) with w | w
      · have := hiv.2.1 w
        omega
      · have q1 := hiv.2.2.1 w
        have q2 := hiv.2.2.2.1 (sG s m - 1) (by omega)
        omega
    have v : sS s m < t + 1 := by omega
    obtain ⟨c1, c2, c3, c4⟩ := c u v
    have c4 := c4 z1
    have hk := hsn.2.1 (sG s m) z1
    have hz := hsn.1 (sG s m) (by omega)
    have e16 : μ.1 16 l = μ0.1 16 l := hS 16 l (by omega) (by omega)
    have e27 : μ.1 27 m = μ0.1 27 m := hS 27 m (by omega) (by omega)
    have hst := mLn_st hl l
    refine ⟨?_, ?_, by rw [c4.2, z2]⟩
    · rw [c1, e16, ← hst.2.2.1, ← z2, hk.2.1]
    · rw [c1, e27, ← hsn.2.2.2.2.2.1]
      intro q
      have := hz.1.mp (by omega)
      omega
  · obtain ⟨⟨u1, v1⟩, g1⟩ := hq i hi zi
    obtain ⟨⟨u2, v2⟩, g2⟩ := hq j hj zj
    have a1 := ((h.1 i hi).2.2.1 u1 v1).2.1
    have a2 := ((h.1 j hj).2.2.1 u2 v2).2.1
    have e1 : (μ.1 30 i).toInt = pP (mpd μ0) i := by rw [hS 30 i (by omega) (by omega)]; rfl
    have e2 : (μ.1 30 j).toInt = pP (mpd μ0) j := by rw [hS 30 j (by omega) (by omega)]; rfl
    unfold mAh pAh
    rw [a1, a2, e1, e2]

