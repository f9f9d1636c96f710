/-! ===== the post: all is sent before the end; where a message is (plain mathematics) ===== -/
theorem mnP {p : Nat → Prop} {f : Nat → Int} : ∀ n, (∃ m, m < n ∧ p m) → ∃ m, m < n ∧ p m ∧ ∀ i, i < n → p i → f m ≤ f i := by
  intro n
  induction n with
  | zero => rintro ⟨m, h, -⟩; omega
  | succ n ih =>
    rintro ⟨m, h1, h2⟩
    by_cases q : ∃ m, m < n ∧ p m
    · obtain ⟨a, a1, a2, a3⟩ := ih q
      by_cases c : p n ∧ f n < f a
      · refine ⟨n, by omega, c.1, fun i hi hpi => ?_⟩
        by_cases e : i = n
        · subst e; exact Int.le_refl _
        · have := a3 i (by omega) hpi
          omega
      · refine ⟨a, by omega, a2, fun i hi hpi => ?_⟩
        by_cases e : i = n
        · subst e
          have : ¬ f i < f a := fun z => c ⟨hpi, z⟩
          omega
        · exact a3 i (by omega) hpi
    · have em : m = n := by
        rcases (show m < n ∨ m = n by omega) with w | w
        · exact absurd ⟨m, w, h2⟩ q
        · exact w
      subst em
      refine ⟨m, by omega, h2, fun i hi hpi => ?_⟩
      by_cases e : i = m
      · subst e; exact Int.le_refl _
      · exact absurd ⟨i, by omega, hpi⟩ q
theorem pDone {d : kPd} (hd : pOk d) : (∀ m, m < pNm d → ¬ sG (pRun d 8001) m < pZ d m) ∧ ∀ m, m < pNm d → sS (pRun d 8001) m ≤ 6200 := by
  have key : ∀ (k i : Nat) (s : kPs), i + k = 100 → pKi d s i → ∃ j, j ≤ 100 ∧ ∃ s', pKi d s' j ∧ ∀ m, m < pNm d → ¬ sG s' m < pZ d m := by
    intro k
    induction k with
    | zero =>
      intro i s hi h
      have e : i = 100 := by omega
      subst e
      exact ⟨100, Nat.le_refl _, s, h, pKi_full hd h⟩
    | succ k ih =>
      intro i s hi h
      by_cases q : ∃ m, m < pNm d ∧ sG s m < pZ d m
      · obtain ⟨m, a1, a2, a3⟩ := mnP (p := fun m => sG s m < pZ d m) (f := fun m => max (sS s m) (sF s (pR d m (sG s m)))) (pNm d) q
        exact ih (i + 1) _ (by omega) (pKi_step hd h (r := max (sS s m) (sF s (pR d m (sG s m)))) ⟨⟨m, a1, a2, rfl⟩, a3⟩)
      · exact ⟨i, by omega, s, h, fun m hm z => q ⟨m, hm, z⟩⟩
  obtain ⟨j, h1, s, h2, h3⟩ := key 100 0 _ rfl (pKi_zero hd)
  have e := pKi_end h2 h1 h3
  rw [← e]
  refine ⟨h3, fun m hm => ?_⟩
  have := h2.2.1 m hm
  omega
theorem pIv_chain {d : kPd} {s : kPs} {t : Int} (hd : pOk d) (h : pIv d s t) {m : Nat} (hm : m < pNm d) : (∀ j i, i < j → j < sG s m → sB s m i + pW d m ≤ sB s m j) ∧ ∀ i, i < sG s m → sB s m i + pW d m ≤ sS s m := by
  obtain ⟨a, b, c, e, f⟩ := h.1 m hm
  have hW := (hd.2.2 m hm).1
  have ch : ∀ j i, i < j → j < sG s m → sB s m i + pW d m ≤ sB s m j := by
    intro j
    induction j with
    | zero => intro i hi; omega
    | succ j ih =>
      intro i hi hj
      have q := f j hj
      by_cases e : i = j
      · subst e; exact q
      · have := ih i (by omega) (by omega)
        omega
  refine ⟨ch, fun i hi => ?_⟩
  have q := c (by omega)
  by_cases e : i = sG s m - 1
  · subst e; omega
  · have := ch (sG s m - 1) i (by omega) (by omega)
    omega
theorem pWh_at {d : kPd} (hd : pOk d) {T : Nat} (hT : T ≤ 8000) {m : Nat} (hm : m < pNm d) {sn : Nat → Nat} : pWh d (pRun d 8001) sn m (T : Int) = if (T : Int) < pT d m then -1 else if sS (pRun d (T + 1)) m < (T : Int) + 1 then (sn (sG (pRun d (T + 1)) m) : Int) else 10 + (pR d m (sG (pRun d (T + 1)) m - 1) : Int) := by
  have hI : pIv d (pRun d (T + 1)) ((T + 1 : Nat) : Int) := pIv_run hd (T + 1)
  have hM := pMo_run (d := d) (T := T + 1) (8000 - T) m hm
  rw [show T + 1 + (8000 - T) = 8001 by omega] at hM
  obtain ⟨m1, m2, m3⟩ := hM
  obtain ⟨a, b, c, e, f⟩ := hI.1 m hm
  obtain ⟨ch1, ch2⟩ := pIv_chain hd hI hm
  have hW := (hd.2.2 m hm).1
  obtain ⟨s1, hs1⟩ : ∃ s1, s1 = pRun d (T + 1) := ⟨_, rfl⟩
  obtain ⟨s2, hs2⟩ : ∃ s2, s2 = pRun d 8001 := ⟨_, rfl⟩
  rw [← hs1] at m1 m2 m3 a b c e f ch1 ch2 ⊢
  rw [← hs2] at m1 m2 m3 ⊢
  unfold pWh
  by_cases hu : (T : Int) < pT d m
  · rw [if_pos hu, if_pos hu]
  · rw [if_neg hu, if_neg hu]
    by_cases hA : sS s1 m < (T : Int) + 1
    · rw [if_pos hA]
      have e3 : ∀ i, i < sG s1 m → ¬ (T : Int) < sB s2 m i + pW d m := fun i hi => by
        have := ch2 i hi
        rw [m2 i hi]
        omega
      by_cases hg : sG s1 m < sG s2 m
      · have q := m3 (sG s1 m) (Nat.le_refl _) hg
        have eL := lstF_is (p := fun h => (T : Int) < sB s2 m h + pW d m) (k := sG s2 m) (j := sG s1 m) hg (by omega) e3
        rw [eL, if_neg (by omega)]
      · have eg : sG s2 m = sG s1 m := by omega
        have eL := lstF_no (p := fun h => (T : Int) < sB s2 m h + pW d m) (k := sG s2 m) (fun i hi => e3 i (by omega))
        rw [eL, if_neg (by omega), eg]
    · rw [if_neg hA]
      have hg : 0 < sG s1 m := by
        rcases Nat.eq_zero_or_pos (sG s1 m) with q | q
        · have := b q
          omega
        · exact q
      have q1 := c hg
      have q2 := e (sG s1 m - 1) (by omega)
      have eL := lstF_is (p := fun h => (T : Int) < sB s2 m h + pW d m) (k := sG s2 m) (j := sG s1 m - 1) (by omega) (by rw [m2 _ (by omega)]; omega) (fun i hi => by
        have := ch1 (sG s1 m - 1) i hi (by omega)
        rw [m2 i (by omega)]
        omega)
      rw [eL, m2 _ (by omega), if_pos ⟨by omega, by omega⟩]

