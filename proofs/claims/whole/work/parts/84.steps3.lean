/-! ===== the steps: lines, the tape, messages, clocks ===== -/
theorem st_line {a1 a2 a3 a4 : Int32} {κ μ κ' μ' : kMem} {r r' : Int32} (h : Rl κ μ) (hk : ((((0 ≤ a1.toInt ∧ a1.toInt < 6) ∧ (0 ≤ a2.toInt ∧ a2.toInt < 6) ∧ ¬ a1.toInt = a2.toInt) ∧ (0 ≤ a3.toInt ∧ a3.toInt ≤ 99) ∧ 0 ≤ a4.toInt ∧ a4.toInt ≤ 20) ∧ (κ.1 18 7).toInt < 8 ∧ r = κ.1 18 7 ∧ κ' = up (up (up (up (up κ 19 (κ.1 18 7).toInt.toNat a1) 20 (κ.1 18 7).toInt.toNat a2) 21 (κ.1 18 7).toInt.toNat a3) 22 (κ.1 18 7).toInt.toNat a4) 18 7 (Int32.ofInt ((κ.1 18 7).toInt + 1))) ∨ (¬ ((((0 ≤ a1.toInt ∧ a1.toInt < 6) ∧ (0 ≤ a2.toInt ∧ a2.toInt < 6) ∧ ¬ a1.toInt = a2.toInt) ∧ (0 ≤ a3.toInt ∧ a3.toInt ≤ 99) ∧ 0 ≤ a4.toInt ∧ a4.toInt ≤ 20) ∧ (κ.1 18 7).toInt < 8) ∧ r = Int32.ofInt (-1) ∧ κ' = κ)) (hm : ((((0 ≤ a1.toInt ∧ a1.toInt < 6) ∧ (0 ≤ a2.toInt ∧ a2.toInt < 6) ∧ ¬ a1.toInt = a2.toInt) ∧ (0 ≤ a3.toInt ∧ a3.toInt ≤ 99) ∧ 0 ≤ a4.toInt ∧ a4.toInt ≤ 20) ∧ (μ.1 0 19).toInt < 8 ∧ r' = μ.1 0 19 ∧ μ' = up (up (up (up (up μ 16 (μ.1 0 19).toInt.toNat a1) 17 (μ.1 0 19).toInt.toNat a2) 18 (μ.1 0 19).toInt.toNat a3) 19 (μ.1 0 19).toInt.toNat a4) 0 19 (Int32.ofInt ((μ.1 0 19).toInt + 1))) ∨ (¬ ((((0 ≤ a1.toInt ∧ a1.toInt < 6) ∧ (0 ≤ a2.toInt ∧ a2.toInt < 6) ∧ ¬ a1.toInt = a2.toInt) ∧ (0 ≤ a3.toInt ∧ a3.toInt ≤ 99) ∧ 0 ≤ a4.toInt ∧ a4.toInt ≤ 20) ∧ (μ.1 0 19).toInt < 8) ∧ r' = Int32.ofInt (-1) ∧ μ' = μ)) : r = r' ∧ Rl κ' μ' := by
  obtain ⟨h1, h2, h3, h4, h5, h6, h7⟩ := id h
  have es := h4.2.2.1
  have hs := h4.1.1
  rw [← es] at hm
  rcases hk with ⟨p0, p1, p2, p3⟩ | ⟨p1, p2, p3⟩
  · rcases hm with ⟨q0, q1, q2, q3⟩ | ⟨q1, q2, q3⟩
    · obtain ⟨N, hN⟩ : ∃ N, N = (κ.1 18 7).toInt.toNat := ⟨_, rfl⟩
      rw [← hN] at p3 q3
      have ev : (Int32.ofInt ((κ.1 18 7).toInt + 1)).toInt = (κ.1 18 7).toInt + 1 := ti_ofInt (by omega)
      have kf : ∀ a b : Nat, ¬ (a = 18 ∧ b = 7) → (a < 19 ∨ 22 < a ∨ b ≠ N) → κ'.1 a b = κ.1 a b := fun a b n1 n2 => by rw [p3, up_ne _ _ n1, up_ne _ _ (by omega), up_ne _ _ (by omega), up_ne _ _ (by omega), up_ne _ _ (by omega)]
      have mf : ∀ a b : Nat, ¬ (a = 0 ∧ b = 19) → (a < 16 ∨ 19 < a ∨ b ≠ N) → μ'.1 a b = μ.1 a b := fun a b n1 n2 => by rw [q3, up_ne _ _ n1, up_ne _ _ (by omega), up_ne _ _ (by omega), up_ne _ _ (by omega), up_ne _ _ (by omega)]
      have k18 : κ'.1 18 7 = Int32.ofInt ((κ.1 18 7).toInt + 1) := by rw [p3, up_same]
      have m19 : μ'.1 0 19 = Int32.ofInt ((κ.1 18 7).toInt + 1) := by rw [q3, up_same]
      have kN : κ'.1 19 N = a1 ∧ κ'.1 20 N = a2 ∧ κ'.1 21 N = a3 ∧ κ'.1 22 N = a4 := by
        rw [p3]
        simp (disch := decide) only [up_same, up_neo, up_nek]
        exact ⟨trivial, trivial, trivial, trivial⟩
      have mN : μ'.1 16 N = a1 ∧ μ'.1 17 N = a2 ∧ μ'.1 18 N = a3 ∧ μ'.1 19 N = a4 := by
        rw [q3]
        simp (disch := decide) only [up_same, up_neo, up_nek]
        exact ⟨trivial, trivial, trivial, trivial⟩
      have e18 : κ'.1 18 8 = κ.1 18 8 := kf 18 8 (by omega) (by omega)
      have e20 : μ'.1 0 20 = μ.1 0 20 := mf 0 20 (by omega) (by omega)
      have ek : ∀ l, l < kln κ → kst_ κ' l = kst_ κ l ∧ ken_ κ' l = ken_ κ l := fun l hl => by
        have hl2 : l ≠ N := by unfold kln at hl; omega
        unfold kst_ ken_
        rw [kf 19 l (by omega) (by omega), kf 20 l (by omega) (by omega)]
        exact ⟨rfl, rfl⟩
      have em : ∀ l, l < mln μ → mst_ μ' l = mst_ μ l ∧ men_ μ' l = men_ μ l := fun l hl => by
        have hl2 : l ≠ N := by unfold mln at hl; rw [← es] at hl; omega
        unfold mst_ men_
        rw [mf 16 l (by omega) (by omega), mf 17 l (by omega) (by omega)]
        exact ⟨rfl, rfl⟩
      have nk : kln κ ≤ kln κ' := by unfold kln; rw [k18, ev]; omega
      have nm : mln μ ≤ mln μ' := by unfold mln; rw [m19, ev, ← es]; omega
      refine ⟨by rw [p2, q2, es], h1.cg (fun a b q => kf a b (by omega) (by omega)) (fun a b q => mf a b (by omega) (by omega)), h2.cg (fun a b q => kf a b (by omega) (by omega)) (fun a b q => mf a b (by omega) (by omega)), h3.cg (fun a b q => kf a b (by omega) (by omega)) (fun a b q => mf a b (by omega) (by omega)), ⟨⟨by rw [k18, ev]; omega, by rw [e18]; exact h4.1.2.1, fun i => ?_⟩, ⟨by rw [m19, ev]; omega, by rw [e20]; exact h4.2.1.2.1, fun i => ?_⟩, by rw [k18, m19], by rw [e18, e20]; exact h4.2.2.2.1, fun i => ?_⟩, h5.cg (fun a b q => kf a b (by omega) (by omega)) (fun a b q => mf a b (by omega) (by omega)), h6.ln (fun a b q => kf a b (by omega) (by omega)) (fun a b q => mf a b (by omega) (by omega)) (fun a b q => dsF_more ek nk q) (fun a b q => dsF_more em nm q), h7.cg (fun a b q => kf a b (by omega) (by omega)) (fun a b q => mf a b (by omega) (by omega))⟩
      · by_cases e : i = N
        · subst e
          rw [kN.1, kN.2.1, kN.2.2.1, kN.2.2.2]
          omega
        · rw [kf 19 i (by omega) (by omega), kf 20 i (by omega) (by omega), kf 21 i (by omega) (by omega), kf 22 i (by omega) (by omega)]
          exact h4.1.2.2 i
      · by_cases e : i = N
        · subst e
          rw [mN.1, mN.2.1, mN.2.2.1, mN.2.2.2]
          omega
        · rw [mf 16 i (by omega) (by omega), mf 17 i (by omega) (by omega), mf 18 i (by omega) (by omega), mf 19 i (by omega) (by omega)]
          exact h4.2.1.2.2 i
      · by_cases e : i = N
        · subst e
          rw [kN.1, kN.2.1, kN.2.2.1, kN.2.2.2, mN.1, mN.2.1, mN.2.2.1, mN.2.2.2]
          exact ⟨rfl, rfl, rfl, rfl⟩
        · rw [kf 19 i (by omega) (by omega), kf 20 i (by omega) (by omega), kf 21 i (by omega) (by omega), kf 22 i (by omega) (by omega), mf 16 i (by omega) (by omega), mf 17 i (by omega) (by omega), mf 18 i (by omega) (by omega), mf 19 i (by omega) (by omega)]
          exact h4.2.2.2.2 i
    · exact absurd ⟨p0, p1⟩ q1
  · rcases hm with ⟨q0, q1, q2, q3⟩ | ⟨q1, q2, q3⟩
    · exact absurd ⟨q0, q1⟩ p1
    · exact ⟨by rw [p2, q2], h.eq p3 q3⟩
theorem st_rain {a1 : Int32} {κ μ κ' μ' : kMem} {r r' : Int32} (h : Rl κ μ) (hk : (0 ≤ a1.toInt ∧ a1.toInt ≤ 9 ∧ r = Int32.ofInt 1 ∧ κ' = up κ 18 8 a1) ∨ (¬ (0 ≤ a1.toInt ∧ a1.toInt ≤ 9) ∧ r = Int32.ofInt 0 ∧ κ' = κ)) (hm : (0 ≤ a1.toInt ∧ a1.toInt ≤ 9 ∧ r' = Int32.ofInt 1 ∧ μ' = up μ 0 20 a1) ∨ (¬ (0 ≤ a1.toInt ∧ a1.toInt ≤ 9) ∧ r' = Int32.ofInt 0 ∧ μ' = μ)) : r = r' ∧ Rl κ' μ' := by
  obtain ⟨h1, h2, h3, h4, h5, h6, h7⟩ := id h
  rcases hk with ⟨p0, p1, p2, p3⟩ | ⟨p1, p2, p3⟩
  · rcases hm with ⟨q0, q1, q2, q3⟩ | ⟨q1, q2, q3⟩
    · have kf : ∀ a b : Nat, ¬ (a = 18 ∧ b = 8) → κ'.1 a b = κ.1 a b := fun a b n1 => by rw [p3, up_ne _ _ n1]
      have mf : ∀ a b : Nat, ¬ (a = 0 ∧ b = 20) → μ'.1 a b = μ.1 a b := fun a b n1 => by rw [q3, up_ne _ _ n1]
      have k8 : κ'.1 18 8 = a1 := by rw [p3, up_same]
      have m20 : μ'.1 0 20 = a1 := by rw [q3, up_same]
      have ek : kds κ' = kds κ := by
        have x1 : kst_ κ' = kst_ κ := by funext l; unfold kst_; rw [kf 19 l (by omega)]
        have x2 : ken_ κ' = ken_ κ := by funext l; unfold ken_; rw [kf 20 l (by omega)]
        have x3 : kln κ' = kln κ := by unfold kln; rw [kf 18 7 (by omega)]
        funext a b; unfold kds; rw [x1, x2, x3]
      have em : mds μ' = mds μ := by
        have x1 : mst_ μ' = mst_ μ := by funext l; unfold mst_; rw [mf 16 l (by omega)]
        have x2 : men_ μ' = men_ μ := by funext l; unfold men_; rw [mf 17 l (by omega)]
        have x3 : mln μ' = mln μ := by unfold mln; rw [mf 0 19 (by omega)]
        funext a b; unfold mds; rw [x1, x2, x3]
      refine ⟨by rw [p2, q2], h1.cg (fun a b q => kf a b (by omega)) (fun a b q => mf a b (by omega)), h2.cg (fun a b q => kf a b (by omega)) (fun a b q => mf a b (by omega)), h3.cg (fun a b q => kf a b (by omega)) (fun a b q => mf a b (by omega)), ⟨⟨by rw [kf 18 7 (by omega)]; exact h4.1.1, by rw [k8]; exact ⟨p0, p1⟩, fun i => ?_⟩, ⟨by rw [mf 0 19 (by omega)]; exact h4.2.1.1, by rw [m20]; exact ⟨p0, p1⟩, fun i => ?_⟩, by rw [kf 18 7 (by omega), mf 0 19 (by omega)]; exact h4.2.2.1, by rw [k8, m20], fun i => ?_⟩, h5.cg (fun a b q => kf a b (by omega)) (fun a b q => mf a b (by omega)), h6.ln (fun a b q => kf a b (by omega)) (fun a b q => mf a b (by omega)) (fun a b q => by rw [ek]; exact q) (fun a b q => by rw [em]; exact q), h7.cg (fun a b q => kf a b (by omega)) (fun a b q => mf a b (by omega))⟩
      · rw [kf 19 i (by omega), kf 20 i (by omega), kf 21 i (by omega), kf 22 i (by omega)]
        exact h4.1.2.2 i
      · rw [mf 16 i (by omega), mf 17 i (by omega), mf 18 i (by omega), mf 19 i (by omega)]
        exact h4.2.1.2.2 i
      · rw [kf 19 i (by omega), kf 20 i (by omega), kf 21 i (by omega), kf 22 i (by omega), mf 16 i (by omega), mf 17 i (by omega), mf 18 i (by omega), mf 19 i (by omega)]
        exact h4.2.2.2.2 i
    · exact absurd ⟨p0, p1⟩ q1
  · rcases hm with ⟨q0, q1, q2, q3⟩ | ⟨q1, q2, q3⟩
    · exact absurd ⟨q0, q1⟩ p1
    · exact ⟨by rw [p2, q2], h.eq p3 q3⟩
theorem Rl.tp {κ κ' μ μ' : kMem} (h : Rl κ μ) (hk : ∀ a b : Nat, relK a b → ¬ (a = 25 ∧ b = 1) → a ≠ 26 → κ'.1 a b = κ.1 a b) (hm : ∀ a b : Nat, relM a b → ¬ (a = 0 ∧ b = 21) → a ≠ 20 → μ'.1 a b = μ.1 a b) (ht : rTp κ' μ') : Rl κ' μ' := by
  obtain ⟨h1, h2, h3, h4, h5, h6, h7⟩ := h
  exact ⟨h1.cg (fun a b q => hk a b (by unfold relK; omega) (by omega) (by omega)) (fun a b q => hm a b (by unfold relM; omega) (by omega) (by omega)),
    h2.cg (fun a b q => hk a b (by unfold relK; omega) (by omega) (by omega)) (fun a b q => hm a b (by unfold relM; omega) (by omega) (by omega)),
    h3.cg (fun a b q => hk a b (by unfold relK; omega) (by omega) (by omega)) (fun a b q => hm a b (by unfold relM; omega) (by omega) (by omega)),
    h4.cg (fun a b q => hk a b (by unfold relK; omega) (by omega) (by omega)) (fun a b q => hm a b (by unfold relM; omega) (by omega) (by omega)), ht,
    h6.cg (fun a b q => hk a b (by unfold relK; omega) (by omega) (by omega)) (fun a b q => hm a b (by unfold relM; omega) (by omega) (by omega)),
    h7.cg (fun a b q => hk a b (by unfold relK; omega) (by omega) (by omega)) (fun a b q => hm a b (by unfold relM; omega) (by omega) (by omega))⟩
theorem st_length {a1 : Int32} {κ μ κ' μ' : kMem} {r r' : Int32} (h : Rl κ μ) (hk : ((1 ≤ a1.toInt ∧ a1.toInt ≤ 999) ∧ (κ.1 25 1).toInt < 120 ∧ r = Int32.ofInt ((κ.1 25 1).toInt + 1) ∧ κ' = up (up κ 26 (κ.1 25 1).toInt.toNat a1) 25 1 (Int32.ofInt ((κ.1 25 1).toInt + 1))) ∨ (¬ ((1 ≤ a1.toInt ∧ a1.toInt ≤ 999) ∧ (κ.1 25 1).toInt < 120) ∧ r = Int32.ofInt (-1) ∧ κ' = κ)) (hm : ((1 ≤ a1.toInt ∧ a1.toInt ≤ 999) ∧ (μ.1 0 21).toInt < 120 ∧ r' = Int32.ofInt ((μ.1 0 21).toInt + 1) ∧ μ' = up (up μ 20 (μ.1 0 21).toInt.toNat a1) 0 21 (Int32.ofInt ((μ.1 0 21).toInt + 1))) ∨ (¬ ((1 ≤ a1.toInt ∧ a1.toInt ≤ 999) ∧ (μ.1 0 21).toInt < 120) ∧ r' = Int32.ofInt (-1) ∧ μ' = μ)) : r = r' ∧ Rl κ' μ' := by
  have h5 := h.2.2.2.2.1
  have es := h5.2.2.1
  have hs := h5.1.1
  rw [← es] at hm
  rcases hk with ⟨p0, p1, p2, p3⟩ | ⟨p1, p2, p3⟩
  · rcases hm with ⟨q0, q1, q2, q3⟩ | ⟨q1, q2, q3⟩
    · have ev : (Int32.ofInt ((κ.1 25 1).toInt + 1)).toInt = (κ.1 25 1).toInt + 1 := ti_ofInt (by omega)
      have k25 : κ'.1 25 1 = Int32.ofInt ((κ.1 25 1).toInt + 1) := by rw [p3, up_same]
      have m21 : μ'.1 0 21 = Int32.ofInt ((κ.1 25 1).toInt + 1) := by rw [q3, up_same]
      have k26 : ∀ j : Nat, κ'.1 26 j = if j = (κ.1 25 1).toInt.toNat then a1 else κ.1 26 j := fun j => by
        rw [p3, up_neo _ _ (by decide)]
        by_cases e : j = (κ.1 25 1).toInt.toNat
        · rw [if_pos e, e, up_same]
        · rw [if_neg e, up_nek _ _ e]
      have m20 : ∀ j : Nat, μ'.1 20 j = if j = (κ.1 25 1).toInt.toNat then a1 else μ.1 20 j := fun j => by
        rw [q3, up_neo _ _ (by decide)]
        by_cases e : j = (κ.1 25 1).toInt.toNat
        · rw [if_pos e, e, up_same]
        · rw [if_neg e, up_nek _ _ e]
      refine ⟨by rw [p2, q2], h.tp (fun a b _ n1 n2 => by rw [p3, up_ne _ _ n1, up_neo _ _ n2]) (fun a b _ n1 n2 => by rw [q3, up_ne _ _ n1, up_neo _ _ n2]) ⟨⟨by rw [k25, ev]; omega, fun i => ?_⟩, ⟨by rw [m21, ev]; omega, fun i => ?_⟩, by rw [k25, m21], fun j hj => ?_⟩⟩
      · rw [k26]
        split
        · omega
        · exact h5.1.2 i
      · rw [m20]
        split
        · omega
        · exact h5.2.1.2 i
      · rw [k25, ev] at hj
        rw [k26, m20]
        split
        · rfl
        · exact h5.2.2.2 j (by omega)
    · exact absurd ⟨p0, p1⟩ q1
  · rcases hm with ⟨q0, q1, q2, q3⟩ | ⟨q1, q2, q3⟩
    · exact absurd ⟨q0, q1⟩ p1
    · exact ⟨by rw [p2, q2], h.eq p3 q3⟩
theorem st_cut {a1 : Int32} {κ μ κ' μ' : kMem} {r r' : Int32} (h : Rl κ μ) (hk : (0 ≤ a1.toInt ∧ a1.toInt ≤ (κ.1 25 1).toInt ∧ r = Int32.ofInt 1 ∧ κ' = up κ 25 1 a1) ∨ (¬ (0 ≤ a1.toInt ∧ a1.toInt ≤ (κ.1 25 1).toInt) ∧ r = Int32.ofInt 0 ∧ κ' = κ)) (hm : (0 ≤ a1.toInt ∧ a1.toInt ≤ (μ.1 0 21).toInt ∧ r' = Int32.ofInt 1 ∧ μ' = up μ 0 21 a1) ∨ (¬ (0 ≤ a1.toInt ∧ a1.toInt ≤ (μ.1 0 21).toInt) ∧ r' = Int32.ofInt 0 ∧ μ' = μ)) : r = r' ∧ Rl κ' μ' := by
  have h5 := h.2.2.2.2.1
  have es := h5.2.2.1
  have hs := h5.1.1
  rw [← es] at hm
  rcases hk with ⟨p0, p1, p2, p3⟩ | ⟨p1, p2, p3⟩
  · rcases hm with ⟨q0, q1, q2, q3⟩ | ⟨q1, q2, q3⟩
    · have k25 : κ'.1 25 1 = a1 := by rw [p3, up_same]
      have m21 : μ'.1 0 21 = a1 := by rw [q3, up_same]
      have k26 : ∀ j, κ'.1 26 j = κ.1 26 j := fun j => by rw [p3, up_neo _ _ (by decide)]
      have m20 : ∀ j, μ'.1 20 j = μ.1 20 j := fun j => by rw [q3, up_neo _ _ (by decide)]
      refine ⟨by rw [p2, q2], h.tp (fun a b _ n1 n2 => by rw [p3, up_ne _ _ n1]) (fun a b _ n1 n2 => by rw [q3, up_ne _ _ n1]) ⟨⟨by rw [k25]; omega, fun i => by rw [k26]; exact h5.1.2 i⟩, ⟨by rw [m21]; omega, fun i => by rw [m20]; exact h5.2.1.2 i⟩, by rw [k25, m21], fun j hj => ?_⟩⟩
      rw [k25] at hj
      rw [k26, m20]
      exact h5.2.2.2 j (by omega)
    · exact absurd ⟨p0, p1⟩ q1
  · rcases hm with ⟨q0, q1, q2, q3⟩ | ⟨q1, q2, q3⟩
    · exact absurd ⟨q0, q1⟩ p1
    · exact ⟨by rw [p2, q2], h.eq p3 q3⟩
theorem sendF_b {b : Int} {d : Nat → Int} (hb : 0 ≤ b ∧ b ≤ 279) (hd : ∀ i, 0 ≤ d i ∧ d i ≤ 255) : ∀ n x, x ∈ (sendF b d n).1 → 0 ≤ x ∧ x ≤ 999 := by
  intro n
  induction n with
  | zero => intro x h; cases h
  | succ n ih =>
    intro x h
    have hg := sendF_gap (b := b) (d := d) (M := 255) (by decide) n (fun j _ => hd j)
    have hn := hd n
    unfold sendF at h
    split at h
    · exact ih x h
    · rename_i c
      rcases List.mem_append.mp h with h | h
      · exact ih x h
      · rcases List.mem_append.mp h with h | h
        · split at h
          · cases h
          · rcases List.mem_cons.mp h with h | h
            · omega
            · cases h
        · rcases List.mem_cons.mp h with h | h
          · omega
          · cases h
theorem st_key {a1 a2 a3 : Int32} {κ μ κ' μ' : kMem} {r r' : Int32} (h : Rl κ μ) (hk : (¬ kKeyC κ a1.toInt a2.toInt a3.toInt ∧ r = Int32.ofInt (-1) ∧ kSm κ κ') ∨ (kKeyC κ a1.toInt a2.toInt a3.toInt ∧ r = κ'.1 25 1 ∧ kTp κ (kyL (kle κ a1.toInt) (kge κ a1.toInt) (kbi κ a2.toInt) a3.toInt (spL κ)) κ' ∧ ∀ a b : Nat, relK a b → ¬ (a = 25 ∧ b = 1) → a ≠ 26 → κ'.1 a b = κ.1 a b)) (hm : (¬ mKeyC μ a1.toInt a2.toInt a3.toInt ∧ r' = Int32.ofInt (-1) ∧ mSm μ μ') ∨ (mKeyC μ a1.toInt a2.toInt a3.toInt ∧ r' = μ'.1 0 21 ∧ mTp μ (kyL (mle μ a1.toInt) (mge μ a1.toInt) (mbi μ a2.toInt) a3.toInt (mSpl μ)) μ' ∧ ∀ a b : Nat, relM a b → ¬ (a = 0 ∧ b = 21) → a ≠ 20 → μ'.1 a b = μ.1 a b)) : r = r' ∧ Rl κ' μ' := by
  have h5 := h.2.2.2.2.1
  have hr := h.ri
  have e := h.1.t
  have esp := h.sp
  have ec : kKeyC κ a1.toInt a2.toInt a3.toInt ↔ mKeyC μ a1.toInt a2.toInt a3.toInt := by
    unfold kKeyC mKeyC
    rw [e.1, e.2, esp, h.2.2.1.2.2.1, h.2.2.2.1.2.2.1]
  rcases hk with ⟨p1, p2, p3⟩ | ⟨p1, p2, p3, p4⟩
  · rcases hm with ⟨q1, q2, q3⟩ | ⟨q1, q2, q3, q4⟩
    · exact ⟨by rw [p2, q2], h.sm p3 q3⟩
    · exact absurd (ec.mpr q1) p1
  · rcases hm with ⟨q1, q2, q3⟩ | ⟨q1, q2, q3, q4⟩
    · exact absurd (ec.mp p1) q1
    · have e1 := h.2.2.1.le p1.1
      have e2 := h.2.2.2.1.bi p1.2.1
      rw [e1.1, e1.2, e2, esp] at p3
      obtain ⟨L, hL⟩ : ∃ L, L = kyL (mle μ a1.toInt) (mge μ a1.toInt) (mbi μ a2.toInt) a3.toInt (mSpl μ) := ⟨_, rfl⟩
      rw [← hL] at p3 q3
      obtain ⟨s1, s2, s3⟩ := p3
      obtain ⟨t1, t2, t3⟩ := q3
      have hb : L.length ≤ 120 ∧ ∀ x, x ∈ L → 0 ≤ x ∧ x ≤ 999 := by
        obtain ⟨ks, k1, k2⟩ := q1.2.2.2.2
        rw [hL, k1]
        have hlen := sendF_len (b := mbi μ a2.toInt) (d := kyD (mle μ a1.toInt) (mge μ a1.toInt) a3.toInt ks) ks.length
        refine ⟨by show (sendF _ _ _).1.length ≤ 120; omega, fun x hx => sendF_b (mbi_b hr.2.1.2.2.1 _) (fun i => ?_) _ x hx⟩
        have w := mle_b hr.2.1.2.1 a1.toInt (ks.getD i 0)
        have w1 := Int.emod_nonneg (lcgN a3.toInt (i + 1) / 256) (b := mge μ a1.toInt (ks.getD i 0) - mle μ a1.toInt (ks.getD i 0) + 1) (by omega)
        have w2 := Int.emod_lt_of_pos (lcgN a3.toInt (i + 1) / 256) (b := mge μ a1.toInt (ks.getD i 0) - mle μ a1.toInt (ks.getD i 0) + 1) (by omega)
        unfold kyD
        omega
      refine ⟨by rw [p2, q2]; exact ti_ext (by rw [s1, t1]), h.tp p4 q4 ⟨⟨by omega, fun i => ?_⟩, ⟨by omega, fun i => ?_⟩, ti_ext (by rw [s1, t1]), fun j hj => ?_⟩⟩
      · by_cases c : i < L.length
        · rw [s2 i c]
          exact hb.2 _ (List.getElem_mem c)
        · rw [s3 i (by omega)]
          exact h5.1.2 i
      · by_cases c : i < L.length
        · rw [t2 i c]
          exact hb.2 _ (List.getElem_mem c)
        · rw [t3 i (by omega)]
          exact h5.2.1.2 i
      · rw [s1] at hj
        exact ti_ext (by rw [s2 j (by omega), t2 j (by omega)])
theorem st_message {a1 a2 a3 : Int32} {κ μ κ' μ' : kMem} {r r' : Int32} (h : Rl κ μ) (hk : (kMsgC κ a1.toInt a2.toInt a3.toInt ∧ (κ.1 37 6).toInt < 20 ∧ r = κ.1 37 6 ∧ ((κ'.1 38 (κ.1 37 6).toInt.toNat).toInt = a1.toInt / 10 ∧ (κ'.1 39 (κ.1 37 6).toInt.toNat).toInt = a1.toInt % 10 ∧ (κ'.1 40 (κ.1 37 6).toInt.toNat).toInt = a2.toInt / 100 ∧ (κ'.1 41 (κ.1 37 6).toInt.toNat).toInt = a2.toInt % 100 ∧ (κ'.1 42 (κ.1 37 6).toInt.toNat).toInt = a3.toInt ∧ (κ'.1 37 6).toInt = (κ.1 37 6).toInt + 1) ∧ ∀ a b : Nat, relK a b → ¬ (a = 37 ∧ b = 6) → ¬ (38 ≤ a ∧ a ≤ 42 ∧ b = (κ.1 37 6).toInt.toNat) → κ'.1 a b = κ.1 a b) ∨ (¬ (kMsgC κ a1.toInt a2.toInt a3.toInt ∧ (κ.1 37 6).toInt < 20) ∧ r = Int32.ofInt (-1) ∧ kSm κ κ')) (hm : (mMsgC μ a1.toInt a2.toInt a3.toInt ∧ (μ.1 0 36).toInt < 20 ∧ r' = μ.1 0 36 ∧ ((μ'.1 26 (μ.1 0 36).toInt.toNat).toInt = a1.toInt / 10 ∧ (μ'.1 27 (μ.1 0 36).toInt.toNat).toInt = a1.toInt % 10 ∧ (μ'.1 28 (μ.1 0 36).toInt.toNat).toInt = a2.toInt / 100 ∧ (μ'.1 29 (μ.1 0 36).toInt.toNat).toInt = a2.toInt % 100 ∧ (μ'.1 30 (μ.1 0 36).toInt.toNat).toInt = a3.toInt ∧ (μ'.1 0 36).toInt = (μ.1 0 36).toInt + 1) ∧ ∀ a b : Nat, relM a b → ¬ (a = 0 ∧ b = 36) → ¬ (26 ≤ a ∧ a ≤ 30 ∧ b = (μ.1 0 36).toInt.toNat) → μ'.1 a b = μ.1 a b) ∨ (¬ (mMsgC μ a1.toInt a2.toInt a3.toInt ∧ (μ.1 0 36).toInt < 20) ∧ r' = Int32.ofInt (-1) ∧ mSm μ μ')) : r = r' ∧ Rl κ' μ' := by
  obtain ⟨h1, h2, h3, h4, h5, h6, h7⟩ := id h
  have es := h6.2.2.1
  have hs := h6.1.1
  have hst := h4.st
  have ec : kMsgC κ a1.toInt a2.toInt a3.toInt ↔ mMsgC μ a1.toInt a2.toInt a3.toInt := by
    unfold kMsgC mMsgC
    rw [hst.2.2.2.1]
  rw [← es] at hm
  rcases hk with ⟨p0, p1, p2, p3, p4⟩ | ⟨p1, p2, p3⟩
  · rcases hm with ⟨q0, q1, q2, q3, q4⟩ | ⟨q1, q2, q3⟩
    · obtain ⟨N, hN⟩ : ∃ N, N = (κ.1 37 6).toInt.toNat := ⟨_, rfl⟩
      rw [← hN] at p3 p4 q3 q4
      obtain ⟨s1, s2, s3, s4, s5, s6⟩ := p3
      obtain ⟨t1, t2, t3, t4, t5, t6⟩ := q3
      have kf : ∀ a b : Nat, relK a b → ¬ (38 ≤ a ∧ a ≤ 42) → ¬ (a = 37 ∧ b = 6) → κ'.1 a b = κ.1 a b := fun a b q n1 n2 => p4 a b q n2 (fun z => n1 ⟨z.1, z.2.1⟩)
      have mf : ∀ a b : Nat, relM a b → ¬ (26 ≤ a ∧ a ≤ 30) → ¬ (a = 0 ∧ b = 36) → μ'.1 a b = μ.1 a b := fun a b q n1 n2 => q4 a b q n2 (fun z => n1 ⟨z.1, z.2.1⟩)
      have lk : kds κ' = kds κ := (lSame_all (show lSame κ κ' from ⟨fun b q => kf 18 b (by unfold relK; omega) (by omega) (by omega), fun a b q1 q2 => kf a b (by unfold relK; omega) (by omega) (by omega)⟩)).1
      have lm : mds μ' = mds μ := (mLsame_all (show mLsame μ μ' from fun a b q => mf a b (by unfold relM; omega) (by omega) (by omega))).2.2.2.2.1
      have kr : ∀ a i : Nat, 38 ≤ a → a ≤ 42 → i ≠ N → κ'.1 a i = κ.1 a i := fun a i n1 n2 n3 => p4 a i (by unfold relK; omega) (by omega) (by omega)
      have mr : ∀ a i : Nat, 26 ≤ a → a ≤ 30 → i ≠ N → μ'.1 a i = μ.1 a i := fun a i n1 n2 n3 => q4 a i (by unfold relM; omega) (by omega) (by omega)
      obtain ⟨c1, c2, c3, c4, c5, c6, c7⟩ := p0
      have c7' : mds μ (a1.toInt % 10).toNat (a1.toInt / 10).toNat < 6 := by rw [← hst.2.2.2.1]; exact c7
      refine ⟨by rw [p2, q2, es], h1.cg (fun a b q => kf a b (by unfold relK; omega) (by omega) (by omega)) (fun a b q => mf a b (by unfold relM; omega) (by omega) (by omega)), h2.cg (fun a b q => kf a b (by unfold relK; omega) (by omega) (by omega)) (fun a b q => mf a b (by unfold relM; omega) (by omega) (by omega)), h3.cg (fun a b q => kf a b (by unfold relK; omega) (by omega) (by omega)) (fun a b q => mf a b (by unfold relM; omega) (by omega) (by omega)), h4.cg (fun a b q => kf a b (by unfold relK; omega) (by omega) (by omega)) (fun a b q => mf a b (by unfold relM; omega) (by omega) (by omega)), h5.cg (fun a b q => kf a b (by unfold relK; omega) (by omega) (by omega)) (fun a b q => mf a b (by unfold relM; omega) (by omega) (by omega)), ⟨⟨by omega, fun m hm => ?_⟩, ⟨by omega, fun m hm => ?_⟩, ti_ext (by rw [s6, t6]), fun i => ?_⟩, h7.cg (fun a b q => kf a b (by unfold relK; omega) (by omega) (by omega)) (fun a b q => mf a b (by unfold relM; omega) (by omega) (by omega))⟩
      · rw [lk]
        unfold kpE kpS
        by_cases e : m = N
        · rw [e, s1, s2, s3, s4]
          exact ⟨by omega, by omega, by omega, by omega, by omega, c7⟩
        · rw [kr 38 m (by omega) (by omega) e, kr 39 m (by omega) (by omega) e, kr 40 m (by omega) (by omega) e, kr 41 m (by omega) (by omega) e]
          exact h6.1.2 m (by omega)
      · rw [lm]
        unfold mpE mpS
        by_cases e : m = N
        · rw [e, t1, t2, t3, t4]
          exact ⟨by omega, by omega, by omega, by omega, by omega, c7'⟩
        · rw [mr 26 m (by omega) (by omega) e, mr 27 m (by omega) (by omega) e, mr 28 m (by omega) (by omega) e, mr 29 m (by omega) (by omega) e]
          exact h6.2.1.2 m (by rw [← es]; omega)
      · by_cases e : i = N
        · rw [e]
          exact ⟨ti_ext (by rw [s1, t1]), ti_ext (by rw [s2, t2]), ti_ext (by rw [s3, t3]), ti_ext (by rw [s4, t4]), ti_ext (by rw [s5, t5])⟩
        · rw [kr 38 i (by omega) (by omega) e, kr 39 i (by omega) (by omega) e, kr 40 i (by omega) (by omega) e, kr 41 i (by omega) (by omega) e, kr 42 i (by omega) (by omega) e, mr 26 i (by omega) (by omega) e, mr 27 i (by omega) (by omega) e, mr 28 i (by omega) (by omega) e, mr 29 i (by omega) (by omega) e, mr 30 i (by omega) (by omega) e]
          exact h6.2.2.2 i
    · exact absurd ⟨ec.mp p0, p1⟩ q1
  · rcases hm with ⟨q0, q1, q2, q3, q4⟩ | ⟨q1, q2, q3⟩
    · exact absurd ⟨ec.mpr q0, q1⟩ p1
    · exact ⟨by rw [p2, q2], h.sm p3 q3⟩
theorem Rl.cl {κ κ' μ μ' : kMem} (h : Rl κ μ) (hk : ∀ a b : Nat, a < 49 → κ'.1 a b = κ.1 a b) (hm : ∀ a b : Nat, ¬ (a = 0 ∧ (b = 54 ∨ b = 55)) → a < 40 → μ'.1 a b = μ.1 a b) (ht : rCl κ' μ') : Rl κ' μ' := by
  obtain ⟨h1, h2, h3, h4, h5, h6, h7⟩ := h
  exact ⟨h1.cg (fun a b q => hk a b (by omega)) (fun a b q => hm a b (by omega) (by omega)), h2.cg (fun a b q => hk a b (by omega)) (fun a b q => hm a b (by omega) (by omega)), h3.cg (fun a b q => hk a b (by omega)) (fun a b q => hm a b (by omega) (by omega)), h4.cg (fun a b q => hk a b (by omega)) (fun a b q => hm a b (by omega) (by omega)), h5.cg (fun a b q => hk a b (by omega)) (fun a b q => hm a b (by omega) (by omega)), h6.cg (fun a b q => hk a b (by omega)) (fun a b q => hm a b (by omega) (by omega)), ht⟩
/-- what is put into a row on both sides -/
theorem up_if (μ : kMem) (o k b : Nat) (x : Int32) : (up μ o k x).1 o b = if b = k then x else μ.1 o b := by
  by_cases e : b = k
  · rw [if_pos e, e, up_same]
  · rw [if_neg e, up_nek _ _ e]
theorem st_clock {a1 a2 a3 : Int32} {κ μ κ' μ' : kMem} {r r' : Int32} (h : Rl κ μ) (hk : (((0 ≤ a1.toInt ∧ a1.toInt < 6) ∧ -60 ≤ a2.toInt ∧ a3.toInt ≤ 60 ∧ a2.toInt ≤ a3.toInt) ∧ r = Int32.ofInt 1 ∧ κ' = up (up κ 50 a1.toInt.toNat a2) 51 a1.toInt.toNat a3) ∨ (¬ ((0 ≤ a1.toInt ∧ a1.toInt < 6) ∧ -60 ≤ a2.toInt ∧ a3.toInt ≤ 60 ∧ a2.toInt ≤ a3.toInt) ∧ r = Int32.ofInt 0 ∧ κ' = κ)) (hm : (((0 ≤ a1.toInt ∧ a1.toInt < 6) ∧ -60 ≤ a2.toInt ∧ a3.toInt ≤ 60 ∧ a2.toInt ≤ a3.toInt) ∧ r' = Int32.ofInt 1 ∧ μ' = up (up μ 40 a1.toInt.toNat a2) 41 a1.toInt.toNat a3) ∨ (¬ ((0 ≤ a1.toInt ∧ a1.toInt < 6) ∧ -60 ≤ a2.toInt ∧ a3.toInt ≤ 60 ∧ a2.toInt ≤ a3.toInt) ∧ r' = Int32.ofInt 0 ∧ μ' = μ)) : r = r' ∧ Rl κ' μ' := by
  have h7 := h.2.2.2.2.2.2
  rcases hk with ⟨p1, p2, p3⟩ | ⟨p1, p2, p3⟩
  · rcases hm with ⟨q1, q2, q3⟩ | ⟨q1, q2, q3⟩
    · obtain ⟨N, hN⟩ : ∃ N, N = a1.toInt.toNat := ⟨_, rfl⟩
      rw [← hN] at p3 q3
      have kf : ∀ a b : Nat, a ≠ 50 → a ≠ 51 → κ'.1 a b = κ.1 a b := fun a b n1 n2 => by rw [p3, up_neo _ _ n2, up_neo _ _ n1]
      have mf : ∀ a b : Nat, a ≠ 40 → a ≠ 41 → μ'.1 a b = μ.1 a b := fun a b n1 n2 => by rw [q3, up_neo _ _ n2, up_neo _ _ n1]
      have k50 : ∀ i, κ'.1 50 i = if i = N then a2 else κ.1 50 i := fun i => by rw [p3, up_neo _ _ (by decide), up_if]
      have k51 : ∀ i, κ'.1 51 i = if i = N then a3 else κ.1 51 i := fun i => by rw [p3, up_if, up_neo _ _ (by decide)]
      have m40 : ∀ i, μ'.1 40 i = if i = N then a2 else μ.1 40 i := fun i => by rw [q3, up_neo _ _ (by decide), up_if]
      have m41 : ∀ i, μ'.1 41 i = if i = N then a3 else μ.1 41 i := fun i => by rw [q3, up_if, up_neo _ _ (by decide)]
      refine ⟨by rw [p2, q2], h.cl (fun a b q => kf a b (by omega) (by omega)) (fun a b _ q => mf a b (by omega) (by omega)) ⟨⟨by rw [kf 49 4 (by decide) (by decide)]; exact h7.1.1, by rw [kf 49 8 (by decide) (by decide)]; exact h7.1.2.1, fun i => ?_⟩, ⟨by rw [mf 0 54 (by decide) (by decide)]; exact h7.2.1.1, by rw [mf 0 55 (by decide) (by decide)]; exact h7.2.1.2.1, fun i => ?_⟩, by rw [kf 49 4 (by decide) (by decide), mf 0 54 (by decide) (by decide)]; exact h7.2.2.1, by rw [kf 49 8 (by decide) (by decide), mf 0 55 (by decide) (by decide)]; exact h7.2.2.2.1, fun i => ?_⟩⟩
      · have w := h7.1.2.2 i
        rw [k50, k51, kf 52 i (by decide) (by decide), kf 53 i (by decide) (by decide), kf 54 i (by decide) (by decide), kf 55 i (by decide) (by decide), kf 56 i (by decide) (by decide)]
        refine ⟨?_, ?_, w.2.2⟩
        · split
          · omega
          · exact w.1
        · split
          · omega
          · exact w.2.1
      · have w := h7.2.1.2.2 i
        rw [m40, m41, mf 42 i (by decide) (by decide), mf 43 i (by decide) (by decide), mf 44 i (by decide) (by decide), mf 45 i (by decide) (by decide), mf 46 i (by decide) (by decide)]
        refine ⟨?_, w.2⟩
        by_cases e : i = N
        · rw [if_pos e, if_pos e]; omega
        · rw [if_neg e, if_neg e]; exact w.1
      · have w := h7.2.2.2.2 i
        rw [k50, k51, m40, m41, kf 52 i (by decide) (by decide), kf 53 i (by decide) (by decide), kf 54 i (by decide) (by decide), kf 55 i (by decide) (by decide), kf 56 i (by decide) (by decide), mf 42 i (by decide) (by decide), mf 43 i (by decide) (by decide), mf 44 i (by decide) (by decide), mf 45 i (by decide) (by decide), mf 46 i (by decide) (by decide), w.1, w.2.1]
        exact ⟨rfl, rfl, w.2.2⟩
    · exact absurd p1 q1
  · rcases hm with ⟨q1, q2, q3⟩ | ⟨q1, q2, q3⟩
    · exact absurd q1 p1
    · exact ⟨by rw [p2, q2], h.eq p3 q3⟩
theorem st_event {a1 a2 : Int32} {κ μ κ' μ' : kMem} {r r' : Int32} (h : Rl κ μ) (hk : (((0 ≤ a1.toInt ∧ a1.toInt < 6) ∧ 0 ≤ a2.toInt ∧ a2.toInt ≤ 999) ∧ (κ.1 49 4).toInt < 12 ∧ r = κ.1 49 4 ∧ κ' = up (up (up κ 52 (κ.1 49 4).toInt.toNat a1) 53 (κ.1 49 4).toInt.toNat a2) 49 4 (Int32.ofInt ((κ.1 49 4).toInt + 1))) ∨ (¬ (((0 ≤ a1.toInt ∧ a1.toInt < 6) ∧ 0 ≤ a2.toInt ∧ a2.toInt ≤ 999) ∧ (κ.1 49 4).toInt < 12) ∧ r = Int32.ofInt (-1) ∧ κ' = κ)) (hm : (((0 ≤ a1.toInt ∧ a1.toInt < 6) ∧ 0 ≤ a2.toInt ∧ a2.toInt ≤ 999) ∧ (μ.1 0 54).toInt < 12 ∧ r' = μ.1 0 54 ∧ μ' = up (up (up μ 42 (μ.1 0 54).toInt.toNat a1) 43 (μ.1 0 54).toInt.toNat a2) 0 54 (Int32.ofInt ((μ.1 0 54).toInt + 1))) ∨ (¬ (((0 ≤ a1.toInt ∧ a1.toInt < 6) ∧ 0 ≤ a2.toInt ∧ a2.toInt ≤ 999) ∧ (μ.1 0 54).toInt < 12) ∧ r' = Int32.ofInt (-1) ∧ μ' = μ)) : r = r' ∧ Rl κ' μ' := by
  have h7 := h.2.2.2.2.2.2
  have es := h7.2.2.1
  have hs := h7.1.1
  rw [← es] at hm
  rcases hk with ⟨p0, p1, p2, p3⟩ | ⟨p1, p2, p3⟩
  · rcases hm with ⟨q0, q1, q2, q3⟩ | ⟨q1, q2, q3⟩
    · obtain ⟨N, hN⟩ : ∃ N, N = (κ.1 49 4).toInt.toNat := ⟨_, rfl⟩
      rw [← hN] at p3 q3
      have ev : (Int32.ofInt ((κ.1 49 4).toInt + 1)).toInt = (κ.1 49 4).toInt + 1 := ti_ofInt (by omega)
      have kf : ∀ a b : Nat, ¬ (a = 49 ∧ b = 4) → a ≠ 52 → a ≠ 53 → κ'.1 a b = κ.1 a b := fun a b n0 n1 n2 => by rw [p3, up_ne _ _ n0, up_neo _ _ n2, up_neo _ _ n1]
      have mf : ∀ a b : Nat, ¬ (a = 0 ∧ b = 54) → a ≠ 42 → a ≠ 43 → μ'.1 a b = μ.1 a b := fun a b n0 n1 n2 => by rw [q3, up_ne _ _ n0, up_neo _ _ n2, up_neo _ _ n1]
      have k4 : κ'.1 49 4 = Int32.ofInt ((κ.1 49 4).toInt + 1) := by rw [p3, up_same]
      have m54 : μ'.1 0 54 = Int32.ofInt ((κ.1 49 4).toInt + 1) := by rw [q3, up_same]
      have k52 : ∀ i, κ'.1 52 i = if i = N then a1 else κ.1 52 i := fun i => by rw [p3, up_neo _ _ (by decide), up_neo _ _ (by decide), up_if]
      have k53 : ∀ i, κ'.1 53 i = if i = N then a2 else κ.1 53 i := fun i => by rw [p3, up_neo _ _ (by decide), up_if, up_neo _ _ (by decide)]
      have m42 : ∀ i, μ'.1 42 i = if i = N then a1 else μ.1 42 i := fun i => by rw [q3, up_neo _ _ (by decide), up_neo _ _ (by decide), up_if]
      have m43 : ∀ i, μ'.1 43 i = if i = N then a2 else μ.1 43 i := fun i => by rw [q3, up_neo _ _ (by decide), up_if, up_neo _ _ (by decide)]
      refine ⟨by rw [p2, q2, es], h.cl (fun a b q => kf a b (by omega) (by omega) (by omega)) (fun a b n q => mf a b (by omega) (by omega) (by omega)) ⟨⟨by rw [k4, ev]; omega, by rw [kf 49 8 (by decide) (by decide) (by decide)]; exact h7.1.2.1, fun i => ?_⟩, ⟨by rw [m54, ev]; omega, by rw [mf 0 55 (by decide) (by decide) (by decide)]; exact h7.2.1.2.1, fun i => ?_⟩, by rw [k4, m54], by rw [kf 49 8 (by decide) (by decide) (by decide), mf 0 55 (by decide) (by decide) (by decide)]; exact h7.2.2.2.1, fun i => ?_⟩⟩
      · have w := h7.1.2.2 i
        rw [k52, k53, kf 50 i (by omega) (by decide) (by decide), kf 51 i (by omega) (by decide) (by decide), kf 54 i (by omega) (by decide) (by decide), kf 55 i (by omega) (by decide) (by decide), kf 56 i (by omega) (by decide) (by decide)]
        refine ⟨w.1, w.2.1, ?_, ?_, w.2.2.2.2⟩
        · split
          · omega
          · exact w.2.2.1
        · split
          · omega
          · exact w.2.2.2.1
      · have w := h7.2.1.2.2 i
        rw [m42, m43, mf 40 i (by omega) (by decide) (by decide), mf 41 i (by omega) (by decide) (by decide), mf 44 i (by omega) (by decide) (by decide), mf 45 i (by omega) (by decide) (by decide), mf 46 i (by omega) (by decide) (by decide)]
        refine ⟨w.1, ?_, ?_, w.2.2.2⟩
        · split
          · omega
          · exact w.2.1
        · split
          · omega
          · exact w.2.2.1
      · have w := h7.2.2.2.2 i
        rw [k52, k53, m42, m43, kf 50 i (by omega) (by decide) (by decide), kf 51 i (by omega) (by decide) (by decide), kf 54 i (by omega) (by decide) (by decide), kf 55 i (by omega) (by decide) (by decide), kf 56 i (by omega) (by decide) (by decide), mf 40 i (by omega) (by decide) (by decide), mf 41 i (by omega) (by decide) (by decide), mf 44 i (by omega) (by decide) (by decide), mf 45 i (by omega) (by decide) (by decide), mf 46 i (by omega) (by decide) (by decide), w.2.2.1, w.2.2.2.1]
        exact ⟨w.1, w.2.1, rfl, rfl, w.2.2.2.2⟩
    · exact absurd ⟨p0, p1⟩ q1
  · rcases hm with ⟨q0, q1, q2, q3⟩ | ⟨q1, q2, q3⟩
    · exact absurd ⟨q0, q1⟩ p1
    · exact ⟨by rw [p2, q2], h.eq p3 q3⟩
theorem st_fact {a1 a2 a3 : Int32} {κ μ κ' μ' : kMem} {r r' : Int32} (h : Rl κ μ) (hk : (((0 ≤ a1.toInt ∧ a1.toInt < (κ.1 49 4).toInt) ∧ (0 ≤ a2.toInt ∧ a2.toInt < (κ.1 49 4).toInt) ∧ ¬ a1.toInt = a2.toInt ∧ -99 ≤ a3.toInt ∧ a3.toInt ≤ 99) ∧ (κ.1 49 8).toInt < 12 ∧ r = Int32.ofInt ((κ.1 49 8).toInt + 1) ∧ κ' = up (up (up (up κ 54 (κ.1 49 8).toInt.toNat a1) 55 (κ.1 49 8).toInt.toNat a2) 56 (κ.1 49 8).toInt.toNat a3) 49 8 (Int32.ofInt ((κ.1 49 8).toInt + 1))) ∨ (¬ (((0 ≤ a1.toInt ∧ a1.toInt < (κ.1 49 4).toInt) ∧ (0 ≤ a2.toInt ∧ a2.toInt < (κ.1 49 4).toInt) ∧ ¬ a1.toInt = a2.toInt ∧ -99 ≤ a3.toInt ∧ a3.toInt ≤ 99) ∧ (κ.1 49 8).toInt < 12) ∧ r = Int32.ofInt (-1) ∧ κ' = κ)) (hm : (((0 ≤ a1.toInt ∧ a1.toInt < (μ.1 0 54).toInt) ∧ (0 ≤ a2.toInt ∧ a2.toInt < (μ.1 0 54).toInt) ∧ ¬ a1.toInt = a2.toInt ∧ -99 ≤ a3.toInt ∧ a3.toInt ≤ 99) ∧ (μ.1 0 55).toInt < 12 ∧ r' = Int32.ofInt ((μ.1 0 55).toInt + 1) ∧ μ' = up (up (up (up μ 44 (μ.1 0 55).toInt.toNat a1) 45 (μ.1 0 55).toInt.toNat a2) 46 (μ.1 0 55).toInt.toNat a3) 0 55 (Int32.ofInt ((μ.1 0 55).toInt + 1))) ∨ (¬ (((0 ≤ a1.toInt ∧ a1.toInt < (μ.1 0 54).toInt) ∧ (0 ≤ a2.toInt ∧ a2.toInt < (μ.1 0 54).toInt) ∧ ¬ a1.toInt = a2.toInt ∧ -99 ≤ a3.toInt ∧ a3.toInt ≤ 99) ∧ (μ.1 0 55).toInt < 12) ∧ r' = Int32.ofInt (-1) ∧ μ' = μ)) : r = r' ∧ Rl κ' μ' := by
  have h7 := h.2.2.2.2.2.2
  have es := h7.2.2.2.1
  have ee := h7.2.2.1
  have hs := h7.1.2.1
  have hev := h7.1.1
  rw [← es, ← ee] at hm
  rcases hk with ⟨p0, p1, p2, p3⟩ | ⟨p1, p2, p3⟩
  · rcases hm with ⟨q0, q1, q2, q3⟩ | ⟨q1, q2, q3⟩
    · obtain ⟨N, hN⟩ : ∃ N, N = (κ.1 49 8).toInt.toNat := ⟨_, rfl⟩
      rw [← hN] at p3 q3
      have ev : (Int32.ofInt ((κ.1 49 8).toInt + 1)).toInt = (κ.1 49 8).toInt + 1 := ti_ofInt (by omega)
      have kf : ∀ a b : Nat, ¬ (a = 49 ∧ b = 8) → a ≠ 54 → a ≠ 55 → a ≠ 56 → κ'.1 a b = κ.1 a b := fun a b n0 n1 n2 n3 => by rw [p3, up_ne _ _ n0, up_neo _ _ n3, up_neo _ _ n2, up_neo _ _ n1]
      have mf : ∀ a b : Nat, ¬ (a = 0 ∧ b = 55) → a ≠ 44 → a ≠ 45 → a ≠ 46 → μ'.1 a b = μ.1 a b := fun a b n0 n1 n2 n3 => by rw [q3, up_ne _ _ n0, up_neo _ _ n3, up_neo _ _ n2, up_neo _ _ n1]
      have k8 : κ'.1 49 8 = Int32.ofInt ((κ.1 49 8).toInt + 1) := by rw [p3, up_same]
      have m55 : μ'.1 0 55 = Int32.ofInt ((κ.1 49 8).toInt + 1) := by rw [q3, up_same]
      have k54 : ∀ i, κ'.1 54 i = if i = N then a1 else κ.1 54 i := fun i => by rw [p3, up_neo _ _ (by decide), up_neo _ _ (by decide), up_neo _ _ (by decide), up_if]
      have k55 : ∀ i, κ'.1 55 i = if i = N then a2 else κ.1 55 i := fun i => by rw [p3, up_neo _ _ (by decide), up_neo _ _ (by decide), up_if, up_neo _ _ (by decide)]
      have k56 : ∀ i, κ'.1 56 i = if i = N then a3 else κ.1 56 i := fun i => by rw [p3, up_neo _ _ (by decide), up_if, up_neo _ _ (by decide), up_neo _ _ (by decide)]
      have m44 : ∀ i, μ'.1 44 i = if i = N then a1 else μ.1 44 i := fun i => by rw [q3, up_neo _ _ (by decide), up_neo _ _ (by decide), up_neo _ _ (by decide), up_if]
      have m45 : ∀ i, μ'.1 45 i = if i = N then a2 else μ.1 45 i := fun i => by rw [q3, up_neo _ _ (by decide), up_neo _ _ (by decide), up_if, up_neo _ _ (by decide)]
      have m46 : ∀ i, μ'.1 46 i = if i = N then a3 else μ.1 46 i := fun i => by rw [q3, up_neo _ _ (by decide), up_if, up_neo _ _ (by decide), up_neo _ _ (by decide)]
      refine ⟨by rw [p2, q2], h.cl (fun a b q => kf a b (by omega) (by omega) (by omega) (by omega)) (fun a b n q => mf a b (by omega) (by omega) (by omega) (by omega)) ⟨⟨by rw [kf 49 4 (by decide) (by decide) (by decide) (by decide)]; exact h7.1.1, by rw [k8, ev]; omega, fun i => ?_⟩, ⟨by rw [mf 0 54 (by decide) (by decide) (by decide) (by decide)]; exact h7.2.1.1, by rw [m55, ev]; omega, fun i => ?_⟩, by rw [kf 49 4 (by decide) (by decide) (by decide) (by decide), mf 0 54 (by decide) (by decide) (by decide) (by decide)]; exact h7.2.2.1, by rw [k8, m55], fun i => ?_⟩⟩
      · have w := h7.1.2.2 i
        rw [k54, k55, k56, kf 50 i (by omega) (by decide) (by decide) (by decide), kf 51 i (by omega) (by decide) (by decide) (by decide), kf 52 i (by omega) (by decide) (by decide) (by decide), kf 53 i (by omega) (by decide) (by decide) (by decide)]
        refine ⟨w.1, w.2.1, w.2.2.1, w.2.2.2.1, ?_, ?_, ?_⟩
        · split
          · omega
          · exact w.2.2.2.2.1
        · split
          · omega
          · exact w.2.2.2.2.2.1
        · split
          · omega
          · exact w.2.2.2.2.2.2
      · have w := h7.2.1.2.2 i
        rw [m44, m45, m46, mf 40 i (by omega) (by decide) (by decide) (by decide), mf 41 i (by omega) (by decide) (by decide) (by decide), mf 42 i (by omega) (by decide) (by decide) (by decide), mf 43 i (by omega) (by decide) (by decide) (by decide)]
        refine ⟨w.1, w.2.1, w.2.2.1, ?_, ?_, ?_⟩
        · split
          · omega
          · exact w.2.2.2.1
        · split
          · omega
          · exact w.2.2.2.2.1
        · split
          · omega
          · exact w.2.2.2.2.2
      · have w := h7.2.2.2.2 i
        rw [k54, k55, k56, m44, m45, m46, kf 50 i (by omega) (by decide) (by decide) (by decide), kf 51 i (by omega) (by decide) (by decide) (by decide), kf 52 i (by omega) (by decide) (by decide) (by decide), kf 53 i (by omega) (by decide) (by decide) (by decide), mf 40 i (by omega) (by decide) (by decide) (by decide), mf 41 i (by omega) (by decide) (by decide) (by decide), mf 42 i (by omega) (by decide) (by decide) (by decide), mf 43 i (by omega) (by decide) (by decide) (by decide), w.2.2.2.2.1, w.2.2.2.2.2.1, w.2.2.2.2.2.2]
        exact ⟨w.1, w.2.1, w.2.2.1, w.2.2.2.1, rfl, rfl, rfl⟩
    · exact absurd ⟨p0, p1⟩ q1
  · rcases hm with ⟨q0, q1, q2, q3⟩ | ⟨q1, q2, q3⟩
    · exact absurd ⟨q0, q1⟩ p1
    · exact ⟨by rw [p2, q2], h.eq p3 q3⟩
theorem st_undo {κ μ κ' μ' : kMem} {r r' : Int32} (h : Rl κ μ) (hk : ((κ.1 49 8).toInt = 0 ∧ r = Int32.ofInt (-1) ∧ κ' = κ) ∨ (0 < (κ.1 49 8).toInt ∧ r = Int32.ofInt ((κ.1 49 8).toInt - 1) ∧ κ' = up κ 49 8 (Int32.ofInt ((κ.1 49 8).toInt - 1)))) (hm : ((μ.1 0 55).toInt = 0 ∧ r' = Int32.ofInt (-1) ∧ μ' = μ) ∨ (0 < (μ.1 0 55).toInt ∧ r' = Int32.ofInt ((μ.1 0 55).toInt - 1) ∧ μ' = up μ 0 55 (Int32.ofInt ((μ.1 0 55).toInt - 1)))) : r = r' ∧ Rl κ' μ' := by
  have h7 := h.2.2.2.2.2.2
  have es := h7.2.2.2.1
  have hs := h7.1.2.1
  rw [← es] at hm
  rcases hk with ⟨p1, p2, p3⟩ | ⟨p1, p2, p3⟩
  · rcases hm with ⟨q1, q2, q3⟩ | ⟨q1, q2, q3⟩
    · exact ⟨by rw [p2, q2], h.eq p3 q3⟩
    · omega
  · rcases hm with ⟨q1, q2, q3⟩ | ⟨q1, q2, q3⟩
    · omega
    · have ev : (Int32.ofInt ((κ.1 49 8).toInt - 1)).toInt = (κ.1 49 8).toInt - 1 := ti_ofInt (by omega)
      have kf : ∀ a b : Nat, ¬ (a = 49 ∧ b = 8) → κ'.1 a b = κ.1 a b := fun a b n0 => by rw [p3, up_ne _ _ n0]
      have mf : ∀ a b : Nat, ¬ (a = 0 ∧ b = 55) → μ'.1 a b = μ.1 a b := fun a b n0 => by rw [q3, up_ne _ _ n0]
      have k8 : κ'.1 49 8 = Int32.ofInt ((κ.1 49 8).toInt - 1) := by rw [p3, up_same]
      have m55 : μ'.1 0 55 = Int32.ofInt ((κ.1 49 8).toInt - 1) := by rw [q3, up_same]
      refine ⟨by rw [p2, q2], h.cl (fun a b q => kf a b (by omega)) (fun a b n q => mf a b (by omega)) ⟨⟨by rw [kf 49 4 (by decide)]; exact h7.1.1, by rw [k8, ev]; omega, fun i => ?_⟩, ⟨by rw [mf 0 54 (by decide)]; exact h7.2.1.1, by rw [m55, ev]; omega, fun i => ?_⟩, by rw [kf 49 4 (by decide), mf 0 54 (by decide)]; exact h7.2.2.1, by rw [k8, m55], fun i => ?_⟩⟩
      · rw [kf 50 i (by omega), kf 51 i (by omega), kf 52 i (by omega), kf 53 i (by omega), kf 54 i (by omega), kf 55 i (by omega), kf 56 i (by omega)]
        exact h7.1.2.2 i
      · rw [mf 40 i (by omega), mf 41 i (by omega), mf 42 i (by omega), mf 43 i (by omega), mf 44 i (by omega), mf 45 i (by omega), mf 46 i (by omega)]
        exact h7.2.1.2.2 i
      · rw [kf 50 i (by omega), kf 51 i (by omega), kf 52 i (by omega), kf 53 i (by omega), kf 54 i (by omega), kf 55 i (by omega), kf 56 i (by omega), mf 40 i (by omega), mf 41 i (by omega), mf 42 i (by omega), mf 43 i (by omega), mf 44 i (by omega), mf 45 i (by omega), mf 46 i (by omega)]
        exact h7.2.2.2.2 i

