/-! ===== the steps: what is told ===== -/
theorem kbyte_b (x : Int32) (i : Nat) : (0 ≤ (kbyte x i).toInt ∧ (kbyte x i).toInt ≤ 255) ∧ (-128 ≤ (mbyte x i).toInt ∧ (mbyte x i).toInt ≤ 127) ∧ (kbyte x i).toInt = (mbyte x i).toInt % 256 := by
  obtain ⟨y, hy⟩ : ∃ y, y = kushr x (Int32.ofInt (24 - 8 * (i : Int))) := ⟨_, rfl⟩
  have e1 : (kbyte x i).toInt = ((y.toBitVec.toNat % 256 : Nat) : Int) := by
    unfold kbyte
    rw [← hy]
    exact ti_and255 y
  have e2 : (mbyte x i).toInt = y.toInt.bmod 256 := by
    unfold mbyte
    rw [← hy, Int8.toInt_toInt32, Int32.toInt_toInt8]
  have e3 := ti_cond y
  have e4 : y.toInt.bmod 256 = if y.toInt % 256 < 128 then y.toInt % 256 else y.toInt % 256 - 256 := by
    unfold Int.bmod
    rfl
  rw [e1, e2, e4]
  by_cases c : 2 * y.toBitVec.toNat < 2 ^ 32
  · rw [if_pos c] at e3
    split <;> omega
  · rw [if_neg c] at e3
    split <;> omega
theorem fb_b (x1 x2 x3 x4 x5 : Int32) (i : Nat) : (0 ≤ (fbK x1 x2 x3 x4 x5 i).toInt ∧ (fbK x1 x2 x3 x4 x5 i).toInt ≤ 255) ∧ (-128 ≤ (fbM x1 x2 x3 x4 x5 i).toInt ∧ (fbM x1 x2 x3 x4 x5 i).toInt ≤ 127) ∧ (fbK x1 x2 x3 x4 x5 i).toInt = (fbM x1 x2 x3 x4 x5 i).toInt % 256 := by
  unfold fbK fbM
  dsimp only
  by_cases c1 : i < 16
  · rw [if_pos c1, if_pos c1]
    by_cases c2 : i < 12
    · rw [if_pos c2, if_pos c2]
      by_cases c3 : i < 8
      · rw [if_pos c3, if_pos c3]
        by_cases c4 : i < 4
        · rw [if_pos c4, if_pos c4]
          exact kbyte_b _ _
        · rw [if_neg c4, if_neg c4]
          exact kbyte_b _ _
      · rw [if_neg c3, if_neg c3]
        exact kbyte_b _ _
    · rw [if_neg c2, if_neg c2]
      exact kbyte_b _ _
  · rw [if_neg c1, if_neg c1]
    exact kbyte_b _ _
theorem st_feed {a1 a2 a3 a4 a5 : Int32} {κ μ κ' μ' : kMem} {r r' : Int32} (h : Rl κ μ) (hk : ((κ.1 1 1).toInt + 20 ≤ 500 ∧ r = Int32.ofInt ((κ.1 1 1).toInt + 20) ∧ kAddN κ (fbK a1 a2 a3 a4 a5) 20 κ') ∨ (¬ (κ.1 1 1).toInt + 20 ≤ 500 ∧ r = Int32.ofInt (-1) ∧ κ' = κ)) (hm : ((μ.1 0 1).toInt + 20 ≤ 500 ∧ r' = Int32.ofInt ((μ.1 0 1).toInt + 20) ∧ mAdd μ (fbM a1 a2 a3 a4 a5) 20 μ') ∨ (¬ (μ.1 0 1).toInt + 20 ≤ 500 ∧ r' = Int32.ofInt (-1) ∧ μ' = μ)) : r = r' ∧ Rl κ' μ' := by
  obtain ⟨h1, h2, h3, h4, h5, h6, h7⟩ := id h
  have es := h1.2.2.1
  have hs := h1.1.1
  rw [← es] at hm
  rcases hk with ⟨p1, p2, p3⟩ | ⟨p1, p2, p3⟩
  · rcases hm with ⟨q1, q2, q3⟩ | ⟨q1, q2, q3⟩
    · unfold mAdd at q3
      rw [← es] at q3
      have kf : ∀ a b : Nat, ¬ (a = 1 ∧ b = 1) → a ≠ 2 → κ'.1 a b = κ.1 a b := fun a b n1 n2 => by rw [p3 a b, if_neg n1, if_neg (fun z => n2 z.1)]
      have mf : ∀ a b : Nat, ¬ (a = 0 ∧ b = 1) → a ≠ 1 → μ'.1 a b = μ.1 a b := fun a b n1 n2 => by rw [q3 a b, if_neg n1, if_neg (fun z => n2 z.1)]
      have k11 : κ'.1 1 1 = Int32.ofInt ((κ.1 1 1).toInt + (20 : Nat)) := by rw [p3 1 1, if_pos ⟨rfl, rfl⟩]
      have m01 : μ'.1 0 1 = Int32.ofInt ((κ.1 1 1).toInt + (20 : Nat)) := by rw [q3 0 1, if_pos ⟨rfl, rfl⟩]
      have k2 : ∀ i : Nat, κ'.1 2 i = if (κ.1 1 1).toInt ≤ (i : Int) ∧ (i : Int) < (κ.1 1 1).toInt + (20 : Nat) then fbK a1 a2 a3 a4 a5 (i - (κ.1 1 1).toInt.toNat) else κ.1 2 i := fun i => by
        rw [p3 2 i, if_neg (by omega)]
        by_cases c : (κ.1 1 1).toInt ≤ (i : Int) ∧ (i : Int) < (κ.1 1 1).toInt + (20 : Nat)
        · rw [if_pos ⟨rfl, c⟩, if_pos c]
        · rw [if_neg (fun z => c z.2), if_neg c]
      have m1 : ∀ i : Nat, μ'.1 1 i = if (κ.1 1 1).toInt ≤ (i : Int) ∧ (i : Int) < (κ.1 1 1).toInt + (20 : Nat) then fbM a1 a2 a3 a4 a5 (i - (κ.1 1 1).toInt.toNat) else μ.1 1 i := fun i => by
        rw [q3 1 i, if_neg (by omega)]
        by_cases c : (κ.1 1 1).toInt ≤ (i : Int) ∧ (i : Int) < (κ.1 1 1).toInt + (20 : Nat)
        · rw [if_pos ⟨rfl, c⟩, if_pos c]
        · rw [if_neg (fun z => c z.2), if_neg c]
      have ev : (Int32.ofInt ((κ.1 1 1).toInt + (20 : Nat))).toInt = (κ.1 1 1).toInt + 20 := ti_ofInt (by omega)
      refine ⟨by rw [p2, q2], ⟨⟨by rw [k11, ev]; omega, fun i => ?_⟩, ⟨by rw [m01, ev]; omega, fun i => ?_⟩, by rw [k11, m01], fun i => ?_⟩, h2.cg (fun a b q => kf a b (by omega) (by omega)) (fun a b q => mf a b (by omega) (by omega)), h3.cg (fun a b q => kf a b (by omega) (by omega)) (fun a b q => mf a b (by omega) (by omega)), h4.cg (fun a b q => kf a b (by omega) (by omega)) (fun a b q => mf a b (by omega) (by omega)), h5.cg (fun a b q => kf a b (by omega) (by omega)) (fun a b q => mf a b (by omega) (by omega)), h6.cg (fun a b q => kf a b (by omega) (by omega)) (fun a b q => mf a b (by omega) (by omega)), h7.cg (fun a b q => kf a b (by omega) (by omega)) (fun a b q => mf a b (by omega) (by omega))⟩
      · rw [k2]
        split
        · exact (fb_b a1 a2 a3 a4 a5 _).1
        · exact h1.1.2 i
      · rw [m1]
        split
        · exact (fb_b a1 a2 a3 a4 a5 _).2.1
        · exact h1.2.1.2 i
      · rw [k2, m1]
        split
        · exact (fb_b a1 a2 a3 a4 a5 _).2.2
        · exact h1.2.2.2 i
    · exact absurd p1 q1
  · rcases hm with ⟨q1, q2, q3⟩ | ⟨q1, q2, q3⟩
    · exact absurd q1 p1
    · exact ⟨by rw [p2, q2], h.eq p3 q3⟩
theorem st_end {a1 : Int32} {κ μ κ' μ' : kMem} {r r' : Int32} (h : Rl κ μ) (hk : (0 ≤ a1.toInt ∧ a1.toInt ≤ (κ.1 1 1).toInt ∧ r = Int32.ofInt 1 ∧ κ' = up κ 1 1 a1) ∨ (¬ (0 ≤ a1.toInt ∧ a1.toInt ≤ (κ.1 1 1).toInt) ∧ r = Int32.ofInt 0 ∧ κ' = κ)) (hm : (0 ≤ a1.toInt ∧ a1.toInt ≤ (μ.1 0 1).toInt ∧ r' = Int32.ofInt 1 ∧ μ' = up μ 0 1 a1) ∨ (¬ (0 ≤ a1.toInt ∧ a1.toInt ≤ (μ.1 0 1).toInt) ∧ r' = Int32.ofInt 0 ∧ μ' = μ)) : r = r' ∧ Rl κ' μ' := by
  obtain ⟨h1, h2, h3, h4, h5, h6, h7⟩ := id h
  have es := h1.2.2.1
  have hs := h1.1.1
  rw [← es] at hm
  rcases hk with ⟨p0, p1, p2, p3⟩ | ⟨p1, p2, p3⟩
  · rcases hm with ⟨q0, q1, q2, q3⟩ | ⟨q1, q2, q3⟩
    · have kf : ∀ a b : Nat, ¬ (a = 1 ∧ b = 1) → κ'.1 a b = κ.1 a b := fun a b n1 => by rw [p3, up_ne _ _ n1]
      have mf : ∀ a b : Nat, ¬ (a = 0 ∧ b = 1) → μ'.1 a b = μ.1 a b := fun a b n1 => by rw [q3, up_ne _ _ n1]
      have k11 : κ'.1 1 1 = a1 := by rw [p3, up_same]
      have m01 : μ'.1 0 1 = a1 := by rw [q3, up_same]
      refine ⟨by rw [p2, q2], ⟨⟨by rw [k11]; omega, fun i => by rw [kf 2 i (by omega)]; exact h1.1.2 i⟩, ⟨by rw [m01]; omega, fun i => by rw [mf 1 i (by omega)]; exact h1.2.1.2 i⟩, by rw [k11, m01], fun i => by rw [kf 2 i (by omega), mf 1 i (by omega)]; exact h1.2.2.2 i⟩, h2.cg (fun a b q => kf a b (by omega)) (fun a b q => mf a b (by omega)), h3.cg (fun a b q => kf a b (by omega)) (fun a b q => mf a b (by omega)), h4.cg (fun a b q => kf a b (by omega)) (fun a b q => mf a b (by omega)), h5.cg (fun a b q => kf a b (by omega)) (fun a b q => mf a b (by omega)), h6.cg (fun a b q => kf a b (by omega)) (fun a b q => mf a b (by omega)), h7.cg (fun a b q => kf a b (by omega)) (fun a b q => mf a b (by omega))⟩
    · exact absurd ⟨p0, p1⟩ q1
  · rcases hm with ⟨q0, q1, q2, q3⟩ | ⟨q1, q2, q3⟩
    · exact absurd ⟨q0, q1⟩ p1
    · exact ⟨by rw [p2, q2], h.eq p3 q3⟩
theorem st_code {κ μ κ' μ' : kMem} {r r' : Int32} (h : Rl κ μ) (hk : ((∃ p, paF (kt κ) (kn κ) = .inl p) ∧ r = Int32.ofInt (-1) ∧ kGo κ κ') ∨ (∃ d, paF (kt κ) (kn κ) = .inr d ∧ dOk d ∧ r.toInt = dW d ∧ kCod d κ' ∧ (κ'.1 1 1).toInt = 0 ∧ ∀ a b : Nat, ¬ (a = 1 ∧ b = 1) → ¬ (a = 3 ∧ (b = 4 ∨ b = 5)) → ¬ ((a = 4 ∨ a = 5) ∧ b < 26) → ¬ (a = 6 ∧ b < 130) → ¬ (a = 7 ∧ b < 20) → (a < 8 ∨ 15 < a) → κ'.1 a b = κ.1 a b)) (hm : ((∃ p, paF (mt μ) (mn μ) = .inl p) ∧ r' = Int32.ofInt (-1) ∧ mGo μ μ') ∨ (∃ d, paF (mt μ) (mn μ) = .inr d ∧ dOk d ∧ r'.toInt = dW d ∧ mCod d μ' ∧ (μ'.1 0 1).toInt = 0 ∧ ∀ a b : Nat, ¬ (a = 0 ∧ (b = 1 ∨ b = 2 ∨ b = 3 ∨ b = 4)) → a ≠ 3 → a ≠ 4 → a ≠ 6 → a ≠ 7 → a ≠ 11 → a ≠ 12 → μ'.1 a b = μ.1 a b)) : r = r' ∧ Rl κ' μ' := by
  obtain ⟨h1, h2, h3, h4, h5, h6, h7⟩ := id h
  have e := h1.t
  rw [← e.1, ← e.2] at hm
  rcases hk with ⟨⟨p, p1⟩, p2, p3⟩ | ⟨d, p1, p2, p3, p4, p5, p6⟩
  · rcases hm with ⟨-, q2, q3⟩ | ⟨f, q1, -⟩
    · exact ⟨by rw [p2, q2], h.sm p3.sm q3.sm⟩
    · rw [p1] at q1; cases q1
  · rcases hm with ⟨⟨p, q1⟩, -⟩ | ⟨f, q1, q2, q3, q4, q5, q6⟩
    · rw [p1] at q1; cases q1
    · rw [p1] at q1
      injection q1 with q1
      subst q1
      have k2 : ∀ i, κ'.1 2 i = κ.1 2 i := fun i => p6 2 i (by omega) (by omega) (by omega) (by omega) (by omega) (by omega)
      have m1 : ∀ i, μ'.1 1 i = μ.1 1 i := fun i => q6 1 i (by omega) (by decide) (by decide) (by decide) (by decide) (by decide) (by decide)
      refine ⟨ti_ext (by rw [p3, q3]), ⟨⟨by omega, fun i => by rw [k2]; exact h1.1.2 i⟩, ⟨by omega, fun i => by rw [m1]; exact h1.2.1.2 i⟩, ti_ext (by rw [p5, q5]), fun i => by rw [k2, m1]; exact h1.2.2.2 i⟩, ⟨fun l => ?_, d, p2, p4, q4⟩, h3.cg (fun a b q => p6 a b (by omega) (by omega) (by omega) (by omega) (by omega) (by omega)) (fun a b q => q6 a b (by omega) (by omega) (by omega) (by omega) (by omega) (by omega) (by omega)), h4.cg (fun a b q => p6 a b (by omega) (by omega) (by omega) (by omega) (by omega) (by omega)) (fun a b q => q6 a b (by omega) (by omega) (by omega) (by omega) (by omega) (by omega) (by omega)), h5.cg (fun a b q => p6 a b (by omega) (by omega) (by omega) (by omega) (by omega) (by omega)) (fun a b q => q6 a b (by omega) (by omega) (by omega) (by omega) (by omega) (by omega) (by omega)), h6.cg (fun a b q => p6 a b (by omega) (by omega) (by omega) (by omega) (by omega) (by omega)) (fun a b q => q6 a b (by omega) (by omega) (by omega) (by omega) (by omega) (by omega) (by omega)), h7.cg (fun a b q => p6 a b (by omega) (by omega) (by omega) (by omega) (by omega) (by omega)) (fun a b q => q6 a b (by omega) (by omega) (by omega) (by omega) (by omega) (by omega) (by omega))⟩
      by_cases hl : l < 26
      · rw [(p4.1 l hl).2.1]
        have := dnF_le 5 (dM d l)
        omega
      · rw [p6 5 l (by omega) (by omega) (by omega) (by omega) (by omega) (by omega)]
        exact h2.1 l
theorem st_hand {a1 a2 a3 a4 a5 : Int32} {κ μ κ' μ' : kMem} {r r' : Int32} (h : Rl κ μ) (hk : ((isSp a1.toInt ∧ isSp a2.toInt ∧ isSp a3.toInt ∧ isSp a4.toInt ∧ isSp a5.toInt) ∧ (κ.1 16 1).toInt < 8 ∧ r = κ.1 16 1 ∧ kAddH κ (k5 a1 a2 a3 a4 a5) κ') ∨ (¬ ((isSp a1.toInt ∧ isSp a2.toInt ∧ isSp a3.toInt ∧ isSp a4.toInt ∧ isSp a5.toInt) ∧ (κ.1 16 1).toInt < 8) ∧ r = Int32.ofInt (-1) ∧ κ' = κ)) (hm : ((isSp a1.toInt ∧ isSp a2.toInt ∧ isSp a3.toInt ∧ isSp a4.toInt ∧ isSp a5.toInt) ∧ (μ.1 0 18).toInt < 8 ∧ r' = μ.1 0 18 ∧ mAddH μ (k5 a1 a2 a3 a4 a5) μ') ∨ (¬ ((isSp a1.toInt ∧ isSp a2.toInt ∧ isSp a3.toInt ∧ isSp a4.toInt ∧ isSp a5.toInt) ∧ (μ.1 0 18).toInt < 8) ∧ r' = Int32.ofInt (-1) ∧ μ' = μ)) : r = r' ∧ Rl κ' μ' := by
  obtain ⟨h1, h2, h3, h4, h5, h6, h7⟩ := id h
  have es := h3.2.2.1
  have hs := h3.2.1.1
  rw [← es] at hm hs
  rcases hk with ⟨p0, p1, p2, p3⟩ | ⟨p1, p2, p3⟩
  · rcases hm with ⟨q0, q1, q2, q3⟩ | ⟨q1, q2, q3⟩
    · unfold mAddH at q3
      rw [← es] at q3
      have kf : ∀ a b : Nat, ¬ (a = 16 ∧ b = 1) → a ≠ 17 → κ'.1 a b = κ.1 a b := fun a b n1 n2 => by rw [p3 a b, if_neg n1, if_neg (fun z => n2 z.1)]
      have mf : ∀ a b : Nat, ¬ (a = 0 ∧ b = 18) → a ≠ 14 → a ≠ 15 → μ'.1 a b = μ.1 a b := fun a b n1 n2 n3 => by rw [q3 a b, if_neg n1, if_neg (fun z => n2 z.1), if_neg (fun z => n3 z.1)]
      have ev : (Int32.ofInt ((κ.1 16 1).toInt + 1)).toInt = (κ.1 16 1).toInt + 1 := ti_ofInt (by omega)
      have k16 : κ'.1 16 1 = Int32.ofInt ((κ.1 16 1).toInt + 1) := by rw [p3 16 1, if_pos ⟨rfl, rfl⟩]
      have m18 : μ'.1 0 18 = Int32.ofInt ((κ.1 16 1).toInt + 1) := by rw [q3 0 18, if_pos ⟨rfl, rfl⟩]
      obtain ⟨N, hN⟩ : ∃ N, N = (κ.1 16 1).toInt.toNat * 5 := ⟨_, rfl⟩
      rw [← hN] at q3
      unfold kAddH at p3
      rw [← hN] at p3
      have hv : ∀ i, i < 5 → isSp (k5 a1 a2 a3 a4 a5 i).toInt := fun i hi => by
        unfold k5
        rcases (show i = 0 ∨ i = 1 ∨ i = 2 ∨ i = 3 ∨ i = 4 by omega) with e | e | e | e | e <;> subst e
        · exact p0.1
        · exact p0.2.1
        · exact p0.2.2.1
        · exact p0.2.2.2.1
        · exact p0.2.2.2.2
      have k17 : ∀ i : Nat, κ'.1 17 i = if N ≤ i ∧ i < N + 5 then k5 a1 a2 a3 a4 a5 (i - N) else κ.1 17 i := fun i => by
        rw [p3 17 i, if_neg (by omega)]
        by_cases c : N ≤ i ∧ i < N + 5
        · rw [if_pos ⟨rfl, c⟩, if_pos c]
        · rw [if_neg (fun z => c z.2), if_neg c]
      have m14 : ∀ i : Nat, μ'.1 14 i = if N ≤ i ∧ i < N + 5 then k5 a1 a2 a3 a4 a5 (i - N) / Int32.ofInt 1000 else μ.1 14 i := fun i => by
        rw [q3 14 i, if_neg (by omega)]
        by_cases c : N ≤ i ∧ i < N + 5
        · rw [if_pos ⟨rfl, c⟩, if_pos c]
        · rw [if_neg (fun z => c z.2), if_neg (by omega), if_neg c]
      have m15 : ∀ i : Nat, μ'.1 15 i = if N ≤ i ∧ i < N + 5 then krem (k5 a1 a2 a3 a4 a5 (i - N)) (Int32.ofInt 1000) else μ.1 15 i := fun i => by
        rw [q3 15 i, if_neg (by omega), if_neg (by omega)]
        by_cases c : N ≤ i ∧ i < N + 5
        · rw [if_pos ⟨rfl, c⟩, if_pos c]
        · rw [if_neg (fun z => c z.2), if_neg c]
      have hq : ∀ i, i < 5 → (k5 a1 a2 a3 a4 a5 i / Int32.ofInt 1000).toInt = (k5 a1 a2 a3 a4 a5 i).toInt / 1000 ∧ (krem (k5 a1 a2 a3 a4 a5 i) (Int32.ofInt 1000)).toInt = (k5 a1 a2 a3 a4 a5 i).toInt % 1000 := fun i hi => by
        have w := hv i hi
        unfold isSp at w
        exact ⟨ti_divc (by omega), ti_remc (by omega)⟩
      refine ⟨by rw [p2, q2, es], h1.cg (fun a b q => kf a b (by omega) (by omega)) (fun a b q => mf a b (by omega) (by omega) (by omega)), h2.cg (fun a b q => kf a b (by omega) (by omega)) (fun a b q => mf a b (by omega) (by omega) (by omega)), ⟨fun i => ?_, ⟨by rw [m18, ev]; omega, fun i => ?_⟩, by rw [k16, m18], fun i => ?_⟩, h4.cg (fun a b q => kf a b (by omega) (by omega)) (fun a b q => mf a b (by omega) (by omega) (by omega)), h5.cg (fun a b q => kf a b (by omega) (by omega)) (fun a b q => mf a b (by omega) (by omega) (by omega)), h6.cg (fun a b q => kf a b (by omega) (by omega)) (fun a b q => mf a b (by omega) (by omega) (by omega)), h7.cg (fun a b q => kf a b (by omega) (by omega)) (fun a b q => mf a b (by omega) (by omega) (by omega))⟩
      · rw [k17]
        by_cases c : N ≤ i ∧ i < N + 5
        · rw [if_pos c]; exact Or.inr (hv _ (by omega))
        · rw [if_neg c]; exact h3.1 i
      · rw [m14, m15]
        by_cases c : N ≤ i ∧ i < N + 5
        · have w := hv (i - N) (by omega)
          have w2 := hq (i - N) (by omega)
          unfold isSp at w
          rw [if_pos c, if_pos c]
          omega
        · rw [if_neg c, if_neg c]; exact h3.2.1.2 i
      · rw [k17, m14, m15]
        by_cases c : N ≤ i ∧ i < N + 5
        · rw [if_pos c, if_pos c, if_pos c]
          exact hq (i - N) (by omega)
        · rw [if_neg c, if_neg c, if_neg c]; exact h3.2.2.2 i
    · exact absurd ⟨p0, p1⟩ q1
  · rcases hm with ⟨q0, q1, q2, q3⟩ | ⟨q1, q2, q3⟩
    · exact absurd ⟨q0, q1⟩ p1
    · exact ⟨by rw [p2, q2], h.eq p3 q3⟩
theorem rch_more {st en st' en' : Nat → Nat} {n n' to : Nat} (h : ∀ l, l < n → st' l = st l ∧ en' l = en l) (hn : n ≤ n') : ∀ k s, rch st en n to k s → rch st' en' n' to k s := by
  intro k
  induction k with
  | zero => intro s q; exact q
  | succ k ih =>
    intro s q
    rcases q with q | ⟨l, q1, q2, q3⟩
    · exact Or.inl (ih s q)
    · have e := h l q1
      exact Or.inr ⟨l, by omega, by rw [e.1]; exact q2, by rw [e.2]; exact ih _ q3⟩
theorem dsF_more {st en st' en' : Nat → Nat} {n n' to s : Nat} (h : ∀ l, l < n → st' l = st l ∧ en' l = en l) (hn : n ≤ n') (q : dsF st en n to s < 6) : dsF st' en' n' to s < 6 := by
  have q1 := (dsF_le (st := st) (en := en) (n := n) (to := to) (s := s) (k := 5) (by decide)).mp (by omega)
  have q2 := (dsF_le (st := st') (en := en') (n := n') (to := to) (s := s) (k := 5) (by decide)).mpr (rch_more h hn 5 s q1)
  omega
theorem rPs.ln {κ κ' μ μ' : kMem} (h : rPs κ μ) (hk : ∀ a b : Nat, (a = 37 ∧ b = 6) ∨ (38 ≤ a ∧ a ≤ 42) → κ'.1 a b = κ.1 a b) (hm : ∀ a b : Nat, (a = 0 ∧ b = 36) ∨ (26 ≤ a ∧ a ≤ 30) → μ'.1 a b = μ.1 a b) (l1 : ∀ a b, kds κ a b < 6 → kds κ' a b < 6) (l2 : ∀ a b, mds μ a b < 6 → mds μ' a b < 6) : rPs κ' μ' := by
  obtain ⟨h1, h2, h3, h4⟩ := h
  refine ⟨⟨by rw [hk 37 6 (by omega)]; exact h1.1, fun m q => ?_⟩, ⟨by rw [hm 0 36 (by omega)]; exact h2.1, fun m q => ?_⟩, by rw [hk 37 6 (by omega), hm 0 36 (by omega)]; exact h3, fun i => ?_⟩
  · rw [hk 37 6 (by omega)] at q
    obtain ⟨a, b, c, d, e, f⟩ := h1.2 m q
    unfold kpE kpS at f ⊢
    rw [hk 38 m (by omega), hk 39 m (by omega), hk 40 m (by omega), hk 41 m (by omega)]
    exact ⟨a, b, c, d, e, l1 _ _ f⟩
  · rw [hm 0 36 (by omega)] at q
    obtain ⟨a, b, c, d, e, f⟩ := h2.2 m q
    unfold mpE mpS at f ⊢
    rw [hm 26 m (by omega), hm 27 m (by omega), hm 28 m (by omega), hm 29 m (by omega)]
    exact ⟨a, b, c, d, e, l2 _ _ f⟩
  · rw [hk 38 i (by omega), hk 39 i (by omega), hk 40 i (by omega), hk 41 i (by omega), hk 42 i (by omega), hm 26 i (by omega), hm 27 i (by omega), hm 28 i (by omega), hm 29 i (by omega), hm 30 i (by omega)]
    exact h4 i

