/-- what the law's start gives of the three texts and the two statics -/
theorem lw_txt {s : State} {b : Nat} (hts : ∀ w ∈ lw_tbl, w.before #[Value.ref b] s = true) (hgv : (Jvm.Cond.and given_1 narrow_1).before #[Value.ref b] s = true) : ∃ x : Nat → Nat, vk_S 3 klen kbyt (fun i => x (1000 + i)) (fun i => x (2000 + i)) (fun q => s.heap.size ≤ q) s s.heap ∧
    vk_R "KeyFists$Grammar" 50 "letter" (x 1000) s ∧ vk_R "KeyFists$Grammar" 59 "word" (x 1001) s ∧ vk_R "KeyFists$Grammar" 99 "is" (x 1002) s ∧ vk_R RX12 35 "letter" (x 1000) s ∧ vk_R RX12 37 "word" (x 1001) s ∧ vk_R RX12 39 "is" (x 1002) s ∧
    va_Z "java/lang/String" "COMPACT_STRINGS" "Z" (.int 1) (fun q => s.heap.size ≤ q) s s.heap ∧ ∃ v : Value, (v = .null ∨ v = .ref 3000) ∧ va_Z "jdk/internal/util/Preconditions" "SIOOBE_FORMATTER" "Ljava/util/function/BiFunction;" (cvv x v) (fun q => s.heap.size ≤ q) s s.heap := by
  have hfl := flat_of_before _ hgv
  have hA : ∀ a : Nat, a < s.heap.size → ¬ s.heap.size ≤ a := fun a h => Nat.not_le.mpr h
  have h3 : ∀ {P : Nat → Prop}, P 0 → P 1 → P 2 → ∀ i, i < 3 → P i := fun p0 p1 p2 i hi => by
    rcases (show i = 0 ∨ i = 1 ∨ i = 2 by omega) with rfl | rfl | rfl
    · exact p0
    · exact p1
    · exact p2
  obtain ⟨aK, aV, hS, ht⟩ := vk_Sof (args := #[Value.ref b]) (s := s) (N := 3) (tm := fun i => match i with | 0 => .string "KeyFists$Grammar" 50 | 1 => .string "KeyFists$Grammar" 59 | _ => .string "KeyFists$Grammar" 99) (len := klen) (byt := kbyt) (A := fun q => s.heap.size ≤ q)
    (h3 (by decide) (by decide) (by decide))
    (h3 (hfl _ (by decide +kernel)) (hfl _ (by decide +kernel)) (hfl _ (by decide +kernel)))
    (h3 (hfl _ (by decide +kernel)) (hfl _ (by decide +kernel)) (hfl _ (by decide +kernel)))
    (h3 (hfl _ (by decide +kernel)) (hfl _ (by decide +kernel)) (hfl _ (by decide +kernel)))
    (h3 (hfl _ (by decide +kernel)) (hfl _ (by decide +kernel)) (hfl _ (by decide +kernel)))
    (h3 (fun j hj => by
      have hj : j < 6 := hj
      rcases (show j = 0 ∨ j = 1 ∨ j = 2 ∨ j = 3 ∨ j = 4 ∨ j = 5 by omega) with rfl | rfl | rfl | rfl | rfl | rfl <;> exact hfl _ (by decide +kernel)) (fun j hj => by
      have hj : j < 4 := hj
      rcases (show j = 0 ∨ j = 1 ∨ j = 2 ∨ j = 3 by omega) with rfl | rfl | rfl | rfl <;> exact hfl _ (by decide +kernel)) (fun j hj => by
      have hj : j < 2 := hj
      rcases (show j = 0 ∨ j = 1 by omega) with rfl | rfl <;> exact hfl _ (by decide +kernel)))
    (fun i j hi hj hij => by
      rcases (show (i = 0 ∧ j = 1) ∨ (i = 0 ∧ j = 2) ∨ (i = 1 ∧ j = 2) ∨ (i = 1 ∧ j = 0) ∨ (i = 2 ∧ j = 0) ∨ (i = 2 ∧ j = 1) by omega) with ⟨rfl, rfl⟩ | ⟨rfl, rfl⟩ | ⟨rfl, rfl⟩ | ⟨rfl, rfl⟩ | ⟨rfl, rfl⟩ | ⟨rfl, rfl⟩
      · exact Or.inl (hfl _ (by decide +kernel))
      · exact Or.inl (hfl _ (by decide +kernel))
      · exact Or.inl (hfl _ (by decide +kernel))
      · exact Or.inr (hfl _ (by decide +kernel))
      · exact Or.inr (hfl _ (by decide +kernel))
      · exact Or.inr (hfl _ (by decide +kernel))) hA
  have t0 : (Term.string "KeyFists$Grammar" 50).eval #[Value.ref b] s none [] s = some (.ref (aK 0)) := ht 0 (by decide)
  have t1 : (Term.string "KeyFists$Grammar" 59).eval #[Value.ref b] s none [] s = some (.ref (aK 1)) := ht 1 (by decide)
  have t2 : (Term.string "KeyFists$Grammar" 99).eval #[Value.ref b] s none [] s = some (.ref (aK 2)) := ht 2 (by decide)
  have u0 : (Term.string RX12 35).eval #[Value.ref b] s none [] s = some (.ref (aK 0)) := eq_refs t0 (hfl _ (by decide +kernel))
  have u1 : (Term.string RX12 37).eval #[Value.ref b] s none [] s = some (.ref (aK 1)) := eq_refs t1 (hfl _ (by decide +kernel))
  have u2 : (Term.string RX12 39).eval #[Value.ref b] s none [] s = some (.ref (aK 2)) := eq_refs t2 (hfl _ (by decide +kernel))
  have hc := va_Zof (A := fun q => s.heap.size ≤ q) (hts _ (tq2 189 rfl)) (hts _ (tq1 14 rfl)) (va_eqt (t := .static "java/lang/String" "COMPACT_STRINGS" "Z") (z := 1) (hfl _ (by decide +kernel))) hA
  have hf := va_Zqof (A := fun q => s.heap.size ≤ q) (C := "jdk/internal/util/Preconditions") (n := "SIOOBE_FORMATTER") (d := "Ljava/util/function/BiFunction;") (hts _ (tq2 205 rfl)) (hts _ (tq1 16 rfl)) (hfl _ (by decide +kernel)) hA
  obtain ⟨fm, hfm⟩ : ∃ fm : Nat, ∃ v : Value, (v = .null ∨ v = .ref 3000) ∧ ∀ x : Nat → Nat, x 3000 = fm → va_Z "jdk/internal/util/Preconditions" "SIOOBE_FORMATTER" "Ljava/util/function/BiFunction;" (cvv x v) (fun q => s.heap.size ≤ q) s s.heap := by
    rcases hf with h | ⟨t, h⟩
    · exact ⟨0, .null, Or.inl rfl, fun _ _ => h⟩
    · refine ⟨t, .ref 3000, Or.inr rfl, fun x hx => ?_⟩
      show va_Z _ _ _ (.ref (x 3000)) _ _ _
      rw [hx]
      exact h
  obtain ⟨v, hv, hz⟩ := hfm
  refine ⟨fun j => if j < 2000 then aK (j - 1000) else if j < 3000 then aV (j - 2000) else fm, ⟨fun i hi => ?_, fun i j hi hj e => hS.2 i j hi hj ?_⟩, vk_R.of (hts _ (tq2 171 rfl)) t0, vk_R.of (hts _ (tq3 9 rfl)) t1, vk_R.of (hts _ (tq3 26 rfl)) t2, vk_R.of (hts _ (tq5 103 rfl)) u0, vk_R.of (hts _ (tq5 104 rfl)) u1, vk_R.of (hts _ (tq5 105 rfl)) u2, hc, v, hv, hz _ rfl⟩
  · have e1 : (if 1000 + i < 2000 then aK (1000 + i - 1000) else if 1000 + i < 3000 then aV (1000 + i - 2000) else fm) = aK i := by rw [if_pos (by omega), show 1000 + i - 1000 = i by omega]
    have e2 : (if 2000 + i < 2000 then aK (2000 + i - 1000) else if 2000 + i < 3000 then aV (2000 + i - 2000) else fm) = aV i := by rw [if_neg (by omega), if_pos (by omega), show 2000 + i - 2000 = i by omega]
    dsimp only
    rw [e1, e2]
    exact hS.1 i hi
  · have e1 : ∀ k, k < 3 → (if 1000 + k < 2000 then aK (1000 + k - 1000) else if 1000 + k < 3000 then aV (1000 + k - 2000) else fm) = aK k := fun k hk => by rw [if_pos (by omega), show 1000 + k - 1000 = k by omega]
    dsimp only at e
    rw [e1 i hi, e1 j hj] at e
    exact e

