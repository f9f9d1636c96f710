/-! ===== distances, found level by level (plain mathematics) ===== -/
theorem dsF_line {st en : Nat → Nat} {n to l : Nat} (ht : to < 6) (hs : ∀ l, l < n → st l < 6) (hl : l < n) (h : dsF st en n to (en l) < 6) : dsF st en n to (st l) ≤ dsF st en n to (en l) + 1 ∧ dsF st en n to (st l) < 6 := by
  have h1 := (dsF_le (st := st) (en := en) (n := n) (to := to) (s := en l) (k := dsF st en n to (en l)) h).mp (Nat.le_refl _)
  have h2 := rch_line hl h1
  have h3 := rch_five ht hs h2
  have h4 := (dsF_le (st := st) (en := en) (n := n) (to := to) (s := st l) (k := 5) (by decide)).mpr h3
  refine ⟨?_, by omega⟩
  by_cases c : dsF st en n to (en l) + 1 < 6
  · exact (dsF_le c).mpr h2
  · omega
def lvI (st en : Nat → Nat) (n to k l : Nat) (D : Nat → Int) : Prop := ∀ s, s < 6 → (dsF st en n to s ≤ k → dsF st en n to s < 6 → D s = (dsF st en n to s : Int)) ∧ (¬ (dsF st en n to s ≤ k ∧ dsF st en n to s < 6) → ((dsF st en n to s = k + 1 ∧ dsF st en n to s < 6 ∧ ∃ i, i < l ∧ st i = s ∧ dsF st en n to (en i) = k) → D s = (k : Int) + 1) ∧ (¬ (dsF st en n to s = k + 1 ∧ dsF st en n to s < 6 ∧ ∃ i, i < l ∧ st i = s ∧ dsF st en n to (en i) = k) → D s = -1))
theorem lvI_zero {st en : Nat → Nat} {n to : Nat} {D : Nat → Int} (h : ∀ s, s < 6 → D s = if s = to then 0 else -1) : lvI st en n to 0 0 D := by
  intro s hs
  have hz := dsF_zero (st := st) (en := en) (n := n) (to := to) (s := s)
  refine ⟨fun q _ => ?_, fun q => ⟨fun z => ?_, fun _ => ?_⟩⟩
  · have e : dsF st en n to s = 0 := by omega
    rw [h s hs, if_pos (hz.mp e), e]
    rfl
  · obtain ⟨-, -, i, hi, -⟩ := z
    omega
  · rw [h s hs, if_neg (fun e => q (by have := hz.mpr e; omega))]
theorem lvI_at {st en : Nat → Nat} {n to k l : Nat} {D : Nat → Int} (h : lvI st en n to k l D) {s : Nat} (hs : s < 6) (hk : k < 6) : (D s = (k : Int) ↔ dsF st en n to s = k) := by
  obtain ⟨h1, h2⟩ := h s hs
  by_cases q : dsF st en n to s ≤ k ∧ dsF st en n to s < 6
  · have := h1 q.1 q.2
    omega
  · obtain ⟨h3, h4⟩ := h2 q
    by_cases c : dsF st en n to s = k + 1 ∧ dsF st en n to s < 6 ∧ ∃ i, i < l ∧ st i = s ∧ dsF st en n to (en i) = k
    · have := h3 c
      omega
    · have := h4 c
      omega
/-- a line that leads to the level, from a station that isn't there yet -/
theorem lvI_yes {st en : Nat → Nat} {n to k l : Nat} {D D' : Nat → Int} (ht : to < 6) (hs : ∀ l, l < n → st l < 6 ∧ en l < 6) (hk : k < 6) (hl : l < n) (h : lvI st en n to k l D) (c1 : D (en l) = (k : Int)) (c2 : D (st l) = -1) (e1 : D' (st l) = (k : Int) + 1) (e2 : ∀ s, s ≠ st l → D' s = D s) : lvI st en n to k (l + 1) D' := by
  have hsl := hs l hl
  have d1 := (lvI_at h hsl.2 hk).mp c1
  have d2 := dsF_line (st := st) (en := en) (n := n) (to := to) (l := l) ht (fun l q => (hs l q).1) hl (by omega)
  obtain ⟨g1, g2⟩ := h (st l) hsl.1
  have d3 : dsF st en n to (st l) = k + 1 := by
    rcases Nat.lt_or_ge k (dsF st en n to (st l)) with q | q
    · omega
    · have := g1 q d2.2; omega
  intro s hs6
  by_cases e : s = st l
  · subst e
    refine ⟨fun q => by omega, fun _ => ⟨fun _ => e1, fun z => absurd ⟨d3, d2.2, l, by omega, rfl, d1⟩ z⟩⟩
  · rw [e2 s e]
    obtain ⟨f1, f2⟩ := h s hs6
    refine ⟨f1, fun q => ⟨fun z => (f2 q).1 ?_, fun z => (f2 q).2 (fun y => z ?_)⟩⟩
    · obtain ⟨z1, z2, i, i1, i2, i3⟩ := z
      refine ⟨z1, z2, i, ?_, i2, i3⟩
      rcases (show i < l ∨ i = l by omega) with w | w
      · exact w
      · subst w; exact absurd i2.symm e
    · obtain ⟨z1, z2, i, i1, i2, i3⟩ := y
      exact ⟨z1, z2, i, by omega, i2, i3⟩
theorem lvI_no {st en : Nat → Nat} {n to k l : Nat} {D : Nat → Int} (hs : ∀ l, l < n → st l < 6 ∧ en l < 6) (hk : k < 6) (hl : l < n) (h : lvI st en n to k l D) (c : ¬ (D (en l) = (k : Int) ∧ D (st l) = -1)) : lvI st en n to k (l + 1) D := by
  have hsl := hs l hl
  intro s hs6
  obtain ⟨f1, f2⟩ := h s hs6
  refine ⟨f1, fun q => ⟨fun z => (f2 q).1 ?_, fun z => (f2 q).2 (fun y => z ?_)⟩⟩
  · obtain ⟨z1, z2, i, i1, i2, i3⟩ := z
    rcases (show i < l ∨ i = l by omega) with w | w
    · exact ⟨z1, z2, i, w, i2, i3⟩
    · subst w
      have d1 := (lvI_at h hsl.2 hk).mpr i3
      refine Classical.byContradiction (fun y => c ⟨d1, ?_⟩)
      rw [i2]
      exact (f2 q).2 y
  · obtain ⟨z1, z2, i, i1, i2, i3⟩ := y
    exact ⟨z1, z2, i, by omega, i2, i3⟩
theorem lvI_round {st en : Nat → Nat} {n to k : Nat} {D : Nat → Int} (h : lvI st en n to k n D) : lvI st en n to (k + 1) 0 D := by
  intro s hs6
  obtain ⟨f1, f2⟩ := h s hs6
  refine ⟨fun q1 q2 => ?_, fun q => ⟨fun z => ?_, fun _ => ?_⟩⟩
  · rcases Nat.lt_or_ge k (dsF st en n to s) with c | c
    · have e : dsF st en n to s = k + 1 := by omega
      have g := flF_ok (st := st) (en := en) (n := n) (to := to) (s := s) (by omega) q2
      rw [(f2 (by omega)).1 ⟨e, q2, flF st en n to s, g.1, g.2.1, by omega⟩, e]
      omega
    · exact f1 c q2
  · obtain ⟨-, -, i, hi, -⟩ := z
    omega
  · exact (f2 (by omega)).2 (fun z => q ⟨by omega, z.2.1⟩)
theorem lvI_end {st en : Nat → Nat} {n to : Nat} {D : Nat → Int} (h : lvI st en n to 6 0 D) {s : Nat} (hs : s < 6) : D s = if dsF st en n to s < 6 then (dsF st en n to s : Int) else -1 := by
  obtain ⟨f1, f2⟩ := h s hs
  by_cases c : dsF st en n to s < 6
  · rw [if_pos c]; exact f1 (by omega) c
  · rw [if_neg c]; exact (f2 (fun q => c q.2)).2 (fun z => c z.2.1)

