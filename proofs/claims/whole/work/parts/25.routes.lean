/-! ===== routes (plain mathematics) ===== -/
/-- to is reached from s over k lines at most -/
def rch (st en : Nat → Nat) (n to : Nat) : Nat → Nat → Prop
  | 0, s => s = to
  | k + 1, s => rch st en n to k s ∨ ∃ l, l < n ∧ st l = s ∧ rch st en n to k (en l)
theorem rch_succ {st en : Nat → Nat} {n to k s : Nat} (h : rch st en n to k s) : rch st en n to (k + 1) s := Or.inl h
theorem rch_mono {st en : Nat → Nat} {n to k s : Nat} (h : rch st en n to k s) : ∀ d, rch st en n to (k + d) s := by
  intro d
  induction d with
  | zero => exact h
  | succ d ih => exact Or.inl ih
theorem rch_le {st en : Nat → Nat} {n to k j s : Nat} (h : rch st en n to k s) (q : k ≤ j) : rch st en n to j s := by
  have := rch_mono h (j - k)
  rwa [show k + (j - k) = j by omega] at this
theorem rch_line {st en : Nat → Nat} {n to k l : Nat} (hl : l < n) (h : rch st en n to k (en l)) : rch st en n to (k + 1) (st l) := Or.inr ⟨l, hl, rfl, h⟩
theorem rch_lt {st en : Nat → Nat} {n to : Nat} (ht : to < 6) (hs : ∀ l, l < n → st l < 6) : ∀ k s, rch st en n to k s → s < 6 := by
  intro k
  induction k with
  | zero => intro s h; have h : s = to := h; omega
  | succ k ih =>
    intro s h
    rcases h with h | ⟨l, h1, h2, h3⟩
    · exact ih s h
    · have := hs l h1
      omega
/-- how many below n have a property -/
noncomputable def cntF (p : Nat → Prop) : Nat → Nat
  | 0 => 0
  | n + 1 => cntF p n + @ite Nat (p n) (Classical.propDecidable _) 1 0
theorem cntF_le (p : Nat → Prop) : ∀ n, cntF p n ≤ n := by
  intro n
  induction n with
  | zero => exact Nat.le_refl _
  | succ n ih => unfold cntF; split <;> omega
theorem cntF_mono {p q : Nat → Prop} : ∀ n, (∀ i, i < n → p i → q i) → cntF p n ≤ cntF q n := by
  intro n
  induction n with
  | zero => intro _; exact Nat.le_refl _
  | succ n ih =>
    intro h
    have h1 := ih (fun i hi => h i (by omega))
    unfold cntF
    split
    · rename_i hp
      rw [if_pos (h n (by omega) hp)]
      omega
    · omega
theorem cntF_lt {p q : Nat → Prop} : ∀ n, (∀ i, i < n → p i → q i) → ∀ j, j < n → q j → ¬ p j → cntF p n < cntF q n := by
  intro n
  induction n with
  | zero => intro _ j hj; omega
  | succ n ih =>
    intro h j hj hq hp
    unfold cntF
    by_cases e : j = n
    · subst e
      rw [if_pos hq, if_neg hp]
      have := cntF_mono j (fun i hi => h i (by omega))
      omega
    · have h1 := ih (fun i hi => h i (by omega)) j (by omega) hq hp
      split
      · rename_i hp
        rw [if_pos (h n (by omega) hp)]
        omega
      · omega
theorem cntF_full {p : Nat → Prop} {n : Nat} (h : n ≤ cntF p n) : ∀ i, i < n → p i := by
  intro i hi
  rcases Classical.em (p i) with q | q
  · exact q
  · have h1 := cntF_lt (p := p) (q := fun _ => True) n (fun _ _ _ => trivial) i hi trivial q
    have h2 := cntF_le (fun _ => True) n
    omega
theorem rch_stable {st en : Nat → Nat} {n to k : Nat} (h : ∀ s, rch st en n to (k + 1) s → rch st en n to k s) : ∀ d s, rch st en n to (k + d) s → rch st en n to k s := by
  intro d
  induction d with
  | zero => intro s q; exact q
  | succ d ih =>
    intro s q
    rcases q with q | ⟨l, h1, h2, h3⟩
    · exact ih s q
    · exact h s (Or.inr ⟨l, h1, h2, ih _ h3⟩)
theorem rch_grow {st en : Nat → Nat} {n to : Nat} (ht : to < 6) (hs : ∀ l, l < n → st l < 6) : ∀ k, (∃ j, j ≤ k ∧ ∀ s, rch st en n to (j + 1) s → rch st en n to j s) ∨ k + 1 ≤ cntF (rch st en n to k) 6 := by
  intro k
  induction k with
  | zero =>
    right
    have h1 := cntF_lt (p := fun _ => False) (q := rch st en n to 0) 6 (fun _ _ q => q.elim) to ht rfl (fun q => q)
    omega
  | succ k ih =>
    rcases ih with ⟨j, h1, h2⟩ | h1
    · exact Or.inl ⟨j, by omega, h2⟩
    · rcases Classical.em (∀ s, rch st en n to (k + 1) s → rch st en n to k s) with q | q
      · exact Or.inl ⟨k, by omega, q⟩
      · right
        obtain ⟨s, q⟩ := Classical.not_forall.mp q
        have q1 : rch st en n to (k + 1) s := Classical.byContradiction (fun z => q (fun y => absurd y z))
        have q2 : ¬ rch st en n to k s := fun z => q (fun _ => z)
        have := cntF_lt (p := rch st en n to k) (q := rch st en n to (k + 1)) 6 (fun _ _ y => Or.inl y) s (rch_lt ht hs _ _ q1) q1 q2
        omega
/-- six stations: what is reached is reached over five lines -/
theorem rch_five {st en : Nat → Nat} {n to : Nat} (ht : to < 6) (hs : ∀ l, l < n → st l < 6) {k s : Nat} (h : rch st en n to k s) : rch st en n to 5 s := by
  rcases rch_grow (en := en) ht hs 5 with ⟨j, h1, h2⟩ | h1
  · have h3 := rch_stable h2 k s (by rw [Nat.add_comm]; exact rch_mono h j)
    exact rch_le h3 h1
  · exact cntF_full h1 s (rch_lt ht hs _ _ h)
/-- the least below k with a property; k if there is none -/
noncomputable def lstF (p : Nat → Prop) : Nat → Nat
  | 0 => 0
  | k + 1 => @ite Nat (lstF p k < k ∨ p k) (Classical.propDecidable _) (lstF p k) (k + 1)
theorem lstF_spec (p : Nat → Prop) : ∀ k, (lstF p k = k ∧ ∀ i, i < k → ¬ p i) ∨ (lstF p k < k ∧ p (lstF p k) ∧ ∀ i, i < lstF p k → ¬ p i) := by
  intro k
  induction k with
  | zero => exact Or.inl ⟨rfl, fun i hi => by omega⟩
  | succ k ih =>
    unfold lstF
    rcases ih with ⟨h1, h2⟩ | ⟨h1, h2, h3⟩
    · by_cases q : p k
      · rw [if_pos (Or.inr q)]
        exact Or.inr ⟨by omega, by rw [h1]; exact q, fun i hi => h2 i (by omega)⟩
      · rw [if_neg (fun z => by rcases z with z | z; omega; exact q z)]
        refine Or.inl ⟨rfl, fun i hi => ?_⟩
        by_cases e : i = k
        · subst e; exact q
        · exact h2 i (by omega)
    · rw [if_pos (Or.inl h1)]
      exact Or.inr ⟨by omega, h2, h3⟩
theorem lstF_is {p : Nat → Prop} {k j : Nat} (h1 : j < k) (h2 : p j) (h3 : ∀ i, i < j → ¬ p i) : lstF p k = j := by
  rcases lstF_spec p k with ⟨-, q2⟩ | ⟨q1, q2, q3⟩
  · exact absurd h2 (q2 j h1)
  · rcases Nat.lt_trichotomy (lstF p k) j with q | q | q
    · exact absurd q2 (h3 _ q)
    · exact q
    · exact absurd h2 (q3 _ q)
theorem lstF_no {p : Nat → Prop} {k : Nat} (h : ∀ i, i < k → ¬ p i) : lstF p k = k := by
  rcases lstF_spec p k with ⟨q1, -⟩ | ⟨q1, q2, -⟩
  · exact q1
  · exact absurd q2 (h _ q1)
/-- the number of lines of the shortest way; 6 if there is none -/
noncomputable def dsF (st en : Nat → Nat) (n to s : Nat) : Nat := lstF (fun k => rch st en n to k s) 6
theorem dsF_le {st en : Nat → Nat} {n to s k : Nat} (hk : k < 6) : dsF st en n to s ≤ k ↔ rch st en n to k s := by
  unfold dsF
  rcases lstF_spec (fun k => rch st en n to k s) 6 with ⟨h1, h2⟩ | ⟨h1, h2, h3⟩
  · exact ⟨fun q => by omega, fun q => absurd q (h2 k hk)⟩
  · exact ⟨fun q => rch_le h2 q, fun q => Nat.le_of_not_lt (fun z => h3 k z q)⟩
theorem dsF_hi {st en : Nat → Nat} {n to s : Nat} : dsF st en n to s ≤ 6 := by
  unfold dsF
  rcases lstF_spec (fun k => rch st en n to k s) 6 with ⟨h1, h2⟩ | ⟨h1, h2, h3⟩ <;> omega
theorem dsF_zero {st en : Nat → Nat} {n to s : Nat} : dsF st en n to s = 0 ↔ s = to := by
  have h := dsF_le (st := st) (en := en) (n := n) (to := to) (s := s) (k := 0) (by decide)
  exact ⟨fun q => h.mp (by omega), fun q => by have := h.mpr q; omega⟩
/-- the line that the ROUTE takes from a station: n if there is none -/
noncomputable def flF (st en : Nat → Nat) (n to s : Nat) : Nat := lstF (fun l => st l = s ∧ dsF st en n to (en l) + 1 = dsF st en n to s) n
theorem flF_ok {st en : Nat → Nat} {n to s : Nat} (h0 : 0 < dsF st en n to s) (h5 : dsF st en n to s < 6) : flF st en n to s < n ∧ st (flF st en n to s) = s ∧ dsF st en n to (en (flF st en n to s)) + 1 = dsF st en n to s ∧ ∀ i, i < flF st en n to s → ¬ (st i = s ∧ dsF st en n to (en i) + 1 = dsF st en n to s) := by
  obtain ⟨k, hk⟩ : ∃ k, dsF st en n to s = k + 1 := ⟨dsF st en n to s - 1, by omega⟩
  have h1 : rch st en n to (k + 1) s := (dsF_le (by omega)).mp (by omega)
  have h2 : ¬ rch st en n to k s := fun q => by have := (dsF_le (k := k) (by omega)).mpr q; omega
  rcases h1 with h1 | ⟨l, q1, q2, q3⟩
  · exact absurd h1 h2
  · have q4 : dsF st en n to (en l) = k := by
      have a := (dsF_le (k := k) (by omega)).mpr q3
      rcases Nat.lt_or_ge (dsF st en n to (en l)) k with b | b
      · have c := (dsF_le (st := st) (en := en) (n := n) (to := to) (s := en l) (k := k - 1) (by omega)).mp (by omega)
        have d := rch_line q1 c
        rw [show k - 1 + 1 = k by omega, q2] at d
        exact absurd d h2
      · omega
    unfold flF
    rcases lstF_spec (fun l => st l = s ∧ dsF st en n to (en l) + 1 = dsF st en n to s) n with ⟨-, p2⟩ | ⟨p1, p2, p3⟩
    · exact absurd ⟨q2, by omega⟩ (p2 l q1)
    · exact ⟨p1, p2.1, p2.2, p3⟩
/-- the station after some hops of the ROUTE -/
noncomputable def snF (st en : Nat → Nat) (n to s : Nat) : Nat → Nat
  | 0 => s
  | h + 1 => en (flF st en n to (snF st en n to s h))
theorem snF_ds {st en : Nat → Nat} {n to s : Nat} (h5 : dsF st en n to s < 6) : ∀ h, h ≤ dsF st en n to s → dsF st en n to (snF st en n to s h) + h = dsF st en n to s := by
  intro h
  induction h with
  | zero => intro _; rfl
  | succ h ih =>
    intro q
    have h1 := ih (by omega)
    have h2 := flF_ok (st := st) (en := en) (n := n) (to := to) (s := snF st en n to s h) (by omega) (by omega)
    unfold snF
    omega
/-! distances, made shorter line by line -/
def bfI (st en : Nat → Nat) (n to r l : Nat) (D : Nat → Int) : Prop :=
  (∀ s, s < 6 → 0 ≤ D s ∧ D s ≤ 1000 ∧ (D s < 1000 → rch st en n to (D s).toNat s)) ∧ (∀ s k, k ≤ r → rch st en n to k s → D s ≤ k) ∧ ∀ i k, i < l → k ≤ r → rch st en n to k (en i) → D (st i) ≤ k + 1
theorem bfI_zero {st en : Nat → Nat} {n to : Nat} {D : Nat → Int} (h : ∀ s, s < 6 → D s = if s = to then 0 else 1000) (ht : to < 6) : bfI st en n to 0 0 D := by
  refine ⟨fun s hs => ?_, fun s k hk q => ?_, fun i k hi => by omega⟩
  · rw [h s hs]
    split
    · rename_i e
      exact ⟨by omega, by omega, fun _ => e⟩
    · exact ⟨by omega, by omega, fun z => by omega⟩
  · have e : k = 0 := by omega
    subst e
    have e : s = to := q
    rw [h s (by omega), if_pos e]
    exact Int.le_refl _
theorem bfI_step {st en : Nat → Nat} {n to r l : Nat} {D D' : Nat → Int} (hl : l < n) (hs : st l < 6 ∧ en l < 6) (h : bfI st en n to r l D) (h1 : D' (st l) = min (D (st l)) (D (en l) + 1)) (h2 : ∀ s, s ≠ st l → D' s = D s) : bfI st en n to r (l + 1) D' := by
  obtain ⟨a1, a2, a3⟩ := h
  have hle : ∀ s, D' s ≤ D s := by
    intro s
    by_cases e : s = st l
    · subst e; rw [h1]; omega
    · rw [h2 s e]; exact Int.le_refl _
  refine ⟨fun s q => ?_, fun s k hk q => Int.le_trans (hle s) (a2 s k hk q), fun i k hi hk q => ?_⟩
  · by_cases e : s = st l
    · subst e
      have b1 := a1 _ hs.1
      have b2 := a1 _ hs.2
      rcases Int.lt_or_le (D (en l) + 1) (D (st l)) with c | c
      · rw [h1, Int.min_eq_right (by omega)]
        refine ⟨by omega, by omega, fun _ => ?_⟩
        have := rch_line hl (b2.2.2 (by omega))
        rwa [show (D (en l)).toNat + 1 = (D (en l) + 1).toNat by omega] at this
      · rw [h1, Int.min_eq_left (by omega)]
        exact b1
    · rw [h2 s e]
      exact a1 s q
  · by_cases e : i = l
    · subst e
      have := a2 _ _ hk q
      rw [h1]
      omega
    · exact Int.le_trans (hle _) (a3 i k (by omega) hk q)
theorem bfI_round {st en : Nat → Nat} {n to r : Nat} {D : Nat → Int} (h : bfI st en n to r n D) : bfI st en n to (r + 1) 0 D := by
  obtain ⟨a1, a2, a3⟩ := h
  refine ⟨a1, fun s k hk q => ?_, fun i k hi => by omega⟩
  by_cases e : k ≤ r
  · exact a2 s k e q
  · have ek : k = r + 1 := by omega
    subst ek
    rcases q with q | ⟨l, q1, q2, q3⟩
    · have := a2 s r (Nat.le_refl _) q
      omega
    · have := a3 l r q1 (Nat.le_refl _) q3
      rw [q2] at this
      omega
theorem bfI_end {st en : Nat → Nat} {n to : Nat} {D : Nat → Int} (ht : to < 6) (hs : ∀ l, l < n → st l < 6) (h : bfI st en n to 5 0 D) {s : Nat} (q : s < 6) : D s = if dsF st en n to s < 6 then (dsF st en n to s : Int) else 1000 := by
  obtain ⟨a1, a2, -⟩ := h
  have b := a1 s q
  by_cases e : dsF st en n to s < 6
  · rw [if_pos e]
    have c := a2 s (dsF st en n to s) (by omega) ((dsF_le e).mp (Nat.le_refl _))
    have d := b.2.2 (by omega)
    have e2 := (dsF_le (st := st) (en := en) (n := n) (to := to) (s := s) (k := (D s).toNat) (by omega)).mpr d
    omega
  · rw [if_neg e]
    rcases Int.lt_or_le (D s) 1000 with c | c
    · have := (dsF_le (k := 5) (by decide)).mpr (rch_five ht hs (b.2.2 c))
      omega
    · omega

