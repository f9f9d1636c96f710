/-! ===== reading a tape (plain mathematics) ===== -/
/-- a length as it was sent -/
def asn (tp : Nat → Int) (b : Int) (p : Nat) : Int := if p % 2 = 0 then tp p + b else tp p - b
def iabs (x : Int) : Int := if 0 ≤ x then x else -x
/-- the COST of the length at a place as one of a kind; -1 if it can't be one -/
def cst (tp : Nat → Int) (n : Nat) (b : Int) (le ge : Int → Int) (p : Nat) (k : Int) : Int :=
  if p < n ∧ 0 ≤ k ∧ k < 5 ∧ le k ≤ asn tp b p ∧ asn tp b p ≤ ge k then iabs (2 * asn tp b p - le k - ge k) else -1
theorem cst_b {tp : Nat → Int} {n : Nat} {b : Int} {le ge : Int → Int} (h : ∀ k, 0 ≤ k → k < 5 → 0 ≤ le k ∧ ge k ≤ 255) (p : Nat) (k : Int) : -1 ≤ cst tp n b le ge p k ∧ cst tp n b le ge p k ≤ 255 := by
  unfold cst
  split
  · rename_i q
    have := h k q.2.1 q.2.2.1
    unfold iabs
    split <;> omega
  · omega
def sumC (c : Nat → Int) : Nat → Int
  | 0 => 0
  | p + 1 => if sumC c p = -1 ∨ c p = -1 then -1 else sumC c p + c p
theorem sumC_b {c : Nat → Int} (h : ∀ p, -1 ≤ c p ∧ c p ≤ 255) : ∀ p, -1 ≤ sumC c p ∧ sumC c p ≤ 255 * p := by
  intro p
  induction p with
  | zero => exact ⟨by unfold sumC; decide, by unfold sumC; decide⟩
  | succ p ih =>
    have := h p
    unfold sumC
    split <;> omega
theorem sumC_none {c : Nat → Int} {p : Nat} (h : sumC c p = -1) : ∀ d, sumC c (p + d) = -1 := by
  intro d
  induction d with
  | zero => exact h
  | succ d ih =>
    rw [show p + (d + 1) = p + d + 1 by omega]
    unfold sumC
    rw [if_pos (Or.inl ih)]
/-- the COST of a letter (its n marks of the kinds kd, the gaps between) from mark j on -/
def lcst (cs : Nat → Int → Int) (mc n : Nat) (kd : Nat → Int) (j : Nat) : Int := if n = 0 ∨ mc < j + n then -1 else sumC (fun p => cs (2 * j + p) (if p % 2 = 0 then kd (p / 2) else 2)) (2 * n - 1)
theorem lcst_b {cs : Nat → Int → Int} (h : ∀ p k, -1 ≤ cs p k ∧ cs p k ≤ 255) {mc n : Nat} {kd : Nat → Int} {j : Nat} : -1 ≤ lcst cs mc n kd j ∧ (lcst cs mc n kd j = -1 ∨ lcst cs mc n kd j ≤ 510 * (n : Int) - 255) := by
  unfold lcst
  split
  · omega
  · have := sumC_b (c := fun p => cs (2 * j + p) (if p % 2 = 0 then kd (p / 2) else 2)) (fun p => h _ _) (2 * n - 1)
    omega
/-- the lesser COST of the gap ahead of mark j -/
def gcst (cs : Nat → Int → Int) (j : Nat) : Int := if cs (2 * j - 1) 3 = -1 ∨ cs (2 * j - 1) 4 = -1 then max (cs (2 * j - 1) 3) (cs (2 * j - 1) 4) else min (cs (2 * j - 1) 3) (cs (2 * j - 1) 4)
theorem gcst_b {cs : Nat → Int → Int} (h : ∀ p k, -1 ≤ cs p k ∧ cs p k ≤ 255) (j : Nat) : -1 ≤ gcst cs j ∧ gcst cs j ≤ 255 := by
  have h1 := h (2 * j - 1) 3
  have h2 := h (2 * j - 1) 4
  unfold gcst
  split <;> omega
/-- the least COST from mark j on that begins with a letter, C being the least ones behind -/
def cfr (cs : Nat → Int → Int) (mc n : Nat) (kd : Nat → Int) (C : Nat → Int) (j : Nat) : Int :=
  if lcst cs mc n kd j = -1 ∨ mc ≤ j + n then lcst cs mc n kd j else if gcst cs (j + n) = -1 ∨ C (j + n) = -1 then -1 else lcst cs mc n kd j + gcst cs (j + n) + C (j + n)
def bestF (v : Nat → Int) : Nat → Int × Int
  | 0 => (-1, -1)
  | l + 1 => if ¬ v l = -1 ∧ ((bestF v l).1 = -1 ∨ v l < (bestF v l).1) then (v l, (l : Int)) else bestF v l
theorem bestF_congr {v w : Nat → Int} : ∀ l, (∀ i, i < l → v i = w i) → bestF v l = bestF w l := by
  intro l
  induction l with
  | zero => intro _; rfl
  | succ l ih =>
    intro h
    unfold bestF
    rw [ih (fun i hi => h i (by omega)), h l (by omega)]
/-- the best is there at its letter, and none is less -/
theorem bestF_spec {v : Nat → Int} (hv : ∀ l, -1 ≤ v l) : ∀ l, ((bestF v l).1 = -1 ∧ (bestF v l).2 = -1 ∧ ∀ i, i < l → v i = -1) ∨ ∃ f, f < l ∧ (bestF v l).2 = (f : Int) ∧ (bestF v l).1 = v f ∧ ¬ v f = -1 ∧ (∀ i, i < f → v i = -1 ∨ v f < v i) ∧ ∀ i, i < l → v i = -1 ∨ v f ≤ v i := by
  intro l
  induction l with
  | zero => exact Or.inl ⟨rfl, rfl, fun i hi => by omega⟩
  | succ l ih =>
    unfold bestF
    have hl := hv l
    split
    · rename_i q
      refine Or.inr ⟨l, by omega, rfl, rfl, q.1, ?_, ?_⟩
      · intro i hi
        rcases ih with ⟨h1, -, h3⟩ | ⟨f, h1, h2, h3, h4, h5, h6⟩
        · exact Or.inl (h3 i hi)
        · rcases h6 i hi with h7 | h7
          · exact Or.inl h7
          · right; rw [h3] at q; have := q.2; omega
      · intro i hi
        by_cases e : i = l
        · subst e; exact Or.inr (Int.le_refl _)
        · rcases ih with ⟨h1, -, h3⟩ | ⟨f, h1, h2, h3, h4, h5, h6⟩
          · exact Or.inl (h3 i (by omega))
          · rcases h6 i (by omega) with h7 | h7
            · exact Or.inl h7
            · right; rw [h3] at q; have := q.2; omega
    · rename_i q
      rcases ih with ⟨h1, h2, h3⟩ | ⟨f, h1, h2, h3, h4, h5, h6⟩
      · refine Or.inl ⟨h1, h2, fun i hi => ?_⟩
        by_cases e : i = l
        · subst e
          rcases (show v i = -1 ∨ ¬ v i = -1 by omega) with h7 | h7
          · exact h7
          · exact absurd ⟨h7, Or.inl h1⟩ q
        · exact h3 i (by omega)
      · refine Or.inr ⟨f, by omega, h2, h3, h4, h5, fun i hi => ?_⟩
        by_cases e : i = l
        · subst e
          rcases (show v i = -1 ∨ ¬ v i = -1 by omega) with h7 | h7
          · exact Or.inl h7
          · right
            rcases Int.lt_or_le (v i) (v f) with h8 | h8
            · exact absurd ⟨h7, Or.inr (by rw [h3]; exact h8)⟩ q
            · exact h8
        · exact h6 i (by omega)
/-- how many ways go on behind -/
def wbh (cs : Nat → Int → Int) (mc : Nat) (W : Nat → Int) (j : Nat) : Int := if mc ≤ j then 1 else ((if cs (2 * j - 1) 3 = -1 then 0 else 1) + (if cs (2 * j - 1) 4 = -1 then 0 else 1)) * W j
def sumL (v : Nat → Int) : Nat → Int
  | 0 => 0
  | l + 1 => sumL v l + v l
theorem sumL_congr {v w : Nat → Int} : ∀ l, (∀ i, i < l → v i = w i) → sumL v l = sumL w l := by
  intro l
  induction l with
  | zero => intro _; rfl
  | succ l ih =>
    intro h
    unfold sumL
    rw [ih (fun i hi => h i (by omega)), h l (by omega)]
theorem sumL_b {v : Nat → Int} {M : Int} (h : ∀ i, 0 ≤ v i ∧ v i ≤ M) : ∀ l, 0 ≤ sumL v l ∧ sumL v l ≤ l * M := by
  intro l
  induction l with
  | zero => exact ⟨Int.le_refl _, by simp [sumL]⟩
  | succ l ih =>
    have := h l
    have e : ((l + 1 : Nat) : Int) * M = l * M + M := by rw [show ((l + 1 : Nat) : Int) = (l : Int) + 1 by omega, Int.add_mul, Int.one_mul]
    unfold sumL
    omega

