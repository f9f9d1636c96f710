/-! ===== a text as a SAYING, and the kinds of its lengths (plain mathematics) ===== -/
def isLt (c : Int) : Prop := 97 ≤ c ∧ c ≤ 122
def isSay (n : Nat) (t : Nat → Int) : Prop := 0 < n ∧ ∀ i, i < n → isLt (t i) ∨ (t i = 32 ∧ 0 < i ∧ i + 1 < n ∧ isLt (t (i - 1)))
/-- the kinds of a letter's lengths: of n marks the first j, with the gaps between -/
def letK (kd : Nat → Int) : Nat → List Int
  | 0 => []
  | j + 1 => letK kd j ++ (if j = 0 then [kd j] else [2, kd j])
theorem letK_len {kd : Nat → Int} : ∀ j, (letK kd j).length = 2 * j - 1 := by
  intro j
  induction j with
  | zero => rfl
  | succ j ih =>
    unfold letK
    rw [List.length_append, ih]
    by_cases h : j = 0
    · rw [if_pos h]; simp [h]
    · rw [if_neg h]; simp; omega
/-- the kinds of what the first p places of a text say; none, where a letter has no marks -/
def spK (t : Nat → Int) (sz : Int → Nat) (kd : Int → Nat → Int) : Nat → Option (List Int)
  | 0 => some []
  | p + 1 => match spK t sz kd p with
    | none => none
    | some ks => if t p = 32 then some ks else if sz (t p - 97) = 0 then none else
      some (ks ++ ((if p = 0 then [] else [if t (p - 1) = 32 then 4 else 3]) ++ letK (kd (t p - 97)) (sz (t p - 97))))
theorem spK_mono {t : Nat → Int} {sz : Int → Nat} {kd : Int → Nat → Int} {p : Nat} {ks : List Int} (h : spK t sz kd p = some ks) : ∀ d ks', spK t sz kd (p + d) = some ks' → ks.length ≤ ks'.length := by
  intro d
  induction d with
  | zero => intro ks' h'; rw [Nat.add_zero, h] at h'; cases h'; exact Nat.le_refl _
  | succ d ih =>
    intro ks' h'
    rw [show p + (d + 1) = p + d + 1 by omega] at h'
    unfold spK at h'
    cases hq : spK t sz kd (p + d) with
    | none => rw [hq] at h'; cases h'
    | some k1 =>
      rw [hq] at h'
      have h1 := ih k1 hq
      dsimp only at h'
      split at h'
      · cases h'; exact h1
      · split at h'
        · cases h'
        · cases h'
          rw [List.length_append]
          omega
theorem spK_none {t : Nat → Int} {sz : Int → Nat} {kd : Int → Nat → Int} {p : Nat} (h : spK t sz kd p = none) : ∀ d, spK t sz kd (p + d) = none := by
  intro d
  induction d with
  | zero => exact h
  | succ d ih =>
    rw [show p + (d + 1) = p + d + 1 by omega]
    unfold spK
    rw [ih]

