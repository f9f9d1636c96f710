/-! ===== a text as a SAYING, and the kinds of its lengths (plain mathematics) ===== -/
def isLt (c : Int) : Prop := 97 ≤ c ∧ c ≤ 122
def isSay (n : Nat) (t : Nat → Int) : Prop := 0 < n ∧ ∀ i, i < n → isLt (t i) ∨ (t i = 32 ∧ 0 < i ∧ i + 1 < n ∧ isLt (t (i - 1)))
/-- the kinds of a letter's lengths: of n marks the first j, with the gaps between -/
def letK (kd : Nat → Int) : Nat → List Int
  | 0 => []
  | j + 1 => letK kd j ++ (if j = 0 then [kd j] else [2, kd j])
theorem letK_len {kd : Nat → Int} : ∀ j, (letK kd j).length = 2 * j - 1 := by
  intro j
  induction j with
  | zero => rfl
  | succ j ih =>
    unfold letK
    rw [List.length_append, ih]
    by_cases h : j = 0
    · rw [if_pos h]; simp [h]
    · rw [if_neg h]; simp; omega
/-- the kinds of what the first p places of a text say; none, where a letter has no marks -/
def spK (t : Nat → Int) (sz : Int → Nat) (kd : Int → Nat → Int) : Nat → Option (List Int)
  | 0 => some []
  | p + 1 => match spK t sz kd p with
    | none => none
    | some ks => if t p = 32 then some ks else if sz (t p - 97) = 0 then none else
      some (ks ++ ((if p = 0 then [] else [if t (p - 1) = 32 then 4 else 3]) ++ letK (kd (t p - 97)) (sz (t p - 97))))
theorem spK_mono {t : Nat → Int} {sz : Int → Nat} {kd : Int → Nat → Int} {p : Nat} {ks : List Int} (h : spK t sz kd p = some ks) : ∀ d ks', spK t sz kd (p + d) = some ks' → ks.length ≤ ks'.length := by
  intro d
  induction d with
  | zero => intro ks' h'; rw [Nat.add_zero, h] at h'; cases h'; exact Nat.le_refl _
  | succ d ih =>
    intro ks' h'
    rw [show p + (d + 1) = p + d + 1 by omega] at h'
    unfold spK at h'
    cases hq : spK t sz kd (p + d) with
    | none => rw [hq] at h'; cases h'
    | some k1 =>
      rw [hq] at h'
      have h1 := ih k1 hq
      dsimp only at h'
      split at h'
      · cases h'; exact h1
      · split at h'
        · cases h'
        · cases h'
          rw [List.length_append]
          omega
theorem spK_none {t : Nat → Int} {sz : Int → Nat} {kd : Int → Nat → Int} {p : Nat} (h : spK t sz kd p = none) : ∀ d, spK t sz kd (p + d) = none := by
  intro d
  induction d with
  | zero => exact h
  | succ d ih =>
    rw [show p + (d + 1) = p + d + 1 by omega]
    unfold spK
    rw [ih]
/-! the drawn lengths, and what comes through -/
def lcg (x : Int) : Int := (x * 1103515245 + 12345) % 2147483648
def lcgN (s : Int) : Nat → Int
  | 0 => s
  | i + 1 => lcg (lcgN s i)
theorem lcg_b (x : Int) : 0 ≤ lcg x ∧ lcg x < 2147483648 := ⟨Int.emod_nonneg _ (by decide), Int.emod_lt_of_pos _ (by decide)⟩
theorem lcgN_b {s : Int} (h : 0 ≤ s ∧ s < 2147483648) : ∀ i, 0 ≤ lcgN s i ∧ lcgN s i < 2147483648 := by
  intro i
  cases i with
  | zero => exact h
  | succ i => exact lcg_b _
def sendF (b : Int) (d : Nat → Int) : Nat → List Int × Int
  | 0 => ([], 0)
  | i + 1 => if i % 2 = 1 ∨ d i ≤ b then ((sendF b d i).1, (sendF b d i).2 + d i)
    else ((sendF b d i).1 ++ ((if (sendF b d i).1 = [] then [] else [min ((sendF b d i).2 + b) 999]) ++ [d i - b]), 0)
theorem sendF_len {b : Int} {d : Nat → Int} : ∀ i, (sendF b d i).1.length ≤ i ∧ ((sendF b d i).1 = [] ∨ (sendF b d i).1.length % 2 = 1) := by
  intro i
  induction i with
  | zero => exact ⟨Nat.le_refl _, Or.inl rfl⟩
  | succ i ih =>
    unfold sendF
    split
    · exact ⟨by have := ih.1; dsimp only; omega, ih.2⟩
    · dsimp only
      rcases ih.2 with h | h
      · rw [h, if_pos rfl]
        exact ⟨by simp, Or.inr rfl⟩
      · have hne : ¬ (sendF b d i).1 = [] := by intro q; rw [q] at h; cases h
        rw [if_neg hne, List.length_append]
        have e : ([min ((sendF b d i).2 + b) 999] ++ [d i - b]).length = 2 := rfl
        rw [e]
        refine ⟨by have := ih.1; omega, Or.inr (by omega)⟩
theorem sendF_gap {b : Int} {d : Nat → Int} {M : Int} (hM : 0 ≤ M) : ∀ i, (∀ j, j < i → 0 ≤ d j ∧ d j ≤ M) → 0 ≤ (sendF b d i).2 ∧ (sendF b d i).2 ≤ i * M := by
  intro i
  induction i with
  | zero => intro _; exact ⟨Int.le_refl _, by simp [sendF]⟩
  | succ i ih =>
    intro hd
    have h1 := ih (fun j hj => hd j (by omega))
    have h2 := hd i (by omega)
    have h3 : ((i + 1 : Nat) : Int) * M = i * M + M := by rw [show ((i + 1 : Nat) : Int) = (i : Int) + 1 by omega, Int.add_mul, Int.one_mul]
    have h4 : 0 ≤ (i : Int) * M := Int.mul_nonneg (by omega) hM
    unfold sendF
    split <;> dsimp only <;> omega
theorem k64_256 : (256 : Int64).toInt = 256 := by decide +kernel
theorem k64_m : (1103515245 : Int64).toInt = 1103515245 := by decide +kernel
theorem k64_a : (12345 : Int64).toInt = 12345 := by decide +kernel
theorem lcg_step {x : Int64} {q : Int} (hx : x.toInt = q) (h0 : 0 ≤ q ∧ q < 2147483648) : ((x * 1103515245 + 12345) &&& 2147483647).toInt = lcg q := by
  have m1 : (x * 1103515245).toInt = q * 1103515245 := by rw [tl_mul (by rw [k64_m, hx]; omega), k64_m, hx]
  have m2 : (x * 1103515245 + 12345).toInt = q * 1103515245 + 12345 := by rw [tl_add (by rw [m1, k64_a]; omega), m1, k64_a]
  rw [tl_and31 (by rw [m2]; omega), m2]
  rfl
theorem draw_num {X : Int64} {q c le : Int} {cI lI : Int32} (hX : X.toInt = q) (hq : 0 ≤ q) (hc : cI.toInt = c) (hc1 : 1 ≤ c ∧ c ≤ 256) (hl : lI.toInt = le) (hl1 : 0 ≤ le ∧ le ≤ 255) : (lI + (kremL (X / 256) cI.toInt64).toInt32).toInt = le + q / 256 % c := by
  have m4 : (X / 256).toInt = q / 256 := by rw [tl_div (by rw [hX]; exact hq) (by rw [k64_256]; decide), hX, k64_256]
  have hq2 : 0 ≤ q / 256 := Int.ediv_nonneg hq (by decide)
  have hm := Int.emod_nonneg (q / 256) (b := c) (by omega)
  have hm2 := Int.emod_lt_of_pos (q / 256) (b := c) (by omega)
  have m7 : (kremL (X / 256) cI.toInt64).toInt = q / 256 % c := by
    rw [tl_rem (by rw [m4]; exact hq2) (by rw [tl_i2l, hc]; omega), m4, tl_i2l, hc]
  have m6 : (kremL (X / 256) cI.toInt64).toInt32.toInt = q / 256 % c := by rw [tl_l2i (by rw [m7]; omega), m7]
  rw [ti_add (by rw [hl, m6]; omega), hl, m6]

