/-! ===== matrices of distances, made less through one place after the other (plain mathematics) ===== -/
abbrev kMat : Type := Nat → Nat → Int
def relax (m : kMat) (i j k : Nat) : kMat := fun a b => if a = i ∧ b = j then min (m i j) (m i k + m k j) else m a b
def tw (n k : Nat) (m : kMat) : Nat → kMat
  | 0 => m
  | p + 1 => relax (tw n k m p) (p / n) (p % n) k
theorem pos_iff {n a b p : Nat} (hb : b < n) : (a = p / n ∧ b = p % n) ↔ a * n + b = p := by
  constructor
  · rintro ⟨rfl, rfl⟩
    rw [Nat.mul_comm]; exact Nat.div_add_mod p n
  · intro h
    subst h
    refine ⟨?_, ?_⟩
    · rw [Nat.mul_comm, Nat.mul_add_div (by omega), Nat.div_eq_of_lt hb]; omega
    · rw [Nat.mul_comm, Nat.mul_add_mod, Nat.mod_eq_of_lt hb]
theorem tw_succ {n k : Nat} {m : kMat} {p a b : Nat} (hb : b < n) : tw n k m (p + 1) a b = if a * n + b = p then min (tw n k m p a b) (tw n k m p a k + tw n k m p k b) else tw n k m p a b := by
  show relax (tw n k m p) (p / n) (p % n) k a b = _
  unfold relax
  by_cases h : a * n + b = p
  · have h2 := (pos_iff hb).mpr h
    rw [if_pos h2, if_pos h, h2.1, h2.2]
  · rw [if_neg h, if_neg (fun q => h ((pos_iff hb).mp q))]
theorem tw_le {n k : Nat} {m : kMat} {a b : Nat} (hb : b < n) : ∀ p, tw n k m p a b ≤ m a b := by
  intro p
  induction p with
  | zero => exact Int.le_refl _
  | succ p ih =>
    rw [tw_succ hb]
    split <;> omega
theorem pos_ne {n a b c d : Nat} (hb : b < n) (hd : d < n) (h : ¬ (a = c ∧ b = d)) : a * n + b ≠ c * n + d := by
  intro e
  have h1 := (pos_iff (a := a) (p := c * n + d) hb).mpr e
  have h2 := (pos_iff (a := c) (p := c * n + d) hd).mpr rfl
  exact h ⟨h1.1.trans h2.1.symm, h1.2.trans h2.2.symm⟩
/-- how low the entries can come in one pass -/
theorem tw_low {n k : Nat} {m : kMat} {B : Int} (hk : k < n) (hB : 0 ≤ B) (hm : ∀ a b, a < n → b < n → -B ≤ m a b) : ∀ (p a b : Nat), a < n → b < n → (p ≤ a * n + b → tw n k m p a b = m a b) ∧ -6 * B ≤ tw n k m p a b ∧ ((a = k ∨ b = k) → -3 * B ≤ tw n k m p a b) ∧ (a = k ∧ b = k → -2 * B ≤ tw n k m p a b) := by
  intro p
  induction p with
  | zero =>
    intro a b ha hb
    have := hm a b ha hb
    have e : tw n k m 0 a b = m a b := rfl
    rw [e]
    refine ⟨fun _ => rfl, by omega, fun _ => by omega, fun _ => by omega⟩
  | succ p ih =>
    intro a b ha hb
    obtain ⟨h1, h2, h3, h4⟩ := ih a b ha hb
    rw [tw_succ hb]
    by_cases e : a * n + b = p
    · rw [if_pos e]
      obtain ⟨g1, g2, g3, g4⟩ := ih a k ha hk
      obtain ⟨f1, f2, f3, f4⟩ := ih k b hk hb
      have h0 := h1 (by omega)
      have hmab := hm a b ha hb
      refine ⟨fun q => by omega, ?_, ?_, ?_⟩
      · have := g3 (Or.inr rfl); have := f3 (Or.inl rfl); omega
      · rintro (rfl | rfl)
        · have := g4 ⟨rfl, rfl⟩
          omega
        · have := f4 ⟨rfl, rfl⟩
          omega
      · rintro ⟨rfl, rfl⟩
        omega
    · rw [if_neg e]
      exact ⟨fun q => h1 (by omega), h2, h3, h4⟩
theorem tw_eq {n k : Nat} {m : kMat} (hk : k < n) (hm : 0 ≤ m k k) : ∀ (p a b : Nat), a < n → b < n → tw n k m p a b = if a * n + b < p then min (m a b) (m a k + m k b) else m a b := by
  intro p
  induction p with
  | zero => intro a b ha hb; rw [if_neg (by omega)]; rfl
  | succ p ih =>
    intro a b ha hb
    rw [tw_succ hb]
    by_cases e : a * n + b = p
    · rw [if_pos e, if_pos (by omega)]
      have h1 := ih a b ha hb
      have h2 := ih a k ha hk
      have h3 := ih k b hk hb
      rw [if_neg (by omega)] at h1
      have h4 : tw n k m p a k = m a k := by rw [h2]; split <;> omega
      have h5 : tw n k m p k b = m k b := by rw [h3]; split <;> omega
      rw [h1, h4, h5]
    · rw [if_neg e, ih a b ha hb]
      by_cases q : a * n + b < p
      · rw [if_pos q, if_pos (by omega)]
      · rw [if_neg q, if_neg (by omega)]
theorem pos_lt {n a b : Nat} (ha : a < n) (hb : b < n) : a * n + b < n * n := by
  have : (a + 1) * n ≤ n * n := Nat.mul_le_mul_right n ha
  rw [Nat.add_mul] at this
  omega
def fw (n : Nat) (m : kMat) : Nat → kMat
  | 0 => m
  | k + 1 => tw n k (fw n m k) (n * n)
theorem fw_le {n : Nat} {m : kMat} {a b : Nat} (hb : b < n) : ∀ k d, fw n m (k + d) a b ≤ fw n m k a b := by
  intro k d
  induction d with
  | zero => exact Int.le_refl _
  | succ d ih => exact Int.le_trans (tw_le hb (n * n)) ih
theorem fw_low {n : Nat} {m : kMat} {B : Int} (hB : 0 ≤ B) (hm : ∀ a b, a < n → b < n → -B ≤ m a b) : ∀ k, k ≤ n → ∀ a b, a < n → b < n → -(6 ^ k * B) ≤ fw n m k a b := by
  intro k
  induction k with
  | zero => intro _ a b ha hb; rw [Int.pow_zero, Int.one_mul]; exact hm a b ha hb
  | succ k ih =>
    intro hk a b ha hb
    have h := (tw_low (n := n) (k := k) (B := 6 ^ k * B) (by omega) (Int.mul_nonneg (Int.le_of_lt (Int.pow_pos (by decide))) hB) (ih (by omega)) (n * n) a b ha hb).2.1
    have e : (6 : Int) ^ (k + 1) * B = 6 * (6 ^ k * B) := by rw [Int.pow_succ, Int.mul_comm ((6 : Int) ^ k) 6, Int.mul_assoc]
    rw [e]
    show _ ≤ tw n k (fw n m k) (n * n) a b
    omega
/-- no entry can be made less through a place below k -/
def shut (n k : Nat) (m : kMat) : Prop := ∀ j a b, j < k → j < n → a < n → b < n → m a b ≤ m a j + m j b
theorem fw_shut {n : Nat} {m : kMat} : ∀ k, k ≤ n → (∀ a, a < n → 0 ≤ fw n m k a a) → shut n k (fw n m k) := by
  intro k
  induction k with
  | zero => intro _ _ j a b hj; omega
  | succ k ih =>
    intro hk hd
    have hd0 : ∀ a, a < n → 0 ≤ fw n m k a a := fun a ha => Int.le_trans (hd a ha) (fw_le ha k 1)
    have hs := ih (by omega) hd0
    have hkk := hd0 k (by omega)
    have e : ∀ a b, a < n → b < n → fw n m (k + 1) a b = min (fw n m k a b) (fw n m k a k + fw n m k k b) := by
      intro a b ha hb
      show tw n k (fw n m k) (n * n) a b = _
      rw [tw_eq (by omega) hkk _ _ _ ha hb, if_pos (pos_lt ha hb)]
    intro j a b hj hjn ha hb
    rw [e a b ha hb, e a j ha hjn, e j b hjn hb]
    by_cases q : j = k
    · subst q
      omega
    · have h1 := hs j a b (by omega) hjn ha hb
      have h2 := hs j a k (by omega) hjn ha (by omega)
      have h3 := hs j k b (by omega) hjn (by omega) hb
      have h4 := hs j k k (by omega) hjn (by omega) (by omega)
      omega
/-- what lies below the start and can't be made less lies below the end -/
theorem fw_great {n : Nat} {m e : kMat} (he : ∀ a b, a < n → b < n → e a b ≤ m a b) (ht : ∀ j a b, j < n → a < n → b < n → e a b ≤ e a j + e j b) : ∀ k, k ≤ n → ∀ a b, a < n → b < n → e a b ≤ fw n m k a b := by
  intro k
  induction k with
  | zero => intro _ a b ha hb; exact he a b ha hb
  | succ k ih =>
    intro hk
    have key : ∀ p a b, a < n → b < n → e a b ≤ tw n k (fw n m k) p a b := by
      intro p
      induction p with
      | zero => intro a b ha hb; exact ih (by omega) a b ha hb
      | succ p ihp =>
        intro a b ha hb
        rw [tw_succ hb]
        have h1 := ihp a b ha hb
        have h2 := ihp a k ha (by omega)
        have h3 := ihp k b (by omega) hb
        have h4 := ht k a b (by omega) ha hb
        split <;> omega
    intro a b ha hb
    exact key (n * n) a b ha hb
theorem tw_congr {n k : Nat} {m m' : kMat} (hk : k < n) (h : ∀ a b, a < n → b < n → m a b = m' a b) : ∀ p a b, a < n → b < n → tw n k m p a b = tw n k m' p a b := by
  intro p
  induction p with
  | zero => exact h
  | succ p ih =>
    intro a b ha hb
    rw [tw_succ hb, tw_succ hb, ih a b ha hb, ih a k ha hk, ih k b hk hb]
theorem fw_congr {n : Nat} {m m' : kMat} (h : ∀ a b, a < n → b < n → m a b = m' a b) : ∀ k, k ≤ n → ∀ a b, a < n → b < n → fw n m k a b = fw n m' k a b := by
  intro k
  induction k with
  | zero => intro _; exact h
  | succ k ih => intro hk; exact tw_congr (by omega) (ih (by omega)) (n * n)
/-- bounds told by facts -/
def bfm (one oth : Nat → Nat) (w : Nat → Int) (m : kMat) : Nat → kMat
  | 0 => m
  | f + 1 => fun a b => if a = one f ∧ b = oth f then min (bfm one oth w m f a b) (w f) else bfm one oth w m f a b
theorem bfm_low {one oth : Nat → Nat} {w : Nat → Int} {m : kMat} {n : Nat} {B : Int} (hm : ∀ a b, a < n → b < n → -B ≤ m a b) (hw : ∀ f, -B ≤ w f) : ∀ f a b, a < n → b < n → -B ≤ bfm one oth w m f a b := by
  intro f
  induction f with
  | zero => exact hm
  | succ f ih =>
    intro a b ha hb
    have := ih a b ha hb
    have := hw f
    show -B ≤ if a = one f ∧ b = oth f then min (bfm one oth w m f a b) (w f) else bfm one oth w m f a b
    split <;> omega
theorem bfm_le {one oth : Nat → Nat} {w : Nat → Int} {m : kMat} : ∀ f a b, bfm one oth w m f a b ≤ m a b := by
  intro f
  induction f with
  | zero => intro a b; exact Int.le_refl _
  | succ f ih =>
    intro a b
    have := ih a b
    show (if a = one f ∧ b = oth f then min (bfm one oth w m f a b) (w f) else bfm one oth w m f a b) ≤ _
    split <;> omega
theorem bfm_congr {one oth : Nat → Nat} {w : Nat → Int} {m m' : kMat} {n : Nat} (h : ∀ a b, a < n → b < n → m a b = m' a b) : ∀ f a b, a < n → b < n → bfm one oth w m f a b = bfm one oth w m' f a b := by
  intro f
  induction f with
  | zero => exact h
  | succ f ih =>
    intro a b ha hb
    show (if a = one f ∧ b = oth f then min (bfm one oth w m f a b) (w f) else bfm one oth w m f a b) = if a = one f ∧ b = oth f then min (bfm one oth w m' f a b) (w f) else bfm one oth w m' f a b
    rw [ih a b ha hb]
theorem pow6 {k : Nat} (h : k ≤ 7) : 0 < (6 : Int) ^ k ∧ (6 : Int) ^ k ≤ 279936 := by
  rcases (show k = 0 ∨ k = 1 ∨ k = 2 ∨ k = 3 ∨ k = 4 ∨ k = 5 ∨ k = 6 ∨ k = 7 by omega) with rfl | rfl | rfl | rfl | rfl | rfl | rfl | rfl <;> decide
theorem pow6' {k : Nat} (h : k ≤ 5) : 0 < (6 : Int) ^ k ∧ (6 : Int) ^ k ≤ 7776 := by
  rcases (show k = 0 ∨ k = 1 ∨ k = 2 ∨ k = 3 ∨ k = 4 ∨ k = 5 by omega) with rfl | rfl | rfl | rfl | rfl | rfl <;> decide

