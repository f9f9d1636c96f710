/-! ===== numbers by their digits ===== -/
def pvF (B : Int) (f : Nat → Int) : Nat → Int
  | 0 => 0
  | n + 1 => pvF B f n + f n * B ^ n
theorem pvF_congr {B : Int} {f g : Nat → Int} : ∀ {n : Nat}, (∀ i, i < n → f i = g i) → pvF B f n = pvF B g n := by
  intro n
  induction n with
  | zero => intro _; rfl
  | succ n ih =>
    intro h
    show pvF B f n + f n * B ^ n = pvF B g n + g n * B ^ n
    rw [ih (fun i hi => h i (by omega)), h n (by omega)]
theorem pvF_b {B : Int} (hB : 0 < B) {f : Nat → Int} : ∀ {n : Nat}, (∀ i, i < n → 0 ≤ f i ∧ f i < B) → 0 ≤ pvF B f n ∧ pvF B f n < B ^ n := by
  intro n
  induction n with
  | zero => intro _; exact ⟨Int.le_refl _, by rw [Int.pow_zero]; show (0 : Int) < 1; decide⟩
  | succ n ih =>
    intro h
    have h1 := ih (fun i hi => h i (by omega))
    have h2 := h n (by omega)
    have hp : 0 < B ^ n := Int.pow_pos hB
    show 0 ≤ pvF B f n + f n * B ^ n ∧ pvF B f n + f n * B ^ n < B ^ (n + 1)
    have h3 : 0 ≤ f n * B ^ n := Int.mul_nonneg h2.1 (Int.le_of_lt hp)
    have h4 : (f n + 1) * B ^ n ≤ B * B ^ n := Int.mul_le_mul_of_nonneg_right (by omega) (Int.le_of_lt hp)
    rw [Int.add_mul, Int.one_mul] at h4
    rw [Int.pow_succ, Int.mul_comm (B ^ n) B]
    omega
theorem pvF_step {B d' c' d c f P x y : Int} (h1 : d' + c' * B = d * f + c) (h2 : x + c * P = f * y) : x + d' * P + c' * (P * B) = f * (y + d * P) := by
  have e1 : c' * (P * B) = c' * B * P := by rw [Int.mul_comm P B, Int.mul_assoc]
  have e2 : (d' + c' * B) * P = (d * f + c) * P := by rw [h1]
  rw [Int.add_mul, Int.add_mul] at e2
  have e3 : f * (y + d * P) = f * y + d * f * P := by rw [Int.mul_add, ← Int.mul_assoc, Int.mul_comm f d]
  rw [e1, e3]
  omega
theorem pvF_diff {B : Int} {f g : Nat → Int} {i : Nat} : ∀ {k : Nat}, (∀ j, i ≤ j → j < i + k → f j = g j) → pvF B f (i + k) - pvF B g (i + k) = pvF B f i - pvF B g i := by
  intro k
  induction k with
  | zero => intro _; rfl
  | succ k ih =>
    intro h
    have h1 := ih (fun j a b => h j a (by omega))
    have h2 := h (i + k) (by omega) (by omega)
    show pvF B f (i + k) + f (i + k) * B ^ (i + k) - (pvF B g (i + k) + g (i + k) * B ^ (i + k)) = _
    rw [h2]
    omega
/-- where two rows of digits are unlike highest, there they are told apart -/
theorem pvF_lt {B : Int} (hB : 0 < B) {f g : Nat → Int} {n i : Nat} (hi : i < n) (hf : ∀ j, j < n → 0 ≤ f j ∧ f j < B) (hg : ∀ j, j < n → 0 ≤ g j ∧ g j < B) (he : ∀ j, i < j → j < n → f j = g j) (h : f i < g i) : pvF B f n < pvF B g n := by
  have h1 := pvF_diff (B := B) (f := f) (g := g) (i := i + 1) (k := n - (i + 1)) (fun j a b => he j (by omega) (by omega))
  rw [show i + 1 + (n - (i + 1)) = n by omega] at h1
  have h2 := pvF_b hB (f := f) (n := i) (fun j a => hf j (by omega))
  have h3 := pvF_b hB (f := g) (n := i) (fun j a => hg j (by omega))
  have hp : 0 < B ^ i := Int.pow_pos hB
  have h4 : (f i + 1) * B ^ i ≤ g i * B ^ i := Int.mul_le_mul_of_nonneg_right (by omega) (Int.le_of_lt hp)
  rw [Int.add_mul, Int.one_mul] at h4
  have h5 : pvF B f (i + 1) = pvF B f i + f i * B ^ i := rfl
  have h6 : pvF B g (i + 1) = pvF B g i + g i * B ^ i := rfl
  omega

