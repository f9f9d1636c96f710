/-! ===== texts as CODES (plain mathematics) ===== -/
def ckF (c : Int) : Nat := if 97 ≤ c ∧ c ≤ 122 then 1 else if 48 ≤ c ∧ c ≤ 57 then 2 else if c = 59 then 3 else 4
def kdF (t : Nat → Int) (n i : Nat) : Nat := if i < n then ckF (t i) else 0
theorem ckF_1 {c : Int} : ckF c = 1 ↔ 97 ≤ c ∧ c ≤ 122 := by
  unfold ckF
  split
  · exact ⟨fun _ => by assumption, fun _ => rfl⟩
  · split
    · exact ⟨fun q => absurd q (by decide), fun q => absurd q (by assumption)⟩
    · split
      · exact ⟨fun q => absurd q (by decide), fun q => absurd q (by assumption)⟩
      · exact ⟨fun q => absurd q (by decide), fun q => absurd q (by assumption)⟩
theorem ckF_2 {c : Int} : ckF c = 2 ↔ 48 ≤ c ∧ c ≤ 57 := by
  unfold ckF
  split
  · exact ⟨fun q => absurd q (by decide), fun q => by omega⟩
  · split
    · exact ⟨fun _ => by assumption, fun _ => rfl⟩
    · split
      · exact ⟨fun q => absurd q (by decide), fun q => absurd q (by assumption)⟩
      · exact ⟨fun q => absurd q (by decide), fun q => absurd q (by assumption)⟩
theorem ckF_3 {c : Int} : ckF c = 3 ↔ c = 59 := by
  unfold ckF
  split
  · exact ⟨fun q => absurd q (by decide), fun q => by omega⟩
  · split
    · exact ⟨fun q => absurd q (by decide), fun q => by omega⟩
    · split
      · exact ⟨fun _ => by assumption, fun _ => rfl⟩
      · exact ⟨fun q => absurd q (by decide), fun q => absurd q (by assumption)⟩
theorem ckF_b (c : Int) : 1 ≤ ckF c ∧ ckF c ≤ 4 := by
  unfold ckF
  split
  · decide
  · split
    · decide
    · split <;> decide
theorem kdF_lt {t : Nat → Int} {n i : Nat} (h : i < n) : kdF t n i = ckF (t i) := if_pos h
theorem kdF_no {t : Nat → Int} {n i : Nat} (h : ¬ i < n) : kdF t n i = 0 := if_neg h
theorem kdF_pos {t : Nat → Int} {n i k : Nat} (h : kdF t n i = k) (hk : 0 < k) : i < n ∧ ckF (t i) = k := by
  by_cases q : i < n
  · rw [kdF_lt q] at h; exact ⟨q, h⟩
  · rw [kdF_no q] at h; omega
theorem kdF_b (t : Nat → Int) (n i : Nat) : kdF t n i ≤ 4 := by
  unfold kdF
  split
  · exact (ckF_b _).2
  · decide
/-- the next place that is no blank and no line end -/
noncomputable def skF (t : Nat → Int) (n i : Nat) : Nat := i + lstF (fun k => ¬ (t (i + k) = 32 ∨ t (i + k) = 10)) (n - i)
theorem skF_b {t : Nat → Int} {n i : Nat} (h : i ≤ n) : i ≤ skF t n i ∧ skF t n i ≤ n := by
  unfold skF
  rcases lstF_spec (fun k => ¬ (t (i + k) = 32 ∨ t (i + k) = 10)) (n - i) with ⟨h1, -⟩ | ⟨h1, -⟩ <;> omega
theorem skF_is {t : Nat → Int} {n i j : Nat} (h1 : i ≤ j) (h2 : j ≤ n) (h3 : ∀ k, i ≤ k → k < j → t k = 32 ∨ t k = 10) (h4 : j = n ∨ ¬ (t j = 32 ∨ t j = 10)) : skF t n i = j := by
  unfold skF
  by_cases e : j = n
  · subst e
    rw [lstF_no (fun k hk z => z (h3 (i + k) (by omega) (by omega)))]
    omega
  · have h4 := h4.resolve_left e
    rw [lstF_is (j := j - i) (by omega) (by show ¬ (t (i + (j - i)) = 32 ∨ t (i + (j - i)) = 10); rw [show i + (j - i) = j by omega]; exact h4) (fun k hk z => z (h3 (i + k) (by omega) (by omega)))]
    omega
/-- the end of the TOKEN that begins at a place -/
noncomputable def teF (t : Nat → Int) (n j : Nat) : Nat := if n ≤ j then j else if ckF (t j) = 1 ∨ ckF (t j) = 2 then j + lstF (fun k => ¬ ckF (t (j + k)) = ckF (t j)) (n - j) else j + 1
theorem teF_hi {t : Nat → Int} {n j : Nat} (h : n ≤ j) : teF t n j = j := if_pos h
theorem teF_one {t : Nat → Int} {n j : Nat} (h : j < n) (h2 : ¬ (ckF (t j) = 1 ∨ ckF (t j) = 2)) : teF t n j = j + 1 := by
  unfold teF
  rw [if_neg (by omega), if_neg h2]
theorem teF_run {t : Nat → Int} {n j : Nat} (h : j < n) (h2 : ckF (t j) = 1 ∨ ckF (t j) = 2) : teF t n j = j + lstF (fun k => ¬ ckF (t (j + k)) = ckF (t j)) (n - j) := by
  unfold teF
  rw [if_neg (by omega), if_pos h2]
theorem teF_b {t : Nat → Int} {n j : Nat} (h : j ≤ n) : j ≤ teF t n j ∧ teF t n j ≤ n ∧ (j < n → j < teF t n j) := by
  by_cases h1 : j < n
  · by_cases h2 : ckF (t j) = 1 ∨ ckF (t j) = 2
    · rw [teF_run h1 h2]
      rcases lstF_spec (fun k => ¬ ckF (t (j + k)) = ckF (t j)) (n - j) with ⟨q1, q2⟩ | ⟨q1, q2, q3⟩
      · omega
      · have : lstF (fun k => ¬ ckF (t (j + k)) = ckF (t j)) (n - j) ≠ 0 := by
          intro e
          rw [e] at q2
          exact q2 rfl
        omega
    · rw [teF_one h1 h2]
      omega
  · rw [teF_hi (by omega)]
    omega
theorem teF_is {t : Nat → Int} {n j e : Nat} (h : j < e) (he : e ≤ n) (hc : ckF (t j) = 1 ∨ ckF (t j) = 2) (h3 : ∀ k, j ≤ k → k < e → ckF (t k) = ckF (t j)) (h4 : e = n ∨ ¬ ckF (t e) = ckF (t j)) : teF t n j = e := by
  rw [teF_run (by omega) hc]
  by_cases q : e = n
  · subst q
    rw [lstF_no (fun k hk z => z (h3 (j + k) (by omega) (by omega)))]
    omega
  · have h4 := h4.resolve_left q
    rw [lstF_is (j := e - j) (by omega) (by show ¬ ckF (t (j + (e - j))) = ckF (t j); rw [show j + (e - j) = e by omega]; exact h4) (fun k hk z => z (h3 (j + k) (by omega) (by omega)))]
    omega
theorem teF_in {t : Nat → Int} {n j k : Nat} (h : j < n) (hc : ckF (t j) = 1 ∨ ckF (t j) = 2) (h1 : j ≤ k) (h2 : k < teF t n j) : ckF (t k) = ckF (t j) := by
  rw [teF_run h hc] at h2
  refine Classical.byContradiction (fun z => ?_)
  rcases lstF_spec (fun k => ¬ ckF (t (j + k)) = ckF (t j)) (n - j) with ⟨q1, q2⟩ | ⟨q1, q2, q3⟩
  · exact q2 (k - j) (by omega) (by show ¬ ckF (t (j + (k - j))) = ckF (t j); rw [show j + (k - j) = k by omega]; exact z)
  · exact q3 (k - j) (by omega) (by show ¬ ckF (t (j + (k - j))) = ckF (t j); rw [show j + (k - j) = k by omega]; exact z)
/-- where the next TOKEN begins -/
noncomputable def nxF (t : Nat → Int) (n j : Nat) : Nat := skF t n (teF t n j)
theorem nxF_b {t : Nat → Int} {n j : Nat} (h : j ≤ n) : j ≤ nxF t n j ∧ nxF t n j ≤ n ∧ (j < n → j < nxF t n j) := by
  have h1 := teF_b (t := t) h
  have h2 := skF_b (t := t) (i := teF t n j) h1.2.1
  unfold nxF
  omega
noncomputable def tkL (t : Nat → Int) (s e : Nat) : List Int := (List.range (e - s)).map (fun i => t (s + i))
theorem tkL_len {t : Nat → Int} {s e : Nat} : (tkL t s e).length = e - s := by simp [tkL]
theorem tkL_get {t : Nat → Int} {s e i : Nat} (h : i < (tkL t s e).length) : (tkL t s e)[i] = t (s + i) := by simp [tkL]
theorem tkL_eq {t : Nat → Int} {s e : Nat} {L : List Int} : L = tkL t s e ↔ L.length = e - s ∧ ∀ i (h : i < L.length), L[i] = t (s + i) := by
  constructor
  · intro h
    subst h
    exact ⟨tkL_len, fun i h => tkL_get h⟩
  · rintro ⟨h1, h2⟩
    refine List.ext_getElem (by rw [h1, tkL_len]) (fun i a b => ?_)
    rw [h2 i a, tkL_get]
/-- the TOKEN at a place is one of the three words -/
def isW (t : Nat → Int) (n j i : Nat) : Prop := kdF t n j = 1 ∧ teF t n j - j = klen.getD i 0 ∧ ∀ p, p < klen.getD i 0 → t (j + p) = ((kbyt.getD i []).getD p 0).toInt
def numF (t : Nat → Int) (j : Nat) : Nat → Int
  | 0 => 0
  | k + 1 => numF t j k * 10 + (t (j + k) - 48)
def mkOk (t : Nat → Int) (n j : Nat) : Prop := kdF t n j = 2 ∧ teF t n j - j ≤ 5 ∧ ∀ i, j ≤ i → i < teF t n j → t i = 49 ∨ t i = 50
noncomputable def mkV (t : Nat → Int) (n j : Nat) : Int := @ite _ (mkOk t n j) (Classical.propDecidable _) (numF t j (teF t n j - j)) (-1)
theorem numF_b {t : Nat → Int} {j : Nat} : ∀ k, (∀ i, i < k → t (j + i) = 49 ∨ t (j + i) = 50) → (10 : Int) ^ k - 1 ≤ 9 * numF t j k ∧ 9 * numF t j k ≤ 2 * ((10 : Int) ^ k - 1) := by
  intro k
  induction k with
  | zero =>
    intro _
    show (10 : Int) ^ 0 - 1 ≤ 9 * 0 ∧ 9 * 0 ≤ 2 * ((10 : Int) ^ 0 - 1)
    decide
  | succ k ih =>
    intro h
    have h1 := ih (fun i hi => h i (by omega))
    have h2 := h k (by omega)
    have e : numF t j (k + 1) = numF t j k * 10 + (t (j + k) - 48) := rfl
    rw [e, Int.pow_succ]
    omega
theorem pow10 {k : Nat} (h : k ≤ 5) : 1 ≤ (10 : Int) ^ k ∧ (10 : Int) ^ k ≤ 100000 := by
  rcases (show k = 0 ∨ k = 1 ∨ k = 2 ∨ k = 3 ∨ k = 4 ∨ k = 5 by omega) with rfl | rfl | rfl | rfl | rfl | rfl <;> decide
theorem numF_5 {t : Nat → Int} {j k : Nat} (hk : k ≤ 5) (h : ∀ i, i < k → t (j + i) = 49 ∨ t (j + i) = 50) : 0 ≤ numF t j k ∧ numF t j k ≤ 22222 ∧ (0 < k → 0 < numF t j k) := by
  have h1 := numF_b k h
  have h2 := pow10 hk
  have h3 : 0 < k → 10 ≤ (10 : Int) ^ k := by
    intro q
    rcases (show k = 1 ∨ k = 2 ∨ k = 3 ∨ k = 4 ∨ k = 5 by omega) with rfl | rfl | rfl | rfl | rfl <;> decide
  refine ⟨by omega, by omega, fun q => ?_⟩
  have := h3 q
  omega
/-- MARKS, or nothing -/
def mdOk (m : Int) : Prop := 0 ≤ m ∧ m ≤ 22222 ∧ ∀ j, j < dnF 5 m → m / 10 ^ j % 10 = 1 ∨ m / 10 ^ j % 10 = 2
theorem dnF_zero {f : Nat} {m : Int} (h : m ≤ 0) : dnF f m = 0 := by
  cases f with
  | zero => rfl
  | succ f => unfold dnF; rw [if_neg (by omega)]
theorem mdOk_zero : mdOk 0 := ⟨by decide, by decide, fun j h => by rw [dnF_zero (by decide)] at h; omega⟩
theorem dnF_pos {m : Int} : 0 < dnF 5 m ↔ 0 < m := by
  constructor
  · intro h
    rcases Int.lt_or_le 0 m with q | q
    · exact q
    · rw [dnF_zero q] at h; omega
  · intro h
    show 0 < if 0 < m then dnF 4 (m / 10) + 1 else 0
    rw [if_pos h]
    omega
theorem numF_dn {t : Nat → Int} {j : Nat} : ∀ k f, k ≤ f → (∀ i, i < k → t (j + i) = 49 ∨ t (j + i) = 50) → dnF f (numF t j k) = k ∧ ∀ p, p < k → numF t j k / 10 ^ p % 10 = 1 ∨ numF t j k / 10 ^ p % 10 = 2 := by
  intro k
  induction k with
  | zero => intro f _ _; exact ⟨dnF_zero (by show (0 : Int) ≤ 0; decide), fun p hp => by omega⟩
  | succ k ih =>
    intro f hf h
    obtain ⟨g, rfl⟩ : ∃ g, f = g + 1 := ⟨f - 1, by omega⟩
    have h1 := numF_b k (fun i hi => h i (by omega))
    have h0 : 0 ≤ numF t j k := by
      have := Int.pow_pos (n := 10) (m := k) (by decide)
      omega
    obtain ⟨h2, h3⟩ := ih g (by omega) (fun i hi => h i (by omega))
    have hd := h k (by omega)
    have e : numF t j (k + 1) = numF t j k * 10 + (t (j + k) - 48) := rfl
    have ed : numF t j (k + 1) / 10 = numF t j k := by rw [e]; omega
    refine ⟨?_, fun p hp => ?_⟩
    · show (if 0 < numF t j (k + 1) then dnF g (numF t j (k + 1) / 10) + 1 else 0) = k + 1
      rw [if_pos (by rw [e]; omega), ed, h2]
    · cases p with
      | zero =>
        rw [Int.pow_zero, Int.ediv_one, e]
        omega
      | succ p =>
        rw [Int.pow_succ, Int.mul_comm, ← Int.ediv_ediv_of_nonneg (by decide), ed]
        exact h3 p (by omega)
theorem numF_md {t : Nat → Int} {j k : Nat} (hk : k ≤ 5) (h : ∀ i, i < k → t (j + i) = 49 ∨ t (j + i) = 50) : mdOk (numF t j k) := by
  have h1 := numF_5 hk h
  have h2 := numF_dn k 5 hk h
  refine ⟨h1.1, h1.2.1, fun p hp => ?_⟩
  rw [h2.1] at hp
  exact h2.2 p hp
/-- what is told so far: MARKS, how many WORDS, GROUPS, NAMES -/
def kDr := (Nat → Int) × Nat × (Nat → Int) × (Nat → List Int)
def dM (d : kDr) : Nat → Int := d.1
def dW (d : kDr) : Nat := d.2.1
def dG (d : kDr) : Nat → Int := d.2.2.1
def dN (d : kDr) : Nat → List Int := d.2.2.2
noncomputable def dL (d : kDr) : Nat := cntF (fun l => 0 < dM d l) 26
def dOk (d : kDr) : Prop := dW d ≤ 20 ∧ (∀ l, mdOk (dM d l)) ∧ ∀ w, w < dW d → 0 ≤ dG d w ∧ dG d w < 17576
def dr0 : kDr := (fun _ => 0, 0, fun _ => 0, fun _ => [])
def drL (d : kDr) (l : Nat) (m : Int) : kDr := (fun i => if i = l then m else dM d i, dW d, dG d, dN d)
def drW (d : kDr) (g : Int) (L : List Int) : kDr := (dM d, dW d + 1, fun i => if i = dW d then g else dG d i, fun i => if i = dW d then L else dN d i)
theorem cntF_one {p q : Nat → Prop} {j : Nat} : ∀ n, j < n → ¬ p j → q j → (∀ i, i ≠ j → (q i ↔ p i)) → cntF q n = cntF p n + 1 := by
  intro n
  induction n with
  | zero => intro h; omega
  | succ n ih =>
    intro h hp hq he
    unfold cntF
    by_cases e : j = n
    · subst e
      have h1 : cntF q j = cntF p j := Nat.le_antisymm (cntF_mono j (fun i hi z => (he i (by omega)).mp z)) (cntF_mono j (fun i hi z => (he i (by omega)).mpr z))
      rw [if_neg hp, if_pos hq, h1]
    · have h1 := ih (by omega) hp hq he
      rw [h1]
      by_cases c : p n
      · rw [if_pos c, if_pos ((he n (by omega)).mpr c)]
      · rw [if_neg c, if_neg (fun z => c ((he n (by omega)).mp z))]
theorem cntF_zero {p : Nat → Prop} : ∀ n, (∀ i, i < n → ¬ p i) → cntF p n = 0 := by
  intro n
  induction n with
  | zero => intro _; rfl
  | succ n ih =>
    intro h
    unfold cntF
    rw [ih (fun i hi => h i (by omega)), if_neg (h n (by omega))]
theorem dr0_ok : dOk dr0 := ⟨by decide, fun _ => mdOk_zero, fun w h => absurd h (Nat.not_lt_zero _)⟩
theorem dL_le (d : kDr) : dL d ≤ 26 := cntF_le _ _
theorem drL_ok {d : kDr} (h : dOk d) {l : Nat} {m : Int} (hm : mdOk m) : dOk (drL d l m) := by
  refine ⟨h.1, fun i => ?_, h.2.2⟩
  show mdOk (if i = l then m else dM d i)
  split
  · exact hm
  · exact h.2.1 i
theorem drL_L {d : kDr} {l : Nat} {m : Int} (hl : l < 26) (h : ¬ 0 < dM d l) (hm : 0 < m) : dL (drL d l m) = dL d + 1 := by
  refine cntF_one 26 hl h (by show 0 < if l = l then m else dM d l; rw [if_pos rfl]; exact hm) (fun i hi => ?_)
  show (0 < if i = l then m else dM d i) ↔ _
  rw [if_neg hi]
theorem drW_ok {d : kDr} (h : dOk d) {g : Int} {L : List Int} (hg : 0 ≤ g ∧ g < 17576) (hw : dW d < 20) : dOk (drW d g L) := by
  refine ⟨by show dW d + 1 ≤ 20; omega, h.2.1, fun w hw => ?_⟩
  show 0 ≤ (if w = dW d then g else dG d w) ∧ (if w = dW d then g else dG d w) < 17576
  split
  · exact hg
  · exact h.2.2 w (by have : w < dW d + 1 := hw; omega)
def grF (t : Nat → Int) (s : Nat) : Nat → Int
  | 0 => 0
  | k + 1 => grF t s k * 26 + (t (s + k) - 97)
def grOk (t : Nat → Int) (n : Nat) (d : kDr) (s : Nat) : Prop := kdF t n s = 1 ∧ teF t n s - s = 3 ∧ ∀ i, i < 3 → 0 < dM d (t (s + i) - 97).toNat
noncomputable def grV (t : Nat → Int) (n : Nat) (d : kDr) (s : Nat) : Int := @ite _ (grOk t n d s) (Classical.propDecidable _) (grF t s 3) (-1)
theorem grF_b {t : Nat → Int} {s : Nat} (h : ∀ i, i < 3 → 97 ≤ t (s + i) ∧ t (s + i) ≤ 122) : 0 ≤ grF t s 3 ∧ grF t s 3 < 17576 := by
  have h0 := h 0 (by omega)
  have h1 := h 1 (by omega)
  have h2 := h 2 (by omega)
  have e : grF t s 3 = ((0 * 26 + (t (s + 0) - 97)) * 26 + (t (s + 1) - 97)) * 26 + (t (s + 2) - 97) := rfl
  rw [e]
  omega
def nmOk (t : Nat → Int) (n : Nat) (d : kDr) (s : Nat) : Prop := kdF t n s = 1 ∧ teF t n s - s ≤ 8 ∧ (¬ isW t n s 0 ∧ ¬ isW t n s 1 ∧ ¬ isW t n s 2) ∧ ∀ w, w < dW d → ¬ dN d w = tkL t s (teF t n s)
def lAok (t : Nat → Int) (n : Nat) (d : kDr) (s : Nat) : Prop := kdF t n s = 1 ∧ teF t n s - s = 1 ∧ ¬ 0 < dM d (t s - 97).toNat
def lBok (t : Nat → Int) (n : Nat) (d : kDr) (s : Nat) : Prop := mkOk t n s ∧ ∀ l, l < 26 → ¬ dM d l = numF t s (teF t n s - s)
def wCok (t : Nat → Int) (n : Nat) (d : kDr) (s : Nat) : Prop := grOk t n d s ∧ ∀ w, w < dW d → ¬ dG d w = grF t s 3
/-- a line that tells a letter, from its first word on -/
noncomputable def ltF (t : Nat → Int) (n : Nat) (d : kDr) (s : Nat) : Nat ⊕ (kDr × Nat) :=
  @ite _ (lAok t n d (nxF t n s)) (Classical.propDecidable _)
    (@ite _ (lBok t n d (nxF t n (nxF t n s))) (Classical.propDecidable _)
      (if kdF t n (nxF t n (nxF t n (nxF t n s))) = 3 then .inr (drL d (t (nxF t n s) - 97).toNat (numF t (nxF t n (nxF t n s)) (teF t n (nxF t n (nxF t n s)) - nxF t n (nxF t n s))), nxF t n (nxF t n (nxF t n (nxF t n s)))) else .inl (nxF t n (nxF t n (nxF t n s))))
      (.inl (nxF t n (nxF t n s))))
    (.inl (nxF t n s))
/-- a line that tells a word -/
noncomputable def wdF (t : Nat → Int) (n : Nat) (d : kDr) (s : Nat) : Nat ⊕ (kDr × Nat) :=
  @ite _ (nmOk t n d (nxF t n s)) (Classical.propDecidable _)
    (@ite _ (isW t n (nxF t n (nxF t n s)) 2) (Classical.propDecidable _)
      (@ite _ (wCok t n d (nxF t n (nxF t n (nxF t n s)))) (Classical.propDecidable _)
        (if kdF t n (nxF t n (nxF t n (nxF t n (nxF t n s)))) = 3 then .inr (drW d (grF t (nxF t n (nxF t n (nxF t n s))) 3) (tkL t (nxF t n s) (teF t n (nxF t n s))), nxF t n (nxF t n (nxF t n (nxF t n (nxF t n s))))) else .inl (nxF t n (nxF t n (nxF t n (nxF t n s)))))
        (.inl (nxF t n (nxF t n (nxF t n s)))))
      (.inl (nxF t n (nxF t n s))))
    (.inl (nxF t n s))
noncomputable def lnF (t : Nat → Int) (n : Nat) (d : kDr) (s : Nat) : Nat ⊕ (kDr × Nat) :=
  @ite _ (isW t n s 0) (Classical.propDecidable _) (ltF t n d s) (@ite _ (isW t n s 1 ∧ dW d < 20) (Classical.propDecidable _) (wdF t n d s) (.inl s))
noncomputable def prF (t : Nat → Int) (n : Nat) : Nat → kDr → Nat → Nat ⊕ kDr
  | 0, d, _ => .inr d
  | f + 1, d, s => if n ≤ s then .inr d else match lnF t n d s with
    | .inl p => .inl p
    | .inr q => prF t n f q.1 q.2
/-- the FAULT of a text, or what it tells -/
noncomputable def paF (t : Nat → Int) (n : Nat) : Nat ⊕ kDr := if n ≤ skF t n 0 then .inl n else prF t n 500 dr0 (skF t n 0)
/-- a good line's words stand in the text, and it goes on -/
theorem ltF_r {t : Nat → Int} {n : Nat} {d : kDr} {s : Nat} {q : kDr × Nat} (hs : s < n) (hd : dOk d) (h : ltF t n d s = .inr q) : dOk q.1 ∧ s < q.2 ∧ q.2 ≤ n := by
  have h1 := nxF_b (t := t) (j := s) (Nat.le_of_lt hs)
  have h2 := nxF_b (t := t) (j := nxF t n s) h1.2.1
  have h3 := nxF_b (t := t) (j := nxF t n (nxF t n s)) h2.2.1
  have h4 := nxF_b (t := t) (j := nxF t n (nxF t n (nxF t n s))) h3.2.1
  unfold ltF at h
  split at h
  · split at h
    · rename_i hA hB
      split at h
      · injection h with h
        subst h
        refine ⟨drL_ok hd (numF_md hB.1.2.1 (fun i hi => hB.1.2.2 _ (by omega) (by omega))), by show s < _; omega, h4.2.1⟩
      · cases h
    · cases h
  · cases h
theorem wdF_r {t : Nat → Int} {n : Nat} {d : kDr} {s : Nat} {q : kDr × Nat} (hs : s < n) (hd : dOk d) (hw : dW d < 20) (h : wdF t n d s = .inr q) : dOk q.1 ∧ s < q.2 ∧ q.2 ≤ n := by
  have h1 := nxF_b (t := t) (j := s) (Nat.le_of_lt hs)
  have h2 := nxF_b (t := t) (j := nxF t n s) h1.2.1
  have h3 := nxF_b (t := t) (j := nxF t n (nxF t n s)) h2.2.1
  have h4 := nxF_b (t := t) (j := nxF t n (nxF t n (nxF t n s))) h3.2.1
  have h5 := nxF_b (t := t) (j := nxF t n (nxF t n (nxF t n (nxF t n s)))) h4.2.1
  unfold wdF at h
  split at h
  · split at h
    · split at h
      · rename_i hC
        split at h
        · injection h with h
          subst h
          refine ⟨drW_ok hd (grF_b (fun i hi => ?_)) hw, by show s < _; omega, h5.2.1⟩
          obtain ⟨c1, c2, c3⟩ := hC.1
          have c4 := kdF_pos c1 (by decide)
          rw [← ckF_1, teF_in c4.1 (Or.inl c4.2) (by omega) (by omega), c4.2]
        · cases h
      · cases h
    · cases h
  · cases h

