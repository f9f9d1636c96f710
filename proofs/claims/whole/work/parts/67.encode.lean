/-! ===== names as numbers (plain mathematics) ===== -/
def encF (t : Nat → Int) (s : Nat) : Nat → Int
  | 0 => 0
  | k + 1 => 32 * encF t s k + (t (s + k) - 96)
def encR : List Int → Int
  | [] => 0
  | c :: r => 32 * encR r + (c - 96)
def encL (L : List Int) : Int := encR L.reverse
theorem encR_nn : ∀ {L : List Int}, (∀ c, c ∈ L → 97 ≤ c ∧ c ≤ 122) → 0 ≤ encR L := by
  intro L
  induction L with
  | nil => intro _; exact Int.le_refl _
  | cons c r ih =>
    intro h
    have h1 := ih (fun c hc => h c (List.mem_cons_of_mem _ hc))
    have h2 := h c List.mem_cons_self
    show 0 ≤ 32 * encR r + (c - 96)
    omega
theorem encR_inj : ∀ {L M : List Int}, (∀ c, c ∈ L → 97 ≤ c ∧ c ≤ 122) → (∀ c, c ∈ M → 97 ≤ c ∧ c ≤ 122) → encR L = encR M → L = M := by
  intro L
  induction L with
  | nil =>
    intro M _ hM h
    cases M with
    | nil => rfl
    | cons c r =>
      have h1 := encR_nn (fun c hc => hM c (List.mem_cons_of_mem _ hc))
      have h2 := hM c List.mem_cons_self
      have h : (0 : Int) = 32 * encR r + (c - 96) := h
      omega
  | cons a l ih =>
    intro M hL hM h
    have a1 := encR_nn (fun c hc => hL c (List.mem_cons_of_mem _ hc))
    have a2 := hL a List.mem_cons_self
    cases M with
    | nil =>
      have h : 32 * encR l + (a - 96) = (0 : Int) := h
      omega
    | cons c r =>
      have h1 := encR_nn (fun c hc => hM c (List.mem_cons_of_mem _ hc))
      have h2 := hM c List.mem_cons_self
      have h : 32 * encR l + (a - 96) = 32 * encR r + (c - 96) := h
      have e1 : a = c := by omega
      have e2 : encR l = encR r := by omega
      rw [e1, ih (fun c hc => hL c (List.mem_cons_of_mem _ hc)) (fun c hc => hM c (List.mem_cons_of_mem _ hc)) e2]
theorem encL_inj {L M : List Int} (hL : ∀ c, c ∈ L → 97 ≤ c ∧ c ≤ 122) (hM : ∀ c, c ∈ M → 97 ≤ c ∧ c ≤ 122) (h : encL L = encL M) : L = M := by
  have := encR_inj (fun c hc => hL c (List.mem_reverse.mp hc)) (fun c hc => hM c (List.mem_reverse.mp hc)) h
  exact List.reverse_inj.mp this
theorem encL_tk {t : Nat → Int} {s : Nat} : ∀ k, encL (tkL t s (s + k)) = encF t s k := by
  intro k
  induction k with
  | zero =>
    unfold tkL
    rw [show s + 0 - s = 0 by omega]
    rfl
  | succ k ih =>
    have e : tkL t s (s + (k + 1)) = tkL t s (s + k) ++ [t (s + k)] := by
      unfold tkL
      rw [show s + (k + 1) - s = k + 1 by omega, show s + k - s = k by omega, List.range_succ, List.map_append]
      rfl
    rw [e]
    unfold encL
    rw [List.reverse_append]
    show 32 * encL (tkL t s (s + k)) + (t (s + k) - 96) = _
    rw [ih]
    rfl
theorem tkL_let {t : Nat → Int} {s e : Nat} (h : ∀ i, s ≤ i → i < e → 97 ≤ t i ∧ t i ≤ 122) : ∀ c, c ∈ tkL t s e → 97 ≤ c ∧ c ≤ 122 := by
  intro c hc
  unfold tkL at hc
  obtain ⟨i, hi, rfl⟩ := List.mem_map.mp hc
  have := List.mem_range.mp hi
  exact h _ (by omega) (by omega)
theorem encF_b {t : Nat → Int} {s : Nat} : ∀ k, (∀ i, i < k → 97 ≤ t (s + i) ∧ t (s + i) ≤ 122) → 0 ≤ encF t s k ∧ encF t s k ≤ 32 ^ k - 1 := by
  intro k
  induction k with
  | zero => intro _; exact ⟨Int.le_refl _, by show (0 : Int) ≤ 32 ^ 0 - 1; decide⟩
  | succ k ih =>
    intro h
    have h1 := ih (fun i hi => h i (by omega))
    have h2 := h k (by omega)
    have e : (32 : Int) ^ (k + 1) = 32 ^ k * 32 := Int.pow_succ _ _
    show 0 ≤ 32 * encF t s k + (t (s + k) - 96) ∧ 32 * encF t s k + (t (s + k) - 96) ≤ 32 ^ (k + 1) - 1
    omega
theorem encF_8 {t : Nat → Int} {s k : Nat} (hk : k ≤ 8) (h : ∀ i, i < k → 97 ≤ t (s + i) ∧ t (s + i) ≤ 122) : 0 ≤ encF t s k ∧ encF t s k ≤ 1099511627775 := by
  have h1 := encF_b k h
  have h2 : (32 : Int) ^ k ≤ 1099511627776 := by
    rcases (show k = 0 ∨ k = 1 ∨ k = 2 ∨ k = 3 ∨ k = 4 ∨ k = 5 ∨ k = 6 ∨ k = 7 ∨ k = 8 by omega) with rfl | rfl | rfl | rfl | rfl | rfl | rfl | rfl | rfl <;> decide
  omega
/-- a line that tells a letter, behind its first word -/
noncomputable def ltG (t : Nat → Int) (n : Nat) (d : kDr) (s : Nat) : Nat ⊕ (kDr × Nat) :=
  @ite _ (lAok t n d s) (Classical.propDecidable _)
    (@ite _ (lBok t n d (nxF t n s)) (Classical.propDecidable _)
      (if kdF t n (nxF t n (nxF t n s)) = 3 then .inr (drL d (t s - 97).toNat (numF t (nxF t n s) (teF t n (nxF t n s) - nxF t n s)), nxF t n (nxF t n (nxF t n s))) else .inl (nxF t n (nxF t n s)))
      (.inl (nxF t n s)))
    (.inl s)
theorem ltG_F {t : Nat → Int} {n : Nat} {d : kDr} {s : Nat} : ltF t n d s = ltG t n d (nxF t n s) := rfl
noncomputable def wdG (t : Nat → Int) (n : Nat) (d : kDr) (s : Nat) : Nat ⊕ (kDr × Nat) :=
  @ite _ (nmOk t n d s) (Classical.propDecidable _)
    (@ite _ (isW t n (nxF t n s) 2) (Classical.propDecidable _)
      (@ite _ (wCok t n d (nxF t n (nxF t n s))) (Classical.propDecidable _)
        (if kdF t n (nxF t n (nxF t n (nxF t n s))) = 3 then .inr (drW d (grF t (nxF t n (nxF t n s)) 3) (tkL t s (teF t n s)), nxF t n (nxF t n (nxF t n (nxF t n s)))) else .inl (nxF t n (nxF t n (nxF t n s))))
        (.inl (nxF t n (nxF t n s))))
      (.inl (nxF t n s)))
    (.inl s)
theorem wdG_F {t : Nat → Int} {n : Nat} {d : kDr} {s : Nat} : wdF t n d s = wdG t n d (nxF t n s) := rfl

