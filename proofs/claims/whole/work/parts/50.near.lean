/-! ===== the nearest, a kind of gap at a time (plain mathematics) ===== -/
def pWv (cs : Nat → Int → Int) (mc n : Nat) (kd : Nat → Int) (C : Nat → Int) (j : Nat) (k : Int) : Int := if lcst cs mc n kd j = -1 then -1 else if j + n = mc then (if k = 3 then lcst cs mc n kd j else -1) else if cs (2 * (j + n) - 1) k = -1 ∨ C (j + n) = -1 then -1 else lcst cs mc n kd j + cs (2 * (j + n) - 1) k + C (j + n)
theorem pWv_b {cs : Nat → Int → Int} (h : ∀ p k, -1 ≤ cs p k ∧ cs p k ≤ 255) {mc n : Nat} {kd : Nat → Int} {C : Nat → Int} {j : Nat} (hC : ∀ i, j < i → i < mc → -1 ≤ C i ∧ C i ≤ 510 * ((mc : Int) - i)) (k : Int) : -1 ≤ pWv cs mc n kd C j k ∧ (pWv cs mc n kd C j k = -1 ∨ pWv cs mc n kd C j k ≤ 510 * ((mc : Int) - j)) := by
  have h1 := lcst_b h (mc := mc) (n := n) (kd := kd) (j := j)
  have h2 := h (2 * (j + n) - 1) k
  unfold pWv
  split
  · omega
  · rename_i q
    have h3 := lcst_n q
    split
    · split <;> omega
    · have h4 := hC (j + n) (by omega) (by omega)
      split <;> omega
/-- both kinds of the gap behind, and the lesser one -/
theorem pWv_comb {cs : Nat → Int → Int} (h : ∀ p k, -1 ≤ cs p k ∧ cs p k ≤ 255) {mc n : Nat} {kd : Nat → Int} {C : Nat → Int} {j : Nat} (hC : ∀ i, j < i → i < mc → -1 ≤ C i) : (cfr cs mc n kd C j = -1 ↔ pWv cs mc n kd C j 3 = -1 ∧ pWv cs mc n kd C j 4 = -1) ∧ (¬ cfr cs mc n kd C j = -1 → (pWv cs mc n kd C j 3 = -1 ∨ cfr cs mc n kd C j ≤ pWv cs mc n kd C j 3) ∧ (pWv cs mc n kd C j 4 = -1 ∨ cfr cs mc n kd C j ≤ pWv cs mc n kd C j 4) ∧ (cfr cs mc n kd C j = pWv cs mc n kd C j 3 ∨ cfr cs mc n kd C j = pWv cs mc n kd C j 4) ∧ (pWv cs mc n kd C j 3 = cfr cs mc n kd C j ↔ ¬ (j + n < mc ∧ pBl cs (j + n)))) := by
  have h1 := lcst_b h (mc := mc) (n := n) (kd := kd) (j := j)
  unfold cfr pWv pBl
  by_cases q : lcst cs mc n kd j = -1
  · rw [if_pos (Or.inl q), if_pos q, if_pos q]
    exact ⟨⟨fun _ => ⟨rfl, rfl⟩, fun _ => q⟩, fun z => absurd q z⟩
  · have h3 := lcst_n q
    by_cases q2 : j + n = mc
    · rw [if_pos (Or.inr (by omega)), if_neg q, if_neg q, if_pos q2, if_pos q2, if_pos rfl, if_neg (by decide)]
      refine ⟨⟨fun z => absurd z q, fun z => absurd z.1 q⟩, fun _ => ⟨Or.inr (Int.le_refl _), Or.inl rfl, Or.inl rfl, ⟨fun _ z => by omega, fun _ => rfl⟩⟩⟩
    · have h4 := hC (j + n) (by omega) (by omega)
      have h5 := h (2 * (j + n) - 1) 3
      have h6 := h (2 * (j + n) - 1) 4
      have h7 : j + n < mc := by omega
      rw [if_neg (show ¬ (lcst cs mc n kd j = -1 ∨ mc ≤ j + n) by omega), if_neg q, if_neg q, if_neg q2, if_neg q2]
      by_cases c : C (j + n) = -1
      · rw [if_pos (Or.inr c), if_pos (Or.inr c), if_pos (Or.inr c)]
        exact ⟨⟨fun _ => ⟨rfl, rfl⟩, fun _ => rfl⟩, fun z => absurd rfl z⟩
      · unfold gcst
        by_cases a : cs (2 * (j + n) - 1) 3 = -1
        · by_cases b : cs (2 * (j + n) - 1) 4 = -1
          · rw [if_pos (Or.inl a), if_pos (Or.inl a), if_pos (Or.inl b), if_pos (Or.inl (by omega))]
            exact ⟨⟨fun _ => ⟨rfl, rfl⟩, fun _ => rfl⟩, fun z => absurd rfl z⟩
          · rw [if_pos (Or.inl a), if_pos (Or.inl a), if_neg (show ¬ (cs (2 * (j + n) - 1) 4 = -1 ∨ C (j + n) = -1) by omega), if_neg (by omega)]
            omega
        · by_cases b : cs (2 * (j + n) - 1) 4 = -1
          · rw [if_pos (Or.inr b), if_pos (Or.inl b), if_neg (show ¬ (cs (2 * (j + n) - 1) 3 = -1 ∨ C (j + n) = -1) by omega), if_neg (by omega)]
            omega
          · rw [if_neg (show ¬ (cs (2 * (j + n) - 1) 3 = -1 ∨ cs (2 * (j + n) - 1) 4 = -1) by omega), if_neg (show ¬ (cs (2 * (j + n) - 1) 3 = -1 ∨ C (j + n) = -1) by omega), if_neg (show ¬ (cs (2 * (j + n) - 1) 4 = -1 ∨ C (j + n) = -1) by omega), if_neg (by omega)]
            omega
def updB (B w : Int) : Int := if ¬ w = -1 ∧ (B = -1 ∨ w < B) then w else B
theorem updB_2 {B a b v : Int} (hB : -1 ≤ B) (h0 : -1 ≤ a ∧ -1 ≤ b) (h1 : v = -1 ↔ a = -1 ∧ b = -1) (h2 : ¬ v = -1 → (a = -1 ∨ v ≤ a) ∧ (b = -1 ∨ v ≤ b) ∧ (v = a ∨ v = b)) : updB (updB B a) b = if ¬ v = -1 ∧ (B = -1 ∨ v < B) then v else B := by
  by_cases e : v = -1
  · obtain ⟨ea, eb⟩ := h1.mp e
    unfold updB
    rw [if_neg (by omega), if_neg (by omega), if_neg (by omega)]
  · have := h2 e
    unfold updB
    by_cases c : ¬ a = -1 ∧ (B = -1 ∨ a < B)
    · rw [if_pos c]
      by_cases d : ¬ b = -1 ∧ (a = -1 ∨ b < a)
      · rw [if_pos d, if_pos (by omega)]
        omega
      · rw [if_neg d, if_pos (by omega)]
        omega
    · rw [if_neg c]
      by_cases d : ¬ b = -1 ∧ (B = -1 ∨ b < B)
      · rw [if_pos d, if_pos (by omega)]
        omega
      · rw [if_neg d, if_neg (by omega)]
/-- on the way of the nearest every letter has marks, and the way goes on -/
theorem pNr_step {cs : Nat → Int → Int} (h : ∀ p k, -1 ≤ cs p k ∧ cs p k ≤ 255) {mc : Nat} {sz : Int → Nat} {kd : Int → Nat → Int} {C F : Nat → Int} (hN : pNr cs mc sz kd C F) (hC : ∀ i, i < mc → -1 ≤ C i ∧ C i ≤ 510 * ((mc : Int) - i)) {j : Nat} (hj : j < mc) (hc : ¬ C j = -1) : ∃ f : Nat, f < 26 ∧ F j = (f : Int) ∧ 0 < sz (f : Int) ∧ j + sz (f : Int) ≤ mc ∧ (j + sz (f : Int) < mc → ¬ C (j + sz (f : Int)) = -1) ∧ C j = pNv cs mc sz kd C j f ∧ ∀ i, i < f → pNv cs mc sz kd C j i = -1 ∨ C j < pNv cs mc sz kd C j i := by
  obtain ⟨h1, h2⟩ := hN j hj
  have hv : ∀ l : Nat, -1 ≤ pNv cs mc sz kd C j l := by
    intro l
    have h3 := lcst_b h (mc := mc) (n := sz l) (kd := kd l) (j := j)
    have h4 := gcst_b h (j + sz l)
    unfold pNv cfr
    by_cases q : lcst cs mc (sz l) (kd l) j = -1 ∨ mc ≤ j + sz l
    · rw [if_pos q]; exact h3.1
    · have h5 := hC (j + sz l) (by omega)
      rw [if_neg q]
      split <;> omega
  rcases bestF_spec hv 26 with ⟨p1, p2, p3⟩ | ⟨f, p1, p2, p3, p4, p5, -⟩
  · exact absurd (by rw [h1, p1]) hc
  · have e : C j = pNv cs mc sz kd C j f := by rw [h1, p3]
    have ev : pNv cs mc sz kd C j f = if lcst cs mc (sz f) (kd f) j = -1 ∨ mc ≤ j + sz f then lcst cs mc (sz f) (kd f) j else if gcst cs (j + sz f) = -1 ∨ C (j + sz f) = -1 then -1 else lcst cs mc (sz f) (kd f) j + gcst cs (j + sz f) + C (j + sz f) := rfl
    have q1 : ¬ lcst cs mc (sz f) (kd f) j = -1 := by
      intro q
      rw [ev, if_pos (Or.inl q)] at p4
      exact p4 q
    have q2 := lcst_n q1
    refine ⟨f, p1, by rw [h2, p2], q2.1, q2.2, fun q q3 => ?_, e, fun i hi => ?_⟩
    · rw [ev, if_neg (by omega), if_pos (Or.inr q3)] at p4
      exact p4 rfl
    · rw [e]
      exact p5 i hi

