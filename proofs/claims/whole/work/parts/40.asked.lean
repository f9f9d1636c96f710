/-! ===== readings, the nearest, sayings: what is asked (plain mathematics) ===== -/
def pRw (cs : Nat → Int → Int) (mc : Nat) (sz : Int → Nat) (kd : Int → Nat → Int) (W : Nat → Int) (j l : Nat) : Int := if lcst cs mc (sz l) (kd l) j = -1 then 0 else wbh cs mc W (j + sz l)
def pRe (cs : Nat → Int → Int) (mc : Nat) (sz : Int → Nat) (kd : Int → Nat → Int) (W : Nat → Int) (j : Nat) : Int := min (sumL (pRw cs mc sz kd W j) 26) 1000000000
def pNv (cs : Nat → Int → Int) (mc : Nat) (sz : Int → Nat) (kd : Int → Nat → Int) (C : Nat → Int) (j l : Nat) : Int := cfr cs mc (sz l) (kd l) C j
def pNr (cs : Nat → Int → Int) (mc : Nat) (sz : Int → Nat) (kd : Int → Nat → Int) (C F : Nat → Int) : Prop := ∀ j, j < mc → C j = (bestF (pNv cs mc sz kd C j) 26).1 ∧ F j = (bestF (pNv cs mc sz kd C j) 26).2
theorem lcst_n {cs : Nat → Int → Int} {mc n : Nat} {kd : Nat → Int} {j : Nat} (h : ¬ lcst cs mc n kd j = -1) : 0 < n ∧ j + n ≤ mc := by
  unfold lcst at h
  split at h
  · exact absurd rfl h
  · omega
theorem pRw_congr {cs : Nat → Int → Int} {mc : Nat} {sz : Int → Nat} {kd : Int → Nat → Int} {W V : Nat → Int} {j : Nat} (e : ∀ i, j < i → i < mc → W i = V i) (l : Nat) : pRw cs mc sz kd W j l = pRw cs mc sz kd V j l := by
  unfold pRw
  by_cases q : lcst cs mc (sz l) (kd l) j = -1
  · rw [if_pos q, if_pos q]
  · have := lcst_n q
    rw [if_neg q, if_neg q]
    unfold wbh
    by_cases q2 : mc ≤ j + sz l
    · rw [if_pos q2, if_pos q2]
    · rw [if_neg q2, if_neg q2, e _ (by omega) (by omega)]
theorem pNv_congr {cs : Nat → Int → Int} {mc : Nat} {sz : Int → Nat} {kd : Int → Nat → Int} {C D : Nat → Int} {j : Nat} (e : ∀ i, j < i → i < mc → C i = D i) (l : Nat) : pNv cs mc sz kd C j l = pNv cs mc sz kd D j l := by
  unfold pNv cfr
  by_cases q : lcst cs mc (sz l) (kd l) j = -1 ∨ mc ≤ j + sz l
  · rw [if_pos q, if_pos q]
  · have := lcst_n (fun z => q (Or.inl z))
    rw [if_neg q, if_neg q, e _ (by omega) (by omega)]
theorem pRe_one {cs : Nat → Int → Int} {mc : Nat} {sz : Int → Nat} {kd : Int → Nat → Int} {W V : Nat → Int} (hW : ∀ j, j < mc → W j = pRe cs mc sz kd W j) (hV : ∀ j, j < mc → V j = pRe cs mc sz kd V j) : ∀ d j, j + d + 1 = mc → W j = V j ∧ ∀ i, j < i → i < mc → W i = V i := by
  intro d
  induction d with
  | zero =>
    intro j hj
    have hno : ∀ i, j < i → i < mc → W i = V i := fun i a b => by omega
    refine ⟨?_, hno⟩
    rw [hW j (by omega), hV j (by omega)]
    unfold pRe
    rw [sumL_congr 26 (fun l _ => pRw_congr hno l)]
  | succ d ih =>
    intro j hj
    have h1 := ih (j + 1) (by omega)
    have hno : ∀ i, j < i → i < mc → W i = V i := by
      intro i a b
      by_cases e : i = j + 1
      · rw [e]; exact h1.1
      · exact h1.2 i (by omega) b
    refine ⟨?_, hno⟩
    rw [hW j (by omega), hV j (by omega)]
    unfold pRe
    rw [sumL_congr 26 (fun l _ => pRw_congr hno l)]
theorem pRe_uniq {cs : Nat → Int → Int} {mc : Nat} {sz : Int → Nat} {kd : Int → Nat → Int} {W V : Nat → Int} (hW : ∀ j, j < mc → W j = pRe cs mc sz kd W j) (hV : ∀ j, j < mc → V j = pRe cs mc sz kd V j) (h : 0 < mc) : W 0 = V 0 := (pRe_one hW hV (mc - 1) 0 (by omega)).1
theorem pNr_one {cs : Nat → Int → Int} {mc : Nat} {sz : Int → Nat} {kd : Int → Nat → Int} {C F D G : Nat → Int} (h1 : pNr cs mc sz kd C F) (h2 : pNr cs mc sz kd D G) : ∀ d j, j + d + 1 = mc → (C j = D j ∧ F j = G j) ∧ ∀ i, j < i → i < mc → C i = D i ∧ F i = G i := by
  intro d
  induction d with
  | zero =>
    intro j hj
    refine ⟨?_, fun i a b => by omega⟩
    have e := bestF_congr 26 (fun l _ => pNv_congr (cs := cs) (mc := mc) (sz := sz) (kd := kd) (C := C) (D := D) (j := j) (fun i a b => by omega) l)
    rw [(h1 j (by omega)).1, (h1 j (by omega)).2, (h2 j (by omega)).1, (h2 j (by omega)).2, e]
    exact ⟨rfl, rfl⟩
  | succ d ih =>
    intro j hj
    have h3 := ih (j + 1) (by omega)
    have hno : ∀ i, j < i → i < mc → C i = D i ∧ F i = G i := by
      intro i a b
      by_cases e : i = j + 1
      · rw [e]; exact h3.1
      · exact h3.2 i (by omega) b
    refine ⟨?_, hno⟩
    have e := bestF_congr 26 (fun l _ => pNv_congr (cs := cs) (mc := mc) (sz := sz) (kd := kd) (C := C) (D := D) (j := j) (fun i a b => (hno i a b).1) l)
    rw [(h1 j (by omega)).1, (h1 j (by omega)).2, (h2 j (by omega)).1, (h2 j (by omega)).2, e]
    exact ⟨rfl, rfl⟩
theorem pNr_uniq {cs : Nat → Int → Int} {mc : Nat} {sz : Int → Nat} {kd : Int → Nat → Int} {C F D G : Nat → Int} (h1 : pNr cs mc sz kd C F) (h2 : pNr cs mc sz kd D G) (h : 0 < mc) : ∀ i, i < mc → C i = D i ∧ F i = G i := by
  have h3 := pNr_one h1 h2 (mc - 1) 0 (by omega)
  intro i hi
  by_cases e : i = 0
  · rw [e]; exact h3.1
  · exact h3.2 i (by omega) hi
theorem wrF_congr {F G : Nat → Int} {sz : Int → Nat} {bl : Nat → Prop} {mc : Nat} (h : ∀ i, i < mc → F i = G i) : ∀ f m, wrF F sz bl mc f m = wrF G sz bl mc f m := by
  intro f
  induction f with
  | zero => intro m; rfl
  | succ f ih =>
    intro m
    unfold wrF
    by_cases q : mc ≤ m
    · rw [if_pos q, if_pos q]
    · rw [if_neg q, if_neg q, h m (by omega), ih]
/-- the k-th of a row, or (k = -1) how many -/
def rowA (L : List Int) (k : Int) : Int := if k = -1 then (L.length : Int) else if h : 0 ≤ k ∧ k.toNat < L.length then L[k.toNat]'h.2 else -1
def pBl (cs : Nat → Int → Int) (m : Nat) : Prop := ¬ cs (2 * m - 1) 3 = gcst cs m
/-- what is answered of the nearest -/
def nrA (cs : Nat → Int → Int) (mc : Nat) (sz : Int → Nat) (kd : Int → Nat → Int) (k r : Int) : Prop := ∃ C F, pNr cs mc sz kd C F ∧ r = if C 0 = -1 ∨ k = -2 then C 0 else rowA (wrF F sz (pBl cs) mc 60 0) k
theorem nrA_uniq {cs : Nat → Int → Int} {mc : Nat} {sz : Int → Nat} {kd : Int → Nat → Int} {k r r' : Int} (h1 : nrA cs mc sz kd k r) (h2 : nrA cs mc sz kd k r') (h : 0 < mc) : r = r' := by
  obtain ⟨C, F, a1, a2⟩ := h1
  obtain ⟨D, G, b1, b2⟩ := h2
  have e := pNr_uniq a1 b1 h
  rw [a2, b2, (e 0 h).1, wrF_congr (fun i hi => (e i hi).2)]
/-- products -/
def prdF (f : Nat → Int) : Nat → Int
  | 0 => 1
  | n + 1 => prdF f n * f n
theorem prdF_b {f : Nat → Int} (h : ∀ i, 1 ≤ f i ∧ f i ≤ 255) : ∀ n, 1 ≤ prdF f n ∧ prdF f n ≤ 255 ^ n := by
  intro n
  induction n with
  | zero => exact ⟨Int.le_refl _, by rw [Int.pow_zero]; exact Int.le_refl _⟩
  | succ n ih =>
    have h1 := h n
    show 1 ≤ prdF f n * f n ∧ prdF f n * f n ≤ 255 ^ (n + 1)
    refine ⟨?_, ?_⟩
    · have : 1 * 1 ≤ prdF f n * f n := Int.mul_le_mul ih.1 h1.1 (by decide) (by omega)
      omega
    · rw [Int.pow_succ]
      exact Int.mul_le_mul ih.2 h1.2 (by omega) (Int.le_of_lt (Int.pow_pos (by decide)))
theorem prdF_congr {f g : Nat → Int} : ∀ n, (∀ i, i < n → f i = g i) → prdF f n = prdF g n := by
  intro n
  induction n with
  | zero => intro _; rfl
  | succ n ih =>
    intro h
    show prdF f n * f n = prdF g n * g n
    rw [ih (fun i hi => h i (by omega)), h n (by omega)]
theorem pow255 {n : Nat} (h : n ≤ 120) : (255 : Int) ^ n * 255 < 1048576 ^ 49 := by
  have h1 : ∀ d : Nat, (255 : Int) ^ n ≤ 255 ^ (n + d) := by
    intro d
    induction d with
    | zero => exact Int.le_refl _
    | succ d ih =>
      have e : (255 : Int) ^ (n + (d + 1)) = 255 ^ (n + d) * 255 := Int.pow_succ _ _
      have := Int.pow_pos (n := 255) (m := n + d) (by decide)
      omega
  have h2 := h1 (120 - n)
  rw [show n + (120 - n) = 120 by omega] at h2
  have h3 : (255 : Int) ^ 120 * 255 < 1048576 ^ 49 := by decide +kernel
  omega
/-- the k-th of those that p tells, as g names it, or (k = -1) how many -/
noncomputable def susF (p : Nat → Prop) (g : Nat → Int) (k : Int) : Nat → Nat → Nat → Int
  | 0, _, f => if k = -1 then (f : Int) else -1
  | m + 1, i, f => @ite Int (p i) (Classical.propDecidable _) (if (f : Int) = k then g i else susF p g k m (i + 1) (f + 1)) (susF p g k m (i + 1) f)
theorem susF_t {p : Nat → Prop} {g : Nat → Int} {k : Int} {m i f : Nat} (h : p i) : susF p g k (m + 1) i f = if (f : Int) = k then g i else susF p g k m (i + 1) (f + 1) := if_pos h
theorem susF_f {p : Nat → Prop} {g : Nat → Int} {k : Int} {m i f : Nat} (h : ¬ p i) : susF p g k (m + 1) i f = susF p g k m (i + 1) f := if_neg h
theorem susF_skip {p : Nat → Prop} {g : Nat → Int} {k : Int} {f : Nat} : ∀ d m i, (∀ j, i ≤ j → j < i + d → ¬ p j) → susF p g k (d + m) i f = susF p g k m (i + d) f := by
  intro d
  induction d with
  | zero => intro m i _; rw [Nat.zero_add, Nat.add_zero]
  | succ d ih =>
    intro m i h
    rw [show d + 1 + m = (d + m) + 1 by omega, susF_f (h i (by omega) (by omega)), ih m (i + 1) (fun j a b => h j (by omega) (by omega)), show i + 1 + d = i + (d + 1) by omega]
theorem susF_congr {p q : Nat → Prop} {g : Nat → Int} {k : Int} : ∀ m i f, (∀ j, p j ↔ q j) → susF p g k m i f = susF q g k m i f := by
  intro m
  induction m with
  | zero => intro i f _; rfl
  | succ m ih =>
    intro i f h
    by_cases c : p i
    · rw [susF_t c, susF_t ((h i).mp c), ih _ _ h]
    · rw [susF_f c, susF_f (fun z => c ((h i).mpr z)), ih _ _ h]
def coup (i : Nat) : Int := 10 * ((i / 8 : Nat) : Int) + ((i % 8 : Nat) : Int)
/-- a text's kinds are told by a tape -/
def saysP (cs : Nat → Int → Int) (n : Nat) (sp : Option (List Int)) : Prop := ∃ ks, sp = some ks ∧ ks.length = n ∧ ∀ p (h : p < ks.length), ¬ cs p ks[p] = -1
def susP (cs : Nat → Nat → Nat → Int → Int) (nl n : Nat) (sp : Option (List Int)) (i : Nat) : Prop := i % 8 < nl ∧ saysP (cs (i / 8) (i % 8)) n sp

