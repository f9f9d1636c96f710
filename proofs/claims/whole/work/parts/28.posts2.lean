/-! ===== the post: nothing happens between one begin and the next ===== -/
def pQu (d : kPd) (s : kPs) (t : Int) : Prop := ∀ m, m < pNm d → sG s m < pZ d m → t ≤ sS s m ∨ t ≤ sF s (pR d m (sG s m))
theorem pQu_id {d : kPd} {s : kPs} {t : Int} (h : pQu d s (t + 1)) : ∀ l, pLn d t s l = s := by
  intro l
  induction l with
  | zero => rfl
  | succ l ih =>
    unfold pLn
    rw [ih]
    rcases pL1_cases (d := d) (t := t) (l := l) (s := s) with ⟨e, -⟩ | ⟨m, h1, ⟨h2, h4, h5⟩, h3, e⟩
    · exact e
    · have := h m h1 h2
      rw [h4] at this
      omega
theorem pQu_ln {d : kPd} {s : kPs} {t : Int} (hd : pOk d) : ∀ l m, m < pNm d → sG (pLn d t s l) m < pZ d m → pR d m (sG (pLn d t s l) m) < l → t + 1 ≤ sS (pLn d t s l) m ∨ t + 1 ≤ sF (pLn d t s l) (pR d m (sG (pLn d t s l) m)) := by
  intro l
  induction l with
  | zero => intro m _ _ q; exact absurd q (Nat.not_lt_zero _)
  | succ l ih =>
    intro m hm hg hr
    unfold pLn at hg hr ⊢
    rcases pL1_cases (d := d) (t := t) (l := l) (s := pLn d t s l) with ⟨e, q⟩ | ⟨b, h1, ⟨h2, h4, h5⟩, h3, e⟩
    · rw [e] at hg hr ⊢
      by_cases c : pR d m (sG (pLn d t s l) m) = l
      · rcases q with q | q
        · right; rw [c]; omega
        · left
          have := q m hm
          rcases Int.lt_or_le t (sS (pLn d t s l) m) with z | z
          · omega
          · exact absurd ⟨hg, c, z⟩ this
      · exact ih m hm hg (by omega)
    · have hw := (hd.2.2 m hm).1
      have hwb := (hd.2.2 b h1).1
      rw [e, pBg_G] at hg hr
      rw [e, pBg_G, pBg_S, pBg_F]
      dsimp only at hg hr ⊢
      by_cases c : m = b
      · subst c
        left
        rw [if_pos rfl]
        omega
      · rw [if_neg c] at hg hr ⊢
        rw [if_neg c]
        by_cases c2 : pR d m (sG (pLn d t s l) m) = l
        · right; rw [if_pos c2]; omega
        · rw [if_neg c2]
          exact ih m hm hg (by omega)
theorem pQu_run {d : kPd} (hd : pOk d) (t : Nat) : pQu d (pRun d t) t := by
  cases t with
  | zero =>
    intro m hm _
    exact Or.inl (hd.2.2 m hm).2.1.1
  | succ t =>
    intro m hm hg
    have hz : sG (pRun d (t + 1)) m < pZ d m := hg
    have := (hd.2.2 m hm).2.2.2.1 _ hz
    exact pQu_ln (s := pRun d t) (t := t) hd (pNl d) m hm hg this
theorem pQu_le {d : kPd} {s : kPs} {t t' : Int} (h : pQu d s t) (q : t' ≤ t) : pQu d s t' := by
  intro m hm hg
  have := h m hm hg
  omega
theorem pRun_still {d : kPd} {T : Nat} : ∀ k : Nat, pQu d (pRun d T) (T + k : Nat) → pRun d (T + k) = pRun d T := by
  intro k
  induction k with
  | zero => intro _; rfl
  | succ k ih =>
    intro h
    have e := ih (pQu_le h (by omega))
    show pLn d ((T + k : Nat) : Int) (pRun d (T + k)) (pNl d) = pRun d T
    rw [e]
    exact pQu_id (by rw [show ((T + k : Nat) : Int) + 1 = ((T + (k + 1) : Nat) : Int) by omega]; exact h) _
/-- the later state goes on from the earlier one -/
def pMo (d : kPd) (s s' : kPs) (t : Int) : Prop := ∀ m, m < pNm d → sG s m ≤ sG s' m ∧ (∀ h, h < sG s m → sB s' m h = sB s m h) ∧ ∀ h, sG s m ≤ h → h < sG s' m → t ≤ sB s' m h
theorem pMo_ln {d : kPd} {s0 s : kPs} {t t0 : Int} (h : pMo d s0 s t0) (q : t0 ≤ t) : ∀ l, pMo d s0 (pLn d t s l) t0 := by
  intro l
  induction l with
  | zero => exact h
  | succ l ih =>
    unfold pLn
    rcases pL1_cases (d := d) (t := t) (l := l) (s := pLn d t s l) with ⟨e, -⟩ | ⟨b, h1, -, h3, e⟩
    · rw [e]; exact ih
    · rw [e]
      intro m hm
      obtain ⟨a1, a2, a3⟩ := ih m hm
      rw [pBg_G, pBg_B]
      by_cases c : m = b
      · subst c
        simp only [if_true, true_and]
        refine ⟨by omega, fun x hx => ?_, fun x hx hx2 => ?_⟩
        · rw [if_neg (by omega)]; exact a2 x hx
        · by_cases cx : x = sG (pLn d t s l) m
          · rw [if_pos cx]; exact q
          · rw [if_neg cx]; exact a3 x hx (by omega)
      · simp only [if_neg c, c, false_and, if_false]
        exact ⟨a1, a2, a3⟩
theorem pMo_run {d : kPd} {T : Nat} : ∀ k : Nat, pMo d (pRun d T) (pRun d (T + k)) T := by
  intro k
  induction k with
  | zero => exact fun m _ => ⟨Nat.le_refl _, fun _ _ => rfl, fun h a b => by exact absurd b (by show ¬ h < sG (pRun d T) m; omega)⟩
  | succ k ih => exact pMo_ln ih (by show (T : Int) ≤ ((T + k : Nat) : Int); omega) _
def smN (g : Nat → Nat) : Nat → Nat
  | 0 => 0
  | n + 1 => smN g n + g n
theorem smN_one {g g' : Nat → Nat} {m : Nat} (h1 : g' m = g m + 1) (h2 : ∀ i, i ≠ m → g' i = g i) : ∀ n, smN g' n = smN g n + (if m < n then 1 else 0) := by
  intro n
  induction n with
  | zero => rfl
  | succ n ih =>
    unfold smN
    rw [ih]
    by_cases c : n = m
    · subst c
      rw [h1, if_neg (by omega), if_pos (by omega)]
      omega
    · rw [h2 n c]
      split <;> split <;> omega
theorem smN_le {g : Nat → Nat} {k : Nat} : ∀ n, (∀ i, i < n → g i ≤ k) → smN g n ≤ k * n := by
  intro n
  induction n with
  | zero => intro _; exact Nat.zero_le _
  | succ n ih =>
    intro h
    have h1 := ih (fun i hi => h i (by omega))
    have h2 := h n (by omega)
    unfold smN
    rw [Nat.mul_succ]
    omega
theorem smN_lt {g : Nat → Nat} {k : Nat} : ∀ n, (∀ i, i < n → g i ≤ k) → ∀ j, j < n → g j < k → smN g n < k * n := by
  intro n
  induction n with
  | zero => intro _ j hj; omega
  | succ n ih =>
    intro h j hj hg
    have h2 := h n (by omega)
    unfold smN
    rw [Nat.mul_succ]
    by_cases c : j = n
    · subst c
      have := smN_le j (fun i hi => h i (by omega))
      omega
    · have h1 := ih (fun i hi => h i (by omega)) j (by omega) hg
      omega
theorem smN_ln {d : kPd} {s : kPs} {t : Int} : ∀ l, pLn d t s l = s ∨ smN (sG s) (pNm d) < smN (sG (pLn d t s l)) (pNm d) := by
  intro l
  induction l with
  | zero => exact Or.inl rfl
  | succ l ih =>
    unfold pLn
    rcases pL1_cases (d := d) (t := t) (l := l) (s := pLn d t s l) with ⟨e, -⟩ | ⟨b, h1, -, h3, e⟩
    · rw [e]; exact ih
    · rw [e, pBg_G]
      right
      have := smN_one (g := sG (pLn d t s l)) (g' := fun i => if i = b then sG (pLn d t s l) b + 1 else sG (pLn d t s l) i) (m := b) (by rw [if_pos rfl]) (fun i hi => by rw [if_neg hi]) (pNm d)
      rw [this, if_pos h1]
      rcases ih with z | z
      · rw [z]; omega
      · omega
/-- what the event driven run keeps -/
def pKi (d : kPd) (s : kPs) (i : Nat) : Prop := (∃ T : Nat, s = pRun d T ∧ (T : Int) ≤ 200 + 60 * i) ∧ (∀ m, m < pNm d → sS s m ≤ 200 + 60 * i) ∧ (∀ l, sF s l ≤ 200 + 60 * i) ∧ i ≤ smN (sG s) (pNm d)
theorem pKi_zero {d : kPd} (hd : pOk d) : pKi d (pRun d 0) 0 := by
  refine ⟨⟨0, rfl, by omega⟩, fun m hm => ?_, fun l => ?_, Nat.zero_le _⟩
  · have := (hd.2.2 m hm).2.1.2
    show pT d m ≤ _
    omega
  · show (0 : Int) ≤ _
    omega
theorem pLn_hi {d : kPd} {s : kPs} {t M : Int} (hd : pOk d) (h1 : ∀ m, m < pNm d → sS s m ≤ M) (h2 : ∀ l, sF s l ≤ M) (ht : t + 60 ≤ M) : ∀ l, (∀ m, m < pNm d → sS (pLn d t s l) m ≤ M) ∧ ∀ j, sF (pLn d t s l) j ≤ M := by
  intro l
  induction l with
  | zero => exact ⟨h1, h2⟩
  | succ l ih =>
    unfold pLn
    rcases pL1_cases (d := d) (t := t) (l := l) (s := pLn d t s l) with ⟨e, -⟩ | ⟨b, hb, -, h3, e⟩
    · rw [e]; exact ih
    · have hw := (hd.2.2 b hb).1
      rw [e, pBg_S, pBg_F]
      refine ⟨fun m hm => ?_, fun j => ?_⟩
      · dsimp only
        split
        · omega
        · exact ih.1 m hm
      · dsimp only
        split
        · omega
        · exact ih.2 j
def pMin (d : kPd) (s : kPs) (r : Int) : Prop := (∃ m, m < pNm d ∧ sG s m < pZ d m ∧ r = max (sS s m) (sF s (pR d m (sG s m)))) ∧ ∀ m, m < pNm d → sG s m < pZ d m → r ≤ max (sS s m) (sF s (pR d m (sG s m)))
theorem pMin_b {d : kPd} {s : kPs} {r : Int} {i : Nat} (hd : pOk d) (h : pKi d s i) (q : pMin d s r) : 0 ≤ r ∧ r ≤ 200 + 60 * i ∧ s = pRun d r.toNat := by
  obtain ⟨⟨T, hT, hT2⟩, h2, h3, h4⟩ := h
  obtain ⟨⟨m, q1, q2, q3⟩, q4⟩ := q
  have a := h2 m q1
  have b := h3 (pR d m (sG s m))
  have hi := (pIv_run hd T)
  rw [← hT] at hi
  have c := (hi.2 (pR d m (sG s m))).1
  have e := pQu_run hd T
  rw [← hT] at e
  have f := e m q1 q2
  have g : (T : Int) ≤ r := by omega
  refine ⟨by omega, by omega, ?_⟩
  have := pRun_still (d := d) (T := T) (r.toNat - T) (by
    rw [show ((T + (r.toNat - T) : Nat) : Int) = r by omega, ← hT]
    intro x hx hg
    have := q4 x hx hg
    omega)
  rw [hT, ← this, show T + (r.toNat - T) = r.toNat by omega]
theorem pKi_step {d : kPd} {s : kPs} {r : Int} {i : Nat} (hd : pOk d) (h : pKi d s i) (q : pMin d s r) : pKi d (pLn d r s (pNl d)) (i + 1) := by
  obtain ⟨a, b, c⟩ := pMin_b hd h q
  obtain ⟨hT, h2, h3, h4⟩ := h
  have e0 : ((i + 1 : Nat) : Int) = (i : Int) + 1 := by omega
  have h5 := pLn_hi (s := s) (t := r) (M := 200 + 60 * ((i + 1 : Nat) : Int)) hd (fun m hm => by have := h2 m hm; rw [e0]; omega) (fun l => by have := h3 l; rw [e0]; omega) (by rw [e0]; omega) (pNl d)
  have e : pLn d r s (pNl d) = pRun d (r.toNat + 1) := by
    show _ = pLn d (r.toNat : Int) (pRun d r.toNat) (pNl d)
    rw [← c, show (r.toNat : Int) = r by omega]
  refine ⟨⟨r.toNat + 1, e, by rw [e0]; omega⟩, h5.1, h5.2, ?_⟩
  rcases smN_ln (d := d) (s := s) (t := r) (pNl d) with z | z
  · exfalso
    obtain ⟨⟨m, q1, q2, q3⟩, q4⟩ := q
    have f := pQu_run hd (r.toNat + 1)
    rw [← e, z] at f
    have := f m q1 q2
    omega
  · omega
theorem pKi_end {d : kPd} {s : kPs} {i : Nat} (h : pKi d s i) (hi : i ≤ 100) (q : ∀ m, m < pNm d → ¬ sG s m < pZ d m) : s = pRun d 8001 := by
  obtain ⟨⟨T, hT, hT2⟩, -⟩ := h
  have := pRun_still (d := d) (T := T) (8001 - T) (by
    rw [← hT]
    intro m hm hg
    exact absurd hg (q m hm))
  rw [hT, ← this, show T + (8001 - T) = 8001 by omega]
theorem pKi_full {d : kPd} {s : kPs} (hd : pOk d) (h : pKi d s 100) : ∀ m, m < pNm d → ¬ sG s m < pZ d m := by
  intro m hm hg
  obtain ⟨⟨T, hT, hT2⟩, -, -, h4⟩ := h
  have hi := (pIv_run hd T)
  rw [← hT] at hi
  have h5 : ∀ i, i < pNm d → sG s i ≤ 5 := by
    intro i q
    have := (hi.1 i q).1
    have := (hd.2.2 i q).2.2.1.2
    omega
  have h6 := (hd.2.2 m hm).2.2.1.2
  have := smN_lt (pNm d) h5 m hm (by omega)
  have := hd.1
  omega

