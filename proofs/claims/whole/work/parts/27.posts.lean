/-! ===== the post (plain mathematics) ===== -/
/-- what is known: how many messages and lines; words, minutes, priorities; sizes and lines of the ROUTES -/
def kPd := Nat × Nat × (Nat → Int) × (Nat → Int) × (Nat → Int) × (Nat → Nat) × (Nat → Nat → Nat)
def pNm (d : kPd) : Nat := d.1
def pNl (d : kPd) : Nat := d.2.1
def pW (d : kPd) : Nat → Int := d.2.2.1
def pT (d : kPd) : Nat → Int := d.2.2.2.1
def pP (d : kPd) : Nat → Int := d.2.2.2.2.1
def pZ (d : kPd) : Nat → Nat := d.2.2.2.2.2.1
def pR (d : kPd) : Nat → Nat → Nat := d.2.2.2.2.2.2
/-- how it stands: hops begun, there since, lines free from, begins, and what each line has sent -/
def kPs := (Nat → Nat) × (Nat → Int) × (Nat → Int) × (Nat → Nat → Int) × (Nat → List (Nat × Int))
def sG (s : kPs) : Nat → Nat := s.1
def sS (s : kPs) : Nat → Int := s.2.1
def sF (s : kPs) : Nat → Int := s.2.2.1
def sB (s : kPs) : Nat → Nat → Int := s.2.2.2.1
def sH (s : kPs) : Nat → List (Nat × Int) := s.2.2.2.2
def pOk (d : kPd) : Prop := pNm d ≤ 20 ∧ pNl d ≤ 8 ∧ ∀ m, m < pNm d → (1 ≤ pW d m ∧ pW d m ≤ 60) ∧ (0 ≤ pT d m ∧ pT d m ≤ 200) ∧ (1 ≤ pZ d m ∧ pZ d m ≤ 5) ∧ (∀ h, h < pZ d m → pR d m h < pNl d) ∧ ∀ h h', h < pZ d m → h' < pZ d m → pR d m h = pR d m h' → h = h'
/-- a message begins on a line -/
def pBg (d : kPd) (s : kPs) (m l : Nat) (t : Int) : kPs :=
  (fun i => if i = m then sG s m + 1 else sG s i, fun i => if i = m then t + pW d m else sS s i, fun j => if j = l then t + pW d m else sF s j, fun i h => if i = m ∧ h = sG s m then t else sB s i h, fun j => if j = l then sH s l ++ [(m, t)] else sH s j)
/-- the best below n -/
noncomputable def chF (p : Nat → Prop) (a : Nat → Nat → Prop) : Nat → Option Nat
  | 0 => none
  | n + 1 => @ite _ (p n ∧ ∀ b, chF p a n = some b → a n b) (Classical.propDecidable _) (some n) (chF p a n)
theorem chF_some {p : Nat → Prop} {a : Nat → Nat → Prop} : ∀ n b, chF p a n = some b → b < n ∧ p b := by
  intro n
  induction n with
  | zero => intro b h; exact absurd h (by unfold chF; simp)
  | succ n ih =>
    intro b h
    unfold chF at h
    split at h
    · rename_i q
      have e : n = b := by injection h
      subst e
      exact ⟨by omega, q.1⟩
    · have := ih b h
      exact ⟨by omega, this.2⟩
theorem chF_none {p : Nat → Prop} {a : Nat → Nat → Prop} : ∀ n, chF p a n = none → ∀ i, i < n → ¬ p i := by
  intro n
  induction n with
  | zero => intro _ i hi; omega
  | succ n ih =>
    intro h i hi
    unfold chF at h
    split at h
    · exact absurd h (by simp)
    · rename_i q
      by_cases e : i = n
      · subst e
        intro z
        exact q ⟨z, fun b hb => by rw [h] at hb; exact absurd hb (by simp)⟩
      · exact ih h i (by omega)
theorem chF_no {p : Nat → Prop} {a : Nat → Nat → Prop} : ∀ n, (∀ i, i < n → ¬ p i) → chF p a n = none := by
  intro n
  induction n with
  | zero => intro _; rfl
  | succ n ih =>
    intro h
    unfold chF
    rw [if_neg (fun z => h n (by omega) z.1)]
    exact ih (fun i hi => h i (by omega))
theorem chF_congr {p q : Nat → Prop} {a b : Nat → Nat → Prop} : ∀ n, (∀ i, i < n → (p i ↔ q i)) → (∀ i j, i < n → j < n → p i → p j → (a i j ↔ b i j)) → chF p a n = chF q b n := by
  intro n
  induction n with
  | zero => intro _ _; rfl
  | succ n ih =>
    intro h1 h2
    have e := ih (fun i hi => h1 i (by omega)) (fun i j hi hj => h2 i j (by omega) (by omega))
    unfold chF
    by_cases c : p n ∧ ∀ x, chF p a n = some x → a n x
    · have c2 : q n ∧ ∀ x, chF q b n = some x → b n x := by
        refine ⟨(h1 n (by omega)).mp c.1, fun x hx => ?_⟩
        rw [← e] at hx
        have := chF_some _ _ hx
        exact (h2 n x (by omega) (by omega) c.1 this.2).mp (c.2 x hx)
      rw [if_pos c, if_pos c2]
    · have c2 : ¬ (q n ∧ ∀ x, chF q b n = some x → b n x) := by
        intro z
        refine c ⟨(h1 n (by omega)).mpr z.1, fun x hx => ?_⟩
        have := chF_some _ _ hx
        exact (h2 n x (by omega) (by omega) ((h1 n (by omega)).mpr z.1) this.2).mpr (z.2 x (by rw [← e]; exact hx))
      rw [if_neg c, if_neg c2, e]
def pCa (d : kPd) (s : kPs) (l : Nat) (t : Int) (m : Nat) : Prop := sG s m < pZ d m ∧ pR d m (sG s m) = l ∧ sS s m ≤ t
def pAh (d : kPd) (s : kPs) (m b : Nat) : Prop := pP d b < pP d m ∨ (pP d m = pP d b ∧ sS s m < sS s b)
noncomputable def pCh (d : kPd) (s : kPs) (l : Nat) (t : Int) : Option Nat := chF (pCa d s l t) (pAh d s) (pNm d)
/-- one line in one minute -/
noncomputable def pL1 (d : kPd) (t : Int) (l : Nat) (s : kPs) : kPs := if sF s l ≤ t then (match pCh d s l t with | none => s | some m => pBg d s m l t) else s
noncomputable def pLn (d : kPd) (t : Int) (s : kPs) : Nat → kPs
  | 0 => s
  | l + 1 => pL1 d t l (pLn d t s l)
/-- how it stands before a minute -/
noncomputable def pRun (d : kPd) : Nat → kPs
  | 0 => (fun _ => 0, pT d, fun _ => 0, fun _ _ => 0, fun _ => [])
  | t + 1 => pLn d t (pRun d t) (pNl d)
theorem pL1_cases {d : kPd} {t : Int} {l : Nat} {s : kPs} : (pL1 d t l s = s ∧ (t < sF s l ∨ ∀ m, m < pNm d → ¬ pCa d s l t m)) ∨ ∃ m, m < pNm d ∧ pCa d s l t m ∧ sF s l ≤ t ∧ pL1 d t l s = pBg d s m l t := by
  unfold pL1
  by_cases h : sF s l ≤ t
  · rw [if_pos h]
    cases e : pCh d s l t with
    | none => exact Or.inl ⟨rfl, Or.inr (chF_none _ e)⟩
    | some m =>
      have := chF_some _ _ e
      exact Or.inr ⟨m, this.1, this.2, h, rfl⟩
  · rw [if_neg h]
    exact Or.inl ⟨rfl, Or.inl (by omega)⟩
/-- what holds of every state -/
def pIv (d : kPd) (s : kPs) (t : Int) : Prop :=
  (∀ m, m < pNm d → sG s m ≤ pZ d m ∧ (sG s m = 0 → sS s m = pT d m) ∧ (0 < sG s m → sS s m = sB s m (sG s m - 1) + pW d m) ∧ (∀ h, h < sG s m → pT d m ≤ sB s m h ∧ sB s m h < t) ∧ ∀ h, h + 1 < sG s m → sB s m h + pW d m ≤ sB s m (h + 1)) ∧
  (∀ l, 0 ≤ sF s l ∧ (∀ x, x ∈ sH s l → x.2 < sF s l) ∧ (sH s l).Pairwise (fun x y => x.2 < y.2) ∧ (∀ m b, (m, b) ∈ sH s l ↔ m < pNm d ∧ ∃ h, h < sG s m ∧ pR d m h = l ∧ sB s m h = b) ∧ (sH s l).length ≤ cntF (fun m => ∃ h, h < sG s m ∧ pR d m h = l) (pNm d))
theorem pIv_later {d : kPd} {s : kPs} {t t' : Int} (h : pIv d s t) (q : t ≤ t') : pIv d s t' := by
  refine ⟨fun m hm => ?_, h.2⟩
  obtain ⟨a, b, c, e, f⟩ := h.1 m hm
  exact ⟨a, b, c, fun x hx => ⟨(e x hx).1, by have := (e x hx).2; omega⟩, f⟩
theorem pBg_G {d : kPd} {s : kPs} {m l : Nat} {t : Int} : sG (pBg d s m l t) = fun i => if i = m then sG s m + 1 else sG s i := rfl
theorem pBg_S {d : kPd} {s : kPs} {m l : Nat} {t : Int} : sS (pBg d s m l t) = fun i => if i = m then t + pW d m else sS s i := rfl
theorem pBg_F {d : kPd} {s : kPs} {m l : Nat} {t : Int} : sF (pBg d s m l t) = fun j => if j = l then t + pW d m else sF s j := rfl
theorem pBg_B {d : kPd} {s : kPs} {m l : Nat} {t : Int} : sB (pBg d s m l t) = fun i h => if i = m ∧ h = sG s m then t else sB s i h := rfl
theorem pBg_H {d : kPd} {s : kPs} {m l : Nat} {t : Int} : sH (pBg d s m l t) = fun j => if j = l then sH s l ++ [(m, t)] else sH s j := rfl
theorem pIv_bg {d : kPd} {s : kPs} {t : Int} {m l : Nat} (hd : pOk d) (h : pIv d s (t + 1)) (ht : 0 ≤ t) (hm : m < pNm d) (hc : pCa d s l t m) (hf : sF s l ≤ t) : pIv d (pBg d s m l t) (t + 1) := by
  obtain ⟨hw, hT, hz, hR, hR2⟩ := hd.2.2 m hm
  obtain ⟨c1, c2, c3⟩ := hc
  refine ⟨fun i hi => ?_, fun j => ?_⟩
  · obtain ⟨a, b, c, e, f⟩ := h.1 i hi
    rw [pBg_G, pBg_S, pBg_B]
    by_cases ei : i = m
    · subst ei
      simp only [if_true, true_and]
      refine ⟨by omega, fun q => by omega, fun _ => ?_, fun x hx => ?_, fun x hx => ?_⟩
      · rw [if_pos (by omega)]
      · by_cases ex : x = sG s i
        · rw [if_pos ex]
          refine ⟨?_, by omega⟩
          rcases Nat.eq_zero_or_pos (sG s i) with q | q
          · have := b q; omega
          · have := c q
            have := (e (sG s i - 1) (by omega)).1
            omega
        · rw [if_neg ex]
          exact e x (by omega)
      · by_cases ex : x + 1 = sG s i
        · rw [if_pos ex, if_neg (by omega)]
          have := c (by omega)
          rw [show sG s i - 1 = x by omega] at this
          omega
        · rw [if_neg ex, if_neg (by omega)]
          exact f x (by omega)
    · simp only [if_neg ei, ei, false_and, if_false]
      exact ⟨a, b, c, e, f⟩
  · obtain ⟨a, b, c, e, f⟩ := h.2 j
    rw [pBg_G, pBg_F, pBg_B, pBg_H]
    by_cases ej : j = l
    · subst ej
      simp only [if_true]
      have hno : ¬ ∃ x, x < sG s m ∧ pR d m x = j := by
        rintro ⟨x, q1, q2⟩
        have := hR2 x (sG s m) (by omega) c1 (by rw [q2, c2])
        omega
      refine ⟨by omega, ?_, ?_, ?_, ?_⟩
      · intro x hx
        rcases List.mem_append.mp hx with q | q
        · have := b x q; omega
        · rw [List.mem_singleton.mp q]
          show t < t + pW d m
          omega
      · rw [List.pairwise_append]
        refine ⟨c, List.pairwise_singleton _ _, fun x hx y hy => ?_⟩
        rw [List.mem_singleton.mp hy]
        have := b x hx
        show x.2 < t
        omega
      · intro i y
        rw [List.mem_append, List.mem_singleton, e i y]
        constructor
        · rintro (⟨q1, x, q2, q3, q4⟩ | q)
          · refine ⟨q1, x, ?_, q3, ?_⟩
            · split
              · rename_i ei; subst ei; omega
              · exact q2
            · rw [if_neg (fun z => by rw [z.1] at q2; omega)]
              exact q4
          · injection q with q1 q2
            subst q1 q2
            exact ⟨hm, sG s i, by rw [if_pos rfl]; omega, c2, by rw [if_pos ⟨rfl, rfl⟩]⟩
        · rintro ⟨q1, x, q2, q3, q4⟩
          by_cases ei : i = m
          · subst ei
            rw [if_pos rfl] at q2
            have ex : x = sG s i := hR2 x (sG s i) (by omega) c1 (by rw [q3, c2])
            rw [if_pos ⟨rfl, ex⟩] at q4
            right
            rw [q4]
          · rw [if_neg ei] at q2
            rw [if_neg (fun z => ei z.1)] at q4
            exact Or.inl ⟨q1, x, q2, q3, q4⟩
      · have h1 := cntF_lt (p := fun i => ∃ x, x < sG s i ∧ pR d i x = j) (q := fun i => ∃ x, x < (if i = m then sG s m + 1 else sG s i) ∧ pR d i x = j) (pNm d) (fun i _ => by
            rintro ⟨x, q1, q2⟩
            refine ⟨x, ?_, q2⟩
            split
            · rename_i ei; subst ei; omega
            · exact q1) m hm ⟨sG s m, by rw [if_pos rfl]; omega, c2⟩ hno
        rw [List.length_append, List.length_singleton]
        omega
    · simp only [if_neg ej]
      refine ⟨a, b, c, ?_, ?_⟩
      · intro i y
        rw [e i y]
        constructor
        · rintro ⟨q1, x, q2, q3, q4⟩
          refine ⟨q1, x, ?_, q3, ?_⟩
          · split
            · rename_i ei; subst ei; omega
            · exact q2
          · rw [if_neg (fun z => by rw [z.1] at q2; omega)]
            exact q4
        · rintro ⟨q1, x, q2, q3, q4⟩
          by_cases ei : i = m
          · subst ei
            rw [if_pos rfl] at q2
            have ex : ¬ x = sG s i := fun z => by rw [z, c2] at q3; exact ej q3.symm
            rw [if_neg (fun z => ex z.2)] at q4
            exact ⟨q1, x, by omega, q3, q4⟩
          · rw [if_neg ei] at q2
            rw [if_neg (fun z => ei z.1)] at q4
            exact ⟨q1, x, q2, q3, q4⟩
      · refine Nat.le_trans f (cntF_mono _ (fun i _ => ?_))
        rintro ⟨x, q1, q2⟩
        refine ⟨x, ?_, q2⟩
        split
        · rename_i ei; subst ei; omega
        · exact q1
theorem pIv_ln {d : kPd} {s : kPs} {t : Int} (hd : pOk d) (h : pIv d s (t + 1)) (ht : 0 ≤ t) : ∀ l, pIv d (pLn d t s l) (t + 1) := by
  intro l
  induction l with
  | zero => exact h
  | succ l ih =>
    unfold pLn
    rcases pL1_cases (d := d) (t := t) (l := l) (s := pLn d t s l) with ⟨e, -⟩ | ⟨m, h1, h2, h3, e⟩
    · rw [e]; exact ih
    · rw [e]; exact pIv_bg hd ih ht h1 h2 h3
theorem pIv_run {d : kPd} (hd : pOk d) : ∀ t : Nat, pIv d (pRun d t) t := by
  intro t
  induction t with
  | zero =>
    refine ⟨fun m hm => ⟨Nat.zero_le _, fun _ => rfl, fun q => absurd q (Nat.lt_irrefl 0), fun h q => absurd q (Nat.not_lt_zero h), fun h q => absurd q (Nat.not_lt_zero _)⟩, fun l => ⟨Int.le_refl 0, fun x q => absurd q List.not_mem_nil, List.Pairwise.nil, fun m b => ⟨fun q => absurd q List.not_mem_nil, fun q => ?_⟩, Nat.zero_le _⟩⟩
    obtain ⟨-, x, q, -⟩ := q
    exact absurd q (Nat.not_lt_zero x)
  | succ t ih =>
    have h1 := pIv_ln hd (pIv_later ih (show (t : Int) ≤ (t : Int) + 1 by omega)) (by omega : (0 : Int) ≤ t) (pNl d)
    exact h1

