/-! ===== clocks: seven places against six (plain mathematics) ===== -/
def b7F (g l : Nat → Int) : kMat := fun a b => if a = b then 0 else if b = 6 then g a else if a = 6 then -(l b) else 100000
def b6F (g l : Nat → Int) : kMat := fun a b => if a = b then 0 else g b - l a
theorem bfm_fact {one oth : Nat → Nat} {w : Nat → Int} {m : kMat} : ∀ F f, f < F → bfm one oth w m F (one f) (oth f) ≤ w f := by
  intro F
  induction F with
  | zero => intro f h; omega
  | succ F ih =>
    intro f h
    show (if one f = one F ∧ oth f = oth F then min (bfm one oth w m F (one f) (oth f)) (w F) else bfm one oth w m F (one f) (oth f)) ≤ w f
    by_cases e : f = F
    · subst e
      rw [if_pos ⟨rfl, rfl⟩]
      omega
    · have := ih f (by omega)
      split <;> omega
theorem bfm_ge {one oth : Nat → Nat} {w : Nat → Int} {m : kMat} {n : Nat} {e : kMat} (h1 : ∀ a b, a < n → b < n → e a b ≤ m a b) : ∀ F, (∀ f, f < F → e (one f) (oth f) ≤ w f) → ∀ a b, a < n → b < n → e a b ≤ bfm one oth w m F a b := by
  intro F
  induction F with
  | zero => intro _; exact h1
  | succ F ih =>
    intro h2 a b ha hb
    have h3 := ih (fun f hf => h2 f (by omega)) a b ha hb
    have h4 := h2 F (by omega)
    show e a b ≤ if a = one F ∧ b = oth F then min (bfm one oth w m F a b) (w F) else bfm one oth w m F a b
    by_cases q : a = one F ∧ b = oth F
    · rw [if_pos q]
      rw [← q.1, ← q.2] at h4
      omega
    · rw [if_neg q]; exact h3
def mnF (f : Nat → Int) : Nat → Int
  | 0 => f 0
  | n + 1 => min (mnF f n) (f (n + 1))
theorem mnF_le {f : Nat → Int} : ∀ n i, i ≤ n → mnF f n ≤ f i := by
  intro n
  induction n with
  | zero => intro i h; rw [show i = 0 by omega]; exact Int.le_refl _
  | succ n ih =>
    intro i h
    show min (mnF f n) (f (n + 1)) ≤ f i
    by_cases e : i = n + 1
    · subst e; omega
    · have := ih i (by omega)
      omega
theorem mnF_at {f : Nat → Int} : ∀ n, ∃ i, i ≤ n ∧ mnF f n = f i := by
  intro n
  induction n with
  | zero => exact ⟨0, by omega, rfl⟩
  | succ n ih =>
    obtain ⟨i, h1, h2⟩ := ih
    have e : mnF f (n + 1) = min (mnF f n) (f (n + 1)) := rfl
    by_cases q : f i ≤ f (n + 1)
    · exact ⟨i, by omega, by rw [e, h2]; omega⟩
    · exact ⟨n + 1, by omega, by rw [e, h2]; omega⟩
def e7F (g l : Nat → Int) (E : kMat) : kMat := fun x y => if x = 6 then (if y = 6 then 0 else mnF (fun c => E y c - l c) 5) else if y = 6 then mnF (fun c => E c x + g c) 5 else E y x
theorem e7F_66 {g l : Nat → Int} {E : kMat} : e7F g l E 6 6 = 0 := rfl
theorem e7F_6 {g l : Nat → Int} {E : kMat} {y : Nat} (h : y < 6) : e7F g l E 6 y = mnF (fun c => E y c - l c) 5 := by
  unfold e7F
  rw [if_pos rfl, if_neg (by omega)]
theorem e7F_x6 {g l : Nat → Int} {E : kMat} {x : Nat} (h : x < 6) : e7F g l E x 6 = mnF (fun c => E c x + g c) 5 := by
  unfold e7F
  rw [if_neg (by omega), if_pos rfl]
theorem e7F_xy {g l : Nat → Int} {E : kMat} {x y : Nat} (hx : x < 6) (hy : y < 6) : e7F g l E x y = E y x := by
  unfold e7F
  rw [if_neg (by omega), if_neg (by omega)]
theorem clk_6to7 {g l : Nat → Int} {one oth : Nat → Nat} {w : Nat → Int} {F : Nat} (hgl : ∀ s, s < 6 → l s ≤ g s) (hb : ∀ s, s < 6 → -60 ≤ l s ∧ g s ≤ 60) (ho : ∀ f, one f < 6 ∧ oth f < 6) (hE : ∀ a, a < 6 → 0 ≤ fw 6 (bfm one oth w (b6F g l) F) 6 a a) : ∀ a b, a < 7 → b < 7 → e7F g l (fw 6 (bfm one oth w (b6F g l) F) 6) a b ≤ fw 7 (bfm oth one w (b7F g l) F) 7 a b := by
  have sh := fw_shut 6 (Nat.le_refl _) hE
  have h0 : ∀ a b, a < 6 → b < 6 → fw 6 (bfm one oth w (b6F g l) F) 6 a b ≤ bfm one oth w (b6F g l) F a b := fun a b _ hb => fw_le hb 0 6
  have h1 : ∀ a b, a < 6 → b < 6 → fw 6 (bfm one oth w (b6F g l) F) 6 a b ≤ b6F g l a b := fun a b ha hb => Int.le_trans (h0 a b ha hb) (bfm_le F a b)
  have h2 : ∀ f, f < F → fw 6 (bfm one oth w (b6F g l) F) 6 (one f) (oth f) ≤ w f := fun f hf => Int.le_trans (h0 _ _ (ho f).1 (ho f).2) (bfm_fact F f hf)
  obtain ⟨E, hEq⟩ : ∃ E, E = fw 6 (bfm one oth w (b6F g l) F) 6 := ⟨_, rfl⟩
  rw [← hEq] at hE sh h1 h2 ⊢
  have sh : ∀ j a b, j < 6 → a < 6 → b < 6 → E a b ≤ E a j + E j b := fun j a b hj ha hb => sh j a b hj hj ha hb
  have d0 : ∀ a, a < 6 → E a a = 0 := fun a ha => by
    have q1 := h1 a a ha ha
    have q2 := hE a ha
    unfold b6F at q1
    rw [if_pos rfl] at q1
    omega
  have gl : ∀ a b, a < 6 → b < 6 → E a b ≤ g b - l a := fun a b ha hb => by
    by_cases e : a = b
    · subst e
      have := d0 a ha
      have := hgl a ha
      omega
    · have q1 := h1 a b ha hb
      unfold b6F at q1
      rw [if_neg e] at q1
      exact q1
  have gG : ∀ x c, x < 6 → c < 6 → mnF (fun c => E c x + g c) 5 ≤ E c x + g c := fun x c _ hc => mnF_le 5 c (by omega)
  have gL : ∀ y c, y < 6 → c < 6 → mnF (fun c => E y c - l c) 5 ≤ E y c - l c := fun y c _ hc => mnF_le (f := fun c => E y c - l c) 5 c (by omega)
  have aG : ∀ x : Nat, ∃ c, c < 6 ∧ mnF (fun c => E c x + g c) 5 = E c x + g c := fun x => by
    obtain ⟨i, q1, q2⟩ := mnF_at (f := fun c => E c x + g c) 5
    exact ⟨i, by omega, q2⟩
  have aL : ∀ y : Nat, ∃ c, c < 6 ∧ mnF (fun c => E y c - l c) 5 = E y c - l c := fun y => by
    obtain ⟨i, q1, q2⟩ := mnF_at (f := fun c => E y c - l c) 5
    exact ⟨i, by omega, q2⟩
  have sp : ∀ x, x < 7 → x < 6 ∨ x = 6 := fun x h => by omega
  refine fw_great ?_ ?_ 7 (Nat.le_refl _)
  · refine bfm_ge ?_ F (fun f hf => by rw [e7F_xy (ho f).2 (ho f).1]; exact h2 f hf)
    intro a b ha hb'
    rcases sp a ha with ha | ha
    · rcases sp b hb' with hb2 | hb2
      · rw [e7F_xy ha hb2]
        unfold b7F
        by_cases e : a = b
        · subst e
          rw [if_pos rfl, d0 a ha]
          exact Int.le_refl _
        · rw [if_neg e, if_neg (by omega), if_neg (by omega)]
          have := gl b a hb2 ha
          have := hb a ha
          have := hb b hb2
          omega
      · subst hb2
        rw [e7F_x6 ha]
        unfold b7F
        rw [if_neg (by omega), if_pos rfl]
        have := gG a a ha ha
        have := d0 a ha
        omega
    · subst ha
      rcases sp b hb' with hb2 | hb2
      · rw [e7F_6 hb2]
        unfold b7F
        rw [if_neg (by omega), if_neg (by omega), if_pos rfl]
        have := gL b b hb2 hb2
        have := d0 b hb2
        omega
      · subst hb2
        rw [e7F_66]
        unfold b7F
        rw [if_pos rfl]
        exact Int.le_refl _
  · intro j x y hj hx hy
    rcases sp j hj with hj | hj
    · rcases sp x hx with hx | hx
      · rcases sp y hy with hy | hy
        · rw [e7F_xy hx hy, e7F_xy hx hj, e7F_xy hj hy]
          have := sh j y x hj hy hx
          omega
        · subst hy
          rw [e7F_x6 hx, e7F_xy hx hj, e7F_x6 hj]
          obtain ⟨c, c1, c2⟩ := aG j
          have := gG x c hx c1
          have := sh j c x hj c1 hx
          omega
      · subst hx
        rcases sp y hy with hy | hy
        · rw [e7F_6 hy, e7F_6 hj, e7F_xy hj hy]
          obtain ⟨c, c1, c2⟩ := aL j
          have := gL y c hy c1
          have := sh j y c hj hy c1
          omega
        · subst hy
          rw [e7F_66, e7F_6 hj, e7F_x6 hj]
          obtain ⟨c, c1, c2⟩ := aL j
          obtain ⟨d, d1, d2⟩ := aG j
          have q1 := sh j d c hj d1 c1
          have q2 := gl c d c1 d1
          have q3 := sh c d d c1 d1 d1
          have q4 := d0 d d1
          omega
    · subst hj
      rcases sp x hx with hx | hx
      · rcases sp y hy with hy | hy
        · rw [e7F_xy hx hy, e7F_x6 hx, e7F_6 hy]
          obtain ⟨c, c1, c2⟩ := aG x
          obtain ⟨d, d1, d2⟩ := aL y
          have q1 := sh d y x d1 hy hx
          have q2 := sh c d x c1 d1 hx
          have q3 := gl d c d1 c1
          omega
        · subst hy
          rw [e7F_66]
          omega
      · subst hx
        rw [e7F_66]
        omega
theorem clk_7to6 {g l : Nat → Int} {one oth : Nat → Nat} {w : Nat → Int} {F : Nat} (ho : ∀ f, one f < 6 ∧ oth f < 6) (hE : ∀ a, a < 7 → 0 ≤ fw 7 (bfm oth one w (b7F g l) F) 7 a a) : ∀ a b, a < 6 → b < 6 → fw 7 (bfm oth one w (b7F g l) F) 7 b a ≤ fw 6 (bfm one oth w (b6F g l) F) 6 a b := by
  have sh := fw_shut 7 (Nat.le_refl _) hE
  have h0 : ∀ a b, a < 7 → b < 7 → fw 7 (bfm oth one w (b7F g l) F) 7 a b ≤ bfm oth one w (b7F g l) F a b := fun a b _ hb => fw_le hb 0 7
  have h1 : ∀ a b, a < 7 → b < 7 → fw 7 (bfm oth one w (b7F g l) F) 7 a b ≤ b7F g l a b := fun a b ha hb => Int.le_trans (h0 a b ha hb) (bfm_le F a b)
  have h2 : ∀ f, f < F → fw 7 (bfm oth one w (b7F g l) F) 7 (oth f) (one f) ≤ w f := fun f hf => Int.le_trans (h0 _ _ (by have := ho f; omega) (by have := ho f; omega)) (bfm_fact F f hf)
  obtain ⟨E, hEq⟩ : ∃ E, E = fw 7 (bfm oth one w (b7F g l) F) 7 := ⟨_, rfl⟩
  rw [← hEq] at hE sh h1 h2 ⊢
  refine fw_great (e := fun a b => E b a) ?_ ?_ 6 (Nat.le_refl _)
  · refine bfm_ge ?_ F h2
    intro a b ha hb
    show E b a ≤ b6F g l a b
    unfold b6F
    by_cases e : a = b
    · subst e
      rw [if_pos rfl]
      have q := h1 a a (by omega) (by omega)
      unfold b7F at q
      rw [if_pos rfl] at q
      exact q
    · rw [if_neg e]
      have q := sh 6 b a (by omega) (by omega) (by omega) (by omega)
      have q1 := h1 b 6 (by omega) (by omega)
      have q2 := h1 6 a (by omega) (by omega)
      unfold b7F at q1 q2
      rw [if_neg (by omega), if_pos rfl] at q1
      rw [if_neg (by omega), if_neg (by omega), if_pos rfl] at q2
      omega
  · intro j a b hj ha hb
    have := sh j b a (by omega) (by omega) (by omega) (by omega)
    show E b a ≤ E j a + E b j
    omega
theorem clk_both {g l : Nat → Int} {one oth : Nat → Nat} {w : Nat → Int} {F : Nat} (hgl : ∀ s, s < 6 → l s ≤ g s) (hb : ∀ s, s < 6 → -60 ≤ l s ∧ g s ≤ 60) (ho : ∀ f, one f < 6 ∧ oth f < 6) : ((∀ a, a < 6 → 0 ≤ fw 6 (bfm one oth w (b6F g l) F) 6 a a) ↔ ∀ a, a < 7 → 0 ≤ fw 7 (bfm oth one w (b7F g l) F) 7 a a) ∧ ((∀ a, a < 6 → 0 ≤ fw 6 (bfm one oth w (b6F g l) F) 6 a a) → ∀ a b, a < 6 → b < 6 → fw 7 (bfm oth one w (b7F g l) F) 7 b a = fw 6 (bfm one oth w (b6F g l) F) 6 a b) := by
  have to7 : (∀ a, a < 6 → 0 ≤ fw 6 (bfm one oth w (b6F g l) F) 6 a a) → ∀ a, a < 7 → 0 ≤ fw 7 (bfm oth one w (b7F g l) F) 7 a a := fun hE a ha => by
    have q := clk_6to7 hgl hb ho hE a a ha ha
    rcases (show a < 6 ∨ a = 6 by omega) with h | h
    · rw [e7F_xy h h] at q
      have := hE a h
      omega
    · subst h
      rw [e7F_66] at q
      exact q
  refine ⟨⟨to7, fun hE a ha => ?_⟩, fun hE a b ha hb' => ?_⟩
  · have q := clk_7to6 ho hE a a ha ha
    have := hE a (by omega)
    omega
  · have q1 := clk_7to6 ho (to7 hE) a b ha hb'
    have q2 := clk_6to7 hgl hb ho hE b a (by omega) (by omega)
    rw [e7F_xy hb' ha] at q2
    omega

