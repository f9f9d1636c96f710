/-! ===== Grammar: lines, the whole text ===== -/
def kGo (μ μ' : kMem) : Prop := ∀ a b : Nat, a < 8 ∨ 15 < a → μ'.1 a b = μ.1 a b
/-- the grammar stands at the TOKEN s; the draft tells d -/
def kAt (μ0 : kMem) (d : kDr) (s : Nat) (μ : kMem) : Prop := kt μ = kt μ0 ∧ kn μ = kn μ0 ∧ kdm μ = d ∧ kDfOk μ ∧ kTok μ ∧ kgs μ = s ∧ kGo μ0 μ
theorem kAt.rf {μ : kMem} (h : kTok μ) (hd : kDfOk μ) : kAt μ (kdm μ) (kgs μ) μ := ⟨rfl, rfl, rfl, hd, h, rfl, fun _ _ _ => rfl⟩
theorem kAt.step {μ0 μ1 μ2 : kMem} {d : kDr} {s : Nat} (h : kAt μ0 d s μ1) (h2 : kStp μ1 μ2) : kAt μ0 d (nxF (kt μ0) (kn μ0) s) μ2 := by
  obtain ⟨a1, a2, a3, a4, a5, a6, a7⟩ := h
  obtain ⟨b1, b2, b3⟩ := h2
  obtain ⟨x1, x2, x3⟩ := tx_same (μ := μ1) (μ' := μ2) (fun a b q => b3 a b (by omega))
  obtain ⟨y1, y2⟩ := df_same b3
  refine ⟨by rw [x1, a1], by rw [x2, a2], by rw [y1, a3], y2 a4, b1, ?_, fun a b q => by rw [b3 a b (by omega)]; exact a7 a b q⟩
  rw [b2, a5.2.2.2, Int.toNat_natCast, a1, a2, a6]
  rfl
theorem kAt.kind {μ0 μ1 : kMem} {d : kDr} {s : Nat} (h : kAt μ0 d s μ1) : (μ1.1 13 4).toInt = kdF (kt μ0) (kn μ0) s := by
  obtain ⟨a1, a2, a3, a4, a5, a6, a7⟩ := h
  rw [a5.2.2.1, a1, a2, a6]
theorem kAt.sz {μ0 μ1 : kMem} {d : kDr} {s : Nat} (h : kAt μ0 d s μ1) : (μ1.1 13 6 - μ1.1 13 5).toInt = ((teF (kt μ0) (kn μ0) s - s : Nat) : Int) := by
  obtain ⟨a1, a2, a3, a4, a5, a6, a7⟩ := h
  rw [a5.sz, a1, a2, a6]
theorem kAt.st {μ0 μ1 : kMem} {d : kDr} {s : Nat} (h : kAt μ0 d s μ1) : (μ1.1 13 5).toInt = s := by
  obtain ⟨a1, a2, a3, a4, a5, a6, a7⟩ := h
  rw [a5.st, a6]
theorem kAt.le {μ0 μ1 : kMem} {d : kDr} {s : Nat} (h : kAt μ0 d s μ1) : s ≤ kn μ0 := by
  obtain ⟨a1, a2, a3, a4, a5, a6, a7⟩ := h
  have := a5.2.1.2
  rw [a6, a2] at this
  exact this
theorem kAt.let {μ0 μ1 : kMem} {d : kDr} {s : Nat} (h : kAt μ0 d s μ1) (hs : kdF (kt μ0) (kn μ0) s = 1) : 97 ≤ kt μ0 s ∧ kt μ0 s ≤ 122 ∧ (tat μ1 (μ1.1 13 5).toInt - Int32.ofInt 97).toInt = kt μ0 s - 97 := by
  have h0 := kdF_pos hs (by decide)
  have h1 := ckF_1.mp h0.2
  have h2 := h.st
  have h3 := kn_i h.2.2.2.2.1.1
  have h4 := h.2.1
  have et : (tat μ1 (μ1.1 13 5).toInt).toInt = kt μ0 s := by
    rw [tat_kt (by omega) (by omega), h2, Int.toNat_natCast, h.1]
  exact ⟨h1.1, h1.2, by rw [ti_subc (by omega), et]⟩
def kOut (μ : kMem) (o : Nat ⊕ (kDr × Nat)) (r : Int32) (μ' : kMem) : Prop := kGo μ μ' ∧ ((∃ p, o = .inl p ∧ r = Int32.ofInt 0 ∧ (μ'.1 13 5).toInt = ((p : Nat) : Int)) ∨ (∃ q, o = .inr q ∧ r = Int32.ofInt 1 ∧ kTok μ' ∧ kDfOk μ' ∧ kdm μ' = q.1 ∧ kgs μ' = q.2))
theorem kAt.out {μ0 μ1 : kMem} {d : kDr} {s : Nat} {o : Nat ⊕ (kDr × Nat)} (h : kAt μ0 d s μ1) (ho : o = .inl s) : kOut μ0 o (Int32.ofInt 0) μ1 := ⟨h.2.2.2.2.2.2, Or.inl ⟨s, ho, rfl, h.st⟩⟩
theorem kAt.good {μ0 μ1 : kMem} {d : kDr} {s : Nat} {o : Nat ⊕ (kDr × Nat)} (h : kAt μ0 d s μ1) (ho : o = .inr (d, s)) : kOut μ0 o (Int32.ofInt 1) μ1 := ⟨h.2.2.2.2.2.2, Or.inr ⟨(d, s), ho, rfl, h.2.2.2.2.1, h.2.2.2.1, h.2.2.1, h.2.2.2.2.2.1⟩⟩
theorem mkV_c {t : Nat → Int} {n s : Nat} (hs : s ≤ n) : (mkOk t n s ∧ mkV t n s = numF t s (teF t n s - s) ∧ 0 < mkV t n s ∧ mkV t n s ≤ 22222 ∧ mdOk (mkV t n s)) ∨ (¬ mkOk t n s ∧ mkV t n s = -1) := by
  by_cases h : mkOk t n s
  · left
    have e : mkV t n s = numF t s (teF t n s - s) := if_pos h
    have h1 := kdF_pos h.1 (by decide)
    have h2 := teF_b (t := t) hs
    have h3 := numF_5 (t := t) (j := s) h.2.1 (fun i hi => h.2.2 _ (by omega) (by omega))
    rw [e]
    exact ⟨h, rfl, h3.2.2 (by omega), h3.2.1, numF_md h.2.1 (fun i hi => h.2.2 _ (by omega) (by omega))⟩
  · exact Or.inr ⟨h, if_neg h⟩
/-- a letter has come -/
theorem kLet_at {μ0 μ μ' : kMem} {d : kDr} {s : Nat} {x m : Int} (h : kAt μ0 d s μ) (hx : 0 ≤ x ∧ x < 26) (hno : ¬ 0 < dM d x.toNat) (hm : 0 < m ∧ mdOk m) (hL : kLet μ x m (dnF 5 m) μ') : kAt μ0 (drL d x.toNat m) s μ' := by
  obtain ⟨a1, a2, a3, a4, a5, a6, a7⟩ := h
  have hdl := dnF_le 5 m
  have far : ∀ a b : Nat, a < 8 ∨ 12 < a → μ'.1 a b = μ.1 a b := by
    intro a b q
    rw [hL a b, if_neg (by omega), if_neg (by omega), if_neg (by omega), if_neg (by omega)]
  obtain ⟨x1, x2, x3⟩ := tx_same (μ := μ) (μ' := μ') (fun a b q => far a b (by omega))
  have hmb := hm.2.2.1
  have e9 : ∀ l, (μ'.1 9 l).toInt = if l = x.toNat then m else (μ.1 9 l).toInt := by
    intro l
    rw [hL 9 l]
    by_cases e : l = x.toNat
    · rw [if_pos ⟨rfl, e⟩, if_pos e, ti_ofInt (by omega)]
    · rw [if_neg (fun z => e z.2), if_neg (by omega), if_neg (by omega), if_neg (by omega), if_neg e]
  have e85 : μ'.1 8 5 = μ.1 8 5 := by rw [hL 8 5, if_neg (by omega), if_neg (by omega), if_neg (by omega), if_neg (by omega)]
  have e12 : ∀ w, μ'.1 12 w = μ.1 12 w := fun w => by rw [hL 12 w, if_neg (by omega), if_neg (by omega), if_neg (by omega), if_neg (by omega)]
  have e14 : ∀ w, μ'.1 14 w = μ.1 14 w := fun w => far 14 w (by omega)
  have e15 : ∀ w, μ'.1 15 w = μ.1 15 w := fun w => far 15 w (by omega)
  have eM : kdm μ' = drL d x.toNat m := by
    rw [← a3]
    have e1 : (kdm μ').1 = (drL (kdm μ) x.toNat m).1 := by
      funext l
      show (if l < 26 then (μ'.1 9 l).toInt else 0) = if l = x.toNat then m else (if l < 26 then (μ.1 9 l).toInt else 0)
      rw [e9 l]
      by_cases e : l = x.toNat
      · rw [if_pos e, if_pos e, if_pos (by omega)]
      · rw [if_neg e, if_neg e]
    have e2 : (kdm μ').2 = (drL (kdm μ) x.toNat m).2 := by
      unfold kdm drL dW dG dN
      rw [e85, x1]
      simp only [e12, e14, e15]
    exact Prod.ext e1 e2
  have e10 : ∀ l, (μ'.1 10 l).toInt = if l = x.toNat then (dnF 5 m : Int) else (μ.1 10 l).toInt := by
    intro l
    rw [hL 10 l, if_neg (by omega)]
    by_cases e : l = x.toNat
    · rw [if_pos ⟨rfl, e⟩, if_pos e, ti_ofInt (by omega)]
    · rw [if_neg (fun z => e z.2), if_neg (by omega), if_neg (by omega), if_neg e]
  have hd := a4
  rw [← a3] at hno
  refine ⟨by rw [x1, a1], by rw [x2, a2], eM, ?_, ?_, ?_, fun a b q => by rw [far a b (by omega)]; exact a7 a b q⟩
  · have eM2 := eM
    rw [← a3] at eM2
    unfold kDfOk
    rw [eM2, x2, e85]
    refine ⟨drL_ok hd.1 hm.2, ?_, hd.2.2.1, ?_, fun w hw => ?_⟩
    · rw [hL 8 4, if_neg (by omega), if_neg (by omega), if_pos ⟨rfl, rfl⟩, drL_L (by omega) hno hm.1]
      have h1 := hd.2.1
      have h2 := dL_le (kdm μ)
      rw [ti_ofInt (by omega)]
      omega
    · intro l hl
      have hM : dM (drL (kdm μ) x.toNat m) l = if l = x.toNat then m else dM (kdm μ) l := rfl
      rw [hM, e10 l]
      by_cases e : l = x.toNat
      · rw [if_pos e, if_pos e]
        refine ⟨rfl, fun j hj => ?_⟩
        rw [hL 11 (l * 5 + j), if_neg (by omega), if_neg (by omega), if_neg (by omega), if_pos ⟨rfl, by omega, by omega⟩, e, Nat.add_sub_cancel_left]
        have := hm.2.2.2 j hj
        rw [ti_ofInt (by omega)]
      · rw [if_neg e, if_neg e]
        have h1 := hd.2.2.2.1 l hl
        refine ⟨h1.1, fun j hj => ?_⟩
        have h2 := dnF_le 5 (dM (kdm μ) l)
        rw [hL 11 (l * 5 + j), if_neg (by omega), if_neg (by omega), if_neg (by omega), if_neg (by omega)]
        exact h1.2 j hj
    · rw [e14, e15]
      exact hd.2.2.2.2 w hw
  · unfold kTok kgs at a5 ⊢
    rw [x1, x2, far 13 5 (by omega), far 13 4 (by omega), far 13 6 (by omega)]
    exact ⟨x3 a5.1, a5.2⟩
  · unfold kgs at a6 ⊢
    rw [far 13 5 (by omega)]
    exact a6
theorem kdm_congr {μ μ' : kMem} (h1 : ∀ l, l < 26 → μ'.1 9 l = μ.1 9 l) (h2 : μ'.1 8 5 = μ.1 8 5) (h3 : kt μ' = kt μ) (h4 : ∀ w, w < (μ.1 8 5).toInt.toNat → μ'.1 12 w = μ.1 12 w ∧ μ'.1 14 w = μ.1 14 w ∧ μ'.1 15 w = μ.1 15 w) : kdm μ' = kdm μ := by
  have b1 : (kdm μ').1 = (kdm μ).1 := by
    funext l
    show (if l < 26 then (μ'.1 9 l).toInt else 0) = if l < 26 then (μ.1 9 l).toInt else 0
    by_cases q : l < 26
    · rw [if_pos q, if_pos q, h1 l q]
    · rw [if_neg q, if_neg q]
  have b2 : (kdm μ').2.1 = (kdm μ).2.1 := by
    show (μ'.1 8 5).toInt.toNat = (μ.1 8 5).toInt.toNat
    rw [h2]
  have b3 : (kdm μ').2.2.1 = (kdm μ).2.2.1 := by
    funext i
    show (if i < (μ'.1 8 5).toInt.toNat then (μ'.1 12 i).toInt else 0) = if i < (μ.1 8 5).toInt.toNat then (μ.1 12 i).toInt else 0
    rw [h2]
    by_cases q : i < (μ.1 8 5).toInt.toNat
    · rw [if_pos q, if_pos q, (h4 i q).1]
    · rw [if_neg q, if_neg q]
  have b4 : (kdm μ').2.2.2 = (kdm μ).2.2.2 := by
    funext i
    show (if i < (μ'.1 8 5).toInt.toNat then tkL (kt μ') (μ'.1 14 i).toInt.toNat ((μ'.1 14 i).toInt.toNat + (μ'.1 15 i).toInt.toNat) else []) = if i < (μ.1 8 5).toInt.toNat then tkL (kt μ) (μ.1 14 i).toInt.toNat ((μ.1 14 i).toInt.toNat + (μ.1 15 i).toInt.toNat) else []
    rw [h2, h3]
    by_cases q : i < (μ.1 8 5).toInt.toNat
    · rw [if_pos q, if_pos q, (h4 i q).2.1, (h4 i q).2.2]
    · rw [if_neg q, if_neg q]
  exact Prod.ext b1 (Prod.ext b2 (Prod.ext b3 b4))
/-- a name is noted, behind those that count -/
theorem kNote_at {μ0 μ : kMem} {d : kDr} {s : Nat} {u v : Int32} (h : kAt μ0 d s μ) : kAt μ0 d s (up (up μ 14 (dW d) u) 15 (dW d) v) := by
  obtain ⟨a1, a2, a3, a4, a5, a6, a7⟩ := h
  have far : ∀ a b : Nat, a ≠ 14 → a ≠ 15 → (up (up μ 14 (dW d) u) 15 (dW d) v).1 a b = μ.1 a b := fun a b n1 n2 => by rw [up_neo _ _ n2, up_neo _ _ n1]
  have e14 : ∀ w, w < dW d → (up (up μ 14 (dW d) u) 15 (dW d) v).1 14 w = μ.1 14 w := fun w hw => by rw [up_neo _ _ (by decide), up_nek _ _ (by omega)]
  have e15 : ∀ w, w < dW d → (up (up μ 14 (dW d) u) 15 (dW d) v).1 15 w = μ.1 15 w := fun w hw => by rw [up_nek _ _ (by omega), up_neo _ _ (by decide)]
  obtain ⟨x1, x2, x3⟩ := tx_same (μ := μ) (μ' := up (up μ 14 (dW d) u) 15 (dW d) v) (fun a b q => far a b (by omega) (by omega))
  obtain ⟨μ2, hμ2⟩ : ∃ μ2, μ2 = up (up μ 14 (dW d) u) 15 (dW d) v := ⟨_, rfl⟩
  rw [← hμ2] at far e14 e15 x1 x2 x3 ⊢
  have ew : dW d = (μ.1 8 5).toInt.toNat := by rw [← a3]; rfl
  have eM : kdm μ2 = d := by
    rw [← a3]
    exact kdm_congr (fun l _ => far 9 l (by omega) (by omega)) (far 8 5 (by omega) (by omega)) x1 (fun w hw => ⟨far 12 w (by omega) (by omega), e14 w (by omega), e15 w (by omega)⟩)
  refine ⟨by rw [x1, a1], by rw [x2, a2], eM, ?_, ?_, ?_, fun a b q => by rw [far a b (by omega) (by omega)]; exact a7 a b q⟩
  · unfold kDfOk at a4 ⊢
    rw [eM, x2]
    rw [a3] at a4
    refine ⟨a4.1, by rw [far 8 4 (by omega) (by omega)]; exact a4.2.1, by rw [far 8 5 (by omega) (by omega)]; exact a4.2.2.1, fun l hl => ?_, fun w hw => ?_⟩
    · rw [far 10 l (by omega) (by omega)]
      refine ⟨(a4.2.2.2.1 l hl).1, fun j hj => ?_⟩
      rw [far 11 _ (by omega) (by omega)]
      exact (a4.2.2.2.1 l hl).2 j hj
    · rw [e14 w hw, e15 w hw]
      exact a4.2.2.2.2 w hw
  · unfold kTok kgs at a5 ⊢
    rw [x1, x2, far 13 5 (by omega) (by omega), far 13 4 (by omega) (by omega), far 13 6 (by omega) (by omega)]
    exact ⟨x3 a5.1, a5.2⟩
  · unfold kgs at a6 ⊢
    rw [far 13 5 (by omega) (by omega)]
    exact a6
/-- a group comes with the name that was noted -/
theorem kGrp_at {μ0 μ : kMem} {d : kDr} {s a e : Nat} {g : Int32} (h : kAt μ0 d s μ) (hg : 0 ≤ g.toInt ∧ g.toInt < 17576) (hw : dW d < 20) (h14 : (μ.1 14 (dW d)).toInt = a) (h15 : (μ.1 15 (dW d)).toInt = ((e - a : Nat) : Int)) (hae : a ≤ e ∧ e ≤ kn μ0) : kAt μ0 (drW d g.toInt (tkL (kt μ0) a e)) s (up (up μ 12 (dW d) g) 8 5 (Int32.ofInt ((μ.1 8 5).toInt + 1))) := by
  obtain ⟨a1, a2, a3, a4, a5, a6, a7⟩ := h
  have hdw := kDf_w a4
  rw [a3] at hdw
  have far : ∀ a b : Nat, a ≠ 12 → ¬ (a = 8 ∧ b = 5) → (up (up μ 12 (dW d) g) 8 5 (Int32.ofInt ((μ.1 8 5).toInt + 1))).1 a b = μ.1 a b := fun a b n1 n2 => by rw [up_ne _ _ n2, up_neo _ _ n1]
  have e12 : ∀ w, w ≠ dW d → (up (up μ 12 (dW d) g) 8 5 (Int32.ofInt ((μ.1 8 5).toInt + 1))).1 12 w = μ.1 12 w := fun w hw => by rw [up_neo _ _ (by decide), up_nek _ _ hw]
  have e12b : (up (up μ 12 (dW d) g) 8 5 (Int32.ofInt ((μ.1 8 5).toInt + 1))).1 12 (dW d) = g := by rw [up_neo _ _ (by decide), up_same]
  have e85 : ((up (up μ 12 (dW d) g) 8 5 (Int32.ofInt ((μ.1 8 5).toInt + 1))).1 8 5).toInt = dW d + 1 := by rw [up_same, ti_ofInt (by omega)]; omega
  obtain ⟨x1, x2, x3⟩ := tx_same (μ := μ) (μ' := up (up μ 12 (dW d) g) 8 5 (Int32.ofInt ((μ.1 8 5).toInt + 1))) (fun a b q => far a b (by omega) (by omega))
  obtain ⟨μ2, hμ2⟩ : ∃ μ2, μ2 = up (up μ 12 (dW d) g) 8 5 (Int32.ofInt ((μ.1 8 5).toInt + 1)) := ⟨_, rfl⟩
  rw [← hμ2] at far e12 e12b e85 x1 x2 x3 ⊢
  have ew : dW d = (μ.1 8 5).toInt.toNat := by rw [← a3]; rfl
  have ew2 : dW (kdm μ) = dW d := by rw [a3]
  have e85n : (μ2.1 8 5).toInt.toNat = dW d + 1 := by omega
  have eM : kdm μ2 = drW d g.toInt (tkL (kt μ0) a e) := by
    have b1 : (kdm μ2).1 = (kdm μ).1 := by
      funext l
      show (if l < 26 then (μ2.1 9 l).toInt else 0) = if l < 26 then (μ.1 9 l).toInt else 0
      rw [far 9 l (by omega) (by omega)]
    have b2 : (kdm μ2).2.1 = dW d + 1 := e85n
    have b3 : (kdm μ2).2.2.1 = fun i => if i = dW d then g.toInt else dG d i := by
      funext i
      show (if i < (μ2.1 8 5).toInt.toNat then (μ2.1 12 i).toInt else 0) = _
      rw [e85n]
      by_cases q : i = dW d
      · rw [if_pos q, if_pos (by omega), q, e12b]
      · rw [if_neg q, ← a3]
        show _ = if i < (μ.1 8 5).toInt.toNat then (μ.1 12 i).toInt else 0
        rw [e12 i q]
        by_cases q2 : i < dW d
        · rw [if_pos (by omega), if_pos (by omega)]
        · rw [if_neg (by omega), if_neg (by omega)]
    have b4 : (kdm μ2).2.2.2 = fun i => if i = dW d then tkL (kt μ0) a e else dN d i := by
      funext i
      show (if i < (μ2.1 8 5).toInt.toNat then tkL (kt μ2) (μ2.1 14 i).toInt.toNat ((μ2.1 14 i).toInt.toNat + (μ2.1 15 i).toInt.toNat) else []) = _
      rw [e85n, x1, far 14 i (by omega) (by omega), far 15 i (by omega) (by omega)]
      by_cases q : i = dW d
      · rw [if_pos q, if_pos (by omega), q, h14, h15, a1, Int.toNat_natCast, Int.toNat_natCast, show a + (e - a) = e by omega]
      · rw [if_neg q, ← a3]
        show _ = if i < (μ.1 8 5).toInt.toNat then tkL (kt μ) (μ.1 14 i).toInt.toNat ((μ.1 14 i).toInt.toNat + (μ.1 15 i).toInt.toNat) else []
        by_cases q2 : i < dW d
        · rw [if_pos (by omega), if_pos (by omega)]
        · rw [if_neg (by omega), if_neg (by omega)]
    have b1' : (kdm μ2).1 = dM d := by rw [b1, a3]; rfl
    exact Prod.ext b1' (Prod.ext b2 (Prod.ext b3 b4))
  have hL : dL (drW d g.toInt (tkL (kt μ0) a e)) = dL d := rfl
  have hMw : dM (drW d g.toInt (tkL (kt μ0) a e)) = dM d := rfl
  refine ⟨by rw [x1, a1], by rw [x2, a2], eM, ?_, ?_, ?_, fun a b q => by rw [far a b (by omega) (by omega)]; exact a7 a b q⟩
  · unfold kDfOk at a4 ⊢
    rw [a3] at a4
    rw [eM, x2, hL, hMw, e85]
    refine ⟨drW_ok a4.1 hg hw, by rw [far 8 4 (by decide) (by decide)]; exact a4.2.1, by omega, ?_, fun w hw2 => ?_⟩
    · intro l hl
      rw [far 10 l (by omega) (by omega)]
      refine ⟨(a4.2.2.2.1 l hl).1, fun j hj => ?_⟩
      rw [far 11 _ (by omega) (by omega)]
      exact (a4.2.2.2.1 l hl).2 j hj
    · rw [far 14 w (by omega) (by omega), far 15 w (by omega) (by omega)]
      have hw2 : w < dW d + 1 := hw2
      by_cases q : w = dW d
      · rw [q, h14, h15, a2]
        omega
      · exact a4.2.2.2.2 w (by omega)
  · unfold kTok kgs at a5 ⊢
    rw [x1, x2, far 13 5 (by omega) (by omega), far 13 4 (by omega) (by omega), far 13 6 (by omega) (by omega)]
    exact ⟨x3 a5.1, a5.2⟩
  · unfold kgs at a6 ⊢
    rw [far 13 5 (by omega) (by omega)]
    exact a6

