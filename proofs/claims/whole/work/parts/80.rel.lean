/-! ===== the relation between the class's memory and the model's ===== -/
def rTx (κ μ : kMem) : Prop := kTxOk κ ∧ mTxOk μ ∧ κ.1 1 1 = μ.1 0 1 ∧ ∀ i : Nat, (κ.1 2 i).toInt = (μ.1 1 i).toInt % 256
def rCd (κ μ : kMem) : Prop := kSzOk κ ∧ ∃ d : kDr, dOk d ∧ kCod d κ ∧ mCod d μ
def rHd (κ μ : kMem) : Prop := kSpOk κ ∧ mHdOk μ ∧ κ.1 16 1 = μ.1 0 18 ∧ ∀ i : Nat, (μ.1 14 i).toInt = (κ.1 17 i).toInt / 1000 ∧ (μ.1 15 i).toInt = (κ.1 17 i).toInt % 1000
def rLn (κ μ : kMem) : Prop := kLnOk κ ∧ mLnOk μ ∧ κ.1 18 7 = μ.1 0 19 ∧ κ.1 18 8 = μ.1 0 20 ∧ ∀ i : Nat, κ.1 19 i = μ.1 16 i ∧ κ.1 20 i = μ.1 17 i ∧ κ.1 21 i = μ.1 18 i ∧ κ.1 22 i = μ.1 19 i
def rTp (κ μ : kMem) : Prop := kTpOk κ ∧ mTpOk μ ∧ κ.1 25 1 = μ.1 0 21 ∧ ∀ j : Nat, (j : Int) < (κ.1 25 1).toInt → κ.1 26 j = μ.1 20 j
def rPs (κ μ : kMem) : Prop := kPsOk κ ∧ mPsOk μ ∧ κ.1 37 6 = μ.1 0 36 ∧ ∀ i : Nat, κ.1 38 i = μ.1 26 i ∧ κ.1 39 i = μ.1 27 i ∧ κ.1 40 i = μ.1 28 i ∧ κ.1 41 i = μ.1 29 i ∧ κ.1 42 i = μ.1 30 i
def rCl (κ μ : kMem) : Prop := kClOk κ ∧ mClOk μ ∧ κ.1 49 4 = μ.1 0 54 ∧ κ.1 49 8 = μ.1 0 55 ∧ ∀ i : Nat, κ.1 50 i = μ.1 40 i ∧ κ.1 51 i = μ.1 41 i ∧ κ.1 52 i = μ.1 42 i ∧ κ.1 53 i = μ.1 43 i ∧ κ.1 54 i = μ.1 44 i ∧ κ.1 55 i = μ.1 45 i ∧ κ.1 56 i = μ.1 46 i
def Rl (κ μ : kMem) : Prop := rTx κ μ ∧ rCd κ μ ∧ rHd κ μ ∧ rLn κ μ ∧ rTp κ μ ∧ rPs κ μ ∧ rCl κ μ
theorem rTx.cg {κ κ' μ μ' : kMem} (h : rTx κ μ) (hk : ∀ a b : Nat, (a = 1 ∧ b = 1) ∨ a = 2 → κ'.1 a b = κ.1 a b) (hm : ∀ a b : Nat, (a = 0 ∧ b = 1) ∨ a = 1 → μ'.1 a b = μ.1 a b) : rTx κ' μ' := by
  unfold rTx kTxOk mTxOk at h ⊢
  simp (disch := omega) only [hk, hm]
  exact h
theorem rCd.cg {κ κ' μ μ' : kMem} (h : rCd κ μ) (hk : ∀ a b : Nat, (a = 3 ∧ (b = 4 ∨ b = 5)) ∨ (4 ≤ a ∧ a ≤ 7) → κ'.1 a b = κ.1 a b) (hm : ∀ a b : Nat, a = 3 ∨ a = 6 ∨ ((a = 11 ∨ a = 12) ∧ b = 0) → μ'.1 a b = μ.1 a b) : rCd κ' μ' := by
  unfold rCd kSzOk kCod mCod at h ⊢
  simp (disch := omega) only [hk, hm]
  exact h
theorem rHd.cg {κ κ' μ μ' : kMem} (h : rHd κ μ) (hk : ∀ a b : Nat, (a = 16 ∧ b = 1) ∨ a = 17 → κ'.1 a b = κ.1 a b) (hm : ∀ a b : Nat, (a = 0 ∧ b = 18) ∨ a = 14 ∨ a = 15 → μ'.1 a b = μ.1 a b) : rHd κ' μ' := by
  unfold rHd kSpOk mHdOk at h ⊢
  simp (disch := omega) only [hk, hm]
  exact h
theorem rLn.cg {κ κ' μ μ' : kMem} (h : rLn κ μ) (hk : ∀ a b : Nat, (a = 18 ∧ (b = 7 ∨ b = 8)) ∨ (19 ≤ a ∧ a ≤ 22) → κ'.1 a b = κ.1 a b) (hm : ∀ a b : Nat, (a = 0 ∧ (b = 19 ∨ b = 20)) ∨ (16 ≤ a ∧ a ≤ 19) → μ'.1 a b = μ.1 a b) : rLn κ' μ' := by
  unfold rLn kLnOk mLnOk at h ⊢
  simp (disch := omega) only [hk, hm]
  exact h
theorem rTp.cg {κ κ' μ μ' : kMem} (h : rTp κ μ) (hk : ∀ a b : Nat, (a = 25 ∧ b = 1) ∨ a = 26 → κ'.1 a b = κ.1 a b) (hm : ∀ a b : Nat, (a = 0 ∧ b = 21) ∨ a = 20 → μ'.1 a b = μ.1 a b) : rTp κ' μ' := by
  unfold rTp kTpOk mTpOk at h ⊢
  simp (disch := omega) only [hk, hm]
  exact h
theorem rPs.cg {κ κ' μ μ' : kMem} (h : rPs κ μ) (hk : ∀ a b : Nat, (a = 37 ∧ b = 6) ∨ (38 ≤ a ∧ a ≤ 42) ∨ (a = 18 ∧ b ≠ 6) ∨ (18 < a ∧ a < 23) → κ'.1 a b = κ.1 a b) (hm : ∀ a b : Nat, (a = 0 ∧ b = 36) ∨ (26 ≤ a ∧ a ≤ 30) ∨ (a = 0 ∧ (b = 19 ∨ b = 20)) ∨ (16 ≤ a ∧ a ≤ 19) → μ'.1 a b = μ.1 a b) : rPs κ' μ' := by
  have l1 := (lSame_all (show lSame κ κ' from ⟨fun b q => hk 18 b (by omega), fun a b q1 q2 => hk a b (by omega)⟩)).1
  have l2 := (mLsame_all (show mLsame μ μ' from fun a b q => hm a b (by omega))).2.2.2.2.1
  unfold rPs kPsOk mPsOk kpE kpS mpE mpS at h ⊢
  rw [l1, l2]
  simp (disch := omega) only [hk, hm]
  exact h
theorem rCl.cg {κ κ' μ μ' : kMem} (h : rCl κ μ) (hk : ∀ a b : Nat, (a = 49 ∧ (b = 4 ∨ b = 8)) ∨ (50 ≤ a ∧ a ≤ 56) → κ'.1 a b = κ.1 a b) (hm : ∀ a b : Nat, (a = 0 ∧ (b = 54 ∨ b = 55)) ∨ (40 ≤ a ∧ a ≤ 46) → μ'.1 a b = μ.1 a b) : rCl κ' μ' := by
  unfold rCl kClOk mClOk at h ⊢
  simp (disch := omega) only [hk, hm]
  exact h
theorem Rl.sm {κ κ' μ μ' : kMem} (h : Rl κ μ) (hk : kSm κ κ') (hm : mSm μ μ') : Rl κ' μ' := by
  obtain ⟨h1, h2, h3, h4, h5, h6, h7⟩ := h
  exact ⟨h1.cg (fun a b q => hk a b (by unfold relK; omega)) (fun a b q => hm a b (by unfold relM; omega)),
    h2.cg (fun a b q => hk a b (by unfold relK; omega)) (fun a b q => hm a b (by unfold relM; omega)),
    h3.cg (fun a b q => hk a b (by unfold relK; omega)) (fun a b q => hm a b (by unfold relM; omega)),
    h4.cg (fun a b q => hk a b (by unfold relK; omega)) (fun a b q => hm a b (by unfold relM; omega)),
    h5.cg (fun a b q => hk a b (by unfold relK; omega)) (fun a b q => hm a b (by unfold relM; omega)),
    h6.cg (fun a b q => hk a b (by unfold relK; omega)) (fun a b q => hm a b (by unfold relM; omega)),
    h7.cg (fun a b q => hk a b (by unfold relK; omega)) (fun a b q => hm a b (by unfold relM; omega))⟩
theorem kGo.sm {κ κ' : kMem} (h : kGo κ κ') : kSm κ κ' := fun a b q => h a b (by unfold relK at q; omega)
theorem mGo.sm {μ μ' : kMem} (h : mGo μ μ') : mSm μ μ' := fun a b q => h a b (by unfold relM at q; omega) (by unfold relM at q; omega) (by unfold relM at q; omega) (by unfold relM at q; omega)
/-! what both sides read is the same -/
theorem rTx.t {κ μ : kMem} (h : rTx κ μ) : kt κ = mt μ ∧ kn κ = mn μ := by
  obtain ⟨-, -, h3, h4⟩ := h
  refine ⟨funext fun i => h4 i, ?_⟩
  unfold kn mn
  rw [h3]
theorem rCd.sz {κ μ : kMem} (h : rCd κ μ) : (rsz κ = msz μ ∧ rkd κ = mkd μ) ∧ mCdOk μ ∧ (0 ≤ (κ.1 3 5).toInt ∧ (κ.1 3 5).toInt ≤ 20) ∧ κ.1 3 5 = μ.1 12 0 ∧ κ.1 3 4 = μ.1 11 0 ∧ (∀ w : Nat, (w : Int) < (κ.1 3 5).toInt → κ.1 7 w = μ.1 6 w ∧ 0 ≤ (κ.1 7 w).toInt) ∧ ∀ l : Nat, l < 26 → κ.1 4 l = μ.1 3 l ∧ (0 < (κ.1 5 l).toInt ↔ 0 < (μ.1 3 l).toInt) := by
  obtain ⟨h0, d, h1, ⟨k1, k2, k3, k4⟩, ⟨m1, m2, m3, m4⟩⟩ := h
  have hd := h1.1
  have emk : ∀ l : Int, mmk μ l = if 0 ≤ l ∧ l < 26 then dM d l.toNat else 0 := fun l => by
    unfold mmk
    by_cases q : 0 ≤ l ∧ l < 26
    · rw [if_pos q, if_pos q]
      exact m1 _ (by omega)
    · rw [if_neg q, if_neg q]
  have esz : rsz κ = msz μ := by
    funext l
    unfold rsz msz pSz ksz
    rw [emk]
    by_cases q : 0 ≤ l ∧ l < 26
    · rw [if_pos q, if_pos q, (k1 _ (by omega)).2.1]
      omega
    · rw [if_neg q, if_neg q, dnF_zero (Int.le_refl _)]
      rfl
  refine ⟨⟨esz, ?_⟩, fun l hl => by rw [m1 l hl]; exact h1.2.1 l, by omega, ti_ext (by omega), ti_ext (by omega), fun w hw => ⟨ti_ext (by rw [k4 w (by omega), m4 w (by omega)]), by rw [k4 w (by omega)]; exact (h1.2.2 w (by omega)).1⟩, fun l hl => ⟨ti_ext (by rw [(k1 l hl).1, m1 l hl]), ?_⟩⟩
  · funext l i
    have e2 : (ksz κ l).toInt = (rsz κ l : Int) := by
      have := ksz_b h0 l
      unfold rsz
      omega
    unfold rkd mkd pKd kkd
    rw [e2, esz]
    unfold msz pSz
    rw [emk]
    by_cases q : 0 ≤ l ∧ l < 26
    · rw [if_pos q]
      by_cases q2 : i < dnF 5 (dM d l.toNat)
      · rw [if_pos (by omega), if_pos q2]
        have := (k1 l.toNat (by omega)).2.2 (dnF 5 (dM d l.toNat) - 1 - i) (by omega)
        rw [← this, show (l * 5 + ((dnF 5 (dM d l.toNat) : Nat) : Int) - 1 - (i : Int)).toNat = l.toNat * 5 + (dnF 5 (dM d l.toNat) - 1 - i) by omega]
      · rw [if_neg (by omega), if_neg q2]
        rfl
    · rw [if_neg q, dnF_zero (Int.le_refl _), if_neg (by omega), if_neg (by omega)]
      rfl
  · have q := dnF_pos (m := dM d l)
    rw [(k1 l hl).2.1, m1 l hl]
    omega

