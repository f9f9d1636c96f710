/-! ===== the steps: calls that change nothing that is told ===== -/
theorem kthF_cg {p q : Nat → Prop} {k : Int} : ∀ m i f, (∀ j, i ≤ j → j < i + m → (p j ↔ q j)) → kthF p k m i f = kthF q k m i f := by
  intro m
  induction m with
  | zero => intro i f _; rfl
  | succ m ih =>
    intro i f h
    have h1 := ih (i + 1) f (fun j a b => h j (by omega) (by omega))
    have h2 := ih (i + 1) (f + 1) (fun j a b => h j (by omega) (by omega))
    have h3 := h i (Nat.le_refl _) (by omega)
    by_cases c : p i
    · rw [kthF_t c, kthF_t (h3.mp c), h2]
    · rw [kthF_f c, kthF_f (fun z => c (h3.mpr z)), h1]
theorem susF_cg {p q : Nat → Prop} {g : Nat → Int} {k : Int} : ∀ m i f, (∀ j, i ≤ j → j < i + m → (p j ↔ q j)) → susF p g k m i f = susF q g k m i f := by
  intro m
  induction m with
  | zero => intro i f _; rfl
  | succ m ih =>
    intro i f h
    have h1 := ih (i + 1) f (fun j a b => h j (by omega) (by omega))
    have h2 := ih (i + 1) (f + 1) (fun j a b => h j (by omega) (by omega))
    have h3 := h i (Nat.le_refl _) (by omega)
    by_cases c : p i
    · rw [susF_t c, susF_t (h3.mp c), h2]
    · rw [susF_f c, susF_f (fun z => c (h3.mpr z)), h1]
theorem Rl.eq {κ μ κ' μ' : kMem} (h : Rl κ μ) (h1 : κ' = κ) (h2 : μ' = μ) : Rl κ' μ' := by
  subst h1 h2
  exact h
theorem st_fault {κ μ κ' μ' : kMem} {r r' : Int32} (h : Rl κ μ) (hk : kGo κ κ' ∧ ((∃ p : Nat, paF (kt κ) (kn κ) = .inl p ∧ r = Int32.ofInt p ∧ p ≤ 500) ∨ (∃ d, paF (kt κ) (kn κ) = .inr d ∧ r = Int32.ofInt (-1)))) (hm : mGo μ μ' ∧ ((∃ p : Nat, paF (mt μ) (mn μ) = .inl p ∧ r' = Int32.ofInt p ∧ p ≤ 500) ∨ (∃ d, paF (mt μ) (mn μ) = .inr d ∧ r' = Int32.ofInt (-1)))) : r = r' ∧ Rl κ' μ' := by
  have e := h.1.t
  refine ⟨?_, h.sm hk.1.sm hm.1.sm⟩
  rw [← e.1, ← e.2] at hm
  rcases hk.2 with ⟨p, p1, p2, -⟩ | ⟨d, p1, p2⟩
  · rcases hm.2 with ⟨q, q1, q2, -⟩ | ⟨f, q1, q2⟩
    · rw [p1] at q1
      injection q1 with q1
      rw [p2, q2, q1]
    · rw [p1] at q1
      cases q1
  · rcases hm.2 with ⟨q, q1, q2, -⟩ | ⟨f, q1, q2⟩
    · rw [p1] at q1
      cases q1
    · rw [p2, q2]
theorem st_marks {a1 : Int32} {κ μ κ' μ' : kMem} {r r' : Int32} (h : Rl κ μ) (hk : κ' = κ ∧ ((0 ≤ a1.toInt ∧ a1.toInt < 26 ∧ 0 < (κ.1 5 a1.toInt.toNat).toInt ∧ r = κ.1 4 a1.toInt.toNat) ∨ (¬ (0 ≤ a1.toInt ∧ a1.toInt < 26 ∧ 0 < (κ.1 5 a1.toInt.toNat).toInt) ∧ r = Int32.ofInt (-1)))) (hm : r' = (if 0 ≤ a1.toInt ∧ a1.toInt < 26 ∧ 0 < (μ.1 3 a1.toInt.toNat).toInt then μ.1 3 a1.toInt.toNat else Int32.ofInt (-1)) ∧ μ' = μ) : r = r' ∧ Rl κ' μ' := by
  have e := h.2.1.sz.2.2.2.2.2.2 a1.toInt.toNat
  refine ⟨?_, h.eq hk.1 hm.2⟩
  rw [hm.1]
  rcases hk.2 with ⟨p1, p2, p3, p4⟩ | ⟨p1, p2⟩
  · have e := e (by omega)
    rw [if_pos ⟨p1, p2, e.2.mp p3⟩, p4, e.1]
  · rw [if_neg (fun z => p1 ⟨z.1, z.2.1, (e (by omega)).2.mpr z.2.2⟩), p2]
theorem st_group {a1 : Int32} {κ μ κ' μ' : kMem} {r r' : Int32} (h : Rl κ μ) (hk : r = (kgr κ a1.toInt) ∧ κ' = κ) (hm : r' = (if 0 ≤ a1.toInt ∧ a1.toInt < (μ.1 12 0).toInt then μ.1 6 a1.toInt.toNat else Int32.ofInt (-1)) ∧ μ' = μ) : r = r' ∧ Rl κ' μ' := by
  have e := h.2.1.sz
  refine ⟨?_, h.eq hk.2 hm.2⟩
  rw [hm.1, hk.1, ← e.2.2.2.1]
  unfold kgr
  by_cases q : 0 ≤ a1.toInt ∧ a1.toInt < (κ.1 3 5).toInt
  · rw [if_pos q, if_pos q]
    exact (e.2.2.2.2.2.1 _ (by omega)).1
  · rw [if_neg q, if_neg q]
theorem st_bite {a1 : Int32} {κ μ κ' μ' : kMem} {r r' : Int32} (h : Rl κ μ) (hk : r = (if 0 ≤ a1.toInt ∧ a1.toInt < (κ.1 18 7).toInt then Int32.ofInt (kbi κ a1.toInt) else Int32.ofInt (-1)) ∧ κ' = κ) (hm : r' = (if 0 ≤ a1.toInt ∧ a1.toInt < (μ.1 0 19).toInt then Int32.ofInt (mbi μ a1.toInt) else Int32.ofInt (-1)) ∧ μ' = μ) : r = r' ∧ Rl κ' μ' := by
  have e := h.2.2.2.1
  refine ⟨?_, h.eq hk.2 hm.2⟩
  rw [hm.1, hk.1, ← e.2.2.1]
  by_cases q : 0 ≤ a1.toInt ∧ a1.toInt < (κ.1 18 7).toInt
  · rw [if_pos q, if_pos q, e.bi q]
  · rw [if_neg q, if_neg q]
theorem st_tape {a1 : Int32} {κ μ κ' μ' : kMem} {r r' : Int32} (h : Rl κ μ) (hk : r = (tpt κ a1.toInt) ∧ κ' = κ) (hm : r' = (if 0 ≤ a1.toInt ∧ a1.toInt < (μ.1 0 21).toInt then μ.1 20 a1.toInt.toNat else Int32.ofInt (-1)) ∧ μ' = μ) : r = r' ∧ Rl κ' μ' := by
  have e := h.2.2.2.2.1
  refine ⟨?_, h.eq hk.2 hm.2⟩
  rw [hm.1, hk.1, ← e.2.2.1]
  unfold tpt
  by_cases q : 0 ≤ a1.toInt ∧ a1.toInt < (κ.1 25 1).toInt
  · rw [if_pos q, if_pos q]
    exact e.2.2.2 _ (by omega)
  · rw [if_neg q, if_neg q]
theorem Rl.mc {κ μ : kMem} (h : Rl κ μ) {x y : Int} (hc : kcan κ x y) : 0 < mmc μ := by
  have e := h.2.2.2.2.1
  have h1 := hc.2.2
  have h2 := e.1.1
  have h3 := e.n.2
  rw [← h3]
  unfold kmc ktn
  omega
theorem st_readings {a1 a2 : Int32} {κ μ κ' μ' : kMem} {r r' : Int32} (h : Rl κ μ) (hk : (¬ kcan κ a1.toInt a2.toInt ∧ r = Int32.ofInt (-1) ∧ κ' = κ) ∨ (kcan κ a1.toInt a2.toInt ∧ kSm κ κ' ∧ ∃ W : Nat → Int, r.toInt = W 0 ∧ ∀ j, j < kmc κ → W j = pRe (kcs κ a1.toInt a2.toInt) (kmc κ) (rsz κ) (rkd κ) W j)) (hm : (¬ mcan μ a1.toInt a2.toInt ∧ r' = Int32.ofInt (-1) ∧ μ' = μ) ∨ (mcan μ a1.toInt a2.toInt ∧ mSm μ μ' ∧ ∃ W : Nat → Int, r'.toInt = W 0 ∧ ∀ j, j < mmc μ → W j = pRe (mcs μ a1.toInt a2.toInt) (mmc μ) (msz μ) (mkd μ) W j)) : r = r' ∧ Rl κ' μ' := by
  rcases hk with ⟨p1, p2, p3⟩ | ⟨p1, p2, W, p3, p4⟩
  · rcases hm with ⟨q1, q2, q3⟩ | ⟨q1, q2, V, q3, q4⟩
    · exact ⟨by rw [p2, q2], h.eq p3 q3⟩
    · exact absurd ((h.can _ _).mpr q1) p1
  · rcases hm with ⟨q1, q2, q3⟩ | ⟨q1, q2, V, q3, q4⟩
    · exact absurd ((h.can _ _).mp p1) q1
    · refine ⟨ti_ext ?_, h.sm p2 q2⟩
      have e1 := h.cs p1.1 p1.2.1
      have e2 := h.2.2.2.2.1.n.2
      have e3 := h.2.1.sz.1
      rw [e1, e2, e3.1, e3.2] at p4
      rw [p3, q3]
      exact pRe_uniq p4 q4 (h.mc p1)
theorem st_nearest {a1 a2 a3 : Int32} {κ μ κ' μ' : kMem} {r r' : Int32} (h : Rl κ μ) (hk : (¬ kcan κ a1.toInt a2.toInt ∧ r = Int32.ofInt (-1) ∧ κ' = κ) ∨ (kcan κ a1.toInt a2.toInt ∧ kSm κ κ' ∧ nrA (kcs κ a1.toInt a2.toInt) (kmc κ) (rsz κ) (rkd κ) a3.toInt r.toInt)) (hm : (¬ mcan μ a1.toInt a2.toInt ∧ r' = Int32.ofInt (-1) ∧ μ' = μ) ∨ (mcan μ a1.toInt a2.toInt ∧ mSm μ μ' ∧ nrA (mcs μ a1.toInt a2.toInt) (mmc μ) (msz μ) (mkd μ) a3.toInt r'.toInt)) : r = r' ∧ Rl κ' μ' := by
  rcases hk with ⟨p1, p2, p3⟩ | ⟨p1, p2, p3⟩
  · rcases hm with ⟨q1, q2, q3⟩ | ⟨q1, q2, q3⟩
    · exact ⟨by rw [p2, q2], h.eq p3 q3⟩
    · exact absurd ((h.can _ _).mpr q1) p1
  · rcases hm with ⟨q1, q2, q3⟩ | ⟨q1, q2, q3⟩
    · exact absurd ((h.can _ _).mp p1) q1
    · refine ⟨ti_ext ?_, h.sm p2 q2⟩
      have e1 := h.cs p1.1 p1.2.1
      have e2 := h.2.2.2.2.1.n.2
      have e3 := h.2.1.sz.1
      rw [e1, e2, e3.1, e3.2] at p3
      exact nrA_uniq p3 q3 (h.mc p1)
theorem Rl.canS {κ μ : kMem} (h : Rl κ μ) : kCanS κ ↔ mCanS μ := by
  have e := h.1.t
  unfold kCanS mCanS
  rw [e.1, e.2, h.2.2.2.2.1.2.2.1]
theorem st_suspects {a1 : Int32} {κ μ κ' μ' : kMem} {r r' : Int32} (h : Rl κ μ) (hk : (¬ kCanS κ ∧ r = Int32.ofInt (-1) ∧ κ' = κ) ∨ (kCanS κ ∧ kSm κ κ' ∧ r.toInt = susF (susP (fun h l => kcs κ h l) (kln κ) (ktn κ) (spL κ)) coup a1.toInt (kNh κ * 8) 0 0)) (hm : (¬ mCanS μ ∧ r' = Int32.ofInt (-1) ∧ μ' = μ) ∨ (mCanS μ ∧ mSm μ μ' ∧ r'.toInt = susF (msus μ) coup a1.toInt (mNh μ * 8) 0 0)) : r = r' ∧ Rl κ' μ' := by
  rcases hk with ⟨p1, p2, p3⟩ | ⟨p1, p2, p3⟩
  · rcases hm with ⟨q1, q2, q3⟩ | ⟨q1, q2, q3⟩
    · exact ⟨by rw [p2, q2], h.eq p3 q3⟩
    · exact absurd (h.canS.mpr q1) p1
  · rcases hm with ⟨q1, q2, q3⟩ | ⟨q1, q2, q3⟩
    · exact absurd (h.canS.mp p1) q1
    · refine ⟨ti_ext ?_, h.sm p2 q2⟩
      have en : kNh κ = mNh μ := by unfold kNh mNh; rw [h.2.2.1.2.2.1]
      have h16 := h.ri.1.1
      have hln := kLn_n h.2.2.2.1.1
      rw [p3, q3, ← en]
      refine susF_cg _ _ _ (fun j _ hj => ?_)
      unfold msus susP
      rw [← h.2.2.2.1.st.2.2.1, ← h.2.2.2.2.1.n.1, ← h.sp]
      have hq : j % 8 < kln κ → kcs κ ((j / 8 : Nat) : Int) ((j % 8 : Nat) : Int) = mcs μ ((j / 8 : Nat) : Int) ((j % 8 : Nat) : Int) := fun q => h.cs (by unfold kNh at hj; omega) (by omega)
      exact ⟨fun z => ⟨z.1, by show saysP (mcs μ ((j / 8 : Nat) : Int) ((j % 8 : Nat) : Int)) _ _; rw [← hq z.1]; exact z.2⟩, fun z => ⟨z.1, by show saysP (kcs κ ((j / 8 : Nat) : Int) ((j % 8 : Nat) : Int)) _ _; rw [hq z.1]; exact z.2⟩⟩
theorem st_likelier {a1 a2 a3 : Int32} {κ μ κ' μ' : kMem} {r r' : Int32} (h : Rl κ μ) (hk : kSm κ κ' ∧ r.toInt = likA (kLikC κ a1.toInt a2.toInt a3.toInt) (pdP (kchK κ a1.toInt) (spL κ)) (pdP (kchK κ a2.toInt) (spL κ))) (hm : mSm μ μ' ∧ r'.toInt = likA (mLikC μ a1.toInt a2.toInt a3.toInt) (pdP (mchK μ a1.toInt) (mSpl μ)) (pdP (mchK μ a2.toInt) (mSpl μ))) : r = r' ∧ Rl κ' μ' := by
  refine ⟨ti_ext ?_, h.sm hk.1 hm.1⟩
  rw [hk.2, hm.2]
  have e := h.1.t
  have esp := h.sp
  have key : ∀ x l : Int, kcan κ x l → kcs κ x l = mcs μ x l ∧ kchK κ x = mchK μ x := fun x l q => by
    refine ⟨h.cs q.1 q.2.1, ?_⟩
    have := h.2.2.1.le q.1
    unfold kchK mchK
    rw [this.1, this.2]
  have etn := h.2.2.2.2.1.n.1
  have ec : kLikC κ a1.toInt a2.toInt a3.toInt ↔ mLikC μ a1.toInt a2.toInt a3.toInt := by
    unfold kLikC mLikC
    rw [← h.can, ← h.can, e.1, e.2, esp, etn]
    constructor
    · rintro ⟨z1, z2, z3, z4, z5⟩
      rw [(key _ _ z1).1] at z4
      rw [(key _ _ z2).1] at z5
      exact ⟨z1, z2, z3, z4, z5⟩
    · rintro ⟨z1, z2, z3, z4, z5⟩
      rw [← (key _ _ z1).1] at z4
      rw [← (key _ _ z2).1] at z5
      exact ⟨z1, z2, z3, z4, z5⟩
  unfold likA
  by_cases c : kLikC κ a1.toInt a2.toInt a3.toInt
  · rw [if_pos c, if_pos (ec.mp c), (key _ _ c.1).2, (key _ _ c.2.1).2, esp]
  · rw [if_neg c, if_neg (fun z => c (ec.mpr z))]
theorem st_mended {a1 a2 a3 : Int32} {κ μ κ' μ' : kMem} {r r' : Int32} (h : Rl κ μ) (hk : r = (if (0 ≤ a1.toInt ∧ a1.toInt < 17576) ∧ 0 ≤ a2.toInt ∧ a2.toInt ≤ 3 then Int32.ofInt (kthF (fun w => unF 3 (κ.1 7 w).toInt a1.toInt ≤ a2.toInt) a3.toInt (κ.1 3 5).toInt.toNat 0 0) else Int32.ofInt (-1)) ∧ κ' = κ) (hm : r' = (if (0 ≤ a1.toInt ∧ a1.toInt < 17576) ∧ 0 ≤ a2.toInt ∧ a2.toInt ≤ 3 then Int32.ofInt (kthF (fun w => unF 3 (μ.1 6 w).toInt a1.toInt ≤ a2.toInt) a3.toInt (μ.1 12 0).toInt.toNat 0 0) else Int32.ofInt (-1)) ∧ μ' = μ) : r = r' ∧ Rl κ' μ' := by
  have e := h.2.1.sz
  refine ⟨?_, h.eq hk.2 hm.2⟩
  rw [hm.1, hk.1, ← e.2.2.2.1]
  by_cases q : (0 ≤ a1.toInt ∧ a1.toInt < 17576) ∧ 0 ≤ a2.toInt ∧ a2.toInt ≤ 3
  · rw [if_pos q, if_pos q, kthF_cg]
    intro j _ hj
    rw [(e.2.2.2.2.2.1 j (by have := e.2.2.1; omega)).1]
  · rw [if_neg q, if_neg q]
theorem st_route {a1 a2 a3 : Int32} {κ μ κ' μ' : kMem} {r r' : Int32} (h : Rl κ μ) (hk : kSm κ κ' ∧ r.toInt = rouA (kst_ κ) (ken_ κ) (kln κ) a1.toInt a2.toInt a3.toInt) (hm : mSm μ μ' ∧ r'.toInt = rouA (mst_ μ) (men_ μ) (mln μ) a1.toInt a2.toInt a3.toInt) : r = r' ∧ Rl κ' μ' := by
  refine ⟨ti_ext ?_, h.sm hk.1 hm.1⟩
  obtain ⟨l1, l2, l3, -⟩ := h.2.2.2.1.st
  rw [hk.2, hm.2, l1, l2, l3]
theorem st_sent {a1 a2 a3 : Int32} {κ μ κ' μ' : kMem} {r r' : Int32} (h : Rl κ μ) (hk : kSm κ κ' ∧ r.toInt = senA (kpd κ) (fun a1 => ksn κ (kpE κ a1) (kpS κ a1)) a1.toInt a2.toInt a3.toInt) (hm : mSm μ μ' ∧ r'.toInt = senA (mpd μ) (msnm μ) a1.toInt a2.toInt a3.toInt) : r = r' ∧ Rl κ' μ' := by
  refine ⟨ti_ext ?_, h.sm hk.1 hm.1⟩
  obtain ⟨d1, d2⟩ := h.2.2.2.2.2.1.d h.2.2.2.1
  rw [hk.2, hm.2, d1, ← d2]
theorem st_tap {a1 a2 : Int32} {κ μ κ' μ' : kMem} {r r' : Int32} (h : Rl κ μ) (hk : kSm κ κ' ∧ r.toInt = if 0 ≤ a1.toInt ∧ a1.toInt < (κ.1 18 7).toInt then khd (sH (pRun (kpd κ) 8001) a1.toInt.toNat) a2.toInt else -1) (hm : mSm μ μ' ∧ r'.toInt = if 0 ≤ a1.toInt ∧ a1.toInt < (μ.1 0 19).toInt then khd (sH (pRun (mpd μ) 8001) a1.toInt.toNat) a2.toInt else -1) : r = r' ∧ Rl κ' μ' := by
  refine ⟨ti_ext ?_, h.sm hk.1 hm.1⟩
  obtain ⟨d1, d2⟩ := h.2.2.2.2.2.1.d h.2.2.2.1
  rw [hk.2, hm.2, d1, h.2.2.2.1.2.2.1]
theorem st_apart {a1 a2 a3 : Int32} {κ μ κ' μ' : kMem} {r r' : Int32} (h : Rl κ μ) (hk : kSm κ κ' ∧ r.toInt = apaA (kEv2 κ a1.toInt a2.toInt ∧ kCan κ) (kLo κ a1.toInt a2.toInt) (kHi κ a1.toInt a2.toInt) a3.toInt) (hm : moOnly μ μ' ∧ r'.toInt = apaA (mEv2 μ a1.toInt a2.toInt ∧ mCan μ) (mLo μ a1.toInt a2.toInt) (mHi μ a1.toInt a2.toInt) a3.toInt) : r = r' ∧ Rl κ' μ' := by
  have e := h.2.2.2.2.2.2.both
  refine ⟨ti_ext ?_, h.sm hk.1 (moOnly_all hm.1).1⟩
  rw [hk.2, hm.2]
  unfold apaA
  by_cases c : kEv2 κ a1.toInt a2.toInt ∧ kCan κ
  · have c2 : mEv2 μ a1.toInt a2.toInt ∧ mCan μ := ⟨by rw [← e.2.1]; exact c.1, e.1.mp c.2⟩
    rw [if_pos c, if_pos c2, (e.2.2 c.2).1, (e.2.2 c.2).2]
  · have c2 : ¬ (mEv2 μ a1.toInt a2.toInt ∧ mCan μ) := fun z => c ⟨by rw [e.2.1]; exact z.1, e.1.mpr z.2⟩
    rw [if_neg c, if_neg c2]
theorem st_first {a1 a2 : Int32} {κ μ κ' μ' : kMem} {r r' : Int32} (h : Rl κ μ) (hk : kSm κ κ' ∧ r.toInt = firA (kEv2 κ a1.toInt a2.toInt ∧ kCan κ) (kLo κ a1.toInt a2.toInt) (kHi κ a1.toInt a2.toInt)) (hm : moOnly μ μ' ∧ r'.toInt = firA (mEv2 μ a1.toInt a2.toInt ∧ mCan μ) (mLo μ a1.toInt a2.toInt) (mHi μ a1.toInt a2.toInt)) : r = r' ∧ Rl κ' μ' := by
  have e := h.2.2.2.2.2.2.both
  refine ⟨ti_ext ?_, h.sm hk.1 (moOnly_all hm.1).1⟩
  rw [hk.2, hm.2]
  unfold firA
  by_cases c : kEv2 κ a1.toInt a2.toInt ∧ kCan κ
  · have c2 : mEv2 μ a1.toInt a2.toInt ∧ mCan μ := ⟨by rw [← e.2.1]; exact c.1, e.1.mp c.2⟩
    rw [if_pos c, if_pos c2, (e.2.2 c.2).1, (e.2.2 c.2).2]
  · have c2 : ¬ (mEv2 μ a1.toInt a2.toInt ∧ mCan μ) := fun z => c ⟨by rw [e.2.1]; exact z.1, e.1.mpr z.2⟩
    rw [if_neg c, if_neg c2]
theorem st_count {a1 : Int32} {κ μ κ' μ' : kMem} {r r' : Int32} (h : Rl κ μ) (hk : r = (kcnt κ a1.toInt) ∧ κ' = κ) (hm : r' = (mcnt μ a1.toInt) ∧ μ' = μ) : r = r' ∧ Rl κ' μ' := by
  have e := h.2.1.sz
  refine ⟨?_, h.eq hk.2 hm.2⟩
  rw [hk.1, hm.1]
  unfold kcnt mcnt
  rw [e.2.2.2.1, e.2.2.2.2.1, h.2.2.1.2.2.1, h.2.2.2.1.2.2.1, h.2.2.2.1.2.2.2.1, h.2.2.2.2.1.2.2.1, h.2.2.2.2.2.1.2.2.1, h.2.2.2.2.2.2.2.2.1, h.2.2.2.2.2.2.2.2.2.1, h.1.2.2.1]

