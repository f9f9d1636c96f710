/-! ===== the relation: what both sides read ===== -/
theorem rHd.le {κ μ : kMem} (h : rHd κ μ) {x : Int} (hx : 0 ≤ x ∧ x < (κ.1 16 1).toInt) : kle κ x = mle μ x ∧ kge κ x = mge μ x := by
  obtain ⟨h1, h2, h3, h4⟩ := h
  refine ⟨funext fun k => ?_, funext fun k => ?_⟩
  · unfold kle mle ksp
    by_cases q : 0 ≤ k ∧ k < 5
    · rw [if_pos ⟨hx.1, hx.2, q.1, q.2⟩, if_pos q, (h4 _).1]
    · rw [if_neg (fun z => q z.2.2), if_neg q]
      rfl
  · unfold kge mge ksp
    by_cases q : 0 ≤ k ∧ k < 5
    · rw [if_pos ⟨hx.1, hx.2, q.1, q.2⟩, if_pos q, (h4 _).2]
    · rw [if_neg (fun z => q z.2.2), if_neg q]
      rfl
theorem rLn.bi {κ μ : kMem} (h : rLn κ μ) {x : Int} (hx : 0 ≤ x ∧ x < (κ.1 18 7).toInt) : kbi κ x = mbi μ x := by
  obtain ⟨h1, h2, h3, h4, h5⟩ := h
  have h5 := h5 x.toNat
  unfold kbi mbi
  rw [if_pos hx, h5.2.2.1, h5.2.2.2, h4]
theorem rLn.st {κ μ : kMem} (h : rLn κ μ) : kst_ κ = mst_ μ ∧ ken_ κ = men_ μ ∧ kln κ = mln μ ∧ kds κ = mds μ ∧ kfl κ = mfl μ ∧ ksn κ = msn μ := by
  obtain ⟨h1, h2, h3, h4, h5⟩ := h
  have e1 : kst_ κ = mst_ μ := by funext l; unfold kst_ mst_; rw [(h5 l).1]
  have e2 : ken_ κ = men_ μ := by funext l; unfold ken_ men_; rw [(h5 l).2.1]
  have e3 : kln κ = mln μ := by unfold kln mln; rw [h3]
  refine ⟨e1, e2, e3, ?_, ?_, ?_⟩
  · funext a b; unfold kds mds; rw [e1, e2, e3]
  · funext a b; unfold kfl mfl; rw [e1, e2, e3]
  · funext a b; unfold ksn msn; rw [e1, e2, e3]
theorem rTp.n {κ μ : kMem} (h : rTp κ μ) : ktn κ = mtn μ ∧ kmc κ = mmc μ := by
  have e : ktn κ = mtn μ := by unfold ktn mtn; rw [h.2.2.1]
  exact ⟨e, by unfold kmc mmc; rw [e]⟩
theorem Rl.cs {κ μ : kMem} (h : Rl κ μ) {x y : Int} (hx : 0 ≤ x ∧ x < (κ.1 16 1).toInt) (hy : 0 ≤ y ∧ y < (κ.1 18 7).toInt) : kcs κ x y = mcs μ x y := by
  obtain ⟨h1, h2, h3, h4, h5, h6, h7⟩ := h
  have e1 := h3.le hx
  have e2 := h4.bi hy
  have e3 := h5.n.1
  unfold kcs mcs
  rw [e1.1, e1.2, e2, e3]
  refine cst_congr (fun p hp => ?_) (fun k _ _ => ⟨rfl, rfl⟩)
  have hb := h5.1.1
  rw [h5.2.2.2 p (by rw [← e3] at hp; unfold ktn at hp; omega)]
theorem Rl.can {κ μ : kMem} (h : Rl κ μ) (x y : Int) : kcan κ x y ↔ mcan μ x y := by
  unfold kcan mcan
  rw [h.2.2.1.2.2.1, h.2.2.2.1.2.2.1, h.2.2.2.2.1.2.2.1]
theorem Rl.ri {κ μ : kMem} (h : Rl κ μ) : kRI κ ∧ mRI μ ∧ kTxOk κ ∧ mTxOk μ := by
  obtain ⟨h1, h2, h3, h4, h5, h6, h7⟩ := h
  refine ⟨⟨?_, h3.1, h4.1, h5.1, h2.1⟩, ⟨h5.2.1, h3.2.1, h4.2.1, h2.sz.2.1⟩, h1.1, h1.2.1⟩
  rw [h3.2.2.1]
  exact h3.2.1.1
theorem Rl.sp {κ μ : kMem} (h : Rl κ μ) : spL κ = mSpl μ := by
  have e1 := h.1.t
  have e2 := h.2.1.sz.1
  show spK (kt κ) (rsz κ) (rkd κ) (kn κ) = spK (mt μ) (msz μ) (mkd μ) (mn μ)
  rw [e1.1, e1.2, e2.1, e2.2]
theorem rPs.d {κ μ : kMem} (h : rPs κ μ) (hl : rLn κ μ) : kpd κ = mpd μ ∧ (fun m => ksn κ (kpE κ m) (kpS κ m)) = msnm μ := by
  obtain ⟨h1, h2, h3, h4⟩ := h
  obtain ⟨l1, l2, l3, l4, l5, l6⟩ := hl.st
  have e1 : kpE κ = mpE μ := by funext m; unfold kpE mpE; rw [(h4 m).2.1]
  have e2 : kpS κ = mpS μ := by funext m; unfold kpS mpS; rw [(h4 m).1]
  refine ⟨?_, ?_⟩
  · unfold kpd mpd
    rw [h3, l3, l4, l5, l6, e1, e2]
    have g1 : (fun m => (κ.1 41 m).toInt) = fun m => (μ.1 29 m).toInt := by funext m; rw [(h4 m).2.2.2.1]
    have g2 : (fun m => (κ.1 40 m).toInt) = fun m => (μ.1 28 m).toInt := by funext m; rw [(h4 m).2.2.1]
    have g3 : (fun m => (κ.1 42 m).toInt) = fun m => (μ.1 30 m).toInt := by funext m; rw [(h4 m).2.2.2.2]
    rw [g1, g2, g3]
  · funext m
    unfold msnm
    rw [l6, e1, e2]
theorem rCl.both {κ μ : kMem} (h : rCl κ μ) : (kCan κ ↔ mCan μ) ∧ (kEv2 κ = mEv2 μ) ∧ (kCan κ → kLo κ = mLo μ ∧ kHi κ = mHi μ) := by
  obtain ⟨h1, h2, h3, h4, h5⟩ := h
  have g1 : kfo κ = mft μ := by funext f; unfold kfo mft; rw [(h5 f).2.2.2.2.2.1, (h5 _).2.2.1]
  have g2 : kft κ = mfo μ := by funext f; unfold kft mfo; rw [(h5 f).2.2.2.2.1, (h5 _).2.2.1]
  have g3 : kfw κ = mfw μ := by funext f; unfold kfw mfw; rw [(h5 f).2.2.2.2.1, (h5 f).2.2.2.2.2.1, (h5 f).2.2.2.2.2.2, (h5 _).2.2.2.1, (h5 _).2.2.2.1]
  have g4 : kcb κ = b6F (mcg μ) (mcl μ) := by
    funext a b
    unfold kcb b6F mcg mcl
    rw [(h5 a).1, (h5 b).2.1]
  have e6 : kcm κ = bfm (mft μ) (mfo μ) (mfw μ) (b6F (mcg μ) (mcl μ)) (μ.1 0 55).toInt.toNat := by unfold kcm; rw [g1, g2, g3, g4, h4]
  have e7 : mcm μ = bfm (mfo μ) (mft μ) (mfw μ) (b7F (mcg μ) (mcl μ)) (μ.1 0 55).toInt.toNat := rfl
  have key := clk_both (g := mcg μ) (l := mcl μ) (one := mft μ) (oth := mfo μ) (w := mfw μ) (F := (μ.1 0 55).toInt.toNat) (fun s _ => (h2.2.2 s).1.2.1) (fun s _ => ⟨(h2.2.2 s).1.1, (h2.2.2 s).1.2.2⟩) (fun f => by
    have q1 := (h2.2.2 (μ.1 44 f).toInt.toNat).2.1
    have q2 := (h2.2.2 (μ.1 45 f).toInt.toNat).2.1
    unfold mft mfo
    omega)
  rw [← e6, ← e7] at key
  have es : kst κ = msta μ := by funext x; unfold kst msta; rw [(h5 _).2.2.1]
  have em : kmi κ = mmi μ := by funext x; unfold kmi mmi; rw [(h5 _).2.2.2.1]
  refine ⟨key.1, ?_, fun hc => ?_⟩
  · funext x y
    unfold kEv2 mEv2
    rw [h3]
  · have q := key.2 hc
    refine ⟨funext fun x => funext fun y => ?_, funext fun x => funext fun y => ?_⟩
    · unfold kLo mLo
      rw [em, es, q _ _ (msta_b h2 x).1 (msta_b h2 y).1]
    · unfold kHi mHi
      rw [em, es, q _ _ (msta_b h2 y).1 (msta_b h2 x).1]

