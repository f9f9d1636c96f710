/-! ===== KeyFists: which is likelier; what is keyed ===== -/
/-- the product over a text's lengths -/
def pdP (f : Int → Int) (sp : Option (List Int)) : Int := match sp with
  | none => 0
  | some ks => prdF (fun p => f (ks.getD p 0)) ks.length
noncomputable def likA (c : Prop) (p q : Int) : Int := @ite _ c (Classical.propDecidable _) (if p = q then 0 else if p < q then 1 else 2) (-1)
def kchK (μ : kMem) (h : Int) : Int → Int := fun k => kge μ h k - kle μ h k + 1
def kLikC (μ : kMem) (x y l : Int) : Prop := kcan μ x l ∧ kcan μ y l ∧ isSay (kn μ) (kt μ) ∧ saysP (kcs μ x l) (ktn μ) (spL μ) ∧ saysP (kcs μ y l) (ktn μ) (spL μ)
theorem kSpl_prd {μ μ1 μ' : kMem} (h : kSpl μ μ1) (hO : ∀ a b : Nat, (a = 34 ∧ b = 4) ∨ a = 35 → μ'.1 a b = μ1.1 a b) (hs : kSm μ μ') {ks : List Int} (hk : spL μ = some ks) (hl : ks.length ≤ 120) (x : Int) : prdF (kch μ' x) (μ'.1 34 4).toInt.toNat = pdP (kchK μ x) (spL μ) ∧ 0 ≤ (μ'.1 34 4).toInt ∧ (μ'.1 34 4).toInt ≤ 120 := by
  rcases h with ⟨ks', h1, h2, h3⟩ | ⟨h1, -⟩
  · rw [hk] at h1
    injection h1 with h1
    subst h1
    rw [hO 34 4 (Or.inl ⟨rfl, rfl⟩), h3.1, Int.toNat_natCast, hk]
    refine ⟨?_, by omega, by omega⟩
    show _ = prdF _ _
    refine prdF_congr _ (fun i hi => ?_)
    unfold kch kchK
    rw [hO 35 i (Or.inr rfl), h3.2.1 i hi, (kSm_rd hs).2.2.2.2.2.1, (kSm_rd hs).2.2.2.2.2.2.1]
    rw [List.getD_eq_getElem?_getD, List.getElem?_eq_getElem hi]
    rfl
  · exfalso
    rcases h1 with h1 | ⟨ks2, h1, h4⟩
    · rw [h1] at hk; cases hk
    · rw [h1] at hk
      injection hk with hk
      subst hk
      omega
theorem ok_X11_likelier {x y l : Int32} {μ : kMem} (h : kRI μ ∧ kTxOk μ) : kOk yX11_likelier cX11_likelier 5 (some .int) rmX11_likelier shK 68 [.ref 0, .int x, .int y, .int l] μ (kI fun r μ' => kSm μ μ' ∧ r.toInt = likA (kLikC μ x.toInt y.toInt l.toInt) (pdP (kchK μ x.toInt) (spL μ)) (pdP (kchK μ y.toInt) (spL μ))) := by
  obtain ⟨h, hT⟩ := h
  have ht := h.2.2.2.1.1
  have mm : (Int32.ofInt (-1)).toInt = -1 := by decide
  have no : ¬ kLikC μ x.toInt y.toInt l.toInt → (Int32.ofInt (-1)).toInt = likA (kLikC μ x.toInt y.toInt l.toInt) (pdP (kchK μ x.toInt) (spL μ)) (pdP (kchK μ y.toInt) (spL μ)) := fun q => by unfold likA; rw [if_neg q, mm]
  have S : ∀ (r : Int32) (μ1 : kMem), ((∃ ks, spL μ = some ks ∧ ks.length ≤ 120 ∧ kSay μ ks μ1 ∧ r = Int32.ofInt ks.length) ∨ ((spL μ = none ∨ ∃ ks, spL μ = some ks ∧ 120 < ks.length) ∧ r = Int32.ofInt (-1) ∧ ∃ μ2, (∃ ks, kSay μ ks μ2) ∧ μ1 = up μ2 34 4 (Int32.ofInt (-1)))) → kSpl μ μ1 := by
    intro r μ1 q
    rcases q with ⟨ks, a, b, c, -⟩ | ⟨a, -, c⟩
    · exact Or.inl ⟨ks, a, b, c⟩
    · exact Or.inr ⟨a, c⟩
  have T : ∀ {μ1 μ2 μ3 : kMem}, kLisO μ1 μ2 → kLisO μ2 μ3 → kLisO μ1 μ3 := fun a b i j n1 n2 n3 => by rw [b i j n1 n2 n3]; exact a i j n1 n2 n3
  have Z : ∀ {μ1 μ2 : kMem}, kSpl μ μ1 → kLisO μ1 μ2 → kSm μ μ2 ∧ kRI μ2 ∧ kSyZ μ2 := by
    intro μ1 μ2 a b
    have s : kSm μ μ2 := fun i j q => by rw [kLisO_sm b i j q]; exact (kSpl_sm a).1 i j q
    refine ⟨s, (kSm_rd s).2.2.2.2.1 h, ?_⟩
    unfold kSyZ
    rw [b 34 4 (by decide) (by decide) (by omega)]
    exact (kSpl_sm a).2.1
  have rf : ∀ {μ1 : kMem}, kLisO μ1 μ1 := fun _ _ _ _ _ => rfl
  have V : ∀ {μ1 : kMem}, saysP (kcs μ x.toInt l.toInt) (ktn μ) (spL μ) → ∃ ks, spL μ = some ks ∧ ks.length ≤ 120 := by
    rintro - ⟨ks, a, b, -⟩
    exact ⟨ks, a, by unfold ktn at b; omega⟩
  have G : ∀ {μ34 μ41 μ50 μ64 μ73 : kMem}, kSpl μ μ34 → kLisO μ34 μ41 → kLisO μ41 μ50 → saysP (kcs μ x.toInt l.toInt) (ktn μ) (spL μ) → (kpo64 μ50 μ64 ∧ kpn64 μ64 ∧ kpv64 μ64 = prdF (kch μ50 x.toInt) (μ50.1 34 4).toInt.toNat) → (kpo66 μ64 μ73 ∧ kpn66 μ73 ∧ kpv66 μ73 = prdF (kch μ64 y.toInt) (μ64.1 34 4).toInt.toNat) → kSm μ μ73 ∧ kpn64 μ73 ∧ kpn66 μ73 ∧ kpv64 μ73 = pdP (kchK μ x.toInt) (spL μ) ∧ kpv66 μ73 = pdP (kchK μ y.toInt) (spL μ) := by
    intro μ34 μ41 μ50 μ64 μ73 a b c d e f
    obtain ⟨ks, k1, k2⟩ := V (μ1 := μ) d
    obtain ⟨z1, z2, z3⟩ := Z a (T b c)
    have s64 : kSm μ μ64 := fun i j q => by rw [e.1 i j (by unfold relK at q; omega)]; exact z1 i j q
    have s73 : kSm μ μ73 := fun i j q => by rw [f.1 i j (by unfold relK at q; omega)]; exact s64 i j q
    have p1 := kSpl_prd (μ' := μ50) a (fun i j q => by rw [T b c i j (by omega) (by omega) (by omega)]) z1 k1 k2 x.toInt
    have p2 := kSpl_prd (μ' := μ64) a (fun i j q => by rw [e.1 i j (by omega), T b c i j (by omega) (by omega) (by omega)]) s64 k1 k2 y.toInt
    refine ⟨s73, ?_, f.2.1, ?_, by rw [f.2.2, p2.1]⟩
    · intro i hi
      rw [f.1 65 i (by decide)]
      exact e.2.1 i hi
    · rw [← p1.1, ← e.2.2]
      unfold kpv64
      exact pvF_congr (fun i _ => by rw [f.1 65 i (by decide)])
  refine kOk.of rfl (Nat.le_of_ble_eq_true rfl) (fun J C => ?_)
  have C : kR cX11_likelier RX11 5 rmX11_likelier shK 68 (some .int) _ J := C
  refine (r_aload_n C dX11_likelier_0 rfl rfl (r_iload_n C dX11_likelier_1 rfl rfl (r_iload_n C dX11_likelier_2 rfl rfl (r_v2P C yv_X11_canRead lk_X11_166 dX11_likelier_3 rfl nK_0 sK_0 rfl (Nat.le_of_ble_eq_true rfl) (ok_X11_canRead ?_) (r_if_eq C (tgt := 28) dX11_likelier_6 rfl (fun c6 => (r_iconst C dX11_likelier_28 (r_iret C dX11_likelier_29 ?_))) (fun c6 => (r_aload_n C dX11_likelier_9 rfl rfl (r_iload_n C dX11_likelier_10 rfl rfl (r_iload_n C dX11_likelier_11 rfl rfl (r_v2P C yv_X11_canRead lk_X11_166 dX11_likelier_12 rfl nK_0 sK_0 rfl (Nat.le_of_ble_eq_true rfl) (ok_X11_canRead ?_) (r_if_eq C (tgt := 28) dX11_likelier_15 rfl (fun c15 => (r_iconst C dX11_likelier_28 (r_iret C dX11_likelier_29 ?_))) (fun c15 => (r_aload_n C dX11_likelier_18 rfl rfl (r_getR C dX11_likelier_19 fd_X11_68 nK_0 sK_0 rfl (r_v0P C yv_X8_isThere lk_X11_192 dX11_likelier_22 rfl nK_34 sK_34 rfl (Nat.le_of_ble_eq_true rfl) (ok_X8_isThere ?_) (r_if_ne C (tgt := 30) dX11_likelier_25 rfl (fun c25 => (r_aload_n C dX11_likelier_30 rfl rfl (r_getR C dX11_likelier_31 fd_X11_68 nK_0 sK_0 rfl (r_v0I C yv_X8_spell lk_X11_195 dX11_likelier_34 rfl nK_34 sK_34 rfl (Nat.le_of_ble_eq_true rfl) (ok_X8_spell ?_) (fun r34 μ34 h34 => (r_pop C dX11_likelier_37 rfl (r_aload_n C dX11_likelier_38 rfl rfl (r_iload_n C dX11_likelier_39 rfl rfl (r_iload_n C dX11_likelier_40 rfl rfl (r_v2I C yv_X11_tapeSaysIt lk_X11_200 dX11_likelier_41 rfl nK_0 sK_0 rfl (Nat.le_of_ble_eq_true rfl) (ok_X11_tapeSaysIt ?_) (fun r41 μ41 h41 => (r_if_eq C (tgt := 56) dX11_likelier_44 rfl (fun c44 => (r_iconst C dX11_likelier_56 (r_iret C dX11_likelier_57 ?_))) (fun c44 => (r_aload_n C dX11_likelier_47 rfl rfl (r_iload_n C dX11_likelier_48 rfl rfl (r_iload_n C dX11_likelier_49 rfl rfl (r_v2I C yv_X11_tapeSaysIt lk_X11_200 dX11_likelier_50 rfl nK_0 sK_0 rfl (Nat.le_of_ble_eq_true rfl) (ok_X11_tapeSaysIt ?_) (fun r50 μ50 h50 => (r_if_ne C (tgt := 58) dX11_likelier_53 rfl (fun c53 => (r_aload_n C dX11_likelier_58 rfl rfl (r_aload_n C dX11_likelier_59 rfl rfl (r_getR C dX11_likelier_60 fd_X11_91 nK_0 sK_0 rfl (r_iload_n C dX11_likelier_63 rfl rfl (r_v2N C yv_X11_multiplyChoices lk_X11_203 dX11_likelier_64 rfl nK_0 sK_0 rfl (Nat.le_of_ble_eq_true rfl) (ok_X11_multiplyChoices ?_) (fun μ64 h64 => (r_aload_n C dX11_likelier_67 rfl rfl (r_aload_n C dX11_likelier_68 rfl rfl (r_getR C dX11_likelier_69 fd_X11_95 nK_0 sK_0 rfl (r_iload_n C dX11_likelier_72 rfl rfl (r_v2N C yv_X11_multiplyChoices lk_X11_203 dX11_likelier_73 rfl nK_0 sK_0 rfl (Nat.le_of_ble_eq_true rfl) (ok_X11_multiplyChoices ?_) (fun μ73 h73 => (r_aload_n C dX11_likelier_76 rfl rfl (r_getR C dX11_likelier_77 fd_X11_91 nK_0 sK_0 rfl (r_aload_n C dX11_likelier_80 rfl rfl (r_getR C dX11_likelier_81 fd_X11_95 nK_0 sK_0 rfl (r_v1P C yv_X6_compareWith lk_X11_207 dX11_likelier_84 rfl nK_64 sK_64 rfl (Nat.le_of_ble_eq_true rfl) (ok_X6_compareWith_64 ?_) (r_istore C dX11_likelier_87 (by decide) (r_iload C dX11_likelier_89 rfl (r_if_ne C (tgt := 96) dX11_likelier_91 rfl (fun c91 => (r_iload C dX11_likelier_96 rfl (r_if_ge C (tgt := 105) dX11_likelier_98 rfl (fun c98 => (r_iconst C dX11_likelier_105 (r_iret C dX11_likelier_106 ?_))) (fun c98 => (r_iconst C dX11_likelier_101 (r_goto C (tgt := 106) dX11_likelier_102 rfl (r_iret C dX11_likelier_106 ?_))))))) (fun c91 => (r_iconst C dX11_likelier_94 (r_iret C dX11_likelier_95 ?_)))))))))))))))))))))))) (fun c53 => (r_iconst C dX11_likelier_56 (r_iret C dX11_likelier_57 ?_)))))))))))))))))))))) (fun c25 => (r_iconst C dX11_likelier_28 (r_iret C dX11_likelier_29 ?_)))))))))))))))))))
  · exact ht.1
  · exact ⟨kSm.rf, no (fun z => bP_e0.mp c6 z.1)⟩
  · exact ht.1
  · exact ⟨kSm.rf, no (fun z => bP_e0.mp c15 z.2.1)⟩
  · exact hT
  · exact ⟨hT, h.2.2.2.2, bP_ne c25⟩
  · have a := S _ _ h34
    exact (Z a rf).2
  · have a := S _ _ h34
    rw [h41.1] at c44
    refine ⟨(Z a h41.2).1, no (fun z => bP_e0.mp c44 ((kSpl_says ht a rf _ _).mpr z.2.2.2.1))⟩
  · have a := S _ _ h34
    exact (Z a h41.2).2
  · have a := S _ _ h34
    rw [h41.1] at c44
    have d := (kSpl_says ht a rf _ _).mp (bP_ne c44)
    obtain ⟨ks, k1, k2⟩ := V (μ1 := μ) d
    obtain ⟨z1, z2, z3⟩ := Z a (T h41.2 h50.2)
    have p1 := kSpl_prd (μ' := μ50) a (fun i j q => by rw [T h41.2 h50.2 i j (by omega) (by omega) (by omega)]) z1 k1 k2 x.toInt
    exact ⟨Or.inl rfl, p1.2, z2.1.2, z2.2.1⟩
  · have a := S _ _ h34
    rw [h41.1] at c44
    have d := (kSpl_says ht a rf _ _).mp (bP_ne c44)
    obtain ⟨ks, k1, k2⟩ := V (μ1 := μ) d
    obtain ⟨z1, z2, z3⟩ := Z a (T h41.2 h50.2)
    have e := h64.1 rfl
    have s64 : kSm μ μ64 := fun i j q => by rw [e.1 i j (by unfold relK at q; omega)]; exact z1 i j q
    have z4 := (kSm_rd s64).2.2.2.2.1 h
    have p2 := kSpl_prd (μ' := μ64) a (fun i j q => by rw [e.1 i j (by omega), T h41.2 h50.2 i j (by omega) (by omega) (by omega)]) s64 k1 k2 y.toInt
    exact ⟨Or.inr rfl, p2.2, z4.1.2, z4.2.1⟩
  · have a := S _ _ h34
    rw [h41.1] at c44
    have d := (kSpl_says ht a rf _ _).mp (bP_ne c44)
    have g := G a h41.2 h50.2 d (h64.1 rfl) (h73.2 rfl)
    exact ⟨g.2.1, g.2.2.1⟩
  · have a := S _ _ h34
    rw [h41.1] at c44
    rw [h50.1] at c53
    have d := (kSpl_says ht a rf _ _).mp (bP_ne c44)
    have d2 := (kSpl_says ht a h41.2 _ _).mp (bP_ne c53)
    have g := G a h41.2 h50.2 d (h64.1 rfl) (h73.2 rfl)
    refine ⟨g.1, ?_⟩
    unfold likA
    rw [if_pos ⟨bP_ne c6, bP_ne c15, bP_ne c25, d, d2⟩]
    rw [g.2.2.2.1, g.2.2.2.2] at c98 c91
    split at c98
    · rw [mm] at c98; omega
    · split at c98
      · rename_i q1 q2
        rw [if_neg q1, if_pos q2] at c91
        exact absurd (by decide) c91
      · rw [if_neg (by assumption), if_neg (by assumption)]
        decide
  · have a := S _ _ h34
    rw [h41.1] at c44
    rw [h50.1] at c53
    have d := (kSpl_says ht a rf _ _).mp (bP_ne c44)
    have d2 := (kSpl_says ht a h41.2 _ _).mp (bP_ne c53)
    have g := G a h41.2 h50.2 d (h64.1 rfl) (h73.2 rfl)
    refine ⟨g.1, ?_⟩
    unfold likA
    rw [if_pos ⟨bP_ne c6, bP_ne c15, bP_ne c25, d, d2⟩]
    rw [g.2.2.2.1, g.2.2.2.2] at c98
    split at c98
    · rw [if_neg (by omega), if_pos (by assumption)]
      decide
    · split at c98
      · exact absurd c98 (by decide)
      · exact absurd c98 (by decide)
  · have a := S _ _ h34
    rw [h41.1] at c44
    rw [h50.1] at c53
    have d := (kSpl_says ht a rf _ _).mp (bP_ne c44)
    have d2 := (kSpl_says ht a h41.2 _ _).mp (bP_ne c53)
    have g := G a h41.2 h50.2 d (h64.1 rfl) (h73.2 rfl)
    refine ⟨g.1, ?_⟩
    unfold likA
    rw [if_pos ⟨bP_ne c6, bP_ne c15, bP_ne c25, d, d2⟩]
    rw [g.2.2.2.1, g.2.2.2.2] at c91
    split at c91
    · exact absurd c91 (by decide)
    · split at c91
      · rw [if_pos (by assumption)]
        decide
      · exact absurd c91 (by decide)
  · have a := S _ _ h34
    rw [h50.1] at c53
    refine ⟨(Z a (T h41.2 h50.2)).1, no (fun z => bP_e0.mp c53 ((kSpl_says ht a h41.2 _ _).mpr z.2.2.2.2))⟩
  · exact ⟨kSm.rf, no (fun z => bP_e0.mp c25 z.2.2.1)⟩
def kKeyC (μ : kMem) (h l s : Int) : Prop := (0 ≤ h ∧ h < (μ.1 16 1).toInt) ∧ (0 ≤ l ∧ l < (μ.1 18 7).toInt) ∧ (0 ≤ s ∧ s ≤ 1000000) ∧ isSay (kn μ) (kt μ) ∧ ∃ ks, spL μ = some ks ∧ ks.length ≤ 120
/-- the lengths that are keyed, and what comes through -/
def kyD (le ge : Int → Int) (s : Int) (ks : List Int) (i : Nat) : Int := le (ks.getD i 0) + lcgN s (i + 1) / 256 % (ge (ks.getD i 0) - le (ks.getD i 0) + 1)
def kyL (le ge : Int → Int) (b s : Int) (sp : Option (List Int)) : List Int := match sp with
  | none => []
  | some ks => (sendF b (kyD le ge s ks) ks.length).1
theorem sendF_congr {b : Int} {d e : Nat → Int} : ∀ n, (∀ i, i < n → d i = e i) → sendF b d n = sendF b e n := by
  intro n
  induction n with
  | zero => intro _; rfl
  | succ n ih =>
    intro h
    have h1 := ih (fun i hi => h i (by omega))
    have h2 := h n (by omega)
    unfold sendF
    rw [h1, h2]
theorem ok_X11_key {x l s : Int32} {μ : kMem} (h : kRI μ ∧ kTxOk μ) : kOk yX11_key cX11_key 4 (some .int) rmX11_key shK 68 [.ref 0, .int x, .int l, .int s] μ (kI fun r μ' => (¬ kKeyC μ x.toInt l.toInt s.toInt ∧ r = Int32.ofInt (-1) ∧ kSm μ μ') ∨ (kKeyC μ x.toInt l.toInt s.toInt ∧ r = μ'.1 25 1 ∧ kTp μ (kyL (kle μ x.toInt) (kge μ x.toInt) (kbi μ l.toInt) s.toInt (spL μ)) μ' ∧ ∀ a b : Nat, relK a b → ¬ (a = 25 ∧ b = 1) → a ≠ 26 → μ'.1 a b = μ.1 a b)) := by
  obtain ⟨h, hT⟩ := h
  have ht := h.2.2.2.1.1
  have mm : (Int32.ofInt (-1)).toInt = -1 := by decide
  have m6 : (1000000 : Int32).toInt = 1000000 := by decide
  have S : ∀ (r : Int32) (μ1 : kMem), ((∃ ks, spL μ = some ks ∧ ks.length ≤ 120 ∧ kSay μ ks μ1 ∧ r = Int32.ofInt ks.length) ∨ ((spL μ = none ∨ ∃ ks, spL μ = some ks ∧ 120 < ks.length) ∧ r = Int32.ofInt (-1) ∧ ∃ μ2, (∃ ks, kSay μ ks μ2) ∧ μ1 = up μ2 34 4 (Int32.ofInt (-1)))) → kSpl μ μ1 := by
    intro r μ1 q
    rcases q with ⟨ks, a, b, c, -⟩ | ⟨a, -, c⟩
    · exact Or.inl ⟨ks, a, b, c⟩
    · exact Or.inr ⟨a, c⟩
  have Y : ∀ (r : Int32) (μ1 : kMem), ((∃ ks, spL μ = some ks ∧ ks.length ≤ 120 ∧ kSay μ ks μ1 ∧ r = Int32.ofInt ks.length) ∨ ((spL μ = none ∨ ∃ ks, spL μ = some ks ∧ 120 < ks.length) ∧ r = Int32.ofInt (-1) ∧ ∃ μ2, (∃ ks, kSay μ ks μ2) ∧ μ1 = up μ2 34 4 (Int32.ofInt (-1)))) → ¬ r.toInt = (Int32.ofInt (-1)).toInt → ∃ ks, spL μ = some ks ∧ ks.length ≤ 120 ∧ kSay μ ks μ1 := by
    intro r μ1 q c
    rcases q with ⟨ks, a, b, c, -⟩ | ⟨a, b, -⟩
    · exact ⟨ks, a, b, c⟩
    · exact absurd (by rw [b]) c
  refine kOk.of rfl (Nat.le_of_ble_eq_true rfl) (fun J C => ?_)
  have C : kR cX11_key RX11 4 rmX11_key shK 68 (some .int) _ J := C
  refine (r_aload_n C dX11_key_0 rfl rfl (r_getR C dX11_key_1 fd_X11_38 nK_0 sK_0 rfl (r_iload_n C dX11_key_4 rfl rfl (r_v1P C yv_X3_has lk_X11_188 dX11_key_5 rfl nK_16 sK_16 rfl (Nat.le_of_ble_eq_true rfl) ok_X3_has (r_if_eq C (tgt := 32) dX11_key_8 rfl (fun c8 => (r_iconst C dX11_key_32 (r_iret C dX11_key_33 ?_))) (fun c8 => (r_aload_n C dX11_key_11 rfl rfl (r_getR C dX11_key_12 fd_X11_45 nK_0 sK_0 rfl (r_iload_n C dX11_key_15 rfl rfl (r_v1P C yv_X4_has lk_X11_151 dX11_key_16 rfl nK_18 sK_18 rfl (Nat.le_of_ble_eq_true rfl) ok_X4_has (r_if_eq C (tgt := 32) dX11_key_19 rfl (fun c19 => (r_iconst C dX11_key_32 (r_iret C dX11_key_33 ?_))) (fun c19 => (r_iload_n C dX11_key_22 rfl rfl (r_if_lt C (tgt := 32) dX11_key_23 rfl (fun c23 => (r_iconst C dX11_key_32 (r_iret C dX11_key_33 ?_))) (fun c23 => (r_iload_n C dX11_key_26 rfl rfl (r_ldc C dX11_key_27 kc_X11_229 (r_icmp_le C (tgt := 34) dX11_key_29 rfl (fun c29 => (r_aload_n C dX11_key_34 rfl rfl (r_getR C dX11_key_35 fd_X11_68 nK_0 sK_0 rfl (r_v0P C yv_X8_isThere lk_X11_192 dX11_key_38 rfl nK_34 sK_34 rfl (Nat.le_of_ble_eq_true rfl) (ok_X8_isThere ?_) (r_if_eq C (tgt := 55) dX11_key_41 rfl (fun c41 => (r_iconst C dX11_key_55 (r_iret C dX11_key_56 ?_))) (fun c41 => (r_aload_n C dX11_key_44 rfl rfl (r_getR C dX11_key_45 fd_X11_68 nK_0 sK_0 rfl (r_v0I C yv_X8_spell lk_X11_195 dX11_key_48 rfl nK_34 sK_34 rfl (Nat.le_of_ble_eq_true rfl) (ok_X8_spell ?_) (fun r48 μ48 h48 => (r_iconst C dX11_key_51 (r_icmp_ne C (tgt := 57) dX11_key_52 rfl (fun c52 => (r_aload_n C dX11_key_57 rfl rfl (r_getR C dX11_key_58 fd_X11_68 nK_0 sK_0 rfl (r_aload_n C dX11_key_61 rfl rfl (r_getR C dX11_key_62 fd_X11_38 nK_0 sK_0 rfl (r_iload_n C dX11_key_65 rfl rfl (r_iload_n C dX11_key_66 rfl rfl (r_v3N C yv_X8_draw lk_X11_230 dX11_key_67 rfl nK_34 sK_34 rfl (Nat.le_of_ble_eq_true rfl) (ok_X8_draw ?_) (fun μ67 h67 => (r_aload_n C dX11_key_70 rfl rfl (r_getR C dX11_key_71 fd_X11_68 nK_0 sK_0 rfl (r_aload_n C dX11_key_74 rfl rfl (r_getR C dX11_key_75 fd_X11_45 nK_0 sK_0 rfl (r_iload_n C dX11_key_78 rfl rfl (r_v1P C yv_X4_biteOf lk_X11_154 dX11_key_79 rfl nK_18 sK_18 rfl (Nat.le_of_ble_eq_true rfl) (ok_X4_biteOf ?_) (r_aload_n C dX11_key_82 rfl rfl (r_getR C dX11_key_83 fd_X11_52 nK_0 sK_0 rfl (r_v2N C yv_X8_sendThrough lk_X11_234 dX11_key_86 rfl nK_34 sK_34 rfl (Nat.le_of_ble_eq_true rfl) (ok_X8_sendThrough ?_) (fun μ86 h86 => (r_aload_n C dX11_key_89 rfl rfl (r_getR C dX11_key_90 fd_X11_52 nK_0 sK_0 rfl (r_v0P C yv_X9_size lk_X11_212 dX11_key_93 rfl nK_25 sK_25 rfl (Nat.le_of_ble_eq_true rfl) ok_X9_size (r_iret C dX11_key_96 ?_))))))))))))))))))))))) (fun c52 => (r_iconst C dX11_key_55 (r_iret C dX11_key_56 ?_))))))))))))))) (fun c29 => (r_iconst C dX11_key_32 (r_iret C dX11_key_33 ?_)))))))))))))))))))))
  · exact Or.inl ⟨fun z => bP_e0.mp c8 z.1, rfl, kSm.rf⟩
  · exact Or.inl ⟨fun z => bP_e0.mp c19 z.2.1, rfl, kSm.rf⟩
  · exact Or.inl ⟨fun z => by have := z.2.2.1; omega, rfl, kSm.rf⟩
  · exact hT
  · exact Or.inl ⟨fun z => bP_e0.mp c41 z.2.2.2.1, rfl, kSm.rf⟩
  · exact ⟨hT, h.2.2.2.2, bP_ne c41⟩
  · obtain ⟨ks, k1, k2, k3⟩ := Y _ _ h48 c52
    have z := (kSpl_sm (S _ _ h48)).1
    have r := (kSm_rd z).2.2.2.2.1 h
    have e := k3.1
    rw [m6] at c29
    exact ⟨⟨by omega, by omega⟩, ⟨c23, c29⟩, r.1.2, r.2.1⟩
  · have z := (kSpl_sm (S _ _ h48)).1
    have z2 : kSm μ μ67 := fun a b q => by rw [h67.2 a b (by unfold relK at q; omega)]; exact z a b q
    exact ((kSm_rd z2).2.2.2.2.1 h).2.2.1
  · obtain ⟨ks, k1, k2, k3⟩ := Y _ _ h48 c52
    have z := (kSpl_sm (S _ _ h48)).1
    have z2 : kSm μ μ67 := fun a b q => by rw [h67.2 a b (by unfold relK at q; omega)]; exact z a b q
    have r := (kSm_rd z2).2.2.2.2.1 h
    have r2 := (kSm_rd z).2.2.2.2.1 h
    have e := k3.1
    have e34 : μ67.1 34 4 = μ48.1 34 4 := h67.2 34 4 (by decide)
    have hb := kbi_b r.2.2.1 l.toInt
    have hl := lcgN_b (s := s.toInt) (by rw [m6] at c29; omega)
    rw [ti_ofInt (by omega)]
    refine ⟨by rw [e34]; omega, ⟨by omega, by omega⟩, fun i hi => ?_, r.2.2.2.1.1.1⟩
    rw [e34] at hi
    rw [h67.1 i hi]
    unfold drw
    have hk := kge_b r2.2.1 x.toInt (μ48.1 35 i).toInt
    have h1 := Int.emod_nonneg (lcgN s.toInt (i + 1) / 256) (b := kge μ48 x.toInt (μ48.1 35 i).toInt - kle μ48 x.toInt (μ48.1 35 i).toInt + 1) (by omega)
    have h2 := Int.emod_lt_of_pos (lcgN s.toInt (i + 1) / 256) (b := kge μ48 x.toInt (μ48.1 35 i).toInt - kle μ48 x.toInt (μ48.1 35 i).toInt + 1) (by omega)
    omega
  · obtain ⟨ks, k1, k2, k3⟩ := Y _ _ h48 c52
    have z := (kSpl_sm (S _ _ h48)).1
    have z2 : kSm μ μ67 := fun a b q => by rw [h67.2 a b (by unfold relK at q; omega)]; exact z a b q
    have r := (kSm_rd z2).2.2.2.2.1 h
    have e := k3.1
    have e34 : μ67.1 34 4 = μ48.1 34 4 := h67.2 34 4 (by decide)
    have hb := kbi_b r.2.2.1 l.toInt
    rw [m6] at c29
    obtain ⟨g1, g2⟩ := h86
    rw [ti_ofInt (by omega), (kSm_rd z2).2.2.2.2.2.2.2.1, e34, e, Int.toNat_natCast] at g1
    refine Or.inr ⟨⟨bP_ne c8, bP_ne c19, ⟨c23, c29⟩, bP_ne c41, ks, k1, k2⟩, rfl, ?_, fun a b q n1 n2 => by rw [g2 a b n1 n2]; exact z2 a b q⟩
    have ed : sendF (kbi μ l.toInt) (fun i => (μ67.1 36 i).toInt) ks.length = sendF (kbi μ l.toInt) (kyD (kle μ x.toInt) (kge μ x.toInt) s.toInt ks) ks.length := by
      refine sendF_congr _ (fun i hi => ?_)
      rw [h67.1 i (by omega)]
      unfold drw kyD
      rw [k3.2.1 i hi, (kSm_rd z).2.2.2.2.2.1, (kSm_rd z).2.2.2.2.2.2.1, List.getD_eq_getElem?_getD, List.getElem?_eq_getElem hi]
      rfl
    rw [ed] at g1
    unfold kyL
    rw [k1]
    refine ⟨g1.1, g1.2.1, fun j hj => ?_⟩
    rw [g1.2.2 j hj]
    exact z2 26 j (by unfold relK; omega)
  · refine Or.inl ⟨fun y => ?_, rfl, (kSpl_sm (S _ _ h48)).1⟩
    obtain ⟨ks, y1, y2⟩ := y.2.2.2.2
    rcases h48 with ⟨ks', a, b, c, d⟩ | ⟨a, -⟩
    · rw [d, ti_ofInt (n := (ks'.length : Int)) (by omega), mm] at c52
      exact absurd c52 (by omega)
    · rcases a with a | ⟨ks', a, b⟩
      · rw [a] at y1; cases y1
      · rw [a] at y1
        injection y1 with y1
        subst y1
        omega
  · rw [m6] at c29
    exact Or.inl ⟨fun z => by have := z.2.2.1; omega, rfl, kSm.rf⟩

