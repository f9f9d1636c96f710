/-! ===== the words that go from a caller to its callees ===== -/
def WG : List Cond := lw_tbl.filter goodWord
theorem WG_of {w : Cond} (h : w ∈ lw_tbl) (g : goodWord w = true) : w ∈ WG := List.mem_filter.mpr ⟨h, g⟩
theorem WG_in {w : Cond} (h : w ∈ WG) : w ∈ lw_tbl ∧ goodWord w = true := List.mem_filter.mp h
theorem WG_good : GoodIn WG WG := fun w h => ⟨h, good_of_word (WG_in h).2⟩
theorem tb_in {w : Cond} (h : w ∈ tables_1) : w ∈ lw_tbl := List.mem_append_right _ h
theorem tb1 {w : Cond} (j : Nat) (h : tables_1_1[j]? = some w) (g : goodWord w = true) : w ∈ WG := WG_of (tb_in (List.mem_append_left _ (List.mem_of_getElem? h))) g
theorem tb2 {w : Cond} (j : Nat) (h : tables_1_2[j]? = some w) (g : goodWord w = true) : w ∈ WG := WG_of (tb_in (List.mem_append_right _ (List.mem_append_left _ (List.mem_of_getElem? h)))) g
theorem tb3 {w : Cond} (j : Nat) (h : tables_1_3[j]? = some w) (g : goodWord w = true) : w ∈ WG := WG_of (tb_in (List.mem_append_right _ (List.mem_append_right _ (List.mem_append_left _ (List.mem_of_getElem? h))))) g
theorem tb4 {w : Cond} (j : Nat) (h : tables_1_4[j]? = some w) (g : goodWord w = true) : w ∈ WG := WG_of (tb_in (List.mem_append_right _ (List.mem_append_right _ (List.mem_append_right _ (List.mem_append_left _ (List.mem_of_getElem? h)))))) g
theorem tb5 {w : Cond} (j : Nat) (h : tables_1_5[j]? = some w) (g : goodWord w = true) : w ∈ WG := WG_of (tb_in (List.mem_append_right _ (List.mem_append_right _ (List.mem_append_right _ (List.mem_append_right _ (List.mem_append_left _ (List.mem_of_getElem? h))))))) g
theorem tb6 {w : Cond} (j : Nat) (h : tables_1_6[j]? = some w) (g : goodWord w = true) : w ∈ WG := WG_of (tb_in (List.mem_append_right _ (List.mem_append_right _ (List.mem_append_right _ (List.mem_append_right _ (List.mem_append_right _ (List.mem_append_left _ (List.mem_of_getElem? h)))))))) g
theorem tb7 {w : Cond} (j : Nat) (h : tables_1_7[j]? = some w) (g : goodWord w = true) : w ∈ WG := WG_of (tb_in (List.mem_append_right _ (List.mem_append_right _ (List.mem_append_right _ (List.mem_append_right _ (List.mem_append_right _ (List.mem_append_right _ (List.mem_of_getElem? h)))))))) g
theorem tb0 {w : Cond} (j : Nat) (h : (k2_sels lw_privs)[j]? = some w) (g : goodWord w = true) : w ∈ WG := WG_of (List.mem_append_left _ (List.mem_of_getElem? h)) g
/-! ===== memory, shapes, worlds ===== -/
abbrev kMem : Type := (Nat → Nat → Int32) × (Nat → Nat → Int64)
def up (μ : kMem) (o k : Nat) (x : Int32) : kMem := (fun a b => if a = o ∧ b = k then x else μ.1 a b, μ.2)
def upL (μ : kMem) (o k : Nat) (x : Int64) : kMem := (μ.1, fun a b => if a = o ∧ b = k then x else μ.2 a b)
theorem up_same (μ : kMem) (o k : Nat) (x : Int32) : (up μ o k x).1 o k = x := by simp [up]
theorem up_ne (μ : kMem) {o k a b : Nat} (x : Int32) (h : ¬ (a = o ∧ b = k)) : (up μ o k x).1 a b = μ.1 a b := by simp only [up, if_neg h]
theorem up_neo (μ : kMem) {o k a b : Nat} (x : Int32) (h : a ≠ o) : (up μ o k x).1 a b = μ.1 a b := up_ne μ x (fun q => h q.1)
theorem up_nek (μ : kMem) {o k a b : Nat} (x : Int32) (h : b ≠ k) : (up μ o k x).1 a b = μ.1 a b := up_ne μ x (fun q => h q.2)
theorem up_2 (μ : kMem) (o k : Nat) (x : Int32) : (up μ o k x).2 = μ.2 := rfl
theorem upL_1 (μ : kMem) (o k : Nat) (x : Int64) : (upL μ o k x).1 = μ.1 := rfl
theorem upL_same (μ : kMem) (o k : Nat) (x : Int64) : (upL μ o k x).2 o k = x := by simp [upL]
theorem upL_ne (μ : kMem) {o k a b : Nat} (x : Int64) (h : ¬ (a = o ∧ b = k)) : (upL μ o k x).2 a b = μ.2 a b := by simp only [upL, if_neg h]
/-- what a cell is: an object of the table's number with fields (an int, or a cell that stays), or an array (0 int, 1 byte, 2 long, else of cells that stay) -/
abbrev kSh : Type := (Nat × List (Option Nat)) ⊕ (Nat × Nat × (Nat → Nat))
def cvv (ad : Nat → Nat) : Value → Value
  | .ref a => .ref (ad a)
  | v => v
theorem cvv_cat (ad : Nat → Nat) (v : Value) : (cvv ad v).category = v.category := by cases v <;> rfl
def kfv (ad : Nat → Nat) (g : Nat → Int32) (fs : List (Option Nat)) : List Value := (List.range fs.length).map (fun k => match fs[k]? with | some (some r) => Value.ref (ad r) | _ => Value.int (g k))
def karr (ad : Nat → Nat) (t : Nat) (f : Nat → Nat) (g : Nat → Int32) (gl : Nat → Int64) : (Nat → Int32) ⊕ (Nat → Int64) ⊕ (Nat → UInt32) ⊕ (Nat → UInt64) ⊕ (Nat → Option Nat) :=
  if t ≤ 1 then .inl g else if t = 2 then .inr (.inl gl) else .inr (.inr (.inr (.inr (fun k => some (ad (f k))))))
def kent (sh : Nat → kSh) (ad : Nat → Nat) (τ : Nat → ClassId) (μ : kMem) (i : Nat) : va_E := match sh i with
  | .inl q => .inr (q.1, kfv ad (μ.1 i) q.2)
  | .inr q => .inl (τ q.1, q.2.1, karr ad q.1 q.2.2 (μ.1 i) (μ.2 i))
def wl (sh : Nat → kSh) (N : Nat) (ad : Nat → Nat) (τ : Nat → ClassId) (μ : kMem) : va_W := (List.range N).map (fun i => (ad i, kent sh ad τ μ i))
theorem wl_get {sh : Nat → kSh} {N : Nat} {ad : Nat → Nat} {τ : Nat → ClassId} {μ : kMem} {i : Nat} (h : i < N) : (wl sh N ad τ μ)[i]? = some (ad i, kent sh ad τ μ i) := by
  simp [wl, h]
theorem wl_set {sh : Nat → kSh} {N : Nat} {ad : Nat → Nat} {τ : Nat → ClassId} {μ μ' : kMem} {i : Nat} {e : va_E} (h : i < N) (ho : ∀ j, j ≠ i → kent sh ad τ μ' j = kent sh ad τ μ j) (he : kent sh ad τ μ' i = e) : (wl sh N ad τ μ).set i (ad i, e) = wl sh N ad τ μ' := by
  apply List.ext_getElem?
  intro j
  by_cases hj : j = i
  · subst hj
    rw [wl_get h, he, List.getElem?_set]
    simp [wl, h]
  · rw [List.getElem?_set_ne (Ne.symm hj)]
    by_cases hN : j < N
    · rw [wl_get hN, wl_get hN, ho j hj]
    · simp [wl, hN]
theorem wl_ad {sh : Nat → kSh} {N : Nat} {ad : Nat → Nat} {τ : Nat → ClassId} {μ : kMem} {k : Nat} {q : Nat × va_E} (h : (wl sh N ad τ μ)[k]? = some q) : k < N ∧ q.1 = ad k := by
  by_cases hN : k < N
  · rw [wl_get hN] at h
    cases h
    exact ⟨hN, rfl⟩
  · simp [wl, hN] at h
theorem va_D_wl {A B : Nat → Prop} {sh : Nat → kSh} {N : Nat} {ad : Nat → Nat} {τ : Nat → ClassId} {μ μ' : kMem} (h : va_D A (wl sh N ad τ μ)) (hAB : ∀ i, i < N → A (ad i) → B (ad i)) : va_D B (wl sh N ad τ μ') := by
  refine ⟨fun i j x y hi hj e => ?_, fun k q hk => ?_⟩
  · obtain ⟨h1, e1⟩ := wl_ad hi
    obtain ⟨h2, e2⟩ := wl_ad hj
    exact h.1 i j _ _ (wl_get h1) (wl_get h2) (by rw [← e1, ← e2]; exact e)
  · obtain ⟨h1, e1⟩ := wl_ad hk
    rw [e1]
    exact hAB k h1 (h.2 k _ (wl_get h1))
theorem kfv_int {ad : Nat → Nat} {g : Nat → Int32} {fs : List (Option Nat)} {k : Nat} (h : fs[k]? = some none) : (kfv ad g fs)[k]? = some (.int (g k)) := by
  have hk : k < fs.length := (List.getElem?_eq_some_iff.mp h).1
  unfold kfv
  rw [List.getElem?_map, List.getElem?_range hk]
  show some (match fs[k]? with | some (some r) => Value.ref (ad r) | _ => Value.int (g k)) = _
  rw [h]
theorem kfv_ref {ad : Nat → Nat} {g : Nat → Int32} {fs : List (Option Nat)} {k r : Nat} (h : fs[k]? = some (some r)) : (kfv ad g fs)[k]? = some (.ref (ad r)) := by
  have hk : k < fs.length := (List.getElem?_eq_some_iff.mp h).1
  unfold kfv
  rw [List.getElem?_map, List.getElem?_range hk]
  show some (match fs[k]? with | some (some r) => Value.ref (ad r) | _ => Value.int (g k)) = _
  rw [h]
theorem kfv_len {ad : Nat → Nat} {g : Nat → Int32} {fs : List (Option Nat)} : (kfv ad g fs).length = fs.length := by simp [kfv]
theorem kfv_set {ad : Nat → Nat} {g : Nat → Int32} {fs : List (Option Nat)} {k : Nat} {x : Int32} (h : fs[k]? = some none) : (kfv ad g fs).set k (.int x) = kfv ad (fun b => if b = k then x else g b) fs := by
  have hk : k < fs.length := (List.getElem?_eq_some_iff.mp h).1
  apply List.ext_getElem?
  intro j
  by_cases hj : j = k
  · subst hj
    rw [List.getElem?_set]
    rw [kfv_int (g := fun b => if b = j then x else g b) h]
    simp [kfv, hk]
  · rw [List.getElem?_set_ne (Ne.symm hj)]
    by_cases hl : j < fs.length
    · cases hv : fs[j]? with
      | none => rw [List.getElem?_eq_none_iff] at hv; omega
      | some v =>
        cases v with
        | none => rw [kfv_int hv, kfv_int hv, if_neg hj]
        | some r => rw [kfv_ref hv, kfv_ref hv]
    · simp [kfv, hl]
/-! ===== what a state has beside the world: the tables of the arrays, three texts, two links, two statics ===== -/
abbrev kty (τ : Nat → ClassId) : List (ClassId × FieldType) := [(τ 0, .int), (τ 1, .byte), (τ 2, .long), (τ 3, .array .int), (τ 4, .array .long), (τ 5, .object "java/lang/String")]
def klen : List Nat := [6, 4, 2]
def kbyt : List (List Int32) := [[108, 101, 116, 116, 101, 114], [119, 111, 114, 100], [105, 115]]
def kE (ad : Nat → Nat) (τ : Nat → ClassId) (D : va_G) (A : Nat → Prop) (U : State) (H : Heap) : Prop :=
  va_K D vwCl (kty τ) U ∧ vk_S 3 klen kbyt (fun i => ad (1000 + i)) (fun i => ad (2000 + i)) A U H ∧
  vk_R "KeyFists$Grammar" 50 "letter" (ad 1000) U ∧ vk_R "KeyFists$Grammar" 59 "word" (ad 1001) U ∧ vk_R "KeyFists$Grammar" 99 "is" (ad 1002) U ∧
  va_Nw (.methodLinkNest "KeyFists$Lines" 44 yX11_areTwoStations "KeyFists") U ∧ va_Nw (.methodLinkNest "KeyFists$Clocks" 45 yX11_isStation "KeyFists") U ∧
  va_Z "java/lang/String" "COMPACT_STRINGS" "Z" (.int 1) A U H ∧ ∃ v : Value, (v = .null ∨ v = .ref 3000) ∧ va_Z "jdk/internal/util/Preconditions" "SIOOBE_FORMATTER" "Ljava/util/function/BiFunction;" (cvv ad v) A U H
theorem kE.warm {ad : Nat → Nat} {τ : Nat → ClassId} {D : va_G} {A : Nat → Prop} {s U : State} {H : Heap} (hW : s.WarmedH U.vm) (h : kE ad τ D A s H) : kE ad τ D A U H := by
  obtain ⟨h1, h2, h3, h4, h5, h6, h7, h8, v, hv, h9⟩ := h
  exact ⟨va_K.moved hW.alike h1, vk_S.moved hW.alike h2, vk_R.warm hW h3, vk_R.warm hW h4, vk_R.warm hW h5, va_Nw.warmM hW h6, va_Nw.warmM hW h7, va_Z.moved hW.alike h8, v, hv, va_Z.moved hW.alike h9⟩
theorem kE.same {ad : Nat → Nat} {τ : Nat → ClassId} {D : va_G} {A : Nat → Prop} {u U : State} {H : Heap} (hv : U.vm = u.vm) (h : kE ad τ D A u H) : kE ad τ D A U H := by
  obtain ⟨h1, h2, h3, h4, h5, h6, h7, h8, v, hv2, h9⟩ := h
  have ha : u.vm.Alike U.vm := by rw [hv]; exact Vm.Alike.refl _
  exact ⟨va_K.moved ha h1, vk_S.moved ha h2, vk_R.same hv h3, vk_R.same hv h4, vk_R.same hv h5, va_Nw.same rfl hv.symm h6, va_Nw.same rfl hv.symm h7, va_Z.moved ha h8, v, hv2, va_Z.moved ha h9⟩
theorem kE.kept {ad : Nat → Nat} {τ : Nat → ClassId} {D : va_G} {A : Nat → Prop} {U : State} {H H1 : Heap} (h : kE ad τ D A U H) (hq : ∀ a : Nat, a < H.size → ¬ A a → H1[a]? = H[a]?) : kE ad τ D A U H1 := by
  obtain ⟨h1, h2, h3, h4, h5, h6, h7, h8, v, hv, h9⟩ := h
  exact ⟨h1, h2.kept hq, h3, h4, h5, h6, h7, h8.kept hq, v, hv, h9.kept hq⟩
theorem kE.narrow {ad : Nat → Nat} {τ : Nat → ClassId} {D : va_G} {A B : Nat → Prop} {U : State} {H : Heap} (h : kE ad τ D A U H) (hAB : ∀ q, B q → A q) : kE ad τ D B U H := by
  obtain ⟨h1, h2, h3, h4, h5, h6, h7, h8, v, hv, h9⟩ := h
  exact ⟨h1, h2.narrow hAB, h3, h4, h5, h6, h7, h8.narrow hAB, v, hv, h9.narrow hAB⟩
/-! ===== locals ===== -/
def lg : List (Option Value) → Nat → Option Value
  | [], _ => none
  | a :: _, 0 => a
  | _ :: t, i + 1 => lg t i
def lclr : Option Value → Option Value
  | some (.long _) => none
  | some (.double _) => none
  | a => a
def lset : List (Option Value) → Nat → Value → List (Option Value)
  | [], _, _ => []
  | _ :: t, 0, v => some v :: t
  | a :: t, i + 1, v => (match i with | 0 => lclr a | _ => a) :: lset t i v
def lcut : List (Option Value) → Nat → List (Option Value)
  | [], _ => []
  | _ :: t, 0 => none :: t
  | a :: t, i + 1 => a :: lcut t i
/-- a long at i: its second half stands behind it -/
def lset2 (L : List (Option Value)) (i : Nat) (v : Value) : List (Option Value) := lcut (lset L i v) (i + 1)
def lpairs (ad : Nat → Nat) : Nat → List (Option Value) → List (Nat × Value)
  | _, [] => []
  | i, none :: t => lpairs ad (i + 1) t
  | i, some v :: t => (i, cvv ad v) :: lpairs ad (i + 1) t
theorem lpairs_lg {ad : Nat → Nat} : ∀ {L : List (Option Value)} {i b : Nat} {v : Value}, lg L i = some v → (b + i, cvv ad v) ∈ lpairs ad b L := by
  intro L
  induction L with
  | nil => intro i b v h; cases h
  | cons a t ih =>
    intro i b v h
    cases i with
    | zero =>
      have h : a = some v := h
      subst h
      exact List.mem_cons_self
    | succ i =>
      have h : lg t i = some v := h
      have h2 := ih (b := b + 1) h
      rw [show b + (i + 1) = b + 1 + i by omega]
      cases a with
      | none => exact h2
      | some w => exact List.mem_cons_of_mem _ h2
theorem lpairs_ge {ad : Nat → Nat} : ∀ {L : List (Option Value)} {b : Nat} {q : Nat × Value}, q ∈ lpairs ad b L → b ≤ q.1 := by
  intro L
  induction L with
  | nil => intro b q h; cases h
  | cons a t ih =>
    intro b q h
    cases a with
    | none => have := ih (b := b + 1) h; omega
    | some w =>
      rcases List.mem_cons.mp h with h | h
      · subst h; exact Nat.le_refl _
      · have := ih (b := b + 1) h; omega
theorem lpairs_lset {ad : Nat → Nat} {v : Value} : ∀ {L : List (Option Value)} {i b : Nat} {q : Nat × Value}, q ∈ lpairs ad b (lset L i v) → q = (b + i, cvv ad v) ∨ (q ∈ lpairs ad b L ∧ q.1 ≠ b + i ∧ ¬ (q.1 + 1 = b + i ∧ q.2.category = 2)) := by
  intro L
  induction L with
  | nil => intro i b q h; cases h
  | cons a t ih =>
    intro i b q h
    cases i with
    | zero =>
      rcases List.mem_cons.mp h with h9 | h9
      · exact Or.inl h9
      · have hg := lpairs_ge h9
        refine Or.inr ⟨?_, by omega, by omega⟩
        clear h
        cases a with
        | none => exact h9
        | some w => exact List.mem_cons_of_mem _ h9
    | succ i =>
      have key : ∀ (a' : Option Value), (∀ w, a' = some w → a = some w ∧ ¬ (i = 0 ∧ w.category = 2)) → q ∈ lpairs ad b (a' :: lset t i v) → q = (b + (i + 1), cvv ad v) ∨ (q ∈ lpairs ad b (a :: t) ∧ q.1 ≠ b + (i + 1) ∧ ¬ (q.1 + 1 = b + (i + 1) ∧ q.2.category = 2)) := by
        intro a' ha h
        have tail : q ∈ lpairs ad (b + 1) (lset t i v) → q = (b + (i + 1), cvv ad v) ∨ (q ∈ lpairs ad b (a :: t) ∧ q.1 ≠ b + (i + 1) ∧ ¬ (q.1 + 1 = b + (i + 1) ∧ q.2.category = 2)) := by
          intro h
          rcases ih h with h | ⟨h1, h2, h3⟩
          · left; rw [h, show b + 1 + i = b + (i + 1) by omega]
          · right
            refine ⟨?_, by omega, fun z => h3 ⟨by omega, z.2⟩⟩
            cases a with
            | none => exact h1
            | some w => exact List.mem_cons_of_mem _ h1
        cases a' with
        | none => exact tail h
        | some w =>
          obtain ⟨e1, e2⟩ := ha w rfl
          rcases List.mem_cons.mp h with h | h
          · right
            subst h
            subst e1
            refine ⟨List.mem_cons_self, by show b ≠ _; omega, fun z => e2 ⟨?_, ?_⟩⟩
            · have := z.1
              have : b + 1 = b + (i + 1) := this
              omega
            · have := z.2
              rwa [show ((b, cvv ad w) : Nat × Value).2 = cvv ad w from rfl, cvv_cat] at this
          · exact tail h
      cases i with
      | zero =>
        refine key (lclr a) (fun w hw => ?_) h
        cases a with
        | none => cases hw
        | some u => cases u <;> first | (cases hw; exact ⟨rfl, fun z => by cases z.2⟩) | cases hw
      | succ i => exact key a (fun w hw => ⟨hw, fun z => by cases z.1⟩) h
theorem lpairs_lcut {ad : Nat → Nat} : ∀ {L : List (Option Value)} {i b : Nat} {q : Nat × Value}, q ∈ lpairs ad b (lcut L i) → q ∈ lpairs ad b L ∧ q.1 ≠ b + i := by
  intro L
  induction L with
  | nil => intro i b q h; cases h
  | cons a t ih =>
    intro i b q h
    cases i with
    | zero =>
      have hg := lpairs_ge (b := b + 1) (L := t) h
      refine ⟨?_, by omega⟩
      cases a with
      | none => exact h
      | some w => exact List.mem_cons_of_mem _ h
    | succ i =>
      cases a with
      | none =>
        obtain ⟨h1, h2⟩ := ih (b := b + 1) h
        exact ⟨h1, by omega⟩
      | some w =>
        rcases List.mem_cons.mp h with h | h
        · subst h
          exact ⟨List.mem_cons_self, by show b ≠ _; omega⟩
        · obtain ⟨h1, h2⟩ := ih (b := b + 1) h
          exact ⟨List.mem_cons_of_mem _ h1, by omega⟩
theorem lh_sub {ls : Array Slot} {nL : Nat} {l l' : List (Nat × Value)} (h : lv_has ls nL l) (hs : ∀ q ∈ l', q ∈ l) : lv_has ls nL l' := ⟨h.1, h.2.1, fun q hq => h.2.2 q (hs q hq)⟩
theorem lh_set {ad : Nat → Nat} {ls : Array Slot} {nL i : Nat} {L : List (Option Value)} {v : Value} {l' : List (Nat × Value)} (h : lv_has ls nL ((i, cvv ad v) :: (lpairs ad 0 L).filter (fun q => !(q.1 == i) && !(q.1 + 1 == i && q.2.category == 2)))) : lv_has ls nL (lpairs ad 0 (lset L i v)) := by
  refine lh_sub h fun q hq => ?_
  rcases lpairs_lset hq with e | ⟨h1, h2, h3⟩
  · rw [e, Nat.zero_add]; exact List.mem_cons_self
  · refine List.mem_cons_of_mem _ (List.mem_filter.mpr ⟨h1, ?_⟩)
    simp only [Nat.zero_add] at h2 h3
    simp only [Bool.and_eq_true, Bool.not_eq_true', beq_eq_false_iff_ne, Bool.and_eq_false_imp, beq_iff_eq, ne_eq]
    exact ⟨h2, fun a hb => h3 ⟨a, hb⟩⟩
theorem lh_set2 {ad : Nat → Nat} {ls : Array Slot} {nL i : Nat} {L : List (Option Value)} {v : Value} (h : lv_has ls nL ((i, cvv ad v) :: (lpairs ad 0 L).filter (fun q => !(q.1 == i) && (!(q.1 == i + 1) && !(q.1 + 1 == i && q.2.category == 2))))) : lv_has ls nL (lpairs ad 0 (lset2 L i v)) := by
  refine lh_sub h fun q hq => ?_
  obtain ⟨hq, hc⟩ := lpairs_lcut hq
  rcases lpairs_lset hq with e | ⟨h1, h2, h3⟩
  · rw [e, Nat.zero_add]; exact List.mem_cons_self
  · refine List.mem_cons_of_mem _ (List.mem_filter.mpr ⟨h1, ?_⟩)
    simp only [Nat.zero_add] at h2 h3 hc
    simp only [Bool.and_eq_true, Bool.not_eq_true', beq_eq_false_iff_ne, Bool.and_eq_false_imp, beq_iff_eq, ne_eq]
    exact ⟨h2, hc, fun a hb => h3 ⟨a, hb⟩⟩
/-- the locals at a method's entry -/
def lentA : List Value → List (Option Value)
  | [] => []
  | .long x :: t => some (.long x) :: none :: lentA t
  | .double x :: t => some (.double x) :: none :: lentA t
  | v :: t => some v :: lentA t
def lpad (n : Nat) (L : List (Option Value)) : List (Option Value) := L ++ List.replicate (n - L.length) none
theorem lpairs_none {ad : Nat → Nat} : ∀ {k b : Nat}, lpairs ad b (List.replicate k none) = [] := by
  intro k
  induction k with
  | zero => intro b; rfl
  | succ k ih => intro b; exact ih
theorem lpairs_app {ad : Nat → Nat} : ∀ {L M : List (Option Value)} {b : Nat}, lpairs ad b (L ++ M) = lpairs ad b L ++ lpairs ad (b + L.length) M := by
  intro L
  induction L with
  | nil => intro M b; rfl
  | cons a t ih =>
    intro M b
    have e : b + 1 + t.length = b + (a :: t).length := by simp only [List.length_cons]; omega
    cases a with
    | none =>
      show lpairs ad (b + 1) (t ++ M) = lpairs ad (b + 1) t ++ _
      rw [ih, e]
    | some v =>
      show (b, cvv ad v) :: lpairs ad (b + 1) (t ++ M) = (b, cvv ad v) :: lpairs ad (b + 1) t ++ _
      rw [ih, e]; rfl
theorem lentA_args {ad : Nat → Nat} : ∀ {As : List Value} {b : Nat}, lpairs ad b (lentA As) = lv_args b (As.map (cvv ad)) := by
  intro As
  induction As with
  | nil => intro b; rfl
  | cons v t ih =>
    intro b
    cases v <;> (first | (show (b, _) :: lpairs ad (b + 1) (lentA t) = (b, _) :: lv_args (b + 1) _; rw [ih]) | (show (b, _) :: lpairs ad (b + 2) (lentA t) = (b, _) :: lv_args (b + 2) _; rw [ih]))
theorem lentA_len {ad : Nat → Nat} : ∀ {As : List Value}, (lg_sl (As.map (cvv ad))).length = (lentA As).length := by
  intro As
  induction As with
  | nil => rfl
  | cons v t ih =>
    have e : lg_sl ((v :: t).map (cvv ad)) = (if (cvv ad v).category = 2 then [.val (cvv ad v), .second] else [.val (cvv ad v)]) ++ lg_sl (t.map (cvv ad)) := by
      simp [lg_sl]
    rw [e, List.length_append, ih, cvv_cat]
    cases v <;> simp [lentA, Value.category] <;> omega
/-! ===== contracts ===== -/
def kQ (sh : Nat → kSh) (N : Nat) (D : va_G) (ad : Nat → Nat) (τ : Nat → ClassId) (A : Nat → Prop) (Φ : Option Value → kMem → Prop) : Array Value → State → Outcome → State → Prop := fun _ st o t =>
  (∃ (v : Option Value) (μ : kMem), o = .returned v ∧ Φ v μ ∧ va_P D vwCl (wl sh N ad τ μ) t.heap) ∧ va_F A st t
def kB (sh : Nat → kSh) (N : Nat) (D : va_G) (ad : Nat → Nat) (τ : Nat → ClassId) (sz : Nat) (μ : kMem) : State → Prop := fun U =>
  U.heap.size = sz ∧ va_P D vwCl (wl sh N ad τ μ) U.heap ∧ va_D (fun _ => True) (wl sh N ad τ μ) ∧ kE ad τ D (va_A (wl sh N ad τ μ) sz) U U.heap
/-- method y, called with the values As in the memory μ, returns, and Φ holds of its answer and the memory behind it -/
def kOk (y : MethodName) (bytes : ByteArray) (maxL : Nat) (ret : Option FieldType) (rm : Room) (sh : Nat → kSh) (N : Nat) (As : List Value) (μ : kMem) (Φ : Option Value → kMem → Prop) : Prop :=
  ∀ (l : Launch) (D : va_G) (ad : Nat → Nat) (τ : Nat → ClassId) (sz : Nat), Met l y (.code y bytes maxL ret :: WG) rm (va_Pc (As.map (cvv ad)) (kB sh N D ad τ sz μ)) (kQ sh N D ad τ (va_A (wl sh N ad τ μ) sz) Φ) 0 0 (va_A (wl sh N ad τ μ) sz)
abbrev kJ : Type := Nat → List (Option Value) → List Value → kMem → Prop
def kC (p : Program) (s : State) (m : MethodId) (args : Array Value) (meth : Method) (c : Code) (cc : ByteArray) (own : String) (nL : Nat) (sh : Nat → kSh) (N : Nat) (ret : Option FieldType) (D : va_G) (ad : Nat → Nat) (τ : Nat → ClassId) (A : Nat → Prop) : Prop :=
  p.tables.exec = Jvm.exec ∧ c.code = cc ∧ c.maxLocals = nL ∧ meth.sig.returnType = ret ∧ meth.locks = false ∧ s.vm.findClass own = some m.cls ∧ (∀ w ∈ WG, w.before args s = true) ∧ (∀ μ : kMem, va_D A (wl sh N ad τ μ)) ∧ kE ad τ D A s s.heap ∧ ∀ q, s.heap.size ≤ q → A q
/-- J says of a place, locals, stack and memory that the method comes from there to a return of which Φ holds -/
def kR (cc : ByteArray) (own : String) (nL : Nat) (R : Room) (sh : Nat → kSh) (N : Nat) (ret : Option FieldType) (Φ : Option Value → kMem → Prop) (J : kJ) : Prop :=
  ∃ (p : Program) (l : Launch) (e : Env) (s : State) (m : MethodId) (args : Array Value) (below : List Frame) (meth : Method) (c : Code) (D : va_G) (ad : Nat → Nat) (τ : Nat → ClassId) (A : Nat → Prop),
    kC p s m args meth c cc own nL sh N ret D ad τ A ∧
    J = fun pc L st μ => ∀ (H : Heap) (locs : List Loc) (ls : Array Slot), va_P D vwCl (wl sh N ad τ μ) H → va_S A s.heap H locs → lv_has ls nL (lpairs ad 0 L) → W p l e R s m args below meth c H locs 0 0 (MQ below (kQ sh N D ad τ A Φ) args s 0 0 A) (F0 m pc ls (st.map (cvv ad)))
theorem kOk.of {y : MethodName} {bytes : ByteArray} {maxL : Nat} {ret : Option FieldType} {rm : Room} {sh : Nat → kSh} {N : Nat} {As : List Value} {μ : kMem} {Φ : Option Value → kMem → Prop} (hy : plainName y.cls = true) (hn : (lentA As).length ≤ maxL)
    (body : ∀ J : kJ, kR bytes y.cls maxL rm sh N ret Φ J → J 0 (lpad maxL (lentA As)) [] μ) : kOk y bytes maxL ret rm sh N As μ Φ := by
  intro l D ad τ sz
  refine Met.ofW (cc := bytes) (maxL := maxL) (ret := ret) hy rfl ?_
  intro p e s m args below meth c s₁ B hml hv
  obtain ⟨rfl, hsz, hP, hD0, hE⟩ := hv
  subst hsz
  have hts := atoms_spec (ws := Cond.code y bytes maxL ret :: WG) B.pre
  have hown : s.vm.findClass y.cls = some m.cls := findClass_of_methodNamed B.named
  have hD : ∀ μ' : kMem, va_D (va_A (wl sh N ad τ μ) s.heap.size) (wl sh N ad τ μ') := fun μ' => va_D_wl hD0 (fun i hi _ => va_A.in (wl_get hi))
  have hA : ∀ q : Nat, s.heap.size ≤ q → va_A (wl sh N ad τ μ) s.heap.size q := fun q h => Or.inr h
  have hl := lv_entry (As.map (cvv ad)) (n := maxL) (by rw [lentA_len]; exact hn)
  rw [lg_entry_eq]
  have K := body _ ⟨p, l, e, s, m, (As.map (cvv ad)).toArray, below, meth, c, D, ad, τ, _, ⟨B.exec, B.bytes, hml, B.returns, B.notSynchronized, hown, fun w hw => hts w (List.mem_cons_of_mem _ hw), hD, hE, hA⟩, rfl⟩
  refine K s.heap [] _ hP va_S.rf ?_
  rw [← lentA_args] at hl
  refine lh_sub hl fun q hq => ?_
  rw [lpad, lpairs_app, lpairs_none, List.append_nil] at hq
  exact hq
def kI (Ψ : Int32 → kMem → Prop) : Option Value → kMem → Prop := fun v μ => ∃ x : Int32, v = some (.int x) ∧ Ψ x μ
def kL (Ψ : Int64 → kMem → Prop) : Option Value → kMem → Prop := fun v μ => ∃ x : Int64, v = some (.long x) ∧ Ψ x μ
def kN (Ψ : kMem → Prop) : Option Value → kMem → Prop := fun v μ => v = none ∧ Ψ μ
abbrev kP (x : Int32) (μ0 : kMem) : Option Value → kMem → Prop := kI (fun r μ => r = x ∧ μ = μ0)
abbrev kPL (x : Int64) (μ0 : kMem) : Option Value → kMem → Prop := kL (fun r μ => r = x ∧ μ = μ0)
/-- a method of an object, as the tables have it -/
def kYv (y : MethodName) (bytes : ByteArray) (maxL : Nat) (ret : Option FieldType) (n : Nat) : Prop :=
  Cond.instanceMethod y ∈ WG ∧ Cond.selects y.cls y y ∈ WG ∧ Cond.initialized y.cls ∈ WG ∧ Cond.code y bytes maxL ret ∈ WG ∧ y.cls ≠ "java/lang/invoke/MethodHandle" ∧ y.cls ≠ "java/lang/invoke/VarHandle" ∧ (parseMethodDescriptor y.desc).map (fun d => d.parameters.length) = some n
/-- a static one -/
def kYs (y : MethodName) (bytes : ByteArray) (maxL : Nat) (ret : Option FieldType) (n : Nat) : Prop :=
  Cond.static y ∈ WG ∧ Cond.initialized y.cls ∈ WG ∧ Cond.code y bytes maxL ret ∈ WG ∧ y.cls ≠ "java/lang/invoke/MethodHandle" ∧ y.cls ≠ "java/lang/invoke/VarHandle" ∧ (parseMethodDescriptor y.desc).map (fun d => d.parameters.length) = some n
/-- a field, as the tables have it -/
def kFd (own : String) (idx ci k : Nat) : Prop :=
  ∃ (C : String) (T : u_T) (n : Nat), vwCl[ci]? = some (C, T, n) ∧ k < n ∧ (∀ w ∈ u_ws C T n, w ∈ WG) ∧ Cond.fieldLink own idx (T k).1 (T k).2.1 (T k).2.2.1 ∈ WG
/-- .. an int that isn't final -/
def kFw (own : String) (idx ci k : Nat) : Prop :=
  ∃ (C : String) (T : u_T) (n : Nat) (ty : Nat → FieldType), vwCl[ci]? = some (C, T, n) ∧ k < n ∧ (∀ w ∈ u_ws C T n, w ∈ WG) ∧ Cond.fieldLink own idx (T k).1 (T k).2.1 (T k).2.2.1 ∈ WG ∧ (∀ k, k < n → parseFieldDescriptor (T k).2.2.1 = some (ty k)) ∧ (∀ a, a < n → ∀ b, b < n → a ≠ b → (T a).2.1 ≠ (T b).2.1) ∧ (T k).2.2.2 = false ∧ (T k).2.2.1 = "I"
def kroom (rm R : Room) (maxL : Nat) : Bool := rm.cells == 0 && rm.slots == 0 && Nat.ble (rm.frames + 1) R.frames && Nat.ble (8 + (maxL + 11) + rm.locals) R.locals
theorem kroom_of {rm R : Room} {maxL : Nat} (h : kroom rm R maxL = true) : rm.cells = 0 ∧ rm.slots = 0 ∧ rm.frames + 1 ≤ R.frames ∧ 8 + (maxL + 11) + rm.locals ≤ R.locals := by
  simp only [kroom, Bool.and_eq_true, beq_iff_eq, Nat.ble_eq] at h
  exact ⟨h.1.1.1, h.1.1.2, h.1.2, h.2⟩
def krem (x y : Int32) : Int32 := x - x / y * y
def kremL (x y : Int64) : Int64 := x - x / y * y
def kushr (x y : Int32) : Int32 := (x.toUInt32 >>> (y.toUInt32 &&& Int32.toUInt32 31)).toInt32
