/-! ===== the law: both objects side by side, and the script ===== -/
theorem va_D_ad {A : Nat → Prop} {sh : Nat → kSh} {N : Nat} {ad : Nat → Nat} {τ : Nat → ClassId} {μ : kMem} (hinj : ∀ i j, i < N → j < N → ad i = ad j → i = j) (hA : ∀ i, i < N → A (ad i)) : va_D A (wl sh N ad τ μ) := by
  refine ⟨fun i j x y hi hj e => ?_, fun k q hk => ?_⟩
  · obtain ⟨h1, e1⟩ := wl_ad hi
    obtain ⟨h2, e2⟩ := wl_ad hj
    exact hinj i j h1 h2 (by rw [← e1, ← e2]; exact e)
  · obtain ⟨h1, e1⟩ := wl_ad hk
    rw [e1]
    exact hA k h1
theorem adL_lt {h : Nat} {x : Nat → Nat} {i : Nat} (hi : i < 1000) : adL h x i = h + i := by
  unfold adL
  rw [if_pos hi]
theorem adL_ge {h : Nat} {x : Nat → Nat} {i : Nat} (hi : ¬ i < 1000) : adL h x i = x i := by
  unfold adL
  rw [if_neg hi]
/-- where the law's own three references are -/
def adS (b h : Nat) : Nat → Nat := fun i => match i with
  | 0 => b
  | 1 => h
  | _ => h + 68
abbrev lJt : Type := Nat → List (Option Value) → List Value → kMem → kMem → Prop
def lC (p : Program) (s : State) (m : MethodId) (args : Array Value) (meth : Method) (c : Code) (D : va_G) (τ : Nat → ClassId) (x : Nat → Nat) (b Ls : Nat) (xs : Nat → Int32) : Prop :=
  p.tables.exec = Jvm.exec ∧ c.code = cL_law ∧ c.maxLocals = 4 ∧ meth.sig.returnType = ret ∧ meth.locks = false ∧ s.vm.findClass R_law = some m.cls ∧ (∀ w ∈ WG, w.before args s = true) ∧ va_X b Ls xs s s.heap ∧ b < s.heap.size ∧ kE (adL s.heap.size x) τ D (fun q => s.heap.size ≤ q) s s.heap ∧ kE (adL (s.heap.size + 68) x) τ D (fun q => s.heap.size ≤ q) s s.heap ∧ args = #[Value.ref b]
/-- J says of a place, locals, stack and both memories that the law comes from there to its end with true -/
def lR (Ls : Nat) (xs : Nat → Int32) (J : lJt) : Prop :=
  ∃ (p : Program) (l : Launch) (e : Env) (s : State) (m : MethodId) (args : Array Value) (below : List Frame) (meth : Method) (c : Code) (D : va_G) (τ : Nat → ClassId) (x : Nat → Nat) (b : Nat), lC p s m args meth c D τ x b Ls xs ∧
    J = fun pc L st κ μ => ∀ (H : Heap) (locs : List Loc) (ls : Array Slot), va_P D vwCl (wl shK 68 (adL s.heap.size x) τ κ) H → va_P D vwCl (wl shM 48 (adL (s.heap.size + 68) x) τ μ) H → va_S (fun q => s.heap.size ≤ q) s.heap H locs → lv_has ls 4 (lpairs (adS b s.heap.size) 0 L) → W p l e room_1 s m #[Value.ref b] below meth c H locs 600000 7302250 (lw_Z below #[Value.ref b] s) (F0 m pc ls (st.map (cvv (adS b s.heap.size))))
theorem lcall {p : Program} {l : Launch} {e : Env} {R : Room} {s : State} {m : MethodId} {args : Array Value} {below : List Frame} {meth : Method} {c : Code} {sh : Nat → kSh} {N : Nat} {D : va_G} {ad : Nat → Nat} {τ : Nat → ClassId} {A A1 : Nat → Prop} {H : Heap} {locs : List Loc} {nc ns pc : Nat} {ls : Array Slot} {st0 rest : List Value} {Ψ : Option Value → kMem → Prop} {Q : State → Prop} {a : Array Value}
    (hr : va_Run p l e R s m args below meth c H locs nc ns 0 0 (F0 m pc ls st0) rest (kQ sh N D ad τ A1 Ψ a) A1) (hS : va_S A s.heap H locs) (hA1 : ∀ q, A1 q → A q)
    (kk : ∀ (v : Option Value) (μ' : kMem) (H1 : Heap) (locs1 : List Loc), Ψ v μ' → va_P D vwCl (wl sh N ad τ μ') H1 → va_S A s.heap H1 locs1 → (∀ q, q < H.size → ¬ A1 q → H1[q]? = H[q]?) → W p l e R s m args below meth c H1 locs1 nc ns Q (F0 m (pc + 3) ls (v.toList ++ rest))) : W p l e R s m args below meth c H locs nc ns Q (F0 m pc ls st0) := by
  intro T hT X
  obtain ⟨v, st₀, t, T', L, h0, X', hL, e1, e2, ⟨⟨v', μ', hv, hp, hb⟩, hz, hk⟩, st⟩ := hr T hT X
  cases hv
  rw [h0] at hz hk
  rw [← e1] at hb hz hk
  obtain ⟨t2, a1, b1⟩ := kk v μ' T'.heap (locs ++ L) hp hb
    ⟨Nat.le_trans hS.1 hz, fun q h1 h2 => by rw [hk q (Nat.lt_of_lt_of_le h1 hS.1) (fun z => h2 (hA1 q z))]; exact hS.2.1 q h1 h2, fun q hq => by
      rcases List.mem_append.mp hq with h | h
      · exact hS.2.2 q h
      · exact hA1 _ (hL q h)⟩ hk T' rfl X'
  exact ⟨t2, st t2 a1, b1⟩
theorem map_ints {ad : Nat → Nat} : ∀ {As : List Int32}, (As.map Value.int).map (cvv ad) = As.map Value.int := by
  intro As
  induction As with
  | nil => rfl
  | cons a t ih => simp only [List.map_cons, ih]; rfl
theorem rev_ints {ad : Nat → Nat} {As : List Int32} : ((As.map Value.int).reverse).map (cvv ad) = (As.map Value.int).reverse := by rw [List.map_reverse, map_ints]
section LR
variable {Ls : Nat} {xs : Nat → Int32} {J : lJt} {pc : Nat} {L : List (Option Value)} {st : List Value} {κ μ : kMem}
theorem l_iconst (C : lR Ls xs J) {n : Int} (hd : decode cL_law pc = .ok (.iconst n, 1)) (k : J (pc + 1) L (.int (Int32.ofInt n) :: st) κ μ) : J pc L st κ μ := by
  obtain ⟨p, l, e, s, m, args, below, meth, c, D, τ, x, b, ⟨hx, hb, hml, hr, hlk, hown, hw, hX, hbl, hEK, hEM, ha⟩, rfl⟩ := C
  intro H locs ls hP hM hS hl
  exact lv_iconst hx hb hd rfl (k H locs ls hP hM hS hl)
theorem l_bipush (C : lR Ls xs J) {n : Int} (hd : decode cL_law pc = .ok (.bipush n, 2)) (hv : (Int8.ofInt n).toInt32 = Int32.ofInt n) (k : J (pc + 2) L (.int (Int32.ofInt n) :: st) κ μ) : J pc L st κ μ := by
  obtain ⟨p, l, e, s, m, args, below, meth, c, D, τ, x, b, ⟨hx, hb, hml, hr, hlk, hown, hw, hX, hbl, hEK, hEM, ha⟩, rfl⟩ := C
  intro H locs ls hP hM hS hl
  exact lv_bipush hx hb hd hv (k H locs ls hP hM hS hl)
theorem l_iload_n (C : lR Ls xs J) {q : Fin 4} {i : Nat} {v : Int32} (hd : decode cL_law pc = .ok (.iload_n q, 1)) (hi : (q : Nat) = i) (hg : lg L i = some (.int v)) (k : J (pc + 1) L (.int v :: st) κ μ) : J pc L st κ μ := by
  obtain ⟨p, l, e, s, m, args, below, meth, c, D, τ, x, b, ⟨hx, hb, hml, hr, hlk, hown, hw, hX, hbl, hEK, hEM, ha⟩, rfl⟩ := C
  intro H locs ls hP hM hS hl
  exact lv_iload_n hx hb hd hi (hl.2.2 _ (by have h9 := lpairs_lg (ad := adS b s.heap.size) (b := 0) hg; rw [Nat.zero_add] at h9; exact h9)) (k H locs ls hP hM hS hl)
theorem l_aload_n (C : lR Ls xs J) {q : Fin 4} {i v : Nat} (hd : decode cL_law pc = .ok (.aload_n q, 1)) (hi : (q : Nat) = i) (hg : lg L i = some (.ref v)) (k : J (pc + 1) L (.ref v :: st) κ μ) : J pc L st κ μ := by
  obtain ⟨p, l, e, s, m, args, below, meth, c, D, τ, x, b, ⟨hx, hb, hml, hr, hlk, hown, hw, hX, hbl, hEK, hEM, ha⟩, rfl⟩ := C
  intro H locs ls hP hM hS hl
  exact lv_aload_n hx hb hd hi (hl.2.2 _ (by have h9 := lpairs_lg (ad := adS b s.heap.size) (b := 0) hg; rw [Nat.zero_add] at h9; exact h9)) (k H locs ls hP hM hS hl)
theorem l_iinc (C : lR Ls xs J) {i : Nat} {n : Int} {v : Int32} (hd : decode cL_law pc = .ok (.iinc i n, 3)) (hg : lg L i = some (.int v)) (hn : i < 4) (k : J (pc + 3) (lset L i (.int (v + Int32.ofInt n))) st κ μ) : J pc L st κ μ := by
  obtain ⟨p, l, e, s, m, args, below, meth, c, D, τ, x, b, ⟨hx, hb, hml, hr, hlk, hown, hw, hX, hbl, hEK, hEM, ha⟩, rfl⟩ := C
  intro H locs ls hP hM hS hl
  have h9 := lpairs_lg (ad := adS b s.heap.size) (b := 0) hg
  rw [Nat.zero_add] at h9
  obtain ⟨k9, hk9⟩ := List.getElem?_of_mem h9
  exact lv_iinc hx hb hd hl (k := k9) hk9 rfl hn rfl (fun ls1 hl1 => k H locs ls1 hP hM hS (lh_set (l' := []) hl1))
theorem l_iadd (C : lR Ls xs J) {u v : Int32} (hd : decode cL_law pc = .ok (.iadd, 1)) (k : J (pc + 1) L (.int (u + v) :: st) κ μ) : J pc L (.int v :: .int u :: st) κ μ := by
  obtain ⟨p, l, e, s, m, args, below, meth, c, D, τ, x, b, ⟨hx, hb, hml, hr, hlk, hown, hw, hX, hbl, hEK, hEM, ha⟩, rfl⟩ := C
  intro H locs ls hP hM hS hl
  exact lv_iadd hx hb hd (k H locs ls hP hM hS hl)
theorem l_isub (C : lR Ls xs J) {u v : Int32} (hd : decode cL_law pc = .ok (.isub, 1)) (k : J (pc + 1) L (.int (u - v) :: st) κ μ) : J pc L (.int v :: .int u :: st) κ μ := by
  obtain ⟨p, l, e, s, m, args, below, meth, c, D, τ, x, b, ⟨hx, hb, hml, hr, hlk, hown, hw, hX, hbl, hEK, hEM, ha⟩, rfl⟩ := C
  intro H locs ls hP hM hS hl
  exact lv_isub hx hb hd (k H locs ls hP hM hS hl)
theorem l_iand (C : lR Ls xs J) {u v : Int32} (hd : decode cL_law pc = .ok (.iand, 1)) (k : J (pc + 1) L (.int (u &&& v) :: st) κ μ) : J pc L (.int v :: .int u :: st) κ μ := by
  obtain ⟨p, l, e, s, m, args, below, meth, c, D, τ, x, b, ⟨hx, hb, hml, hr, hlk, hown, hw, hX, hbl, hEK, hEM, ha⟩, rfl⟩ := C
  intro H locs ls hP hM hS hl
  exact lv_iand hx hb hd (k H locs ls hP hM hS hl)
theorem l_goto (C : lR Ls xs J) {off : Int} {tgt : Nat} (hd : decode cL_law pc = .ok (.goto off, 3)) (ht : (pc : Int) + off = (tgt : Int)) (k : J tgt L st κ μ) : J pc L st κ μ := by
  obtain ⟨p, l, e, s, m, args, below, meth, c, D, τ, x, b, ⟨hx, hb, hml, hr, hlk, hown, hw, hX, hbl, hEK, hEM, ha⟩, rfl⟩ := C
  intro H locs ls hP hM hS hl
  exact lv_goto hx hb hd ht (k H locs ls hP hM hS hl)
theorem l_eq (C : lR Ls xs J) {v : Int32} {off : Int} {tgt : Nat} (hd : decode cL_law pc = .ok (.if_icmp .eq off, 3)) (ht : (pc : Int) + off = (tgt : Int)) (k : J tgt L st κ μ) : J pc L (.int v :: .int v :: st) κ μ := by
  obtain ⟨p, l, e, s, m, args, below, meth, c, D, τ, x, b, ⟨hx, hb, hml, hr, hlk, hown, hw, hX, hbl, hEK, hEM, ha⟩, rfl⟩ := C
  intro H locs ls hP hM hS hl
  exact lv_icmp_eq hx hb hd ht (fun _ => k H locs ls hP hM hS hl) (fun q => absurd rfl q)
theorem l_gt (C : lR Ls xs J) {u v : Int32} {off : Int} {tgt : Nat} (hd : decode cL_law pc = .ok (.if_icmp .gt off, 3)) (ht : (pc : Int) + off = (tgt : Int)) (kt : v.toInt < u.toInt → J tgt L st κ μ) (kf : u.toInt ≤ v.toInt → J (pc + 3) L st κ μ) : J pc L (.int v :: .int u :: st) κ μ := by
  obtain ⟨p, l, e, s, m, args, below, meth, c, D, τ, x, b, ⟨hx, hb, hml, hr, hlk, hown, hw, hX, hbl, hEK, hEM, ha⟩, rfl⟩ := C
  intro H locs ls hP hM hS hl
  exact lv_icmp_gt hx hb hd ht (fun q => kt (Int32.lt_iff_toInt_lt.mp q) H locs ls hP hM hS hl) (fun q => kf (by rw [Int32.lt_iff_toInt_lt] at q; omega) H locs ls hP hM hS hl)
theorem l_len (C : lR Ls xs J) (hd : decode cL_law pc = .ok (.arraylength, 1)) (k : J (pc + 1) L (.int (Int32.ofNat Ls) :: st) κ μ) : J pc L (.ref 0 :: st) κ μ := by
  obtain ⟨p, l, e, s, m, args, below, meth, c, D, τ, x, b, ⟨hx, hb, hml, hr, hlk, hown, hw, hX, hbl, hEK, hEM, ha⟩, rfl⟩ := C
  intro H locs ls hP hM hS hl
  exact va_slen hx hb hX hbl (Nat.not_le.mpr hbl) hS hd (k H locs ls hP hM hS hl)
theorem l_ald (C : lR Ls xs J) {i : Int32} (hd : decode cL_law pc = .ok (.iaload, 1)) (hin : 0 ≤ i.toInt ∧ i.toInt < (Ls : Int)) (k : J (pc + 1) L (.int (xs i.toNatClampNeg) :: st) κ μ) : J pc L (.int i :: .ref 0 :: st) κ μ := by
  obtain ⟨p, l, e, s, m, args, below, meth, c, D, τ, x, b, ⟨hx, hb, hml, hr, hlk, hown, hw, hX, hbl, hEK, hEM, ha⟩, rfl⟩ := C
  intro H locs ls hP hM hS hl
  exact va_sld hx hb hX hbl (Nat.not_le.mpr hbl) hS (vp_of hin) hd (k H locs ls hP hM hS hl)
theorem l_table (C : lR Ls xs J) {dflt lo hi : Int} {offs : Array Int} {len : Nat} {v : Int32} {tg : Nat} (hd : decode cL_law pc = .ok (.tableswitch dflt lo hi offs, len)) (ht : (pc : Int) + dflt = (tg : Int)) (hsz : (hi - lo + 1).toNat ≤ offs.size) (hge : ∀ i, i < offs.size → 0 ≤ (pc : Int) + offs.getD i 0) (kin : ∀ i : Nat, (i : Int) = v.toInt - lo → lo ≤ v.toInt → v.toInt ≤ hi → J ((pc : Int) + offs.getD i 0).toNat L st κ μ) (kout : J tg L st κ μ) : J pc L (.int v :: st) κ μ := by
  obtain ⟨p, l, e, s, m, args, below, meth, c, D, τ, x, b, ⟨hx, hb, hml, hr, hlk, hown, hw, hX, hbl, hEK, hEM, ha⟩, rfl⟩ := C
  intro H locs ls hP hM hS hl
  by_cases h1 : v.toInt < lo
  · exact lv_tableOut hx hb hd (Or.inl h1) ht (kout H locs ls hP hM hS hl)
  · by_cases h2 : hi < v.toInt
    · exact lv_tableOut hx hb hd (Or.inr h2) ht (kout H locs ls hP hM hS hl)
    · have hlt : (v.toInt - lo).toNat < offs.size := by omega
      exact lv_tableIn (off := offs.getD (v.toInt - lo).toNat 0) hx hb hd h1 h2 (by simp [hlt]) (by have := hge _ hlt; omega) (kin (v.toInt - lo).toNat (by omega) (by omega) (by omega) H locs ls hP hM hS hl)
theorem l_ret (C : lR Ls xs J) (hd : decode cL_law pc = .ok (.ireturn, 1)) : J pc L [.int 1] κ μ := by
  obtain ⟨p, l, e, s, m, args, below, meth, c, D, τ, x, b, ⟨hx, hb, hml, hr, hlk, hown, hw, hX, hbl, hEK, hEM, ha⟩, rfl⟩ := C
  intro H locs ls hP hM hS hl
  exact va_forget (fun q hq => hS.2.2 q hq) (lw_ret hx hb hr hlk hd)
variable {y : MethodName} {bytes : ByteArray} {maxL n idx : Nat} {ret' : Option FieldType} {rm : Room}
theorem l_callK (C : lR Ls xs J) (ly : kYv y bytes maxL ret' n) (hyc : y.cls = RX11) (hl : Cond.methodLink R_law idx y ∈ WG) (hR : kroom rm room_1 maxL = true) {As : List Int32} {rest : List Value} (hn : As.length = n) (hcat : (rest.map fun v => v.category).sum ≤ 8) {Ψ : Int32 → kMem → Prop} (h : kOk y bytes maxL ret' rm shK 68 (.ref 0 :: As.map Value.int) κ (kI Ψ)) (hd : decode cL_law pc = .ok (.invokevirtual idx, 3))
    (hst : st = (As.map Value.int).reverse ++ .ref 1 :: rest) (k : ∀ (r : Int32) (κ' : kMem), Ψ r κ' → J (pc + 3) L (.int r :: rest) κ' μ) : J pc L st κ μ := by
  subst hst
  obtain ⟨p, l, e, s, m, args, below, meth, c, D, τ, x, b, ⟨hx, hb, hml, hr, hlk, hown, hw, hX, hbl, hEK, hEM, ha⟩, rfl⟩ := C
  subst ha
  obtain ⟨hr1, hr2, hr3, hr4⟩ := kroom_of hR
  intro H locs ls hP hM hS hl2
  have hD : ∀ κ : kMem, va_D (fun q => s.heap.size ≤ q) (wl shK 68 (adL s.heap.size x) τ κ) := fun κ => va_D_ad (fun i j hi hj e => by rw [adL_lt (by omega), adL_lt (by omega)] at e; omega) (fun i hi => by show s.heap.size ≤ _; rw [adL_lt (by omega)]; omega)
  have C0 : kC p s m #[Value.ref b] meth c cL_law R_law 4 shK 68 ret D (adL s.heap.size x) τ (fun q => s.heap.size ≤ q) := ⟨hx, hb, hml, hr, hlk, hown, hw, hD, hEK, fun _ q => q⟩
  have hrun := va_runV (As := As.map Value.int) (rest := rest.map (cvv (adS b s.heap.size))) (g := F0 m pc ls (((As.map Value.int).reverse ++ .ref 1 :: rest).map (cvv (adS b s.heap.size)))) (e := e) (meth := meth) (locs := locs) (cells := 600000) (slots := 7302250) (below := below) ⟨hx, hb, hml, hown, hw⟩ (by have h9 := h l D (adL s.heap.size x) τ H.size; rw [List.map_cons, map_ints] at h9; exact h9) (cwV (R := room_1) n hw (kgoodV ly hl) rfl hr1 hr2 ⟨rfl, ly.2.2.2.2⟩ ⟨hr3, hr4⟩) ⟨kB_blind, va_recv hEK.1 hP (ci := 11) (q0 := 0) (q := (y.cls, TX11, 13)) (by rw [hyc]; rfl) (by rw [wl_get (by decide)]; rfl), fun U hU hW => ⟨rfl, kB_of C0 hP hS hU hW⟩⟩ rfl (by rw [List.length_map]; exact hn) hl2.1 (by rw [List.map_append, rev_ints]; rfl) (lv_room (by rw [map_cat]; exact hcat)) hd ⟨Nat.le_of_ble_eq_true rfl, Nat.le_of_ble_eq_true rfl⟩
  refine lcall (meth := meth) hrun hS (kA_in (hD κ) hS (fun _ q => q)) (fun v κ' H1 locs1 hΨ hP1 hS1 hk1 => ?_)
  obtain ⟨r, rfl, hΨ⟩ := hΨ
  refine k r κ' hΨ H1 locs1 ls hP1 (fun i q hq => (hM i q hq).kept (hk1 q.1 (hM i q hq).lt (fun z => ?_))) hS1 hl2
  have hlt := (hM i q hq).lt
  obtain ⟨i1, i2⟩ := wl_ad hq
  rcases z with ⟨j, e', hj⟩ | z
  · obtain ⟨j1, j2⟩ := wl_ad hj
    have j2 : q.1 = adL s.heap.size x j := j2
    rw [adL_lt (by omega)] at i2 j2
    omega
  · omega
theorem l_callM (C : lR Ls xs J) (ly : kYv y bytes maxL ret' n) (hyc : y.cls = RX12) (hl : Cond.methodLink R_law idx y ∈ WG) (hR : kroom rm room_1 maxL = true) {As : List Int32} {rest : List Value} (hn : As.length = n) (hcat : (rest.map fun v => v.category).sum ≤ 8) {Ψ : Int32 → kMem → Prop} (h : kOk y bytes maxL ret' rm shM 48 (.ref 0 :: As.map Value.int) μ (kI Ψ)) (hd : decode cL_law pc = .ok (.invokevirtual idx, 3))
    (hst : st = (As.map Value.int).reverse ++ .ref 2 :: rest) (k : ∀ (r : Int32) (μ' : kMem), Ψ r μ' → J (pc + 3) L (.int r :: rest) κ μ') : J pc L st κ μ := by
  subst hst
  obtain ⟨p, l, e, s, m, args, below, meth, c, D, τ, x, b, ⟨hx, hb, hml, hr, hlk, hown, hw, hX, hbl, hEK, hEM, ha⟩, rfl⟩ := C
  subst ha
  obtain ⟨hr1, hr2, hr3, hr4⟩ := kroom_of hR
  intro H locs ls hP hM hS hl2
  have hD : ∀ μ : kMem, va_D (fun q => s.heap.size ≤ q) (wl shM 48 (adL (s.heap.size + 68) x) τ μ) := fun μ => va_D_ad (fun i j hi hj e => by rw [adL_lt (by omega), adL_lt (by omega)] at e; omega) (fun i hi => by show s.heap.size ≤ _; rw [adL_lt (by omega)]; omega)
  have C0 : kC p s m #[Value.ref b] meth c cL_law R_law 4 shM 48 ret D (adL (s.heap.size + 68) x) τ (fun q => s.heap.size ≤ q) := ⟨hx, hb, hml, hr, hlk, hown, hw, hD, hEM, fun _ q => q⟩
  have hrun := va_runV (As := As.map Value.int) (rest := rest.map (cvv (adS b s.heap.size))) (g := F0 m pc ls (((As.map Value.int).reverse ++ .ref 2 :: rest).map (cvv (adS b s.heap.size)))) (e := e) (meth := meth) (locs := locs) (cells := 600000) (slots := 7302250) (below := below) ⟨hx, hb, hml, hown, hw⟩ (by have h9 := h l D (adL (s.heap.size + 68) x) τ H.size; rw [List.map_cons, map_ints] at h9; exact h9) (cwV (R := room_1) n hw (kgoodV ly hl) rfl hr1 hr2 ⟨rfl, ly.2.2.2.2⟩ ⟨hr3, hr4⟩) ⟨kB_blind, va_recv hEM.1 hM (ci := 12) (q0 := 0) (q := (y.cls, TX12, 56)) (by rw [hyc]; rfl) (by rw [wl_get (by decide)]; rfl), fun U hU hW => ⟨rfl, kB_of C0 hM hS hU hW⟩⟩ rfl (by rw [List.length_map]; exact hn) hl2.1 (by rw [List.map_append, rev_ints]; rfl) (lv_room (by rw [map_cat]; exact hcat)) hd ⟨Nat.le_of_ble_eq_true rfl, Nat.le_of_ble_eq_true rfl⟩
  refine lcall (meth := meth) hrun hS (kA_in (hD μ) hS (fun _ q => q)) (fun v μ' H1 locs1 hΨ hM1 hS1 hk1 => ?_)
  obtain ⟨r, rfl, hΨ⟩ := hΨ
  refine k r μ' hΨ H1 locs1 ls (fun i q hq => (hP i q hq).kept (hk1 q.1 (hP i q hq).lt (fun z => ?_))) hM1 hS1 hl2
  have hlt := (hP i q hq).lt
  obtain ⟨i1, i2⟩ := wl_ad hq
  rcases z with ⟨j, e', hj⟩ | z
  · obtain ⟨j1, j2⟩ := wl_ad hj
    have j2 : q.1 = adL (s.heap.size + 68) x j := j2
    rw [adL_lt (by omega)] at i2 j2
    omega
  · omega
end LR

