/-! ===== a row an instruction, over kR ===== -/
theorem ti_eq {x y : Int32} : x = y ↔ x.toInt = y.toInt := Int32.toInt_inj.symm
theorem ti_eq0 {x : Int32} : x = 0 ↔ x.toInt = 0 := by rw [ti_eq, Int32.toInt_zero]
theorem ti_lt0 {x : Int32} : x < 0 ↔ x.toInt < 0 := by rw [Int32.lt_iff_toInt_lt, Int32.toInt_zero]
theorem ti_le0 {x : Int32} : x ≤ 0 ↔ x.toInt ≤ 0 := by rw [Int32.le_iff_toInt_le, Int32.toInt_zero]
theorem ti_0lt {x : Int32} : 0 < x ↔ 0 < x.toInt := by rw [Int32.lt_iff_toInt_lt, Int32.toInt_zero]
theorem ti_0le {x : Int32} : 0 ≤ x ↔ 0 ≤ x.toInt := by rw [Int32.le_iff_toInt_le, Int32.toInt_zero]
section KR
variable {cc : ByteArray} {own : String} {nL : Nat} {R : Room} {sh : Nat → kSh} {N : Nat} {ret : Option FieldType} {Φ : Option Value → kMem → Prop} {J : kJ} {pc : Nat} {L : List (Option Value)} {st : List Value} {μ : kMem}
theorem r_iconst (C : kR cc own nL R sh N ret Φ J) {n : Int} (hd : decode cc pc = .ok (.iconst n, 1)) (k : J (pc + 1) L (.int (Int32.ofInt n) :: st) μ) : J pc L (st) μ := by
  obtain ⟨p, l, e, s, m, args, below, meth, c, D, ad, τ, A, ⟨hx, hb, hml, hr, hlk, hown, hw, hD, hE, hA⟩, rfl⟩ := C
  intro H locs ls hP hS hl
  exact lv_iconst hx hb hd rfl (k H locs ls hP hS hl)
theorem r_bipush (C : kR cc own nL R sh N ret Φ J) {n : Int} (hd : decode cc pc = .ok (.bipush n, 2)) (hv : (Int8.ofInt n).toInt32 = Int32.ofInt n) (k : J (pc + 2) L (.int (Int32.ofInt n) :: st) μ) : J pc L (st) μ := by
  obtain ⟨p, l, e, s, m, args, below, meth, c, D, ad, τ, A, ⟨hx, hb, hml, hr, hlk, hown, hw, hD, hE, hA⟩, rfl⟩ := C
  intro H locs ls hP hS hl
  exact lv_bipush hx hb hd hv (k H locs ls hP hS hl)
theorem r_sipush (C : kR cc own nL R sh N ret Φ J) {n : Int} (hd : decode cc pc = .ok (.sipush n, 3)) (hv : (Int16.ofInt n).toInt32 = Int32.ofInt n) (k : J (pc + 3) L (.int (Int32.ofInt n) :: st) μ) : J pc L (st) μ := by
  obtain ⟨p, l, e, s, m, args, below, meth, c, D, ad, τ, A, ⟨hx, hb, hml, hr, hlk, hown, hw, hD, hE, hA⟩, rfl⟩ := C
  intro H locs ls hP hS hl
  exact lv_sipush hx hb hd hv (k H locs ls hP hS hl)
theorem r_lconst (C : kR cc own nL R sh N ret Φ J) {n : Fin 2} {v : Int64} (hd : decode cc pc = .ok (.lconst n, 1)) (hv : Int64.ofNat (n : Nat) = v) (k : J (pc + 1) L (.long v :: st) μ) : J pc L (st) μ := by
  obtain ⟨p, l, e, s, m, args, below, meth, c, D, ad, τ, A, ⟨hx, hb, hml, hr, hlk, hown, hw, hD, hE, hA⟩, rfl⟩ := C
  intro H locs ls hP hS hl
  exact lv_lconst hx hb hd hv (k H locs ls hP hS hl)
theorem r_ldc (C : kR cc own nL R sh N ret Φ J) {i : Nat} {v : Int32} (hd : decode cc pc = .ok (.ldc i, 2)) (hc : Cond.constant own i v ∈ WG) (k : J (pc + 2) L (.int v :: st) μ) : J pc L (st) μ := by
  obtain ⟨p, l, e, s, m, args, below, meth, c, D, ad, τ, A, ⟨hx, hb, hml, hr, hlk, hown, hw, hD, hE, hA⟩, rfl⟩ := C
  intro H locs ls hP hS hl
  exact lv_ldc hx hb hown (hw _ hc) hd (k H locs ls hP hS hl)
theorem r_ldcw (C : kR cc own nL R sh N ret Φ J) {i : Nat} {v : Int32} (hd : decode cc pc = .ok (.ldc_w i, 3)) (hc : Cond.constant own i v ∈ WG) (k : J (pc + 3) L (.int v :: st) μ) : J pc L (st) μ := by
  obtain ⟨p, l, e, s, m, args, below, meth, c, D, ad, τ, A, ⟨hx, hb, hml, hr, hlk, hown, hw, hD, hE, hA⟩, rfl⟩ := C
  intro H locs ls hP hS hl
  exact lv_ldcw hx hb hown (hw _ hc) hd (k H locs ls hP hS hl)
theorem r_ldc2 (C : kR cc own nL R sh N ret Φ J) {i : Nat} {v : Int64} (hd : decode cc pc = .ok (.ldc2_w i, 3)) (hc : Cond.constantLong own i v ∈ WG) (k : J (pc + 3) L (.long v :: st) μ) : J pc L (st) μ := by
  obtain ⟨p, l, e, s, m, args, below, meth, c, D, ad, τ, A, ⟨hx, hb, hml, hr, hlk, hown, hw, hD, hE, hA⟩, rfl⟩ := C
  intro H locs ls hP hS hl
  exact lv_ldc2 hx hb hown (hw _ hc) hd (k H locs ls hP hS hl)
theorem r_iload_n (C : kR cc own nL R sh N ret Φ J) {q : Fin 4} {i : Nat} {x : Int32} (hd : decode cc pc = .ok (.iload_n q, 1)) (hi : (q : Nat) = i) (hg : lg L i = some (.int x)) (k : J (pc + 1) L (.int x :: st) μ) : J pc L (st) μ := by
  obtain ⟨p, l, e, s, m, args, below, meth, c, D, ad, τ, A, ⟨hx, hb, hml, hr, hlk, hown, hw, hD, hE, hA⟩, rfl⟩ := C
  intro H locs ls hP hS hl
  exact lv_iload_n hx hb hd hi (hl.2.2 _ (by have h9 := lpairs_lg (ad := ad) (b := 0) hg; rw [Nat.zero_add] at h9; exact h9)) (k H locs ls hP hS hl)
theorem r_iload (C : kR cc own nL R sh N ret Φ J) {i : Nat} {x : Int32} (hd : decode cc pc = .ok (.iload i, 2)) (hg : lg L i = some (.int x)) (k : J (pc + 2) L (.int x :: st) μ) : J pc L (st) μ := by
  obtain ⟨p, l, e, s, m, args, below, meth, c, D, ad, τ, A, ⟨hx, hb, hml, hr, hlk, hown, hw, hD, hE, hA⟩, rfl⟩ := C
  intro H locs ls hP hS hl
  exact lv_iload hx hb hd (hl.2.2 _ (by have h9 := lpairs_lg (ad := ad) (b := 0) hg; rw [Nat.zero_add] at h9; exact h9)) (k H locs ls hP hS hl)
theorem r_lload_n (C : kR cc own nL R sh N ret Φ J) {q : Fin 4} {i : Nat} {x : Int64} (hd : decode cc pc = .ok (.lload_n q, 1)) (hi : (q : Nat) = i) (hg : lg L i = some (.long x)) (k : J (pc + 1) L (.long x :: st) μ) : J pc L (st) μ := by
  obtain ⟨p, l, e, s, m, args, below, meth, c, D, ad, τ, A, ⟨hx, hb, hml, hr, hlk, hown, hw, hD, hE, hA⟩, rfl⟩ := C
  intro H locs ls hP hS hl
  exact lv_lload_n hx hb hd hi (hl.2.2 _ (by have h9 := lpairs_lg (ad := ad) (b := 0) hg; rw [Nat.zero_add] at h9; exact h9)) (k H locs ls hP hS hl)
theorem r_lload (C : kR cc own nL R sh N ret Φ J) {i : Nat} {x : Int64} (hd : decode cc pc = .ok (.lload i, 2)) (hg : lg L i = some (.long x)) (k : J (pc + 2) L (.long x :: st) μ) : J pc L (st) μ := by
  obtain ⟨p, l, e, s, m, args, below, meth, c, D, ad, τ, A, ⟨hx, hb, hml, hr, hlk, hown, hw, hD, hE, hA⟩, rfl⟩ := C
  intro H locs ls hP hS hl
  exact lv_lload hx hb hd (hl.2.2 _ (by have h9 := lpairs_lg (ad := ad) (b := 0) hg; rw [Nat.zero_add] at h9; exact h9)) (k H locs ls hP hS hl)
theorem r_aload_n (C : kR cc own nL R sh N ret Φ J) {q : Fin 4} {i : Nat} {x : Nat} (hd : decode cc pc = .ok (.aload_n q, 1)) (hi : (q : Nat) = i) (hg : lg L i = some (.ref x)) (k : J (pc + 1) L (.ref x :: st) μ) : J pc L (st) μ := by
  obtain ⟨p, l, e, s, m, args, below, meth, c, D, ad, τ, A, ⟨hx, hb, hml, hr, hlk, hown, hw, hD, hE, hA⟩, rfl⟩ := C
  intro H locs ls hP hS hl
  exact lv_aload_n hx hb hd hi (hl.2.2 _ (by have h9 := lpairs_lg (ad := ad) (b := 0) hg; rw [Nat.zero_add] at h9; exact h9)) (k H locs ls hP hS hl)
theorem r_aload (C : kR cc own nL R sh N ret Φ J) {i : Nat} {x : Nat} (hd : decode cc pc = .ok (.aload i, 2)) (hg : lg L i = some (.ref x)) (k : J (pc + 2) L (.ref x :: st) μ) : J pc L (st) μ := by
  obtain ⟨p, l, e, s, m, args, below, meth, c, D, ad, τ, A, ⟨hx, hb, hml, hr, hlk, hown, hw, hD, hE, hA⟩, rfl⟩ := C
  intro H locs ls hP hS hl
  exact lv_aload hx hb hd (hl.2.2 _ (by have h9 := lpairs_lg (ad := ad) (b := 0) hg; rw [Nat.zero_add] at h9; exact h9)) (k H locs ls hP hS hl)
theorem r_istore_n (C : kR cc own nL R sh N ret Φ J) {q : Fin 4} {i : Nat} {x : Int32} (hd : decode cc pc = .ok (.istore_n q, 1)) (hi : (q : Nat) = i) (hn : i < nL) (k : J (pc + 1) (lset L i (.int x)) st μ) : J pc L (.int x :: st) μ := by
  obtain ⟨p, l, e, s, m, args, below, meth, c, D, ad, τ, A, ⟨hx, hb, hml, hr, hlk, hown, hw, hD, hE, hA⟩, rfl⟩ := C
  intro H locs ls hP hS hl
  exact lv_istore_n hx hb hd hi hl hn rfl (fun ls1 hl1 => k H locs ls1 hP hS (lh_set (l' := []) hl1))
theorem r_istore (C : kR cc own nL R sh N ret Φ J) {i : Nat} {x : Int32} (hd : decode cc pc = .ok (.istore i, 2)) (hn : i < nL) (k : J (pc + 2) (lset L i (.int x)) st μ) : J pc L (.int x :: st) μ := by
  obtain ⟨p, l, e, s, m, args, below, meth, c, D, ad, τ, A, ⟨hx, hb, hml, hr, hlk, hown, hw, hD, hE, hA⟩, rfl⟩ := C
  intro H locs ls hP hS hl
  exact lv_istore hx hb hd hl hn rfl (fun ls1 hl1 => k H locs ls1 hP hS (lh_set (l' := []) hl1))
theorem r_astore_n (C : kR cc own nL R sh N ret Φ J) {q : Fin 4} {i : Nat} {x : Nat} (hd : decode cc pc = .ok (.astore_n q, 1)) (hi : (q : Nat) = i) (hn : i < nL) (k : J (pc + 1) (lset L i (.ref x)) st μ) : J pc L (.ref x :: st) μ := by
  obtain ⟨p, l, e, s, m, args, below, meth, c, D, ad, τ, A, ⟨hx, hb, hml, hr, hlk, hown, hw, hD, hE, hA⟩, rfl⟩ := C
  intro H locs ls hP hS hl
  exact lv_astore_n hx hb hd hi hl hn rfl (fun ls1 hl1 => k H locs ls1 hP hS (lh_set (l' := []) hl1))
theorem r_astore (C : kR cc own nL R sh N ret Φ J) {i : Nat} {x : Nat} (hd : decode cc pc = .ok (.astore i, 2)) (hn : i < nL) (k : J (pc + 2) (lset L i (.ref x)) st μ) : J pc L (.ref x :: st) μ := by
  obtain ⟨p, l, e, s, m, args, below, meth, c, D, ad, τ, A, ⟨hx, hb, hml, hr, hlk, hown, hw, hD, hE, hA⟩, rfl⟩ := C
  intro H locs ls hP hS hl
  exact lv_astore hx hb hd hl hn rfl (fun ls1 hl1 => k H locs ls1 hP hS (lh_set (l' := []) hl1))
theorem r_lstore_n (C : kR cc own nL R sh N ret Φ J) {q : Fin 4} {i : Nat} {x : Int64} (hd : decode cc pc = .ok (.lstore_n q, 1)) (hi : (q : Nat) = i) (hn : i + 1 < nL) (k : J (pc + 1) (lset2 L i (.long x)) st μ) : J pc L (.long x :: st) μ := by
  obtain ⟨p, l, e, s, m, args, below, meth, c, D, ad, τ, A, ⟨hx, hb, hml, hr, hlk, hown, hw, hD, hE, hA⟩, rfl⟩ := C
  intro H locs ls hP hS hl
  exact lv_lstore_n hx hb hd hi hl hn rfl (fun ls1 hl1 => k H locs ls1 hP hS (lh_set2 hl1))
theorem r_lstore (C : kR cc own nL R sh N ret Φ J) {i : Nat} {x : Int64} (hd : decode cc pc = .ok (.lstore i, 2)) (hn : i + 1 < nL) (k : J (pc + 2) (lset2 L i (.long x)) st μ) : J pc L (.long x :: st) μ := by
  obtain ⟨p, l, e, s, m, args, below, meth, c, D, ad, τ, A, ⟨hx, hb, hml, hr, hlk, hown, hw, hD, hE, hA⟩, rfl⟩ := C
  intro H locs ls hP hS hl
  exact lv_lstore hx hb hd hl hn rfl (fun ls1 hl1 => k H locs ls1 hP hS (lh_set2 hl1))
theorem r_iinc (C : kR cc own nL R sh N ret Φ J) {i : Nat} {n : Int} {x : Int32} (hd : decode cc pc = .ok (.iinc i n, 3)) (hg : lg L i = some (.int x)) (hn : i < nL) (k : J (pc + 3) (lset L i (.int (x + Int32.ofInt n))) st μ) : J pc L st μ := by
  obtain ⟨p, l, e, s, m, args, below, meth, c, D, ad, τ, A, ⟨hx, hb, hml, hr, hlk, hown, hw, hD, hE, hA⟩, rfl⟩ := C
  intro H locs ls hP hS hl
  have h9 := lpairs_lg (ad := ad) (b := 0) hg
  rw [Nat.zero_add] at h9
  obtain ⟨j, hj⟩ := List.getElem?_of_mem h9
  exact lv_iinc (k := j) hx hb hd hl hj rfl hn rfl (fun ls1 hl1 => k H locs ls1 hP hS (lh_set (l' := []) hl1))
theorem r_iadd (C : kR cc own nL R sh N ret Φ J) {x y : Int32} (hd : decode cc pc = .ok (.iadd, 1)) (k : J (pc + 1) L (.int (x + y) :: st) μ) : J pc L (.int y :: .int x :: st) μ := by
  obtain ⟨p, l, e, s, m, args, below, meth, c, D, ad, τ, A, ⟨hx, hb, hml, hr, hlk, hown, hw, hD, hE, hA⟩, rfl⟩ := C
  intro H locs ls hP hS hl
  exact lv_iadd hx hb hd (k H locs ls hP hS hl)
theorem r_isub (C : kR cc own nL R sh N ret Φ J) {x y : Int32} (hd : decode cc pc = .ok (.isub, 1)) (k : J (pc + 1) L (.int (x - y) :: st) μ) : J pc L (.int y :: .int x :: st) μ := by
  obtain ⟨p, l, e, s, m, args, below, meth, c, D, ad, τ, A, ⟨hx, hb, hml, hr, hlk, hown, hw, hD, hE, hA⟩, rfl⟩ := C
  intro H locs ls hP hS hl
  exact lv_isub hx hb hd (k H locs ls hP hS hl)
theorem r_imul (C : kR cc own nL R sh N ret Φ J) {x y : Int32} (hd : decode cc pc = .ok (.imul, 1)) (k : J (pc + 1) L (.int (x * y) :: st) μ) : J pc L (.int y :: .int x :: st) μ := by
  obtain ⟨p, l, e, s, m, args, below, meth, c, D, ad, τ, A, ⟨hx, hb, hml, hr, hlk, hown, hw, hD, hE, hA⟩, rfl⟩ := C
  intro H locs ls hP hS hl
  exact lv_imul hx hb hd (k H locs ls hP hS hl)
theorem r_iand (C : kR cc own nL R sh N ret Φ J) {x y : Int32} (hd : decode cc pc = .ok (.iand, 1)) (k : J (pc + 1) L (.int (x &&& y) :: st) μ) : J pc L (.int y :: .int x :: st) μ := by
  obtain ⟨p, l, e, s, m, args, below, meth, c, D, ad, τ, A, ⟨hx, hb, hml, hr, hlk, hown, hw, hD, hE, hA⟩, rfl⟩ := C
  intro H locs ls hP hS hl
  exact lv_iand hx hb hd (k H locs ls hP hS hl)
theorem r_ior (C : kR cc own nL R sh N ret Φ J) {x y : Int32} (hd : decode cc pc = .ok (.ior, 1)) (k : J (pc + 1) L (.int (x ||| y) :: st) μ) : J pc L (.int y :: .int x :: st) μ := by
  obtain ⟨p, l, e, s, m, args, below, meth, c, D, ad, τ, A, ⟨hx, hb, hml, hr, hlk, hown, hw, hD, hE, hA⟩, rfl⟩ := C
  intro H locs ls hP hS hl
  exact lv_ior hx hb hd (k H locs ls hP hS hl)
theorem r_ixor (C : kR cc own nL R sh N ret Φ J) {x y : Int32} (hd : decode cc pc = .ok (.ixor, 1)) (k : J (pc + 1) L (.int (x ^^^ y) :: st) μ) : J pc L (.int y :: .int x :: st) μ := by
  obtain ⟨p, l, e, s, m, args, below, meth, c, D, ad, τ, A, ⟨hx, hb, hml, hr, hlk, hown, hw, hD, hE, hA⟩, rfl⟩ := C
  intro H locs ls hP hS hl
  exact lv_ixor hx hb hd (k H locs ls hP hS hl)
theorem r_idiv (C : kR cc own nL R sh N ret Φ J) {x y : Int32} (hd : decode cc pc = .ok (.idiv, 1)) (hne : ¬ y = 0) (k : J (pc + 1) L (.int (x / y) :: st) μ) : J pc L (.int y :: .int x :: st) μ := by
  obtain ⟨p, l, e, s, m, args, below, meth, c, D, ad, τ, A, ⟨hx, hb, hml, hr, hlk, hown, hw, hD, hE, hA⟩, rfl⟩ := C
  intro H locs ls hP hS hl
  exact lv_idiv hx hb hd hne (k H locs ls hP hS hl)
theorem r_irem (C : kR cc own nL R sh N ret Φ J) {x y : Int32} (hd : decode cc pc = .ok (.irem, 1)) (hne : ¬ y = 0) (k : J (pc + 1) L (.int (krem x y) :: st) μ) : J pc L (.int y :: .int x :: st) μ := by
  obtain ⟨p, l, e, s, m, args, below, meth, c, D, ad, τ, A, ⟨hx, hb, hml, hr, hlk, hown, hw, hD, hE, hA⟩, rfl⟩ := C
  intro H locs ls hP hS hl
  exact lv_irem hx hb hd hne (k H locs ls hP hS hl)
theorem r_ineg (C : kR cc own nL R sh N ret Φ J) {x : Int32} (hd : decode cc pc = .ok (.ineg, 1)) (k : J (pc + 1) L (.int (-x) :: st) μ) : J pc L (.int x :: st) μ := by
  obtain ⟨p, l, e, s, m, args, below, meth, c, D, ad, τ, A, ⟨hx, hb, hml, hr, hlk, hown, hw, hD, hE, hA⟩, rfl⟩ := C
  intro H locs ls hP hS hl
  exact lv_ineg hx hb hd (k H locs ls hP hS hl)
theorem r_ishl (C : kR cc own nL R sh N ret Φ J) {x y : Int32} (hd : decode cc pc = .ok (.ishl, 1)) (k : J (pc + 1) L (.int (x <<< (y &&& 31)) :: st) μ) : J pc L (.int y :: .int x :: st) μ := by
  obtain ⟨p, l, e, s, m, args, below, meth, c, D, ad, τ, A, ⟨hx, hb, hml, hr, hlk, hown, hw, hD, hE, hA⟩, rfl⟩ := C
  intro H locs ls hP hS hl
  exact lv_ishl hx hb hd (k H locs ls hP hS hl)
theorem r_ishr (C : kR cc own nL R sh N ret Φ J) {x y : Int32} (hd : decode cc pc = .ok (.ishr, 1)) (k : J (pc + 1) L (.int (x >>> (y &&& 31)) :: st) μ) : J pc L (.int y :: .int x :: st) μ := by
  obtain ⟨p, l, e, s, m, args, below, meth, c, D, ad, τ, A, ⟨hx, hb, hml, hr, hlk, hown, hw, hD, hE, hA⟩, rfl⟩ := C
  intro H locs ls hP hS hl
  exact lv_ishr hx hb hd (k H locs ls hP hS hl)
theorem r_iushr (C : kR cc own nL R sh N ret Φ J) {x y : Int32} (hd : decode cc pc = .ok (.iushr, 1)) (k : J (pc + 1) L (.int (kushr x y) :: st) μ) : J pc L (.int y :: .int x :: st) μ := by
  obtain ⟨p, l, e, s, m, args, below, meth, c, D, ad, τ, A, ⟨hx, hb, hml, hr, hlk, hown, hw, hD, hE, hA⟩, rfl⟩ := C
  intro H locs ls hP hS hl
  exact lv_iushr hx hb hd rfl (k H locs ls hP hS hl)
theorem r_ladd (C : kR cc own nL R sh N ret Φ J) {x y : Int64} (hd : decode cc pc = .ok (.ladd, 1)) (k : J (pc + 1) L (.long (x + y) :: st) μ) : J pc L (.long y :: .long x :: st) μ := by
  obtain ⟨p, l, e, s, m, args, below, meth, c, D, ad, τ, A, ⟨hx, hb, hml, hr, hlk, hown, hw, hD, hE, hA⟩, rfl⟩ := C
  intro H locs ls hP hS hl
  exact lv_ladd hx hb hd (k H locs ls hP hS hl)
theorem r_lsub (C : kR cc own nL R sh N ret Φ J) {x y : Int64} (hd : decode cc pc = .ok (.lsub, 1)) (k : J (pc + 1) L (.long (x - y) :: st) μ) : J pc L (.long y :: .long x :: st) μ := by
  obtain ⟨p, l, e, s, m, args, below, meth, c, D, ad, τ, A, ⟨hx, hb, hml, hr, hlk, hown, hw, hD, hE, hA⟩, rfl⟩ := C
  intro H locs ls hP hS hl
  exact lv_lsub hx hb hd (k H locs ls hP hS hl)
theorem r_lmul (C : kR cc own nL R sh N ret Φ J) {x y : Int64} (hd : decode cc pc = .ok (.lmul, 1)) (k : J (pc + 1) L (.long (x * y) :: st) μ) : J pc L (.long y :: .long x :: st) μ := by
  obtain ⟨p, l, e, s, m, args, below, meth, c, D, ad, τ, A, ⟨hx, hb, hml, hr, hlk, hown, hw, hD, hE, hA⟩, rfl⟩ := C
  intro H locs ls hP hS hl
  exact lv_lmul hx hb hd (k H locs ls hP hS hl)
theorem r_land (C : kR cc own nL R sh N ret Φ J) {x y : Int64} (hd : decode cc pc = .ok (.land, 1)) (k : J (pc + 1) L (.long (x &&& y) :: st) μ) : J pc L (.long y :: .long x :: st) μ := by
  obtain ⟨p, l, e, s, m, args, below, meth, c, D, ad, τ, A, ⟨hx, hb, hml, hr, hlk, hown, hw, hD, hE, hA⟩, rfl⟩ := C
  intro H locs ls hP hS hl
  exact lv_land hx hb hd (k H locs ls hP hS hl)
theorem r_ldiv (C : kR cc own nL R sh N ret Φ J) {x y : Int64} (hd : decode cc pc = .ok (.ldiv, 1)) (hne : ¬ y = 0) (k : J (pc + 1) L (.long (x / y) :: st) μ) : J pc L (.long y :: .long x :: st) μ := by
  obtain ⟨p, l, e, s, m, args, below, meth, c, D, ad, τ, A, ⟨hx, hb, hml, hr, hlk, hown, hw, hD, hE, hA⟩, rfl⟩ := C
  intro H locs ls hP hS hl
  exact lv_ldiv hx hb hd hne (k H locs ls hP hS hl)
theorem r_lrem (C : kR cc own nL R sh N ret Φ J) {x y : Int64} (hd : decode cc pc = .ok (.lrem, 1)) (hne : ¬ y = 0) (k : J (pc + 1) L (.long (kremL x y) :: st) μ) : J pc L (.long y :: .long x :: st) μ := by
  obtain ⟨p, l, e, s, m, args, below, meth, c, D, ad, τ, A, ⟨hx, hb, hml, hr, hlk, hown, hw, hD, hE, hA⟩, rfl⟩ := C
  intro H locs ls hP hS hl
  exact lv_lrem hx hb hd hne (k H locs ls hP hS hl)
theorem r_i2l (C : kR cc own nL R sh N ret Φ J) {x : Int32} (hd : decode cc pc = .ok (.i2l, 1)) (k : J (pc + 1) L (.long x.toInt64 :: st) μ) : J pc L (.int x :: st) μ := by
  obtain ⟨p, l, e, s, m, args, below, meth, c, D, ad, τ, A, ⟨hx, hb, hml, hr, hlk, hown, hw, hD, hE, hA⟩, rfl⟩ := C
  intro H locs ls hP hS hl
  exact lv_i2l hx hb hd rfl (k H locs ls hP hS hl)
theorem r_l2i (C : kR cc own nL R sh N ret Φ J) {x : Int64} (hd : decode cc pc = .ok (.l2i, 1)) (k : J (pc + 1) L (.int x.toInt32 :: st) μ) : J pc L (.long x :: st) μ := by
  obtain ⟨p, l, e, s, m, args, below, meth, c, D, ad, τ, A, ⟨hx, hb, hml, hr, hlk, hown, hw, hD, hE, hA⟩, rfl⟩ := C
  intro H locs ls hP hS hl
  exact lv_l2i hx hb hd rfl (k H locs ls hP hS hl)
theorem r_i2b (C : kR cc own nL R sh N ret Φ J) {x : Int32} (hd : decode cc pc = .ok (.i2b, 1)) (k : J (pc + 1) L (.int x.toInt8.toInt32 :: st) μ) : J pc L (.int x :: st) μ := by
  obtain ⟨p, l, e, s, m, args, below, meth, c, D, ad, τ, A, ⟨hx, hb, hml, hr, hlk, hown, hw, hD, hE, hA⟩, rfl⟩ := C
  intro H locs ls hP hS hl
  exact lv_i2b hx hb hd rfl (k H locs ls hP hS hl)
theorem r_i2c (C : kR cc own nL R sh N ret Φ J) {x : Int32} (hd : decode cc pc = .ok (.i2c, 1)) (k : J (pc + 1) L (.int (x.toUInt32 % 65536).toInt32 :: st) μ) : J pc L (.int x :: st) μ := by
  obtain ⟨p, l, e, s, m, args, below, meth, c, D, ad, τ, A, ⟨hx, hb, hml, hr, hlk, hown, hw, hD, hE, hA⟩, rfl⟩ := C
  intro H locs ls hP hS hl
  exact lv_i2c hx hb hd rfl (k H locs ls hP hS hl)
theorem r_lcmp (C : kR cc own nL R sh N ret Φ J) {x y : Int64} (hd : decode cc pc = .ok (.lcmp, 1)) (k : J (pc + 1) L (.int (lg_cmp x y) :: st) μ) : J pc L (.long y :: .long x :: st) μ := by
  obtain ⟨p, l, e, s, m, args, below, meth, c, D, ad, τ, A, ⟨hx, hb, hml, hr, hlk, hown, hw, hD, hE, hA⟩, rfl⟩ := C
  intro H locs ls hP hS hl
  exact W.lcmp hx hb hd (k H locs ls hP hS hl)
theorem r_dup (C : kR cc own nL R sh N ret Φ J) {v : Value} (hd : decode cc pc = .ok (.dup, 1)) (hv : v.category = 1) (k : J (pc + 1) L (v :: v :: st) μ) : J pc L (v :: st) μ := by
  obtain ⟨p, l, e, s, m, args, below, meth, c, D, ad, τ, A, ⟨hx, hb, hml, hr, hlk, hown, hw, hD, hE, hA⟩, rfl⟩ := C
  intro H locs ls hP hS hl
  exact lv_dup hx hb hd (by rw [cvv_cat]; exact hv) (k H locs ls hP hS hl)
theorem r_pop (C : kR cc own nL R sh N ret Φ J) {v : Value} (hd : decode cc pc = .ok (.pop, 1)) (hv : v.category = 1) (k : J (pc + 1) L (st) μ) : J pc L (v :: st) μ := by
  obtain ⟨p, l, e, s, m, args, below, meth, c, D, ad, τ, A, ⟨hx, hb, hml, hr, hlk, hown, hw, hD, hE, hA⟩, rfl⟩ := C
  intro H locs ls hP hS hl
  exact lv_pop hx hb hd (by rw [cvv_cat]; exact hv) (k H locs ls hP hS hl)
theorem r_dup2 (C : kR cc own nL R sh N ret Φ J) {v w : Value} (hd : decode cc pc = .ok (.dup2, 1)) (hv : v.category = 1) (hw2 : w.category = 1) (k : J (pc + 1) L (v :: w :: v :: w :: st) μ) : J pc L (v :: w :: st) μ := by
  obtain ⟨p, l, e, s, m, args, below, meth, c, D, ad, τ, A, ⟨hx, hb, hml, hr, hlk, hown, hw, hD, hE, hA⟩, rfl⟩ := C
  intro H locs ls hP hS hl
  exact lv_dup2_11 hx hb hd (by rw [cvv_cat]; exact hv) (by rw [cvv_cat]; exact hw2) (k H locs ls hP hS hl)
theorem r_if_eq (C : kR cc own nL R sh N ret Φ J) {x : Int32} {off : Int} {tgt : Nat} (hd : decode cc pc = .ok (.ifCond .eq off, 3)) (ht : (pc : Int) + off = (tgt : Int)) (kt : x.toInt = 0 → J tgt L st μ) (kf : ¬ x.toInt = 0 → J (pc + 3) L st μ) : J pc L (.int x :: st) μ := by
  obtain ⟨p, l, e, s, m, args, below, meth, c, D, ad, τ, A, ⟨hx, hb, hml, hr, hlk, hown, hw, hD, hE, hA⟩, rfl⟩ := C
  intro H locs ls hP hS hl
  exact lv_if_eq hx hb hd ht (fun h9 => kt (ti_eq0.mp h9) H locs ls hP hS hl) (fun h9 => kf (fun z => h9 (ti_eq0.mpr z)) H locs ls hP hS hl)
theorem r_icmp_eq (C : kR cc own nL R sh N ret Φ J) {x y : Int32} {off : Int} {tgt : Nat} (hd : decode cc pc = .ok (.if_icmp .eq off, 3)) (ht : (pc : Int) + off = (tgt : Int)) (kt : x.toInt = y.toInt → J tgt L st μ) (kf : ¬ x.toInt = y.toInt → J (pc + 3) L st μ) : J pc L (.int y :: .int x :: st) μ := by
  obtain ⟨p, l, e, s, m, args, below, meth, c, D, ad, τ, A, ⟨hx, hb, hml, hr, hlk, hown, hw, hD, hE, hA⟩, rfl⟩ := C
  intro H locs ls hP hS hl
  exact lv_icmp_eq hx hb hd ht (fun h9 => kt (ti_eq.mp h9) H locs ls hP hS hl) (fun h9 => kf (fun z => h9 (ti_eq.mpr z)) H locs ls hP hS hl)
theorem r_if_ne (C : kR cc own nL R sh N ret Φ J) {x : Int32} {off : Int} {tgt : Nat} (hd : decode cc pc = .ok (.ifCond .ne off, 3)) (ht : (pc : Int) + off = (tgt : Int)) (kt : ¬ x.toInt = 0 → J tgt L st μ) (kf : x.toInt = 0 → J (pc + 3) L st μ) : J pc L (.int x :: st) μ := by
  obtain ⟨p, l, e, s, m, args, below, meth, c, D, ad, τ, A, ⟨hx, hb, hml, hr, hlk, hown, hw, hD, hE, hA⟩, rfl⟩ := C
  intro H locs ls hP hS hl
  exact lv_if_ne hx hb hd ht (fun h9 => kt (fun z => h9 (ti_eq0.mpr z)) H locs ls hP hS hl) (fun h9 => kf (ti_eq0.mp h9) H locs ls hP hS hl)
theorem r_icmp_ne (C : kR cc own nL R sh N ret Φ J) {x y : Int32} {off : Int} {tgt : Nat} (hd : decode cc pc = .ok (.if_icmp .ne off, 3)) (ht : (pc : Int) + off = (tgt : Int)) (kt : ¬ x.toInt = y.toInt → J tgt L st μ) (kf : x.toInt = y.toInt → J (pc + 3) L st μ) : J pc L (.int y :: .int x :: st) μ := by
  obtain ⟨p, l, e, s, m, args, below, meth, c, D, ad, τ, A, ⟨hx, hb, hml, hr, hlk, hown, hw, hD, hE, hA⟩, rfl⟩ := C
  intro H locs ls hP hS hl
  exact lv_icmp_ne hx hb hd ht (fun h9 => kt (fun z => h9 (ti_eq.mpr z)) H locs ls hP hS hl) (fun h9 => kf (ti_eq.mp h9) H locs ls hP hS hl)
theorem r_if_lt (C : kR cc own nL R sh N ret Φ J) {x : Int32} {off : Int} {tgt : Nat} (hd : decode cc pc = .ok (.ifCond .lt off, 3)) (ht : (pc : Int) + off = (tgt : Int)) (kt : x.toInt < 0 → J tgt L st μ) (kf : 0 ≤ x.toInt → J (pc + 3) L st μ) : J pc L (.int x :: st) μ := by
  obtain ⟨p, l, e, s, m, args, below, meth, c, D, ad, τ, A, ⟨hx, hb, hml, hr, hlk, hown, hw, hD, hE, hA⟩, rfl⟩ := C
  intro H locs ls hP hS hl
  exact lv_if_lt hx hb hd ht (fun h9 => kt (ti_lt0.mp h9) H locs ls hP hS hl) (fun h9 => kf (by rw [ti_lt0] at h9; omega) H locs ls hP hS hl)
theorem r_icmp_lt (C : kR cc own nL R sh N ret Φ J) {x y : Int32} {off : Int} {tgt : Nat} (hd : decode cc pc = .ok (.if_icmp .lt off, 3)) (ht : (pc : Int) + off = (tgt : Int)) (kt : x.toInt < y.toInt → J tgt L st μ) (kf : y.toInt ≤ x.toInt → J (pc + 3) L st μ) : J pc L (.int y :: .int x :: st) μ := by
  obtain ⟨p, l, e, s, m, args, below, meth, c, D, ad, τ, A, ⟨hx, hb, hml, hr, hlk, hown, hw, hD, hE, hA⟩, rfl⟩ := C
  intro H locs ls hP hS hl
  exact lv_icmp_lt hx hb hd ht (fun h9 => kt (Int32.lt_iff_toInt_lt.mp h9) H locs ls hP hS hl) (fun h9 => kf (by rw [Int32.lt_iff_toInt_lt] at h9; omega) H locs ls hP hS hl)
theorem r_if_ge (C : kR cc own nL R sh N ret Φ J) {x : Int32} {off : Int} {tgt : Nat} (hd : decode cc pc = .ok (.ifCond .ge off, 3)) (ht : (pc : Int) + off = (tgt : Int)) (kt : 0 ≤ x.toInt → J tgt L st μ) (kf : x.toInt < 0 → J (pc + 3) L st μ) : J pc L (.int x :: st) μ := by
  obtain ⟨p, l, e, s, m, args, below, meth, c, D, ad, τ, A, ⟨hx, hb, hml, hr, hlk, hown, hw, hD, hE, hA⟩, rfl⟩ := C
  intro H locs ls hP hS hl
  exact lv_if_ge hx hb hd ht (fun h9 => kt (ti_0le.mp h9) H locs ls hP hS hl) (fun h9 => kf (by rw [ti_0le] at h9; omega) H locs ls hP hS hl)
theorem r_icmp_ge (C : kR cc own nL R sh N ret Φ J) {x y : Int32} {off : Int} {tgt : Nat} (hd : decode cc pc = .ok (.if_icmp .ge off, 3)) (ht : (pc : Int) + off = (tgt : Int)) (kt : y.toInt ≤ x.toInt → J tgt L st μ) (kf : x.toInt < y.toInt → J (pc + 3) L st μ) : J pc L (.int y :: .int x :: st) μ := by
  obtain ⟨p, l, e, s, m, args, below, meth, c, D, ad, τ, A, ⟨hx, hb, hml, hr, hlk, hown, hw, hD, hE, hA⟩, rfl⟩ := C
  intro H locs ls hP hS hl
  exact lv_icmp_ge hx hb hd ht (fun h9 => kt (Int32.le_iff_toInt_le.mp h9) H locs ls hP hS hl) (fun h9 => kf (by rw [Int32.le_iff_toInt_le] at h9; omega) H locs ls hP hS hl)
theorem r_if_gt (C : kR cc own nL R sh N ret Φ J) {x : Int32} {off : Int} {tgt : Nat} (hd : decode cc pc = .ok (.ifCond .gt off, 3)) (ht : (pc : Int) + off = (tgt : Int)) (kt : 0 < x.toInt → J tgt L st μ) (kf : x.toInt ≤ 0 → J (pc + 3) L st μ) : J pc L (.int x :: st) μ := by
  obtain ⟨p, l, e, s, m, args, below, meth, c, D, ad, τ, A, ⟨hx, hb, hml, hr, hlk, hown, hw, hD, hE, hA⟩, rfl⟩ := C
  intro H locs ls hP hS hl
  exact lv_if_gt hx hb hd ht (fun h9 => kt (ti_0lt.mp h9) H locs ls hP hS hl) (fun h9 => kf (by rw [ti_0lt] at h9; omega) H locs ls hP hS hl)
theorem r_icmp_gt (C : kR cc own nL R sh N ret Φ J) {x y : Int32} {off : Int} {tgt : Nat} (hd : decode cc pc = .ok (.if_icmp .gt off, 3)) (ht : (pc : Int) + off = (tgt : Int)) (kt : y.toInt < x.toInt → J tgt L st μ) (kf : x.toInt ≤ y.toInt → J (pc + 3) L st μ) : J pc L (.int y :: .int x :: st) μ := by
  obtain ⟨p, l, e, s, m, args, below, meth, c, D, ad, τ, A, ⟨hx, hb, hml, hr, hlk, hown, hw, hD, hE, hA⟩, rfl⟩ := C
  intro H locs ls hP hS hl
  exact lv_icmp_gt hx hb hd ht (fun h9 => kt (Int32.lt_iff_toInt_lt.mp h9) H locs ls hP hS hl) (fun h9 => kf (by rw [Int32.lt_iff_toInt_lt] at h9; omega) H locs ls hP hS hl)
theorem r_if_le (C : kR cc own nL R sh N ret Φ J) {x : Int32} {off : Int} {tgt : Nat} (hd : decode cc pc = .ok (.ifCond .le off, 3)) (ht : (pc : Int) + off = (tgt : Int)) (kt : x.toInt ≤ 0 → J tgt L st μ) (kf : 0 < x.toInt → J (pc + 3) L st μ) : J pc L (.int x :: st) μ := by
  obtain ⟨p, l, e, s, m, args, below, meth, c, D, ad, τ, A, ⟨hx, hb, hml, hr, hlk, hown, hw, hD, hE, hA⟩, rfl⟩ := C
  intro H locs ls hP hS hl
  exact lv_if_le hx hb hd ht (fun h9 => kt (ti_le0.mp h9) H locs ls hP hS hl) (fun h9 => kf (by rw [ti_le0] at h9; omega) H locs ls hP hS hl)
theorem r_icmp_le (C : kR cc own nL R sh N ret Φ J) {x y : Int32} {off : Int} {tgt : Nat} (hd : decode cc pc = .ok (.if_icmp .le off, 3)) (ht : (pc : Int) + off = (tgt : Int)) (kt : x.toInt ≤ y.toInt → J tgt L st μ) (kf : y.toInt < x.toInt → J (pc + 3) L st μ) : J pc L (.int y :: .int x :: st) μ := by
  obtain ⟨p, l, e, s, m, args, below, meth, c, D, ad, τ, A, ⟨hx, hb, hml, hr, hlk, hown, hw, hD, hE, hA⟩, rfl⟩ := C
  intro H locs ls hP hS hl
  exact lv_icmp_le hx hb hd ht (fun h9 => kt (Int32.le_iff_toInt_le.mp h9) H locs ls hP hS hl) (fun h9 => kf (by rw [Int32.le_iff_toInt_le] at h9; omega) H locs ls hP hS hl)
theorem r_goto (C : kR cc own nL R sh N ret Φ J) {off : Int} {tgt : Nat} (hd : decode cc pc = .ok (.goto off, 3)) (ht : (pc : Int) + off = (tgt : Int)) (k : J tgt L st μ) : J pc L st μ := by
  obtain ⟨p, l, e, s, m, args, below, meth, c, D, ad, τ, A, ⟨hx, hb, hml, hr, hlk, hown, hw, hD, hE, hA⟩, rfl⟩ := C
  intro H locs ls hP hS hl
  exact lv_goto hx hb hd ht (k H locs ls hP hS hl)
theorem r_table (C : kR cc own nL R sh N ret Φ J) {dflt lo hi : Int} {offs : Array Int} {len : Nat} {x : Int32} {tg : Nat} (hd : decode cc pc = .ok (.tableswitch dflt lo hi offs, len)) (ht : (pc : Int) + dflt = (tg : Int)) (hsz : (hi - lo + 1).toNat ≤ offs.size) (hge : ∀ i, i < offs.size → 0 ≤ (pc : Int) + offs.getD i 0) (kin : ∀ i : Nat, (i : Int) = x.toInt - lo → lo ≤ x.toInt → x.toInt ≤ hi → J ((pc : Int) + offs.getD i 0).toNat L st μ) (kout : x.toInt < lo ∨ hi < x.toInt → J tg L st μ) : J pc L (.int x :: st) μ := by
  obtain ⟨p, l, e, s, m, args, below, meth, c, D, ad, τ, A, ⟨hx, hb, hml, hr, hlk, hown, hw, hD, hE, hA⟩, rfl⟩ := C
  intro H locs ls hP hS hl
  by_cases h1 : x.toInt < lo
  · exact lv_tableOut hx hb hd (Or.inl h1) ht (kout (Or.inl h1) H locs ls hP hS hl)
  · by_cases h2 : hi < x.toInt
    · exact lv_tableOut hx hb hd (Or.inr h2) ht (kout (Or.inr h2) H locs ls hP hS hl)
    · have hlt : (x.toInt - lo).toNat < offs.size := by omega
      exact lv_tableIn (off := offs.getD (x.toInt - lo).toNat 0) hx hb hd h1 h2 (by simp [hlt]) (by have := hge _ hlt; omega) (kin (x.toInt - lo).toNat (by omega) (by omega) (by omega) H locs ls hP hS hl)
theorem r_getI (C : kR cc own nL R sh N ret Φ J) {o idx ci k : Nat} {fs : List (Option Nat)} (hd : decode cc pc = .ok (.getfield idx, 3)) (f : kFd own idx ci k) (ho : o < N) (hs : sh o = .inl (ci, fs)) (hk : fs[k]? = some none) (kk : J (pc + 3) L (.int (μ.1 o k) :: st) μ) : J pc L (.ref o :: st) μ := by
  obtain ⟨p, l, e, s, m, args, below, meth, c, D, ad, τ, A, ⟨hx, hb, hml, hr, hlk, hown, hw, hD, hE, hA⟩, rfl⟩ := C
  intro H locs ls hP hS hl
  obtain ⟨Cn, T, n, h1, h2, h3, h4⟩ := f
  exact va_get (v := .int (μ.1 o k)) hx hb hw h3 hown hE.1 hP o (by rw [wl_get ho]; simp only [kent, hs]; rfl) h1 k h2 (hw _ h4) (fun _ h9 => h9) (kfv_int hk) hd (kk H locs ls hP hS hl)
theorem r_getR (C : kR cc own nL R sh N ret Φ J) {o idx ci k r : Nat} {fs : List (Option Nat)} (hd : decode cc pc = .ok (.getfield idx, 3)) (f : kFd own idx ci k) (ho : o < N) (hs : sh o = .inl (ci, fs)) (hk : fs[k]? = some (some r)) (kk : J (pc + 3) L (.ref r :: st) μ) : J pc L (.ref o :: st) μ := by
  obtain ⟨p, l, e, s, m, args, below, meth, c, D, ad, τ, A, ⟨hx, hb, hml, hr, hlk, hown, hw, hD, hE, hA⟩, rfl⟩ := C
  intro H locs ls hP hS hl
  obtain ⟨Cn, T, n, h1, h2, h3, h4⟩ := f
  exact va_get (v := .ref (ad r)) hx hb hw h3 hown hE.1 hP o (by rw [wl_get ho]; simp only [kent, hs]; rfl) h1 k h2 (hw _ h4) (fun _ h9 => h9) (kfv_ref hk) hd (kk H locs ls hP hS hl)
theorem r_putI (C : kR cc own nL R sh N ret Φ J) {o idx ci k : Nat} {fs : List (Option Nat)} {x : Int32} (hd : decode cc pc = .ok (.putfield idx, 3)) (f : kFw own idx ci k) (ho : o < N) (hs : sh o = .inl (ci, fs)) (hk : fs[k]? = some none) (kk : J (pc + 3) L st (up μ o k x)) : J pc L (.int x :: .ref o :: st) μ := by
  obtain ⟨p, l, e, s, m, args, below, meth, c, D, ad, τ, A, ⟨hx, hb, hml, hr, hlk, hown, hw, hD, hE, hA⟩, rfl⟩ := C
  intro H locs ls hP hS hl
  obtain ⟨Cn, T, n, ty, h1, h2, h3, h4, h5, h6, h7, h8⟩ := f
  refine va_put (v := .int x) (ty := .int) (fs := kfv ad (μ.1 o) fs) hx hb hw h3 ty h5 h6 hown hE.1 hP (hD μ) hS o (by rw [wl_get ho]; simp only [kent, hs]) h1 k h2 (hw _ h4) (fun _ h9 => h9) h7 (by rw [h8]; rfl) rfl rfl (by rw [kfv_len]; exact (List.getElem?_eq_some_iff.mp hk).1) hd (fun H1 locs1 hP1 _ hS1 => ?_)
  have e1 : ∀ j, j ≠ o → kent sh ad τ (up μ o k x) j = kent sh ad τ μ j := fun j hj => by simp only [kent, up, hj, false_and, if_false]
  have e2 : kent sh ad τ (up μ o k x) o = .inr (ci, (kfv ad (μ.1 o) fs).set k (.int x)) := by
    simp only [kent, hs]
    rw [kfv_set hk]
    simp only [up, true_and]
  rw [wl_set ho e1 e2] at hP1
  exact kk H1 locs1 ls hP1 hS1 hl
theorem vp_of {i : Int32} {n : Nat} (h : 0 ≤ i.toInt ∧ i.toInt < (n : Int)) : vp_in i n := by
  intro q
  rcases q with q | q
  · rw [ti_lt0] at q; omega
  · have h3 : n ≤ i.toInt.toNat := q
    omega
theorem r_iald (C : kR cc own nL R sh N ret Φ J) {o n : Nat} {f : Nat → Nat} {i : Int32} (hd : decode cc pc = .ok (.iaload, 1)) (ho : o < N) (hs : sh o = .inr (0, n, f)) (hin : 0 ≤ i.toInt ∧ i.toInt < (n : Int)) (kk : J (pc + 1) L (.int (μ.1 o i.toInt.toNat) :: st) μ) : J pc L (.int i :: .ref o :: st) μ := by
  obtain ⟨p, l, e, s, m, args, below, meth, c, D, ad, τ, A, ⟨hx, hb, hml, hr, hlk, hown, hw, hD, hE, hA⟩, rfl⟩ := C
  intro H locs ls hP hS hl
  exact va_iald (f := μ.1 o) hx hb hE.1 hP o 0 (by rw [wl_get ho]; simp only [kent, hs]; rfl) rfl (vp_of hin) hd (kk H locs ls hP hS hl)
theorem r_bald (C : kR cc own nL R sh N ret Φ J) {o n : Nat} {f : Nat → Nat} {i : Int32} (hd : decode cc pc = .ok (.baload, 1)) (ho : o < N) (hs : sh o = .inr (1, n, f)) (hin : 0 ≤ i.toInt ∧ i.toInt < (n : Int)) (kk : J (pc + 1) L (.int (μ.1 o i.toInt.toNat) :: st) μ) : J pc L (.int i :: .ref o :: st) μ := by
  obtain ⟨p, l, e, s, m, args, below, meth, c, D, ad, τ, A, ⟨hx, hb, hml, hr, hlk, hown, hw, hD, hE, hA⟩, rfl⟩ := C
  intro H locs ls hP hS hl
  exact va_bald (f := μ.1 o) hx hb hE.1 hP o 1 (by rw [wl_get ho]; simp only [kent, hs]; rfl) rfl (vp_of hin) hd (kk H locs ls hP hS hl)
theorem r_lald (C : kR cc own nL R sh N ret Φ J) {o n : Nat} {f : Nat → Nat} {i : Int32} (hd : decode cc pc = .ok (.laload, 1)) (ho : o < N) (hs : sh o = .inr (2, n, f)) (hin : 0 ≤ i.toInt ∧ i.toInt < (n : Int)) (kk : J (pc + 1) L (.long (μ.2 o i.toInt.toNat) :: st) μ) : J pc L (.int i :: .ref o :: st) μ := by
  obtain ⟨p, l, e, s, m, args, below, meth, c, D, ad, τ, A, ⟨hx, hb, hml, hr, hlk, hown, hw, hD, hE, hA⟩, rfl⟩ := C
  intro H locs ls hP hS hl
  exact va_lald (f := μ.2 o) hx hb hE.1 hP o 2 (by rw [wl_get ho]; simp only [kent, hs]; rfl) rfl (vp_of hin) hd (kk H locs ls hP hS hl)
theorem r_aald (C : kR cc own nL R sh N ret Φ J) {o n t : Nat} {f : Nat → Nat} {i : Int32} (hd : decode cc pc = .ok (.aaload, 1)) (ho : o < N) (ht : 3 ≤ t ∧ t ≤ 5) (hs : sh o = .inr (t, n, f)) (hin : 0 ≤ i.toInt ∧ i.toInt < (n : Int)) {r : Nat} (hr9 : f i.toInt.toNat = r) (kk : J (pc + 1) L (.ref r :: st) μ) : J pc L (.int i :: .ref o :: st) μ := by
  obtain ⟨p, l, e, s, m, args, below, meth, c, D, ad, τ, A, ⟨hx, hb, hml, hr, hlk, hown, hw, hD, hE, hA⟩, rfl⟩ := C
  intro H locs ls hP hS hl
  subst hr9
  have hlt : i.toNatClampNeg < n := by
    show i.toInt.toNat < n
    omega
  have hc : (wl sh N ad τ μ)[o]? = some (ad o, .inl (τ t, n, .inr (.inr (.inr (.inr (fun k => some (ad (f k)))))))) := by
    rw [wl_get ho]
    simp only [kent, hs, karr, if_neg (show ¬ t ≤ 1 by omega), if_neg (show ¬ t = 2 by omega)]
  obtain ⟨ty, hty, href⟩ : ∃ ty : FieldType, (kty τ)[t]? = some (τ t, ty) ∧ ty.isReference = true := by
    rcases (show t = 3 ∨ t = 4 ∨ t = 5 by omega) with rfl | rfl | rfl
    · exact ⟨_, rfl, rfl⟩
    · exact ⟨_, rfl, rfl⟩
    · exact ⟨_, rfl, rfl⟩
  exact W.aald (v := .ref (ad (f i.toInt.toNat))) (ty := ty) hx hb (hP o _ hc) ((hE.1.2 t _ hty).1 n (fun j => va_rf (some (ad (f j))))) href (fun q => by cases q) (by show ¬ (i < 0 ∨ (arrV _ _ _).slots.size ≤ _); rw [arrV_size]; exact vp_of hin) (by show (arrV _ _ _).slots[_]? = _; rw [arrV_read _ _ hlt]; rfl) rfl rfl hd (kk H locs ls hP hS hl)
theorem r_alen (C : kR cc own nL R sh N ret Φ J) {o t n : Nat} {f : Nat → Nat} (hd : decode cc pc = .ok (.arraylength, 1)) (ho : o < N) (ht : t ≤ 5) (hs : sh o = .inr (t, n, f)) (kk : J (pc + 1) L (.int (Int32.ofNat n) :: st) μ) : J pc L (.ref o :: st) μ := by
  obtain ⟨p, l, e, s, m, args, below, meth, c, D, ad, τ, A, ⟨hx, hb, hml, hr, hlk, hown, hw, hD, hE, hA⟩, rfl⟩ := C
  intro H locs ls hP hS hl
  have hty : ∃ ty : FieldType, (kty τ)[t]? = some (τ t, ty) := by
    rcases (show t = 0 ∨ t = 1 ∨ t = 2 ∨ t = 3 ∨ t = 4 ∨ t = 5 by omega) with rfl | rfl | rfl | rfl | rfl | rfl <;> exact ⟨_, rfl⟩
  obtain ⟨ty, hty⟩ := hty
  exact va_alen hx hb hE.1 hP o t (x := (n, _)) (by rw [wl_get ho]; simp only [kent, hs]; rfl) hty rfl hd (kk H locs ls hP hS hl)
theorem r_iast (C : kR cc own nL R sh N ret Φ J) {o n : Nat} {f : Nat → Nat} {i x : Int32} (hd : decode cc pc = .ok (.iastore, 1)) (ho : o < N) (hs : sh o = .inr (0, n, f)) (hin : 0 ≤ i.toInt ∧ i.toInt < (n : Int)) (kk : J (pc + 1) L st (up μ o i.toInt.toNat x)) : J pc L (.int x :: .int i :: .ref o :: st) μ := by
  obtain ⟨p, l, e, s, m, args, below, meth, c, D, ad, τ, A, ⟨hx, hb, hml, hr, hlk, hown, hw, hD, hE, hA⟩, rfl⟩ := C
  intro H locs ls hP hS hl
  refine va_iast (f := μ.1 o) hx hb hE.1 hP (hD μ) hS o 0 (by rw [wl_get ho]; simp only [kent, hs]; rfl) rfl (vp_of hin) hd (fun H1 locs1 hP1 _ hS1 => ?_)
  have e1 : ∀ j, j ≠ o → kent sh ad τ (up μ o i.toInt.toNat x) j = kent sh ad τ μ j := fun j hj => by simp only [kent, up, hj, false_and, if_false]
  rw [wl_set ho e1 (by simp only [kent, hs, karr, up, true_and]; rfl)] at hP1
  exact kk H1 locs1 ls hP1 hS1 hl
theorem r_bast (C : kR cc own nL R sh N ret Φ J) {o n : Nat} {f : Nat → Nat} {i x : Int32} (hd : decode cc pc = .ok (.bastore, 1)) (ho : o < N) (hs : sh o = .inr (1, n, f)) (hin : 0 ≤ i.toInt ∧ i.toInt < (n : Int)) (kk : J (pc + 1) L st (up μ o i.toInt.toNat x.toInt8.toInt32)) : J pc L (.int x :: .int i :: .ref o :: st) μ := by
  obtain ⟨p, l, e, s, m, args, below, meth, c, D, ad, τ, A, ⟨hx, hb, hml, hr, hlk, hown, hw, hD, hE, hA⟩, rfl⟩ := C
  intro H locs ls hP hS hl
  refine va_bast (f := μ.1 o) hx hb hE.1 hP (hD μ) hS o 1 (by rw [wl_get ho]; simp only [kent, hs]; rfl) rfl (vp_of hin) hd (fun H1 locs1 hP1 _ hS1 => ?_)
  have e1 : ∀ j, j ≠ o → kent sh ad τ (up μ o i.toInt.toNat x.toInt8.toInt32) j = kent sh ad τ μ j := fun j hj => by simp only [kent, up, hj, false_and, if_false]
  rw [wl_set ho e1 (by simp only [kent, hs, karr, up, true_and]; rfl)] at hP1
  exact kk H1 locs1 ls hP1 hS1 hl
theorem r_last (C : kR cc own nL R sh N ret Φ J) {o n : Nat} {f : Nat → Nat} {i : Int32} {x : Int64} (hd : decode cc pc = .ok (.lastore, 1)) (ho : o < N) (hs : sh o = .inr (2, n, f)) (hin : 0 ≤ i.toInt ∧ i.toInt < (n : Int)) (kk : J (pc + 1) L st (upL μ o i.toInt.toNat x)) : J pc L (.long x :: .int i :: .ref o :: st) μ := by
  obtain ⟨p, l, e, s, m, args, below, meth, c, D, ad, τ, A, ⟨hx, hb, hml, hr, hlk, hown, hw, hD, hE, hA⟩, rfl⟩ := C
  intro H locs ls hP hS hl
  refine va_last (f := μ.2 o) hx hb hE.1 hP (hD μ) hS o 2 (by rw [wl_get ho]; simp only [kent, hs]; rfl) rfl (vp_of hin) hd (fun H1 locs1 hP1 _ hS1 => ?_)
  have e1 : ∀ j, j ≠ o → kent sh ad τ (upL μ o i.toInt.toNat x) j = kent sh ad τ μ j := fun j hj => by simp only [kent, upL, hj, false_and, if_false]
  rw [wl_set ho e1 (by simp only [kent, hs, karr, upL, true_and]; rfl)] at hP1
  exact kk H1 locs1 ls hP1 hS1 hl
end KR
section KRET
variable {cc : ByteArray} {own : String} {nL : Nat} {R : Room} {sh : Nat → kSh} {N : Nat} {J : kJ} {pc : Nat} {L : List (Option Value)} {st : List Value} {μ : kMem}
theorem r_ret {Ψ : kMem → Prop} (C : kR cc own nL R sh N none (kN Ψ) J) (hd : decode cc pc = .ok (.return_, 1)) (k : Ψ μ) : J pc L [] μ := by
  obtain ⟨p, l, e, s, m, args, below, meth, c, D, ad, τ, A, ⟨hx, hb, hml, hr, hlk, hown, hw, hD, hE, hA⟩, rfl⟩ := C
  intro H locs ls hP hS hl
  exact W.vret hx hb hr (fun t ht hW => ⟨⟨_, μ, rfl, ⟨rfl, k⟩, by rw [ht]; exact hP⟩, hS.F ht⟩) hS.2.2 hd hlk
theorem r_iret {Ψ : Int32 → kMem → Prop} {v : Int32} (C : kR cc own nL R sh N (some .int) (kI Ψ) J) (hd : decode cc pc = .ok (.ireturn, 1)) (k : Ψ v μ) : J pc L [.int v] μ := by
  obtain ⟨p, l, e, s, m, args, below, meth, c, D, ad, τ, A, ⟨hx, hb, hml, hr, hlk, hown, hw, hD, hE, hA⟩, rfl⟩ := C
  intro H locs ls hP hS hl
  exact W.iret hx hb hr (fun t ht hW => ⟨⟨_, μ, rfl, ⟨v, rfl, k⟩, by rw [ht]; exact hP⟩, hS.F ht⟩) hS.2.2 hd hlk
theorem r_zret {Ψ : Int32 → kMem → Prop} {v : Int32} {ty : FieldType} (C : kR cc own nL R sh N (some ty) (kI Ψ) J) (hd : decode cc pc = .ok (.ireturn, 1)) (hn : narrow ty (.int v) = .int v) (k : Ψ v μ) : J pc L [.int v] μ := by
  obtain ⟨p, l, e, s, m, args, below, meth, c, D, ad, τ, A, ⟨hx, hb, hml, hr, hlk, hown, hw, hD, hE, hA⟩, rfl⟩ := C
  intro H locs ls hP hS hl
  exact W.zret hx hb hr hn (fun t ht hW => ⟨⟨_, μ, rfl, ⟨v, rfl, k⟩, by rw [ht]; exact hP⟩, hS.F ht⟩) hS.2.2 hd hlk
theorem r_lret {Ψ : Int64 → kMem → Prop} {v : Int64} (C : kR cc own nL R sh N (some .long) (kL Ψ) J) (hd : decode cc pc = .ok (.lreturn, 1)) (k : Ψ v μ) : J pc L [.long v] μ := by
  obtain ⟨p, l, e, s, m, args, below, meth, c, D, ad, τ, A, ⟨hx, hb, hml, hr, hlk, hown, hw, hD, hE, hA⟩, rfl⟩ := C
  intro H locs ls hP hS hl
  exact W.lret hx hb hr (fun t ht hW => ⟨⟨_, μ, rfl, ⟨v, rfl, k⟩, by rw [ht]; exact hP⟩, hS.F ht⟩) hS.2.2 hd hlk
end KRET
