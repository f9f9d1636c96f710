section CJ
variable {p : Program} {l : Launch} {e : Env} {R : Room} {s : State} {m : MethodId} {args : Array Value} {below : List Frame} {meth : Method} {c : Code} {cc : ByteArray} {own : String} {nL : Nat} {D : va_G} {τ : Nat → ClassId} {h0 : Nat} {A : Nat → Prop} {Q : State → Prop} {pc : Nat} {L : List (Nat × Value)} {st : List Value} {E : va_E} {es : List va_E} {nc ns : Nat}
/-- a final field of the class itself -/
def kFf (own : String) (idx ci k : Nat) (ty : FieldType) : Prop :=
  ∃ (C : String) (T : u_T) (n : Nat) (ty0 : Nat → FieldType), vwCl[ci]? = some (C, T, n) ∧ k < n ∧ (∀ w ∈ u_ws C T n, w ∈ WG) ∧ Cond.fieldLink own idx (T k).1 (T k).2.1 (T k).2.2.1 ∈ WG ∧ (∀ k, k < n → parseFieldDescriptor (T k).2.2.1 = some (ty0 k)) ∧ (∀ a, a < n → ∀ b, b < n → a ≠ b → (T a).2.1 ≠ (T b).2.1) ∧ (T k).2.2.2 = true ∧ (T k).1 = own ∧ parseFieldDescriptor (T k).2.2.1 = some ty
theorem c_put (C : cC p s m args c cc own nL D τ h0 A) (hin : meth.name = "<init>") (hs0 : s.heap.size = h0 + 1) {idx ci k x : Nat} {fs : List Value} {ty : FieldType} (f : kFf own idx ci k ty) (hn : narrow ty (.ref x) = .ref x) (hfit : fits ty (.ref x) = true) (hl9 : k < fs.length) (hd : decode cc pc = .ok (.putfield idx, 3)) (hk : es.length = nc)
    (kk : cJ p l e R s m args below meth c D h0 A nL Q (pc + 3) L st (.inr (ci, fs.set k (.ref x)) :: es) nc ns) : cJ p l e R s m args below meth c D h0 A nL Q pc L (.ref x :: .ref h0 :: st) (.inr (ci, fs) :: es) nc ns := by
  obtain ⟨hx, hb, hml, hown, hw, hK, hA⟩ := C
  obtain ⟨Cn, T, n, ty0, f1, f2, f3, f4, f5, f6, f7, f8, f9⟩ := f
  intro H locs ls hz hP hS hl
  refine va_putF (v := .ref x) (ty := ty) (fs := fs) hx hb hw f3 ty0 f5 f6 hown hK (cP_va hP) (sg_D hA) hS 0 (sg_get (k := 0) rfl) f1 k f2 (hw _ f4) (fun _ h9 => h9) f7 hin f8 f9 hn hfit hl9 hd (fun H1 locs1 hP1 _ hS1 => ?_)
  refine w_sz fun hle => ?_
  rw [sg_set] at hP1
  have hP2 : cP D h0 (.inr (ci, fs.set k (.ref x)) :: es) H1 := va_cP hP1
  have hgt := cP_lt hP2 (k := es.length) rfl
  exact kk H1 locs1 ls (by rw [hs0] at hle; simp only [List.length_cons]; omega) hP2 hS1 hl
theorem c_get (C : cC p s m args c cc own nL D τ h0 A) {idx ci k : Nat} {fs : List Value} {v : Value} (f : kFd own idx ci k) (hv : fs[k]? = some v) (hd : decode cc pc = .ok (.getfield idx, 3))
    (kk : cJ p l e R s m args below meth c D h0 A nL Q (pc + 3) L (v :: st) (.inr (ci, fs) :: es) nc ns) : cJ p l e R s m args below meth c D h0 A nL Q pc L (.ref h0 :: st) (.inr (ci, fs) :: es) nc ns := by
  obtain ⟨hx, hb, hml, hown, hw, hK, hA⟩ := C
  obtain ⟨Cn, T, n, h1, h2, h3, h4⟩ := f
  intro H locs ls hz hP hS hl
  exact va_get hx hb hw h3 hown hK (cP_va hP) 0 (sg_get (k := 0) rfl) h1 k h2 (hw _ h4) (fun _ h9 => h9) hv hd (kk H locs ls hz hP hS hl)
theorem c_ret {args : Array Value} (C : cC p s m args c cc own nL D τ h0 (fun q => h0 ≤ q)) (hr : meth.sig.returnType = none) (hlk : meth.locks = false) (hd : decode cc pc = .ok (.return_, 1)) : cJ p l e R s m args below meth c D h0 (fun q => h0 ≤ q) nL (MQ below (cQ D h0 es) args s nc ns (fun q => h0 ≤ q)) pc L [] es nc ns := by
  obtain ⟨hx, hb, hml, hown, hw, hK, hA⟩ := C
  intro H locs ls hz hP hS hl
  exact W.vret hx hb hr (fun t ht hW => ⟨⟨rfl, by rw [ht]; exact hz, by rw [ht]; exact hP⟩, hS.F ht⟩) hS.2.2 hd hlk
/-- a maker, as the tables have it -/
def kYi (y : MethodName) (bytes : ByteArray) (maxL n : Nat) : Prop :=
  Cond.instanceMethod y ∈ WG ∧ Cond.initialized y.cls ∈ WG ∧ Cond.code y bytes maxL none ∈ WG ∧ y.name = "<init>" ∧ y.cls ≠ "java/lang/invoke/MethodHandle" ∧ y.cls ≠ "java/lang/invoke/VarHandle" ∧ (parseMethodDescriptor y.desc).map (fun d => d.parameters.length) = some n
theorem kgoodI {own : String} {index : Nat} {y : MethodName} {bytes : ByteArray} {maxL n : Nat} (ly : kYi y bytes maxL n) : GoodIn WG (.code y bytes maxL none :: WG) := by
  intro w hw
  rcases List.mem_cons.mp hw with rfl | hw
  · exact WG_good _ ly.2.2.1
  · exact WG_good _ hw
theorem c_run {y : MethodName} {bytes : ByteArray} {maxL n h1 : Nat} {rm : Room} {X : State → Prop} {E1 : va_E} {es1 : List va_E} {As rest : List Value} {ls : Array Slot} {H : Heap} {locs : List Loc} {g : JFrame} (hA : ∀ q, h0 ≤ q → A q) (hz : H.size = h0 + (es ++ [E1]).length) (hP : cP D h0 (es ++ [E1]) H) (hS : va_S A s.heap H locs) (hh : h1 = h0 + es.length) (hg : g = F0 m pc ls st)
    (hr : va_Run p l e R s m args below meth c H locs nc ns rm.cells rm.slots g rest (cQ D h1 es1 (Value.ref h1 :: As).toArray) (fun q => h1 ≤ q)) (hl : lv_has ls nL L)
    (kk : cJ p l e R s m args below meth c D h0 A nL Q (pc + 3) L rest (es ++ es1) (nc + rm.cells) (ns + rm.slots)) : W p l e R s m args below meth c H locs nc ns Q g := by
  subst hg
  subst hh
  intro T hT X
  obtain ⟨v, st₀, t, T', L', w0, X', hL, e1, e2, ⟨⟨hv, hsz, hp⟩, hz9, hk9⟩, stp⟩ := hr T hT X
  cases hv
  rw [w0] at hz9 hk9
  rw [← e1] at hz9 hk9 hsz hp
  have hsz2 : H.size = h0 + es.length + 1 := by rw [hz]; simp only [List.length_append, List.length_cons, List.length_nil]; omega
  obtain ⟨t2, a1, b1⟩ := kk T'.heap (locs ++ L') ls (by rw [hsz]; simp only [List.length_append]; omega) (cP_app (cP_kept (cP_left hP) (fun q hq => hk9 q (by omega) (by omega))) hp)
    ⟨Nat.le_trans hS.1 hz9, fun q q1 q2 => by rw [hk9 q (Nat.lt_of_lt_of_le q1 hS.1) (fun z => q2 (hA q (by omega)))]; exact hS.2.1 q q1 q2, fun q hq => by
      rcases List.mem_append.mp hq with h | h
      · exact hS.2.2 q h
      · exact hA _ (by have := hL q h; omega)⟩ hl T' rfl X'
  exact ⟨t2, stp t2 a1, b1⟩
theorem c_pre {h1 : Nat} {X : State → Prop} {E1 : va_E} {As : List Value} {H : Heap} (hz : H.size = h0 + (es ++ [E1]).length) (hP : cP D h0 (es ++ [E1]) H) (hK : va_K D vwCl (kty τ) s) (hh : h1 = h0 + es.length) (hXb : ∀ (a : Array Value) (U : State) (g : JFrame) (mk : MethodId), X U → X (U.calling g mk a)) (hX : ∀ U : State, U.heap = H → s.WarmedH U.vm → X U) : PreS s H (va_Pc (.ref h1 :: As) (cB D τ h1 X E1)) (.ref h1 :: As) := by
  subst hh
  refine ⟨fun a U g mk q => ?_, fun U hU hW => ⟨rfl, by rw [hU, hz]; simp only [List.length_append, List.length_cons, List.length_nil]; omega, by rw [hU]; exact cP_right hP, va_K.moved hW.alike hK, hX U hU hW⟩⟩
  obtain ⟨q0, q1, q2, q3, q4⟩ := q
  exact ⟨q0, q1, q2, va_K.moved (u := U) (U := U.calling g mk a) (Vm.Alike.refl U.vm) q3, hXb a U g mk q4⟩
def crm (rm R : Room) (maxL nc ns : Nat) : Bool := Nat.ble (rm.frames + 1) R.frames && Nat.ble (8 + (maxL + 11) + rm.locals) R.locals && Nat.ble (nc + rm.cells) R.cells && Nat.ble (ns + rm.slots) R.slots
theorem crm_of {rm R : Room} {maxL nc ns : Nat} (h : crm rm R maxL nc ns = true) : rm.frames + 1 ≤ R.frames ∧ 8 + (maxL + 11) + rm.locals ≤ R.locals ∧ nc + rm.cells ≤ R.cells ∧ ns + rm.slots ≤ R.slots := by
  simp only [crm, Bool.and_eq_true, Nat.ble_eq] at h
  exact ⟨h.1.1.1, h.1.1.2, h.1.2, h.2⟩
theorem c_callI (C : cC p s m args c cc own nL D τ h0 A) {y : MethodName} {bytes : ByteArray} {maxL n h1 idx : Nat} {rm : Room} {X : State → Prop} {E1 : va_E} {es1 : List va_E} {As rest : List Value} (ly : kYi y bytes maxL n) (hlk : Cond.methodLink own idx y ∈ WG) (hR : crm rm R maxL nc ns = true) (hn : As.length = n) (hcat : (rest.map fun v => v.category).sum ≤ 8) (hst : st = As.reverse ++ .ref h1 :: rest) (hh : h1 = h0 + es.length)
    (h : cOk y bytes maxL rm X τ h1 E1 As es1) (hXb : ∀ (a : Array Value) (U : State) (g : JFrame) (mk : MethodId), X U → X (U.calling g mk a)) (hX : ∀ (H : Heap) (locs : List Loc), va_S A s.heap H locs → ∀ U : State, U.heap = H → s.WarmedH U.vm → X U) (hd : decode cc pc = .ok (.invokespecial idx, 3))
    (kk : cJ p l e R s m args below meth c D h0 A nL Q (pc + 3) L rest (es ++ es1) (nc + rm.cells) (ns + rm.slots)) : cJ p l e R s m args below meth c D h0 A nL Q pc L st (es ++ [E1]) nc ns := by
  obtain ⟨hx, hb, hml, hown, hw, hK, hA⟩ := C
  obtain ⟨r1, r2, r3, r4⟩ := crm_of hR
  intro H locs ls hz hP hS hl
  exact c_run (y := y) (bytes := bytes) (maxL := maxL) (n := n) (X := X) (ls := ls) hA hz hP hS hh rfl (va_runI (As := As) (rest := rest) (g := F0 m pc ls st) (e := e) (meth := meth) (locs := locs) (cells := nc) (slots := ns) (below := below) ⟨hx, hb, hml, hown, hw⟩ (h l D) (cwI (R := R) n hw (kgoodI (own := own) (index := idx) ly) rfl rfl rfl (hw _ ly.2.1) (hw _ hlk) (hw _ ly.1) ly.2.2.2.1 ly.2.2.2.2 ⟨r1, r2⟩) (c_pre hz hP hK hh hXb (hX H locs hS)) rfl hn hl.1 hst (lv_room hcat) hd ⟨r3, r4⟩) hl kk
theorem c_callN (C : cC p s m args c cc own nL D τ h0 A) {y : MethodName} {bytes : ByteArray} {maxL n h1 idx : Nat} {rm : Room} {X : State → Prop} {E1 : va_E} {es1 : List va_E} {As rest : List Value} (ly : kYi y bytes maxL n) (hlk : va_Nw (.methodLinkNest own idx y "KeyFists") s) (hR : crm rm R maxL nc ns = true) (hn : As.length = n) (hcat : (rest.map fun v => v.category).sum ≤ 8) (hst : st = As.reverse ++ .ref h1 :: rest) (hh : h1 = h0 + es.length)
    (h : cOk y bytes maxL rm X τ h1 E1 As es1) (hXb : ∀ (a : Array Value) (U : State) (g : JFrame) (mk : MethodId), X U → X (U.calling g mk a)) (hX : ∀ (H : Heap) (locs : List Loc), va_S A s.heap H locs → ∀ U : State, U.heap = H → s.WarmedH U.vm → X U) (hd : decode cc pc = .ok (.invokespecial idx, 3))
    (kk : cJ p l e R s m args below meth c D h0 A nL Q (pc + 3) L rest (es ++ es1) (nc + rm.cells) (ns + rm.slots)) : cJ p l e R s m args below meth c D h0 A nL Q pc L st (es ++ [E1]) nc ns := by
  obtain ⟨hx, hb, hml, hown, hw, hK, hA⟩ := C
  obtain ⟨r1, r2, r3, r4⟩ := crm_of hR
  intro H locs ls hz hP hS hl
  exact c_run (y := y) (bytes := bytes) (maxL := maxL) (n := n) (X := X) (ls := ls) hA hz hP hS hh rfl (va_runIN (As := As) (rest := rest) (g := F0 m pc ls st) (e := e) (meth := meth) (locs := locs) (cells := nc) (slots := ns) (below := below) ⟨hx, hb, hml, hown, hw⟩ (h l D) ⟨va_cnB (R := R) n hw (kgoodI (own := own) (index := idx) ly) rfl rfl rfl hlk (hw _ ly.2.1) ly.2.2.2.2 ⟨r1, r2⟩, ly.2.2.2.1, hw _ ly.1⟩ (c_pre hz hP hK hh hXb (hX H locs hS)) rfl hn hl.1 hst (lv_room hcat) hd ⟨r3, r4⟩) hl kk
theorem c_newE (C : cC p s m args c cc own nL D τ h0 A) {idx ci N k : Nat} {Cn : String} {T : u_T} {ty : Nat → FieldType} {fs : List Value} (hin : ∀ w ∈ u_ws Cn T N, w ∈ WG) (hty : ∀ k, k < N → parseFieldDescriptor (T k).2.2.1 = some (ty k)) (hcl : Cond.classLink own idx Cn ∈ WG) (hinst : Cond.instantiable Cn N ∈ WG) (hini : Cond.initialized Cn ∈ WG) (hc : vwCl[ci]? = some (Cn, T, N)) (hfs : ∀ j, j < N → defaultValue (ty j) = vp_V fs j) (hc1 : nc + 1 ≤ R.cells) (hs1 : ns + N ≤ R.slots) (hd : decode cc pc = .ok (.new idx, 3)) (hk : (E :: es).length = k)
    (kk : cJ p l e R s m args below meth c D h0 A nL Q (pc + 3) L (.ref (h0 + k) :: st) (E :: (es ++ [.inr (ci, fs)])) (nc + 1) (ns + N)) : cJ p l e R s m args below meth c D h0 A nL Q pc L st (E :: es) nc ns := c_new C hin hty hcl hinst hini hc hfs hc1 hs1 hd hk kk
theorem c_callIE (C : cC p s m args c cc own nL D τ h0 A) {y : MethodName} {bytes : ByteArray} {maxL n h1 idx : Nat} {rm : Room} {X : State → Prop} {E1 : va_E} {es1 : List va_E} {As rest : List Value} (ly : kYi y bytes maxL n) (hlk : Cond.methodLink own idx y ∈ WG) (hR : crm rm R maxL nc ns = true) (hn : As.length = n) (hcat : (rest.map fun v => v.category).sum ≤ 8) (hst : st = As.reverse ++ .ref h1 :: rest) (hh : h1 = h0 + (E :: es).length)
    (h : cOk y bytes maxL rm X τ h1 E1 As es1) (hXb : ∀ (a : Array Value) (U : State) (g : JFrame) (mk : MethodId), X U → X (U.calling g mk a)) (hX : ∀ (H : Heap) (locs : List Loc), va_S A s.heap H locs → ∀ U : State, U.heap = H → s.WarmedH U.vm → X U) (hd : decode cc pc = .ok (.invokespecial idx, 3))
    (kk : cJ p l e R s m args below meth c D h0 A nL Q (pc + 3) L rest (E :: (es ++ es1)) (nc + rm.cells) (ns + rm.slots)) : cJ p l e R s m args below meth c D h0 A nL Q pc L st (E :: (es ++ [E1])) nc ns := c_callI (es := E :: es) C ly hlk hR hn hcat hst hh h hXb hX hd kk
theorem c_callNE (C : cC p s m args c cc own nL D τ h0 A) {y : MethodName} {bytes : ByteArray} {maxL n h1 idx : Nat} {rm : Room} {X : State → Prop} {E1 : va_E} {es1 : List va_E} {As rest : List Value} (ly : kYi y bytes maxL n) (hlk : va_Nw (.methodLinkNest own idx y "KeyFists") s) (hR : crm rm R maxL nc ns = true) (hn : As.length = n) (hcat : (rest.map fun v => v.category).sum ≤ 8) (hst : st = As.reverse ++ .ref h1 :: rest) (hh : h1 = h0 + (E :: es).length)
    (h : cOk y bytes maxL rm X τ h1 E1 As es1) (hXb : ∀ (a : Array Value) (U : State) (g : JFrame) (mk : MethodId), X U → X (U.calling g mk a)) (hX : ∀ (H : Heap) (locs : List Loc), va_S A s.heap H locs → ∀ U : State, U.heap = H → s.WarmedH U.vm → X U) (hd : decode cc pc = .ok (.invokespecial idx, 3))
    (kk : cJ p l e R s m args below meth c D h0 A nL Q (pc + 3) L rest (E :: (es ++ es1)) (nc + rm.cells) (ns + rm.slots)) : cJ p l e R s m args below meth c D h0 A nL Q pc L st (E :: (es ++ [E1])) nc ns := c_callN (es := E :: es) C ly hlk hR hn hcat hst hh h hXb hX hd kk
/-- a cell of the list, said otherwise -/
theorem c_eqv {j : Nat} {x x' : va_E} (he : es[j]? = some x) (h : ∀ H : Heap, va_at D vwCl (h0 + j, x) H → va_at D vwCl (h0 + j, x') H) (kk : cJ p l e R s m args below meth c D h0 A nL Q pc L st (es.set j x') nc ns) : cJ p l e R s m args below meth c D h0 A nL Q pc L st es nc ns := by
  intro H locs ls hz hP hS hl
  have hj := (List.getElem?_eq_some_iff.mp he).1
  refine kk H locs ls (by rw [List.length_set]; exact hz) (fun k y hy => ?_) hS hl
  by_cases q : k = j
  · subst q
    rw [List.getElem?_set_self hj] at hy
    cases hy
    exact h H (hP _ _ he)
  · rw [List.getElem?_set_ne (Ne.symm q)] at hy
    exact hP k y hy
theorem c_anew (C : cC p s m args c cc own nL D τ h0 A) {n : Int32} {N k idx : Nat} (hd : decode cc pc = .ok (.anewarray idx, 3)) (hcl : Cond.classLink own idx "java/lang/String" ∈ WG) (hov : va_AO "java/lang/String" s) (hn : ¬ n < 0) (hN : n.toNatClampNeg = N) (hbt : N * 4 ≤ 536870912) (hc : nc + 1 ≤ R.cells) (hs : ns + N ≤ R.slots) (hk : (E :: es).length = k)
    (kk : cJ p l e R s m args below meth c D h0 A nL Q (pc + 3) L (.ref (h0 + k) :: st) (E :: (es ++ [.inl (τ 5, N, .inr (.inr (.inr (.inr fun _ => none))))])) (nc + 1) (ns + N)) : cJ p l e R s m args below meth c D h0 A nL Q pc L (.int n :: st) (E :: es) nc ns := by
  obtain ⟨hx, hb, hml, hown, hw, hK, hA⟩ := C
  subst hN
  subst hk
  intro H locs ls hz hP hS hl
  refine W.anew hx hb hown (hw _ hcl) (va_AO.use hov) rfl hd rfl hn hbt hc hs fun cA kA comp f1 f2 f3 f4 => ?_
  obtain ⟨kA', comp', g1, g2, g3, g4⟩ := (hK.2 5 _ rfl).2
  have hcA : cA = τ 5 := Option.some.inj (f1.symm.trans g4)
  subst hcA
  rw [hz]
  refine W.eq (g2 := F0 m (pc + 3) ls (.ref (h0 + (E :: es).length) :: st)) rfl ?_
  refine kk _ locs ls (by rw [Array.size_push, hz]; simp only [List.length_cons, List.length_append, List.length_nil]; omega) ?_ ⟨Nat.le_trans hS.1 (by rw [Array.size_push]; omega), fun x h1 h2 => ?_, hS.2.2⟩ hl
  · refine cP_app (es := E :: es) (cP_kept hP (fun q hq => by rw [Array.getElem?_push, if_neg (by omega)])) (fun j x hx => ?_)
    have hj : j < 1 := (List.getElem?_eq_some_iff.mp hx).1
    obtain rfl : j = 0 := by omega
    cases hx
    show (H.push _)[_]? = some (vp_cell _ _)
    rw [vp_cell_q, Nat.add_zero, ← hz, Array.getElem?_push_size, ← arrV_new]
    rfl
  · rw [Array.getElem?_push, if_neg (by have := hS.1; omega)]
    exact hS.2.1 x h1 h2
theorem c_ast (C : cC p s m args c cc own nL D τ h0 A) (hs0 : s.heap.size = h0 + 1) {i : Int32} {N j v : Nat} {f : Nat → Option Nat} (hd : decode cc pc = .ok (.aastore, 1)) (he : (E :: es)[j]? = some (.inl (τ 5, N, .inr (.inr (.inr (.inr f)))))) (hin : vp_in i N) (hv : ∃ cellV : Cell, s.heap[v]? = some cellV ∧ cellV.vm.isStatics = false ∧ s.vm.findClass "java/lang/String" = some cellV.cls) (hvA : ¬ A v) (hk : es.length = nc)
    (kk : cJ p l e R s m args below meth c D h0 A nL Q (pc + 1) L st ((E :: es).set j (.inl (τ 5, N, .inr (.inr (.inr (.inr (va_up f i.toNatClampNeg (some v)))))))) nc ns) : cJ p l e R s m args below meth c D h0 A nL Q pc L (.ref v :: .int i :: .ref (h0 + j) :: st) (E :: es) nc ns := by
  obtain ⟨hx, hb, hml, hown, hw, hK, hA⟩ := C
  intro H locs ls hz hP hS hl
  obtain ⟨cellV, v1, v2, v3⟩ := hv
  have hvl : v < s.heap.size := (Array.getElem?_eq_some_iff.mp v1).1
  refine vb_astq (E := "java/lang/String") (C := "java/lang/String") hx hb hK (cP_va hP) (sg_D hA) hS j 5 (sg_get he) rfl ⟨cellV, by rw [hS.2.1 v hvl hvA]; exact v1, v2, v3⟩ (fun comp c0 q1 q2 => by rw [Option.some.inj (q2.symm.trans q1)]; exact va_asg _ _) hin hd (fun H1 locs1 hP1 _ hS1 => ?_)
  refine w_sz fun hle => ?_
  rw [sg_set] at hP1
  have hP2 := va_cP hP1
  have hgt := cP_lt hP2 (k := es.length) (by simp only [List.length_set, List.length_cons])
  exact kk H1 locs1 ls (by rw [hs0] at hle; simp only [List.length_set, List.length_cons]; omega) hP2 hS1 hl
theorem c_ldcS (C : cC p s m args c cc own nL D τ h0 A) {idx x : Nat} {tx : String} (hR : vk_R own idx tx x s) (hd : decode cc pc = .ok (.ldc idx, 2)) (k : cJ p l e R s m args below meth c D h0 A nL Q (pc + 2) L (.ref x :: st) es nc ns) : cJ p l e R s m args below meth c D h0 A nL Q pc L st es nc ns := by
  obtain ⟨hx, hb, hml, hown, hw, hK, hA⟩ := C
  intro H locs ls hz hP hS hl
  exact va_ldcS hx hb hown hR hd (k H locs ls hz hP hS hl)
theorem c_multi (C : cC p s m args c cc own nL D τ h0 A) {n k : Int32} {idx t t0 N M j : Nat} {ty : FieldType} {f : Nat → Option Nat} {z : (Nat → Int32) ⊕ (Nat → Int64) ⊕ (Nat → UInt32) ⊕ (Nat → UInt64) ⊕ (Nat → Option Nat)} (hd : decode cc pc = .ok (.multianewarray idx 2, 4)) (hcl : Cond.classLink own idx ("[" ++ (FieldType.array ty).toString) ∈ WG) (hov : cov ty s) (hac : Cond.arrayClass ty ∈ WG) (ht : (kty τ)[t]? = some (τ t, .array ty)) (ht0 : (kty τ)[t0]? = some (τ t0, ty)) (hra : ∀ (U : State) (cA : ClassId), va_RA U cA ty → U.vm.findClass (FieldType.array ty).toString = some cA) (hzv : ∀ cA : ClassId, arrV cA M (fun _ => defaultValue ty) = vp_cell cA (M, z)) (hf : ∀ i, i < N → f i = some (h0 + j + 1 + i)) (hn : ¬ n < 0) (hk0 : ¬ k < 0) (hN : n.toNatClampNeg = N) (hM : k.toNatClampNeg = M) (hb1 : N * 4 ≤ 536870912) (hb2 : M * componentBytes ty ≤ 536870912) (hb3 : M ≤ 536870912) (hdf : fits ty (defaultValue ty) = true) (hdd : (defaultValue ty).isDefault = true) (hc : nc + (1 + N) ≤ R.cells) (hs : ns + (N + N * M) ≤ R.slots) (hk : (E :: es).length = j)
    (kk : cJ p l e R s m args below meth c D h0 A nL Q (pc + 4) L (.ref (h0 + j) :: st) (E :: (es ++ (.inl (τ t, N, .inr (.inr (.inr (.inr f)))) :: List.replicate N (.inl (τ t0, M, z))))) (nc + 1 + N) (ns + N + N * M)) : cJ p l e R s m args below meth c D h0 A nL Q pc L (.int k :: .int n :: st) (E :: es) nc ns := by
  obtain ⟨hx, hb, hml, hown, hw, hK, hA⟩ := C
  subst hk
  intro H locs ls hz hP hS hl
  refine w_multi hx hb hown (hw _ hcl) hov (hw _ hac) hd hn hk0 hN hM hb1 hb2 hb3 hdf hc hs hz fun H1 locs1 cA comp hl1 q1 q2 z1 o1 e1 e2 => ?_
  have hcA : cA = τ t := Option.some.inj (q1.symm.trans (show s.vm.findClass ("[" ++ (FieldType.array ty).toString) = some (τ t) from (hK.2 t _ ht).2))
  have hcB : comp = τ t0 := Option.some.inj (q2.symm.trans (hra s _ (hK.2 t0 _ ht0).2))
  subst hcA
  subst hcB
  refine kk H1 locs1 ls (by rw [z1]; simp only [List.length_cons, List.length_append, List.length_replicate]; omega) ?_ ⟨Nat.le_trans hS.1 (by omega), fun x h1 h2 => (o1 x (by have := hS.1; omega)).trans (hS.2.1 x h1 h2), fun q hq => by
    rcases hl1 q hq with h9 | h9
    · exact hS.2.2 q h9
    · exact hA q.base (by rw [h9]; exact Nat.le_add_right _ _)⟩ hl
  refine cP_app (es := E :: es) (cP_kept hP (fun q hq => o1 q hq)) (fun i x hx => ?_)
  cases i with
  | zero =>
    cases hx
    show H1[_]? = some (vp_cell _ _)
    rw [vp_cell_q, Nat.add_zero, e1]
    exact congrArg some (arrV_congr (fun i hi => by rw [hf i hi]; rfl))
  | succ i =>
    rw [List.getElem?_cons_succ] at hx
    have hi : i < N := by
      have := (List.getElem?_eq_some_iff.mp hx).1
      rwa [List.length_replicate] at this
    rw [List.getElem?_replicate, if_pos hi] at hx
    cases hx
    show H1[_]? = some (vp_cell _ _)
    rw [← hzv, show h0 + (E :: es).length + (i + 1) = h0 + (E :: es).length + 1 + i by omega]
    exact e2 i hi
end CJ

