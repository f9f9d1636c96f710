/-! ===== constructors: cells side by side from h0 on ===== -/
def cP (D : va_G) (h0 : Nat) (es : List va_E) (H : Heap) : Prop := ∀ (k : Nat) (e : va_E), es[k]? = some e → va_at D vwCl (h0 + k, e) H
def sg (h0 : Nat) (es : List va_E) : va_W := (List.range es.length).map (fun k => (h0 + k, es.getD k (.inr (0, []))))
theorem sg_get {h0 : Nat} {es : List va_E} {k : Nat} {e : va_E} (h : es[k]? = some e) : (sg h0 es)[k]? = some (h0 + k, e) := by
  have hk := (List.getElem?_eq_some_iff.mp h).1
  unfold sg
  rw [List.getElem?_map, List.getElem?_range hk]
  show some (h0 + k, es.getD k _) = _
  rw [List.getD_eq_getElem?_getD, h]
  rfl
theorem sg_len {h0 : Nat} {es : List va_E} : (sg h0 es).length = es.length := by simp [sg]
theorem sg_of {h0 : Nat} {es : List va_E} {k : Nat} {q : Nat × va_E} (h : (sg h0 es)[k]? = some q) : ∃ e, es[k]? = some e ∧ q = (h0 + k, e) := by
  have hk : k < es.length := by
    have := (List.getElem?_eq_some_iff.mp h).1
    rw [sg_len] at this
    exact this
  have e1 : es[k]? = some es[k] := List.getElem?_eq_getElem hk
  rw [sg_get e1] at h
  exact ⟨_, e1, (Option.some.inj h).symm⟩
theorem cP_va {D : va_G} {h0 : Nat} {es : List va_E} {H : Heap} (h : cP D h0 es H) : va_P D vwCl (sg h0 es) H := fun k q hq => by
  obtain ⟨e, e1, rfl⟩ := sg_of hq
  exact h k e e1
theorem va_cP {D : va_G} {h0 : Nat} {es : List va_E} {H : Heap} (h : va_P D vwCl (sg h0 es) H) : cP D h0 es H := fun k e he => h k _ (sg_get he)
theorem sg_set {h0 : Nat} {es : List va_E} {k : Nat} {e : va_E} : (sg h0 es).set k (h0 + k, e) = sg h0 (es.set k e) := by
  apply List.ext_getElem?
  intro j
  by_cases hj : j < es.length
  · by_cases e1 : j = k
    · subst e1
      rw [sg_get (e := e) (by rw [List.getElem?_set_self hj]), List.getElem?_set_self (by rw [sg_len]; exact hj)]
    · have e2 : es[j]? = some es[j] := List.getElem?_eq_getElem hj
      rw [List.getElem?_set_ne (Ne.symm e1), sg_get e2, sg_get (e := es[j]) (by rw [List.getElem?_set_ne (Ne.symm e1)]; exact e2)]
  · rw [List.getElem?_eq_none_iff.mpr (by rw [List.length_set, sg_len]; omega), List.getElem?_eq_none_iff.mpr (by rw [sg_len, List.length_set]; omega)]
theorem sg_D {A : Nat → Prop} {h0 : Nat} {es : List va_E} (hA : ∀ q, h0 ≤ q → A q) : va_D A (sg h0 es) := by
  refine ⟨fun i j x y hi hj e => ?_, fun k q hk => ?_⟩
  · obtain ⟨a, -, rfl⟩ := sg_of hi
    obtain ⟨b, -, rfl⟩ := sg_of hj
    have e : h0 + i = h0 + j := e
    omega
  · obtain ⟨a, -, rfl⟩ := sg_of hk
    exact hA _ (Nat.le_add_right _ _)
theorem cP_app {D : va_G} {h0 : Nat} {es fs : List va_E} {H : Heap} (h1 : cP D h0 es H) (h2 : cP D (h0 + es.length) fs H) : cP D h0 (es ++ fs) H := fun k e he => by
  by_cases hk : k < es.length
  · rw [List.getElem?_append_left hk] at he
    exact h1 k e he
  · rw [List.getElem?_append_right (by omega)] at he
    have := h2 _ e he
    rw [show h0 + es.length + (k - es.length) = h0 + k by omega] at this
    exact this
theorem cP_left {D : va_G} {h0 : Nat} {es fs : List va_E} {H : Heap} (h : cP D h0 (es ++ fs) H) : cP D h0 es H := fun k e he => h k e (by rw [List.getElem?_append_left (List.getElem?_eq_some_iff.mp he).1]; exact he)
theorem cP_right {D : va_G} {h0 : Nat} {es fs : List va_E} {H : Heap} (h : cP D h0 (es ++ fs) H) : cP D (h0 + es.length) fs H := fun k e he => by
  have := h (es.length + k) e (by rw [List.getElem?_append_right (by omega), show es.length + k - es.length = k by omega]; exact he)
  rw [Nat.add_assoc]
  exact this
theorem cP_kept {D : va_G} {h0 : Nat} {es : List va_E} {H H1 : Heap} (h : cP D h0 es H) (hq : ∀ q, q < h0 + es.length → H1[q]? = H[q]?) : cP D h0 es H1 := fun k e he => (h k e he).kept (hq _ (by have := (List.getElem?_eq_some_iff.mp he).1; show h0 + k < _; omega))
theorem cP_lt {D : va_G} {h0 : Nat} {es : List va_E} {H : Heap} (h : cP D h0 es H) {k : Nat} (hk : es.length = k + 1) : h0 + k < H.size := by
  have e1 : es[k]? = some es[k] := List.getElem?_eq_getElem (by omega)
  exact (h k _ e1).lt
def cov (ty : FieldType) (U : State) : Prop := (Cond.arrayOver (.array ty)).before #[] U = true
def cC (p : Program) (s : State) (m : MethodId) (args : Array Value) (c : Code) (cc : ByteArray) (own : String) (nL : Nat) (D : va_G) (τ : Nat → ClassId) (h0 : Nat) (A : Nat → Prop) : Prop :=
  p.tables.exec = Jvm.exec ∧ c.code = cc ∧ c.maxLocals = nL ∧ s.vm.findClass own = some m.cls ∧ (∀ w ∈ WG, w.before args s = true) ∧ va_K D vwCl (kty τ) s ∧ ∀ q, h0 ≤ q → A q
def cJ (p : Program) (l : Launch) (e : Env) (R : Room) (s : State) (m : MethodId) (args : Array Value) (below : List Frame) (meth : Method) (c : Code) (D : va_G) (h0 : Nat) (A : Nat → Prop) (nL : Nat) (Q : State → Prop) (pc : Nat) (L : List (Nat × Value)) (st : List Value) (es : List va_E) (nc ns : Nat) : Prop :=
  ∀ (H : Heap) (locs : List Loc) (ls : Array Slot), H.size = h0 + es.length → cP D h0 es H → va_S A s.heap H locs → lv_has ls nL L → W p l e R s m args below meth c H locs nc ns Q (F0 m pc ls st)
def cQ (D : va_G) (h0 : Nat) (es : List va_E) : Array Value → State → Outcome → State → Prop := fun _ st o t => (o = .returned none ∧ t.heap.size = h0 + es.length ∧ cP D h0 es t.heap) ∧ va_F (fun q => h0 ≤ q) st t
def cB (D : va_G) (τ : Nat → ClassId) (h0 : Nat) (X : State → Prop) (E : va_E) : State → Prop := fun U => U.heap.size = h0 + 1 ∧ cP D h0 [E] U.heap ∧ va_K D vwCl (kty τ) U ∧ X U
/-- the maker y, called of the newest object (its cell is E) with the values As, leaves the cells es behind -/
def cOk (y : MethodName) (bytes : ByteArray) (maxL : Nat) (rm : Room) (X : State → Prop) (τ : Nat → ClassId) (h0 : Nat) (E : va_E) (As : List Value) (es : List va_E) : Prop :=
  ∀ (l : Launch) (D : va_G), Met l y (.code y bytes maxL none :: WG) rm (va_Pc (.ref h0 :: As) (cB D τ h0 X E)) (cQ D h0 es) rm.cells rm.slots (fun q => h0 ≤ q)
theorem cOk.of {y : MethodName} {bytes : ByteArray} {maxL : Nat} {rm : Room} {X : State → Prop} {τ : Nat → ClassId} {h0 : Nat} {E : va_E} {As : List Value} {es : List va_E} (hy : plainName y.cls = true) (hyn : y.name = "<init>") (hn : (lg_sl (.ref h0 :: As)).length ≤ maxL)
    (body : ∀ (p : Program) (l : Launch) (e : Env) (s : State) (m : MethodId) (args : Array Value) (below : List Frame) (meth : Method) (c : Code) (D : va_G), cC p s m args c bytes y.cls maxL D τ h0 (fun q => h0 ≤ q) → meth.name = "<init>" → X s → s.heap.size = h0 + 1 → meth.sig.returnType = none → meth.locks = false →
      cJ p l e rm s m args below meth c D h0 (fun q => h0 ≤ q) maxL (MQ below (cQ D h0 es) args s rm.cells rm.slots (fun q => h0 ≤ q)) 0 (lv_args 0 (.ref h0 :: As)) [] [E] 0 0) : cOk y bytes maxL rm X τ h0 E As es := by
  intro l D
  refine Met.ofW (cc := bytes) (maxL := maxL) (ret := none) hy rfl ?_
  intro p e s m args below meth c s₁ B hml hv
  obtain ⟨rfl, hsz, hP, hK, hX⟩ := hv
  have hts := atoms_spec (ws := Cond.code y bytes maxL none :: WG) B.pre
  have hown : s.vm.findClass y.cls = some m.cls := findClass_of_methodNamed B.named
  have hin : meth.name = "<init>" := (name_of_methodNamed B.named B.method).1.trans hyn
  have hl := lv_entry (.ref h0 :: As) (n := maxL) hn
  rw [lg_entry_eq]
  exact body p l e s m _ below meth c D ⟨B.exec, B.bytes, hml, hown, fun w hw => hts w (List.mem_cons_of_mem _ hw), hK, fun _ h => h⟩ hin hX hsz B.returns B.notSynchronized s.heap [] _ hsz hP va_S.rf hl
section CJ
variable {p : Program} {l : Launch} {e : Env} {R : Room} {s : State} {m : MethodId} {args : Array Value} {below : List Frame} {meth : Method} {c : Code} {cc : ByteArray} {own : String} {nL : Nat} {D : va_G} {τ : Nat → ClassId} {h0 : Nat} {A : Nat → Prop} {Q : State → Prop} {pc : Nat} {L : List (Nat × Value)} {st : List Value} {E : va_E} {es : List va_E} {nc ns : Nat}
theorem w_sz {H : Heap} {locs : List Loc} {g : JFrame} (k : H.size ≤ s.heap.size + nc → W p l e R s m args below meth c H locs nc ns Q g) : W p l e R s m args below meth c H locs nc ns Q g := fun T hT X => k (by have := X.same.2.2.1; rw [← hT]; exact this) T hT X
theorem c_al (C : cC p s m args c cc own nL D τ h0 A) {q : Fin 4} {i x : Nat} (hd : decode cc pc = .ok (.aload_n q, 1)) (hi : (q : Nat) = i) (hg : (i, Value.ref x) ∈ L) (k : cJ p l e R s m args below meth c D h0 A nL Q (pc + 1) L (.ref x :: st) es nc ns) : cJ p l e R s m args below meth c D h0 A nL Q pc L st es nc ns := by
  obtain ⟨hx, hb, hml, hown, hw, hK, hA⟩ := C
  intro H locs ls hz hP hS hl
  exact lv_aload_n hx hb hd hi (hl.2.2 _ hg) (k H locs ls hz hP hS hl)
theorem c_al4 (C : cC p s m args c cc own nL D τ h0 A) {i x : Nat} (hd : decode cc pc = .ok (.aload i, 2)) (hg : (i, Value.ref x) ∈ L) (k : cJ p l e R s m args below meth c D h0 A nL Q (pc + 2) L (.ref x :: st) es nc ns) : cJ p l e R s m args below meth c D h0 A nL Q pc L st es nc ns := by
  obtain ⟨hx, hb, hml, hown, hw, hK, hA⟩ := C
  intro H locs ls hz hP hS hl
  exact lv_aload hx hb hd (hl.2.2 _ hg) (k H locs ls hz hP hS hl)
theorem c_iconst (C : cC p s m args c cc own nL D τ h0 A) {n : Int} (hd : decode cc pc = .ok (.iconst n, 1)) (k : cJ p l e R s m args below meth c D h0 A nL Q (pc + 1) L (.int (Int32.ofInt n) :: st) es nc ns) : cJ p l e R s m args below meth c D h0 A nL Q pc L st es nc ns := by
  obtain ⟨hx, hb, hml, hown, hw, hK, hA⟩ := C
  intro H locs ls hz hP hS hl
  exact lv_iconst hx hb hd rfl (k H locs ls hz hP hS hl)
theorem c_bipush (C : cC p s m args c cc own nL D τ h0 A) {n : Int} (hd : decode cc pc = .ok (.bipush n, 2)) (hv : (Int8.ofInt n).toInt32 = Int32.ofInt n) (k : cJ p l e R s m args below meth c D h0 A nL Q (pc + 2) L (.int (Int32.ofInt n) :: st) es nc ns) : cJ p l e R s m args below meth c D h0 A nL Q pc L st es nc ns := by
  obtain ⟨hx, hb, hml, hown, hw, hK, hA⟩ := C
  intro H locs ls hz hP hS hl
  exact lv_bipush hx hb hd hv (k H locs ls hz hP hS hl)
theorem c_sipush (C : cC p s m args c cc own nL D τ h0 A) {n : Int} (hd : decode cc pc = .ok (.sipush n, 3)) (hv : (Int16.ofInt n).toInt32 = Int32.ofInt n) (k : cJ p l e R s m args below meth c D h0 A nL Q (pc + 3) L (.int (Int32.ofInt n) :: st) es nc ns) : cJ p l e R s m args below meth c D h0 A nL Q pc L st es nc ns := by
  obtain ⟨hx, hb, hml, hown, hw, hK, hA⟩ := C
  intro H locs ls hz hP hS hl
  exact lv_sipush hx hb hd hv (k H locs ls hz hP hS hl)
theorem c_dup (C : cC p s m args c cc own nL D τ h0 A) {x : Nat} (hd : decode cc pc = .ok (.dup, 1)) (k : cJ p l e R s m args below meth c D h0 A nL Q (pc + 1) L (.ref x :: .ref x :: st) es nc ns) : cJ p l e R s m args below meth c D h0 A nL Q pc L (.ref x :: st) es nc ns := by
  obtain ⟨hx, hb, hml, hown, hw, hK, hA⟩ := C
  intro H locs ls hz hP hS hl
  exact lv_dup hx hb hd rfl (k H locs ls hz hP hS hl)
theorem c_obj (C : cC p s m args c cc own nL D τ h0 A) {idx x : Nat} (hl1 : Cond.methodLink own idx objectInit ∈ WG) (hi : Cond.instanceMethod objectInit ∈ WG) (hcd : Cond.code objectInit ⟨#[0xb1]⟩ 1 none ∈ WG) (hd : decode cc pc = .ok (.invokespecial idx, 3)) (hR : 1 ≤ R.frames ∧ 12 ≤ R.locals) (k : cJ p l e R s m args below meth c D h0 A nL Q (pc + 3) L [] es nc ns) : cJ p l e R s m args below meth c D h0 A nL Q pc L [.ref x] es nc ns := by
  obtain ⟨hx, hb, hml, hown, hw, hK, hA⟩ := C
  intro H locs ls hz hP hS hl
  refine W.objInit hx hb hown (hw _ hl1) (hw _ hi) (hw _ hcd) rfl (by rw [hml]; exact hl.1) rfl hd hR.1 (by simpa [JFrame.monitorRoom, F0] using hR.2) ?_
  exact W.eq (g2 := F0 m (pc + 3) ls []) rfl (k H locs ls hz hP hS hl)
theorem c_newa (C : cC p s m args c cc own nL D τ h0 A) {n : Int32} {atype : ArrayType} {ty : FieldType} {t N k : Nat} (hd : decode cc pc = .ok (.newarray atype, 2)) (hty : newarray.typeOf atype = ty) (hwa : Cond.arrayClass ty ∈ WG) (ht : (kty τ)[t]? = some (τ t, ty)) (hdv : defaultValue ty = .int 0) (hra : ∀ (U : State) (cA : ClassId), va_RA U cA ty → U.vm.findClass ("[" ++ ty.toString) = some cA) (hn : ¬ n < 0) (hN : n.toNatClampNeg = N) (hbt : N * componentBytes ty ≤ 536870912) (hc : nc + 1 ≤ R.cells) (hs : ns + N ≤ R.slots) (hk : (E :: es).length = k)
    (kk : cJ p l e R s m args below meth c D h0 A nL Q (pc + 2) L (.ref (h0 + k) :: st) (E :: (es ++ [.inl (τ t, N, .inl fun _ => 0)])) (nc + 1) (ns + N)) : cJ p l e R s m args below meth c D h0 A nL Q pc L (.int n :: st) (E :: es) nc ns := by
  obtain ⟨hx, hb, hml, hown, hw, hK, hA⟩ := C
  subst hty
  subst hk
  intro H locs ls hz hP hS hl
  refine va_newaK hx hb (hw _ hwa) rfl hd rfl hn hN hbt hc hs hz fun H1 cA e1 z1 o1 hAr hNm => ?_
  have hcA : cA = τ t := Option.some.inj (hNm.symm.trans (hra s _ (hK.2 t _ ht).2))
  subst hcA
  refine kk H1 locs ls (by rw [z1]; simp only [List.length_cons, List.length_append, List.length_nil]; omega) ?_ ⟨Nat.le_trans hS.1 (by omega), fun x h1 h2 => (o1 x (by have := hS.1; omega)).trans (hS.2.1 x h1 h2), hS.2.2⟩ hl
  refine cP_app (es := E :: es) (cP_kept hP (fun q hq => o1 q hq)) (fun j x hx => ?_)
  have hj : j < 1 := (List.getElem?_eq_some_iff.mp hx).1
  obtain rfl : j = 0 := by omega
  cases hx
  show H1[_]? = some (vp_cell _ _)
  rw [vp_cell_i, Nat.add_zero]
  rw [hdv] at e1
  exact e1
theorem c_new (C : cC p s m args c cc own nL D τ h0 A) {idx ci N k : Nat} {Cn : String} {T : u_T} {ty : Nat → FieldType} {fs : List Value} (hin : ∀ w ∈ u_ws Cn T N, w ∈ WG) (hty : ∀ k, k < N → parseFieldDescriptor (T k).2.2.1 = some (ty k)) (hcl : Cond.classLink own idx Cn ∈ WG) (hinst : Cond.instantiable Cn N ∈ WG) (hini : Cond.initialized Cn ∈ WG) (hc : vwCl[ci]? = some (Cn, T, N)) (hfs : ∀ j, j < N → defaultValue (ty j) = vp_V fs j) (hc1 : nc + 1 ≤ R.cells) (hs1 : ns + N ≤ R.slots) (hd : decode cc pc = .ok (.new idx, 3)) (hk : es.length = k)
    (kk : cJ p l e R s m args below meth c D h0 A nL Q (pc + 3) L (.ref (h0 + k) :: st) (es ++ [.inr (ci, fs)]) (nc + 1) (ns + N)) : cJ p l e R s m args below meth c D h0 A nL Q pc L st es nc ns := by
  obtain ⟨hx, hb, hml, hown, hw, hK, hA⟩ := C
  subst hk
  intro H locs ls hz hP hS hl
  have hKn := hK.1 ci _ hc
  refine W.newcK hx hb hown (hw _ hcl) (hw _ hinst) (hw _ hini) rfl hd hc1 hs1 hKn.2.1 hz fun H1 kC hkC e1 z1 o1 => ?_
  refine kk H1 locs ls (by rw [z1]; simp only [List.length_cons, List.length_append, List.length_nil]; omega) (cP_app (cP_kept hP (fun q hq => o1 q hq)) (fun j x hx => ?_)) ⟨Nat.le_trans hS.1 (by omega), fun x h1 h2 => (o1 x (by have := hS.1; omega)).trans (hS.2.1 x h1 h2), hS.2.2⟩ hl
  have hj : j < 1 := (List.getElem?_eq_some_iff.mp hx).1
  obtain rfl : j = 0 := by omega
  cases hx
  exact ⟨_, hc, (u_born ty hw hin hKn hkC e1 hty).to hfs⟩
end CJ

