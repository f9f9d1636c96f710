/-! ===== arrays of arrays: what the tables say of them, and how they are made ===== -/
theorem cov_open {ty : FieldType} {U : State} (h : cov ty U) : ∃ (comp cA : ClassId) (k : Class), U.vm.findClass (FieldType.array ty).toString = some comp ∧ (U.vm.classes.findIdx? fun (x : Class) => match x.kind with | .array component _ => component == comp | _ => false) = some cA ∧ U.vm.classes[cA]? = some k ∧ k.kind = .array comp (.array ty) ∧ U.vm.findClass ("[" ++ (FieldType.array ty).toString) = some cA := by
  unfold cov Cond.before Cond.holds at h
  simp only [Cond.value, beq_iff_eq] at h
  obtain ⟨comp, h1, h⟩ := Option.bind_eq_some_iff.mp h
  obtain ⟨cA, h2, h⟩ := Option.bind_eq_some_iff.mp h
  obtain ⟨k, h3, h4⟩ := Option.map_eq_some_iff.mp h
  obtain ⟨hlt, hp, -⟩ := Array.findIdx?_eq_some_iff_getElem.mp h2
  have hk : U.vm.classes[cA] = k := (Array.getElem?_eq_some_iff.mp h3).2
  rw [hk] at hp
  cases hkd : k.kind with
  | array c0 t0 =>
    rw [hkd] at h4 hp
    simp only [Bool.and_eq_true, decide_eq_true_eq] at h4
    have hp : (c0 == comp) = true := hp
    rw [beq_iff_eq] at hp
    exact ⟨comp, cA, k, h1, h2, h3, by rw [hkd, hp, h4.1], h4.2⟩
  | _ => rw [hkd] at h4; cases h4
theorem cov_moved {ty : FieldType} {u U : State} (hv : u.vm.Alike U.vm) (hc : cov ty u) : cov ty U := by
  obtain ⟨comp, cA, k, h1, h2, h3, h4, h5⟩ := cov_open hc
  obtain ⟨k', h3', hek⟩ := hv.2.2 _ _ h3
  have h4' : k'.kind = .array comp (.array ty) := by rw [hek]; exact h4
  unfold cov Cond.before Cond.holds
  simp only [Cond.value, beq_iff_eq]
  refine Option.bind_eq_some_iff.mpr ⟨comp, by rw [hv.findClass]; exact h1, Option.bind_eq_some_iff.mpr ⟨cA, (hv.findIdx?_eqK _ (fun _ => rfl)).trans h2, Option.map_eq_some_iff.mpr ⟨k', h3', ?_⟩⟩⟩
  rw [h4']
  have h5' : U.vm.findClass ("[" ++ (FieldType.array ty).toString) = some cA := by rw [hv.findClass]; exact h5
  simp [h5']
theorem cov_spec {ty : FieldType} {U : State} (hc : cov ty U) : ∃ (cA : ClassId), U.vm.findClass ("[" ++ (FieldType.array ty).toString) = some cA ∧ ArrOfT U cA (.array ty) := by
  obtain ⟨comp, cA, k, h1, h2, h3, h4, h5⟩ := cov_open hc
  exact ⟨cA, h5, fun n z => ⟨fun k h => (by cases h), k, h3, comp, h4⟩⟩
theorem arrV_congr {cA : ClassId} {n : Nat} {f g : Nat → Value} (h : ∀ i, i < n → f i = g i) : arrV cA n f = arrV cA n g := by
  unfold arrV
  congr 1
  congr 1
  funext j
  exact h j.val j.isLt
/-- the first i rows are there -/
def mrow (T : State) (cA comp : ClassId) (N M : Nat) (dv : Value) : Nat → State
  | 0 => T.pushCell (arrV cA N fun _ => .null)
  | i + 1 => ((mrow T cA comp N M dv i).pushCell (arrV comp M fun _ => dv)).setCell T.heap.size (arrV cA N (fun j => if j < i + 1 then .ref (T.heap.size + 1 + j) else .null))
section MROW
variable {p : Program} {l : Launch} {e : Env} {R : Room} {s : State} {m : MethodId} {args : Array Value} {below : List Frame} {meth : Method} {c : Code} {cc : ByteArray} {own : String} {Q : State → Prop} {pc : Nat} {st : List Value} {nc ns : Nat} {locs : List Loc}
theorem mrow_ok {T : State} {cA comp : ClassId} {N M : Nat} {dv : Value} (X : Stand p l e R s m args below meth c T locs nc ns) : ∀ i, i ≤ N → ∃ locs1 : List Loc, Stand p l e R s m args below meth c (mrow T cA comp N M dv i) locs1 (nc + 1 + i) (ns + N + i * M) ∧ (mrow T cA comp N M dv i).vm = T.vm ∧ (mrow T cA comp N M dv i).heap.size = T.heap.size + 1 + i ∧ (mrow T cA comp N M dv i).slotsUsed = T.slotsUsed + N + i * M ∧ (∀ q, q < T.heap.size → (mrow T cA comp N M dv i).heap[q]? = T.heap[q]?) ∧ (mrow T cA comp N M dv i).heap[T.heap.size]? = some (arrV cA N (fun j => if j < i then .ref (T.heap.size + 1 + j) else .null)) ∧ (∀ j, j < i → (mrow T cA comp N M dv i).heap[T.heap.size + 1 + j]? = some (arrV comp M (fun _ => dv))) ∧ ∀ q ∈ locs1, q ∈ locs ∨ q.base = T.heap.size := by
  intro i
  induction i with
  | zero =>
    intro _
    have h := X.pushed (arrV cA N fun _ => .null)
    rw [arrV_size] at h
    refine ⟨locs, by rw [Nat.zero_mul]; exact h, rfl, by simp [mrow], by show T.slotsUsed + (arrV cA N fun _ => .null).slots.size = _; rw [arrV_size, Nat.zero_mul]; rfl, fun q hq => State.heap_pushCell_of_lt _ _ hq, ?_, fun j hj => absurd hj (Nat.not_lt_zero _), fun q hq => Or.inl hq⟩
    show (T.pushCell _).heap[T.heap.size]? = _
    rw [State.heap_pushCell_size]
    exact congrArg some (arrV_congr (fun j _ => by rw [if_neg (Nat.not_lt_zero j)]))
  | succ i ih =>
    intro hi
    obtain ⟨locs1, Y, hv, hz, hu, ho, he, hin, hl⟩ := ih (by omega)
    have he1 : ((mrow T cA comp N M dv i).pushCell (arrV comp M fun _ => dv)).heap[T.heap.size]? = some (arrV cA N (fun j => if j < i then .ref (T.heap.size + 1 + j) else .null)) := by
      have hlt : T.heap.size < (mrow T cA comp N M dv i).heap.size := by omega
      rw [State.heap_pushCell_of_lt (h := hlt)]
      exact he
    have hst : (arrV cA N (fun j => if j < i then .ref (T.heap.size + 1 + j) else .null)).setSlot i (.ref (T.heap.size + 1 + i)) = arrV cA N (fun j => if j < i + 1 then .ref (T.heap.size + 1 + j) else .null) := by
      rw [arrV_store]
      refine arrV_congr (fun j _ => ?_)
      show (if j = i then Value.ref (T.heap.size + 1 + i) else (if j < i then Value.ref (T.heap.size + 1 + j) else Value.null)) = _
      by_cases q : j = i
      · subst q
        rw [if_pos rfl, if_pos (by omega)]
      · rw [if_neg q]
        by_cases q2 : j < i
        · rw [if_pos q2, if_pos (by omega)]
        · rw [if_neg q2, if_neg (by omega)]
    have Y2 := (Y.pushed (arrV comp M fun _ => dv)).stored he1 i (.ref (T.heap.size + 1 + i))
    rw [hst, arrV_size] at Y2
    refine ⟨locs1 ++ [⟨T.heap.size, i⟩], ?_, hv, ?_, ?_, fun q hq => ?_, ?_, fun j hj => ?_, fun q hq => ?_⟩
    · rw [Nat.succ_mul, ← Nat.add_assoc (ns + N)]
      exact Y2
    · show (((mrow T cA comp N M dv i).pushCell (arrV comp M fun _ => dv)).setCell T.heap.size _).heap.size = _
      simp only [State.setCell, State.pushCell, Array.size_setIfInBounds, Array.size_push, hz]
      omega
    · show (mrow T cA comp N M dv i).slotsUsed + (arrV comp M fun _ => dv).slots.size = _
      rw [hu, arrV_size, Nat.succ_mul]
      omega
    · show (((mrow T cA comp N M dv i).pushCell (arrV comp M fun _ => dv)).setCell T.heap.size _).heap[q]? = _
      have hlt : q < (mrow T cA comp N M dv i).heap.size := by omega
      have hne : T.heap.size ≠ q := by omega
      rw [State.heap_setCell_other hne, State.heap_pushCell_of_lt (h := hlt)]
      exact ho q hq
    · exact State.heap_setCell_self he1
    · show (((mrow T cA comp N M dv i).pushCell (arrV comp M fun _ => dv)).setCell T.heap.size _).heap[T.heap.size + 1 + j]? = _
      have hne : T.heap.size ≠ T.heap.size + 1 + j := by omega
      rw [State.heap_setCell_other hne]
      by_cases q : j = i
      · subst q
        rw [← hz]
        exact State.heap_pushCell_size _ _
      · have hlt : T.heap.size + 1 + j < (mrow T cA comp N M dv i).heap.size := by omega
        rw [State.heap_pushCell_of_lt (h := hlt)]
        exact hin j (by omega)
    · rcases List.mem_append.mp hq with h | h
      · exact hl q h
      · rw [List.mem_singleton] at h
        subst h
        exact Or.inr rfl
theorem ref_fits {t : FieldType} (h : t.isReference = true) (a : Nat) : fits t (.ref a) = true ∧ fits t .null = true := by cases t <;> first | (cases h; done) | exact ⟨rfl, rfl⟩
theorem mk_rows {E : CtlPost} {d : Bool} {acts : List Action} {T : State} {g : JFrame} {cA comp cm : ClassId} {kA kC : Class} {ty : FieldType} {n k : Int32} (X : Stand p l e R s m args below meth c T locs nc ns) (h1 : T.vm.classes[cA]? = some kA) (h2 : kA.kind = .array comp (.array ty)) (h3 : T.vm.classes[comp]? = some kC) (h4 : kC.kind = .array cm ty) (hn : ¬ n < 0) (hk : ¬ k < 0) (hl1 : ¬ n.toNatClampNeg > e.platform.arrayLengthLimit) (hh1 : ¬ n.toNatClampNeg * componentBytes (.array ty) > e.platform.maxHeapBytes) (hl2 : ¬ k.toNatClampNeg > e.platform.arrayLengthLimit) (hh2 : ¬ k.toNatClampNeg * componentBytes ty > e.platform.maxHeapBytes) (hdf : fits ty (defaultValue ty) = true) (hc : T.heap.size + (1 + n.toNatClampNeg) ≤ e.platform.maxCells) (hs : T.slotsUsed + (n.toNatClampNeg + n.toNatClampNeg * k.toNatClampNeg) ≤ e.platform.maxSlots) {P : Addr → Pre}
    (hq : ∀ d' acts', P T.heap.size d' acts' ((mrow T cA comp n.toNatClampNeg k.toNatClampNeg (defaultValue ty) n.toNatClampNeg).setTop g)) : wp (multianewarray.make cA [n, k]) P E e d acts (T.setTop g) := by
  rw [multianewarray.make]
  simp only [wp_bind', W.ite, hn, if_false, wp_pure', W.theClass]
  refine ⟨kA, h1, ?_⟩
  rw [h2]
  simp only [wp_bind']
  refine W.newArray_of (k := kA) (comp := comp) (type := .array ty) h1 h2 hl1 hh1 (by show T.heap.size < _; omega) (by show T.slotsUsed + _ ≤ _; omega) (ref_fits rfl 0).2 (fun acts1 => ?_)
  have hfd : ([k].find? (· < 0)) = none := by simp [hk]
  simp only [hfd]
  rw [ite_self, wp_bind', Std.Legacy.Range.forIn_eq_forIn_range']
  rw [show ([:n.toNatClampNeg] : Std.Legacy.Range).size = n.toNatClampNeg by simp [Std.Legacy.Range.size]]
  generalize hN : n.toNatClampNeg = N at hq hl1 hh1 hc hs ⊢
  generalize hM : k.toNatClampNeg = M at hq hl2 hh2 hs ⊢
  have ok := mrow_ok (cA := cA) (comp := comp) (N := N) (M := M) (dv := defaultValue ty) X
  refine wp_forIn_inv (fun rest s1 => ∃ i, i ≤ N ∧ rest = List.range' i (N - i) ∧ s1 = (mrow T cA comp N M (defaultValue ty) i).setTop g) _ _ ⟨0, Nat.zero_le _, rfl, ?_⟩ ?_ ?_
  · show (T.setTop g).pushCell _ = (T.pushCell _).setTop g
    rw [← arrV_new]
    rfl
  · rintro x rest s1 d1 acts2 P2 ⟨i, hi, hr, rfl⟩ hnext
    obtain ⟨b, hb⟩ : ∃ b, N - i = b + 1 := by
      cases hb : N - i with
      | zero => rw [hb] at hr; cases hr
      | succ b => exact ⟨b, rfl⟩
    rw [hb, List.range'_succ] at hr
    obtain ⟨rfl, hr⟩ := List.cons.inj hr
    obtain ⟨locs1, Y, hv, hz, hu, ho, he, hin, hl⟩ := ok x hi
    have hmul : x * M + M ≤ N * M := by
      have h9 := Nat.mul_le_mul_right M (show x + 1 ≤ N by omega)
      rw [Nat.succ_mul] at h9
      exact h9
    simp only [wp_bind']
    rw [multianewarray.make]
    simp only [wp_bind', W.ite, hk, if_false, wp_pure', W.theClass]
    refine ⟨kC, by show (mrow T cA comp N M (defaultValue ty) x).vm.classes[comp]? = _; rw [hv]; exact h3, ?_⟩
    rw [h4]
    refine W.newArray_of (k := kC) (comp := cm) (type := ty) (by show (mrow T cA comp N M (defaultValue ty) x).vm.classes[comp]? = _; rw [hv]; exact h3) h4 (by rw [hM]; exact hl2) (by rw [hM]; exact hh2) (by show (mrow T cA comp N M (defaultValue ty) x).heap.size < _; omega) (by show (mrow T cA comp N M (defaultValue ty) x).slotsUsed + _ ≤ _; omega) hdf (fun acts3 => ?_)
    simp only [wp_bind', W.writeLoc, wp_pure']
    refine ⟨arrV cA N (fun j => if j < x then .ref (T.heap.size + 1 + j) else .null), ?_, fun h => (by cases h), by rw [arrV_size]; omega, ?_, ?_⟩
    · show ((mrow T cA comp N M (defaultValue ty) x).pushCell _).heap[T.heap.size]? = _
      have hlt : T.heap.size < (mrow T cA comp N M (defaultValue ty) x).heap.size := by omega
      rw [State.heap_pushCell_of_lt (h := hlt)]
      exact he
    · have hcl : (mrow T cA comp N M (defaultValue ty) x).vm.classes[cA]? = some kA := by rw [hv]; exact h1
      have hcl2 : T.vm.classes[cA]? = some kA := h1
      simp [State.fitsSlot, State.slotType?, arrV, hv, hcl2, h2, (ref_fits (t := .array ty) rfl _).1]
    · refine hnext _ _ _ ⟨x + 1, by omega, by rw [hr]; congr 1; omega, ?_⟩
      have hst : (arrV cA N (fun j => if j < x then Value.ref (T.heap.size + 1 + j) else .null)).setSlot x (.ref (mrow T cA comp N M (defaultValue ty) x).heap.size) = arrV cA N (fun j => if j < x + 1 then .ref (T.heap.size + 1 + j) else .null) := by
        rw [arrV_store, hz]
        refine arrV_congr (fun j _ => ?_)
        show (if j = x then Value.ref (T.heap.size + 1 + x) else (if j < x then Value.ref (T.heap.size + 1 + j) else Value.null)) = _
        by_cases q : j = x
        · subst q
          rw [if_pos rfl, if_pos (by omega)]
        · rw [if_neg q]
          by_cases q2 : j < x
          · rw [if_pos q2, if_pos (by omega)]
          · rw [if_neg q2, if_neg (by omega)]
      show (((mrow T cA comp N M (defaultValue ty) x).pushCell _).setCell T.heap.size _).setTop g = (((mrow T cA comp N M (defaultValue ty) x).pushCell _).setCell T.heap.size _).setTop g
      rw [← arrV_new comp M, ← hst, hM]
      rfl
  · rintro s1 d1 acts2 ⟨i, hi, hr, rfl⟩
    have hiN : i = N := by
      rcases Nat.lt_or_ge i N with h | h
      · rw [show N - i = (N - (i + 1)) + 1 by omega, List.range'_succ] at hr
        cases hr
      · omega
    subst hiN
    simp only [wp_pure']
    exact hq _ _
theorem w_multi {H : Heap} {ls : Array Slot} (hexec : p.tables.exec = Jvm.exec) (hb : c.code = cc) {idx : Nat} {ty : FieldType} (hown : s.vm.findClass own = some m.cls) (hcl : (Cond.classLink own idx ("[" ++ (FieldType.array ty).toString)).before args s = true) (hov : cov ty s) (harr : (Cond.arrayClass ty).before args s = true) (hdg : decode cc pc = .ok (.multianewarray idx 2, 4)) {n k : Int32} {N M h : Nat} (hn : ¬ n < 0) (hk : ¬ k < 0) (hN : n.toNatClampNeg = N) (hM : k.toNatClampNeg = M) (hb1 : N * 4 ≤ 536870912) (hb2 : M * componentBytes ty ≤ 536870912) (hb3 : M ≤ 536870912) (hdf : fits ty (defaultValue ty) = true) (hc : nc + (1 + N) ≤ R.cells) (hs : ns + (N + N * M) ≤ R.slots) (hh : H.size = h)
    (kk : ∀ (H1 : Heap) (locs1 : List Loc) (cA comp : ClassId), (∀ q ∈ locs1, q ∈ locs ∨ q.base = h) → s.vm.findClass ("[" ++ (FieldType.array ty).toString) = some cA → s.vm.findClass (FieldType.array ty).toString = some comp → H1.size = h + 1 + N → (∀ q, q < h → H1[q]? = H[q]?) → H1[h]? = some (arrV cA N (fun j => .ref (h + 1 + j))) → (∀ j, j < N → H1[h + 1 + j]? = some (arrV comp M (fun _ => defaultValue ty))) → W p l e R s m args below meth c H1 locs1 (nc + 1 + N) (ns + N + N * M) Q (F0 m (pc + 4) ls (.ref h :: st))) : W p l e R s m args below meth c H locs nc ns Q (F0 m pc ls (.int k :: .int n :: st)) := by
  intro T hT X
  subst hb
  subst hT
  subst hN
  subst hM
  subst hh
  obtain ⟨comp, cA, kA, q1, q2, q3, q4, q5⟩ := cov_open hov
  obtain ⟨comp1, kC, cm, q6, q7, q8⟩ := Cond.arrayClass_spec harr
  obtain rfl : comp1 = comp := Option.some.inj (q6.symm.trans q1)
  obtain ⟨c0, r1, r2⟩ := Cond.classLink_spec hown hcl e.platform (by rw [X.admits.platform])
  obtain rfl : c0 = cA := Option.some.inj (r1.symm.trans q5)
  obtain ⟨g1, w1, -⟩ := State.classEntry (e := e) X.warmed r2
  generalize hvm : T.vm.noted m.cls idx (.cls c0) = vm1 at g1 w1
  obtain ⟨kA1, a1, a2⟩ := w1.alike.2.2 _ _ q3
  obtain ⟨kC1, a3, a4⟩ := w1.alike.2.2 _ _ q7
  have X1 := X.noted w1
  obtain ⟨m1, m2⟩ := X.roomAbove hc hs
  obtain ⟨locs1, Y, hv, hz, hu, ho, he, hin, hl⟩ := mrow_ok (cA := c0) (comp := comp1) (N := n.toNatClampNeg) (M := k.toNatClampNeg) (dv := defaultValue ty) X1 n.toNatClampNeg (Nat.le_refl _)
  obtain ⟨t, b1, b2⟩ := kk _ locs1 c0 comp1 hl r1 q1 hz ho (he.trans (congrArg some (arrV_congr (fun j hj => by rw [if_pos hj]; rfl)))) hin _ rfl Y
  refine ⟨t, ?_, b2⟩
  jvm_step X.here [hexec, hdg]
  simp only [multianewarray.sem, wp_bind', W.resolveClassAt_links (State.method?_setTop (F0 m pc ls (.int k :: .int n :: st)) X.here.top) g1]
  rw [W.popN, if_neg (by decide)]
  refine ⟨F0 m pc ls (.int k :: .int n :: st), State.topJava?_setTop' (s := T.setVm vm1) _ X.here.top, [.int n, .int k], st, rfl, rfl, ?_⟩
  simp only [List.mapM_cons, List.mapM_nil, wp_bind', wp_pure']
  show wp _ _ _ _ _ _ (((T.setVm vm1).setTop (F0 m pc ls (.int k :: .int n :: st))).setTop (F0 m pc ls st))
  rw [State.setTop_setTop]
  refine mk_rows (T := T.setVm vm1) (g := F0 m pc ls st) X1 a1 (by rw [a2]; exact q4) a3 (by rw [a4]; exact q8) hn hk (by rw [Launch.admits_arrayLengthLimit X.admits]; omega) (by rw [Launch.admits_maxHeapBytes X.admits]; show ¬ n.toNatClampNeg * 4 > 536870912; omega) (by rw [Launch.admits_arrayLengthLimit X.admits]; omega) (by rw [Launch.admits_maxHeapBytes X.admits]; omega) hdf m1 m2 (fun d1 acts1 => ?_)
  simp only [wp_bind', W.mark, W.pushRef, State.topJava?_setTop' _ Y.here.top, Option.some.injEq, exists_eq_left', State.setTop_setTop, State.heap_setTop]
  intro acts
  simp [jvm, Y.here.top]
  exact b1
end MROW

