/-! ===== the law's start ===== -/
theorem Rl_zero : Rl kZ kZ := by
  have z : ∀ a b : Nat, (kZ.1 a b).toInt = 0 := fun _ _ => by show (0 : Int32).toInt = 0; decide
  have hz : dL dr0 = 0 := cntF_zero 26 (fun i _ => by show ¬ (0 : Int) < 0; omega)
  have hsp : spL kZ = spL kZ := rfl
  unfold Rl rTx rCd rHd rLn rTp rPs rCl kTxOk mTxOk kSzOk kSpOk mHdOk kLnOk mLnOk kTpOk mTpOk kPsOk mPsOk kClOk mClOk
  simp only [z]
  refine ⟨⟨⟨by decide, fun _ => by decide⟩, ⟨by decide, fun _ => by decide⟩, rfl, fun _ => by decide⟩, ⟨fun _ => by decide, dr0, dr0_ok, ⟨fun l hl => ⟨by rw [z]; rfl, by rw [z]; show (0 : Int) = ((dnF 5 0 : Nat) : Int); rw [dnF_zero (by decide)]; rfl, fun j hj => by rw [show dM dr0 l = 0 from rfl, dnF_zero (by decide)] at hj; omega⟩, by rw [z, hz]; rfl, by rw [z]; rfl, fun w hw => absurd hw (Nat.not_lt_zero _)⟩, ⟨fun l hl => by rw [z]; rfl, by rw [z, hz]; rfl, by rw [z]; rfl, fun w hw => absurd hw (Nat.not_lt_zero _)⟩⟩, ⟨fun _ => Or.inl trivial, ⟨by decide, fun _ => by decide⟩, rfl, fun _ => by decide⟩, ⟨⟨by decide, by decide, fun _ => by decide⟩, ⟨by decide, by decide, fun _ => by decide⟩, rfl, rfl, fun _ => ⟨rfl, rfl, rfl, rfl⟩⟩, ⟨⟨by decide, fun _ => by decide⟩, ⟨by decide, fun _ => by decide⟩, rfl, fun _ _ => rfl⟩, ⟨⟨by decide, fun m hm => by omega⟩, ⟨by decide, fun m hm => by omega⟩, rfl, fun _ => ⟨rfl, rfl, rfl, rfl, rfl⟩⟩, ⟨by decide, by decide, fun _ => by decide⟩, ⟨by decide, by decide, fun _ => by decide⟩, rfl, rfl, fun _ => ⟨rfl, rfl, rfl, rfl, rfl, rfl, rfl⟩⟩
theorem tq1 {w : Cond} (j : Nat) (h : tables_1_1[j]? = some w) : w ∈ lw_tbl := tb_in (List.mem_append_left _ (List.mem_of_getElem? h))
theorem tq2 {w : Cond} (j : Nat) (h : tables_1_2[j]? = some w) : w ∈ lw_tbl := tb_in (List.mem_append_right _ (List.mem_append_left _ (List.mem_of_getElem? h)))
theorem tq3 {w : Cond} (j : Nat) (h : tables_1_3[j]? = some w) : w ∈ lw_tbl := tb_in (List.mem_append_right _ (List.mem_append_right _ (List.mem_append_left _ (List.mem_of_getElem? h))))
theorem tq4 {w : Cond} (j : Nat) (h : tables_1_4[j]? = some w) : w ∈ lw_tbl := tb_in (List.mem_append_right _ (List.mem_append_right _ (List.mem_append_right _ (List.mem_append_left _ (List.mem_of_getElem? h)))))
theorem tq5 {w : Cond} (j : Nat) (h : tables_1_5[j]? = some w) : w ∈ lw_tbl := tb_in (List.mem_append_right _ (List.mem_append_right _ (List.mem_append_right _ (List.mem_append_right _ (List.mem_append_left _ (List.mem_of_getElem? h))))))
theorem lw_cls {s : State} {args : Array Value} (hw : ∀ w ∈ WG, w.before args s = true) : ∃ D : va_G, ∀ (k : Nat) (q : vw_C), vwCl[k]? = some q → u_Kn s q.1 q.2.1 q.2.2 (D.1 k) (D.2 k) := by
  have hall : ∀ k : Nat, ∃ ci : ClassId × (Nat → Nat), ∀ q, vwCl[k]? = some q → u_Kn s q.1 q.2.1 q.2.2 ci.1 ci.2 := fun k => match k with
    | 0 => by
      obtain ⟨c, i, h⟩ := u_known (C := RX0) (T := TX0) (N := 10) (n := 10) hw uw_X0 (hw _ (tb2 30 rfl rfl))
      exact ⟨(c, i), fun q hq => by cases hq; exact h⟩
    | 1 => by
      obtain ⟨c, i, h⟩ := u_known (C := RX1) (T := TX1) (N := 6) (n := 6) hw uw_X1 (hw _ (tb1 43 rfl rfl))
      exact ⟨(c, i), fun q hq => by cases hq; exact h⟩
    | 2 => by
      obtain ⟨c, i, h⟩ := u_known (C := RX2) (T := TX2) (N := 7) (n := 7) hw uw_X2 (hw _ (tb1 68 rfl rfl))
      exact ⟨(c, i), fun q hq => by cases hq; exact h⟩
    | 3 => by
      obtain ⟨c, i, h⟩ := u_known (C := RX3) (T := TX3) (N := 2) (n := 2) hw uw_X3 (hw _ (tb1 96 rfl rfl))
      exact ⟨(c, i), fun q hq => by cases hq; exact h⟩
    | 4 => by
      obtain ⟨c, i, h⟩ := u_known (C := RX4) (T := TX4) (N := 9) (n := 9) hw uw_X4 (hw _ (tb1 109 rfl rfl))
      exact ⟨(c, i), fun q hq => by cases hq; exact h⟩
    | 5 => by
      obtain ⟨c, i, h⟩ := u_known (C := RX5) (T := TX5) (N := 13) (n := 13) hw uw_X5 (hw _ (tb1 224 rfl rfl))
      exact ⟨(c, i), fun q hq => by cases hq; exact h⟩
    | 6 => by
      obtain ⟨c, i, h⟩ := u_known (C := RX6) (T := TX6) (N := 1) (n := 1) hw uw_X6 (hw _ (tb2 69 rfl rfl))
      exact ⟨(c, i), fun q hq => by cases hq; exact h⟩
    | 7 => by
      obtain ⟨c, i, h⟩ := u_known (C := RX7) (T := TX7) (N := 13) (n := 13) hw uw_X7 (hw _ (tb1 156 rfl rfl))
      exact ⟨(c, i), fun q hq => by cases hq; exact h⟩
    | 8 => by
      obtain ⟨c, i, h⟩ := u_known (C := RX8) (T := TX8) (N := 5) (n := 5) hw uw_X8 (hw _ (tb1 202 rfl rfl))
      exact ⟨(c, i), fun q hq => by cases hq; exact h⟩
    | 9 => by
      obtain ⟨c, i, h⟩ := u_known (C := RX9) (T := TX9) (N := 2) (n := 2) hw uw_X9 (hw _ (tb1 143 rfl rfl))
      exact ⟨(c, i), fun q hq => by cases hq; exact h⟩
    | 10 => by
      obtain ⟨c, i, h⟩ := u_known (C := RX10) (T := TX10) (N := 2) (n := 2) hw uw_X10 (hw _ (tb1 29 rfl rfl))
      exact ⟨(c, i), fun q hq => by cases hq; exact h⟩
    | 11 => by
      obtain ⟨c, i, h⟩ := u_known (C := RX11) (T := TX11) (N := 13) (n := 13) hw uw_X11 (hw _ (tb1 21 rfl rfl))
      exact ⟨(c, i), fun q hq => by cases hq; exact h⟩
    | 12 => by
      obtain ⟨c, i, h⟩ := u_known (C := RX12) (T := TX12) (N := 56) (n := 56) hw uw_X12 (hw _ (tb5 93 rfl rfl))
      exact ⟨(c, i), fun q hq => by cases hq; exact h⟩
    | k + 13 => ⟨(0, fun _ => 0), fun q hq => by simp at hq⟩
  obtain ⟨f, hf⟩ := Classical.axiomOfChoice hall
  exact ⟨(fun k => (f k).1, fun k => (f k).2), fun k q hq => hf k q hq⟩
theorem lw_arr {s : State} {args : Array Value} {ty : FieldType} (h : (Cond.arrayClass ty).before args s = true) : ∃ cA : ClassId, s.vm.findClass ("[" ++ ty.toString) = some cA ∧ ArrOfT s cA ty := by
  obtain ⟨cA, kA, cc, h1, h2, h3⟩ := Cond.arrayClass_spec h
  exact ⟨cA, h1, fun n z => ⟨fun k h => (by cases h), kA, h2, cc, h3⟩⟩
theorem lw_K {s : State} {args : Array Value} (hw : ∀ w ∈ WG, w.before args s = true) (h3 : cov .int s) (h4 : cov .long s) (h5 : va_AO "java/lang/String" s) : ∃ (D : va_G) (τ : Nat → ClassId), va_K D vwCl (kty τ) s := by
  obtain ⟨D, hD⟩ := lw_cls hw
  obtain ⟨c0, a0, b0⟩ := lw_arr (hw _ (tb1 41 rfl rfl))
  obtain ⟨c1, a1, b1⟩ := lw_arr (hw _ (tb3 47 rfl rfl))
  obtain ⟨c2, a2, b2⟩ := lw_arr (hw _ (tb6 35 rfl rfl))
  obtain ⟨c3, a3, b3⟩ := cov_spec h3
  obtain ⟨c4, a4, b4⟩ := cov_spec h4
  obtain ⟨comp, c5, k, q1, q2, q3, q4, q5⟩ := Cond.arrayOver_spec h5
  refine ⟨D, fun i => match i with | 0 => c0 | 1 => c1 | 2 => c2 | 3 => c3 | 4 => c4 | _ => c5, hD, fun i q hq => ?_⟩
  match i, hq with
  | 0, hq => cases hq; exact ⟨b0, a0⟩
  | 1, hq => cases hq; exact ⟨b1, a1⟩
  | 2, hq => cases hq; exact ⟨b2, a2⟩
  | 3, hq => cases hq; exact ⟨b3, a3⟩
  | 4, hq => cases hq; exact ⟨b4, a4⟩
  | 5, hq => cases hq; exact ⟨fun n z => ⟨fun k h => (by cases h), k, q3, comp, q4⟩, k, comp, q3, q4, q1, q5⟩
  | i + 6, hq => simp at hq
theorem eq_refs {args : Array Value} {s : State} {t u : Term} {a : Nat} (ht : t.eval args s none [] s = some (.ref a)) (h : (Cond.eq t u).before args s = true) : u.eval args s none [] s = some (.ref a) := by
  cases hu : u.eval args s none [] s with
  | none => simp [Cond.before, Cond.holds, Cond.value, ht, hu] at h
  | some v =>
    simp only [Cond.before, Cond.holds, Cond.value, ht, hu, beq_iff_eq] at h
    cases v with
    | ref x =>
      have h : some (decide (a = x)) = some true := h
      have h := of_decide_eq_true (Option.some.inj h)
      rw [h]
    | _ => cases h


