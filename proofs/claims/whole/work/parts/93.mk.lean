/-! ===== the makers of the class ===== -/
def adL (h : Nat) (x : Nat → Nat) : Nat → Nat := fun i => if i < 1000 then h + i else x i
theorem adL_in (h : Nat) (x : Nat → Nat) (n i : Nat) (hi : n + i < 1000) : some (adL h x (n + i)) = some (h + n + i) := by
  unfold adL
  rw [if_pos hi, Nat.add_assoc]
def kZ : kMem := (fun _ _ => 0, fun _ _ => 0)
theorem ff_X10_11 : kFf RX10 11 10 0 (.array .int) := ⟨RX10, TX10, 2, tyX10, rfl, by decide, uw_X10, tb1 34 rfl rfl, tyX10_ok, nmX10, rfl, rfl, rfl⟩
theorem ff_X1_9 : kFf RX1 9 1 0 (.array .int) := ⟨RX1, TX1, 6, tyX1, rfl, by decide, uw_X1, tb1 48 rfl rfl, tyX1_ok, nmX1, rfl, rfl, rfl⟩
theorem ff_X1_15 : kFf RX1 15 1 1 (.array .int) := ⟨RX1, TX1, 6, tyX1, rfl, by decide, uw_X1, tb1 49 rfl rfl, tyX1_ok, nmX1, rfl, rfl, rfl⟩
theorem ff_X1_18 : kFf RX1 18 1 2 (.array .int) := ⟨RX1, TX1, 6, tyX1, rfl, by decide, uw_X1, tb1 50 rfl rfl, tyX1_ok, nmX1, rfl, rfl, rfl⟩
theorem ff_X1_21 : kFf RX1 21 1 3 (.array .int) := ⟨RX1, TX1, 6, tyX1, rfl, by decide, uw_X1, tb1 51 rfl rfl, tyX1_ok, nmX1, rfl, rfl, rfl⟩
theorem ff_X2_11 : kFf RX2 11 2 2 (.array .int) := ⟨RX2, TX2, 7, tyX2, rfl, by decide, uw_X2, tb1 75 rfl rfl, tyX2_ok, nmX2, rfl, rfl, rfl⟩
theorem ff_X2_17 : kFf RX2 17 2 3 (.array .int) := ⟨RX2, TX2, 7, tyX2, rfl, by decide, uw_X2, tb1 76 rfl rfl, tyX2_ok, nmX2, rfl, rfl, rfl⟩
theorem ff_X2_20 : kFf RX2 20 2 0 (.object "KeyFists$Text") := ⟨RX2, TX2, 7, tyX2, rfl, by decide, uw_X2, tb1 73 rfl rfl, tyX2_ok, nmX2, rfl, rfl, rfl⟩
theorem ff_X2_24 : kFf RX2 24 2 1 (.object "KeyFists$Code") := ⟨RX2, TX2, 7, tyX2, rfl, by decide, uw_X2, tb1 74 rfl rfl, tyX2_ok, nmX2, rfl, rfl, rfl⟩
theorem ff_X3_11 : kFf RX3 11 3 0 (.array .int) := ⟨RX3, TX3, 2, tyX3, rfl, by decide, uw_X3, tb1 101 rfl rfl, tyX3_ok, nmX3, rfl, rfl, rfl⟩
theorem ff_X4_11 : kFf RX4 11 4 0 (.array .int) := ⟨RX4, TX4, 9, tyX4, rfl, by decide, uw_X4, tb1 114 rfl rfl, tyX4_ok, nmX4, rfl, rfl, rfl⟩
theorem ff_X4_15 : kFf RX4 15 4 1 (.array .int) := ⟨RX4, TX4, 9, tyX4, rfl, by decide, uw_X4, tb1 115 rfl rfl, tyX4_ok, nmX4, rfl, rfl, rfl⟩
theorem ff_X4_18 : kFf RX4 18 4 2 (.array .int) := ⟨RX4, TX4, 9, tyX4, rfl, by decide, uw_X4, tb1 116 rfl rfl, tyX4_ok, nmX4, rfl, rfl, rfl⟩
theorem ff_X4_21 : kFf RX4 21 4 3 (.array .int) := ⟨RX4, TX4, 9, tyX4, rfl, by decide, uw_X4, tb1 117 rfl rfl, tyX4_ok, nmX4, rfl, rfl, rfl⟩
theorem ff_X4_24 : kFf RX4 24 4 4 (.array .int) := ⟨RX4, TX4, 9, tyX4, rfl, by decide, uw_X4, tb1 118 rfl rfl, tyX4_ok, nmX4, rfl, rfl, rfl⟩
theorem ff_X4_27 : kFf RX4 27 4 5 (.array .int) := ⟨RX4, TX4, 9, tyX4, rfl, by decide, uw_X4, tb1 119 rfl rfl, tyX4_ok, nmX4, rfl, rfl, rfl⟩
theorem ff_X9_11 : kFf RX9 11 9 0 (.array .int) := ⟨RX9, TX9, 2, tyX9, rfl, by decide, uw_X9, tb1 148 rfl rfl, tyX9_ok, nmX9, rfl, rfl, rfl⟩
theorem ff_X7_11 : kFf RX7 11 7 4 (.array .int) := ⟨RX7, TX7, 13, tyX7, rfl, by decide, uw_X7, tb1 165 rfl rfl, tyX7_ok, nmX7, rfl, rfl, rfl⟩
theorem ff_X7_17 : kFf RX7 17 7 5 (.array .int) := ⟨RX7, TX7, 13, tyX7, rfl, by decide, uw_X7, tb1 166 rfl rfl, tyX7_ok, nmX7, rfl, rfl, rfl⟩
theorem ff_X7_20 : kFf RX7 20 7 8 (.array .int) := ⟨RX7, TX7, 13, tyX7, rfl, by decide, uw_X7, tb1 169 rfl rfl, tyX7_ok, nmX7, rfl, rfl, rfl⟩
theorem ff_X7_23 : kFf RX7 23 7 9 (.array .int) := ⟨RX7, TX7, 13, tyX7, rfl, by decide, uw_X7, tb1 170 rfl rfl, tyX7_ok, nmX7, rfl, rfl, rfl⟩
theorem ff_X7_26 : kFf RX7 26 7 10 (.array .int) := ⟨RX7, TX7, 13, tyX7, rfl, by decide, uw_X7, tb1 171 rfl rfl, tyX7_ok, nmX7, rfl, rfl, rfl⟩
theorem ff_X7_29 : kFf RX7 29 7 11 (.array .int) := ⟨RX7, TX7, 13, tyX7, rfl, by decide, uw_X7, tb1 172 rfl rfl, tyX7_ok, nmX7, rfl, rfl, rfl⟩
theorem ff_X7_32 : kFf RX7 32 7 0 (.object "KeyFists$Code") := ⟨RX7, TX7, 13, tyX7, rfl, by decide, uw_X7, tb1 161 rfl rfl, tyX7_ok, nmX7, rfl, rfl, rfl⟩
theorem ff_X7_36 : kFf RX7 36 7 1 (.object "KeyFists$Tape") := ⟨RX7, TX7, 13, tyX7, rfl, by decide, uw_X7, tb1 162 rfl rfl, tyX7_ok, nmX7, rfl, rfl, rfl⟩
theorem ff_X7_40 : kFf RX7 40 7 2 (.object "KeyFists$Hands") := ⟨RX7, TX7, 13, tyX7, rfl, by decide, uw_X7, tb1 163 rfl rfl, tyX7_ok, nmX7, rfl, rfl, rfl⟩
theorem ff_X7_44 : kFf RX7 44 7 3 (.object "KeyFists$Lines") := ⟨RX7, TX7, 13, tyX7, rfl, by decide, uw_X7, tb1 164 rfl rfl, tyX7_ok, nmX7, rfl, rfl, rfl⟩
theorem ff_X8_11 : kFf RX8 11 8 2 (.array .int) := ⟨RX8, TX8, 5, tyX8, rfl, by decide, uw_X8, tb1 209 rfl rfl, tyX8_ok, nmX8, rfl, rfl, rfl⟩
theorem ff_X8_17 : kFf RX8 17 8 3 (.array .int) := ⟨RX8, TX8, 5, tyX8, rfl, by decide, uw_X8, tb1 210 rfl rfl, tyX8_ok, nmX8, rfl, rfl, rfl⟩
theorem ff_X8_20 : kFf RX8 20 8 0 (.object "KeyFists$Text") := ⟨RX8, TX8, 5, tyX8, rfl, by decide, uw_X8, tb1 207 rfl rfl, tyX8_ok, nmX8, rfl, rfl, rfl⟩
theorem ff_X8_24 : kFf RX8 24 8 1 (.object "KeyFists$Code") := ⟨RX8, TX8, 5, tyX8, rfl, by decide, uw_X8, tb1 208 rfl rfl, tyX8_ok, nmX8, rfl, rfl, rfl⟩
theorem ff_X5_13 : kFf RX5 13 5 1 (.array .int) := ⟨RX5, TX5, 13, tyX5, rfl, by decide, uw_X5, tb1 230 rfl rfl, tyX5_ok, nmX5, rfl, rfl, rfl⟩
theorem ff_X5_17 : kFf RX5 17 5 2 (.array .int) := ⟨RX5, TX5, 13, tyX5, rfl, by decide, uw_X5, tb1 231 rfl rfl, tyX5_ok, nmX5, rfl, rfl, rfl⟩
theorem ff_X5_20 : kFf RX5 20 5 3 (.array .int) := ⟨RX5, TX5, 13, tyX5, rfl, by decide, uw_X5, tb1 232 rfl rfl, tyX5_ok, nmX5, rfl, rfl, rfl⟩
theorem ff_X5_23 : kFf RX5 23 5 4 (.array .int) := ⟨RX5, TX5, 13, tyX5, rfl, by decide, uw_X5, tb1 233 rfl rfl, tyX5_ok, nmX5, rfl, rfl, rfl⟩
theorem ff_X5_26 : kFf RX5 26 5 5 (.array .int) := ⟨RX5, TX5, 13, tyX5, rfl, by decide, uw_X5, tb1 234 rfl rfl, tyX5_ok, nmX5, rfl, rfl, rfl⟩
theorem ff_X5_29 : kFf RX5 29 5 7 (.array .int) := ⟨RX5, TX5, 13, tyX5, rfl, by decide, uw_X5, tb1 236 rfl rfl, tyX5_ok, nmX5, rfl, rfl, rfl⟩
theorem ff_X5_32 : kFf RX5 32 5 8 (.array .int) := ⟨RX5, TX5, 13, tyX5, rfl, by decide, uw_X5, tb1 237 rfl rfl, tyX5_ok, nmX5, rfl, rfl, rfl⟩
theorem ff_X5_35 : kFf RX5 35 5 9 (.array .int) := ⟨RX5, TX5, 13, tyX5, rfl, by decide, uw_X5, tb1 238 rfl rfl, tyX5_ok, nmX5, rfl, rfl, rfl⟩
theorem ff_X5_38 : kFf RX5 38 5 10 (.array .int) := ⟨RX5, TX5, 13, tyX5, rfl, by decide, uw_X5, tb1 239 rfl rfl, tyX5_ok, nmX5, rfl, rfl, rfl⟩
theorem ff_X5_41 : kFf RX5 41 5 11 (.array .int) := ⟨RX5, TX5, 13, tyX5, rfl, by decide, uw_X5, tb2 0 rfl rfl, tyX5_ok, nmX5, rfl, rfl, rfl⟩
theorem ff_X5_44 : kFf RX5 44 5 12 (.array .int) := ⟨RX5, TX5, 13, tyX5, rfl, by decide, uw_X5, tb2 1 rfl rfl, tyX5_ok, nmX5, rfl, rfl, rfl⟩
theorem ff_X5_47 : kFf RX5 47 5 0 (.object "KeyFists$Lines") := ⟨RX5, TX5, 13, tyX5, rfl, by decide, uw_X5, tb1 229 rfl rfl, tyX5_ok, nmX5, rfl, rfl, rfl⟩
theorem ff_X6_11 : kFf RX6 11 6 0 (.array .int) := ⟨RX6, TX6, 1, tyX6, rfl, by decide, uw_X6, tb2 74 rfl rfl, tyX6_ok, nmX6, rfl, rfl, rfl⟩
theorem ff_X0_9 : kFf RX0 9 0 0 (.array .int) := ⟨RX0, TX0, 10, tyX0, rfl, by decide, uw_X0, tb2 37 rfl rfl, tyX0_ok, nmX0, rfl, rfl, rfl⟩
theorem ff_X0_15 : kFf RX0 15 0 1 (.array .int) := ⟨RX0, TX0, 10, tyX0, rfl, by decide, uw_X0, tb2 38 rfl rfl, tyX0_ok, nmX0, rfl, rfl, rfl⟩
theorem ff_X0_18 : kFf RX0 18 0 2 (.array .int) := ⟨RX0, TX0, 10, tyX0, rfl, by decide, uw_X0, tb2 39 rfl rfl, tyX0_ok, nmX0, rfl, rfl, rfl⟩
theorem ff_X0_21 : kFf RX0 21 0 3 (.array .int) := ⟨RX0, TX0, 10, tyX0, rfl, by decide, uw_X0, tb2 40 rfl rfl, tyX0_ok, nmX0, rfl, rfl, rfl⟩
theorem ff_X0_24 : kFf RX0 24 0 5 (.array .int) := ⟨RX0, TX0, 10, tyX0, rfl, by decide, uw_X0, tb2 42 rfl rfl, tyX0_ok, nmX0, rfl, rfl, rfl⟩
theorem ff_X0_27 : kFf RX0 27 0 6 (.array .int) := ⟨RX0, TX0, 10, tyX0, rfl, by decide, uw_X0, tb2 43 rfl rfl, tyX0_ok, nmX0, rfl, rfl, rfl⟩
theorem ff_X0_30 : kFf RX0 30 0 7 (.array .int) := ⟨RX0, TX0, 10, tyX0, rfl, by decide, uw_X0, tb2 44 rfl rfl, tyX0_ok, nmX0, rfl, rfl, rfl⟩
theorem ff_X0_35 : kFf RX0 35 0 9 (.array (.array .int)) := ⟨RX0, TX0, 10, tyX0, rfl, by decide, uw_X0, tb2 46 rfl rfl, tyX0_ok, nmX0, rfl, rfl, rfl⟩
abbrev rmi_X10 : Room := { frames := 1, cells := 1, slots := 500, locals := 12 }
theorem wi_X10 : kYi yX10_init cX10_init 1 0 := ⟨(tb1 31 rfl rfl), (tb1 2 rfl rfl), (tb1 32 rfl rfl), rfl, by decide, by decide, by decide +kernel⟩
abbrev eX10 (τ : Nat → ClassId) (h0 : Nat) : List va_E := [.inr (10, [.ref (h0 + 1), .int 0]), .inl (τ 0, 500, .inl fun _ => 0)]
set_option maxRecDepth 100000 in
theorem mk_X10 {τ : Nat → ClassId} {h0 : Nat} : cOk yX10_init cX10_init 1 rmi_X10 (fun _ => True) τ h0 (.inr (10, [.null, .int 0])) [] (eX10 τ h0) := by
  refine cOk.of (by decide) rfl (Nat.le_of_ble_eq_true rfl) ?_
  intro p l e s m args below meth c D C hin hX hs0 hr hlk
  refine c_al C dX10_init_0 (i := 0) (x := h0) rfl (by simp [lv_args, Value.category]) ?_
  refine c_obj C (tb1 33 rfl rfl) (tb1 26 rfl rfl) (tb1 27 rfl rfl) dX10_init_1 ⟨(Nat.le_of_ble_eq_true rfl), (Nat.le_of_ble_eq_true rfl)⟩ ?_
  refine c_al C dX10_init_4 (i := 0) (x := h0) rfl (by simp [lv_args, Value.category]) ?_
  refine c_sipush C dX10_init_5 (by decide) ?_
  refine c_newa C dX10_init_8 rfl (tb1 41 rfl rfl) (t := 0) rfl rfl (fun _ _ h => h) (by decide) (N := 500) (by decide) (by decide) (Nat.le_of_ble_eq_true rfl) (Nat.le_of_ble_eq_true rfl) (k := 1) rfl ?_
  refine c_put C hin hs0 ff_X10_11 rfl rfl (Nat.le_of_ble_eq_true rfl) dX10_init_10 rfl ?_
  exact c_ret C hr hlk dX10_init_13
abbrev rmi_X1 : Room := { frames := 1, cells := 4, slots := 202, locals := 12 }
theorem wi_X1 : kYi yX1_init cX1_init 1 0 := ⟨(tb1 45 rfl rfl), (tb1 3 rfl rfl), (tb1 46 rfl rfl), rfl, by decide, by decide, by decide +kernel⟩
abbrev eX1 (τ : Nat → ClassId) (h0 : Nat) : List va_E := [.inr (1, [.ref (h0 + 1), .ref (h0 + 2), .ref (h0 + 3), .ref (h0 + 4), .int 0, .int 0]), .inl (τ 0, 26, .inl fun _ => 0), .inl (τ 0, 26, .inl fun _ => 0), .inl (τ 0, 130, .inl fun _ => 0), .inl (τ 0, 20, .inl fun _ => 0)]
set_option maxRecDepth 100000 in
theorem mk_X1 {τ : Nat → ClassId} {h0 : Nat} : cOk yX1_init cX1_init 1 rmi_X1 (fun _ => True) τ h0 (.inr (1, [.null, .null, .null, .null, .int 0, .int 0])) [] (eX1 τ h0) := by
  refine cOk.of (by decide) rfl (Nat.le_of_ble_eq_true rfl) ?_
  intro p l e s m args below meth c D C hin hX hs0 hr hlk
  refine c_al C dX1_init_0 (i := 0) (x := h0) rfl (by simp [lv_args, Value.category]) ?_
  refine c_obj C (tb1 47 rfl rfl) (tb1 26 rfl rfl) (tb1 27 rfl rfl) dX1_init_1 ⟨(Nat.le_of_ble_eq_true rfl), (Nat.le_of_ble_eq_true rfl)⟩ ?_
  refine c_al C dX1_init_4 (i := 0) (x := h0) rfl (by simp [lv_args, Value.category]) ?_
  refine c_bipush C dX1_init_5 (by decide) ?_
  refine c_newa C dX1_init_7 rfl (tb1 41 rfl rfl) (t := 0) rfl rfl (fun _ _ h => h) (by decide) (N := 26) (by decide) (by decide) (Nat.le_of_ble_eq_true rfl) (Nat.le_of_ble_eq_true rfl) (k := 1) rfl ?_
  refine c_put C hin hs0 ff_X1_9 rfl rfl (Nat.le_of_ble_eq_true rfl) dX1_init_9 rfl ?_
  refine c_al C dX1_init_12 (i := 0) (x := h0) rfl (by simp [lv_args, Value.category]) ?_
  refine c_bipush C dX1_init_13 (by decide) ?_
  refine c_newa C dX1_init_15 rfl (tb1 41 rfl rfl) (t := 0) rfl rfl (fun _ _ h => h) (by decide) (N := 26) (by decide) (by decide) (Nat.le_of_ble_eq_true rfl) (Nat.le_of_ble_eq_true rfl) (k := 2) rfl ?_
  refine c_put C hin hs0 ff_X1_15 rfl rfl (Nat.le_of_ble_eq_true rfl) dX1_init_17 rfl ?_
  refine c_al C dX1_init_20 (i := 0) (x := h0) rfl (by simp [lv_args, Value.category]) ?_
  refine c_sipush C dX1_init_21 (by decide) ?_
  refine c_newa C dX1_init_24 rfl (tb1 41 rfl rfl) (t := 0) rfl rfl (fun _ _ h => h) (by decide) (N := 130) (by decide) (by decide) (Nat.le_of_ble_eq_true rfl) (Nat.le_of_ble_eq_true rfl) (k := 3) rfl ?_
  refine c_put C hin hs0 ff_X1_18 rfl rfl (Nat.le_of_ble_eq_true rfl) dX1_init_26 rfl ?_
  refine c_al C dX1_init_29 (i := 0) (x := h0) rfl (by simp [lv_args, Value.category]) ?_
  refine c_bipush C dX1_init_30 (by decide) ?_
  refine c_newa C dX1_init_32 rfl (tb1 41 rfl rfl) (t := 0) rfl rfl (fun _ _ h => h) (by decide) (N := 20) (by decide) (by decide) (Nat.le_of_ble_eq_true rfl) (Nat.le_of_ble_eq_true rfl) (k := 4) rfl ?_
  refine c_put C hin hs0 ff_X1_21 rfl rfl (Nat.le_of_ble_eq_true rfl) dX1_init_34 rfl ?_
  exact c_ret C hr hlk dX1_init_37
abbrev rmi_X2 : Room := { frames := 1, cells := 2, slots := 40, locals := 12 }
theorem wi_X2 : kYi yX2_init cX2_init 3 2 := ⟨(tb1 70 rfl rfl), (tb1 4 rfl rfl), (tb1 71 rfl rfl), rfl, by decide, by decide, by decide +kernel⟩
abbrev eX2 (τ : Nat → ClassId) (h0 : Nat) (a1 : Nat) (a2 : Nat) : List va_E := [.inr (2, [.ref (a1), .ref (a2), .ref (h0 + 1), .ref (h0 + 2), .int 0, .int 0, .int 0]), .inl (τ 0, 20, .inl fun _ => 0), .inl (τ 0, 20, .inl fun _ => 0)]
set_option maxRecDepth 100000 in
theorem mk_X2 {τ : Nat → ClassId} {h0 : Nat} {a1 : Nat} {a2 : Nat} : cOk yX2_init cX2_init 3 rmi_X2 (fun _ => True) τ h0 (.inr (2, [.null, .null, .null, .null, .int 0, .int 0, .int 0])) [.ref a1, .ref a2] (eX2 τ h0 a1 a2) := by
  refine cOk.of (by decide) rfl (Nat.le_of_ble_eq_true rfl) ?_
  intro p l e s m args below meth c D C hin hX hs0 hr hlk
  refine c_al C dX2_init_0 (i := 0) (x := h0) rfl (by simp [lv_args, Value.category]) ?_
  refine c_obj C (tb1 72 rfl rfl) (tb1 26 rfl rfl) (tb1 27 rfl rfl) dX2_init_1 ⟨(Nat.le_of_ble_eq_true rfl), (Nat.le_of_ble_eq_true rfl)⟩ ?_
  refine c_al C dX2_init_4 (i := 0) (x := h0) rfl (by simp [lv_args, Value.category]) ?_
  refine c_bipush C dX2_init_5 (by decide) ?_
  refine c_newa C dX2_init_7 rfl (tb1 41 rfl rfl) (t := 0) rfl rfl (fun _ _ h => h) (by decide) (N := 20) (by decide) (by decide) (Nat.le_of_ble_eq_true rfl) (Nat.le_of_ble_eq_true rfl) (k := 1) rfl ?_
  refine c_put C hin hs0 ff_X2_11 rfl rfl (Nat.le_of_ble_eq_true rfl) dX2_init_9 rfl ?_
  refine c_al C dX2_init_12 (i := 0) (x := h0) rfl (by simp [lv_args, Value.category]) ?_
  refine c_bipush C dX2_init_13 (by decide) ?_
  refine c_newa C dX2_init_15 rfl (tb1 41 rfl rfl) (t := 0) rfl rfl (fun _ _ h => h) (by decide) (N := 20) (by decide) (by decide) (Nat.le_of_ble_eq_true rfl) (Nat.le_of_ble_eq_true rfl) (k := 2) rfl ?_
  refine c_put C hin hs0 ff_X2_17 rfl rfl (Nat.le_of_ble_eq_true rfl) dX2_init_17 rfl ?_
  refine c_al C dX2_init_20 (i := 0) (x := h0) rfl (by simp [lv_args, Value.category]) ?_
  refine c_al C dX2_init_21 (i := 1) (x := a1) rfl (by simp [lv_args, Value.category]) ?_
  refine c_put C hin hs0 ff_X2_20 rfl rfl (Nat.le_of_ble_eq_true rfl) dX2_init_22 rfl ?_
  refine c_al C dX2_init_25 (i := 0) (x := h0) rfl (by simp [lv_args, Value.category]) ?_
  refine c_al C dX2_init_26 (i := 2) (x := a2) rfl (by simp [lv_args, Value.category]) ?_
  refine c_put C hin hs0 ff_X2_24 rfl rfl (Nat.le_of_ble_eq_true rfl) dX2_init_27 rfl ?_
  exact c_ret C hr hlk dX2_init_30
abbrev rmi_X3 : Room := { frames := 1, cells := 1, slots := 40, locals := 12 }
theorem wi_X3 : kYi yX3_init cX3_init 1 0 := ⟨(tb1 98 rfl rfl), (tb1 5 rfl rfl), (tb1 99 rfl rfl), rfl, by decide, by decide, by decide +kernel⟩
abbrev eX3 (τ : Nat → ClassId) (h0 : Nat) : List va_E := [.inr (3, [.ref (h0 + 1), .int 0]), .inl (τ 0, 40, .inl fun _ => 0)]
set_option maxRecDepth 100000 in
theorem mk_X3 {τ : Nat → ClassId} {h0 : Nat} : cOk yX3_init cX3_init 1 rmi_X3 (fun _ => True) τ h0 (.inr (3, [.null, .int 0])) [] (eX3 τ h0) := by
  refine cOk.of (by decide) rfl (Nat.le_of_ble_eq_true rfl) ?_
  intro p l e s m args below meth c D C hin hX hs0 hr hlk
  refine c_al C dX3_init_0 (i := 0) (x := h0) rfl (by simp [lv_args, Value.category]) ?_
  refine c_obj C (tb1 100 rfl rfl) (tb1 26 rfl rfl) (tb1 27 rfl rfl) dX3_init_1 ⟨(Nat.le_of_ble_eq_true rfl), (Nat.le_of_ble_eq_true rfl)⟩ ?_
  refine c_al C dX3_init_4 (i := 0) (x := h0) rfl (by simp [lv_args, Value.category]) ?_
  refine c_bipush C dX3_init_5 (by decide) ?_
  refine c_newa C dX3_init_7 rfl (tb1 41 rfl rfl) (t := 0) rfl rfl (fun _ _ h => h) (by decide) (N := 40) (by decide) (by decide) (Nat.le_of_ble_eq_true rfl) (Nat.le_of_ble_eq_true rfl) (k := 1) rfl ?_
  refine c_put C hin hs0 ff_X3_11 rfl rfl (Nat.le_of_ble_eq_true rfl) dX3_init_9 rfl ?_
  exact c_ret C hr hlk dX3_init_12
abbrev rmi_X4 : Room := { frames := 1, cells := 6, slots := 43, locals := 12 }
theorem wi_X4 : kYi yX4_init cX4_init 1 0 := ⟨(tb1 111 rfl rfl), (tb1 6 rfl rfl), (tb1 112 rfl rfl), rfl, by decide, by decide, by decide +kernel⟩
abbrev eX4 (τ : Nat → ClassId) (h0 : Nat) : List va_E := [.inr (4, [.ref (h0 + 1), .ref (h0 + 2), .ref (h0 + 3), .ref (h0 + 4), .ref (h0 + 5), .ref (h0 + 6), .int 0, .int 0, .int 0]), .inl (τ 0, 8, .inl fun _ => 0), .inl (τ 0, 8, .inl fun _ => 0), .inl (τ 0, 8, .inl fun _ => 0), .inl (τ 0, 8, .inl fun _ => 0), .inl (τ 0, 6, .inl fun _ => 0), .inl (τ 0, 5, .inl fun _ => 0)]
set_option maxRecDepth 100000 in
theorem mk_X4 {τ : Nat → ClassId} {h0 : Nat} : cOk yX4_init cX4_init 1 rmi_X4 (fun _ => True) τ h0 (.inr (4, [.null, .null, .null, .null, .null, .null, .int 0, .int 0, .int 0])) [] (eX4 τ h0) := by
  refine cOk.of (by decide) rfl (Nat.le_of_ble_eq_true rfl) ?_
  intro p l e s m args below meth c D C hin hX hs0 hr hlk
  refine c_al C dX4_init_0 (i := 0) (x := h0) rfl (by simp [lv_args, Value.category]) ?_
  refine c_obj C (tb1 113 rfl rfl) (tb1 26 rfl rfl) (tb1 27 rfl rfl) dX4_init_1 ⟨(Nat.le_of_ble_eq_true rfl), (Nat.le_of_ble_eq_true rfl)⟩ ?_
  refine c_al C dX4_init_4 (i := 0) (x := h0) rfl (by simp [lv_args, Value.category]) ?_
  refine c_bipush C dX4_init_5 (by decide) ?_
  refine c_newa C dX4_init_7 rfl (tb1 41 rfl rfl) (t := 0) rfl rfl (fun _ _ h => h) (by decide) (N := 8) (by decide) (by decide) (Nat.le_of_ble_eq_true rfl) (Nat.le_of_ble_eq_true rfl) (k := 1) rfl ?_
  refine c_put C hin hs0 ff_X4_11 rfl rfl (Nat.le_of_ble_eq_true rfl) dX4_init_9 rfl ?_
  refine c_al C dX4_init_12 (i := 0) (x := h0) rfl (by simp [lv_args, Value.category]) ?_
  refine c_bipush C dX4_init_13 (by decide) ?_
  refine c_newa C dX4_init_15 rfl (tb1 41 rfl rfl) (t := 0) rfl rfl (fun _ _ h => h) (by decide) (N := 8) (by decide) (by decide) (Nat.le_of_ble_eq_true rfl) (Nat.le_of_ble_eq_true rfl) (k := 2) rfl ?_
  refine c_put C hin hs0 ff_X4_15 rfl rfl (Nat.le_of_ble_eq_true rfl) dX4_init_17 rfl ?_
  refine c_al C dX4_init_20 (i := 0) (x := h0) rfl (by simp [lv_args, Value.category]) ?_
  refine c_bipush C dX4_init_21 (by decide) ?_
  refine c_newa C dX4_init_23 rfl (tb1 41 rfl rfl) (t := 0) rfl rfl (fun _ _ h => h) (by decide) (N := 8) (by decide) (by decide) (Nat.le_of_ble_eq_true rfl) (Nat.le_of_ble_eq_true rfl) (k := 3) rfl ?_
  refine c_put C hin hs0 ff_X4_18 rfl rfl (Nat.le_of_ble_eq_true rfl) dX4_init_25 rfl ?_
  refine c_al C dX4_init_28 (i := 0) (x := h0) rfl (by simp [lv_args, Value.category]) ?_
  refine c_bipush C dX4_init_29 (by decide) ?_
  refine c_newa C dX4_init_31 rfl (tb1 41 rfl rfl) (t := 0) rfl rfl (fun _ _ h => h) (by decide) (N := 8) (by decide) (by decide) (Nat.le_of_ble_eq_true rfl) (Nat.le_of_ble_eq_true rfl) (k := 4) rfl ?_
  refine c_put C hin hs0 ff_X4_21 rfl rfl (Nat.le_of_ble_eq_true rfl) dX4_init_33 rfl ?_
  refine c_al C dX4_init_36 (i := 0) (x := h0) rfl (by simp [lv_args, Value.category]) ?_
  refine c_bipush C dX4_init_37 (by decide) ?_
  refine c_newa C dX4_init_39 rfl (tb1 41 rfl rfl) (t := 0) rfl rfl (fun _ _ h => h) (by decide) (N := 6) (by decide) (by decide) (Nat.le_of_ble_eq_true rfl) (Nat.le_of_ble_eq_true rfl) (k := 5) rfl ?_
  refine c_put C hin hs0 ff_X4_24 rfl rfl (Nat.le_of_ble_eq_true rfl) dX4_init_41 rfl ?_
  refine c_al C dX4_init_44 (i := 0) (x := h0) rfl (by simp [lv_args, Value.category]) ?_
  refine c_iconst C dX4_init_45 ?_
  refine c_newa C dX4_init_46 rfl (tb1 41 rfl rfl) (t := 0) rfl rfl (fun _ _ h => h) (by decide) (N := 5) (by decide) (by decide) (Nat.le_of_ble_eq_true rfl) (Nat.le_of_ble_eq_true rfl) (k := 6) rfl ?_
  refine c_put C hin hs0 ff_X4_27 rfl rfl (Nat.le_of_ble_eq_true rfl) dX4_init_48 rfl ?_
  exact c_ret C hr hlk dX4_init_51
abbrev rmi_X9 : Room := { frames := 1, cells := 1, slots := 120, locals := 12 }
theorem wi_X9 : kYi yX9_init cX9_init 1 0 := ⟨(tb1 145 rfl rfl), (tb1 7 rfl rfl), (tb1 146 rfl rfl), rfl, by decide, by decide, by decide +kernel⟩
abbrev eX9 (τ : Nat → ClassId) (h0 : Nat) : List va_E := [.inr (9, [.ref (h0 + 1), .int 0]), .inl (τ 0, 120, .inl fun _ => 0)]
set_option maxRecDepth 100000 in
theorem mk_X9 {τ : Nat → ClassId} {h0 : Nat} : cOk yX9_init cX9_init 1 rmi_X9 (fun _ => True) τ h0 (.inr (9, [.null, .int 0])) [] (eX9 τ h0) := by
  refine cOk.of (by decide) rfl (Nat.le_of_ble_eq_true rfl) ?_
  intro p l e s m args below meth c D C hin hX hs0 hr hlk
  refine c_al C dX9_init_0 (i := 0) (x := h0) rfl (by simp [lv_args, Value.category]) ?_
  refine c_obj C (tb1 147 rfl rfl) (tb1 26 rfl rfl) (tb1 27 rfl rfl) dX9_init_1 ⟨(Nat.le_of_ble_eq_true rfl), (Nat.le_of_ble_eq_true rfl)⟩ ?_
  refine c_al C dX9_init_4 (i := 0) (x := h0) rfl (by simp [lv_args, Value.category]) ?_
  refine c_bipush C dX9_init_5 (by decide) ?_
  refine c_newa C dX9_init_7 rfl (tb1 41 rfl rfl) (t := 0) rfl rfl (fun _ _ h => h) (by decide) (N := 120) (by decide) (by decide) (Nat.le_of_ble_eq_true rfl) (Nat.le_of_ble_eq_true rfl) (k := 1) rfl ?_
  refine c_put C hin hs0 ff_X9_11 rfl rfl (Nat.le_of_ble_eq_true rfl) dX9_init_9 rfl ?_
  exact c_ret C hr hlk dX9_init_12
abbrev rmi_X7 : Room := { frames := 1, cells := 6, slots := 313, locals := 12 }
theorem wi_X7 : kYi yX7_init cX7_init 5 4 := ⟨(tb1 158 rfl rfl), (tb1 8 rfl rfl), (tb1 159 rfl rfl), rfl, by decide, by decide, by decide +kernel⟩
abbrev eX7 (τ : Nat → ClassId) (h0 : Nat) (a1 : Nat) (a2 : Nat) (a3 : Nat) (a4 : Nat) : List va_E := [.inr (7, [.ref (a1), .ref (a2), .ref (a3), .ref (a4), .ref (h0 + 1), .ref (h0 + 2), .int 0, .int 0, .ref (h0 + 3), .ref (h0 + 4), .ref (h0 + 5), .ref (h0 + 6), .int 0]), .inl (τ 0, 5, .inl fun _ => 0), .inl (τ 0, 5, .inl fun _ => 0), .inl (τ 0, 61, .inl fun _ => 0), .inl (τ 0, 61, .inl fun _ => 0), .inl (τ 0, 61, .inl fun _ => 0), .inl (τ 0, 120, .inl fun _ => 0)]
set_option maxRecDepth 100000 in
theorem mk_X7 {τ : Nat → ClassId} {h0 : Nat} {a1 : Nat} {a2 : Nat} {a3 : Nat} {a4 : Nat} : cOk yX7_init cX7_init 5 rmi_X7 (fun _ => True) τ h0 (.inr (7, [.null, .null, .null, .null, .null, .null, .int 0, .int 0, .null, .null, .null, .null, .int 0])) [.ref a1, .ref a2, .ref a3, .ref a4] (eX7 τ h0 a1 a2 a3 a4) := by
  refine cOk.of (by decide) rfl (Nat.le_of_ble_eq_true rfl) ?_
  intro p l e s m args below meth c D C hin hX hs0 hr hlk
  refine c_al C dX7_init_0 (i := 0) (x := h0) rfl (by simp [lv_args, Value.category]) ?_
  refine c_obj C (tb1 160 rfl rfl) (tb1 26 rfl rfl) (tb1 27 rfl rfl) dX7_init_1 ⟨(Nat.le_of_ble_eq_true rfl), (Nat.le_of_ble_eq_true rfl)⟩ ?_
  refine c_al C dX7_init_4 (i := 0) (x := h0) rfl (by simp [lv_args, Value.category]) ?_
  refine c_iconst C dX7_init_5 ?_
  refine c_newa C dX7_init_6 rfl (tb1 41 rfl rfl) (t := 0) rfl rfl (fun _ _ h => h) (by decide) (N := 5) (by decide) (by decide) (Nat.le_of_ble_eq_true rfl) (Nat.le_of_ble_eq_true rfl) (k := 1) rfl ?_
  refine c_put C hin hs0 ff_X7_11 rfl rfl (Nat.le_of_ble_eq_true rfl) dX7_init_8 rfl ?_
  refine c_al C dX7_init_11 (i := 0) (x := h0) rfl (by simp [lv_args, Value.category]) ?_
  refine c_iconst C dX7_init_12 ?_
  refine c_newa C dX7_init_13 rfl (tb1 41 rfl rfl) (t := 0) rfl rfl (fun _ _ h => h) (by decide) (N := 5) (by decide) (by decide) (Nat.le_of_ble_eq_true rfl) (Nat.le_of_ble_eq_true rfl) (k := 2) rfl ?_
  refine c_put C hin hs0 ff_X7_17 rfl rfl (Nat.le_of_ble_eq_true rfl) dX7_init_15 rfl ?_
  refine c_al C dX7_init_18 (i := 0) (x := h0) rfl (by simp [lv_args, Value.category]) ?_
  refine c_bipush C dX7_init_19 (by decide) ?_
  refine c_newa C dX7_init_21 rfl (tb1 41 rfl rfl) (t := 0) rfl rfl (fun _ _ h => h) (by decide) (N := 61) (by decide) (by decide) (Nat.le_of_ble_eq_true rfl) (Nat.le_of_ble_eq_true rfl) (k := 3) rfl ?_
  refine c_put C hin hs0 ff_X7_20 rfl rfl (Nat.le_of_ble_eq_true rfl) dX7_init_23 rfl ?_
  refine c_al C dX7_init_26 (i := 0) (x := h0) rfl (by simp [lv_args, Value.category]) ?_
  refine c_bipush C dX7_init_27 (by decide) ?_
  refine c_newa C dX7_init_29 rfl (tb1 41 rfl rfl) (t := 0) rfl rfl (fun _ _ h => h) (by decide) (N := 61) (by decide) (by decide) (Nat.le_of_ble_eq_true rfl) (Nat.le_of_ble_eq_true rfl) (k := 4) rfl ?_
  refine c_put C hin hs0 ff_X7_23 rfl rfl (Nat.le_of_ble_eq_true rfl) dX7_init_31 rfl ?_
  refine c_al C dX7_init_34 (i := 0) (x := h0) rfl (by simp [lv_args, Value.category]) ?_
  refine c_bipush C dX7_init_35 (by decide) ?_
  refine c_newa C dX7_init_37 rfl (tb1 41 rfl rfl) (t := 0) rfl rfl (fun _ _ h => h) (by decide) (N := 61) (by decide) (by decide) (Nat.le_of_ble_eq_true rfl) (Nat.le_of_ble_eq_true rfl) (k := 5) rfl ?_
  refine c_put C hin hs0 ff_X7_26 rfl rfl (Nat.le_of_ble_eq_true rfl) dX7_init_39 rfl ?_
  refine c_al C dX7_init_42 (i := 0) (x := h0) rfl (by simp [lv_args, Value.category]) ?_
  refine c_bipush C dX7_init_43 (by decide) ?_
  refine c_newa C dX7_init_45 rfl (tb1 41 rfl rfl) (t := 0) rfl rfl (fun _ _ h => h) (by decide) (N := 120) (by decide) (by decide) (Nat.le_of_ble_eq_true rfl) (Nat.le_of_ble_eq_true rfl) (k := 6) rfl ?_
  refine c_put C hin hs0 ff_X7_29 rfl rfl (Nat.le_of_ble_eq_true rfl) dX7_init_47 rfl ?_
  refine c_al C dX7_init_50 (i := 0) (x := h0) rfl (by simp [lv_args, Value.category]) ?_
  refine c_al C dX7_init_51 (i := 1) (x := a1) rfl (by simp [lv_args, Value.category]) ?_
  refine c_put C hin hs0 ff_X7_32 rfl rfl (Nat.le_of_ble_eq_true rfl) dX7_init_52 rfl ?_
  refine c_al C dX7_init_55 (i := 0) (x := h0) rfl (by simp [lv_args, Value.category]) ?_
  refine c_al C dX7_init_56 (i := 2) (x := a2) rfl (by simp [lv_args, Value.category]) ?_
  refine c_put C hin hs0 ff_X7_36 rfl rfl (Nat.le_of_ble_eq_true rfl) dX7_init_57 rfl ?_
  refine c_al C dX7_init_60 (i := 0) (x := h0) rfl (by simp [lv_args, Value.category]) ?_
  refine c_al C dX7_init_61 (i := 3) (x := a3) rfl (by simp [lv_args, Value.category]) ?_
  refine c_put C hin hs0 ff_X7_40 rfl rfl (Nat.le_of_ble_eq_true rfl) dX7_init_62 rfl ?_
  refine c_al C dX7_init_65 (i := 0) (x := h0) rfl (by simp [lv_args, Value.category]) ?_
  refine c_al4 C dX7_init_66 (i := 4) (x := a4) (by simp [lv_args, Value.category]) ?_
  refine c_put C hin hs0 ff_X7_44 rfl rfl (Nat.le_of_ble_eq_true rfl) dX7_init_68 rfl ?_
  exact c_ret C hr hlk dX7_init_71
abbrev rmi_X8 : Room := { frames := 1, cells := 2, slots := 240, locals := 12 }
theorem wi_X8 : kYi yX8_init cX8_init 3 2 := ⟨(tb1 204 rfl rfl), (tb1 9 rfl rfl), (tb1 205 rfl rfl), rfl, by decide, by decide, by decide +kernel⟩
abbrev eX8 (τ : Nat → ClassId) (h0 : Nat) (a1 : Nat) (a2 : Nat) : List va_E := [.inr (8, [.ref (a1), .ref (a2), .ref (h0 + 1), .ref (h0 + 2), .int 0]), .inl (τ 0, 120, .inl fun _ => 0), .inl (τ 0, 120, .inl fun _ => 0)]
set_option maxRecDepth 100000 in
theorem mk_X8 {τ : Nat → ClassId} {h0 : Nat} {a1 : Nat} {a2 : Nat} : cOk yX8_init cX8_init 3 rmi_X8 (fun _ => True) τ h0 (.inr (8, [.null, .null, .null, .null, .int 0])) [.ref a1, .ref a2] (eX8 τ h0 a1 a2) := by
  refine cOk.of (by decide) rfl (Nat.le_of_ble_eq_true rfl) ?_
  intro p l e s m args below meth c D C hin hX hs0 hr hlk
  refine c_al C dX8_init_0 (i := 0) (x := h0) rfl (by simp [lv_args, Value.category]) ?_
  refine c_obj C (tb1 206 rfl rfl) (tb1 26 rfl rfl) (tb1 27 rfl rfl) dX8_init_1 ⟨(Nat.le_of_ble_eq_true rfl), (Nat.le_of_ble_eq_true rfl)⟩ ?_
  refine c_al C dX8_init_4 (i := 0) (x := h0) rfl (by simp [lv_args, Value.category]) ?_
  refine c_bipush C dX8_init_5 (by decide) ?_
  refine c_newa C dX8_init_7 rfl (tb1 41 rfl rfl) (t := 0) rfl rfl (fun _ _ h => h) (by decide) (N := 120) (by decide) (by decide) (Nat.le_of_ble_eq_true rfl) (Nat.le_of_ble_eq_true rfl) (k := 1) rfl ?_
  refine c_put C hin hs0 ff_X8_11 rfl rfl (Nat.le_of_ble_eq_true rfl) dX8_init_9 rfl ?_
  refine c_al C dX8_init_12 (i := 0) (x := h0) rfl (by simp [lv_args, Value.category]) ?_
  refine c_bipush C dX8_init_13 (by decide) ?_
  refine c_newa C dX8_init_15 rfl (tb1 41 rfl rfl) (t := 0) rfl rfl (fun _ _ h => h) (by decide) (N := 120) (by decide) (by decide) (Nat.le_of_ble_eq_true rfl) (Nat.le_of_ble_eq_true rfl) (k := 2) rfl ?_
  refine c_put C hin hs0 ff_X8_17 rfl rfl (Nat.le_of_ble_eq_true rfl) dX8_init_17 rfl ?_
  refine c_al C dX8_init_20 (i := 0) (x := h0) rfl (by simp [lv_args, Value.category]) ?_
  refine c_al C dX8_init_21 (i := 1) (x := a1) rfl (by simp [lv_args, Value.category]) ?_
  refine c_put C hin hs0 ff_X8_20 rfl rfl (Nat.le_of_ble_eq_true rfl) dX8_init_22 rfl ?_
  refine c_al C dX8_init_25 (i := 0) (x := h0) rfl (by simp [lv_args, Value.category]) ?_
  refine c_al C dX8_init_26 (i := 2) (x := a2) rfl (by simp [lv_args, Value.category]) ?_
  refine c_put C hin hs0 ff_X8_24 rfl rfl (Nat.le_of_ble_eq_true rfl) dX8_init_27 rfl ?_
  exact c_ret C hr hlk dX8_init_30
abbrev rmi_X5 : Room := { frames := 1, cells := 11, slots := 368, locals := 12 }
theorem wi_X5 : kYi yX5_init cX5_init 2 1 := ⟨(tb1 226 rfl rfl), (tb1 10 rfl rfl), (tb1 227 rfl rfl), rfl, by decide, by decide, by decide +kernel⟩
abbrev eX5 (τ : Nat → ClassId) (h0 : Nat) (a1 : Nat) : List va_E := [.inr (5, [.ref (a1), .ref (h0 + 1), .ref (h0 + 2), .ref (h0 + 3), .ref (h0 + 4), .ref (h0 + 5), .int 0, .ref (h0 + 6), .ref (h0 + 7), .ref (h0 + 8), .ref (h0 + 9), .ref (h0 + 10), .ref (h0 + 11)]), .inl (τ 0, 20, .inl fun _ => 0), .inl (τ 0, 20, .inl fun _ => 0), .inl (τ 0, 20, .inl fun _ => 0), .inl (τ 0, 20, .inl fun _ => 0), .inl (τ 0, 20, .inl fun _ => 0), .inl (τ 0, 100, .inl fun _ => 0), .inl (τ 0, 100, .inl fun _ => 0), .inl (τ 0, 20, .inl fun _ => 0), .inl (τ 0, 20, .inl fun _ => 0), .inl (τ 0, 20, .inl fun _ => 0), .inl (τ 0, 8, .inl fun _ => 0)]
set_option maxRecDepth 100000 in
theorem mk_X5 {τ : Nat → ClassId} {h0 : Nat} {a1 : Nat} : cOk yX5_init cX5_init 2 rmi_X5 (fun _ => True) τ h0 (.inr (5, [.null, .null, .null, .null, .null, .null, .int 0, .null, .null, .null, .null, .null, .null])) [.ref a1] (eX5 τ h0 a1) := by
  refine cOk.of (by decide) rfl (Nat.le_of_ble_eq_true rfl) ?_
  intro p l e s m args below meth c D C hin hX hs0 hr hlk
  refine c_al C dX5_init_0 (i := 0) (x := h0) rfl (by simp [lv_args, Value.category]) ?_
  refine c_obj C (tb1 228 rfl rfl) (tb1 26 rfl rfl) (tb1 27 rfl rfl) dX5_init_1 ⟨(Nat.le_of_ble_eq_true rfl), (Nat.le_of_ble_eq_true rfl)⟩ ?_
  refine c_al C dX5_init_4 (i := 0) (x := h0) rfl (by simp [lv_args, Value.category]) ?_
  refine c_bipush C dX5_init_5 (by decide) ?_
  refine c_newa C dX5_init_7 rfl (tb1 41 rfl rfl) (t := 0) rfl rfl (fun _ _ h => h) (by decide) (N := 20) (by decide) (by decide) (Nat.le_of_ble_eq_true rfl) (Nat.le_of_ble_eq_true rfl) (k := 1) rfl ?_
  refine c_put C hin hs0 ff_X5_13 rfl rfl (Nat.le_of_ble_eq_true rfl) dX5_init_9 rfl ?_
  refine c_al C dX5_init_12 (i := 0) (x := h0) rfl (by simp [lv_args, Value.category]) ?_
  refine c_bipush C dX5_init_13 (by decide) ?_
  refine c_newa C dX5_init_15 rfl (tb1 41 rfl rfl) (t := 0) rfl rfl (fun _ _ h => h) (by decide) (N := 20) (by decide) (by decide) (Nat.le_of_ble_eq_true rfl) (Nat.le_of_ble_eq_true rfl) (k := 2) rfl ?_
  refine c_put C hin hs0 ff_X5_17 rfl rfl (Nat.le_of_ble_eq_true rfl) dX5_init_17 rfl ?_
  refine c_al C dX5_init_20 (i := 0) (x := h0) rfl (by simp [lv_args, Value.category]) ?_
  refine c_bipush C dX5_init_21 (by decide) ?_
  refine c_newa C dX5_init_23 rfl (tb1 41 rfl rfl) (t := 0) rfl rfl (fun _ _ h => h) (by decide) (N := 20) (by decide) (by decide) (Nat.le_of_ble_eq_true rfl) (Nat.le_of_ble_eq_true rfl) (k := 3) rfl ?_
  refine c_put C hin hs0 ff_X5_20 rfl rfl (Nat.le_of_ble_eq_true rfl) dX5_init_25 rfl ?_
  refine c_al C dX5_init_28 (i := 0) (x := h0) rfl (by simp [lv_args, Value.category]) ?_
  refine c_bipush C dX5_init_29 (by decide) ?_
  refine c_newa C dX5_init_31 rfl (tb1 41 rfl rfl) (t := 0) rfl rfl (fun _ _ h => h) (by decide) (N := 20) (by decide) (by decide) (Nat.le_of_ble_eq_true rfl) (Nat.le_of_ble_eq_true rfl) (k := 4) rfl ?_
  refine c_put C hin hs0 ff_X5_23 rfl rfl (Nat.le_of_ble_eq_true rfl) dX5_init_33 rfl ?_
  refine c_al C dX5_init_36 (i := 0) (x := h0) rfl (by simp [lv_args, Value.category]) ?_
  refine c_bipush C dX5_init_37 (by decide) ?_
  refine c_newa C dX5_init_39 rfl (tb1 41 rfl rfl) (t := 0) rfl rfl (fun _ _ h => h) (by decide) (N := 20) (by decide) (by decide) (Nat.le_of_ble_eq_true rfl) (Nat.le_of_ble_eq_true rfl) (k := 5) rfl ?_
  refine c_put C hin hs0 ff_X5_26 rfl rfl (Nat.le_of_ble_eq_true rfl) dX5_init_41 rfl ?_
  refine c_al C dX5_init_44 (i := 0) (x := h0) rfl (by simp [lv_args, Value.category]) ?_
  refine c_bipush C dX5_init_45 (by decide) ?_
  refine c_newa C dX5_init_47 rfl (tb1 41 rfl rfl) (t := 0) rfl rfl (fun _ _ h => h) (by decide) (N := 100) (by decide) (by decide) (Nat.le_of_ble_eq_true rfl) (Nat.le_of_ble_eq_true rfl) (k := 6) rfl ?_
  refine c_put C hin hs0 ff_X5_29 rfl rfl (Nat.le_of_ble_eq_true rfl) dX5_init_49 rfl ?_
  refine c_al C dX5_init_52 (i := 0) (x := h0) rfl (by simp [lv_args, Value.category]) ?_
  refine c_bipush C dX5_init_53 (by decide) ?_
  refine c_newa C dX5_init_55 rfl (tb1 41 rfl rfl) (t := 0) rfl rfl (fun _ _ h => h) (by decide) (N := 100) (by decide) (by decide) (Nat.le_of_ble_eq_true rfl) (Nat.le_of_ble_eq_true rfl) (k := 7) rfl ?_
  refine c_put C hin hs0 ff_X5_32 rfl rfl (Nat.le_of_ble_eq_true rfl) dX5_init_57 rfl ?_
  refine c_al C dX5_init_60 (i := 0) (x := h0) rfl (by simp [lv_args, Value.category]) ?_
  refine c_bipush C dX5_init_61 (by decide) ?_
  refine c_newa C dX5_init_63 rfl (tb1 41 rfl rfl) (t := 0) rfl rfl (fun _ _ h => h) (by decide) (N := 20) (by decide) (by decide) (Nat.le_of_ble_eq_true rfl) (Nat.le_of_ble_eq_true rfl) (k := 8) rfl ?_
  refine c_put C hin hs0 ff_X5_35 rfl rfl (Nat.le_of_ble_eq_true rfl) dX5_init_65 rfl ?_
  refine c_al C dX5_init_68 (i := 0) (x := h0) rfl (by simp [lv_args, Value.category]) ?_
  refine c_bipush C dX5_init_69 (by decide) ?_
  refine c_newa C dX5_init_71 rfl (tb1 41 rfl rfl) (t := 0) rfl rfl (fun _ _ h => h) (by decide) (N := 20) (by decide) (by decide) (Nat.le_of_ble_eq_true rfl) (Nat.le_of_ble_eq_true rfl) (k := 9) rfl ?_
  refine c_put C hin hs0 ff_X5_38 rfl rfl (Nat.le_of_ble_eq_true rfl) dX5_init_73 rfl ?_
  refine c_al C dX5_init_76 (i := 0) (x := h0) rfl (by simp [lv_args, Value.category]) ?_
  refine c_bipush C dX5_init_77 (by decide) ?_
  refine c_newa C dX5_init_79 rfl (tb1 41 rfl rfl) (t := 0) rfl rfl (fun _ _ h => h) (by decide) (N := 20) (by decide) (by decide) (Nat.le_of_ble_eq_true rfl) (Nat.le_of_ble_eq_true rfl) (k := 10) rfl ?_
  refine c_put C hin hs0 ff_X5_41 rfl rfl (Nat.le_of_ble_eq_true rfl) dX5_init_81 rfl ?_
  refine c_al C dX5_init_84 (i := 0) (x := h0) rfl (by simp [lv_args, Value.category]) ?_
  refine c_bipush C dX5_init_85 (by decide) ?_
  refine c_newa C dX5_init_87 rfl (tb1 41 rfl rfl) (t := 0) rfl rfl (fun _ _ h => h) (by decide) (N := 8) (by decide) (by decide) (Nat.le_of_ble_eq_true rfl) (Nat.le_of_ble_eq_true rfl) (k := 11) rfl ?_
  refine c_put C hin hs0 ff_X5_44 rfl rfl (Nat.le_of_ble_eq_true rfl) dX5_init_89 rfl ?_
  refine c_al C dX5_init_92 (i := 0) (x := h0) rfl (by simp [lv_args, Value.category]) ?_
  refine c_al C dX5_init_93 (i := 1) (x := a1) rfl (by simp [lv_args, Value.category]) ?_
  refine c_put C hin hs0 ff_X5_47 rfl rfl (Nat.le_of_ble_eq_true rfl) dX5_init_94 rfl ?_
  exact c_ret C hr hlk dX5_init_97
abbrev rmi_X6 : Room := { frames := 1, cells := 1, slots := 49, locals := 12 }
theorem wi_X6 : kYi yX6_init cX6_init 1 0 := ⟨(tb2 71 rfl rfl), (tb1 12 rfl rfl), (tb2 72 rfl rfl), rfl, by decide, by decide, by decide +kernel⟩
abbrev eX6 (τ : Nat → ClassId) (h0 : Nat) : List va_E := [.inr (6, [.ref (h0 + 1)]), .inl (τ 0, 49, .inl fun _ => 0)]
set_option maxRecDepth 100000 in
theorem mk_X6 {τ : Nat → ClassId} {h0 : Nat} : cOk yX6_init cX6_init 1 rmi_X6 (fun _ => True) τ h0 (.inr (6, [.null])) [] (eX6 τ h0) := by
  refine cOk.of (by decide) rfl (Nat.le_of_ble_eq_true rfl) ?_
  intro p l e s m args below meth c D C hin hX hs0 hr hlk
  refine c_al C dX6_init_0 (i := 0) (x := h0) rfl (by simp [lv_args, Value.category]) ?_
  refine c_obj C (tb2 73 rfl rfl) (tb1 26 rfl rfl) (tb1 27 rfl rfl) dX6_init_1 ⟨(Nat.le_of_ble_eq_true rfl), (Nat.le_of_ble_eq_true rfl)⟩ ?_
  refine c_al C dX6_init_4 (i := 0) (x := h0) rfl (by simp [lv_args, Value.category]) ?_
  refine c_bipush C dX6_init_5 (by decide) ?_
  refine c_newa C dX6_init_7 rfl (tb1 41 rfl rfl) (t := 0) rfl rfl (fun _ _ h => h) (by decide) (N := 49) (by decide) (by decide) (Nat.le_of_ble_eq_true rfl) (Nat.le_of_ble_eq_true rfl) (k := 1) rfl ?_
  refine c_put C hin hs0 ff_X6_11 rfl rfl (Nat.le_of_ble_eq_true rfl) dX6_init_9 rfl ?_
  exact c_ret C hr hlk dX6_init_12
abbrev rmi_X0 : Room := { frames := 1, cells := 14, slots := 114, locals := 12 }
theorem wi_X0 : kYi yX0_init cX0_init 1 0 := ⟨(tb2 32 rfl rfl), (tb1 11 rfl rfl), (tb2 33 rfl rfl), rfl, by decide, by decide, by decide +kernel⟩
abbrev eX0 (τ : Nat → ClassId) (h0 : Nat) (g : Nat → Option Nat) : List va_E := [.inr (0, [.ref (h0 + 1), .ref (h0 + 2), .ref (h0 + 3), .ref (h0 + 4), .int 0, .ref (h0 + 5), .ref (h0 + 6), .ref (h0 + 7), .int 0, .ref (h0 + 8)]), .inl (τ 0, 6, .inl fun _ => 0), .inl (τ 0, 6, .inl fun _ => 0), .inl (τ 0, 12, .inl fun _ => 0), .inl (τ 0, 12, .inl fun _ => 0), .inl (τ 0, 12, .inl fun _ => 0), .inl (τ 0, 12, .inl fun _ => 0), .inl (τ 0, 12, .inl fun _ => 0), .inl (τ 3, 6, .inr (.inr (.inr (.inr g)))), .inl (τ 0, 6, .inl fun _ => 0), .inl (τ 0, 6, .inl fun _ => 0), .inl (τ 0, 6, .inl fun _ => 0), .inl (τ 0, 6, .inl fun _ => 0), .inl (τ 0, 6, .inl fun _ => 0), .inl (τ 0, 6, .inl fun _ => 0)]
set_option maxRecDepth 100000 in
theorem mk_X0 {τ : Nat → ClassId} {h0 : Nat} {g : Nat → Option Nat} (hg : ∀ i, i < 6 → g i = some (h0 + 8 + 1 + i)) : cOk yX0_init cX0_init 1 rmi_X0 (cov .int) τ h0 (.inr (0, [.null, .null, .null, .null, .int 0, .null, .null, .null, .int 0, .null])) [] (eX0 τ h0 g) := by
  refine cOk.of (by decide) rfl (Nat.le_of_ble_eq_true rfl) ?_
  intro p l e s m args below meth c D C hin hXc hs0 hr hlk
  refine c_al C dX0_init_0 (i := 0) (x := h0) rfl (by simp [lv_args, Value.category]) ?_
  refine c_obj C (tb2 34 rfl rfl) (tb1 26 rfl rfl) (tb1 27 rfl rfl) dX0_init_1 ⟨(Nat.le_of_ble_eq_true rfl), (Nat.le_of_ble_eq_true rfl)⟩ ?_
  refine c_al C dX0_init_4 (i := 0) (x := h0) rfl (by simp [lv_args, Value.category]) ?_
  refine c_bipush C dX0_init_5 (by decide) ?_
  refine c_newa C dX0_init_7 rfl (tb1 41 rfl rfl) (t := 0) rfl rfl (fun _ _ h => h) (by decide) (N := 6) (by decide) (by decide) (Nat.le_of_ble_eq_true rfl) (Nat.le_of_ble_eq_true rfl) (k := 1) rfl ?_
  refine c_put C hin hs0 ff_X0_9 rfl rfl (Nat.le_of_ble_eq_true rfl) dX0_init_9 rfl ?_
  refine c_al C dX0_init_12 (i := 0) (x := h0) rfl (by simp [lv_args, Value.category]) ?_
  refine c_bipush C dX0_init_13 (by decide) ?_
  refine c_newa C dX0_init_15 rfl (tb1 41 rfl rfl) (t := 0) rfl rfl (fun _ _ h => h) (by decide) (N := 6) (by decide) (by decide) (Nat.le_of_ble_eq_true rfl) (Nat.le_of_ble_eq_true rfl) (k := 2) rfl ?_
  refine c_put C hin hs0 ff_X0_15 rfl rfl (Nat.le_of_ble_eq_true rfl) dX0_init_17 rfl ?_
  refine c_al C dX0_init_20 (i := 0) (x := h0) rfl (by simp [lv_args, Value.category]) ?_
  refine c_bipush C dX0_init_21 (by decide) ?_
  refine c_newa C dX0_init_23 rfl (tb1 41 rfl rfl) (t := 0) rfl rfl (fun _ _ h => h) (by decide) (N := 12) (by decide) (by decide) (Nat.le_of_ble_eq_true rfl) (Nat.le_of_ble_eq_true rfl) (k := 3) rfl ?_
  refine c_put C hin hs0 ff_X0_18 rfl rfl (Nat.le_of_ble_eq_true rfl) dX0_init_25 rfl ?_
  refine c_al C dX0_init_28 (i := 0) (x := h0) rfl (by simp [lv_args, Value.category]) ?_
  refine c_bipush C dX0_init_29 (by decide) ?_
  refine c_newa C dX0_init_31 rfl (tb1 41 rfl rfl) (t := 0) rfl rfl (fun _ _ h => h) (by decide) (N := 12) (by decide) (by decide) (Nat.le_of_ble_eq_true rfl) (Nat.le_of_ble_eq_true rfl) (k := 4) rfl ?_
  refine c_put C hin hs0 ff_X0_21 rfl rfl (Nat.le_of_ble_eq_true rfl) dX0_init_33 rfl ?_
  refine c_al C dX0_init_36 (i := 0) (x := h0) rfl (by simp [lv_args, Value.category]) ?_
  refine c_bipush C dX0_init_37 (by decide) ?_
  refine c_newa C dX0_init_39 rfl (tb1 41 rfl rfl) (t := 0) rfl rfl (fun _ _ h => h) (by decide) (N := 12) (by decide) (by decide) (Nat.le_of_ble_eq_true rfl) (Nat.le_of_ble_eq_true rfl) (k := 5) rfl ?_
  refine c_put C hin hs0 ff_X0_24 rfl rfl (Nat.le_of_ble_eq_true rfl) dX0_init_41 rfl ?_
  refine c_al C dX0_init_44 (i := 0) (x := h0) rfl (by simp [lv_args, Value.category]) ?_
  refine c_bipush C dX0_init_45 (by decide) ?_
  refine c_newa C dX0_init_47 rfl (tb1 41 rfl rfl) (t := 0) rfl rfl (fun _ _ h => h) (by decide) (N := 12) (by decide) (by decide) (Nat.le_of_ble_eq_true rfl) (Nat.le_of_ble_eq_true rfl) (k := 6) rfl ?_
  refine c_put C hin hs0 ff_X0_27 rfl rfl (Nat.le_of_ble_eq_true rfl) dX0_init_49 rfl ?_
  refine c_al C dX0_init_52 (i := 0) (x := h0) rfl (by simp [lv_args, Value.category]) ?_
  refine c_bipush C dX0_init_53 (by decide) ?_
  refine c_newa C dX0_init_55 rfl (tb1 41 rfl rfl) (t := 0) rfl rfl (fun _ _ h => h) (by decide) (N := 12) (by decide) (by decide) (Nat.le_of_ble_eq_true rfl) (Nat.le_of_ble_eq_true rfl) (k := 7) rfl ?_
  refine c_put C hin hs0 ff_X0_30 rfl rfl (Nat.le_of_ble_eq_true rfl) dX0_init_57 rfl ?_
  refine c_al C dX0_init_60 (i := 0) (x := h0) rfl (by simp [lv_args, Value.category]) ?_
  refine c_bipush C dX0_init_61 (by decide) ?_
  refine c_bipush C dX0_init_63 (by decide) ?_
  refine c_multi C (ty := .int) (t := 3) (t0 := 0) (N := 6) (M := 6) (f := g) (z := .inl fun _ => 0) dX0_init_65 (tb2 35 rfl rfl) hXc (tb1 41 rfl rfl) rfl rfl (fun _ _ h => h) (fun _ => rfl) hg (by decide) (by decide) (by decide) (by decide) (by decide) (by decide) (by decide) rfl rfl (Nat.le_of_ble_eq_true rfl) (Nat.le_of_ble_eq_true rfl) (j := 8) rfl ?_
  refine c_put C hin hs0 ff_X0_35 rfl rfl (Nat.le_of_ble_eq_true rfl) dX0_init_69 rfl ?_
  exact c_ret C hr hlk dX0_init_72


