theorem ff_X11_10 : kFf RX11 10 11 0 (.object "KeyFists$Text") := ⟨RX11, TX11, 13, tyX11, rfl, by decide, uw_X11, tb2 78 rfl rfl, tyX11_ok, nmX11, rfl, rfl, rfl⟩
theorem ff_X11_19 : kFf RX11 19 11 1 (.object "KeyFists$Code") := ⟨RX11, TX11, 13, tyX11, rfl, by decide, uw_X11, tb2 79 rfl rfl, tyX11_ok, nmX11, rfl, rfl, rfl⟩
theorem ff_X11_23 : kFf RX11 23 11 2 (.object "KeyFists$Code") := ⟨RX11, TX11, 13, tyX11, rfl, by decide, uw_X11, tb2 80 rfl rfl, tyX11_ok, nmX11, rfl, rfl, rfl⟩
theorem ff_X11_31 : kFf RX11 31 11 3 (.object "KeyFists$Grammar") := ⟨RX11, TX11, 13, tyX11, rfl, by decide, uw_X11, tb2 81 rfl rfl, tyX11_ok, nmX11, rfl, rfl, rfl⟩
theorem ff_X11_38 : kFf RX11 38 11 4 (.object "KeyFists$Hands") := ⟨RX11, TX11, 13, tyX11, rfl, by decide, uw_X11, tb2 82 rfl rfl, tyX11_ok, nmX11, rfl, rfl, rfl⟩
theorem ff_X11_45 : kFf RX11 45 11 5 (.object "KeyFists$Lines") := ⟨RX11, TX11, 13, tyX11, rfl, by decide, uw_X11, tb2 83 rfl rfl, tyX11_ok, nmX11, rfl, rfl, rfl⟩
theorem ff_X11_52 : kFf RX11 52 11 6 (.object "KeyFists$Tape") := ⟨RX11, TX11, 13, tyX11, rfl, by decide, uw_X11, tb2 84 rfl rfl, tyX11_ok, nmX11, rfl, rfl, rfl⟩
theorem ff_X11_61 : kFf RX11 61 11 7 (.object "KeyFists$Reader") := ⟨RX11, TX11, 13, tyX11, rfl, by decide, uw_X11, tb2 85 rfl rfl, tyX11_ok, nmX11, rfl, rfl, rfl⟩
theorem ff_X11_68 : kFf RX11 68 11 8 (.object "KeyFists$Saying") := ⟨RX11, TX11, 13, tyX11, rfl, by decide, uw_X11, tb2 86 rfl rfl, tyX11_ok, nmX11, rfl, rfl, rfl⟩
theorem ff_X11_77 : kFf RX11 77 11 9 (.object "KeyFists$Post") := ⟨RX11, TX11, 13, tyX11, rfl, by decide, uw_X11, tb2 87 rfl rfl, tyX11_ok, nmX11, rfl, rfl, rfl⟩
theorem ff_X11_84 : kFf RX11 84 11 10 (.object "KeyFists$Clocks") := ⟨RX11, TX11, 13, tyX11, rfl, by decide, uw_X11, tb2 88 rfl rfl, tyX11_ok, nmX11, rfl, rfl, rfl⟩
theorem ff_X11_91 : kFf RX11 91 11 11 (.object "KeyFists$Product") := ⟨RX11, TX11, 13, tyX11, rfl, by decide, uw_X11, tb2 89 rfl rfl, tyX11_ok, nmX11, rfl, rfl, rfl⟩
theorem ff_X11_95 : kFf RX11 95 11 12 (.object "KeyFists$Product") := ⟨RX11, TX11, 13, tyX11, rfl, by decide, uw_X11, tb2 90 rfl rfl, tyX11_ok, nmX11, rfl, rfl, rfl⟩
abbrev rmi_X11 : Room := { frames := 2, cells := 67, slots := 2357, locals := 36 }
theorem wi_X11 : kYi yX11_init cX11_init 1 0 := ⟨(tb1 23 rfl rfl), (tb1 1 rfl rfl), (tb1 24 rfl rfl), rfl, by decide, by decide, by decide +kernel⟩
def cX11 : State → Prop := fun U => va_Nw (.methodLinkNest RX11 9 yX10_init "KeyFists") U ∧ va_Nw (.methodLinkNest RX11 18 yX1_init "KeyFists") U ∧ va_Nw (.methodLinkNest RX11 37 yX3_init "KeyFists") U ∧ va_Nw (.methodLinkNest RX11 44 yX4_init "KeyFists") U ∧ va_Nw (.methodLinkNest RX11 51 yX9_init "KeyFists") U ∧ va_Nw (.methodLinkNest RX11 83 yX0_init "KeyFists") U ∧ va_Nw (.methodLinkNest RX11 90 yX6_init "KeyFists") U ∧ cov .int U
set_option maxHeartbeats 8000000 in
set_option maxRecDepth 100000 in
theorem mk_X11 {τ : Nat → ClassId} {h0 : Nat} (x : Nat → Nat) : cOk yX11_init cX11_init 1 rmi_X11 cX11 τ h0 (.inr (11, [.null, .null, .null, .null, .null, .null, .null, .null, .null, .null, .null, .null, .null])) [] ((List.range 68).map (kent shK (adL h0 x) τ kZ)) := by
  refine cOk.of (by decide) rfl (Nat.le_of_ble_eq_true rfl) ?_
  intro p l e s m args below meth c D C hin ⟨hX9, hX18, hX37, hX44, hX51, hX83, hX90, hXc⟩ hs0 hr hlk
  refine c_al C dX11_init_0 (i := 0) (x := h0) rfl (by simp [lv_args, Value.category]) ?_
  refine c_obj C (tb1 25 rfl rfl) (tb1 26 rfl rfl) (tb1 27 rfl rfl) dX11_init_1 ⟨(Nat.le_of_ble_eq_true rfl), (Nat.le_of_ble_eq_true rfl)⟩ ?_
  refine c_al C dX11_init_4 (i := 0) (x := h0) rfl (by simp [lv_args, Value.category]) ?_
  refine c_newE C (Cn := RX10) (T := TX10) (N := 2) (ci := 10) (fs := [.null, .int 0]) (k := 1) uw_X10 tyX10_ok (tb1 28 rfl rfl) (tb1 29 rfl rfl) (tb1 2 rfl rfl) rfl (by decide +kernel) (Nat.le_of_ble_eq_true rfl) (Nat.le_of_ble_eq_true rfl) dX11_init_5 rfl ?_
  refine c_dup C dX11_init_8 ?_
  refine c_callNE C (As := []) (rest := [.ref (h0 + 1), .ref (h0)]) (h1 := h0 + 1) wi_X10 hX9 rfl rfl (Nat.le_of_ble_eq_true rfl) rfl rfl (mk_X10) (fun _ _ _ _ _ => trivial) (fun _ _ _ _ _ _ => trivial) dX11_init_9 ?_
  refine c_put C hin hs0 ff_X11_10 rfl rfl (Nat.le_of_ble_eq_true rfl) dX11_init_12 rfl ?_
  refine c_al C dX11_init_15 (i := 0) (x := h0) rfl (by simp [lv_args, Value.category]) ?_
  refine c_newE C (Cn := RX1) (T := TX1) (N := 6) (ci := 1) (fs := [.null, .null, .null, .null, .int 0, .int 0]) (k := 3) uw_X1 tyX1_ok (tb1 42 rfl rfl) (tb1 43 rfl rfl) (tb1 3 rfl rfl) rfl (by decide +kernel) (Nat.le_of_ble_eq_true rfl) (Nat.le_of_ble_eq_true rfl) dX11_init_16 rfl ?_
  refine c_dup C dX11_init_19 ?_
  refine c_callNE C (As := []) (rest := [.ref (h0 + 3), .ref (h0)]) (h1 := h0 + 3) wi_X1 hX18 rfl rfl (Nat.le_of_ble_eq_true rfl) rfl rfl (mk_X1) (fun _ _ _ _ _ => trivial) (fun _ _ _ _ _ _ => trivial) dX11_init_20 ?_
  refine c_put C hin hs0 ff_X11_19 rfl rfl (Nat.le_of_ble_eq_true rfl) dX11_init_23 rfl ?_
  refine c_al C dX11_init_26 (i := 0) (x := h0) rfl (by simp [lv_args, Value.category]) ?_
  refine c_newE C (Cn := RX1) (T := TX1) (N := 6) (ci := 1) (fs := [.null, .null, .null, .null, .int 0, .int 0]) (k := 8) uw_X1 tyX1_ok (tb1 42 rfl rfl) (tb1 43 rfl rfl) (tb1 3 rfl rfl) rfl (by decide +kernel) (Nat.le_of_ble_eq_true rfl) (Nat.le_of_ble_eq_true rfl) dX11_init_27 rfl ?_
  refine c_dup C dX11_init_30 ?_
  refine c_callNE C (As := []) (rest := [.ref (h0 + 8), .ref (h0)]) (h1 := h0 + 8) wi_X1 hX18 rfl rfl (Nat.le_of_ble_eq_true rfl) rfl rfl (mk_X1) (fun _ _ _ _ _ => trivial) (fun _ _ _ _ _ _ => trivial) dX11_init_31 ?_
  refine c_put C hin hs0 ff_X11_23 rfl rfl (Nat.le_of_ble_eq_true rfl) dX11_init_34 rfl ?_
  refine c_al C dX11_init_37 (i := 0) (x := h0) rfl (by simp [lv_args, Value.category]) ?_
  refine c_newE C (Cn := RX2) (T := TX2) (N := 7) (ci := 2) (fs := [.null, .null, .null, .null, .int 0, .int 0, .int 0]) (k := 13) uw_X2 tyX2_ok (tb1 67 rfl rfl) (tb1 68 rfl rfl) (tb1 4 rfl rfl) rfl (by decide +kernel) (Nat.le_of_ble_eq_true rfl) (Nat.le_of_ble_eq_true rfl) dX11_init_38 rfl ?_
  refine c_dup C dX11_init_41 ?_
  refine c_al C dX11_init_42 (i := 0) (x := h0) rfl (by simp [lv_args, Value.category]) ?_
  refine c_get C fd_X11_10 (v := .ref (h0 + 1)) rfl dX11_init_43 ?_
  refine c_al C dX11_init_46 (i := 0) (x := h0) rfl (by simp [lv_args, Value.category]) ?_
  refine c_get C fd_X11_23 (v := .ref (h0 + 8)) rfl dX11_init_47 ?_
  refine c_callIE C (As := [.ref (h0 + 1), .ref (h0 + 8)]) (rest := [.ref (h0 + 13), .ref (h0)]) (h1 := h0 + 13) wi_X2 (tb1 69 rfl rfl) rfl rfl (Nat.le_of_ble_eq_true rfl) rfl rfl (mk_X2) (fun _ _ _ _ _ => trivial) (fun _ _ _ _ _ _ => trivial) dX11_init_50 ?_
  refine c_put C hin hs0 ff_X11_31 rfl rfl (Nat.le_of_ble_eq_true rfl) dX11_init_53 rfl ?_
  refine c_al C dX11_init_56 (i := 0) (x := h0) rfl (by simp [lv_args, Value.category]) ?_
  refine c_newE C (Cn := RX3) (T := TX3) (N := 2) (ci := 3) (fs := [.null, .int 0]) (k := 16) uw_X3 tyX3_ok (tb1 95 rfl rfl) (tb1 96 rfl rfl) (tb1 5 rfl rfl) rfl (by decide +kernel) (Nat.le_of_ble_eq_true rfl) (Nat.le_of_ble_eq_true rfl) dX11_init_57 rfl ?_
  refine c_dup C dX11_init_60 ?_
  refine c_callNE C (As := []) (rest := [.ref (h0 + 16), .ref (h0)]) (h1 := h0 + 16) wi_X3 hX37 rfl rfl (Nat.le_of_ble_eq_true rfl) rfl rfl (mk_X3) (fun _ _ _ _ _ => trivial) (fun _ _ _ _ _ _ => trivial) dX11_init_61 ?_
  refine c_put C hin hs0 ff_X11_38 rfl rfl (Nat.le_of_ble_eq_true rfl) dX11_init_64 rfl ?_
  refine c_al C dX11_init_67 (i := 0) (x := h0) rfl (by simp [lv_args, Value.category]) ?_
  refine c_newE C (Cn := RX4) (T := TX4) (N := 9) (ci := 4) (fs := [.null, .null, .null, .null, .null, .null, .int 0, .int 0, .int 0]) (k := 18) uw_X4 tyX4_ok (tb1 108 rfl rfl) (tb1 109 rfl rfl) (tb1 6 rfl rfl) rfl (by decide +kernel) (Nat.le_of_ble_eq_true rfl) (Nat.le_of_ble_eq_true rfl) dX11_init_68 rfl ?_
  refine c_dup C dX11_init_71 ?_
  refine c_callNE C (As := []) (rest := [.ref (h0 + 18), .ref (h0)]) (h1 := h0 + 18) wi_X4 hX44 rfl rfl (Nat.le_of_ble_eq_true rfl) rfl rfl (mk_X4) (fun _ _ _ _ _ => trivial) (fun _ _ _ _ _ _ => trivial) dX11_init_72 ?_
  refine c_put C hin hs0 ff_X11_45 rfl rfl (Nat.le_of_ble_eq_true rfl) dX11_init_75 rfl ?_
  refine c_al C dX11_init_78 (i := 0) (x := h0) rfl (by simp [lv_args, Value.category]) ?_
  refine c_newE C (Cn := RX9) (T := TX9) (N := 2) (ci := 9) (fs := [.null, .int 0]) (k := 25) uw_X9 tyX9_ok (tb1 142 rfl rfl) (tb1 143 rfl rfl) (tb1 7 rfl rfl) rfl (by decide +kernel) (Nat.le_of_ble_eq_true rfl) (Nat.le_of_ble_eq_true rfl) dX11_init_79 rfl ?_
  refine c_dup C dX11_init_82 ?_
  refine c_callNE C (As := []) (rest := [.ref (h0 + 25), .ref (h0)]) (h1 := h0 + 25) wi_X9 hX51 rfl rfl (Nat.le_of_ble_eq_true rfl) rfl rfl (mk_X9) (fun _ _ _ _ _ => trivial) (fun _ _ _ _ _ _ => trivial) dX11_init_83 ?_
  refine c_put C hin hs0 ff_X11_52 rfl rfl (Nat.le_of_ble_eq_true rfl) dX11_init_86 rfl ?_
  refine c_al C dX11_init_89 (i := 0) (x := h0) rfl (by simp [lv_args, Value.category]) ?_
  refine c_newE C (Cn := RX7) (T := TX7) (N := 13) (ci := 7) (fs := [.null, .null, .null, .null, .null, .null, .int 0, .int 0, .null, .null, .null, .null, .int 0]) (k := 27) uw_X7 tyX7_ok (tb1 155 rfl rfl) (tb1 156 rfl rfl) (tb1 8 rfl rfl) rfl (by decide +kernel) (Nat.le_of_ble_eq_true rfl) (Nat.le_of_ble_eq_true rfl) dX11_init_90 rfl ?_
  refine c_dup C dX11_init_93 ?_
  refine c_al C dX11_init_94 (i := 0) (x := h0) rfl (by simp [lv_args, Value.category]) ?_
  refine c_get C fd_X11_19 (v := .ref (h0 + 3)) rfl dX11_init_95 ?_
  refine c_al C dX11_init_98 (i := 0) (x := h0) rfl (by simp [lv_args, Value.category]) ?_
  refine c_get C fd_X11_52 (v := .ref (h0 + 25)) rfl dX11_init_99 ?_
  refine c_al C dX11_init_102 (i := 0) (x := h0) rfl (by simp [lv_args, Value.category]) ?_
  refine c_get C fd_X11_38 (v := .ref (h0 + 16)) rfl dX11_init_103 ?_
  refine c_al C dX11_init_106 (i := 0) (x := h0) rfl (by simp [lv_args, Value.category]) ?_
  refine c_get C fd_X11_45 (v := .ref (h0 + 18)) rfl dX11_init_107 ?_
  refine c_callIE C (As := [.ref (h0 + 3), .ref (h0 + 25), .ref (h0 + 16), .ref (h0 + 18)]) (rest := [.ref (h0 + 27), .ref (h0)]) (h1 := h0 + 27) wi_X7 (tb1 157 rfl rfl) rfl rfl (Nat.le_of_ble_eq_true rfl) rfl rfl (mk_X7) (fun _ _ _ _ _ => trivial) (fun _ _ _ _ _ _ => trivial) dX11_init_110 ?_
  refine c_put C hin hs0 ff_X11_61 rfl rfl (Nat.le_of_ble_eq_true rfl) dX11_init_113 rfl ?_
  refine c_al C dX11_init_116 (i := 0) (x := h0) rfl (by simp [lv_args, Value.category]) ?_
  refine c_newE C (Cn := RX8) (T := TX8) (N := 5) (ci := 8) (fs := [.null, .null, .null, .null, .int 0]) (k := 34) uw_X8 tyX8_ok (tb1 201 rfl rfl) (tb1 202 rfl rfl) (tb1 9 rfl rfl) rfl (by decide +kernel) (Nat.le_of_ble_eq_true rfl) (Nat.le_of_ble_eq_true rfl) dX11_init_117 rfl ?_
  refine c_dup C dX11_init_120 ?_
  refine c_al C dX11_init_121 (i := 0) (x := h0) rfl (by simp [lv_args, Value.category]) ?_
  refine c_get C fd_X11_10 (v := .ref (h0 + 1)) rfl dX11_init_122 ?_
  refine c_al C dX11_init_125 (i := 0) (x := h0) rfl (by simp [lv_args, Value.category]) ?_
  refine c_get C fd_X11_19 (v := .ref (h0 + 3)) rfl dX11_init_126 ?_
  refine c_callIE C (As := [.ref (h0 + 1), .ref (h0 + 3)]) (rest := [.ref (h0 + 34), .ref (h0)]) (h1 := h0 + 34) wi_X8 (tb1 203 rfl rfl) rfl rfl (Nat.le_of_ble_eq_true rfl) rfl rfl (mk_X8) (fun _ _ _ _ _ => trivial) (fun _ _ _ _ _ _ => trivial) dX11_init_129 ?_
  refine c_put C hin hs0 ff_X11_68 rfl rfl (Nat.le_of_ble_eq_true rfl) dX11_init_132 rfl ?_
  refine c_al C dX11_init_135 (i := 0) (x := h0) rfl (by simp [lv_args, Value.category]) ?_
  refine c_newE C (Cn := RX5) (T := TX5) (N := 13) (ci := 5) (fs := [.null, .null, .null, .null, .null, .null, .int 0, .null, .null, .null, .null, .null, .null]) (k := 37) uw_X5 tyX5_ok (tb1 223 rfl rfl) (tb1 224 rfl rfl) (tb1 10 rfl rfl) rfl (by decide +kernel) (Nat.le_of_ble_eq_true rfl) (Nat.le_of_ble_eq_true rfl) dX11_init_136 rfl ?_
  refine c_dup C dX11_init_139 ?_
  refine c_al C dX11_init_140 (i := 0) (x := h0) rfl (by simp [lv_args, Value.category]) ?_
  refine c_get C fd_X11_45 (v := .ref (h0 + 18)) rfl dX11_init_141 ?_
  refine c_callIE C (As := [.ref (h0 + 18)]) (rest := [.ref (h0 + 37), .ref (h0)]) (h1 := h0 + 37) wi_X5 (tb1 225 rfl rfl) rfl rfl (Nat.le_of_ble_eq_true rfl) rfl rfl (mk_X5) (fun _ _ _ _ _ => trivial) (fun _ _ _ _ _ _ => trivial) dX11_init_144 ?_
  refine c_put C hin hs0 ff_X11_77 rfl rfl (Nat.le_of_ble_eq_true rfl) dX11_init_147 rfl ?_
  refine c_al C dX11_init_150 (i := 0) (x := h0) rfl (by simp [lv_args, Value.category]) ?_
  refine c_newE C (Cn := RX0) (T := TX0) (N := 10) (ci := 0) (fs := [.null, .null, .null, .null, .int 0, .null, .null, .null, .int 0, .null]) (k := 49) uw_X0 tyX0_ok (tb2 29 rfl rfl) (tb2 30 rfl rfl) (tb1 11 rfl rfl) rfl (by decide +kernel) (Nat.le_of_ble_eq_true rfl) (Nat.le_of_ble_eq_true rfl) dX11_init_151 rfl ?_
  refine c_dup C dX11_init_154 ?_
  refine c_callNE C (As := []) (rest := [.ref (h0 + 49), .ref (h0)]) (h1 := h0 + 49) wi_X0 hX83 rfl rfl (Nat.le_of_ble_eq_true rfl) rfl rfl (mk_X0 (g := fun k => some (adL h0 x (58 + k))) (fun i hi => adL_in h0 x 58 i (by omega))) (fun _ U g mk q => cov_moved (u := U) (U := U.calling g mk _) (Vm.Alike.refl U.vm) q) (fun _ _ _ U _ hW => cov_moved hW.alike hXc) dX11_init_155 ?_
  refine c_put C hin hs0 ff_X11_84 rfl rfl (Nat.le_of_ble_eq_true rfl) dX11_init_158 rfl ?_
  refine c_al C dX11_init_161 (i := 0) (x := h0) rfl (by simp [lv_args, Value.category]) ?_
  refine c_newE C (Cn := RX6) (T := TX6) (N := 1) (ci := 6) (fs := [.null]) (k := 64) uw_X6 tyX6_ok (tb2 68 rfl rfl) (tb2 69 rfl rfl) (tb1 12 rfl rfl) rfl (by decide +kernel) (Nat.le_of_ble_eq_true rfl) (Nat.le_of_ble_eq_true rfl) dX11_init_162 rfl ?_
  refine c_dup C dX11_init_165 ?_
  refine c_callNE C (As := []) (rest := [.ref (h0 + 64), .ref (h0)]) (h1 := h0 + 64) wi_X6 hX90 rfl rfl (Nat.le_of_ble_eq_true rfl) rfl rfl (mk_X6) (fun _ _ _ _ _ => trivial) (fun _ _ _ _ _ _ => trivial) dX11_init_166 ?_
  refine c_put C hin hs0 ff_X11_91 rfl rfl (Nat.le_of_ble_eq_true rfl) dX11_init_169 rfl ?_
  refine c_al C dX11_init_172 (i := 0) (x := h0) rfl (by simp [lv_args, Value.category]) ?_
  refine c_newE C (Cn := RX6) (T := TX6) (N := 1) (ci := 6) (fs := [.null]) (k := 66) uw_X6 tyX6_ok (tb2 68 rfl rfl) (tb2 69 rfl rfl) (tb1 12 rfl rfl) rfl (by decide +kernel) (Nat.le_of_ble_eq_true rfl) (Nat.le_of_ble_eq_true rfl) dX11_init_173 rfl ?_
  refine c_dup C dX11_init_176 ?_
  refine c_callNE C (As := []) (rest := [.ref (h0 + 66), .ref (h0)]) (h1 := h0 + 66) wi_X6 hX90 rfl rfl (Nat.le_of_ble_eq_true rfl) rfl rfl (mk_X6) (fun _ _ _ _ _ => trivial) (fun _ _ _ _ _ _ => trivial) dX11_init_177 ?_
  refine c_put C hin hs0 ff_X11_95 rfl rfl (Nat.le_of_ble_eq_true rfl) dX11_init_180 rfl ?_
  exact c_ret C hr hlk dX11_init_183

