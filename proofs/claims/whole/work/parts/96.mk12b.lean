set_option maxHeartbeats 8000000 in
set_option maxRecDepth 100000 in
theorem mk_X12 {τ : Nat → ClassId} {h0 : Nat} (x : Nat → Nat) : cOk yX12_init cX12_init 1 rmi_X12 (cX12 x h0) τ h0 (.inr (12, [.null, .int 0, .int 0, .int 0, .int 0, .null, .null, .null, .null, .null, .null, .null, .null, .null, .null, .null, .null, .null, .int 0, .int 0, .int 0, .int 0, .int 0, .int 0, .null, .null, .null, .null, .int 0, .null, .null, .null, .null, .null, .null, .null, .int 0, .null, .null, .null, .null, .null, .null, .null, .null, .int 0, .null, .null, .null, .null, .null, .null, .null, .null, .int 0, .int 0])) [] ((List.range 48).map (kent shM (adL h0 x) τ kZ)) := by
  refine cOk.of (by decide) rfl (Nat.le_of_ble_eq_true rfl) ?_
  intro p l e s m args below meth c D C hin hX hs0 hr hlk
  refine mk12_0 (τ := τ) C hin hs0 hX ?_
  refine mk12_1 (τ := τ) C hin hs0 hX ?_
  refine mk12_2 (τ := τ) C hin hs0 hX ?_
  refine mk12_3 (τ := τ) C hin hs0 hX ?_
  refine mk12_4 (τ := τ) C hin hs0 hX ?_
  refine mk12_5 (τ := τ) C hin hs0 hX ?_
  refine mk12_6 (τ := τ) C hin hs0 hX ?_
  refine mk12_7 (τ := τ) C hin hs0 hX ?_
  refine mk12_8 (τ := τ) C hin hs0 hX ?_
  exact c_ret C hr hlk dX12_init_357

