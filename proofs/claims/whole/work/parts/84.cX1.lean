def wX1 (cA : Nat → ClassId) (r : Nat → Nat) : va_W := [((r 0), .inr (1, [.int 0, .ref (r 1), .int 0, .int 0, .ref (r 2), .ref (r 3)])), ((r 1), .inl (cA 0, 6, .inl (fun _ => 0))), ((r 2), .inl (cA 0, 6, .inl (fun _ => 0))), ((r 3), .inl (cA 0, 6, .inl (fun _ => 0)))]
set_option maxHeartbeats 4000000 in
set_option maxRecDepth 100000 in
theorem kX1_init {l : Launch} {D : va_G} {cA : Nat → ClassId} {t0 : Nat} : gM l D cA (g_SS t0) yX1_init cX1_init 1 { frames := 1, cells := 3, slots := 18, locals := 12 } 1 [.int 0, .null, .int 0, .int 0, .null, .null] (wX1 cA) := by
  refine g_enter rfl rfl (by decide) ?_
  intro p e s m below meth c A h hlk hr hAe X hss
  clear hAe
  refine g_aload X 0 dX1_init_0 rfl ?_
  refine g_objI X dX1_init_1 wl_X1_3 (by decide) (by decide) ?_
  refine g_aload X 0 dX1_init_4 rfl ?_
  refine g_bipush X (6) dX1_init_5 (by decide) ?_
  refine g_newa X 6 (fun q1 => [(h, .inr (1, [.int 0, .null, .int 0, .int 0, .null, .null])), (q1, .inl (cA 0, 6, .inl (fun _ => 0)))]) dX1_init_7 (by decide) (by decide) (by decide) (Nat.le_of_ble_eq_true rfl) (Nat.le_of_ble_eq_true rfl) (fun _ => rfl) (fun q1 => ?_)
  refine g_putF X (ty := (.array .int)) 0 1 [(h, .inr (1, [.int 0, .ref q1, .int 0, .int 0, .null, .null])), (q1, .inl (cA 0, 6, .inl (fun _ => 0)))] dX1_init_9 wY_X1 tyX1_ok nmX1 rfl rfl (by decide) wf_X1_9 rfl rfl (by decide +kernel) rfl rfl (Nat.le_of_ble_eq_true rfl) rfl ?_
  refine g_aload X 0 dX1_init_12 rfl ?_
  refine g_bipush X (6) dX1_init_13 (by decide) ?_
  refine g_newa X 6 (fun q2 => [(h, .inr (1, [.int 0, .ref q1, .int 0, .int 0, .null, .null])), (q1, .inl (cA 0, 6, .inl (fun _ => 0))), (q2, .inl (cA 0, 6, .inl (fun _ => 0)))]) dX1_init_15 (by decide) (by decide) (by decide) (Nat.le_of_ble_eq_true rfl) (Nat.le_of_ble_eq_true rfl) (fun _ => rfl) (fun q2 => ?_)
  refine g_putF X (ty := (.array .int)) 0 4 [(h, .inr (1, [.int 0, .ref q1, .int 0, .int 0, .ref q2, .null])), (q1, .inl (cA 0, 6, .inl (fun _ => 0))), (q2, .inl (cA 0, 6, .inl (fun _ => 0)))] dX1_init_17 wY_X1 tyX1_ok nmX1 rfl rfl (by decide) wf_X1_15 rfl rfl (by decide +kernel) rfl rfl (Nat.le_of_ble_eq_true rfl) rfl ?_
  refine g_aload X 0 dX1_init_20 rfl ?_
  refine g_bipush X (6) dX1_init_21 (by decide) ?_
  refine g_newa X 6 (fun q3 => [(h, .inr (1, [.int 0, .ref q1, .int 0, .int 0, .ref q2, .null])), (q1, .inl (cA 0, 6, .inl (fun _ => 0))), (q2, .inl (cA 0, 6, .inl (fun _ => 0))), (q3, .inl (cA 0, 6, .inl (fun _ => 0)))]) dX1_init_23 (by decide) (by decide) (by decide) (Nat.le_of_ble_eq_true rfl) (Nat.le_of_ble_eq_true rfl) (fun _ => rfl) (fun q3 => ?_)
  refine g_putF X (ty := (.array .int)) 0 5 [(h, .inr (1, [.int 0, .ref q1, .int 0, .int 0, .ref q2, .ref q3])), (q1, .inl (cA 0, 6, .inl (fun _ => 0))), (q2, .inl (cA 0, 6, .inl (fun _ => 0))), (q3, .inl (cA 0, 6, .inl (fun _ => 0)))] dX1_init_25 wY_X1 tyX1_ok nmX1 rfl rfl (by decide) wf_X1_18 rfl rfl (by decide +kernel) rfl rfl (Nat.le_of_ble_eq_true rfl) rfl ?_
  exact g_ret X hlk hr (fun k => [h, q1, q2, q3].getD k 0) dX1_init_28 rfl rfl rfl rfl
