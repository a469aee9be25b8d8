def wX4 (cA : Nat → ClassId) (r : Nat → Nat) : va_W := [((r 0), .inr (4, [.int 0, .int 0, .ref (r 1)])), ((r 1), .inl (cA 0, 80, .inl (fun _ => 0)))]
set_option maxHeartbeats 4000000 in
set_option maxRecDepth 100000 in
theorem kX4_init {l : Launch} {D : va_G} {cA : Nat → ClassId} {t0 : Nat} : gM l D cA (g_SS t0) yX4_init cX4_init 1 { frames := 1, cells := 1, slots := 80, locals := 12 } 4 [.int 0, .int 0, .null] (wX4 cA) := by
  refine g_enter rfl rfl (by decide) ?_
  intro p e s m below meth c A h hlk hr hAe X hss
  clear hAe
  refine g_aload X 0 dX4_init_0 rfl ?_
  refine g_objI X dX4_init_1 wl_X4_3 (by decide) (by decide) ?_
  refine g_aload X 0 dX4_init_4 rfl ?_
  refine g_bipush X (80) dX4_init_5 (by decide) ?_
  refine g_newa X 80 (fun q1 => [(h, .inr (4, [.int 0, .int 0, .null])), (q1, .inl (cA 0, 80, .inl (fun _ => 0)))]) dX4_init_7 (by decide) (by decide) (by decide) (Nat.le_of_ble_eq_true rfl) (Nat.le_of_ble_eq_true rfl) (fun _ => rfl) (fun q1 => ?_)
  refine g_putF X (ty := (.array .int)) 0 2 [(h, .inr (4, [.int 0, .int 0, .ref q1])), (q1, .inl (cA 0, 80, .inl (fun _ => 0)))] dX4_init_9 wY_X4 tyX4_ok nmX4 rfl rfl (by decide) wf_X4_9 rfl rfl (by decide +kernel) rfl rfl (Nat.le_of_ble_eq_true rfl) rfl ?_
  exact g_ret X hlk hr (fun k => [h, q1].getD k 0) dX4_init_12 rfl rfl rfl rfl
