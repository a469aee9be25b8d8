def wX2 (cA : Nat → ClassId) (r : Nat → Nat) : va_W := [((r 0), .inr (2, [.int (-1), .int 0, .ref (r 1)])), ((r 1), .inl (cA 0, 24, .inl (fun _ => 0)))]
set_option maxHeartbeats 4000000 in
set_option maxRecDepth 100000 in
theorem kX2_init {l : Launch} {D : va_G} {cA : Nat → ClassId} {t0 : Nat} : gM l D cA (g_SS t0) yX2_init cX2_init 1 { frames := 1, cells := 1, slots := 24, locals := 12 } 2 [.int 0, .int 0, .null] (wX2 cA) := by
  refine g_enter rfl rfl (by decide) ?_
  intro p e s m below meth c A h hlk hr hAe X hss
  clear hAe
  refine g_aload X 0 dX2_init_0 rfl ?_
  refine g_objI X dX2_init_1 wl_X2_3 (by decide) (by decide) ?_
  refine g_aload X 0 dX2_init_4 rfl ?_
  refine g_iconst X (-1) dX2_init_5 (by decide) ?_
  refine g_put X (ty := .int) 0 0 [(h, .inr (2, [.int (-1), .int 0, .null]))] dX2_init_6 wY_X2 tyX2_ok nmX2 rfl rfl (by decide) wf_X2_9 rfl (by decide +kernel) rfl rfl (Nat.le_of_ble_eq_true rfl) rfl ?_
  refine g_aload X 0 dX2_init_9 rfl ?_
  refine g_bipush X (24) dX2_init_10 (by decide) ?_
  refine g_newa X 24 (fun q1 => [(h, .inr (2, [.int (-1), .int 0, .null])), (q1, .inl (cA 0, 24, .inl (fun _ => 0)))]) dX2_init_12 (by decide) (by decide) (by decide) (Nat.le_of_ble_eq_true rfl) (Nat.le_of_ble_eq_true rfl) (fun _ => rfl) (fun q1 => ?_)
  refine g_putF X (ty := (.array .int)) 0 2 [(h, .inr (2, [.int (-1), .int 0, .ref q1])), (q1, .inl (cA 0, 24, .inl (fun _ => 0)))] dX2_init_14 wY_X2 tyX2_ok nmX2 rfl rfl (by decide) wf_X2_15 rfl rfl (by decide +kernel) rfl rfl (Nat.le_of_ble_eq_true rfl) rfl ?_
  exact g_ret X hlk hr (fun k => [h, q1].getD k 0) dX2_init_17 rfl rfl rfl rfl
