def wX5 (cA : Nat → ClassId) (r : Nat → Nat) : va_W := [((r 0), .inr (5, [.int 0, .int 0, .int 0, .int 0, .int 0, .int 0, .int 0, .int 0, .int 0, .int 0, .int 0, .int 0, .int 0, .int 0, .int 0, .int 0, .int 0, .int 0]))]
set_option maxHeartbeats 4000000 in
set_option maxRecDepth 100000 in
theorem kX5_init {l : Launch} {D : va_G} {cA : Nat → ClassId} {t0 : Nat} : gM l D cA (g_SS t0) yX5_init cX5_init 1 { frames := 1, cells := 0, slots := 0, locals := 12 } 5 [.int 0, .int 0, .int 0, .int 0, .int 0, .int 0, .int 0, .int 0, .int 0, .int 0, .int 0, .int 0, .int 0, .int 0, .int 0, .int 0, .int 0, .int 0] (wX5 cA) := by
  refine g_enter rfl rfl (by decide) ?_
  intro p e s m below meth c A h hlk hr hAe X hss
  clear hAe
  refine g_aload X 0 dX5_init_0 rfl ?_
  refine g_objI X dX5_init_1 wl_X5_3 (by decide) (by decide) ?_
  exact g_ret X hlk hr (fun k => [h].getD k 0) dX5_init_4 rfl rfl rfl rfl
