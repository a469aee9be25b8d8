/-! what is known at the law's start: classes, arrays -/
theorem wo_int : Cond.arrayOver (.array .int) ∈ lw_tbl := mm_t1 (List.mem_of_getElem? (i := 32) rfl)
theorem wo_X5 : Cond.arrayOver (.object RX5) ∈ lw_tbl := mm_t1 (List.mem_of_getElem? (i := 84) rfl)
theorem wo_X2 : Cond.arrayOver (.object RX2) ∈ lw_tbl := mm_t1 (List.mem_of_getElem? (i := 231) rfl)
theorem k_cl {s : State} {args : Array Value} (hts : ∀ w ∈ lw_tbl, w.before args s = true) : ∃ D : va_G, ∀ (k : Nat) (q : vw_C), vwCl[k]? = some q → u_Kn s q.1 q.2.1 q.2.2 (D.1 k) (D.2 k) := by
  have ht : ∀ w ∈ mm_TB, w.before args s = true := fun w h => hts w (mm_tbl h)
  obtain ⟨c0, i0, h0⟩ := u_known (C := RX0) (T := TX0) (N := 9) (n := 9) ht wY_X0 (ht _ wz_X0)
  obtain ⟨c1, i1, h1⟩ := u_known (C := RX1) (T := TX1) (N := 6) (n := 6) ht wY_X1 (ht _ wz_X1)
  obtain ⟨c2, i2, h2⟩ := u_known (C := RX2) (T := TX2) (N := 3) (n := 3) ht wY_X2 (ht _ wz_X2)
  obtain ⟨c3, i3, h3⟩ := u_known (C := RX3) (T := TX3) (N := 4) (n := 4) ht wY_X3 (ht _ wz_X3)
  obtain ⟨c4, i4, h4⟩ := u_known (C := RX4) (T := TX4) (N := 3) (n := 3) ht wY_X4 (ht _ wz_X4)
  obtain ⟨c5, i5, h5⟩ := u_known (C := RX5) (T := TX5) (N := 18) (n := 18) ht wY_X5 (ht _ wz_X5)
  obtain ⟨c6, i6, h6⟩ := u_known (C := RX6) (T := TX6) (N := 8) (n := 8) ht wY_X6 (ht _ wz_X6)
  obtain ⟨c7, i7, h7⟩ := u_known (C := RX7) (T := TX7) (N := 43) (n := 43) ht wY_X7 (ht _ wz_X7)
  refine ⟨(fun k => [c0, c1, c2, c3, c4, c5, c6, c7].getD k c0, fun k => [i0, i1, i2, i3, i4, i5, i6, i7].getD k i0), fun k q hq => ?_⟩
  match k, hq with
  | 0, hq => cases hq; exact h0
  | 1, hq => cases hq; exact h1
  | 2, hq => cases hq; exact h2
  | 3, hq => cases hq; exact h3
  | 4, hq => cases hq; exact h4
  | 5, hq => cases hq; exact h5
  | 6, hq => cases hq; exact h6
  | 7, hq => cases hq; exact h7
  | k + 8, hq => cases hq
theorem k_all {s : State} {args : Array Value} (hts : ∀ w ∈ lw_tbl, w.before args s = true) : ∃ (D : va_G) (cA : Nat → ClassId), va_K D vwCl (mm_ty cA) s := by
  obtain ⟨D, hD⟩ := k_cl hts
  obtain ⟨a0, k0, m0, p0, p1, p2⟩ := Cond.arrayClass_spec (hts _ (mm_tbl wa_int))
  obtain ⟨m5, a5, k5, p3, -, p4, p5, p6⟩ := Cond.arrayOver_spec (hts _ wo_X5)
  obtain ⟨m2, a2, k2, p7, -, p8, p9, p10⟩ := Cond.arrayOver_spec (hts _ wo_X2)
  obtain ⟨m3, a3, k3, p11, -, p12, p13, p14⟩ := arrayOver_specB (hts _ wo_int)
  refine ⟨D, fun k => [a0, a5, a2, a3].getD k a0, hD, fun k q hq => ?_⟩
  match k, hq with
  | 0, hq => cases hq; exact ⟨fun n z => ⟨fun k h => (by cases h), k0, p1, m0, p2⟩, p0⟩
  | 1, hq => cases hq; exact ⟨fun n z => ⟨fun k h => (by cases h), k5, p4, m5, p5⟩, k5, m5, p4, p5, p3, p6⟩
  | 2, hq => cases hq; exact ⟨fun n z => ⟨fun k h => (by cases h), k2, p8, m2, p9⟩, k2, m2, p8, p9, p7, p10⟩
  | 3, hq => cases hq; exact ⟨fun n z => ⟨fun k h => (by cases h), k3, p12, m3, p13⟩, p14⟩
  | k + 4, hq => cases hq
