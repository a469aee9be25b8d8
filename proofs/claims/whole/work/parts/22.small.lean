theorem q_planks (v : Int) (hv : I32 v) {σ τ : IM} (h : RX σ τ) : Like (fX6_planks (mI v) (enc σ)) (fX7_planks (mI v) (enc τ)) := by
  obtain ⟨⟨n1, n2, n3⟩, n4, n5, n6⟩ := h.now
  unfold fX6_planks fX7_planks
  simp (implicitDefEqProofs := false) (maxSteps := 1000000) (disch := omega) only [↓mm_lt_s, ↓cl_in, ↓cl_wi, ↓cl_has, ↓cl_isP, mL_le, lit_n, litL_n, mL_mI, mL_neg, mm_cl_s, mI_lt, mI_le, mI_eq, enc_at, enc_wr, enc_cp, mI_neg, mI_add, mI_sub, mI_mul, mI_ix, mm_ck_ok, mm_nz_ok, mm_bo_c, mm_bo_m0, mm_bo_m1, b01, Int.toNat_natCast, Int.reduceToNat, Int.reduceNeg, Int.reduceSub, Int.reduceAdd, Int.reduceMul, Int.reduceLT, Int.reduceLE, Int.reduceEq, ↓reduceIte, not_true, not_false_eq_true, not_true_eq_false, and_self, true_and, and_true, false_and, and_false, Decidable.not_not, stv1, stv2, stv3, stv4]
  by_cases c1 : v < 1
  · rw [if_pos c1, if_pos (by omega)]; exact Like.mk rfl rfl h
  · by_cases c2 : v ≤ 400
    · rw [if_neg c1, if_pos c2, if_neg (by omega), n1]
      refine Like.mk rfl rfl (h.rest ?_ (fun k j h1 h2 => iw_ne (by omega)) (fun k j h1 => iw_ne (by omega)))
      obtain ⟨b1, b2, b3, b4⟩ := h.1
      refine ⟨⟨rfl, by show 1 ≤ v; omega, c2⟩, b2, fun i hi => ?_, fun p hp => ?_⟩
      · rw [iw_ne (by omega), iw_ne (by omega)]; exact b3 i hi
      · obtain ⟨d1, d2, d3⟩ := b4 p hp
        refine ⟨fun j hj => ?_, ?_, ?_⟩
        · rw [iw_ne (by omega), iw_ne (by omega)]; exact d1 j hj
        · rw [iw_ne (by omega), iw_ne (by omega)]; exact d2
        · rw [iw_ne (by omega)]; exact d3
    · rw [if_neg c1, if_neg c2, if_pos (by omega)]; exact Like.mk rfl rfl h
theorem q_clear {σ τ : IM} (h : RX σ τ) : Like (fX6_clear (enc σ)) (fX7_clear (enc τ)) := by
  obtain ⟨⟨n1, n2, n3⟩, n4, n5, n6⟩ := h.now
  unfold fX6_clear fX7_clear
  simp (implicitDefEqProofs := false) (maxSteps := 1000000) (disch := omega) only [n4, ↓mm_lt_s, ↓cl_in, ↓cl_wi, ↓cl_has, ↓cl_isP, mL_le, lit_n, litL_n, mL_mI, mL_neg, mm_cl_s, mI_lt, mI_le, mI_eq, enc_at, enc_wr, enc_cp, mI_neg, mI_add, mI_sub, mI_mul, mI_ix, mm_ck_ok, mm_nz_ok, mm_bo_c, mm_bo_m0, mm_bo_m1, b01, Int.toNat_natCast, Int.reduceToNat, Int.reduceNeg, Int.reduceSub, Int.reduceAdd, Int.reduceMul, Int.reduceLT, Int.reduceLE, Int.reduceEq, ↓reduceIte, not_true, not_false_eq_true, not_true_eq_false, and_self, true_and, and_true, false_and, and_false, Decidable.not_not, stv1, stv2, stv3, stv4]
  refine Like.mk rfl rfl (h.rest ?_ (fun k j h1 h2 => iw_ne (by omega)) (fun k j h1 => iw_ne (by omega)))
  obtain ⟨b1, b2, b3, b4⟩ := h.1
  refine ⟨b1, ⟨rfl, by show (0 : Int) ≤ 0; omega, by show (0 : Int) ≤ 10; omega⟩, fun i hi => ?_, fun p hp => ?_⟩
  · rw [iw_ne (by omega), iw_ne (by omega)]; exact b3 i hi
  · exact absurd hp (by show ¬ (p : Int) < 0; omega)
theorem leastOf_s (i : Nat) (hi : i < 6) (ν : Mm) : fX7_leastOf (mI i) ν = some (mI (lawLo i), ν) := by
  unfold fX7_leastOf
  simp (implicitDefEqProofs := false) (maxSteps := 1000000) (disch := omega) only [↓mm_lt_s, ↓cl_in, ↓cl_wi, ↓cl_has, ↓cl_isP, mL_le, lit_n, litL_n, mL_mI, mL_neg, mm_cl_s, mI_lt, mI_le, mI_eq, enc_at, enc_wr, enc_cp, mI_neg, mI_add, mI_sub, mI_mul, mI_ix, mm_ck_ok, mm_nz_ok, mm_bo_c, mm_bo_m0, mm_bo_m1, b01, Int.toNat_natCast, Int.reduceToNat, Int.reduceNeg, Int.reduceSub, Int.reduceAdd, Int.reduceMul, Int.reduceLT, Int.reduceLE, Int.reduceEq, ↓reduceIte, not_true, not_false_eq_true, not_true_eq_false, and_self, true_and, and_true, false_and, and_false, Decidable.not_not, stv1, stv2, stv3, stv4]
  have : i = 0 ∨ i = 1 ∨ i = 2 ∨ i = 3 ∨ i = 4 ∨ i = 5 := by omega
  rcases this with rfl | rfl | rfl | rfl | rfl | rfl <;> rfl
theorem mostOf_s (i : Nat) (hi : i < 6) (ν : Mm) : fX7_mostOf (mI i) ν = some (mI (lawHi i), ν) := by
  unfold fX7_mostOf
  simp (implicitDefEqProofs := false) (maxSteps := 1000000) (disch := omega) only [↓mm_lt_s, ↓cl_in, ↓cl_wi, ↓cl_has, ↓cl_isP, mL_le, lit_n, litL_n, mL_mI, mL_neg, mm_cl_s, mI_lt, mI_le, mI_eq, enc_at, enc_wr, enc_cp, mI_neg, mI_add, mI_sub, mI_mul, mI_ix, mm_ck_ok, mm_nz_ok, mm_bo_c, mm_bo_m0, mm_bo_m1, b01, Int.toNat_natCast, Int.reduceToNat, Int.reduceNeg, Int.reduceSub, Int.reduceAdd, Int.reduceMul, Int.reduceLT, Int.reduceLE, Int.reduceEq, ↓reduceIte, not_true, not_false_eq_true, not_true_eq_false, and_self, true_and, and_true, false_and, and_false, Decidable.not_not, stv1, stv2, stv3, stv4]
  have : i = 0 ∨ i = 1 ∨ i = 2 ∨ i = 3 ∨ i = 4 ∨ i = 5 := by omega
  rcases this with rfl | rfl | rfl | rfl | rfl | rfl <;> rfl
theorem q_rule (a v : Int) (ha : I32 a) (hv : I32 v) {σ τ : IM} (h : RX σ τ) : Like (fX6_rule (mI a) (mI v) (enc σ)) (fX7_rule (mI a) (mI v) (enc τ)) := by
  obtain ⟨⟨n1, n2, n3⟩, n4, n5, n6⟩ := h.now
  unfold fX6_rule fX7_rule
  simp (implicitDefEqProofs := false) (maxSteps := 1000000) (disch := omega) only [↓mm_lt_s, ↓cl_in, ↓cl_wi, ↓cl_has, ↓cl_isP, mL_le, lit_n, litL_n, mL_mI, mL_neg, mm_cl_s, mI_lt, mI_le, mI_eq, enc_at, enc_wr, enc_cp, mI_neg, mI_add, mI_sub, mI_mul, mI_ix, mm_ck_ok, mm_nz_ok, mm_bo_c, mm_bo_m0, mm_bo_m1, b01, Int.toNat_natCast, Int.reduceToNat, Int.reduceNeg, Int.reduceSub, Int.reduceAdd, Int.reduceMul, Int.reduceLT, Int.reduceLE, Int.reduceEq, ↓reduceIte, not_true, not_false_eq_true, not_true_eq_false, and_self, true_and, and_true, false_and, and_false, Decidable.not_not, stv1, stv2, stv3, stv4]
  by_cases c0 : 0 ≤ a ∧ a < 6
  · obtain ⟨i, rfl⟩ := Int.eq_ofNat_of_zero_le c0.1
    have hi : i < 6 := by omega
    obtain ⟨l1, l2, l3⟩ := h.law i hi
    have q1 := lawB i
    have q2 := lawB2 i
    simp (implicitDefEqProofs := false) (maxSteps := 1000000) (disch := omega) only [leastOf_s, mostOf_s, ↓mm_lt_s, ↓cl_in, ↓cl_wi, ↓cl_has, ↓cl_isP, mL_le, lit_n, litL_n, mL_mI, mL_neg, mm_cl_s, mI_lt, mI_le, mI_eq, enc_at, enc_wr, enc_cp, mI_neg, mI_add, mI_sub, mI_mul, mI_ix, mm_ck_ok, mm_nz_ok, mm_bo_c, mm_bo_m0, mm_bo_m1, b01, Int.toNat_natCast, Int.reduceToNat, Int.reduceNeg, Int.reduceSub, Int.reduceAdd, Int.reduceMul, Int.reduceLT, Int.reduceLE, Int.reduceEq, ↓reduceIte, not_true, not_false_eq_true, not_true_eq_false, and_self, true_and, and_true, false_and, and_false, Decidable.not_not, stv1, stv2, stv3, stv4]
    by_cases c1 : v < lawLo i
    · repeat (first | rw [if_pos (by omega)] | rw [if_neg (by omega)])
      exact Like.mk rfl rfl h
    · by_cases c2 : v ≤ lawHi i
      · repeat (first | rw [if_pos (by omega)] | rw [if_neg (by omega)])
        rw [l1]
        refine Like.mk rfl rfl (h.rest ?_ (fun k j h1 h2 => iw_ne (by omega)) (fun k j h1 => iw_ne (by omega)))
        obtain ⟨b1, b2, b3, b4⟩ := h.1
        refine ⟨b1, b2, fun j hj => ?_, fun p hp => ?_⟩
        · by_cases ej : j = i
          · subst ej
            rw [iw_eq rfl rfl, iw_eq rfl rfl]
            exact ⟨rfl, by omega, c2⟩
          · rw [iw_ne (by omega), iw_ne (by omega)]; exact b3 j hj
        · obtain ⟨d1, d2, d3⟩ := b4 p hp
          refine ⟨fun j hj => ?_, ?_, ?_⟩
          · rw [iw_ne (by omega), iw_ne (by omega)]; exact d1 j hj
          · rw [iw_ne (by omega), iw_ne (by omega)]; exact d2
          · rw [iw_ne (by omega)]; exact d3
      · repeat (first | rw [if_pos (by omega)] | rw [if_neg (by omega)])
        exact Like.mk rfl rfl h
  · repeat (first | rw [if_pos (by omega)] | rw [if_neg (by omega)])
    exact Like.mk rfl rfl h
theorem tol2 : tolLo 2 = 0 ∧ tolHi 2 = 3 := ⟨rfl, rfl⟩
theorem tol3 : tolLo 3 = 1 ∧ tolHi 3 = 20 := ⟨rfl, rfl⟩
theorem RX.pace {σ τ : IM} (h : RX σ τ) (p : Nat) (hp : (p : Int) < τ 0 1) : ∃ w : Int, 1 ≤ w ∧ w ≤ 40 ∧ w = pac (τ 1 (7 * p + 2)) (τ 1 (7 * p + 3)) ∧ fX3_paceOf (mI p) (enc σ) = some (mI w, enc σ) ∧ fX7_paceOf (mI p) (enc τ) = some (mI w, enc τ) := by
  obtain ⟨⟨n1, n2, n3⟩, n4, n5, n6⟩ := h.now
  obtain ⟨f1, -⟩ := h.folk p hp
  have g2 := f1 2 (by omega)
  have g3 := f1 3 (by omega)
  have t2 := tol2
  have t3 := tol3
  refine ⟨pac (τ 1 (7 * p + 2)) (τ 1 (7 * p + 3)), ?_, ?_, rfl, ?_, paceM p τ (by omega) (by omega) (by omega)⟩
  · exact (pac_rng (by omega) (by omega)).1
  · exact (pac_rng (by omega) (by omega)).2
  · rw [paceX p σ (by omega) (by omega) (by omega), g2.1, g3.1]
theorem q_told (a w : Int) (ha : I32 a) (hw : I32 w) {σ τ : IM} (h : RX σ τ) : Like (fX6_told (mI a) (mI w) (enc σ)) (fX7_told (mI a) (mI w) (enc τ)) := by
  obtain ⟨⟨n1, n2, n3⟩, n4, n5, n6⟩ := h.now
  unfold fX6_told fX7_told
  simp (implicitDefEqProofs := false) (maxSteps := 1000000) (disch := omega) only [n4, ↓mm_lt_s, ↓cl_in, ↓cl_wi, ↓cl_has, ↓cl_isP, mL_le, lit_n, litL_n, mL_mI, mL_neg, mm_cl_s, mI_lt, mI_le, mI_eq, enc_at, enc_wr, enc_cp, mI_neg, mI_add, mI_sub, mI_mul, mI_ix, mm_ck_ok, mm_nz_ok, mm_bo_c, mm_bo_m0, mm_bo_m1, b01, Int.toNat_natCast, Int.reduceToNat, Int.reduceNeg, Int.reduceSub, Int.reduceAdd, Int.reduceMul, Int.reduceLT, Int.reduceLE, Int.reduceEq, ↓reduceIte, not_true, not_false_eq_true, not_true_eq_false, and_self, true_and, and_true, false_and, and_false, Decidable.not_not, stv1, stv2, stv3, stv4]
  by_cases c0 : 0 ≤ a ∧ a < τ 0 1
  · obtain ⟨p, rfl⟩ := Int.eq_ofNat_of_zero_le c0.1
    obtain ⟨f1, f2, f3, f4⟩ := h.folk p c0.2
    obtain ⟨pw, p1, p2, -, p3, p4⟩ := h.pace p c0.2
    rw [p3, p4]
    by_cases c1 : 0 ≤ w ∧ w < 7
    · obtain ⟨j, rfl⟩ := Int.eq_ofNat_of_zero_le c1.1
      have e6 : (7 * (p : Int) + (j : Int)).toNat = 7 * p + j := by omega
      simp (implicitDefEqProofs := false) (maxSteps := 1000000) (disch := omega) only [e6, ↓mm_lt_s, ↓cl_in, ↓cl_wi, ↓cl_has, ↓cl_isP, mL_le, lit_n, litL_n, mL_mI, mL_neg, mm_cl_s, mI_lt, mI_le, mI_eq, enc_at, enc_wr, enc_cp, mI_neg, mI_add, mI_sub, mI_mul, mI_ix, mm_ck_ok, mm_nz_ok, mm_bo_c, mm_bo_m0, mm_bo_m1, b01, Int.toNat_natCast, Int.reduceToNat, Int.reduceNeg, Int.reduceSub, Int.reduceAdd, Int.reduceMul, Int.reduceLT, Int.reduceLE, Int.reduceEq, ↓reduceIte, not_true, not_false_eq_true, not_true_eq_false, and_self, true_and, and_true, false_and, and_false, Decidable.not_not, stv1, stv2, stv3, stv4]
      by_cases c2 : j = 3
      · repeat (first | rw [if_pos (by omega)] | rw [if_neg (by omega)])
        exact Like.mk rfl rfl h
      · by_cases c3 : j = 6
        · subst c3
          rw [f2]
          simp (implicitDefEqProofs := false) (maxSteps := 1000000) (disch := omega) only [↓mm_lt_s, ↓cl_in, ↓cl_wi, ↓cl_has, ↓cl_isP, mL_le, lit_n, litL_n, mL_mI, mL_neg, mm_cl_s, mI_lt, mI_le, mI_eq, enc_at, enc_wr, enc_cp, mI_neg, mI_add, mI_sub, mI_mul, mI_ix, mm_ck_ok, mm_nz_ok, mm_bo_c, mm_bo_m0, mm_bo_m1, b01, Int.toNat_natCast, Int.reduceToNat, Int.reduceNeg, Int.reduceSub, Int.reduceAdd, Int.reduceMul, Int.reduceLT, Int.reduceLE, Int.reduceEq, ↓reduceIte, not_true, not_false_eq_true, not_true_eq_false, and_self, true_and, and_true, false_and, and_false, Decidable.not_not, stv1, stv2, stv3, stv4]
          by_cases c4 : σ (4 + p) 6 = -1
          · repeat (first | rw [if_pos (by omega)] | rw [if_neg (by omega)])
            exact Like.mk rfl rfl h
          · repeat (first | rw [if_pos (by omega)] | rw [if_neg (by omega)])
            exact Like.mk rfl rfl h
        · rw [(f1 j (by omega)).1]
          repeat (first | rw [if_pos (by omega)] | rw [if_neg (by omega)])
          exact Like.mk rfl rfl h
    · repeat (first | rw [if_pos (by omega)] | rw [if_neg (by omega)])
      exact Like.mk rfl rfl h
  · repeat (first | rw [if_pos (by omega)] | rw [if_neg (by omega)])
    exact Like.mk rfl rfl h
/-- a row's place changes on both sides -/
theorem SRel.row {σ τ : IM} (h : SRel σ τ 1 (τ 0 3) (τ 0 1) 2 1) (p j : Nat) (hp : (p : Int) < τ 0 1) (hj : j < 6) (v : Int) (h1 : tolLo j ≤ v) (h2 : v ≤ tolHi j) : SRel (iw σ (4 + p) j v) (iw τ 1 (7 * p + j) v) 1 (iw τ 1 (7 * p + j) v 0 3) (iw τ 1 (7 * p + j) v 0 1) 2 1 := by
  obtain ⟨b1, b2, b3, b4⟩ := h
  rw [iw_ne (by omega), iw_ne (by omega)]
  refine ⟨by rw [iw_ne (by omega)]; exact b1, by rw [iw_ne (by omega)]; exact b2, fun i hi => ?_, fun q hq => ?_⟩
  · rw [iw_ne (by omega), iw_ne (by omega)]; exact b3 i hi
  · obtain ⟨d1, d2, d3⟩ := b4 q hq
    refine ⟨fun i hi => ?_, ?_, ?_⟩
    · by_cases e : q = p ∧ i = j
      · obtain ⟨rfl, rfl⟩ := e
        rw [iw_eq (by omega) rfl, iw_eq rfl rfl]
        exact ⟨rfl, h1, h2⟩
      · rw [iw_ne (by omega), iw_ne (by omega)]; exact d1 i hi
    · rw [iw_ne (by omega), iw_ne (by omega)]; exact d2
    · rw [iw_ne (by omega)]; exact d3
theorem q_stay (a v : Int) (ha : I32 a) (hv : I32 v) {σ τ : IM} (h : RX σ τ) : Like (fX6_stay (mI a) (mI v) (enc σ)) (fX7_stay (mI a) (mI v) (enc τ)) := by
  obtain ⟨⟨n1, n2, n3⟩, n4, n5, n6⟩ := h.now
  unfold fX6_stay fX7_stay
  have t5 : tolLo 5 = 0 ∧ tolHi 5 = 60 := ⟨rfl, rfl⟩
  simp (implicitDefEqProofs := false) (maxSteps := 1000000) (disch := omega) only [n4, ↓mm_lt_s, ↓cl_in, ↓cl_wi, ↓cl_has, ↓cl_isP, mL_le, lit_n, litL_n, mL_mI, mL_neg, mm_cl_s, mI_lt, mI_le, mI_eq, enc_at, enc_wr, enc_cp, mI_neg, mI_add, mI_sub, mI_mul, mI_ix, mm_ck_ok, mm_nz_ok, mm_bo_c, mm_bo_m0, mm_bo_m1, b01, Int.toNat_natCast, Int.reduceToNat, Int.reduceNeg, Int.reduceSub, Int.reduceAdd, Int.reduceMul, Int.reduceLT, Int.reduceLE, Int.reduceEq, ↓reduceIte, not_true, not_false_eq_true, not_true_eq_false, and_self, true_and, and_true, false_and, and_false, Decidable.not_not, stv1, stv2, stv3, stv4]
  by_cases c0 : 0 ≤ a ∧ a < τ 0 1
  · obtain ⟨p, rfl⟩ := Int.eq_ofNat_of_zero_le c0.1
    obtain ⟨f1, f2, f3, f4⟩ := h.folk p c0.2
    have e6 : (7 * (p : Int) + 5).toNat = 7 * p + 5 := by omega
    simp (implicitDefEqProofs := false) (maxSteps := 1000000) (disch := omega) only [e6, ↓mm_lt_s, ↓cl_in, ↓cl_wi, ↓cl_has, ↓cl_isP, mL_le, lit_n, litL_n, mL_mI, mL_neg, mm_cl_s, mI_lt, mI_le, mI_eq, enc_at, enc_wr, enc_cp, mI_neg, mI_add, mI_sub, mI_mul, mI_ix, mm_ck_ok, mm_nz_ok, mm_bo_c, mm_bo_m0, mm_bo_m1, b01, Int.toNat_natCast, Int.reduceToNat, Int.reduceNeg, Int.reduceSub, Int.reduceAdd, Int.reduceMul, Int.reduceLT, Int.reduceLE, Int.reduceEq, ↓reduceIte, not_true, not_false_eq_true, not_true_eq_false, and_self, true_and, and_true, false_and, and_false, Decidable.not_not, stv1, stv2, stv3, stv4]
    by_cases c1 : 0 ≤ v ∧ v ≤ 60
    · repeat (first | rw [if_pos (by omega)] | rw [if_neg (by omega)])
      rw [(f1 5 (by omega)).1]
      exact Like.mk rfl rfl (h.rest (h.1.row p 5 c0.2 (by omega) v (by omega) (by omega)) (fun k j h1 h2 => iw_ne (by omega)) (fun k j h1 => iw_ne (by omega)))
    · by_cases c2 : v < 0
      · repeat (first | rw [if_pos (by omega)] | rw [if_neg (by omega)])
        exact Like.mk rfl rfl h
      · repeat (first | rw [if_pos (by omega)] | rw [if_neg (by omega)])
        exact Like.mk rfl rfl h
  · repeat (first | rw [if_pos (by omega)] | rw [if_neg (by omega)])
    exact Like.mk rfl rfl h
theorem SRel.hold {σ τ : IM} (h : SRel σ τ 1 (τ 0 3) (τ 0 1) 2 1) (p : Nat) (hp : (p : Int) < τ 0 1) (v : Int) (h1 : -1 ≤ v) (h2 : v < τ 0 1) : SRel (iw σ (4 + p) 6 v) (iw τ 1 (7 * p + 6) (if v < 0 then -4 else v)) 1 (iw τ 1 (7 * p + 6) (if v < 0 then -4 else v) 0 3) (iw τ 1 (7 * p + 6) (if v < 0 then -4 else v) 0 1) 2 1 := by
  obtain ⟨b1, b2, b3, b4⟩ := h
  rw [iw_ne (by omega), iw_ne (by omega)]
  refine ⟨by rw [iw_ne (by omega)]; exact b1, by rw [iw_ne (by omega)]; exact b2, fun i hi => ?_, fun q hq => ?_⟩
  · rw [iw_ne (by omega), iw_ne (by omega)]; exact b3 i hi
  · obtain ⟨d1, d2, d3⟩ := b4 q hq
    refine ⟨fun i hi => ?_, ?_, ?_⟩
    · rw [iw_ne (by omega), iw_ne (by omega)]; exact d1 i hi
    · by_cases e : q = p
      · subst e
        rw [iw_eq rfl rfl, iw_eq (by omega) rfl]
      · rw [iw_ne (by omega), iw_ne (by omega)]; exact d2
    · by_cases e : q = p
      · subst e
        rw [iw_eq (by omega) rfl]
        exact ⟨h1, h2⟩
      · rw [iw_ne (by omega)]; exact d3
theorem q_hold (a v : Int) (ha : I32 a) (hv : I32 v) {σ τ : IM} (h : RX σ τ) : Like (fX6_hold (mI a) (mI v) (enc σ)) (fX7_hold (mI a) (mI v) (enc τ)) := by
  obtain ⟨⟨n1, n2, n3⟩, n4, n5, n6⟩ := h.now
  unfold fX6_hold fX7_hold
  simp (implicitDefEqProofs := false) (maxSteps := 1000000) (disch := omega) only [n4, ↓mm_lt_s, ↓cl_in, ↓cl_wi, ↓cl_has, ↓cl_isP, mL_le, lit_n, litL_n, mL_mI, mL_neg, mm_cl_s, mI_lt, mI_le, mI_eq, enc_at, enc_wr, enc_cp, mI_neg, mI_add, mI_sub, mI_mul, mI_ix, mm_ck_ok, mm_nz_ok, mm_bo_c, mm_bo_m0, mm_bo_m1, b01, Int.toNat_natCast, Int.reduceToNat, Int.reduceNeg, Int.reduceSub, Int.reduceAdd, Int.reduceMul, Int.reduceLT, Int.reduceLE, Int.reduceEq, ↓reduceIte, not_true, not_false_eq_true, not_true_eq_false, and_self, true_and, and_true, false_and, and_false, Decidable.not_not, stv1, stv2, stv3, stv4]
  by_cases c0 : 0 ≤ a ∧ a < τ 0 1
  · obtain ⟨p, rfl⟩ := Int.eq_ofNat_of_zero_le c0.1
    obtain ⟨f1, f2, f3, f4⟩ := h.folk p c0.2
    have e6 : (7 * (p : Int) + 6).toNat = 7 * p + 6 := by omega
    simp (implicitDefEqProofs := false) (maxSteps := 1000000) (disch := omega) only [e6, f2, ↓mm_lt_s, ↓cl_in, ↓cl_wi, ↓cl_has, ↓cl_isP, mL_le, lit_n, litL_n, mL_mI, mL_neg, mm_cl_s, mI_lt, mI_le, mI_eq, enc_at, enc_wr, enc_cp, mI_neg, mI_add, mI_sub, mI_mul, mI_ix, mm_ck_ok, mm_nz_ok, mm_bo_c, mm_bo_m0, mm_bo_m1, b01, Int.toNat_natCast, Int.reduceToNat, Int.reduceNeg, Int.reduceSub, Int.reduceAdd, Int.reduceMul, Int.reduceLT, Int.reduceLE, Int.reduceEq, ↓reduceIte, not_true, not_false_eq_true, not_true_eq_false, and_self, true_and, and_true, false_and, and_false, Decidable.not_not, stv1, stv2, stv3, stv4]
    by_cases c1 : -1 ≤ v ∧ v < τ 0 1 ∧ v ≠ p
    · have R := h.rest (h.1.hold p c0.2 v c1.1 c1.2.1) (fun k j h1 h2 => iw_ne (by omega)) (fun k j h1 => iw_ne (by omega))
      by_cases c2 : v < 0
      · rw [if_pos c2] at R
        by_cases c3 : σ (4 + p) 6 < 0
        · have e7 : σ (4 + p) 6 = -1 := by omega
          rw [e7]
          repeat (first | rw [if_pos (by omega)] | rw [if_neg (by omega)])
          exact Like.mk rfl rfl R
        · repeat (first | rw [if_pos (by omega)] | rw [if_neg (by omega)])
          exact Like.mk rfl rfl R
      · rw [if_neg c2] at R
        by_cases c3 : σ (4 + p) 6 < 0
        · have e7 : σ (4 + p) 6 = -1 := by omega
          rw [e7]
          repeat (first | rw [if_pos (by omega)] | rw [if_neg (by omega)])
          exact Like.mk rfl rfl R
        · repeat (first | rw [if_pos (by omega)] | rw [if_neg (by omega)])
          exact Like.mk rfl rfl R
    · by_cases c2 : v = p
      · repeat (first | rw [if_pos (by omega)] | rw [if_neg (by omega)])
        exact Like.mk rfl rfl h
      · repeat (first | rw [if_pos (by omega)] | rw [if_neg (by omega)])
        exact Like.mk rfl rfl h
  · repeat (first | rw [if_pos (by omega)] | rw [if_neg (by omega)])
    exact Like.mk rfl rfl h
theorem q_ford (a : Int) (ha : I32 a) {σ τ : IM} (h : RX σ τ) : Like (fX6_ford (mI a) (enc σ)) (fX7_ford (mI a) (enc τ)) := by
  obtain ⟨⟨n1, n2, n3⟩, n4, n5, n6⟩ := h.now
  obtain ⟨l1, l2, l3⟩ := h.law 5 (by omega)
  have q : lawLo 5 = 0 ∧ lawHi 5 = 200 := ⟨rfl, rfl⟩
  unfold fX6_ford fX7_ford
  simp (implicitDefEqProofs := false) (maxSteps := 1000000) (disch := omega) only [n4, l1, ↓mm_lt_s, ↓cl_in, ↓cl_wi, ↓cl_has, ↓cl_isP, mL_le, lit_n, litL_n, mL_mI, mL_neg, mm_cl_s, mI_lt, mI_le, mI_eq, enc_at, enc_wr, enc_cp, mI_neg, mI_add, mI_sub, mI_mul, mI_ix, mm_ck_ok, mm_nz_ok, mm_bo_c, mm_bo_m0, mm_bo_m1, b01, Int.toNat_natCast, Int.reduceToNat, Int.reduceNeg, Int.reduceSub, Int.reduceAdd, Int.reduceMul, Int.reduceLT, Int.reduceLE, Int.reduceEq, ↓reduceIte, not_true, not_false_eq_true, not_true_eq_false, and_self, true_and, and_true, false_and, and_false, Decidable.not_not, stv1, stv2, stv3, stv4]
  by_cases c0 : 0 ≤ a ∧ a < τ 0 1
  · obtain ⟨p, rfl⟩ := Int.eq_ofNat_of_zero_le c0.1
    obtain ⟨pw, p1, p2, -, p3, p4⟩ := h.pace p c0.2
    rw [p3, p4]
    simp (implicitDefEqProofs := false) (maxSteps := 1000000) (disch := omega) only [l1, ↓mm_lt_s, ↓cl_in, ↓cl_wi, ↓cl_has, ↓cl_isP, mL_le, lit_n, litL_n, mL_mI, mL_neg, mm_cl_s, mI_lt, mI_le, mI_eq, enc_at, enc_wr, enc_cp, mI_neg, mI_add, mI_sub, mI_mul, mI_ix, mm_ck_ok, mm_nz_ok, mm_bo_c, mm_bo_m0, mm_bo_m1, b01, Int.toNat_natCast, Int.reduceToNat, Int.reduceNeg, Int.reduceSub, Int.reduceAdd, Int.reduceMul, Int.reduceLT, Int.reduceLE, Int.reduceEq, ↓reduceIte, not_true, not_false_eq_true, not_true_eq_false, and_self, true_and, and_true, false_and, and_false, Decidable.not_not, stv1, stv2, stv3, stv4]
    by_cases c1 : τ 2 5 = 0
    · repeat (first | rw [if_pos (by omega)] | rw [if_neg (by omega)])
      exact Like.mk rfl rfl h
    · repeat (first | rw [if_pos (by omega)] | rw [if_neg (by omega)])
      rw [Int.mul_comm]
      exact Like.mk rfl rfl h
  · repeat (first | rw [if_pos (by omega)] | rw [if_neg (by omega)])
    exact Like.mk rfl rfl h
theorem cutUp_s (x y : Int) (μ : Mm) (h1 : I32 x) (h2 : I32 y) (h3 : 1 ≤ y) (h4 : 0 ≤ x) (h5 : x + y < 2147483648) : fX6_cutUp (mI x) (mI y) μ = some (mI ((x + y - 1) / y), μ) := by
  unfold fX6_cutUp
  simp (implicitDefEqProofs := false) (maxSteps := 1000000) (disch := omega) only [mI_div, ↓mm_lt_s, ↓cl_in, ↓cl_wi, ↓cl_has, ↓cl_isP, mL_le, lit_n, litL_n, mL_mI, mL_neg, mm_cl_s, mI_lt, mI_le, mI_eq, enc_at, enc_wr, enc_cp, mI_neg, mI_add, mI_sub, mI_mul, mI_ix, mm_ck_ok, mm_nz_ok, mm_bo_c, mm_bo_m0, mm_bo_m1, b01, Int.toNat_natCast, Int.reduceToNat, Int.reduceNeg, Int.reduceSub, Int.reduceAdd, Int.reduceMul, Int.reduceLT, Int.reduceLE, Int.reduceEq, ↓reduceIte, not_true, not_false_eq_true, not_true_eq_false, and_self, true_and, and_true, false_and, and_false, Decidable.not_not, stv1, stv2, stv3, stv4]
  repeat (first | rw [if_pos (by omega)] | rw [if_neg (by omega)])
theorem q_handed (a b : Int) (ha : I32 a) (hb : I32 b) {σ τ : IM} (h : RX σ τ) : Like (fX6_handed (mI a) (mI b) (enc σ)) (fX7_handed (mI a) (mI b) (enc τ)) := by
  obtain ⟨⟨n1, n2, n3⟩, n4, n5, n6⟩ := h.now
  unfold fX6_handed fX7_handed
  have t1 : tolLo 1 = 0 ∧ tolHi 1 = 1 := ⟨rfl, rfl⟩
  simp (implicitDefEqProofs := false) (maxSteps := 1000000) (disch := omega) only [n4, n1, ↓mm_lt_s, ↓cl_in, ↓cl_wi, ↓cl_has, ↓cl_isP, mL_le, lit_n, litL_n, mL_mI, mL_neg, mm_cl_s, mI_lt, mI_le, mI_eq, enc_at, enc_wr, enc_cp, mI_neg, mI_add, mI_sub, mI_mul, mI_ix, mm_ck_ok, mm_nz_ok, mm_bo_c, mm_bo_m0, mm_bo_m1, b01, Int.toNat_natCast, Int.reduceToNat, Int.reduceNeg, Int.reduceSub, Int.reduceAdd, Int.reduceMul, Int.reduceLT, Int.reduceLE, Int.reduceEq, ↓reduceIte, not_true, not_false_eq_true, not_true_eq_false, and_self, true_and, and_true, false_and, and_false, Decidable.not_not, stv1, stv2, stv3, stv4]
  by_cases c0 : 0 ≤ a ∧ a < τ 0 1
  · by_cases c1 : 0 ≤ b ∧ b < τ 0 1
    · obtain ⟨p, rfl⟩ := Int.eq_ofNat_of_zero_le c0.1
      obtain ⟨p', rfl⟩ := Int.eq_ofNat_of_zero_le c1.1
      obtain ⟨f1, -⟩ := h.folk p c0.2
      obtain ⟨f2, -⟩ := h.folk p' c1.2
      have g1 := f1 1 (by omega)
      have g2 := f2 1 (by omega)
      obtain ⟨pw, p1, p2, -, p3, p4⟩ := h.pace p c0.2
      obtain ⟨pv, r1, r2, -, r3, r4⟩ := h.pace p' c1.2
      have e6 : (7 * (p : Int) + 1).toNat = 7 * p + 1 := by omega
      have e7 : (7 * (p' : Int) + 1).toNat = 7 * p' + 1 := by omega
      rw [p3, p4]
      simp (implicitDefEqProofs := false) (maxSteps := 1000000) (disch := omega) only [e6, e7, g1.1, g2.1, ↓mm_lt_s, ↓cl_in, ↓cl_wi, ↓cl_has, ↓cl_isP, mL_le, lit_n, litL_n, mL_mI, mL_neg, mm_cl_s, mI_lt, mI_le, mI_eq, enc_at, enc_wr, enc_cp, mI_neg, mI_add, mI_sub, mI_mul, mI_ix, mm_ck_ok, mm_nz_ok, mm_bo_c, mm_bo_m0, mm_bo_m1, b01, Int.toNat_natCast, Int.reduceToNat, Int.reduceNeg, Int.reduceSub, Int.reduceAdd, Int.reduceMul, Int.reduceLT, Int.reduceLE, Int.reduceEq, ↓reduceIte, not_true, not_false_eq_true, not_true_eq_false, and_self, true_and, and_true, false_and, and_false, Decidable.not_not, stv1, stv2, stv3, stv4]
      rw [r3, r4]
      simp (implicitDefEqProofs := false) (maxSteps := 1000000) (disch := omega) only [cutUp_s, mI_div, n1, ↓mm_lt_s, ↓cl_in, ↓cl_wi, ↓cl_has, ↓cl_isP, mL_le, lit_n, litL_n, mL_mI, mL_neg, mm_cl_s, mI_lt, mI_le, mI_eq, enc_at, enc_wr, enc_cp, mI_neg, mI_add, mI_sub, mI_mul, mI_ix, mm_ck_ok, mm_nz_ok, mm_bo_c, mm_bo_m0, mm_bo_m1, b01, Int.toNat_natCast, Int.reduceToNat, Int.reduceNeg, Int.reduceSub, Int.reduceAdd, Int.reduceMul, Int.reduceLT, Int.reduceLE, Int.reduceEq, ↓reduceIte, not_true, not_false_eq_true, not_true_eq_false, and_self, true_and, and_true, false_and, and_false, Decidable.not_not, stv1, stv2, stv3, stv4]
      by_cases c2 : τ 1 (7 * p + 1) = τ 1 (7 * p' + 1)
      · repeat (first | rw [if_pos (by omega)] | rw [if_neg (by omega)])
        exact Like.mk rfl rfl h
      · repeat (first | rw [if_pos (by omega)] | rw [if_neg (by omega)])
        exact Like.mk rfl rfl h
    · repeat (first | rw [if_pos (by omega)] | rw [if_neg (by omega)])
      exact Like.mk rfl rfl h
  · repeat (first | rw [if_pos (by omega)] | rw [if_neg (by omega)])
    exact Like.mk rfl rfl h
