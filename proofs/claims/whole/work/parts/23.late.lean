theorem div_up {x g : Int} (h1 : 0 ≤ x) (h2 : 1 ≤ g) : (x + 1 + g - 1) / g = x / g + 1 := by
  rw [show x + 1 + g - 1 = x + g * 1 by omega, Int.add_mul_ediv_left _ _ (by omega)]
theorem prod_rng {a b : Int} {m n : Int} (h1 : 0 ≤ a) (h2 : a ≤ m) (h3 : 0 ≤ b) (h4 : b ≤ n) : 0 ≤ a * b ∧ a * b ≤ m * n :=
  ⟨Int.mul_nonneg h1 h3, Int.mul_le_mul h2 h4 h3 (by omega)⟩
theorem q_late (a b c d : Int) (ha : I32 a) (hb : I32 b) (hc : I32 c) (hd : I32 d) {σ τ : IM} (h : RX σ τ) : Like (fX6_late (mI a) (mI b) (mI c) (mI d) (enc σ)) (fX7_late (mI a) (mI b) (mI c) (mI d) (enc τ)) := by
  obtain ⟨⟨n1, n2, n3⟩, n4, n5, n6⟩ := h.now
  obtain ⟨l1, l2, l3⟩ := h.law 0 (by omega)
  have q : lawLo 0 = 0 ∧ lawHi 0 = 9 := ⟨rfl, rfl⟩
  unfold fX6_late fX7_late
  by_cases al : a < 1
  · have am : ¬ 1 ≤ a := by omega
    simp (implicitDefEqProofs := false) (maxSteps := 1000000) (disch := omega) only [l1, al, am, false_and, and_false, true_and, and_true, not_false_eq_true, not_true_eq_false, ↓mm_lt_s, ↓cl_in, ↓cl_wi, ↓cl_has, ↓cl_isP, mL_le, lit_n, litL_n, mL_mI, mL_neg, mm_cl_s, mI_lt, mI_le, mI_eq, enc_at, enc_wr, enc_cp, mI_neg, mI_add, mI_sub, mI_mul, mI_ix, mm_ck_ok, mm_nz_ok, mm_bo_c, mm_bo_m0, mm_bo_m1, b01, Int.toNat_natCast, Int.reduceToNat, Int.reduceNeg, Int.reduceSub, Int.reduceAdd, Int.reduceMul, Int.reduceLT, Int.reduceLE, Int.reduceEq, ↓reduceIte, not_true, not_false_eq_true, not_true_eq_false, and_self, true_and, and_true, false_and, and_false, Decidable.not_not, stv1, stv2, stv3, stv4]
    exact Like.mk rfl rfl h
  have am : 1 ≤ a := by omega
  by_cases au : 40 < a
  · have aw : ¬ a ≤ 40 := by omega
    simp (implicitDefEqProofs := false) (maxSteps := 1000000) (disch := omega) only [l1, al, am, au, aw, false_and, and_false, true_and, and_true, not_false_eq_true, not_true_eq_false, ↓mm_lt_s, ↓cl_in, ↓cl_wi, ↓cl_has, ↓cl_isP, mL_le, lit_n, litL_n, mL_mI, mL_neg, mm_cl_s, mI_lt, mI_le, mI_eq, enc_at, enc_wr, enc_cp, mI_neg, mI_add, mI_sub, mI_mul, mI_ix, mm_ck_ok, mm_nz_ok, mm_bo_c, mm_bo_m0, mm_bo_m1, b01, Int.toNat_natCast, Int.reduceToNat, Int.reduceNeg, Int.reduceSub, Int.reduceAdd, Int.reduceMul, Int.reduceLT, Int.reduceLE, Int.reduceEq, ↓reduceIte, not_true, not_false_eq_true, not_true_eq_false, and_self, true_and, and_true, false_and, and_false, Decidable.not_not, stv1, stv2, stv3, stv4]
    exact Like.mk rfl rfl h
  have aw : a ≤ 40 := by omega
  by_cases bl : b < 1
  · have bm : ¬ 1 ≤ b := by omega
    simp (implicitDefEqProofs := false) (maxSteps := 1000000) (disch := omega) only [l1, al, am, au, aw, bl, bm, false_and, and_false, true_and, and_true, not_false_eq_true, not_true_eq_false, ↓mm_lt_s, ↓cl_in, ↓cl_wi, ↓cl_has, ↓cl_isP, mL_le, lit_n, litL_n, mL_mI, mL_neg, mm_cl_s, mI_lt, mI_le, mI_eq, enc_at, enc_wr, enc_cp, mI_neg, mI_add, mI_sub, mI_mul, mI_ix, mm_ck_ok, mm_nz_ok, mm_bo_c, mm_bo_m0, mm_bo_m1, b01, Int.toNat_natCast, Int.reduceToNat, Int.reduceNeg, Int.reduceSub, Int.reduceAdd, Int.reduceMul, Int.reduceLT, Int.reduceLE, Int.reduceEq, ↓reduceIte, not_true, not_false_eq_true, not_true_eq_false, and_self, true_and, and_true, false_and, and_false, Decidable.not_not, stv1, stv2, stv3, stv4]
    exact Like.mk rfl rfl h
  have bm : 1 ≤ b := by omega
  by_cases bu : 400 < b
  · have bw : ¬ b ≤ 400 := by omega
    simp (implicitDefEqProofs := false) (maxSteps := 1000000) (disch := omega) only [l1, al, am, au, aw, bl, bm, bu, bw, false_and, and_false, true_and, and_true, not_false_eq_true, not_true_eq_false, ↓mm_lt_s, ↓cl_in, ↓cl_wi, ↓cl_has, ↓cl_isP, mL_le, lit_n, litL_n, mL_mI, mL_neg, mm_cl_s, mI_lt, mI_le, mI_eq, enc_at, enc_wr, enc_cp, mI_neg, mI_add, mI_sub, mI_mul, mI_ix, mm_ck_ok, mm_nz_ok, mm_bo_c, mm_bo_m0, mm_bo_m1, b01, Int.toNat_natCast, Int.reduceToNat, Int.reduceNeg, Int.reduceSub, Int.reduceAdd, Int.reduceMul, Int.reduceLT, Int.reduceLE, Int.reduceEq, ↓reduceIte, not_true, not_false_eq_true, not_true_eq_false, and_self, true_and, and_true, false_and, and_false, Decidable.not_not, stv1, stv2, stv3, stv4]
    exact Like.mk rfl rfl h
  have bw : b ≤ 400 := by omega
  by_cases cl : c < 1
  · have cm : ¬ 1 ≤ c := by omega
    simp (implicitDefEqProofs := false) (maxSteps := 1000000) (disch := omega) only [l1, al, am, au, aw, bl, bm, bu, bw, cl, cm, false_and, and_false, true_and, and_true, not_false_eq_true, not_true_eq_false, ↓mm_lt_s, ↓cl_in, ↓cl_wi, ↓cl_has, ↓cl_isP, mL_le, lit_n, litL_n, mL_mI, mL_neg, mm_cl_s, mI_lt, mI_le, mI_eq, enc_at, enc_wr, enc_cp, mI_neg, mI_add, mI_sub, mI_mul, mI_ix, mm_ck_ok, mm_nz_ok, mm_bo_c, mm_bo_m0, mm_bo_m1, b01, Int.toNat_natCast, Int.reduceToNat, Int.reduceNeg, Int.reduceSub, Int.reduceAdd, Int.reduceMul, Int.reduceLT, Int.reduceLE, Int.reduceEq, ↓reduceIte, not_true, not_false_eq_true, not_true_eq_false, and_self, true_and, and_true, false_and, and_false, Decidable.not_not, stv1, stv2, stv3, stv4]
    exact Like.mk rfl rfl h
  have cm : 1 ≤ c := by omega
  by_cases cu : 400 < c
  · have cw : ¬ c ≤ 400 := by omega
    simp (implicitDefEqProofs := false) (maxSteps := 1000000) (disch := omega) only [l1, al, am, au, aw, bl, bm, bu, bw, cl, cm, cu, cw, false_and, and_false, true_and, and_true, not_false_eq_true, not_true_eq_false, ↓mm_lt_s, ↓cl_in, ↓cl_wi, ↓cl_has, ↓cl_isP, mL_le, lit_n, litL_n, mL_mI, mL_neg, mm_cl_s, mI_lt, mI_le, mI_eq, enc_at, enc_wr, enc_cp, mI_neg, mI_add, mI_sub, mI_mul, mI_ix, mm_ck_ok, mm_nz_ok, mm_bo_c, mm_bo_m0, mm_bo_m1, b01, Int.toNat_natCast, Int.reduceToNat, Int.reduceNeg, Int.reduceSub, Int.reduceAdd, Int.reduceMul, Int.reduceLT, Int.reduceLE, Int.reduceEq, ↓reduceIte, not_true, not_false_eq_true, not_true_eq_false, and_self, true_and, and_true, false_and, and_false, Decidable.not_not, stv1, stv2, stv3, stv4]
    exact Like.mk rfl rfl h
  have cw : c ≤ 400 := by omega
  by_cases dl : d < 0
  · have dm : ¬ 0 ≤ d := by omega
    simp (implicitDefEqProofs := false) (maxSteps := 1000000) (disch := omega) only [l1, al, am, au, aw, bl, bm, bu, bw, cl, cm, cu, cw, dl, dm, false_and, and_false, true_and, and_true, not_false_eq_true, not_true_eq_false, ↓mm_lt_s, ↓cl_in, ↓cl_wi, ↓cl_has, ↓cl_isP, mL_le, lit_n, litL_n, mL_mI, mL_neg, mm_cl_s, mI_lt, mI_le, mI_eq, enc_at, enc_wr, enc_cp, mI_neg, mI_add, mI_sub, mI_mul, mI_ix, mm_ck_ok, mm_nz_ok, mm_bo_c, mm_bo_m0, mm_bo_m1, b01, Int.toNat_natCast, Int.reduceToNat, Int.reduceNeg, Int.reduceSub, Int.reduceAdd, Int.reduceMul, Int.reduceLT, Int.reduceLE, Int.reduceEq, ↓reduceIte, not_true, not_false_eq_true, not_true_eq_false, and_self, true_and, and_true, false_and, and_false, Decidable.not_not, stv1, stv2, stv3, stv4]
    exact Like.mk rfl rfl h
  have dm : 0 ≤ d := by omega
  by_cases du : 1 < d
  · have dw : ¬ d ≤ 1 := by omega
    simp (implicitDefEqProofs := false) (maxSteps := 1000000) (disch := omega) only [l1, al, am, au, aw, bl, bm, bu, bw, cl, cm, cu, cw, dl, dm, du, dw, false_and, and_false, true_and, and_true, not_false_eq_true, not_true_eq_false, ↓mm_lt_s, ↓cl_in, ↓cl_wi, ↓cl_has, ↓cl_isP, mL_le, lit_n, litL_n, mL_mI, mL_neg, mm_cl_s, mI_lt, mI_le, mI_eq, enc_at, enc_wr, enc_cp, mI_neg, mI_add, mI_sub, mI_mul, mI_ix, mm_ck_ok, mm_nz_ok, mm_bo_c, mm_bo_m0, mm_bo_m1, b01, Int.toNat_natCast, Int.reduceToNat, Int.reduceNeg, Int.reduceSub, Int.reduceAdd, Int.reduceMul, Int.reduceLT, Int.reduceLE, Int.reduceEq, ↓reduceIte, not_true, not_false_eq_true, not_true_eq_false, and_self, true_and, and_true, false_and, and_false, Decidable.not_not, stv1, stv2, stv3, stv4]
    exact Like.mk rfl rfl h
  have dw : d ≤ 1 := by omega
  have k1 := prod_rng (a := a) (b := c) (m := 40) (n := 400) (by omega) (by omega) (by omega) (by omega)
  have k2 := prod_rng (a := a) (b := c - 1) (m := 40) (n := 400) (by omega) (by omega) (by omega) (by omega)
  have k3 : a * (c - 1) = a * c - a := by rw [Int.mul_sub, Int.mul_one]
  by_cases c5 : τ 2 0 = 0
  · simp (implicitDefEqProofs := false) (maxSteps := 1000000) (disch := omega) only [l1, c5, al, am, au, aw, bl, bm, bu, bw, cl, cm, cu, cw, dl, dm, du, dw, false_and, and_false, true_and, and_true, not_false_eq_true, not_true_eq_false, ↓mm_lt_s, ↓cl_in, ↓cl_wi, ↓cl_has, ↓cl_isP, mL_le, lit_n, litL_n, mL_mI, mL_neg, mm_cl_s, mI_lt, mI_le, mI_eq, enc_at, enc_wr, enc_cp, mI_neg, mI_add, mI_sub, mI_mul, mI_ix, mm_ck_ok, mm_nz_ok, mm_bo_c, mm_bo_m0, mm_bo_m1, b01, Int.toNat_natCast, Int.reduceToNat, Int.reduceNeg, Int.reduceSub, Int.reduceAdd, Int.reduceMul, Int.reduceLT, Int.reduceLE, Int.reduceEq, ↓reduceIte, not_true, not_false_eq_true, not_true_eq_false, and_self, true_and, and_true, false_and, and_false, Decidable.not_not, stv1, stv2, stv3, stv4]
    exact Like.mk rfl rfl h
  by_cases c6 : 0 ≤ a * c - b
  · have c6' : ¬ a * c - b < 0 := by omega
    have u1 : 0 ≤ (a * c - b) / τ 2 0 := Int.ediv_nonneg c6 (by omega)
    have u2 : (a * c - b) / τ 2 0 ≤ a * c - b := Int.ediv_le_self _ c6
    by_cases c7 : 0 ≤ a * (c - 1) - b
    · have c7' : ¬ a * (c - 1) - b < 0 := by omega
      have c7'' : 0 < a * (c - 1) + 1 - b := by omega
      have u3 : 0 ≤ (a * (c - 1) - b) / τ 2 0 := Int.ediv_nonneg c7 (by omega)
      have u4 : (a * (c - 1) - b) / τ 2 0 ≤ a * (c - 1) - b := Int.ediv_le_self _ c7
      have e9 : (a * (c - 1) + 1 - b + τ 2 0 - 1) / τ 2 0 = (a * (c - 1) - b) / τ 2 0 + 1 := by
        rw [show a * (c - 1) + 1 - b = (a * (c - 1) - b) + 1 by omega]; exact div_up c7 (by omega)
      simp (implicitDefEqProofs := false) (maxSteps := 1000000) (disch := omega) only [l1, c5, c6, c6', c7, c7', c7'', cutUp_s, mI_div, e9, al, am, au, aw, bl, bm, bu, bw, cl, cm, cu, cw, dl, dm, du, dw, false_and, and_false, true_and, and_true, not_false_eq_true, not_true_eq_false, ↓mm_lt_s, ↓cl_in, ↓cl_wi, ↓cl_has, ↓cl_isP, mL_le, lit_n, litL_n, mL_mI, mL_neg, mm_cl_s, mI_lt, mI_le, mI_eq, enc_at, enc_wr, enc_cp, mI_neg, mI_add, mI_sub, mI_mul, mI_ix, mm_ck_ok, mm_nz_ok, mm_bo_c, mm_bo_m0, mm_bo_m1, b01, Int.toNat_natCast, Int.reduceToNat, Int.reduceNeg, Int.reduceSub, Int.reduceAdd, Int.reduceMul, Int.reduceLT, Int.reduceLE, Int.reduceEq, ↓reduceIte, not_true, not_false_eq_true, not_true_eq_false, and_self, true_and, and_true, false_and, and_false, Decidable.not_not, stv1, stv2, stv3, stv4]
      by_cases c8 : (a * (c - 1) - b) / τ 2 0 + 1 ≤ (a * c - b) / τ 2 0
      · by_cases c9 : d = 0
        · simp (implicitDefEqProofs := false) (maxSteps := 1000000) (disch := omega) only [c8, c9, ↓mm_lt_s, ↓cl_in, ↓cl_wi, ↓cl_has, ↓cl_isP, mL_le, lit_n, litL_n, mL_mI, mL_neg, mm_cl_s, mI_lt, mI_le, mI_eq, enc_at, enc_wr, enc_cp, mI_neg, mI_add, mI_sub, mI_mul, mI_ix, mm_ck_ok, mm_nz_ok, mm_bo_c, mm_bo_m0, mm_bo_m1, b01, Int.toNat_natCast, Int.reduceToNat, Int.reduceNeg, Int.reduceSub, Int.reduceAdd, Int.reduceMul, Int.reduceLT, Int.reduceLE, Int.reduceEq, ↓reduceIte, not_true, not_false_eq_true, not_true_eq_false, and_self, true_and, and_true, false_and, and_false, Decidable.not_not, stv1, stv2, stv3, stv4]
          exact Like.mk rfl rfl h
        · simp (implicitDefEqProofs := false) (maxSteps := 1000000) (disch := omega) only [c8, c9, ↓mm_lt_s, ↓cl_in, ↓cl_wi, ↓cl_has, ↓cl_isP, mL_le, lit_n, litL_n, mL_mI, mL_neg, mm_cl_s, mI_lt, mI_le, mI_eq, enc_at, enc_wr, enc_cp, mI_neg, mI_add, mI_sub, mI_mul, mI_ix, mm_ck_ok, mm_nz_ok, mm_bo_c, mm_bo_m0, mm_bo_m1, b01, Int.toNat_natCast, Int.reduceToNat, Int.reduceNeg, Int.reduceSub, Int.reduceAdd, Int.reduceMul, Int.reduceLT, Int.reduceLE, Int.reduceEq, ↓reduceIte, not_true, not_false_eq_true, not_true_eq_false, and_self, true_and, and_true, false_and, and_false, Decidable.not_not, stv1, stv2, stv3, stv4]
          exact Like.mk rfl rfl h
      · simp (implicitDefEqProofs := false) (maxSteps := 1000000) (disch := omega) only [c8, ↓mm_lt_s, ↓cl_in, ↓cl_wi, ↓cl_has, ↓cl_isP, mL_le, lit_n, litL_n, mL_mI, mL_neg, mm_cl_s, mI_lt, mI_le, mI_eq, enc_at, enc_wr, enc_cp, mI_neg, mI_add, mI_sub, mI_mul, mI_ix, mm_ck_ok, mm_nz_ok, mm_bo_c, mm_bo_m0, mm_bo_m1, b01, Int.toNat_natCast, Int.reduceToNat, Int.reduceNeg, Int.reduceSub, Int.reduceAdd, Int.reduceMul, Int.reduceLT, Int.reduceLE, Int.reduceEq, ↓reduceIte, not_true, not_false_eq_true, not_true_eq_false, and_self, true_and, and_true, false_and, and_false, Decidable.not_not, stv1, stv2, stv3, stv4]
        exact Like.mk rfl rfl h
    · have c7' : a * (c - 1) - b < 0 := by omega
      have c7'' : ¬ 0 < a * (c - 1) + 1 - b := by omega
      have e9 : (0 + τ 2 0 - 1) / τ 2 0 = 0 := Int.ediv_eq_zero_of_lt (by omega) (by omega)
      simp (implicitDefEqProofs := false) (maxSteps := 1000000) (disch := omega) only [l1, c5, c6, c6', c7, c7', c7'', cutUp_s, mI_div, e9, u1, al, am, au, aw, bl, bm, bu, bw, cl, cm, cu, cw, dl, dm, du, dw, false_and, and_false, true_and, and_true, not_false_eq_true, not_true_eq_false, ↓mm_lt_s, ↓cl_in, ↓cl_wi, ↓cl_has, ↓cl_isP, mL_le, lit_n, litL_n, mL_mI, mL_neg, mm_cl_s, mI_lt, mI_le, mI_eq, enc_at, enc_wr, enc_cp, mI_neg, mI_add, mI_sub, mI_mul, mI_ix, mm_ck_ok, mm_nz_ok, mm_bo_c, mm_bo_m0, mm_bo_m1, b01, Int.toNat_natCast, Int.reduceToNat, Int.reduceNeg, Int.reduceSub, Int.reduceAdd, Int.reduceMul, Int.reduceLT, Int.reduceLE, Int.reduceEq, ↓reduceIte, not_true, not_false_eq_true, not_true_eq_false, and_self, true_and, and_true, false_and, and_false, Decidable.not_not, stv1, stv2, stv3, stv4]
      by_cases c9 : d = 0
      · simp (implicitDefEqProofs := false) (maxSteps := 1000000) (disch := omega) only [c9, ↓mm_lt_s, ↓cl_in, ↓cl_wi, ↓cl_has, ↓cl_isP, mL_le, lit_n, litL_n, mL_mI, mL_neg, mm_cl_s, mI_lt, mI_le, mI_eq, enc_at, enc_wr, enc_cp, mI_neg, mI_add, mI_sub, mI_mul, mI_ix, mm_ck_ok, mm_nz_ok, mm_bo_c, mm_bo_m0, mm_bo_m1, b01, Int.toNat_natCast, Int.reduceToNat, Int.reduceNeg, Int.reduceSub, Int.reduceAdd, Int.reduceMul, Int.reduceLT, Int.reduceLE, Int.reduceEq, ↓reduceIte, not_true, not_false_eq_true, not_true_eq_false, and_self, true_and, and_true, false_and, and_false, Decidable.not_not, stv1, stv2, stv3, stv4]
        exact Like.mk rfl rfl h
      · simp (implicitDefEqProofs := false) (maxSteps := 1000000) (disch := omega) only [c9, ↓mm_lt_s, ↓cl_in, ↓cl_wi, ↓cl_has, ↓cl_isP, mL_le, lit_n, litL_n, mL_mI, mL_neg, mm_cl_s, mI_lt, mI_le, mI_eq, enc_at, enc_wr, enc_cp, mI_neg, mI_add, mI_sub, mI_mul, mI_ix, mm_ck_ok, mm_nz_ok, mm_bo_c, mm_bo_m0, mm_bo_m1, b01, Int.toNat_natCast, Int.reduceToNat, Int.reduceNeg, Int.reduceSub, Int.reduceAdd, Int.reduceMul, Int.reduceLT, Int.reduceLE, Int.reduceEq, ↓reduceIte, not_true, not_false_eq_true, not_true_eq_false, and_self, true_and, and_true, false_and, and_false, Decidable.not_not, stv1, stv2, stv3, stv4]
        exact Like.mk rfl rfl h
  · have c6' : a * c - b < 0 := by omega
    by_cases c7 : a * (c - 1) - b < 0
    · have c7' : ¬ 0 ≤ a * (c - 1) - b := by omega
      simp (implicitDefEqProofs := false) (maxSteps := 1000000) (disch := omega) only [l1, c5, c6, c6', c7, c7', mI_div, al, am, au, aw, bl, bm, bu, bw, cl, cm, cu, cw, dl, dm, du, dw, false_and, and_false, true_and, and_true, not_false_eq_true, not_true_eq_false, ↓mm_lt_s, ↓cl_in, ↓cl_wi, ↓cl_has, ↓cl_isP, mL_le, lit_n, litL_n, mL_mI, mL_neg, mm_cl_s, mI_lt, mI_le, mI_eq, enc_at, enc_wr, enc_cp, mI_neg, mI_add, mI_sub, mI_mul, mI_ix, mm_ck_ok, mm_nz_ok, mm_bo_c, mm_bo_m0, mm_bo_m1, b01, Int.toNat_natCast, Int.reduceToNat, Int.reduceNeg, Int.reduceSub, Int.reduceAdd, Int.reduceMul, Int.reduceLT, Int.reduceLE, Int.reduceEq, ↓reduceIte, not_true, not_false_eq_true, not_true_eq_false, and_self, true_and, and_true, false_and, and_false, Decidable.not_not, stv1, stv2, stv3, stv4]
      exact Like.mk rfl rfl h
    · omega
