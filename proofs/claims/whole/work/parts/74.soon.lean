theorem soon_c1 {s i : Int} {n : Nat} {σ σ1 σ2 : IM} (hi : I32 i) (hn : n ≤ 6) (x1 : fX1_choose (mI s) (enc σ 1 1) (enc σ) = some (mI 1, enc σ1)) (x4 : σ1 44 0 = (n : Int)) (c : -2 ≤ i ∧ i < n) (f1 : fX1_findCompanies (enc σ1) = some (mI 0, enc σ2)) : fX6_soonest (mI s) (mI i) (enc σ) = (if i = -1 then some (mI (σ2 44 2), enc σ2) else if i = -2 then some (mI (σ2 44 3), enc σ2) else some (mI (σ2 45 i.toNat), enc σ2)) := by
  have o : ¬ (1 : Int) = 0 := by omega
  have c1 : ¬ i < -2 := by omega
  have c2 : i < (n : Int) := by omega
  unfold fX6_soonest
  rw [x1]
  simp (implicitDefEqProofs := false) (maxSteps := 1000000) (disch := omega) only [o, x4, c1, c2, ↓mm_lt_s, ↓cl_in, ↓cl_wi, ↓cl_has, ↓cl_isP, mL_le, lit_n, litL_n, mL_mI, mL_neg, mm_cl_s, mI_lt, mI_le, mI_eq, enc_at, enc_wr, enc_cp, mI_neg, mI_add, mI_sub, mI_mul, mI_ix, mm_ck_ok, mm_nz_ok, mm_bo_c, mm_bo_m0, mm_bo_m1, b01, Int.toNat_natCast, Int.reduceToNat, Int.reduceNeg, Int.reduceSub, Int.reduceAdd, Int.reduceMul, Int.reduceLT, Int.reduceLE, Int.reduceEq, ↓reduceIte, not_true, not_false_eq_true, not_true_eq_false, and_self, true_and, and_true, false_and, and_false, Decidable.not_not, stv1, stv2, stv3, stv4]
  rw [f1]
  by_cases d1 : i = -1
  · subst d1
    unfold fX1_found
    simp (implicitDefEqProofs := false) (maxSteps := 1000000) (disch := omega) only [↓mm_lt_s, ↓cl_in, ↓cl_wi, ↓cl_has, ↓cl_isP, mL_le, lit_n, litL_n, mL_mI, mL_neg, mm_cl_s, mI_lt, mI_le, mI_eq, enc_at, enc_wr, enc_cp, mI_neg, mI_add, mI_sub, mI_mul, mI_ix, mm_ck_ok, mm_nz_ok, mm_bo_c, mm_bo_m0, mm_bo_m1, b01, Int.toNat_natCast, Int.reduceToNat, Int.reduceNeg, Int.reduceSub, Int.reduceAdd, Int.reduceMul, Int.reduceLT, Int.reduceLE, Int.reduceEq, ↓reduceIte, not_true, not_false_eq_true, not_true_eq_false, and_self, true_and, and_true, false_and, and_false, Decidable.not_not, stv1, stv2, stv3, stv4]
  · by_cases d2 : i = -2
    · subst d2
      unfold fX1_found
      simp (implicitDefEqProofs := false) (maxSteps := 1000000) (disch := omega) only [↓mm_lt_s, ↓cl_in, ↓cl_wi, ↓cl_has, ↓cl_isP, mL_le, lit_n, litL_n, mL_mI, mL_neg, mm_cl_s, mI_lt, mI_le, mI_eq, enc_at, enc_wr, enc_cp, mI_neg, mI_add, mI_sub, mI_mul, mI_ix, mm_ck_ok, mm_nz_ok, mm_bo_c, mm_bo_m0, mm_bo_m1, b01, Int.toNat_natCast, Int.reduceToNat, Int.reduceNeg, Int.reduceSub, Int.reduceAdd, Int.reduceMul, Int.reduceLT, Int.reduceLE, Int.reduceEq, ↓reduceIte, not_true, not_false_eq_true, not_true_eq_false, and_self, true_and, and_true, false_and, and_false, Decidable.not_not, stv1, stv2, stv3, stv4]
    · have d3 : 0 ≤ i := by omega
      rw [if_neg d1, if_neg d2]
      simp (implicitDefEqProofs := false) (maxSteps := 1000000) (disch := omega) only [d3, ↓mm_lt_s, ↓cl_in, ↓cl_wi, ↓cl_has, ↓cl_isP, mL_le, lit_n, litL_n, mL_mI, mL_neg, mm_cl_s, mI_lt, mI_le, mI_eq, enc_at, enc_wr, enc_cp, mI_neg, mI_add, mI_sub, mI_mul, mI_ix, mm_ck_ok, mm_nz_ok, mm_bo_c, mm_bo_m0, mm_bo_m1, b01, Int.toNat_natCast, Int.reduceToNat, Int.reduceNeg, Int.reduceSub, Int.reduceAdd, Int.reduceMul, Int.reduceLT, Int.reduceLE, Int.reduceEq, ↓reduceIte, not_true, not_false_eq_true, not_true_eq_false, and_self, true_and, and_true, false_and, and_false, Decidable.not_not, stv1, stv2, stv3, stv4]
theorem q_soonest (s i : Int) (hs : I32 s) (hi : I32 i) {σ τ : IM} (h : RX σ τ) : Like (fX6_soonest (mI s) (mI i) (enc σ)) (fX7_soonest (mI s) (mI i) (enc τ)) := by
  rcases chooR hs h with ⟨x1, τ1, x2, x3⟩ | ⟨σ1, τ1, n, w, hn, x1, x2, x3, x4, x5, x6⟩
  · exact Like.mk (soon_a1 x1) (soon_a2 x2) x3
  · by_cases c : -2 ≤ i ∧ i < n
    · obtain ⟨σ', τ', f1, f2, f3, f4, f5⟩ := coFind x3 hn x4 x5 x6
      have X := soon_c1 hi hn.2 x1 x4 c f1
      have M := soon_c2 hi hn.2 x2 x5 c f2
      rcases f4 with ⟨e, -⟩ | ⟨b1, b2, b3⟩
      · exact absurd e f5
      · by_cases d1 : i = -1
        · subst d1
          rw [if_pos rfl] at X
          rw [if_pos (show mI (-1) = -1 from rfl), enc_at, b1.1] at M
          exact Like.mk X M f3
        · have m1 : ¬ mI i = -1 := by
            have e : (-1 : Int32) = mI (-1) := rfl
            rw [e, mI_eq hi.1 hi.2 (by omega) (by omega)]
            exact d1
          rw [if_neg d1] at X
          rw [if_neg m1] at M
          by_cases d2 : i = -2
          · subst d2
            rw [if_pos rfl] at X
            rw [if_pos (show mI (-2) = -2 from rfl), enc_at, b2.1] at M
            exact Like.mk X M f3
          · have m2 : ¬ mI i = -2 := by
              have e : (-2 : Int32) = mI (-2) := rfl
              rw [e, mI_eq hi.1 hi.2 (by omega) (by omega)]
              exact d2
            rw [if_neg d2] at X
            rw [if_neg m2, mm_ck_ok (by omega) (by omega) (by omega), mI_ix (by omega) (by omega), enc_at, ← (b3 i.toNat (by omega)).1] at M
            exact Like.mk X M f3
    · exact Like.mk (soon_b1 hi hn.2 x1 x4 c) (soon_b2 hi hn.2 x2 x5 c) x3
