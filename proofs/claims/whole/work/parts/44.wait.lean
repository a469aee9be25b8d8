/-- the reference: whether one must wait -/
theorem waitM {τ : IM} {p : Nat} (hp : p < 10) : (τ 16 p < 0 → I32 (τ 16 p) → fX7_mustWait (mI p) (enc τ) = some (mI 0, enc τ)) ∧ (∀ q : Nat, q < 10 → τ 16 p = (q : Int) → (0 ≤ τ 5 q ∧ τ 5 q ≤ 4) → (0 ≤ τ 6 q ∧ τ 6 q ≤ 1) → (0 ≤ τ 6 p ∧ τ 6 p ≤ 1) → (0 ≤ τ 8 q ∧ τ 8 q ≤ 1) → fX7_mustWait (mI p) (enc τ) = some (mI (if (τ 5 q = 2 ∧ τ 8 q = 0) ∧ τ 6 q = τ 6 p then 1 else 0), enc τ)) := by
  refine ⟨fun h hI => ?_, fun q hq h16 h5 h6 h6p h8 => ?_⟩
  · unfold fX7_mustWait
    simp (implicitDefEqProofs := false) (maxSteps := 1000000) (disch := omega) only [h, ↓mm_lt_s, ↓cl_in, ↓cl_wi, ↓cl_has, ↓cl_isP, mL_le, lit_n, litL_n, mL_mI, mL_neg, mm_cl_s, mI_lt, mI_le, mI_eq, enc_at, enc_wr, enc_cp, mI_neg, mI_add, mI_sub, mI_mul, mI_ix, mm_ck_ok, mm_nz_ok, mm_bo_c, mm_bo_m0, mm_bo_m1, b01, Int.toNat_natCast, Int.reduceToNat, Int.reduceNeg, Int.reduceSub, Int.reduceAdd, Int.reduceMul, Int.reduceLT, Int.reduceLE, Int.reduceEq, ↓reduceIte, not_true, not_false_eq_true, not_true_eq_false, and_self, true_and, and_true, false_and, and_false, Decidable.not_not, stv1, stv2, stv3, stv4]
  · have n0 : ¬ (q : Int) < 0 := by omega
    by_cases c5 : τ 5 q = 2
    · by_cases c6 : τ 6 q = τ 6 p
      · by_cases c8 : τ 8 q = 0
        · rw [if_pos ⟨⟨c5, c8⟩, c6⟩]
          unfold fX7_mustWait
          simp (implicitDefEqProofs := false) (maxSteps := 1000000) (disch := omega) only [h16, n0, eq_true c5, eq_true c6, eq_true c8, ↓mm_lt_s, ↓cl_in, ↓cl_wi, ↓cl_has, ↓cl_isP, mL_le, lit_n, litL_n, mL_mI, mL_neg, mm_cl_s, mI_lt, mI_le, mI_eq, enc_at, enc_wr, enc_cp, mI_neg, mI_add, mI_sub, mI_mul, mI_ix, mm_ck_ok, mm_nz_ok, mm_bo_c, mm_bo_m0, mm_bo_m1, b01, Int.toNat_natCast, Int.reduceToNat, Int.reduceNeg, Int.reduceSub, Int.reduceAdd, Int.reduceMul, Int.reduceLT, Int.reduceLE, Int.reduceEq, ↓reduceIte, not_true, not_false_eq_true, not_true_eq_false, and_self, true_and, and_true, false_and, and_false, Decidable.not_not, stv1, stv2, stv3, stv4]
        · rw [if_neg (fun x => c8 x.1.2)]
          unfold fX7_mustWait
          simp (implicitDefEqProofs := false) (maxSteps := 1000000) (disch := omega) only [h16, n0, eq_true c5, eq_true c6, c8, ↓mm_lt_s, ↓cl_in, ↓cl_wi, ↓cl_has, ↓cl_isP, mL_le, lit_n, litL_n, mL_mI, mL_neg, mm_cl_s, mI_lt, mI_le, mI_eq, enc_at, enc_wr, enc_cp, mI_neg, mI_add, mI_sub, mI_mul, mI_ix, mm_ck_ok, mm_nz_ok, mm_bo_c, mm_bo_m0, mm_bo_m1, b01, Int.toNat_natCast, Int.reduceToNat, Int.reduceNeg, Int.reduceSub, Int.reduceAdd, Int.reduceMul, Int.reduceLT, Int.reduceLE, Int.reduceEq, ↓reduceIte, not_true, not_false_eq_true, not_true_eq_false, and_self, true_and, and_true, false_and, and_false, Decidable.not_not, stv1, stv2, stv3, stv4]
      · rw [if_neg (fun x => c6 x.2)]
        unfold fX7_mustWait
        simp (implicitDefEqProofs := false) (maxSteps := 1000000) (disch := omega) only [h16, n0, eq_true c5, c6, ↓mm_lt_s, ↓cl_in, ↓cl_wi, ↓cl_has, ↓cl_isP, mL_le, lit_n, litL_n, mL_mI, mL_neg, mm_cl_s, mI_lt, mI_le, mI_eq, enc_at, enc_wr, enc_cp, mI_neg, mI_add, mI_sub, mI_mul, mI_ix, mm_ck_ok, mm_nz_ok, mm_bo_c, mm_bo_m0, mm_bo_m1, b01, Int.toNat_natCast, Int.reduceToNat, Int.reduceNeg, Int.reduceSub, Int.reduceAdd, Int.reduceMul, Int.reduceLT, Int.reduceLE, Int.reduceEq, ↓reduceIte, not_true, not_false_eq_true, not_true_eq_false, and_self, true_and, and_true, false_and, and_false, Decidable.not_not, stv1, stv2, stv3, stv4]
    · rw [if_neg (fun x => c5 x.1.1)]
      unfold fX7_mustWait
      simp (implicitDefEqProofs := false) (maxSteps := 1000000) (disch := omega) only [h16, n0, c5, ↓mm_lt_s, ↓cl_in, ↓cl_wi, ↓cl_has, ↓cl_isP, mL_le, lit_n, litL_n, mL_mI, mL_neg, mm_cl_s, mI_lt, mI_le, mI_eq, enc_at, enc_wr, enc_cp, mI_neg, mI_add, mI_sub, mI_mul, mI_ix, mm_ck_ok, mm_nz_ok, mm_bo_c, mm_bo_m0, mm_bo_m1, b01, Int.toNat_natCast, Int.reduceToNat, Int.reduceNeg, Int.reduceSub, Int.reduceAdd, Int.reduceMul, Int.reduceLT, Int.reduceLE, Int.reduceEq, ↓reduceIte, not_true, not_false_eq_true, not_true_eq_false, and_self, true_and, and_true, false_and, and_false, Decidable.not_not, stv1, stv2, stv3, stv4]
