/-- the bridge grows, in the reference -/
theorem growM {τ : IM} {c : Int} (hc : 0 ≤ c ∧ c ≤ 64) (h23 : 1 ≤ τ 0 23 ∧ τ 0 23 ≤ 400) (h25 : 0 ≤ τ 0 25 ∧ τ 0 25 ≤ 100000) (h0 : 0 ≤ τ 2 0 ∧ τ 2 0 ≤ 500) : fX7_grow (mI c) (enc τ) = some (mI 0, enc (iw (iw τ 0 25 (τ 0 25 + c)) 0 23 (if τ 0 23 + τ 2 0 * c < 400 then τ 0 23 + τ 2 0 * c else 400))) := by
  have m1 : 0 ≤ τ 2 0 * c := Int.mul_nonneg h0.1 hc.1
  have m2 : τ 2 0 * c ≤ 500 * 64 := Int.mul_le_mul h0.2 hc.2 hc.1 (by omega)
  have e1 : iw τ 0 25 (τ 0 25 + c) 0 23 = τ 0 23 := iw_ne (by omega)
  have e2 : iw τ 0 25 (τ 0 25 + c) 2 0 = τ 2 0 := iw_ne (by omega)
  have e3 : (if 400 < τ 0 23 + τ 2 0 * c then 400 else τ 0 23 + τ 2 0 * c) = (if τ 0 23 + τ 2 0 * c < 400 then τ 0 23 + τ 2 0 * c else 400) := by
    generalize τ 0 23 + τ 2 0 * c = v
    split <;> split <;> omega
  unfold fX7_grow
  simp (implicitDefEqProofs := false) (maxSteps := 1000000) (disch := omega) only [e1, e2, least_s, ↓mm_lt_s, ↓cl_in, ↓cl_wi, ↓cl_has, ↓cl_isP, mL_le, lit_n, litL_n, mL_mI, mL_neg, mm_cl_s, mI_lt, mI_le, mI_eq, enc_at, enc_wr, enc_cp, mI_neg, mI_add, mI_sub, mI_mul, mI_ix, mm_ck_ok, mm_nz_ok, mm_bo_c, mm_bo_m0, mm_bo_m1, b01, Int.toNat_natCast, Int.reduceToNat, Int.reduceNeg, Int.reduceSub, Int.reduceAdd, Int.reduceMul, Int.reduceLT, Int.reduceLE, Int.reduceEq, ↓reduceIte, not_true, not_false_eq_true, not_true_eq_false, and_self, true_and, and_true, false_and, and_false, Decidable.not_not, stv1, stv2, stv3, stv4]
  rw [e3]
