/-- the count of a bank's companies -/
def cntV (c t last l1 l2 : Int) : Int := if c = 0 ∨ l1 = 1 then c else if l1 = 2 ∧ t - l2 ≤ last then 0 else 1
theorem cntV_rng {c t last l1 l2 : Int} (h : 0 ≤ c) : 0 ≤ cntV c t last l1 l2 ∧ (cntV c t last l1 l2 ≤ c ∨ cntV c t last l1 l2 ≤ 1) := by
  unfold cntV
  split
  · omega
  · split <;> omega
theorem countX {σ : IM} {b : Nat} {c t : Int} (hb : b < 2) (hc : 0 ≤ c ∧ c ≤ 32) (ht : 0 ≤ t ∧ t ≤ 1000) (h1 : 0 ≤ σ 32 1 ∧ σ 32 1 ≤ 500) (h2 : 0 ≤ σ 32 2 ∧ σ 32 2 ≤ 500) (h3 : -1000 ≤ σ 33 b ∧ σ 33 b ≤ 1000) : ∃ σ1 : IM, fX0_countOf (mI c) (mI b) (mI t) (enc σ) = some (mI (cntV c t (σ 33 b) (σ 32 1) (σ 32 2)), enc σ1) ∧ (∀ k j, ¬ (k = 33 ∧ j = b) → σ1 k j = σ k j) ∧ σ1 33 b = (if ¬ (c = 0 ∨ σ 32 1 = 1) ∧ ¬ (σ 32 1 = 2 ∧ t - σ 32 2 ≤ σ 33 b) then t else σ 33 b) := by
  unfold cntV
  by_cases c1 : c = 0 ∨ σ 32 1 = 1
  · refine ⟨σ, ?_, fun _ _ _ => rfl, ?_⟩
    · rw [if_pos c1]
      unfold fX0_countOf
      by_cases d : c = 0
      · simp (implicitDefEqProofs := false) (maxSteps := 1000000) (disch := omega) only [eq_true d, ↓mm_lt_s, ↓cl_in, ↓cl_wi, ↓cl_has, ↓cl_isP, mL_le, lit_n, litL_n, mL_mI, mL_neg, mm_cl_s, mI_lt, mI_le, mI_eq, enc_at, enc_wr, enc_cp, mI_neg, mI_add, mI_sub, mI_mul, mI_ix, mm_ck_ok, mm_nz_ok, mm_bo_c, mm_bo_m0, mm_bo_m1, b01, Int.toNat_natCast, Int.reduceToNat, Int.reduceNeg, Int.reduceSub, Int.reduceAdd, Int.reduceMul, Int.reduceLT, Int.reduceLE, Int.reduceEq, ↓reduceIte, not_true, not_false_eq_true, not_true_eq_false, and_self, true_and, and_true, false_and, and_false, Decidable.not_not, stv1, stv2, stv3, stv4]
      · have d1 : σ 32 1 = 1 := by omega
        simp (implicitDefEqProofs := false) (maxSteps := 1000000) (disch := omega) only [d, eq_true d1, ↓mm_lt_s, ↓cl_in, ↓cl_wi, ↓cl_has, ↓cl_isP, mL_le, lit_n, litL_n, mL_mI, mL_neg, mm_cl_s, mI_lt, mI_le, mI_eq, enc_at, enc_wr, enc_cp, mI_neg, mI_add, mI_sub, mI_mul, mI_ix, mm_ck_ok, mm_nz_ok, mm_bo_c, mm_bo_m0, mm_bo_m1, b01, Int.toNat_natCast, Int.reduceToNat, Int.reduceNeg, Int.reduceSub, Int.reduceAdd, Int.reduceMul, Int.reduceLT, Int.reduceLE, Int.reduceEq, ↓reduceIte, not_true, not_false_eq_true, not_true_eq_false, and_self, true_and, and_true, false_and, and_false, Decidable.not_not, stv1, stv2, stv3, stv4]
    · rw [if_neg (fun h => h.1 c1)]
  · by_cases c2 : σ 32 1 = 2 ∧ t - σ 32 2 ≤ σ 33 b
    · refine ⟨σ, ?_, fun _ _ _ => rfl, ?_⟩
      · rw [if_neg c1, if_pos c2]
        have d1 : ¬ c = 0 := by omega
        have d2 : ¬ σ 32 1 = 1 := by omega
        have d3 : ¬ σ 33 b < t - σ 32 2 := by omega
        unfold fX0_countOf
        simp (implicitDefEqProofs := false) (maxSteps := 1000000) (disch := omega) only [d1, d2, eq_true c2.1, d3, ↓mm_lt_s, ↓cl_in, ↓cl_wi, ↓cl_has, ↓cl_isP, mL_le, lit_n, litL_n, mL_mI, mL_neg, mm_cl_s, mI_lt, mI_le, mI_eq, enc_at, enc_wr, enc_cp, mI_neg, mI_add, mI_sub, mI_mul, mI_ix, mm_ck_ok, mm_nz_ok, mm_bo_c, mm_bo_m0, mm_bo_m1, b01, Int.toNat_natCast, Int.reduceToNat, Int.reduceNeg, Int.reduceSub, Int.reduceAdd, Int.reduceMul, Int.reduceLT, Int.reduceLE, Int.reduceEq, ↓reduceIte, not_true, not_false_eq_true, not_true_eq_false, and_self, true_and, and_true, false_and, and_false, Decidable.not_not, stv1, stv2, stv3, stv4]
      · rw [if_neg (fun h => h.2 c2)]
    · refine ⟨iw σ 33 b t, ?_, fun k j h => iw_ne h, ?_⟩
      · rw [if_neg c1, if_neg c2]
        have d1 : ¬ c = 0 := by omega
        have d2 : ¬ σ 32 1 = 1 := by omega
        unfold fX0_countOf
        by_cases d3 : σ 32 1 = 2
        · have d4 : σ 33 b < t - σ 32 2 := by omega
          simp (implicitDefEqProofs := false) (maxSteps := 1000000) (disch := omega) only [d1, d2, eq_true d3, d4, ↓mm_lt_s, ↓cl_in, ↓cl_wi, ↓cl_has, ↓cl_isP, mL_le, lit_n, litL_n, mL_mI, mL_neg, mm_cl_s, mI_lt, mI_le, mI_eq, enc_at, enc_wr, enc_cp, mI_neg, mI_add, mI_sub, mI_mul, mI_ix, mm_ck_ok, mm_nz_ok, mm_bo_c, mm_bo_m0, mm_bo_m1, b01, Int.toNat_natCast, Int.reduceToNat, Int.reduceNeg, Int.reduceSub, Int.reduceAdd, Int.reduceMul, Int.reduceLT, Int.reduceLE, Int.reduceEq, ↓reduceIte, not_true, not_false_eq_true, not_true_eq_false, and_self, true_and, and_true, false_and, and_false, Decidable.not_not, stv1, stv2, stv3, stv4]
        · simp (implicitDefEqProofs := false) (maxSteps := 1000000) (disch := omega) only [d1, d2, d3, ↓mm_lt_s, ↓cl_in, ↓cl_wi, ↓cl_has, ↓cl_isP, mL_le, lit_n, litL_n, mL_mI, mL_neg, mm_cl_s, mI_lt, mI_le, mI_eq, enc_at, enc_wr, enc_cp, mI_neg, mI_add, mI_sub, mI_mul, mI_ix, mm_ck_ok, mm_nz_ok, mm_bo_c, mm_bo_m0, mm_bo_m1, b01, Int.toNat_natCast, Int.reduceToNat, Int.reduceNeg, Int.reduceSub, Int.reduceAdd, Int.reduceMul, Int.reduceLT, Int.reduceLE, Int.reduceEq, ↓reduceIte, not_true, not_false_eq_true, not_true_eq_false, and_self, true_and, and_true, false_and, and_false, Decidable.not_not, stv1, stv2, stv3, stv4]
      · rw [if_pos ⟨c1, c2⟩, iw_eq rfl rfl]
theorem countM {τ : IM} {l : Nat} {c t s : Int} (hl : l < 2) (hc : 0 ≤ c ∧ c ≤ 32) (hs : 0 ≤ s ∧ s ≤ 32) (ht : 0 ≤ t ∧ t ≤ 1000) (h1 : 0 ≤ τ 0 26 ∧ τ 0 26 ≤ 500) (h2 : 0 ≤ τ 2 2 ∧ τ 2 2 ≤ 500) (h3 : -1000 ≤ τ 18 l ∧ τ 18 l ≤ 1000) : ∃ τ1 : IM, fX7_countsAt (mI l) (mI t) (mI c) (mI s) (enc τ) = some (mI (cntV c t (τ 18 l) (τ 0 26) (τ 2 2) + s), enc τ1) ∧ (∀ k j, ¬ (k = 18 ∧ j = l) → τ1 k j = τ k j) ∧ τ1 18 l = (if τ 0 26 = 2 ∧ ¬ c = 0 ∧ ¬ t - τ 2 2 ≤ τ 18 l then t else τ 18 l) := by
  unfold cntV
  by_cases c0 : c = 0
  · refine ⟨τ, ?_, fun _ _ _ => rfl, ?_⟩
    · rw [if_pos (Or.inl c0)]
      subst c0
      unfold fX7_countsAt
      by_cases d : τ 0 26 = 2
      · simp (implicitDefEqProofs := false) (maxSteps := 1000000) (disch := omega) only [eq_true d, ↓mm_lt_s, ↓cl_in, ↓cl_wi, ↓cl_has, ↓cl_isP, mL_le, lit_n, litL_n, mL_mI, mL_neg, mm_cl_s, mI_lt, mI_le, mI_eq, enc_at, enc_wr, enc_cp, mI_neg, mI_add, mI_sub, mI_mul, mI_ix, mm_ck_ok, mm_nz_ok, mm_bo_c, mm_bo_m0, mm_bo_m1, b01, Int.toNat_natCast, Int.reduceToNat, Int.reduceNeg, Int.reduceSub, Int.reduceAdd, Int.reduceMul, Int.reduceLT, Int.reduceLE, Int.reduceEq, ↓reduceIte, not_true, not_false_eq_true, not_true_eq_false, and_self, true_and, and_true, false_and, and_false, Decidable.not_not, stv1, stv2, stv3, stv4]
      · simp (implicitDefEqProofs := false) (maxSteps := 1000000) (disch := omega) only [d, ↓mm_lt_s, ↓cl_in, ↓cl_wi, ↓cl_has, ↓cl_isP, mL_le, lit_n, litL_n, mL_mI, mL_neg, mm_cl_s, mI_lt, mI_le, mI_eq, enc_at, enc_wr, enc_cp, mI_neg, mI_add, mI_sub, mI_mul, mI_ix, mm_ck_ok, mm_nz_ok, mm_bo_c, mm_bo_m0, mm_bo_m1, b01, Int.toNat_natCast, Int.reduceToNat, Int.reduceNeg, Int.reduceSub, Int.reduceAdd, Int.reduceMul, Int.reduceLT, Int.reduceLE, Int.reduceEq, ↓reduceIte, not_true, not_false_eq_true, not_true_eq_false, and_self, true_and, and_true, false_and, and_false, Decidable.not_not, stv1, stv2, stv3, stv4]
    · rw [if_neg (fun h => h.2.1 c0)]
  · by_cases c1 : τ 0 26 = 2
    · have n1 : ¬ (c = 0 ∨ τ 0 26 = 1) := by omega
      have n2 : ¬ c ≤ 0 := by omega
      have n3 : ¬ τ 0 26 = 1 := by omega
      by_cases c2 : t - τ 2 2 ≤ τ 18 l
      · refine ⟨τ, ?_, fun _ _ _ => rfl, ?_⟩
        · rw [if_neg n1, if_pos ⟨c1, c2⟩]
          have d4 : t - τ 18 l ≤ τ 2 2 := by omega
          have d5 : iw τ 18 l (τ 18 l) = τ := iw_self rfl
          unfold fX7_countsAt
          simp (implicitDefEqProofs := false) (maxSteps := 1000000) (disch := omega) only [c0, n2, n3, eq_true c1, d4, d5, ↓mm_lt_s, ↓cl_in, ↓cl_wi, ↓cl_has, ↓cl_isP, mL_le, lit_n, litL_n, mL_mI, mL_neg, mm_cl_s, mI_lt, mI_le, mI_eq, enc_at, enc_wr, enc_cp, mI_neg, mI_add, mI_sub, mI_mul, mI_ix, mm_ck_ok, mm_nz_ok, mm_bo_c, mm_bo_m0, mm_bo_m1, b01, Int.toNat_natCast, Int.reduceToNat, Int.reduceNeg, Int.reduceSub, Int.reduceAdd, Int.reduceMul, Int.reduceLT, Int.reduceLE, Int.reduceEq, ↓reduceIte, not_true, not_false_eq_true, not_true_eq_false, and_self, true_and, and_true, false_and, and_false, Decidable.not_not, stv1, stv2, stv3, stv4]
        · rw [if_neg (fun h => h.2.2 c2)]
      · refine ⟨iw τ 18 l t, ?_, fun k j h => iw_ne h, ?_⟩
        · rw [if_neg n1, if_neg (fun h => c2 h.2)]
          have d4 : ¬ t - τ 18 l ≤ τ 2 2 := by omega
          unfold fX7_countsAt
          simp (implicitDefEqProofs := false) (maxSteps := 1000000) (disch := omega) only [c0, n2, n3, eq_true c1, d4, ↓mm_lt_s, ↓cl_in, ↓cl_wi, ↓cl_has, ↓cl_isP, mL_le, lit_n, litL_n, mL_mI, mL_neg, mm_cl_s, mI_lt, mI_le, mI_eq, enc_at, enc_wr, enc_cp, mI_neg, mI_add, mI_sub, mI_mul, mI_ix, mm_ck_ok, mm_nz_ok, mm_bo_c, mm_bo_m0, mm_bo_m1, b01, Int.toNat_natCast, Int.reduceToNat, Int.reduceNeg, Int.reduceSub, Int.reduceAdd, Int.reduceMul, Int.reduceLT, Int.reduceLE, Int.reduceEq, ↓reduceIte, not_true, not_false_eq_true, not_true_eq_false, and_self, true_and, and_true, false_and, and_false, Decidable.not_not, stv1, stv2, stv3, stv4]
        · rw [if_pos ⟨c1, c0, c2⟩, iw_eq rfl rfl]
    · refine ⟨τ, ?_, fun _ _ _ => rfl, ?_⟩
      · unfold fX7_countsAt
        by_cases c2 : τ 0 26 = 1
        · rw [if_pos (Or.inr c2)]
          have d : ¬ τ 0 26 = 2 := c1
          simp (implicitDefEqProofs := false) (maxSteps := 1000000) (disch := omega) only [c0, d, eq_true c2, ↓mm_lt_s, ↓cl_in, ↓cl_wi, ↓cl_has, ↓cl_isP, mL_le, lit_n, litL_n, mL_mI, mL_neg, mm_cl_s, mI_lt, mI_le, mI_eq, enc_at, enc_wr, enc_cp, mI_neg, mI_add, mI_sub, mI_mul, mI_ix, mm_ck_ok, mm_nz_ok, mm_bo_c, mm_bo_m0, mm_bo_m1, b01, Int.toNat_natCast, Int.reduceToNat, Int.reduceNeg, Int.reduceSub, Int.reduceAdd, Int.reduceMul, Int.reduceLT, Int.reduceLE, Int.reduceEq, ↓reduceIte, not_true, not_false_eq_true, not_true_eq_false, and_self, true_and, and_true, false_and, and_false, Decidable.not_not, stv1, stv2, stv3, stv4]
        · rw [if_neg (fun h => h.elim c0 c2), if_neg (fun h => c1 h.1)]
          simp (implicitDefEqProofs := false) (maxSteps := 1000000) (disch := omega) only [c0, c1, c2, ↓mm_lt_s, ↓cl_in, ↓cl_wi, ↓cl_has, ↓cl_isP, mL_le, lit_n, litL_n, mL_mI, mL_neg, mm_cl_s, mI_lt, mI_le, mI_eq, enc_at, enc_wr, enc_cp, mI_neg, mI_add, mI_sub, mI_mul, mI_ix, mm_ck_ok, mm_nz_ok, mm_bo_c, mm_bo_m0, mm_bo_m1, b01, Int.toNat_natCast, Int.reduceToNat, Int.reduceNeg, Int.reduceSub, Int.reduceAdd, Int.reduceMul, Int.reduceLT, Int.reduceLE, Int.reduceEq, ↓reduceIte, not_true, not_false_eq_true, not_true_eq_false, and_self, true_and, and_true, false_and, and_false, Decidable.not_not, stv1, stv2, stv3, stv4]
      · rw [if_neg (fun h => c1 h.1)]
