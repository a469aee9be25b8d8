theorem ph_start {σ τ : IM} {m : Nat} {t : Int} (ht : 0 ≤ t ∧ t ≤ 500) (hG : GL σ τ m) (hR : RW σ τ m (fun _ => t) (t + 1)) : ∃ σ1 σ' τ' : IM, (∀ a b, ¬ (34 ≤ a ∧ a < 44) → ¬ (a = 30 ∧ b = 4) → σ' a b = σ a b) ∧ (∀ a b, ¬ (5 ≤ a ∧ a ≤ 17) → ¬ (a = 0 ∧ b = 24) → τ' a b = τ a b) ∧ GL σ' τ' m ∧ RW σ' τ' m (fun _ => t + 1) (t + 1) ∧ fX0_comeByFord (mI t) (enc σ) = some (mI 0, enc σ1) ∧ fX0_start (mI t) (enc σ1) = some (mI 0, enc σ') ∧ fX7_startAll (mI t) (enc τ) = some (mI 0, enc τ') := by
  have g3 := hG.1.2.2
  obtain ⟨σ1, τ1, a1, a2, a3, a4, a5, a6⟩ := ph_ford ht hG hR
  obtain ⟨σ', τ', b1, b2, b3, b4, b5, b6⟩ := startsL (m := m) (t := t) ht m 0 σ1 τ1 (by omega) a3 (fun p hp => by dsimp only; rw [if_neg (by omega)]; exact a4 p hp)
  refine ⟨σ1, σ', τ', fun a b h1 h2 => by rw [b1 a b h1 h2, a1 a b h1], fun a b h1 h2 => by rw [b2 a b h1 h2, a2 a b h1], b3, b4, a5, ?_, ?_⟩
  · unfold fX0_start
    generalize hfu : mm_fu = NF; have hNF : 4096 ≤ NF := by rw [← hfu]; exact Nat.le_refl _
    simp (implicitDefEqProofs := false) (maxSteps := 1000000) (disch := omega) only [↓mm_lt_s, ↓cl_in, ↓cl_wi, ↓cl_has, ↓cl_isP, mL_le, lit_n, litL_n, mL_mI, mL_neg, mm_cl_s, mI_lt, mI_le, mI_eq, enc_at, enc_wr, enc_cp, mI_neg, mI_add, mI_sub, mI_mul, mI_ix, mm_ck_ok, mm_nz_ok, mm_bo_c, mm_bo_m0, mm_bo_m1, b01, Int.toNat_natCast, Int.reduceToNat, Int.reduceNeg, Int.reduceSub, Int.reduceAdd, Int.reduceMul, Int.reduceLT, Int.reduceLE, Int.reduceEq, ↓reduceIte, not_true, not_false_eq_true, not_true_eq_false, and_self, true_and, and_true, false_and, and_false, Decidable.not_not, stv1, stv2, stv3, stv4]
    have E := b5 NF (by omega) (fun m2 => some (mI 0, m2)) (fun _ _ => none)
    rw [cast0] at E
    exact E
  · unfold fX7_startAll
    generalize hfu : mm_fu = NF; have hNF : 4096 ≤ NF := by rw [← hfu]; exact Nat.le_refl _
    simp (implicitDefEqProofs := false) (maxSteps := 1000000) (disch := omega) only [↓mm_lt_s, ↓cl_in, ↓cl_wi, ↓cl_has, ↓cl_isP, mL_le, lit_n, litL_n, mL_mI, mL_neg, mm_cl_s, mI_lt, mI_le, mI_eq, enc_at, enc_wr, enc_cp, mI_neg, mI_add, mI_sub, mI_mul, mI_ix, mm_ck_ok, mm_nz_ok, mm_bo_c, mm_bo_m0, mm_bo_m1, b01, Int.toNat_natCast, Int.reduceToNat, Int.reduceNeg, Int.reduceSub, Int.reduceAdd, Int.reduceMul, Int.reduceLT, Int.reduceLE, Int.reduceEq, ↓reduceIte, not_true, not_false_eq_true, not_true_eq_false, and_self, true_and, and_true, false_and, and_false, Decidable.not_not, stv1, stv2, stv3, stv4]
    rw [a6 NF (by omega)]
    have E := b6 NF (by omega) (fun m2 => some (mI 0, m2)) (fun _ _ => none)
    rw [cast0] at E
    exact E
/-- the night, in the class -/
theorem nightX {σ : IM} {t : Int} (ht : 0 ≤ t ∧ t ≤ 500) (h3 : 1 ≤ σ 30 3 ∧ σ 30 3 ≤ 400) (hL : 0 ≤ σ 32 3 ∧ σ 32 3 ≤ 500) : fX0_haveNight (mI t) (enc σ) = some (mI 0, enc (if 0 < t ∧ t - t / 240 * 240 = 0 then iw σ 30 3 (if 1 < σ 30 3 - σ 32 3 then σ 30 3 - σ 32 3 else 1) else σ)) := by
  by_cases c1 : t ≤ 0
  · have E : ∀ s : IM, (if 0 < t ∧ t - t / 240 * 240 = 0 then s else σ) = σ := fun s => if_neg (by omega)
    rw [E]
    unfold fX0_haveNight
    simp (implicitDefEqProofs := false) (maxSteps := 1000000) (disch := omega) only [c1, ↓mm_lt_s, ↓cl_in, ↓cl_wi, ↓cl_has, ↓cl_isP, mL_le, lit_n, litL_n, mL_mI, mL_neg, mm_cl_s, mI_lt, mI_le, mI_eq, enc_at, enc_wr, enc_cp, mI_neg, mI_add, mI_sub, mI_mul, mI_ix, mm_ck_ok, mm_nz_ok, mm_bo_c, mm_bo_m0, mm_bo_m1, b01, Int.toNat_natCast, Int.reduceToNat, Int.reduceNeg, Int.reduceSub, Int.reduceAdd, Int.reduceMul, Int.reduceLT, Int.reduceLE, Int.reduceEq, ↓reduceIte, not_true, not_false_eq_true, not_true_eq_false, and_self, true_and, and_true, false_and, and_false, Decidable.not_not, stv1, stv2, stv3, stv4]
  · by_cases c2 : t - t / 240 * 240 = 0
    · have E : ∀ s : IM, (if 0 < t ∧ t - t / 240 * 240 = 0 then s else σ) = s := fun s => if_pos ⟨by omega, c2⟩
      rw [E]
      unfold fX0_haveNight
      by_cases c3 : 1 < σ 30 3 - σ 32 3
      · simp (implicitDefEqProofs := false) (maxSteps := 1000000) (disch := omega) only [c1, mI_div, eq_true c2, c3, ↓mm_lt_s, ↓cl_in, ↓cl_wi, ↓cl_has, ↓cl_isP, mL_le, lit_n, litL_n, mL_mI, mL_neg, mm_cl_s, mI_lt, mI_le, mI_eq, enc_at, enc_wr, enc_cp, mI_neg, mI_add, mI_sub, mI_mul, mI_ix, mm_ck_ok, mm_nz_ok, mm_bo_c, mm_bo_m0, mm_bo_m1, b01, Int.toNat_natCast, Int.reduceToNat, Int.reduceNeg, Int.reduceSub, Int.reduceAdd, Int.reduceMul, Int.reduceLT, Int.reduceLE, Int.reduceEq, ↓reduceIte, not_true, not_false_eq_true, not_true_eq_false, and_self, true_and, and_true, false_and, and_false, Decidable.not_not, stv1, stv2, stv3, stv4]
      · simp (implicitDefEqProofs := false) (maxSteps := 1000000) (disch := omega) only [c1, mI_div, eq_true c2, c3, ↓mm_lt_s, ↓cl_in, ↓cl_wi, ↓cl_has, ↓cl_isP, mL_le, lit_n, litL_n, mL_mI, mL_neg, mm_cl_s, mI_lt, mI_le, mI_eq, enc_at, enc_wr, enc_cp, mI_neg, mI_add, mI_sub, mI_mul, mI_ix, mm_ck_ok, mm_nz_ok, mm_bo_c, mm_bo_m0, mm_bo_m1, b01, Int.toNat_natCast, Int.reduceToNat, Int.reduceNeg, Int.reduceSub, Int.reduceAdd, Int.reduceMul, Int.reduceLT, Int.reduceLE, Int.reduceEq, ↓reduceIte, not_true, not_false_eq_true, not_true_eq_false, and_self, true_and, and_true, false_and, and_false, Decidable.not_not, stv1, stv2, stv3, stv4]
    · have E : ∀ s : IM, (if 0 < t ∧ t - t / 240 * 240 = 0 then s else σ) = σ := fun s => if_neg (fun h => c2 h.2)
      rw [E]
      unfold fX0_haveNight
      simp (implicitDefEqProofs := false) (maxSteps := 1000000) (disch := omega) only [c1, mI_div, c2, ↓mm_lt_s, ↓cl_in, ↓cl_wi, ↓cl_has, ↓cl_isP, mL_le, lit_n, litL_n, mL_mI, mL_neg, mm_cl_s, mI_lt, mI_le, mI_eq, enc_at, enc_wr, enc_cp, mI_neg, mI_add, mI_sub, mI_mul, mI_ix, mm_ck_ok, mm_nz_ok, mm_bo_c, mm_bo_m0, mm_bo_m1, b01, Int.toNat_natCast, Int.reduceToNat, Int.reduceNeg, Int.reduceSub, Int.reduceAdd, Int.reduceMul, Int.reduceLT, Int.reduceLE, Int.reduceEq, ↓reduceIte, not_true, not_false_eq_true, not_true_eq_false, and_self, true_and, and_true, false_and, and_false, Decidable.not_not, stv1, stv2, stv3, stv4]
