theorem bit_s : ∀ h, h < 10 → ∀ i, i < 10 → (((mI ((2 ^ h : Nat) : Int) >>> (mI ((i : Nat) : Int) &&& mI 31)) &&& mI 1 = mI 1) ↔ i = h) := by decide
theorem heldX_L {σ : IM} {p q m : Nat} {K1 K0 : Mm → Aa} {z : Int32 → Mm → Aa} (hm : m ≤ 10) (hh : q < m) (hs : σ 30 6 = (m : Int)) (h7 : σ (34 + p) 7 = ((2 ^ q : Nat) : Int)) (h8 : ∀ i, i < m → 0 ≤ σ (34 + i) 8 ∧ σ (34 + i) 8 ≤ 4) (h9 : ∀ i, i < m → 0 ≤ σ (34 + i) 9 ∧ σ (34 + i) 9 ≤ 1) (hp : p < m) : ∀ (d i N : Nat), i + d = m → d < N → mm_lk z (fX0_isHeldBack_L11 (34 + p) K1 K0) N (mI i) (enc σ) = if i ≤ q ∧ σ (34 + q) 8 = 1 ∧ σ (34 + q) 9 = σ (34 + p) 9 then K1 (enc σ) else K0 (enc σ)
  | d, i, 0, _, h => absurd h (Nat.not_lt_zero d)
  | 0, i, N + 1, h, _ => by
    rw [if_neg (by omega), mm_lk_s, fX0_isHeldBack_L11]
    simp (implicitDefEqProofs := false) (maxSteps := 1000000) (disch := omega) only [hs, ↓mm_lt_s, ↓cl_in, ↓cl_wi, ↓cl_has, ↓cl_isP, mL_le, lit_n, litL_n, mL_mI, mL_neg, mm_cl_s, mI_lt, mI_le, mI_eq, enc_at, enc_wr, enc_cp, mI_neg, mI_add, mI_sub, mI_mul, mI_ix, mm_ck_ok, mm_nz_ok, mm_bo_c, mm_bo_m0, mm_bo_m1, b01, Int.toNat_natCast, Int.reduceToNat, Int.reduceNeg, Int.reduceSub, Int.reduceAdd, Int.reduceMul, Int.reduceLT, Int.reduceLE, Int.reduceEq, ↓reduceIte, not_true, not_false_eq_true, not_true_eq_false, and_self, true_and, and_true, false_and, and_false, Decidable.not_not, stv1, stv2, stv3, stv4]
    repeat (first | rw [if_pos (by omega)] | rw [if_neg (by omega)])
  | d + 1, i, N + 1, h, h2 => by
    have ih := heldX_L (K1 := K1) (K0 := K0) (z := z) hm hh hs h7 h8 h9 hp d (i + 1) N (by omega) (by omega)
    have q8 := h8 i (by omega)
    have q9 := h9 i (by omega)
    have r9 := h9 p hp
    have c1 : ¬ (m : Int) ≤ (i : Int) := by omega
    have B := bit_s q (by omega) i (by omega)
    by_cases e : i = q
    · have B1 := B.2 e
      subst e
      have ih' : mm_lk z (fX0_isHeldBack_L11 (34 + p) K1 K0) N (mI ((i + 1 : Nat) : Int)) (enc σ) = K0 (enc σ) := ih.trans (if_neg (by omega))
      by_cases c2 : σ (34 + i) 8 = 1
      · by_cases c3 : σ (34 + i) 9 = σ (34 + p) 9
        · refine Eq.trans ?_ (if_pos ⟨Nat.le_refl i, c2, c3⟩).symm
          rw [mm_lk_s, fX0_isHeldBack_L11]
          simp (implicitDefEqProofs := false) (maxSteps := 1000000) (disch := omega) only [hs, c1, h7, eq_true B1, eq_true c2, eq_true c3, ↓mm_lt_s, ↓cl_in, ↓cl_wi, ↓cl_has, ↓cl_isP, mL_le, lit_n, litL_n, mL_mI, mL_neg, mm_cl_s, mI_lt, mI_le, mI_eq, enc_at, enc_wr, enc_cp, mI_neg, mI_add, mI_sub, mI_mul, mI_ix, mm_ck_ok, mm_nz_ok, mm_bo_c, mm_bo_m0, mm_bo_m1, b01, Int.toNat_natCast, Int.reduceToNat, Int.reduceNeg, Int.reduceSub, Int.reduceAdd, Int.reduceMul, Int.reduceLT, Int.reduceLE, Int.reduceEq, ↓reduceIte, not_true, not_false_eq_true, not_true_eq_false, and_self, true_and, and_true, false_and, and_false, Decidable.not_not, stv1, stv2, stv3, stv4]
        · refine Eq.trans ?_ (if_neg (fun x => c3 x.2.2)).symm
          rw [mm_lk_s, fX0_isHeldBack_L11]
          simp (implicitDefEqProofs := false) (maxSteps := 1000000) (disch := omega) only [hs, c1, h7, eq_true B1, eq_true c2, c3, cast_s, ↓mm_lt_s, ↓cl_in, ↓cl_wi, ↓cl_has, ↓cl_isP, mL_le, lit_n, litL_n, mL_mI, mL_neg, mm_cl_s, mI_lt, mI_le, mI_eq, enc_at, enc_wr, enc_cp, mI_neg, mI_add, mI_sub, mI_mul, mI_ix, mm_ck_ok, mm_nz_ok, mm_bo_c, mm_bo_m0, mm_bo_m1, b01, Int.toNat_natCast, Int.reduceToNat, Int.reduceNeg, Int.reduceSub, Int.reduceAdd, Int.reduceMul, Int.reduceLT, Int.reduceLE, Int.reduceEq, ↓reduceIte, not_true, not_false_eq_true, not_true_eq_false, and_self, true_and, and_true, false_and, and_false, Decidable.not_not, stv1, stv2, stv3, stv4]
          exact ih'
      · refine Eq.trans ?_ (if_neg (fun x => c2 x.2.1)).symm
        rw [mm_lk_s, fX0_isHeldBack_L11]
        simp (implicitDefEqProofs := false) (maxSteps := 1000000) (disch := omega) only [hs, c1, h7, eq_true B1, c2, cast_s, ↓mm_lt_s, ↓cl_in, ↓cl_wi, ↓cl_has, ↓cl_isP, mL_le, lit_n, litL_n, mL_mI, mL_neg, mm_cl_s, mI_lt, mI_le, mI_eq, enc_at, enc_wr, enc_cp, mI_neg, mI_add, mI_sub, mI_mul, mI_ix, mm_ck_ok, mm_nz_ok, mm_bo_c, mm_bo_m0, mm_bo_m1, b01, Int.toNat_natCast, Int.reduceToNat, Int.reduceNeg, Int.reduceSub, Int.reduceAdd, Int.reduceMul, Int.reduceLT, Int.reduceLE, Int.reduceEq, ↓reduceIte, not_true, not_false_eq_true, not_true_eq_false, and_self, true_and, and_true, false_and, and_false, Decidable.not_not, stv1, stv2, stv3, stv4]
        exact ih'
    · have B1 : ¬ ((mI ((2 ^ q : Nat) : Int) >>> (mI ((i : Nat) : Int) &&& mI 31)) &&& mI 1 = mI 1) := fun x => e (B.1 x)
      have T : mm_lk z (fX0_isHeldBack_L11 (34 + p) K1 K0) N (mI ((i + 1 : Nat) : Int)) (enc σ) = if i ≤ q ∧ σ (34 + q) 8 = 1 ∧ σ (34 + q) 9 = σ (34 + p) 9 then K1 (enc σ) else K0 (enc σ) := by
        rw [ih]
        by_cases c : i ≤ q ∧ σ (34 + q) 8 = 1 ∧ σ (34 + q) 9 = σ (34 + p) 9
        · rw [if_pos c, if_pos ⟨by omega, c.2⟩]
        · rw [if_neg c, if_neg (fun x => c ⟨by omega, x.2⟩)]
      rw [← T, mm_lk_s, fX0_isHeldBack_L11]
      simp (implicitDefEqProofs := false) (maxSteps := 1000000) (disch := omega) only [hs, c1, h7, B1, cast_s, ↓mm_lt_s, ↓cl_in, ↓cl_wi, ↓cl_has, ↓cl_isP, mL_le, lit_n, litL_n, mL_mI, mL_neg, mm_cl_s, mI_lt, mI_le, mI_eq, enc_at, enc_wr, enc_cp, mI_neg, mI_add, mI_sub, mI_mul, mI_ix, mm_ck_ok, mm_nz_ok, mm_bo_c, mm_bo_m0, mm_bo_m1, b01, Int.toNat_natCast, Int.reduceToNat, Int.reduceNeg, Int.reduceSub, Int.reduceAdd, Int.reduceMul, Int.reduceLT, Int.reduceLE, Int.reduceEq, ↓reduceIte, not_true, not_false_eq_true, not_true_eq_false, and_self, true_and, and_true, false_and, and_false, Decidable.not_not, stv1, stv2, stv3, stv4]
theorem heldX {σ : IM} {p m : Nat} (hm : m ≤ 10) (hp : p < m) (hs : σ 30 6 = (m : Int)) (h8 : ∀ i, i < m → 0 ≤ σ (34 + i) 8 ∧ σ (34 + i) 8 ≤ 4) (h9 : ∀ i, i < m → 0 ≤ σ (34 + i) 9 ∧ σ (34 + i) 9 ≤ 1) : (σ (34 + p) 7 = 0 → fX0_isHeldBack (34 + p) (enc σ) = some (mI 0, enc σ)) ∧ (∀ q : Nat, q < m → σ (34 + p) 7 = ((2 ^ q : Nat) : Int) → fX0_isHeldBack (34 + p) (enc σ) = some (mI (if σ (34 + q) 8 = 1 ∧ σ (34 + q) 9 = σ (34 + p) 9 then 1 else 0), enc σ)) := by
  refine ⟨fun h => ?_, fun q hq h7 => ?_⟩
  · unfold fX0_isHeldBack
    simp (implicitDefEqProofs := false) (maxSteps := 1000000) (disch := omega) only [eq_true h, ↓mm_lt_s, ↓cl_in, ↓cl_wi, ↓cl_has, ↓cl_isP, mL_le, lit_n, litL_n, mL_mI, mL_neg, mm_cl_s, mI_lt, mI_le, mI_eq, enc_at, enc_wr, enc_cp, mI_neg, mI_add, mI_sub, mI_mul, mI_ix, mm_ck_ok, mm_nz_ok, mm_bo_c, mm_bo_m0, mm_bo_m1, b01, Int.toNat_natCast, Int.reduceToNat, Int.reduceNeg, Int.reduceSub, Int.reduceAdd, Int.reduceMul, Int.reduceLT, Int.reduceLE, Int.reduceEq, ↓reduceIte, not_true, not_false_eq_true, not_true_eq_false, and_self, true_and, and_true, false_and, and_false, Decidable.not_not, stv1, stv2, stv3, stv4]
  · have n0 : ¬ mI ((2 ^ q : Nat) : Int) = mI 0 := by
      have key : ∀ q, q < 10 → ¬ mI ((2 ^ q : Nat) : Int) = mI 0 := by decide
      exact key q (by omega)
    unfold fX0_isHeldBack
    generalize hfu : mm_fu = NF; have hNF : 4096 ≤ NF := by rw [← hfu]; exact Nat.le_refl _
    have E := heldX_L (K1 := fun m3 => some (mI 1, m3)) (K0 := fun m2 => some (mI 0, m2)) (z := fun _ _ => none) hm hq hs h7 h8 h9 hp m 0 NF (by omega) (by omega)
    rw [cast0] at E
    simp (implicitDefEqProofs := false) (maxSteps := 1000000) (disch := omega) only [h7, n0, ↓mm_lt_s, ↓cl_in, ↓cl_wi, ↓cl_has, ↓cl_isP, mL_le, lit_n, litL_n, mL_mI, mL_neg, mm_cl_s, mI_lt, mI_le, mI_eq, enc_at, enc_wr, enc_cp, mI_neg, mI_add, mI_sub, mI_mul, mI_ix, mm_ck_ok, mm_nz_ok, mm_bo_c, mm_bo_m0, mm_bo_m1, b01, Int.toNat_natCast, Int.reduceToNat, Int.reduceNeg, Int.reduceSub, Int.reduceAdd, Int.reduceMul, Int.reduceLT, Int.reduceLE, Int.reduceEq, ↓reduceIte, not_true, not_false_eq_true, not_true_eq_false, and_self, true_and, and_true, false_and, and_false, Decidable.not_not, stv1, stv2, stv3, stv4]
    refine E.trans ?_
    by_cases c : σ (34 + q) 8 = 1 ∧ σ (34 + q) 9 = σ (34 + p) 9
    · rw [if_pos ⟨Nat.zero_le q, c⟩, if_pos c]
    · rw [if_neg (fun x => c x.2), if_neg c]
