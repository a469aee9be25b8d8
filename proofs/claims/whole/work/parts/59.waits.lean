/-! waits: two loops against one -/
/-- the best so far, in both -/
def wB (m : Nat) (w least ans best few : Int) : Prop := (best = -1 ∧ least = 1000000 ∧ ans = 0 ∧ few = 0) ∨ (∃ i j : Nat, (i < m ∧ j < m) ∧ best = ((i * m + j : Nat) : Int) ∧ few = least ∧ (0 ≤ least ∧ least ≤ 10000) ∧ ans = (if w = 0 then (i : Int) else (j : Int)))
theorem ijm {i j m : Nat} (hi : i < m) (hj : j < m) (hm : m ≤ 10) : i * m + j < m * m ∧ m * m ≤ 100 := by
  have h1 : (i + 1) * m ≤ m * m := Nat.mul_le_mul_right m hi
  have h2 : m * m ≤ 10 * 10 := Nat.mul_le_mul hm hm
  rw [Nat.add_mul, Nat.one_mul] at h1
  omega
theorem ijd {i j m : Nat} (hj : j < m) : (((i * m + j : Nat) : Int) / (m : Int) = (i : Int)) ∧ (((i * m + j : Nat) : Int) - (i : Int) * (m : Int) = (j : Int)) := by
  have h1 : (i * m + j) / m = i := by
    rw [Nat.mul_comm, Nat.mul_add_div (by omega), Nat.div_eq_of_lt hj, Nat.add_zero]
  constructor
  · rw [← Int.natCast_ediv, h1]
  · rw [Int.natCast_add, Int.natCast_mul]
    omega
/-- one turn of both -/
theorem waits1 {m i j : Nat} {w : Int} {σ τ : IM} {least ans best few : Int} (hw : w = 0 ∨ w = 1) (h : RX σ τ) (hm : τ 0 1 = (m : Int)) (hi : i < m) (hj : j < m) (hB : wB m w least ans best few) : ∃ (σ' τ' : IM) (least' ans' best' few' : Int), RX σ' τ' ∧ τ' 0 1 = (m : Int) ∧ wB m w least' ans' best' few' ∧ (0 ≤ best ∨ i ≠ j → 0 ≤ best') ∧ (∀ (N : Nat) (K : Int32 → Int32 → Mm → Aa) (z : Int32 → Int32 → Int32 → Mm → Aa), mm_lk z (fX6_waits_L48 (mI w) (mI i) K) (N + 1) (mI least) (mI ans) (mI j) (enc σ) = mm_lk z (fX6_waits_L48 (mI w) (mI i) K) N (mI least') (mI ans') (mI ((j + 1 : Nat) : Int)) (enc σ')) ∧ (∀ (N : Nat) (K : Int32 → Mm → Aa) (z : Int32 → Int32 → Int32 → Mm → Aa), mm_lk z (fX7_waits_L30 K) (N + 1) (mI best) (mI few) (mI ((i * m + j : Nat) : Int)) (enc τ) = mm_lk z (fX7_waits_L30 K) N (mI best') (mI few') (mI ((i * m + (j + 1) : Nat) : Int)) (enc τ')) := by
  obtain ⟨⟨n1, n2, n3⟩, n4, n5, n6⟩ := h.now
  have hm10 : m ≤ 10 := by omega
  have n4' : σ 1 1 = (m : Int) := by omega
  obtain ⟨k1, k2⟩ := ijm hi hj hm10
  obtain ⟨k3, k4⟩ := ijd (i := i) hj
  have ek : ((i * m + (j + 1) : Nat) : Int) = ((i * m + j : Nat) : Int) + 1 := by omega
  have emm : (m : Int) * (m : Int) = ((m * m : Nat) : Int) := by rw [Int.natCast_mul]
  have q1 : ¬ ((m * m : Nat) : Int) ≤ ((i * m + j : Nat) : Int) := by omega
  have cj : ¬ (m : Int) ≤ (j : Int) := by omega
  have wr : (0 ≤ least ∧ least ≤ 1000000) ∧ (-1 ≤ best ∧ best ≤ 100) ∧ (0 ≤ few ∧ few ≤ 10000) := by
    rcases hB with ⟨b1, b2, b3, b4⟩ | ⟨i', j', ⟨b0, b0'⟩, b1, b2, b3, b4⟩
    · omega
    · have := ijm b0 b0' hm10
      omega
  by_cases c : i = j
  · subst c
    refine ⟨σ, τ, least, ans, best, few, h, hm, hB, fun x => x.elim id (fun y => absurd rfl y), fun N K z => ?_, fun N K z => ?_⟩
    · have l1 : least ≤ 1000000 := wr.1.2
      rw [mm_lk_s, fX6_waits_L48]
      simp (implicitDefEqProofs := false) (maxSteps := 1000000) (disch := omega) only [n4', cj, l1, cast_s, ↓mm_lt_s, ↓cl_in, ↓cl_wi, ↓cl_has, ↓cl_isP, mL_le, lit_n, litL_n, mL_mI, mL_neg, mm_cl_s, mI_lt, mI_le, mI_eq, enc_at, enc_wr, enc_cp, mI_neg, mI_add, mI_sub, mI_mul, mI_ix, mm_ck_ok, mm_nz_ok, mm_bo_c, mm_bo_m0, mm_bo_m1, b01, Int.toNat_natCast, Int.reduceToNat, Int.reduceNeg, Int.reduceSub, Int.reduceAdd, Int.reduceMul, Int.reduceLT, Int.reduceLE, Int.reduceEq, ↓reduceIte, not_true, not_false_eq_true, not_true_eq_false, and_self, true_and, and_true, false_and, and_false, Decidable.not_not, stv1, stv2, stv3, stv4]
    · rw [mm_lk_s, fX7_waits_L30, ek]
      generalize hk : ((i * m + i : Nat) : Int) = k at *
      simp (implicitDefEqProofs := false) (maxSteps := 1000000) (disch := omega) only [hm, emm, q1, mI_div, k3, k4, ↓mm_lt_s, ↓cl_in, ↓cl_wi, ↓cl_has, ↓cl_isP, mL_le, lit_n, litL_n, mL_mI, mL_neg, mm_cl_s, mI_lt, mI_le, mI_eq, enc_at, enc_wr, enc_cp, mI_neg, mI_add, mI_sub, mI_mul, mI_ix, mm_ck_ok, mm_nz_ok, mm_bo_c, mm_bo_m0, mm_bo_m1, b01, Int.toNat_natCast, Int.reduceToNat, Int.reduceNeg, Int.reduceSub, Int.reduceAdd, Int.reduceMul, Int.reduceLT, Int.reduceLE, Int.reduceEq, ↓reduceIte, not_true, not_false_eq_true, not_true_eq_false, and_self, true_and, and_true, false_and, and_false, Decidable.not_not, stv1, stv2, stv3, stv4]
  · obtain ⟨S, σ', τ', s1, s2, s3, s4, s5⟩ := sumIfR (p := i) (o := j) h hm hi hj
    have c' : ¬ (i : Int) = (j : Int) := by omega
    by_cases better : S < least
    · refine ⟨σ', τ', S, (if w = 0 then (i : Int) else (j : Int)), ((i * m + j : Nat) : Int), S, s4, s5, Or.inr ⟨i, j, ⟨hi, hj⟩, rfl, rfl, s1, rfl⟩, fun _ => by omega, fun N K z => ?_, fun N K z => ?_⟩
      · have nb : ¬ least ≤ S := by omega
        rw [mm_lk_s, fX6_waits_L48]
        rcases hw with rfl | rfl
        · simp (implicitDefEqProofs := false) (maxSteps := 1000000) (disch := omega) only [n4', cj, c', ↓mm_lt_s, ↓cl_in, ↓cl_wi, ↓cl_has, ↓cl_isP, mL_le, lit_n, litL_n, mL_mI, mL_neg, mm_cl_s, mI_lt, mI_le, mI_eq, enc_at, enc_wr, enc_cp, mI_neg, mI_add, mI_sub, mI_mul, mI_ix, mm_ck_ok, mm_nz_ok, mm_bo_c, mm_bo_m0, mm_bo_m1, b01, Int.toNat_natCast, Int.reduceToNat, Int.reduceNeg, Int.reduceSub, Int.reduceAdd, Int.reduceMul, Int.reduceLT, Int.reduceLE, Int.reduceEq, ↓reduceIte, not_true, not_false_eq_true, not_true_eq_false, and_self, true_and, and_true, false_and, and_false, Decidable.not_not, stv1, stv2, stv3, stv4]
          rw [s2]
          simp (implicitDefEqProofs := false) (maxSteps := 1000000) (disch := omega) only [nb, cast_s, ↓mm_lt_s, ↓cl_in, ↓cl_wi, ↓cl_has, ↓cl_isP, mL_le, lit_n, litL_n, mL_mI, mL_neg, mm_cl_s, mI_lt, mI_le, mI_eq, enc_at, enc_wr, enc_cp, mI_neg, mI_add, mI_sub, mI_mul, mI_ix, mm_ck_ok, mm_nz_ok, mm_bo_c, mm_bo_m0, mm_bo_m1, b01, Int.toNat_natCast, Int.reduceToNat, Int.reduceNeg, Int.reduceSub, Int.reduceAdd, Int.reduceMul, Int.reduceLT, Int.reduceLE, Int.reduceEq, ↓reduceIte, not_true, not_false_eq_true, not_true_eq_false, and_self, true_and, and_true, false_and, and_false, Decidable.not_not, stv1, stv2, stv3, stv4]
        · simp (implicitDefEqProofs := false) (maxSteps := 1000000) (disch := omega) only [n4', cj, c', ↓mm_lt_s, ↓cl_in, ↓cl_wi, ↓cl_has, ↓cl_isP, mL_le, lit_n, litL_n, mL_mI, mL_neg, mm_cl_s, mI_lt, mI_le, mI_eq, enc_at, enc_wr, enc_cp, mI_neg, mI_add, mI_sub, mI_mul, mI_ix, mm_ck_ok, mm_nz_ok, mm_bo_c, mm_bo_m0, mm_bo_m1, b01, Int.toNat_natCast, Int.reduceToNat, Int.reduceNeg, Int.reduceSub, Int.reduceAdd, Int.reduceMul, Int.reduceLT, Int.reduceLE, Int.reduceEq, ↓reduceIte, not_true, not_false_eq_true, not_true_eq_false, and_self, true_and, and_true, false_and, and_false, Decidable.not_not, stv1, stv2, stv3, stv4]
          rw [s2]
          simp (implicitDefEqProofs := false) (maxSteps := 1000000) (disch := omega) only [nb, cast_s, ↓mm_lt_s, ↓cl_in, ↓cl_wi, ↓cl_has, ↓cl_isP, mL_le, lit_n, litL_n, mL_mI, mL_neg, mm_cl_s, mI_lt, mI_le, mI_eq, enc_at, enc_wr, enc_cp, mI_neg, mI_add, mI_sub, mI_mul, mI_ix, mm_ck_ok, mm_nz_ok, mm_bo_c, mm_bo_m0, mm_bo_m1, b01, Int.toNat_natCast, Int.reduceToNat, Int.reduceNeg, Int.reduceSub, Int.reduceAdd, Int.reduceMul, Int.reduceLT, Int.reduceLE, Int.reduceEq, ↓reduceIte, not_true, not_false_eq_true, not_true_eq_false, and_self, true_and, and_true, false_and, and_false, Decidable.not_not, stv1, stv2, stv3, stv4]
      · have fb : best < 0 ∨ (¬ best < 0 ∧ ¬ few ≤ S) := by
          rcases hB with ⟨b1, b2, b3, b4⟩ | ⟨i', j', b0, b1, b2, b3, b4⟩
          · omega
          · omega
        rw [mm_lk_s, fX7_waits_L30, ek]
        generalize hk : ((i * m + j : Nat) : Int) = k at *
        rcases fb with f1 | ⟨f1, f2⟩
        · simp (implicitDefEqProofs := false) (maxSteps := 1000000) (disch := omega) only [hm, emm, q1, mI_div, k3, k4, c', ↓mm_lt_s, ↓cl_in, ↓cl_wi, ↓cl_has, ↓cl_isP, mL_le, lit_n, litL_n, mL_mI, mL_neg, mm_cl_s, mI_lt, mI_le, mI_eq, enc_at, enc_wr, enc_cp, mI_neg, mI_add, mI_sub, mI_mul, mI_ix, mm_ck_ok, mm_nz_ok, mm_bo_c, mm_bo_m0, mm_bo_m1, b01, Int.toNat_natCast, Int.reduceToNat, Int.reduceNeg, Int.reduceSub, Int.reduceAdd, Int.reduceMul, Int.reduceLT, Int.reduceLE, Int.reduceEq, ↓reduceIte, not_true, not_false_eq_true, not_true_eq_false, and_self, true_and, and_true, false_and, and_false, Decidable.not_not, stv1, stv2, stv3, stv4]
          rw [s3]
          simp (implicitDefEqProofs := false) (maxSteps := 1000000) (disch := omega) only [f1, ↓mm_lt_s, ↓cl_in, ↓cl_wi, ↓cl_has, ↓cl_isP, mL_le, lit_n, litL_n, mL_mI, mL_neg, mm_cl_s, mI_lt, mI_le, mI_eq, enc_at, enc_wr, enc_cp, mI_neg, mI_add, mI_sub, mI_mul, mI_ix, mm_ck_ok, mm_nz_ok, mm_bo_c, mm_bo_m0, mm_bo_m1, b01, Int.toNat_natCast, Int.reduceToNat, Int.reduceNeg, Int.reduceSub, Int.reduceAdd, Int.reduceMul, Int.reduceLT, Int.reduceLE, Int.reduceEq, ↓reduceIte, not_true, not_false_eq_true, not_true_eq_false, and_self, true_and, and_true, false_and, and_false, Decidable.not_not, stv1, stv2, stv3, stv4]
        · simp (implicitDefEqProofs := false) (maxSteps := 1000000) (disch := omega) only [hm, emm, q1, mI_div, k3, k4, c', ↓mm_lt_s, ↓cl_in, ↓cl_wi, ↓cl_has, ↓cl_isP, mL_le, lit_n, litL_n, mL_mI, mL_neg, mm_cl_s, mI_lt, mI_le, mI_eq, enc_at, enc_wr, enc_cp, mI_neg, mI_add, mI_sub, mI_mul, mI_ix, mm_ck_ok, mm_nz_ok, mm_bo_c, mm_bo_m0, mm_bo_m1, b01, Int.toNat_natCast, Int.reduceToNat, Int.reduceNeg, Int.reduceSub, Int.reduceAdd, Int.reduceMul, Int.reduceLT, Int.reduceLE, Int.reduceEq, ↓reduceIte, not_true, not_false_eq_true, not_true_eq_false, and_self, true_and, and_true, false_and, and_false, Decidable.not_not, stv1, stv2, stv3, stv4]
          rw [s3]
          simp (implicitDefEqProofs := false) (maxSteps := 1000000) (disch := omega) only [f1, f2, ↓mm_lt_s, ↓cl_in, ↓cl_wi, ↓cl_has, ↓cl_isP, mL_le, lit_n, litL_n, mL_mI, mL_neg, mm_cl_s, mI_lt, mI_le, mI_eq, enc_at, enc_wr, enc_cp, mI_neg, mI_add, mI_sub, mI_mul, mI_ix, mm_ck_ok, mm_nz_ok, mm_bo_c, mm_bo_m0, mm_bo_m1, b01, Int.toNat_natCast, Int.reduceToNat, Int.reduceNeg, Int.reduceSub, Int.reduceAdd, Int.reduceMul, Int.reduceLT, Int.reduceLE, Int.reduceEq, ↓reduceIte, not_true, not_false_eq_true, not_true_eq_false, and_self, true_and, and_true, false_and, and_false, Decidable.not_not, stv1, stv2, stv3, stv4]
    · refine ⟨σ', τ', least, ans, best, few, s4, s5, hB, fun _ => by
        rcases hB with ⟨b1, b2, b3, b4⟩ | ⟨i', j', b0, b1, b2, b3, b4⟩ <;> omega, fun N K z => ?_, fun N K z => ?_⟩
      · have nb : least ≤ S := by omega
        rw [mm_lk_s, fX6_waits_L48]
        simp (implicitDefEqProofs := false) (maxSteps := 1000000) (disch := omega) only [n4', cj, c', ↓mm_lt_s, ↓cl_in, ↓cl_wi, ↓cl_has, ↓cl_isP, mL_le, lit_n, litL_n, mL_mI, mL_neg, mm_cl_s, mI_lt, mI_le, mI_eq, enc_at, enc_wr, enc_cp, mI_neg, mI_add, mI_sub, mI_mul, mI_ix, mm_ck_ok, mm_nz_ok, mm_bo_c, mm_bo_m0, mm_bo_m1, b01, Int.toNat_natCast, Int.reduceToNat, Int.reduceNeg, Int.reduceSub, Int.reduceAdd, Int.reduceMul, Int.reduceLT, Int.reduceLE, Int.reduceEq, ↓reduceIte, not_true, not_false_eq_true, not_true_eq_false, and_self, true_and, and_true, false_and, and_false, Decidable.not_not, stv1, stv2, stv3, stv4]
        rw [s2]
        simp (implicitDefEqProofs := false) (maxSteps := 1000000) (disch := omega) only [nb, cast_s, ↓mm_lt_s, ↓cl_in, ↓cl_wi, ↓cl_has, ↓cl_isP, mL_le, lit_n, litL_n, mL_mI, mL_neg, mm_cl_s, mI_lt, mI_le, mI_eq, enc_at, enc_wr, enc_cp, mI_neg, mI_add, mI_sub, mI_mul, mI_ix, mm_ck_ok, mm_nz_ok, mm_bo_c, mm_bo_m0, mm_bo_m1, b01, Int.toNat_natCast, Int.reduceToNat, Int.reduceNeg, Int.reduceSub, Int.reduceAdd, Int.reduceMul, Int.reduceLT, Int.reduceLE, Int.reduceEq, ↓reduceIte, not_true, not_false_eq_true, not_true_eq_false, and_self, true_and, and_true, false_and, and_false, Decidable.not_not, stv1, stv2, stv3, stv4]
      · have fb : ¬ best < 0 ∧ few ≤ S := by
          rcases hB with ⟨b1, b2, b3, b4⟩ | ⟨i', j', b0, b1, b2, b3, b4⟩
          · omega
          · omega
        obtain ⟨f1, f2⟩ := fb
        rw [mm_lk_s, fX7_waits_L30, ek]
        generalize hk : ((i * m + j : Nat) : Int) = k at *
        simp (implicitDefEqProofs := false) (maxSteps := 1000000) (disch := omega) only [hm, emm, q1, mI_div, k3, k4, c', ↓mm_lt_s, ↓cl_in, ↓cl_wi, ↓cl_has, ↓cl_isP, mL_le, lit_n, litL_n, mL_mI, mL_neg, mm_cl_s, mI_lt, mI_le, mI_eq, enc_at, enc_wr, enc_cp, mI_neg, mI_add, mI_sub, mI_mul, mI_ix, mm_ck_ok, mm_nz_ok, mm_bo_c, mm_bo_m0, mm_bo_m1, b01, Int.toNat_natCast, Int.reduceToNat, Int.reduceNeg, Int.reduceSub, Int.reduceAdd, Int.reduceMul, Int.reduceLT, Int.reduceLE, Int.reduceEq, ↓reduceIte, not_true, not_false_eq_true, not_true_eq_false, and_self, true_and, and_true, false_and, and_false, Decidable.not_not, stv1, stv2, stv3, stv4]
        rw [s3]
        simp (implicitDefEqProofs := false) (maxSteps := 1000000) (disch := omega) only [f1, f2, ↓mm_lt_s, ↓cl_in, ↓cl_wi, ↓cl_has, ↓cl_isP, mL_le, lit_n, litL_n, mL_mI, mL_neg, mm_cl_s, mI_lt, mI_le, mI_eq, enc_at, enc_wr, enc_cp, mI_neg, mI_add, mI_sub, mI_mul, mI_ix, mm_ck_ok, mm_nz_ok, mm_bo_c, mm_bo_m0, mm_bo_m1, b01, Int.toNat_natCast, Int.reduceToNat, Int.reduceNeg, Int.reduceSub, Int.reduceAdd, Int.reduceMul, Int.reduceLT, Int.reduceLE, Int.reduceEq, ↓reduceIte, not_true, not_false_eq_true, not_true_eq_false, and_self, true_and, and_true, false_and, and_false, Decidable.not_not, stv1, stv2, stv3, stv4]
theorem waits2 {m i : Nat} {w : Int} (hw : w = 0 ∨ w = 1) (hi : i < m) : ∀ (d j : Nat) (σ τ : IM) (least ans best few : Int), j + d = m → RX σ τ → τ 0 1 = (m : Int) → wB m w least ans best few → ∃ (σ' τ' : IM) (least' ans' best' few' : Int), RX σ' τ' ∧ τ' 0 1 = (m : Int) ∧ wB m w least' ans' best' few' ∧ (0 ≤ best ∨ (∃ q, j ≤ q ∧ q < m ∧ q ≠ i) → 0 ≤ best') ∧ (∀ (N : Nat), d < N → ∀ (K : Int32 → Int32 → Mm → Aa) (z : Int32 → Int32 → Int32 → Mm → Aa), mm_lk z (fX6_waits_L48 (mI w) (mI i) K) N (mI least) (mI ans) (mI j) (enc σ) = K (mI least') (mI ans') (enc σ')) ∧ (∀ (N : Nat) (K : Int32 → Mm → Aa) (z : Int32 → Int32 → Int32 → Mm → Aa), mm_lk z (fX7_waits_L30 K) (N + d) (mI best) (mI few) (mI ((i * m + j : Nat) : Int)) (enc τ) = mm_lk z (fX7_waits_L30 K) N (mI best') (mI few') (mI ((i * m + m : Nat) : Int)) (enc τ')) := by
  intro d
  induction d with
  | zero =>
    intro j σ τ least ans best few hj h hm hB
    have e : j = m := by omega
    subst e
    have n := h.now
    have n4' : σ 1 1 = (j : Int) := by omega
    refine ⟨σ, τ, least, ans, best, few, h, hm, hB, fun x => x.elim id (fun ⟨q, y1, y2, _⟩ => by omega), fun N hN K z => ?_, fun N K z => rfl⟩
    obtain ⟨N, rfl⟩ : ∃ M, N = M + 1 := ⟨N - 1, by omega⟩
    rw [mm_lk_s, fX6_waits_L48]
    simp (implicitDefEqProofs := false) (maxSteps := 1000000) (disch := omega) only [n4', ↓mm_lt_s, ↓cl_in, ↓cl_wi, ↓cl_has, ↓cl_isP, mL_le, lit_n, litL_n, mL_mI, mL_neg, mm_cl_s, mI_lt, mI_le, mI_eq, enc_at, enc_wr, enc_cp, mI_neg, mI_add, mI_sub, mI_mul, mI_ix, mm_ck_ok, mm_nz_ok, mm_bo_c, mm_bo_m0, mm_bo_m1, b01, Int.toNat_natCast, Int.reduceToNat, Int.reduceNeg, Int.reduceSub, Int.reduceAdd, Int.reduceMul, Int.reduceLT, Int.reduceLE, Int.reduceEq, ↓reduceIte, not_true, not_false_eq_true, not_true_eq_false, and_self, true_and, and_true, false_and, and_false, Decidable.not_not, stv1, stv2, stv3, stv4]
    repeat (first | rw [if_pos (by omega)] | rw [if_neg (by omega)])
  | succ d ih =>
    intro j σ τ least ans best few hj h hm hB
    obtain ⟨σ1, τ1, l1, a1, b1, f1, r1, r2, r3, r0, r4, r5⟩ := waits1 (i := i) (j := j) hw h hm hi (by omega) hB
    obtain ⟨σ', τ', l', a', b', f', s1, s2, s3, s0, s4, s5⟩ := ih (j + 1) σ1 τ1 l1 a1 b1 f1 (by omega) r1 r2 r3
    refine ⟨σ', τ', l', a', b', f', s1, s2, s3, fun x => ?_, fun N hN K z => ?_, fun N K z => ?_⟩
    · rcases x with x | ⟨q, y1, y2, y3⟩
      · exact s0 (Or.inl (r0 (Or.inl x)))
      · by_cases e : q = j
        · exact s0 (Or.inl (r0 (Or.inr (by omega))))
        · exact s0 (Or.inr ⟨q, by omega, y2, y3⟩)
    · obtain ⟨N, rfl⟩ : ∃ M, N = M + 1 := ⟨N - 1, by omega⟩
      rw [r4]; exact s4 N (by omega) K z
    · rw [show N + (d + 1) = (N + d) + 1 by omega, r5]; exact s5 N K z
theorem waits3 {m : Nat} {w : Int} (hw : w = 0 ∨ w = 1) : ∀ (d i : Nat) (σ τ : IM) (least ans best few : Int), i + d = m → RX σ τ → τ 0 1 = (m : Int) → wB m w least ans best few → ∃ (σ' τ' : IM) (least' ans' best' few' : Int), RX σ' τ' ∧ τ' 0 1 = (m : Int) ∧ wB m w least' ans' best' few' ∧ (0 ≤ best ∨ (0 < d ∧ 2 ≤ m) → 0 ≤ best') ∧ (∀ (N : Nat), d < N → ∀ (K : Int32 → Mm → Aa) (z : Int32 → Int32 → Int32 → Mm → Aa), mm_lk z (fX6_waits_L33 (mI w) K) N (mI least) (mI ans) (mI i) (enc σ) = K (mI ans') (enc σ')) ∧ (∀ (N : Nat) (K : Int32 → Mm → Aa) (z : Int32 → Int32 → Int32 → Mm → Aa), mm_lk z (fX7_waits_L30 K) (N + d * m) (mI best) (mI few) (mI ((i * m : Nat) : Int)) (enc τ) = mm_lk z (fX7_waits_L30 K) N (mI best') (mI few') (mI ((m * m : Nat) : Int)) (enc τ')) := by
  intro d
  induction d with
  | zero =>
    intro i σ τ least ans best few hj h hm hB
    have e : i = m := by omega
    subst e
    have n := h.now
    have n4' : σ 1 1 = (i : Int) := by omega
    refine ⟨σ, τ, least, ans, best, few, h, hm, hB, fun x => x.elim id (fun y => by omega), fun N hN K z => ?_, fun N K z => by rw [Nat.zero_mul]; rfl⟩
    obtain ⟨N, rfl⟩ : ∃ M, N = M + 1 := ⟨N - 1, by omega⟩
    rw [mm_lk_s, fX6_waits_L33]
    simp (implicitDefEqProofs := false) (maxSteps := 1000000) (disch := omega) only [n4', ↓mm_lt_s, ↓cl_in, ↓cl_wi, ↓cl_has, ↓cl_isP, mL_le, lit_n, litL_n, mL_mI, mL_neg, mm_cl_s, mI_lt, mI_le, mI_eq, enc_at, enc_wr, enc_cp, mI_neg, mI_add, mI_sub, mI_mul, mI_ix, mm_ck_ok, mm_nz_ok, mm_bo_c, mm_bo_m0, mm_bo_m1, b01, Int.toNat_natCast, Int.reduceToNat, Int.reduceNeg, Int.reduceSub, Int.reduceAdd, Int.reduceMul, Int.reduceLT, Int.reduceLE, Int.reduceEq, ↓reduceIte, not_true, not_false_eq_true, not_true_eq_false, and_self, true_and, and_true, false_and, and_false, Decidable.not_not, stv1, stv2, stv3, stv4]
    repeat (first | rw [if_pos (by omega)] | rw [if_neg (by omega)])
  | succ d ih =>
    intro i σ τ least ans best few hj h hm hB
    have n := h.now
    have n4' : σ 1 1 = (m : Int) := by omega
    have ci : ¬ (m : Int) ≤ (i : Int) := by omega
    obtain ⟨σ1, τ1, l1, a1, b1, f1, r1, r2, r3, r0, r4, r5⟩ := waits2 (i := i) hw (by omega) m 0 σ τ least ans best few (by omega) h hm hB
    obtain ⟨σ', τ', l', a', b', f', s1, s2, s3, s0, s4, s5⟩ := ih (i + 1) σ1 τ1 l1 a1 b1 f1 (by omega) r1 r2 r3
    refine ⟨σ', τ', l', a', b', f', s1, s2, s3, fun x => s0 (Or.inl (r0 ?_)), fun N hN K z => ?_, fun N K z => ?_⟩
    · rcases x with x | x
      · exact Or.inl x
      · by_cases e : i = 0
        · exact Or.inr ⟨1, by omega, by omega, by omega⟩
        · exact Or.inr ⟨0, by omega, by omega, by omega⟩
    · obtain ⟨N, rfl⟩ : ∃ M, N = M + 1 := ⟨N - 1, by omega⟩
      rw [← s4 N (by omega) K z, mm_lk_s, fX6_waits_L33]
      generalize hfu : mm_fu = NF; have hNF : 4096 ≤ NF := by rw [← hfu]; exact Nat.le_refl _
      simp (implicitDefEqProofs := false) (maxSteps := 1000000) (disch := omega) only [n4', ci, ↓mm_lt_s, ↓cl_in, ↓cl_wi, ↓cl_has, ↓cl_isP, mL_le, lit_n, litL_n, mL_mI, mL_neg, mm_cl_s, mI_lt, mI_le, mI_eq, enc_at, enc_wr, enc_cp, mI_neg, mI_add, mI_sub, mI_mul, mI_ix, mm_ck_ok, mm_nz_ok, mm_bo_c, mm_bo_m0, mm_bo_m1, b01, Int.toNat_natCast, Int.reduceToNat, Int.reduceNeg, Int.reduceSub, Int.reduceAdd, Int.reduceMul, Int.reduceLT, Int.reduceLE, Int.reduceEq, ↓reduceIte, not_true, not_false_eq_true, not_true_eq_false, and_self, true_and, and_true, false_and, and_false, Decidable.not_not, stv1, stv2, stv3, stv4]
      have R := r4 NF (by omega) (fun x12 x13 m14 => mm_lk z (fX6_waits_L33 (mI w) K) N x12 x13 (mI ((i + 1 : Nat) : Int)) m14) (fun _ _ _ _ => none)
      rw [cast0] at R
      simp (implicitDefEqProofs := false) (maxSteps := 1000000) (disch := omega) only [cast_s, ↓mm_lt_s, ↓cl_in, ↓cl_wi, ↓cl_has, ↓cl_isP, mL_le, lit_n, litL_n, mL_mI, mL_neg, mm_cl_s, mI_lt, mI_le, mI_eq, enc_at, enc_wr, enc_cp, mI_neg, mI_add, mI_sub, mI_mul, mI_ix, mm_ck_ok, mm_nz_ok, mm_bo_c, mm_bo_m0, mm_bo_m1, b01, Int.toNat_natCast, Int.reduceToNat, Int.reduceNeg, Int.reduceSub, Int.reduceAdd, Int.reduceMul, Int.reduceLT, Int.reduceLE, Int.reduceEq, ↓reduceIte, not_true, not_false_eq_true, not_true_eq_false, and_self, true_and, and_true, false_and, and_false, Decidable.not_not, stv1, stv2, stv3, stv4]
      exact R
    · have R := r5 (N + d * m) K z
      have S := s5 N K z
      rw [show N + (d + 1) * m = N + d * m + m by rw [Nat.add_mul]; omega]
      rw [Nat.add_zero] at R
      rw [R, ← S, show i * m + m = (i + 1) * m by rw [Nat.add_mul]; omega]
theorem q_waits (w : Int) (hw : I32 w) {σ τ : IM} (h : RX σ τ) : Like (fX6_waits (mI w) (enc σ)) (fX7_waits (mI w) (enc τ)) := by
  obtain ⟨⟨n1, n2, n3⟩, n4, n5, n6⟩ := h.now
  by_cases c0 : 0 ≤ w ∧ w ≤ 1
  · by_cases c1 : 2 ≤ τ 0 1
    · obtain ⟨m, hm⟩ := Int.eq_ofNat_of_zero_le n5
      have hm10 : m ≤ 10 := by omega
      have n4' : σ 1 1 = (m : Int) := by omega
      obtain ⟨σ', τ', l', a', b', f', s1, s2, s3, s0, s4, s5⟩ := waits3 (m := m) (w := w) (by omega) m 0 σ τ 1000000 0 (-1) 0 (by omega) h hm (Or.inl ⟨rfl, rfl, rfl, rfl⟩)
      have mm := ijm (i := 0) (j := 0) (m := m) (by omega) (by omega) hm10
      have emm : (m : Int) * (m : Int) = ((m * m : Nat) : Int) := by rw [Int.natCast_mul]
      have s6 := s0 (Or.inr ⟨by omega, by omega⟩)
      have m0 : ¬ (m : Int) = 0 := by omega
      unfold fX6_waits fX7_waits
      generalize hfu : mm_fu = NF; have hNF : 4096 ≤ NF := by rw [← hfu]; exact Nat.le_refl _
      simp (implicitDefEqProofs := false) (maxSteps := 1000000) (disch := omega) only [n4', hm, ↓mm_lt_s, ↓cl_in, ↓cl_wi, ↓cl_has, ↓cl_isP, mL_le, lit_n, litL_n, mL_mI, mL_neg, mm_cl_s, mI_lt, mI_le, mI_eq, enc_at, enc_wr, enc_cp, mI_neg, mI_add, mI_sub, mI_mul, mI_ix, mm_ck_ok, mm_nz_ok, mm_bo_c, mm_bo_m0, mm_bo_m1, b01, Int.toNat_natCast, Int.reduceToNat, Int.reduceNeg, Int.reduceSub, Int.reduceAdd, Int.reduceMul, Int.reduceLT, Int.reduceLE, Int.reduceEq, ↓reduceIte, not_true, not_false_eq_true, not_true_eq_false, and_self, true_and, and_true, false_and, and_false, Decidable.not_not, stv1, stv2, stv3, stv4]
      repeat (first | rw [if_pos (by omega)] | rw [if_neg (by omega)])
      have X := s4 NF (by omega) (fun x5 m6 => some (x5, m6)) (fun _ _ _ _ => none)
      obtain ⟨N, hN⟩ : ∃ N, NF = (N + 1) + m * m := ⟨NF - 1 - m * m, by omega⟩
      have Y := fun K z => s5 (N + 1) K z
      rw [Nat.zero_mul] at Y
      rw [cast0] at X Y
      rw [← hN] at Y
      have E : ∀ K z, mm_lk z (fX7_waits_L30 K) (N + 1) (mI b') (mI f') (mI ((m * m : Nat) : Int)) (enc τ') = K (mI b') (enc τ') := fun K z => by
        have q : ((m * m : Nat) : Int) ≤ ((m * m : Nat) : Int) := Int.le_refl _
        rw [mm_lk_s, fX7_waits_L30]
        simp (implicitDefEqProofs := false) (maxSteps := 1000000) (disch := omega) only [s2, emm, q, ↓mm_lt_s, ↓cl_in, ↓cl_wi, ↓cl_has, ↓cl_isP, mL_le, lit_n, litL_n, mL_mI, mL_neg, mm_cl_s, mI_lt, mI_le, mI_eq, enc_at, enc_wr, enc_cp, mI_neg, mI_add, mI_sub, mI_mul, mI_ix, mm_ck_ok, mm_nz_ok, mm_bo_c, mm_bo_m0, mm_bo_m1, b01, Int.toNat_natCast, Int.reduceToNat, Int.reduceNeg, Int.reduceSub, Int.reduceAdd, Int.reduceMul, Int.reduceLT, Int.reduceLE, Int.reduceEq, ↓reduceIte, not_true, not_false_eq_true, not_true_eq_false, and_self, true_and, and_true, false_and, and_false, Decidable.not_not, stv1, stv2, stv3, stv4]
      rw [X, Y, E]
      simp (implicitDefEqProofs := false) (maxSteps := 1000000) (disch := omega) only [s2, ↓mm_lt_s, ↓cl_in, ↓cl_wi, ↓cl_has, ↓cl_isP, mL_le, lit_n, litL_n, mL_mI, mL_neg, mm_cl_s, mI_lt, mI_le, mI_eq, enc_at, enc_wr, enc_cp, mI_neg, mI_add, mI_sub, mI_mul, mI_ix, mm_ck_ok, mm_nz_ok, mm_bo_c, mm_bo_m0, mm_bo_m1, b01, Int.toNat_natCast, Int.reduceToNat, Int.reduceNeg, Int.reduceSub, Int.reduceAdd, Int.reduceMul, Int.reduceLT, Int.reduceLE, Int.reduceEq, ↓reduceIte, not_true, not_false_eq_true, not_true_eq_false, and_self, true_and, and_true, false_and, and_false, Decidable.not_not, stv1, stv2, stv3, stv4]
      rcases s3 with ⟨e1, -⟩ | ⟨i, j, ⟨i1, i2⟩, e1, e2, e3, e4⟩
      · omega
      · have k := ijm i1 i2 hm10
        obtain ⟨k3, k4⟩ := ijd (i := i) i2
        rw [e1, e4]
        generalize hk : ((i * m + j : Nat) : Int) = k at *
        have : w = 0 ∨ w = 1 := by omega
        rcases this with rfl | rfl
        · simp (implicitDefEqProofs := false) (maxSteps := 1000000) (disch := omega) only [m0, mI_div, k3, ↓mm_lt_s, ↓cl_in, ↓cl_wi, ↓cl_has, ↓cl_isP, mL_le, lit_n, litL_n, mL_mI, mL_neg, mm_cl_s, mI_lt, mI_le, mI_eq, enc_at, enc_wr, enc_cp, mI_neg, mI_add, mI_sub, mI_mul, mI_ix, mm_ck_ok, mm_nz_ok, mm_bo_c, mm_bo_m0, mm_bo_m1, b01, Int.toNat_natCast, Int.reduceToNat, Int.reduceNeg, Int.reduceSub, Int.reduceAdd, Int.reduceMul, Int.reduceLT, Int.reduceLE, Int.reduceEq, ↓reduceIte, not_true, not_false_eq_true, not_true_eq_false, and_self, true_and, and_true, false_and, and_false, Decidable.not_not, stv1, stv2, stv3, stv4]
          exact Like.mk rfl rfl s1
        · simp (implicitDefEqProofs := false) (maxSteps := 1000000) (disch := omega) only [m0, mI_div, k3, k4, ↓mm_lt_s, ↓cl_in, ↓cl_wi, ↓cl_has, ↓cl_isP, mL_le, lit_n, litL_n, mL_mI, mL_neg, mm_cl_s, mI_lt, mI_le, mI_eq, enc_at, enc_wr, enc_cp, mI_neg, mI_add, mI_sub, mI_mul, mI_ix, mm_ck_ok, mm_nz_ok, mm_bo_c, mm_bo_m0, mm_bo_m1, b01, Int.toNat_natCast, Int.reduceToNat, Int.reduceNeg, Int.reduceSub, Int.reduceAdd, Int.reduceMul, Int.reduceLT, Int.reduceLE, Int.reduceEq, ↓reduceIte, not_true, not_false_eq_true, not_true_eq_false, and_self, true_and, and_true, false_and, and_false, Decidable.not_not, stv1, stv2, stv3, stv4]
          exact Like.mk rfl rfl s1
    · unfold fX6_waits fX7_waits
      simp (implicitDefEqProofs := false) (maxSteps := 1000000) (disch := omega) only [n4, ↓mm_lt_s, ↓cl_in, ↓cl_wi, ↓cl_has, ↓cl_isP, mL_le, lit_n, litL_n, mL_mI, mL_neg, mm_cl_s, mI_lt, mI_le, mI_eq, enc_at, enc_wr, enc_cp, mI_neg, mI_add, mI_sub, mI_mul, mI_ix, mm_ck_ok, mm_nz_ok, mm_bo_c, mm_bo_m0, mm_bo_m1, b01, Int.toNat_natCast, Int.reduceToNat, Int.reduceNeg, Int.reduceSub, Int.reduceAdd, Int.reduceMul, Int.reduceLT, Int.reduceLE, Int.reduceEq, ↓reduceIte, not_true, not_false_eq_true, not_true_eq_false, and_self, true_and, and_true, false_and, and_false, Decidable.not_not, stv1, stv2, stv3, stv4]
      repeat (first | rw [if_pos (by omega)] | rw [if_neg (by omega)])
      exact Like.mk rfl rfl h
  · unfold fX6_waits fX7_waits
    simp (implicitDefEqProofs := false) (maxSteps := 1000000) (disch := omega) only [n4, ↓mm_lt_s, ↓cl_in, ↓cl_wi, ↓cl_has, ↓cl_isP, mL_le, lit_n, litL_n, mL_mI, mL_neg, mm_cl_s, mI_lt, mI_le, mI_eq, enc_at, enc_wr, enc_cp, mI_neg, mI_add, mI_sub, mI_mul, mI_ix, mm_ck_ok, mm_nz_ok, mm_bo_c, mm_bo_m0, mm_bo_m1, b01, Int.toNat_natCast, Int.reduceToNat, Int.reduceNeg, Int.reduceSub, Int.reduceAdd, Int.reduceMul, Int.reduceLT, Int.reduceLE, Int.reduceEq, ↓reduceIte, not_true, not_false_eq_true, not_true_eq_false, and_self, true_and, and_true, false_and, and_false, Decidable.not_not, stv1, stv2, stv3, stv4]
    by_cases c2 : w < 0
    · repeat (first | rw [if_pos (by omega)] | rw [if_neg (by omega)])
      exact Like.mk rfl rfl h
    · repeat (first | rw [if_pos (by omega)] | rw [if_neg (by omega)])
      exact Like.mk rfl rfl h
