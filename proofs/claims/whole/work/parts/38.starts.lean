/-- a row, a column put anew -/
def setR (σ : IM) (i : Nat) (x : Nat → Int) : IM := fun a b => if a = 34 + i then x b else σ a b
def setC (τ : IM) (i : Nat) (y : Nat → Int) : IM := fun a b => if (5 ≤ a ∧ a ≤ 17) ∧ b = i then y a else τ a b
theorem setR_of {σ σ1 : IM} {i : Nat} {x : Nat → Int} (h1 : ∀ b, σ1 (34 + i) b = x b) (h2 : ∀ a b, a ≠ 34 + i → σ1 a b = σ a b) : σ1 = setR σ i x := by
  funext a b
  unfold setR
  by_cases c : a = 34 + i
  · rw [if_pos c, c, h1]
  · rw [if_neg c, h2 _ _ c]
theorem setC_of {τ τ1 : IM} {i : Nat} {y : Nat → Int} (h1 : ∀ a, 5 ≤ a → a ≤ 17 → τ1 a i = y a) (h2 : ∀ a b, ¬ ((5 ≤ a ∧ a ≤ 17) ∧ b = i) → τ1 a b = τ a b) : τ1 = setC τ i y := by
  funext a b
  unfold setC
  by_cases c : (5 ≤ a ∧ a ≤ 17) ∧ b = i
  · rw [if_pos c, c.2, h1 _ c.1.1 c.1.2]
  · rw [if_neg c, h2 _ _ c]
theorem setR_i {σ : IM} {i : Nat} {x : Nat → Int} : setR σ i x (34 + i) = x := funext fun b => if_pos rfl
theorem setR_ne {σ : IM} {i : Nat} {x : Nat → Int} {a b : Nat} (h : a ≠ 34 + i) : setR σ i x a b = σ a b := if_neg h
theorem setC_i {τ : IM} {i : Nat} {y : Nat → Int} {a : Nat} (h1 : 5 ≤ a) (h2 : a ≤ 17) : setC τ i y a i = y a := if_pos ⟨⟨h1, h2⟩, rfl⟩
theorem setC_ne {τ : IM} {i : Nat} {y : Nat → Int} {a b : Nat} (h : ¬ ((5 ≤ a ∧ a ≤ 17) ∧ b = i)) : setC τ i y a b = τ a b := if_neg h
/-- one starts, if it is due: the class -/
def stS (t : Int) (σ : IM) (i : Nat) : IM := if σ (34 + i) 8 = 0 ∧ σ (34 + i) 11 = t then (if byFd (σ 30 3) (σ (34 + i) 2) (σ 32 5) then setR σ i (fsR (t + σ 32 5) (σ (34 + i))) else setR (iw σ 30 4 (σ 30 4 - ropd (σ 30 2) (σ 30 4) i)) i (onR (ropv (σ 30 2) (σ 30 4) i) (σ (34 + i)))) else σ
theorem stX {σ : IM} {i m : Nat} {t : Int} (hi : i < m) (hm : m ≤ 10) (ht : 0 ≤ t ∧ t ≤ 1000) (hs : σ 30 6 = (m : Int)) (h2 : -1 ≤ σ 30 2 ∧ σ 30 2 < 1024) (h3 : 1 ≤ σ 30 3 ∧ σ 30 3 ≤ 400) (h4 : 0 ≤ σ 30 4 ∧ σ 30 4 ≤ 1000) (hL : 0 ≤ σ 32 5 ∧ σ 32 5 ≤ 500) (hW : RB (σ (34 + i))) (N : Nat) (K : Mm → Aa) (z : Int32 → Mm → Aa) : mm_lk z (fX0_start_L2 (mI t) K) (N + 1) (mI i) (enc σ) = mm_lk z (fX0_start_L2 (mI t) K) N (mI ((i + 1 : Nat) : Int)) (enc (stS t σ i)) := by
  obtain ⟨w8, w9, w10, w11, w15, w17, w2, w3, w4⟩ := hW
  have c1 : ¬ (m : Int) ≤ (i : Int) := by omega
  have g3 : 0 ≤ (σ 30 3 + σ (34 + i) 2 - 1) / σ (34 + i) 2 := Int.ediv_nonneg (by omega) (by omega)
  have g4 : (σ 30 3 + σ (34 + i) 2 - 1) / σ (34 + i) 2 ≤ σ 30 3 + σ (34 + i) 2 - 1 := Int.ediv_le_self _ (by omega)
  by_cases c2 : σ (34 + i) 8 = 0 ∧ σ (34 + i) 11 = t
  · by_cases c3 : byFd (σ 30 3) (σ (34 + i) 2) (σ 32 5)
    · obtain ⟨σ1, p1, p2, p3⟩ := fsX (σ := σ) (p := i) (v := t + σ 32 5)
      have e : stS t σ i = σ1 := by unfold stS; rw [if_pos c2, if_pos c3]; exact (setR_of p2 p3).symm
      have f1 : ¬ σ 32 5 ≤ 0 := by have := c3.1; omega
      have f2 : ¬ (σ 30 3 + σ (34 + i) 2 - 1) / σ (34 + i) 2 ≤ σ 32 5 := by have := c3.2; omega
      rw [e, mm_lk_s, fX0_start_L2]
      simp (implicitDefEqProofs := false) (maxSteps := 1000000) (disch := omega) only [hs, c1, eq_true c2.1, eq_true c2.2, f1, cutUp_s, f2, ↓mm_lt_s, ↓cl_in, ↓cl_wi, ↓cl_has, ↓cl_isP, mL_le, lit_n, litL_n, mL_mI, mL_neg, mm_cl_s, mI_lt, mI_le, mI_eq, enc_at, enc_wr, enc_cp, mI_neg, mI_add, mI_sub, mI_mul, mI_ix, mm_ck_ok, mm_nz_ok, mm_bo_c, mm_bo_m0, mm_bo_m1, b01, Int.toNat_natCast, Int.reduceToNat, Int.reduceNeg, Int.reduceSub, Int.reduceAdd, Int.reduceMul, Int.reduceLT, Int.reduceLE, Int.reduceEq, ↓reduceIte, not_true, not_false_eq_true, not_true_eq_false, and_self, true_and, and_true, false_and, and_false, Decidable.not_not, stv1, stv2, stv3, stv4]
      rw [p1]
      simp (implicitDefEqProofs := false) (maxSteps := 1000000) (disch := omega) only [cast_s, ↓mm_lt_s, ↓cl_in, ↓cl_wi, ↓cl_has, ↓cl_isP, mL_le, lit_n, litL_n, mL_mI, mL_neg, mm_cl_s, mI_lt, mI_le, mI_eq, enc_at, enc_wr, enc_cp, mI_neg, mI_add, mI_sub, mI_mul, mI_ix, mm_ck_ok, mm_nz_ok, mm_bo_c, mm_bo_m0, mm_bo_m1, b01, Int.toNat_natCast, Int.reduceToNat, Int.reduceNeg, Int.reduceSub, Int.reduceAdd, Int.reduceMul, Int.reduceLT, Int.reduceLE, Int.reduceEq, ↓reduceIte, not_true, not_false_eq_true, not_true_eq_false, and_self, true_and, and_true, false_and, and_false, Decidable.not_not, stv1, stv2, stv3, stv4]
    · have hf : σ 32 5 ≤ 0 ∨ (¬ σ 32 5 ≤ 0 ∧ (σ 30 3 + σ (34 + i) 2 - 1) / σ (34 + i) 2 ≤ σ 32 5) := by unfold byFd at c3; omega
      have R := ropeX (p := i) (by omega) h2 h4
      have e1 : ∀ v b, iw σ 30 4 v (34 + i) b = σ (34 + i) b := fun v b => iw_ne (by omega)
      obtain ⟨σ1, p1, p2, p3⟩ := onX (σ := iw σ 30 4 (σ 30 4 - ropd (σ 30 2) (σ 30 4) i)) (p := i) (r := ropv (σ 30 2) (σ 30 4) i) (ropv_01 _ _ _) (by rw [e1]; exact w2) (by rw [e1]; exact w17)
      have e : stS t σ i = σ1 := by
        unfold stS
        rw [if_pos c2, if_neg c3]
        refine (setR_of (fun b => ?_) p3).symm
        rw [p2, funext (e1 _)]
      generalize ropv (σ 30 2) (σ 30 4) i = rr at *
      generalize ropd (σ 30 2) (σ 30 4) i = dd at *
      rw [e, mm_lk_s, fX0_start_L2]
      rcases hf with f1 | ⟨f1, f2⟩
      · simp (implicitDefEqProofs := false) (maxSteps := 1000000) (disch := omega) only [hs, c1, eq_true c2.1, eq_true c2.2, f1, ↓mm_lt_s, ↓cl_in, ↓cl_wi, ↓cl_has, ↓cl_isP, mL_le, lit_n, litL_n, mL_mI, mL_neg, mm_cl_s, mI_lt, mI_le, mI_eq, enc_at, enc_wr, enc_cp, mI_neg, mI_add, mI_sub, mI_mul, mI_ix, mm_ck_ok, mm_nz_ok, mm_bo_c, mm_bo_m0, mm_bo_m1, b01, Int.toNat_natCast, Int.reduceToNat, Int.reduceNeg, Int.reduceSub, Int.reduceAdd, Int.reduceMul, Int.reduceLT, Int.reduceLE, Int.reduceEq, ↓reduceIte, not_true, not_false_eq_true, not_true_eq_false, and_self, true_and, and_true, false_and, and_false, Decidable.not_not, stv1, stv2, stv3, stv4]
        rw [R]
        simp (implicitDefEqProofs := false) (maxSteps := 1000000) (disch := omega) only [↓mm_lt_s, ↓cl_in, ↓cl_wi, ↓cl_has, ↓cl_isP, mL_le, lit_n, litL_n, mL_mI, mL_neg, mm_cl_s, mI_lt, mI_le, mI_eq, enc_at, enc_wr, enc_cp, mI_neg, mI_add, mI_sub, mI_mul, mI_ix, mm_ck_ok, mm_nz_ok, mm_bo_c, mm_bo_m0, mm_bo_m1, b01, Int.toNat_natCast, Int.reduceToNat, Int.reduceNeg, Int.reduceSub, Int.reduceAdd, Int.reduceMul, Int.reduceLT, Int.reduceLE, Int.reduceEq, ↓reduceIte, not_true, not_false_eq_true, not_true_eq_false, and_self, true_and, and_true, false_and, and_false, Decidable.not_not, stv1, stv2, stv3, stv4]
        rw [p1]
        simp (implicitDefEqProofs := false) (maxSteps := 1000000) (disch := omega) only [cast_s, ↓mm_lt_s, ↓cl_in, ↓cl_wi, ↓cl_has, ↓cl_isP, mL_le, lit_n, litL_n, mL_mI, mL_neg, mm_cl_s, mI_lt, mI_le, mI_eq, enc_at, enc_wr, enc_cp, mI_neg, mI_add, mI_sub, mI_mul, mI_ix, mm_ck_ok, mm_nz_ok, mm_bo_c, mm_bo_m0, mm_bo_m1, b01, Int.toNat_natCast, Int.reduceToNat, Int.reduceNeg, Int.reduceSub, Int.reduceAdd, Int.reduceMul, Int.reduceLT, Int.reduceLE, Int.reduceEq, ↓reduceIte, not_true, not_false_eq_true, not_true_eq_false, and_self, true_and, and_true, false_and, and_false, Decidable.not_not, stv1, stv2, stv3, stv4]
      · simp (implicitDefEqProofs := false) (maxSteps := 1000000) (disch := omega) only [hs, c1, eq_true c2.1, eq_true c2.2, f1, cutUp_s, f2, ↓mm_lt_s, ↓cl_in, ↓cl_wi, ↓cl_has, ↓cl_isP, mL_le, lit_n, litL_n, mL_mI, mL_neg, mm_cl_s, mI_lt, mI_le, mI_eq, enc_at, enc_wr, enc_cp, mI_neg, mI_add, mI_sub, mI_mul, mI_ix, mm_ck_ok, mm_nz_ok, mm_bo_c, mm_bo_m0, mm_bo_m1, b01, Int.toNat_natCast, Int.reduceToNat, Int.reduceNeg, Int.reduceSub, Int.reduceAdd, Int.reduceMul, Int.reduceLT, Int.reduceLE, Int.reduceEq, ↓reduceIte, not_true, not_false_eq_true, not_true_eq_false, and_self, true_and, and_true, false_and, and_false, Decidable.not_not, stv1, stv2, stv3, stv4]
        rw [R]
        simp (implicitDefEqProofs := false) (maxSteps := 1000000) (disch := omega) only [↓mm_lt_s, ↓cl_in, ↓cl_wi, ↓cl_has, ↓cl_isP, mL_le, lit_n, litL_n, mL_mI, mL_neg, mm_cl_s, mI_lt, mI_le, mI_eq, enc_at, enc_wr, enc_cp, mI_neg, mI_add, mI_sub, mI_mul, mI_ix, mm_ck_ok, mm_nz_ok, mm_bo_c, mm_bo_m0, mm_bo_m1, b01, Int.toNat_natCast, Int.reduceToNat, Int.reduceNeg, Int.reduceSub, Int.reduceAdd, Int.reduceMul, Int.reduceLT, Int.reduceLE, Int.reduceEq, ↓reduceIte, not_true, not_false_eq_true, not_true_eq_false, and_self, true_and, and_true, false_and, and_false, Decidable.not_not, stv1, stv2, stv3, stv4]
        rw [p1]
        simp (implicitDefEqProofs := false) (maxSteps := 1000000) (disch := omega) only [cast_s, ↓mm_lt_s, ↓cl_in, ↓cl_wi, ↓cl_has, ↓cl_isP, mL_le, lit_n, litL_n, mL_mI, mL_neg, mm_cl_s, mI_lt, mI_le, mI_eq, enc_at, enc_wr, enc_cp, mI_neg, mI_add, mI_sub, mI_mul, mI_ix, mm_ck_ok, mm_nz_ok, mm_bo_c, mm_bo_m0, mm_bo_m1, b01, Int.toNat_natCast, Int.reduceToNat, Int.reduceNeg, Int.reduceSub, Int.reduceAdd, Int.reduceMul, Int.reduceLT, Int.reduceLE, Int.reduceEq, ↓reduceIte, not_true, not_false_eq_true, not_true_eq_false, and_self, true_and, and_true, false_and, and_false, Decidable.not_not, stv1, stv2, stv3, stv4]
  · have e : stS t σ i = σ := by unfold stS; rw [if_neg c2]
    rw [e, mm_lk_s, fX0_start_L2]
    by_cases d1 : σ (34 + i) 8 = 0
    · have d2 : ¬ σ (34 + i) 11 = t := fun e => c2 ⟨d1, e⟩
      simp (implicitDefEqProofs := false) (maxSteps := 1000000) (disch := omega) only [hs, c1, eq_true d1, d2, cast_s, ↓mm_lt_s, ↓cl_in, ↓cl_wi, ↓cl_has, ↓cl_isP, mL_le, lit_n, litL_n, mL_mI, mL_neg, mm_cl_s, mI_lt, mI_le, mI_eq, enc_at, enc_wr, enc_cp, mI_neg, mI_add, mI_sub, mI_mul, mI_ix, mm_ck_ok, mm_nz_ok, mm_bo_c, mm_bo_m0, mm_bo_m1, b01, Int.toNat_natCast, Int.reduceToNat, Int.reduceNeg, Int.reduceSub, Int.reduceAdd, Int.reduceMul, Int.reduceLT, Int.reduceLE, Int.reduceEq, ↓reduceIte, not_true, not_false_eq_true, not_true_eq_false, and_self, true_and, and_true, false_and, and_false, Decidable.not_not, stv1, stv2, stv3, stv4]
    · simp (implicitDefEqProofs := false) (maxSteps := 1000000) (disch := omega) only [hs, c1, d1, cast_s, ↓mm_lt_s, ↓cl_in, ↓cl_wi, ↓cl_has, ↓cl_isP, mL_le, lit_n, litL_n, mL_mI, mL_neg, mm_cl_s, mI_lt, mI_le, mI_eq, enc_at, enc_wr, enc_cp, mI_neg, mI_add, mI_sub, mI_mul, mI_ix, mm_ck_ok, mm_nz_ok, mm_bo_c, mm_bo_m0, mm_bo_m1, b01, Int.toNat_natCast, Int.reduceToNat, Int.reduceNeg, Int.reduceSub, Int.reduceAdd, Int.reduceMul, Int.reduceLT, Int.reduceLE, Int.reduceEq, ↓reduceIte, not_true, not_false_eq_true, not_true_eq_false, and_self, true_and, and_true, false_and, and_false, Decidable.not_not, stv1, stv2, stv3, stv4]
/-- whether the reference lets one start -/
def due (t : Int) (y pe : Nat → Int) : Prop := (y 5 = 0 ∧ pe 0 = t) ∨ (y 5 = 1 ∧ pe 5 ≤ t - y 10)
/-- one starts, if it is due: the reference -/
theorem stM {τ : IM} {i m : Nat} {t : Int} (hi : i < m) (hm : m ≤ 10) (ht : 0 ≤ t ∧ t ≤ 1000) (hs : τ 0 1 = (m : Int)) (h27 : -1 ≤ τ 0 27 ∧ τ 0 27 < 1024) (h23 : 1 ≤ τ 0 23 ∧ τ 0 23 ≤ 400) (h24 : 0 ≤ τ 0 24 ∧ τ 0 24 ≤ 1000) (hL : 0 ≤ τ 2 5 ∧ τ 2 5 ≤ 500) (hW : CB (fun a => τ a i) (fun j => τ 1 (7 * i + j))) : ∃ τ1 : IM, (∀ (N : Nat) (K : Mm → Aa) (z : Int32 → Mm → Aa), mm_lk z (fX7_startAll_L44 (mI t) K) (N + 1) (mI i) (enc τ) = mm_lk z (fX7_startAll_L44 (mI t) K) N (mI ((i + 1 : Nat) : Int)) (enc τ1)) ∧ (∀ a b, ¬ ((5 ≤ a ∧ a ≤ 17) ∧ b = i) → ¬ (a = 0 ∧ b = 24) → τ1 a b = τ a b) ∧ ((¬ due t (fun a => τ a i) (fun j => τ 1 (7 * i + j)) ∧ τ1 = τ) ∨ (due t (fun a => τ a i) (fun j => τ 1 (7 * i + j)) ∧ ((byFd (τ 0 23) (pac (τ 1 (7 * i + 2)) (τ 1 (7 * i + 3))) (τ 2 5) ∧ τ1 0 24 = τ 0 24 ∧ ∀ a, 5 ≤ a → a ≤ 17 → τ1 a i = fsC (t + τ 2 5) (fun a => τ a i) a) ∨ (¬ byFd (τ 0 23) (pac (τ 1 (7 * i + 2)) (τ 1 (7 * i + 3))) (τ 2 5) ∧ τ1 0 24 = τ 0 24 - ropd (τ 0 27) (τ 0 24) i ∧ ∀ a, 5 ≤ a → a ≤ 17 → τ1 a i = onC (ropv (τ 0 27) (τ 0 24) i) (pac (τ 1 (7 * i + 2)) (τ 1 (7 * i + 3))) (fun a => τ a i) a)))) := by
  obtain ⟨w5, w6, w9, w10, w12, w14, u0, u2, u3, u4, u5⟩ := hW
  dsimp only at *
  have c1 : ¬ (m : Int) ≤ (i : Int) := by omega
  have hpc := pac_rng (kind := τ 1 (7 * i + 2)) u3.1 u3.2
  have hP := paceM i τ (by omega) u2 u3
  have n0 : (7 * (i : Int)).toNat = 7 * i + 0 := by omega
  have n5 : (7 * (i : Int) + 5).toNat = 7 * i + 5 := by omega
  by_cases c2 : due t (fun a => τ a i) (fun j => τ 1 (7 * i + j))
  · have go : ∀ τ1 : IM, fX7_start (mI i) (mI t) (enc τ) = some (mI 0, enc τ1) → ∀ (N : Nat) (K : Mm → Aa) (z : Int32 → Mm → Aa), mm_lk z (fX7_startAll_L44 (mI t) K) (N + 1) (mI i) (enc τ) = mm_lk z (fX7_startAll_L44 (mI t) K) N (mI ((i + 1 : Nat) : Int)) (enc τ1) := fun τ1 p1 N K z => by
      rw [mm_lk_s, fX7_startAll_L44]
      rcases id c2 with d | d
      · have d1 := d.1
        have d2 := d.2
        dsimp only at d1 d2
        have d3 : ¬ τ 5 i = 1 := by omega
        simp (implicitDefEqProofs := false) (maxSteps := 1000000) (disch := omega) only [hs, c1, n0, n5, eq_true d1, eq_true d2, d3, ↓mm_lt_s, ↓cl_in, ↓cl_wi, ↓cl_has, ↓cl_isP, mL_le, lit_n, litL_n, mL_mI, mL_neg, mm_cl_s, mI_lt, mI_le, mI_eq, enc_at, enc_wr, enc_cp, mI_neg, mI_add, mI_sub, mI_mul, mI_ix, mm_ck_ok, mm_nz_ok, mm_bo_c, mm_bo_m0, mm_bo_m1, b01, Int.toNat_natCast, Int.reduceToNat, Int.reduceNeg, Int.reduceSub, Int.reduceAdd, Int.reduceMul, Int.reduceLT, Int.reduceLE, Int.reduceEq, ↓reduceIte, not_true, not_false_eq_true, not_true_eq_false, and_self, true_and, and_true, false_and, and_false, Decidable.not_not, stv1, stv2, stv3, stv4]
        rw [p1]
        simp (implicitDefEqProofs := false) (maxSteps := 1000000) (disch := omega) only [cast_s, ↓mm_lt_s, ↓cl_in, ↓cl_wi, ↓cl_has, ↓cl_isP, mL_le, lit_n, litL_n, mL_mI, mL_neg, mm_cl_s, mI_lt, mI_le, mI_eq, enc_at, enc_wr, enc_cp, mI_neg, mI_add, mI_sub, mI_mul, mI_ix, mm_ck_ok, mm_nz_ok, mm_bo_c, mm_bo_m0, mm_bo_m1, b01, Int.toNat_natCast, Int.reduceToNat, Int.reduceNeg, Int.reduceSub, Int.reduceAdd, Int.reduceMul, Int.reduceLT, Int.reduceLE, Int.reduceEq, ↓reduceIte, not_true, not_false_eq_true, not_true_eq_false, and_self, true_and, and_true, false_and, and_false, Decidable.not_not, stv1, stv2, stv3, stv4]
      · have d1 := d.1
        have d2 := d.2
        dsimp only at d1 d2
        have d3 : ¬ τ 5 i = 0 := by omega
        have d4 : ¬ t - τ 10 i < τ 1 (7 * i + 5) := by omega
        have d5 := w10 (Or.inl d1)
        simp (implicitDefEqProofs := false) (maxSteps := 1000000) (disch := omega) only [hs, c1, n0, n5, eq_true d1, d3, d4, ↓mm_lt_s, ↓cl_in, ↓cl_wi, ↓cl_has, ↓cl_isP, mL_le, lit_n, litL_n, mL_mI, mL_neg, mm_cl_s, mI_lt, mI_le, mI_eq, enc_at, enc_wr, enc_cp, mI_neg, mI_add, mI_sub, mI_mul, mI_ix, mm_ck_ok, mm_nz_ok, mm_bo_c, mm_bo_m0, mm_bo_m1, b01, Int.toNat_natCast, Int.reduceToNat, Int.reduceNeg, Int.reduceSub, Int.reduceAdd, Int.reduceMul, Int.reduceLT, Int.reduceLE, Int.reduceEq, ↓reduceIte, not_true, not_false_eq_true, not_true_eq_false, and_self, true_and, and_true, false_and, and_false, Decidable.not_not, stv1, stv2, stv3, stv4]
        rw [p1]
        simp (implicitDefEqProofs := false) (maxSteps := 1000000) (disch := omega) only [cast_s, ↓mm_lt_s, ↓cl_in, ↓cl_wi, ↓cl_has, ↓cl_isP, mL_le, lit_n, litL_n, mL_mI, mL_neg, mm_cl_s, mI_lt, mI_le, mI_eq, enc_at, enc_wr, enc_cp, mI_neg, mI_add, mI_sub, mI_mul, mI_ix, mm_ck_ok, mm_nz_ok, mm_bo_c, mm_bo_m0, mm_bo_m1, b01, Int.toNat_natCast, Int.reduceToNat, Int.reduceNeg, Int.reduceSub, Int.reduceAdd, Int.reduceMul, Int.reduceLT, Int.reduceLE, Int.reduceEq, ↓reduceIte, not_true, not_false_eq_true, not_true_eq_false, and_self, true_and, and_true, false_and, and_false, Decidable.not_not, stv1, stv2, stv3, stv4]
    by_cases c3 : byFd (τ 0 23) (pac (τ 1 (7 * i + 2)) (τ 1 (7 * i + 3))) (τ 2 5)
    · obtain ⟨τ1, p1, p2, p3⟩ := fordM (t := t) (by omega) ht hpc hP h23 hL w12 c3
      exact ⟨τ1, go τ1 p1, fun a b ha _ => p3 a b ha, Or.inr ⟨c2, Or.inl ⟨c3, p3 _ _ (by omega), p2⟩⟩⟩
    · obtain ⟨τ1, p1, p2, p3, p4⟩ := onM (t := t) (by omega) ht hpc hP h23 hL w14 h24 h27 c3 rfl rfl
      exact ⟨τ1, go τ1 p1, p4, Or.inr ⟨c2, Or.inr ⟨c3, p3, p2⟩⟩⟩
  · refine ⟨τ, fun N K z => ?_, fun _ _ _ _ => rfl, Or.inl ⟨c2, rfl⟩⟩
    unfold due at c2
    dsimp only at c2
    rw [mm_lk_s, fX7_startAll_L44]
    by_cases d1 : τ 5 i = 0
    · have d2 : ¬ τ 1 (7 * i + 0) = t := fun e => c2 (Or.inl ⟨d1, e⟩)
      have d3 : ¬ τ 5 i = 1 := by omega
      simp (implicitDefEqProofs := false) (maxSteps := 1000000) (disch := omega) only [hs, c1, n0, n5, eq_true d1, d2, d3, cast_s, ↓mm_lt_s, ↓cl_in, ↓cl_wi, ↓cl_has, ↓cl_isP, mL_le, lit_n, litL_n, mL_mI, mL_neg, mm_cl_s, mI_lt, mI_le, mI_eq, enc_at, enc_wr, enc_cp, mI_neg, mI_add, mI_sub, mI_mul, mI_ix, mm_ck_ok, mm_nz_ok, mm_bo_c, mm_bo_m0, mm_bo_m1, b01, Int.toNat_natCast, Int.reduceToNat, Int.reduceNeg, Int.reduceSub, Int.reduceAdd, Int.reduceMul, Int.reduceLT, Int.reduceLE, Int.reduceEq, ↓reduceIte, not_true, not_false_eq_true, not_true_eq_false, and_self, true_and, and_true, false_and, and_false, Decidable.not_not, stv1, stv2, stv3, stv4]
    · by_cases d2 : τ 5 i = 1
      · have d4 : t - τ 10 i < τ 1 (7 * i + 5) := by omega
        have d5 := w10 (Or.inl d2)
        simp (implicitDefEqProofs := false) (maxSteps := 1000000) (disch := omega) only [hs, c1, n0, n5, d1, eq_true d2, d4, cast_s, ↓mm_lt_s, ↓cl_in, ↓cl_wi, ↓cl_has, ↓cl_isP, mL_le, lit_n, litL_n, mL_mI, mL_neg, mm_cl_s, mI_lt, mI_le, mI_eq, enc_at, enc_wr, enc_cp, mI_neg, mI_add, mI_sub, mI_mul, mI_ix, mm_ck_ok, mm_nz_ok, mm_bo_c, mm_bo_m0, mm_bo_m1, b01, Int.toNat_natCast, Int.reduceToNat, Int.reduceNeg, Int.reduceSub, Int.reduceAdd, Int.reduceMul, Int.reduceLT, Int.reduceLE, Int.reduceEq, ↓reduceIte, not_true, not_false_eq_true, not_true_eq_false, and_self, true_and, and_true, false_and, and_false, Decidable.not_not, stv1, stv2, stv3, stv4]
      · simp (implicitDefEqProofs := false) (maxSteps := 1000000) (disch := omega) only [hs, c1, n0, n5, d1, d2, cast_s, ↓mm_lt_s, ↓cl_in, ↓cl_wi, ↓cl_has, ↓cl_isP, mL_le, lit_n, litL_n, mL_mI, mL_neg, mm_cl_s, mI_lt, mI_le, mI_eq, enc_at, enc_wr, enc_cp, mI_neg, mI_add, mI_sub, mI_mul, mI_ix, mm_ck_ok, mm_nz_ok, mm_bo_c, mm_bo_m0, mm_bo_m1, b01, Int.toNat_natCast, Int.reduceToNat, Int.reduceNeg, Int.reduceSub, Int.reduceAdd, Int.reduceMul, Int.reduceLT, Int.reduceLE, Int.reduceEq, ↓reduceIte, not_true, not_false_eq_true, not_true_eq_false, and_self, true_and, and_true, false_and, and_false, Decidable.not_not, stv1, stv2, stv3, stv4]
theorem WD.on {x y pe : Nat → Int} {t r : Int} (hs : WS x pe) (h : WD x y pe t (t + 1)) (h8 : x 8 = 0) (hr : r = 0 ∨ r = 1) : WD (onR r x) (onC r (pac (pe 2) (pe 3)) y) pe (t + 1) (t + 1) := by
  obtain ⟨s1, s2, s3, s4, s5⟩ := hs
  obtain ⟨⟨a1, a2⟩, a3, ⟨a4, a5, a6⟩, ⟨a7, a8, a9, a10⟩, a11⟩ := h
  have y5 : y 5 = 0 ∨ y 5 = 1 := by omega
  rw [if_neg (by omega)] at a6
  have hh := haf_rng s3.2.1 s3.2.2
  unfold WD
  rcases hr with rfl | rfl
  · simp (implicitDefEqProofs := false) only [onR, onC, ← s3.1, Nat.reduceEqDiff, Int.reduceEq, ne_eq, not_true_eq_false, not_false_eq_true, true_and, and_true, false_and, and_false, or_false, false_or, if_true, if_false, ↓reduceIte]
    omega
  · have o : ¬ (1 : Int) = 0 := by omega
    simp (implicitDefEqProofs := false) only [onR, onC, ← s3.1, Nat.reduceEqDiff, Int.reduceEq, ne_eq, not_true_eq_false, not_false_eq_true, true_and, and_true, false_and, and_false, or_false, false_or, if_true, if_false, ↓reduceIte]
    omega
theorem WD.fs {x y pe : Nat → Int} {t L : Int} (hs : WS x pe) (h : WD x y pe t (t + 1)) (h8 : x 8 = 0) (ht : 0 ≤ t ∧ t ≤ 1000) (hL : 0 ≤ L ∧ L ≤ 500) : WD (fsR (t + L) x) (fsC (t + L) y) pe (t + 1) (t + 1) := by
  obtain ⟨s1, s2, s3, s4, s5⟩ := hs
  obtain ⟨⟨a1, a2⟩, a3, ⟨a4, a5, a6⟩, ⟨a7, a8, a9, a10⟩, a11⟩ := h
  have y5 : y 5 = 0 ∨ y 5 = 1 := by omega
  rw [if_neg (by omega)] at a6
  unfold WD
  simp (implicitDefEqProofs := false) only [fsR, fsC, Nat.reduceEqDiff, Int.reduceEq, ne_eq, not_true_eq_false, not_false_eq_true, true_and, and_true, false_and, and_false, or_false, false_or, if_true, if_false, ↓reduceIte]
  omega
theorem WD.no {x y pe : Nat → Int} {t : Int} (h : WD x y pe t (t + 1)) (h8 : ¬ (x 8 = 0 ∧ x 11 = t)) : WD x y pe (t + 1) (t + 1) := by
  obtain ⟨⟨a1, a2⟩, a3, ⟨a4, ⟨b1, b2, b3⟩, ⟨b4, b5, b6⟩⟩, a7, a11⟩ := h
  refine ⟨⟨a1, a2⟩, a3, ⟨a4, ⟨b1, b2, Int.le_trans b3 (by omega)⟩, ⟨b4, b5, Int.le_trans b6 (by omega)⟩⟩, a7, ?_⟩
  clear a1 a2 a3 a4 b1 b2 b3 b4 b5 b6 a7
  rcases a11 with ⟨d, e | ⟨e1, e2, e3, e4⟩⟩ | d
  · exact Or.inl ⟨d, Or.inl e⟩
  · refine Or.inl ⟨d, Or.inr ⟨e1, e2, ?_, e4⟩⟩
    have : x 11 ≠ t := fun e => h8 ⟨d, e⟩
    omega
  · exact Or.inr d
theorem WD.isDue {x y pe : Nat → Int} {t : Int} (h : WD x y pe t (t + 1)) : due t y pe ↔ (x 8 = 0 ∧ x 11 = t) := by
  obtain ⟨-, -, -, -, a11⟩ := h
  unfold due
  omega
