/-! soonest, order: the best is kept -/
abbrev betP (la su bl bs : Int) : Prop := la < bl ∨ (la = bl ∧ su < bs)
def kpF (n : Nat) (la su : Int) (σ : IM) : IM := icp (iw (iw σ 44 2 la) 44 3 su) 47 45 0 0 n
theorem kibX {σ σ' : IM} {n : Nat} {f : Nat → Int} (hn : 1 ≤ n ∧ n ≤ 6) (hr : fX0_run (mI 999) (enc σ) = some (mI 0, enc σ')) (h6 : σ' 30 6 = (n : Int)) (h0 : σ' 44 0 = (n : Int)) (hb : (0 ≤ σ' 44 2 ∧ σ' 44 2 ≤ 1000000) ∧ (0 ≤ σ' 44 3 ∧ σ' 44 3 ≤ 1000000)) (hf : ∀ k, k < n → σ' (34 + k) 14 = f k ∧ 0 ≤ f k ∧ f k ≤ 1000) : fX1_keepIfBetter (enc σ) = some (mI 0, enc (if betP (lsF f n 0 0) (ovF f n 0 0) (σ' 44 2) (σ' 44 3) then kpF n (lsF f n 0 0) (ovF f n 0 0) σ' else σ')) := by
  have L : fX0_lastOver (enc σ') = some (mI (lsF f n 0 0), enc σ') := by
    unfold fX0_lastOver
    generalize hfu : mm_fu = NF; have hNF : 4096 ≤ NF := by rw [← hfu]; exact Nat.le_refl _
    simp (implicitDefEqProofs := false) (maxSteps := 1000000) (disch := omega) only [↓mm_lt_s, ↓cl_in, ↓cl_wi, ↓cl_has, ↓cl_isP, mL_le, lit_n, litL_n, mL_mI, mL_neg, mm_cl_s, mI_lt, mI_le, mI_eq, enc_at, enc_wr, enc_cp, mI_neg, mI_add, mI_sub, mI_mul, mI_ix, mm_ck_ok, mm_nz_ok, mm_bo_c, mm_bo_m0, mm_bo_m1, b01, Int.toNat_natCast, Int.reduceToNat, Int.reduceNeg, Int.reduceSub, Int.reduceAdd, Int.reduceMul, Int.reduceLT, Int.reduceLE, Int.reduceEq, ↓reduceIte, not_true, not_false_eq_true, not_true_eq_false, and_self, true_and, and_true, false_and, and_false, Decidable.not_not, stv1, stv2, stv3, stv4]
    have E := lastX_L (K := fun x3 m4 => some (x3, m4)) (z := fun _ _ _ => none) (f := f) (show n ≤ 10 by omega) h6 hf n 0 NF 0 (by omega) (by omega) (by omega)
    rw [cast0] at E
    exact E
  have S : fX0_sumOfOver (enc σ') = some (mI (ovF f n 0 0), enc σ') := by
    unfold fX0_sumOfOver
    generalize hfu : mm_fu = NF; have hNF : 4096 ≤ NF := by rw [← hfu]; exact Nat.le_refl _
    simp (implicitDefEqProofs := false) (maxSteps := 1000000) (disch := omega) only [↓mm_lt_s, ↓cl_in, ↓cl_wi, ↓cl_has, ↓cl_isP, mL_le, lit_n, litL_n, mL_mI, mL_neg, mm_cl_s, mI_lt, mI_le, mI_eq, enc_at, enc_wr, enc_cp, mI_neg, mI_add, mI_sub, mI_mul, mI_ix, mm_ck_ok, mm_nz_ok, mm_bo_c, mm_bo_m0, mm_bo_m1, b01, Int.toNat_natCast, Int.reduceToNat, Int.reduceNeg, Int.reduceSub, Int.reduceAdd, Int.reduceMul, Int.reduceLT, Int.reduceLE, Int.reduceEq, ↓reduceIte, not_true, not_false_eq_true, not_true_eq_false, and_self, true_and, and_true, false_and, and_false, Decidable.not_not, stv1, stv2, stv3, stv4]
    have E := sumX_L (K := fun x3 m4 => some (x3, m4)) (z := fun _ _ _ => none) (f := f) (show n ≤ 10 by omega) h6 hf n 0 NF 0 (by omega) (by omega) (by omega)
    rw [cast0] at E
    exact E
  have lb := lsF_rng (f := f) n 0 0 (by omega) (fun p _ hp => (hf p (by omega)).2)
  have sb := ovF_rng (f := f) (B := 1000) (by omega) n 0 0 (fun p _ hp => (hf p (by omega)).2)
  generalize lsF f n 0 0 = la at *
  generalize ovF f n 0 0 = su at *
  have i0 : iw (iw σ' 44 2 la) 44 3 su 44 0 = (n : Int) := by rw [iw_ne (by omega), iw_ne (by omega)]; exact h0
  have tn : ((n : Nat) : Int).toNat = n := Int.toNat_natCast n
  unfold fX1_keepIfBetter
  simp (implicitDefEqProofs := false) (maxSteps := 1000000) (disch := omega) only [↓mm_lt_s, ↓cl_in, ↓cl_wi, ↓cl_has, ↓cl_isP, mL_le, lit_n, litL_n, mL_mI, mL_neg, mm_cl_s, mI_lt, mI_le, mI_eq, enc_at, enc_wr, enc_cp, mI_neg, mI_add, mI_sub, mI_mul, mI_ix, mm_ck_ok, mm_nz_ok, mm_bo_c, mm_bo_m0, mm_bo_m1, b01, Int.toNat_natCast, Int.reduceToNat, Int.reduceNeg, Int.reduceSub, Int.reduceAdd, Int.reduceMul, Int.reduceLT, Int.reduceLE, Int.reduceEq, ↓reduceIte, not_true, not_false_eq_true, not_true_eq_false, and_self, true_and, and_true, false_and, and_false, Decidable.not_not, stv1, stv2, stv3, stv4]
  rw [hr]
  simp (implicitDefEqProofs := false) (maxSteps := 1000000) (disch := omega) only [↓mm_lt_s, ↓cl_in, ↓cl_wi, ↓cl_has, ↓cl_isP, mL_le, lit_n, litL_n, mL_mI, mL_neg, mm_cl_s, mI_lt, mI_le, mI_eq, enc_at, enc_wr, enc_cp, mI_neg, mI_add, mI_sub, mI_mul, mI_ix, mm_ck_ok, mm_nz_ok, mm_bo_c, mm_bo_m0, mm_bo_m1, b01, Int.toNat_natCast, Int.reduceToNat, Int.reduceNeg, Int.reduceSub, Int.reduceAdd, Int.reduceMul, Int.reduceLT, Int.reduceLE, Int.reduceEq, ↓reduceIte, not_true, not_false_eq_true, not_true_eq_false, and_self, true_and, and_true, false_and, and_false, Decidable.not_not, stv1, stv2, stv3, stv4]
  rw [L]
  simp (implicitDefEqProofs := false) (maxSteps := 1000000) (disch := omega) only [↓mm_lt_s, ↓cl_in, ↓cl_wi, ↓cl_has, ↓cl_isP, mL_le, lit_n, litL_n, mL_mI, mL_neg, mm_cl_s, mI_lt, mI_le, mI_eq, enc_at, enc_wr, enc_cp, mI_neg, mI_add, mI_sub, mI_mul, mI_ix, mm_ck_ok, mm_nz_ok, mm_bo_c, mm_bo_m0, mm_bo_m1, b01, Int.toNat_natCast, Int.reduceToNat, Int.reduceNeg, Int.reduceSub, Int.reduceAdd, Int.reduceMul, Int.reduceLT, Int.reduceLE, Int.reduceEq, ↓reduceIte, not_true, not_false_eq_true, not_true_eq_false, and_self, true_and, and_true, false_and, and_false, Decidable.not_not, stv1, stv2, stv3, stv4]
  rw [S]
  by_cases c1 : la < σ' 44 2
  · rw [if_pos (Or.inl c1)]
    simp (implicitDefEqProofs := false) (maxSteps := 1000000) (disch := omega) only [c1, i0, mm_ac_ok, tn, ↓mm_lt_s, ↓cl_in, ↓cl_wi, ↓cl_has, ↓cl_isP, mL_le, lit_n, litL_n, mL_mI, mL_neg, mm_cl_s, mI_lt, mI_le, mI_eq, enc_at, enc_wr, enc_cp, mI_neg, mI_add, mI_sub, mI_mul, mI_ix, mm_ck_ok, mm_nz_ok, mm_bo_c, mm_bo_m0, mm_bo_m1, b01, Int.toNat_natCast, Int.reduceToNat, Int.reduceNeg, Int.reduceSub, Int.reduceAdd, Int.reduceMul, Int.reduceLT, Int.reduceLE, Int.reduceEq, ↓reduceIte, not_true, not_false_eq_true, not_true_eq_false, and_self, true_and, and_true, false_and, and_false, Decidable.not_not, stv1, stv2, stv3, stv4]
    rfl
  · by_cases c2 : la = σ' 44 2
    · by_cases c3 : su < σ' 44 3
      · have c4 : ¬ σ' 44 3 ≤ su := by omega
        rw [if_pos (Or.inr ⟨c2, c3⟩)]
        simp (implicitDefEqProofs := false) (maxSteps := 1000000) (disch := omega) only [c1, eq_true c2, c4, i0, mm_ac_ok, tn, ↓mm_lt_s, ↓cl_in, ↓cl_wi, ↓cl_has, ↓cl_isP, mL_le, lit_n, litL_n, mL_mI, mL_neg, mm_cl_s, mI_lt, mI_le, mI_eq, enc_at, enc_wr, enc_cp, mI_neg, mI_add, mI_sub, mI_mul, mI_ix, mm_ck_ok, mm_nz_ok, mm_bo_c, mm_bo_m0, mm_bo_m1, b01, Int.toNat_natCast, Int.reduceToNat, Int.reduceNeg, Int.reduceSub, Int.reduceAdd, Int.reduceMul, Int.reduceLT, Int.reduceLE, Int.reduceEq, ↓reduceIte, not_true, not_false_eq_true, not_true_eq_false, and_self, true_and, and_true, false_and, and_false, Decidable.not_not, stv1, stv2, stv3, stv4]
        rfl
      · have c4 : σ' 44 3 ≤ su := by omega
        rw [if_neg (fun x => x.elim c1 (fun y => c3 y.2))]
        simp (implicitDefEqProofs := false) (maxSteps := 1000000) (disch := omega) only [c1, eq_true c2, c4, ↓mm_lt_s, ↓cl_in, ↓cl_wi, ↓cl_has, ↓cl_isP, mL_le, lit_n, litL_n, mL_mI, mL_neg, mm_cl_s, mI_lt, mI_le, mI_eq, enc_at, enc_wr, enc_cp, mI_neg, mI_add, mI_sub, mI_mul, mI_ix, mm_ck_ok, mm_nz_ok, mm_bo_c, mm_bo_m0, mm_bo_m1, b01, Int.toNat_natCast, Int.reduceToNat, Int.reduceNeg, Int.reduceSub, Int.reduceAdd, Int.reduceMul, Int.reduceLT, Int.reduceLE, Int.reduceEq, ↓reduceIte, not_true, not_false_eq_true, not_true_eq_false, and_self, true_and, and_true, false_and, and_false, Decidable.not_not, stv1, stv2, stv3, stv4]
    · rw [if_neg (fun x => x.elim c1 (fun y => c2 y.1))]
      simp (implicitDefEqProofs := false) (maxSteps := 1000000) (disch := omega) only [c1, c2, ↓mm_lt_s, ↓cl_in, ↓cl_wi, ↓cl_has, ↓cl_isP, mL_le, lit_n, litL_n, mL_mI, mL_neg, mm_cl_s, mI_lt, mI_le, mI_eq, enc_at, enc_wr, enc_cp, mI_neg, mI_add, mI_sub, mI_mul, mI_ix, mm_ck_ok, mm_nz_ok, mm_bo_c, mm_bo_m0, mm_bo_m1, b01, Int.toNat_natCast, Int.reduceToNat, Int.reduceNeg, Int.reduceSub, Int.reduceAdd, Int.reduceMul, Int.reduceLT, Int.reduceLE, Int.reduceEq, ↓reduceIte, not_true, not_false_eq_true, not_true_eq_false, and_self, true_and, and_true, false_and, and_false, Decidable.not_not, stv1, stv2, stv3, stv4]
theorem judM_L {K : Int32 → Int32 → Mm → Aa} {z : Int32 → Int32 → Int32 → Mm → Aa} {n : Nat} {f : Nat → Int} {τ : IM} (hn : n ≤ 6) (h29 : τ 0 29 = (n : Int)) (hf : ∀ k, k < n → τ 22 k = f k ∧ 0 ≤ f k ∧ f k ≤ 1000) : ∀ (d i N : Nat) (l s : Int), i + d = n → d < N → (0 ≤ l ∧ l ≤ 1000) → (0 ≤ s ∧ s ≤ 1000 * i) → mm_lk z (fX7_judge_L6 K) N (mI l) (mI s) (mI i) (enc τ) = K (mI (lsF f d i l)) (mI (ovF f d i s)) (enc τ)
  | d, i, 0, l, s, _, h, _, _ => absurd h (Nat.not_lt_zero d)
  | 0, i, N + 1, l, s, h, _, _, _ => by
    rw [mm_lk_s, fX7_judge_L6]
    simp (implicitDefEqProofs := false) (maxSteps := 1000000) (disch := omega) only [h29, ↓mm_lt_s, ↓cl_in, ↓cl_wi, ↓cl_has, ↓cl_isP, mL_le, lit_n, litL_n, mL_mI, mL_neg, mm_cl_s, mI_lt, mI_le, mI_eq, enc_at, enc_wr, enc_cp, mI_neg, mI_add, mI_sub, mI_mul, mI_ix, mm_ck_ok, mm_nz_ok, mm_bo_c, mm_bo_m0, mm_bo_m1, b01, Int.toNat_natCast, Int.reduceToNat, Int.reduceNeg, Int.reduceSub, Int.reduceAdd, Int.reduceMul, Int.reduceLT, Int.reduceLE, Int.reduceEq, ↓reduceIte, not_true, not_false_eq_true, not_true_eq_false, and_self, true_and, and_true, false_and, and_false, Decidable.not_not, stv1, stv2, stv3, stv4]
    repeat (first | rw [if_pos (by omega)] | rw [if_neg (by omega)])
    rfl
  | d + 1, i, N + 1, l, s, h, h2, hl, hs => by
    have c1 : ¬ (n : Int) ≤ (i : Int) := by omega
    obtain ⟨f1, f2⟩ := hf i (by omega)
    have e1 : lsF f (d + 1) i l = lsF f d (i + 1) (if l < f i then f i else l) := rfl
    have e2 : ovF f (d + 1) i s = ovF f d (i + 1) (s + f i) := rfl
    have e3 : (if f i < l then l else f i) = (if l < f i then f i else l) := by
      split <;> split <;> omega
    rw [e1, e2, ← judM_L (K := K) (z := z) hn h29 hf d (i + 1) N _ _ (by omega) (by omega) (by split <;> omega) (by omega), ← e3, mm_lk_s, fX7_judge_L6]
    simp (implicitDefEqProofs := false) (maxSteps := 1000000) (disch := omega) only [h29, c1, f1, most_s, cast_s, ↓mm_lt_s, ↓cl_in, ↓cl_wi, ↓cl_has, ↓cl_isP, mL_le, lit_n, litL_n, mL_mI, mL_neg, mm_cl_s, mI_lt, mI_le, mI_eq, enc_at, enc_wr, enc_cp, mI_neg, mI_add, mI_sub, mI_mul, mI_ix, mm_ck_ok, mm_nz_ok, mm_bo_c, mm_bo_m0, mm_bo_m1, b01, Int.toNat_natCast, Int.reduceToNat, Int.reduceNeg, Int.reduceSub, Int.reduceAdd, Int.reduceMul, Int.reduceLT, Int.reduceLE, Int.reduceEq, ↓reduceIte, not_true, not_false_eq_true, not_true_eq_false, and_self, true_and, and_true, false_and, and_false, Decidable.not_not, stv1, stv2, stv3, stv4]
theorem jcpM_L {K : Mm → Aa} {z : Int32 → Mm → Aa} : ∀ (d i N : Nat) (τ : IM), i + d = 6 → d < N → mm_lk z (fX7_judge_L83 K) N (mI i) (enc τ) = K (enc (ifl τ 21 i 6 (τ 20)))
  | d, i, 0, τ, _, h => absurd h (Nat.not_lt_zero d)
  | 0, i, N + 1, τ, h, _ => by
    rw [mm_lk_s, fX7_judge_L83]
    simp (implicitDefEqProofs := false) (maxSteps := 1000000) (disch := omega) only [↓mm_lt_s, ↓cl_in, ↓cl_wi, ↓cl_has, ↓cl_isP, mL_le, lit_n, litL_n, mL_mI, mL_neg, mm_cl_s, mI_lt, mI_le, mI_eq, enc_at, enc_wr, enc_cp, mI_neg, mI_add, mI_sub, mI_mul, mI_ix, mm_ck_ok, mm_nz_ok, mm_bo_c, mm_bo_m0, mm_bo_m1, b01, Int.toNat_natCast, Int.reduceToNat, Int.reduceNeg, Int.reduceSub, Int.reduceAdd, Int.reduceMul, Int.reduceLT, Int.reduceLE, Int.reduceEq, ↓reduceIte, not_true, not_false_eq_true, not_true_eq_false, and_self, true_and, and_true, false_and, and_false, Decidable.not_not, stv1, stv2, stv3, stv4]
    repeat (first | rw [if_pos (by omega)] | rw [if_neg (by omega)])
    rw [ifl_nil (by omega)]
  | d + 1, i, N + 1, τ, h, h2 => by
    rw [mm_lk_s, fX7_judge_L83]
    simp (implicitDefEqProofs := false) (maxSteps := 1000000) (disch := omega) only [cast_s, ↓mm_lt_s, ↓cl_in, ↓cl_wi, ↓cl_has, ↓cl_isP, mL_le, lit_n, litL_n, mL_mI, mL_neg, mm_cl_s, mI_lt, mI_le, mI_eq, enc_at, enc_wr, enc_cp, mI_neg, mI_add, mI_sub, mI_mul, mI_ix, mm_ck_ok, mm_nz_ok, mm_bo_c, mm_bo_m0, mm_bo_m1, b01, Int.toNat_natCast, Int.reduceToNat, Int.reduceNeg, Int.reduceSub, Int.reduceAdd, Int.reduceMul, Int.reduceLT, Int.reduceLE, Int.reduceEq, ↓reduceIte, not_true, not_false_eq_true, not_true_eq_false, and_self, true_and, and_true, false_and, and_false, Decidable.not_not, stv1, stv2, stv3, stv4]
    repeat (first | rw [if_pos (by omega)] | rw [if_neg (by omega)])
    rw [jcpM_L d (i + 1) N _ (by omega) (by omega), show iw τ 21 i (τ 20 i) 20 = τ 20 from funext fun b => iw_ne (by omega), ifl_step (f := τ 20) (by omega) rfl]
def jdF (la su : Int) (τ : IM) : IM := ifl (iw (iw τ 0 33 la) 0 34 su) 21 0 6 (τ 20)
theorem judM {τ : IM} {n : Nat} {f : Nat → Int} (hn : 1 ≤ n ∧ n ≤ 6) (h29 : τ 0 29 = (n : Int)) (hb : (-1 ≤ τ 0 33 ∧ τ 0 33 ≤ 1000000) ∧ (τ 0 33 = -1 ∨ (0 ≤ τ 0 34 ∧ τ 0 34 ≤ 1000000))) (hf : ∀ k, k < n → τ 22 k = f k ∧ 0 ≤ f k ∧ f k ≤ 1000) : fX7_judge (enc τ) = some (mI 0, enc (if τ 0 33 = -1 ∨ betP (lsF f n 0 0) (ovF f n 0 0) (τ 0 33) (τ 0 34) then jdF (lsF f n 0 0) (ovF f n 0 0) τ else τ)) := by
  have lb := lsF_rng (f := f) n 0 0 (by omega) (fun p _ hp => (hf p (by omega)).2)
  have sb := ovF_rng (f := f) (B := 1000) (by omega) n 0 0 (fun p _ hp => (hf p (by omega)).2)
  have J := fun K z NF (hNF : n < NF) => judM_L (K := K) (z := z) (n := n) (f := f) (τ := τ) hn.2 h29 hf n 0 NF 0 0 (by omega) hNF (by omega) (by omega)
  rw [cast0] at J
  generalize lsF f n 0 0 = la at *
  generalize ovF f n 0 0 = su at *
  have C := fun K z NF (hNF : 6 < NF) => jcpM_L (K := K) (z := z) 6 0 NF (iw (iw τ 0 33 la) 0 34 su) (by omega) hNF
  have e20 : iw (iw τ 0 33 la) 0 34 su 20 = τ 20 := funext fun b => by rw [iw_ne (by omega), iw_ne (by omega)]
  rw [cast0, e20] at C
  have jd : ifl (iw (iw τ 0 33 la) 0 34 su) 21 0 6 (τ 20) = jdF la su τ := rfl
  rw [jd] at C
  unfold fX7_judge
  generalize hfu : mm_fu = NF; have hNF : 4096 ≤ NF := by rw [← hfu]; exact Nat.le_refl _
  simp (implicitDefEqProofs := false) (maxSteps := 1000000) (disch := omega) only [↓mm_lt_s, ↓cl_in, ↓cl_wi, ↓cl_has, ↓cl_isP, mL_le, lit_n, litL_n, mL_mI, mL_neg, mm_cl_s, mI_lt, mI_le, mI_eq, enc_at, enc_wr, enc_cp, mI_neg, mI_add, mI_sub, mI_mul, mI_ix, mm_ck_ok, mm_nz_ok, mm_bo_c, mm_bo_m0, mm_bo_m1, b01, Int.toNat_natCast, Int.reduceToNat, Int.reduceNeg, Int.reduceSub, Int.reduceAdd, Int.reduceMul, Int.reduceLT, Int.reduceLE, Int.reduceEq, ↓reduceIte, not_true, not_false_eq_true, not_true_eq_false, and_self, true_and, and_true, false_and, and_false, Decidable.not_not, stv1, stv2, stv3, stv4]
  rw [J _ _ NF (by omega)]
  by_cases c0 : τ 0 33 = -1
  · have c0' : τ 0 33 < 0 := by omega
    rw [if_pos (Or.inl c0)]
    simp (implicitDefEqProofs := false) (maxSteps := 1000000) (disch := omega) only [c0', ↓mm_lt_s, ↓cl_in, ↓cl_wi, ↓cl_has, ↓cl_isP, mL_le, lit_n, litL_n, mL_mI, mL_neg, mm_cl_s, mI_lt, mI_le, mI_eq, enc_at, enc_wr, enc_cp, mI_neg, mI_add, mI_sub, mI_mul, mI_ix, mm_ck_ok, mm_nz_ok, mm_bo_c, mm_bo_m0, mm_bo_m1, b01, Int.toNat_natCast, Int.reduceToNat, Int.reduceNeg, Int.reduceSub, Int.reduceAdd, Int.reduceMul, Int.reduceLT, Int.reduceLE, Int.reduceEq, ↓reduceIte, not_true, not_false_eq_true, not_true_eq_false, and_self, true_and, and_true, false_and, and_false, Decidable.not_not, stv1, stv2, stv3, stv4]
    rw [C _ _ NF (by omega)]
  · have c0' : ¬ τ 0 33 < 0 := by omega
    have hb2 : 0 ≤ τ 0 34 ∧ τ 0 34 ≤ 1000000 := hb.2.elim (fun x => absurd x c0) id
    by_cases c1 : la < τ 0 33
    · rw [if_pos (Or.inr (Or.inl c1))]
      simp (implicitDefEqProofs := false) (maxSteps := 1000000) (disch := omega) only [c0', c1, ↓mm_lt_s, ↓cl_in, ↓cl_wi, ↓cl_has, ↓cl_isP, mL_le, lit_n, litL_n, mL_mI, mL_neg, mm_cl_s, mI_lt, mI_le, mI_eq, enc_at, enc_wr, enc_cp, mI_neg, mI_add, mI_sub, mI_mul, mI_ix, mm_ck_ok, mm_nz_ok, mm_bo_c, mm_bo_m0, mm_bo_m1, b01, Int.toNat_natCast, Int.reduceToNat, Int.reduceNeg, Int.reduceSub, Int.reduceAdd, Int.reduceMul, Int.reduceLT, Int.reduceLE, Int.reduceEq, ↓reduceIte, not_true, not_false_eq_true, not_true_eq_false, and_self, true_and, and_true, false_and, and_false, Decidable.not_not, stv1, stv2, stv3, stv4]
      rw [C _ _ NF (by omega)]
    · by_cases c2 : la = τ 0 33
      · by_cases c3 : su < τ 0 34
        · have c4 : ¬ τ 0 34 ≤ su := by omega
          rw [if_pos (Or.inr (Or.inr ⟨c2, c3⟩))]
          simp (implicitDefEqProofs := false) (maxSteps := 1000000) (disch := omega) only [c0', c1, eq_true c2, c4, ↓mm_lt_s, ↓cl_in, ↓cl_wi, ↓cl_has, ↓cl_isP, mL_le, lit_n, litL_n, mL_mI, mL_neg, mm_cl_s, mI_lt, mI_le, mI_eq, enc_at, enc_wr, enc_cp, mI_neg, mI_add, mI_sub, mI_mul, mI_ix, mm_ck_ok, mm_nz_ok, mm_bo_c, mm_bo_m0, mm_bo_m1, b01, Int.toNat_natCast, Int.reduceToNat, Int.reduceNeg, Int.reduceSub, Int.reduceAdd, Int.reduceMul, Int.reduceLT, Int.reduceLE, Int.reduceEq, ↓reduceIte, not_true, not_false_eq_true, not_true_eq_false, and_self, true_and, and_true, false_and, and_false, Decidable.not_not, stv1, stv2, stv3, stv4]
          rw [C _ _ NF (by omega)]
        · have c4 : τ 0 34 ≤ su := by omega
          have nn : ¬ (τ 0 33 = -1 ∨ betP la su (τ 0 33) (τ 0 34)) := fun x => x.elim c0 (fun x => x.elim c1 (fun y => c3 y.2))
          rw [if_neg nn]
          simp (implicitDefEqProofs := false) (maxSteps := 1000000) (disch := omega) only [c0', c1, eq_true c2, c4, ↓mm_lt_s, ↓cl_in, ↓cl_wi, ↓cl_has, ↓cl_isP, mL_le, lit_n, litL_n, mL_mI, mL_neg, mm_cl_s, mI_lt, mI_le, mI_eq, enc_at, enc_wr, enc_cp, mI_neg, mI_add, mI_sub, mI_mul, mI_ix, mm_ck_ok, mm_nz_ok, mm_bo_c, mm_bo_m0, mm_bo_m1, b01, Int.toNat_natCast, Int.reduceToNat, Int.reduceNeg, Int.reduceSub, Int.reduceAdd, Int.reduceMul, Int.reduceLT, Int.reduceLE, Int.reduceEq, ↓reduceIte, not_true, not_false_eq_true, not_true_eq_false, and_self, true_and, and_true, false_and, and_false, Decidable.not_not, stv1, stv2, stv3, stv4]
      · have nn : ¬ (τ 0 33 = -1 ∨ betP la su (τ 0 33) (τ 0 34)) := fun x => x.elim c0 (fun x => x.elim c1 (fun y => c2 y.1))
        rw [if_neg nn]
        simp (implicitDefEqProofs := false) (maxSteps := 1000000) (disch := omega) only [c0', c1, c2, ↓mm_lt_s, ↓cl_in, ↓cl_wi, ↓cl_has, ↓cl_isP, mL_le, lit_n, litL_n, mL_mI, mL_neg, mm_cl_s, mI_lt, mI_le, mI_eq, enc_at, enc_wr, enc_cp, mI_neg, mI_add, mI_sub, mI_mul, mI_ix, mm_ck_ok, mm_nz_ok, mm_bo_c, mm_bo_m0, mm_bo_m1, b01, Int.toNat_natCast, Int.reduceToNat, Int.reduceNeg, Int.reduceSub, Int.reduceAdd, Int.reduceMul, Int.reduceLT, Int.reduceLE, Int.reduceEq, ↓reduceIte, not_true, not_false_eq_true, not_true_eq_false, and_self, true_and, and_true, false_and, and_false, Decidable.not_not, stv1, stv2, stv3, stv4]
/-- the best so far, in both -/
def BR (σ τ : IM) (n : Nat) : Prop := (τ 0 33 = -1 ∧ σ 44 2 = 1000000 ∧ σ 44 3 = 1000000) ∨ ((τ 0 33 = σ 44 2 ∧ 0 ≤ σ 44 2 ∧ σ 44 2 ≤ 1000) ∧ (τ 0 34 = σ 44 3 ∧ 0 ≤ σ 44 3 ∧ σ 44 3 ≤ 10000) ∧ ∀ k, k < n → σ 45 k = τ 21 k ∧ 0 ≤ τ 21 k ∧ τ 21 k < n)
theorem keepR {σ σ' τ : IM} {n : Nat} (hn : 1 ≤ n ∧ n ≤ 6) (hr : fX0_run (mI 999) (enc σ) = some (mI 0, enc σ')) (h6 : σ' 30 6 = (n : Int)) (h0 : σ' 44 0 = (n : Int)) (h29 : τ 0 29 = (n : Int)) (hB : BR σ' τ n) (hf : ∀ k, k < n → σ' (34 + k) 14 = τ 22 k ∧ 0 ≤ τ 22 k ∧ τ 22 k ≤ 1000) (hw : ∀ k, k < n → σ' 47 k = τ 20 k ∧ 0 ≤ τ 20 k ∧ τ 20 k < n) : ∃ σ2 τ2 : IM, fX1_keepIfBetter (enc σ) = some (mI 0, enc σ2) ∧ fX7_judge (enc τ) = some (mI 0, enc τ2) ∧ BR σ2 τ2 n ∧ τ2 0 33 ≠ -1 ∧ (∀ a b, ¬ (a = 44 ∧ (b = 2 ∨ b = 3)) → a ≠ 45 → σ2 a b = σ' a b) ∧ (∀ a b, ¬ (a = 0 ∧ (b = 33 ∨ b = 34)) → a ≠ 21 → τ2 a b = τ a b) := by
  have bb : (0 ≤ σ' 44 2 ∧ σ' 44 2 ≤ 1000000) ∧ (0 ≤ σ' 44 3 ∧ σ' 44 3 ≤ 1000000) := by
    rcases hB with ⟨b1, b2, b3⟩ | ⟨b1, b2, -⟩ <;> omega
  have bt : (-1 ≤ τ 0 33 ∧ τ 0 33 ≤ 1000000) ∧ (τ 0 33 = -1 ∨ (0 ≤ τ 0 34 ∧ τ 0 34 ≤ 1000000)) := by
    rcases hB with ⟨b1, b2, b3⟩ | ⟨b1, b2, -⟩
    · exact ⟨by omega, Or.inl b1⟩
    · exact ⟨by omega, Or.inr (by omega)⟩
  have X := kibX (f := fun k => τ 22 k) hn hr h6 h0 bb hf
  have M := judM (f := fun k => τ 22 k) hn h29 bt (fun k hk => ⟨rfl, (hf k hk).2⟩)
  have lb := lsF_rng (f := fun k => τ 22 k) n 0 0 (by omega) (fun p _ hp => (hf p (by omega)).2)
  have sb := ovF_rng (f := fun k => τ 22 k) (B := 1000) (by omega) n 0 0 (fun p _ hp => (hf p (by omega)).2)
  generalize lsF (fun k => τ 22 k) n 0 0 = la at *
  generalize ovF (fun k => τ 22 k) n 0 0 = su at *
  have eqv : betP la su (σ' 44 2) (σ' 44 3) ↔ (τ 0 33 = -1 ∨ betP la su (τ 0 33) (τ 0 34)) := by
    rcases hB with ⟨b1, b2, b3⟩ | ⟨b1, b2, -⟩
    · exact ⟨fun _ => Or.inl b1, fun _ => Or.inl (by omega)⟩
    · rw [b1.1, b2.1]
      exact ⟨Or.inr, fun x => x.elim (fun y => by omega) id⟩
  by_cases c : betP la su (σ' 44 2) (σ' 44 3)
  · rw [if_pos c] at X
    rw [if_pos (eqv.1 c)] at M
    refine ⟨_, _, X, M, Or.inr ⟨?_, ?_, fun k hk => ?_⟩, ?_, fun a b h1 h2 => ?_, fun a b h1 h2 => ?_⟩
    · unfold kpF jdF
      rw [icp_ne (by omega), ifl_ne (by omega), iw_ne (by omega), iw_eq rfl rfl, iw_ne (by omega), iw_eq rfl rfl]
      omega
    · unfold kpF jdF
      rw [icp_ne (by omega), ifl_ne (by omega), iw_eq rfl rfl, iw_eq rfl rfl]
      omega
    · unfold kpF jdF
      rw [icp_in (by omega), ifl_in (by omega) (by omega), iw_ne (by omega), iw_ne (by omega), show 0 + (k - 0) = k by omega]
      exact hw k hk
    · unfold jdF
      rw [ifl_ne (by omega), iw_ne (by omega), iw_eq rfl rfl]
      omega
    · unfold kpF
      rw [icp_ne (by omega), iw_ne (by omega), iw_ne (by omega)]
    · unfold jdF
      rw [ifl_ne (by omega), iw_ne (by omega), iw_ne (by omega)]
  · rw [if_neg c] at X
    rw [if_neg (fun x => c (eqv.2 x))] at M
    refine ⟨_, _, X, M, hB, fun e => c (eqv.2 (Or.inl e)), fun _ _ _ _ => rfl, fun _ _ _ _ => rfl⟩
