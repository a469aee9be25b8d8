theorem zfX_L {K : Mm → Aa} {z : Int32 → Mm → Aa} {n : Nat} (hn : n ≤ 6) : ∀ (d i N : Nat) (σ : IM), i + d = n → d < N → σ 44 0 = (n : Int) → mm_lk z (fX1_findCompanies_L8 K) N (mI i) (enc σ) = K (enc (ifl σ 47 i n (fun _ => 0)))
  | d, i, 0, σ, _, h, _ => absurd h (Nat.not_lt_zero d)
  | 0, i, N + 1, σ, h, _, h0 => by
    rw [mm_lk_s, fX1_findCompanies_L8, ifl_nil (by omega)]
    simp (implicitDefEqProofs := false) (maxSteps := 1000000) (disch := omega) only [h0, ↓mm_lt_s, ↓cl_in, ↓cl_wi, ↓cl_has, ↓cl_isP, mL_le, lit_n, litL_n, mL_mI, mL_neg, mm_cl_s, mI_lt, mI_le, mI_eq, enc_at, enc_wr, enc_cp, mI_neg, mI_add, mI_sub, mI_mul, mI_ix, mm_ck_ok, mm_nz_ok, mm_bo_c, mm_bo_m0, mm_bo_m1, b01, Int.toNat_natCast, Int.reduceToNat, Int.reduceNeg, Int.reduceSub, Int.reduceAdd, Int.reduceMul, Int.reduceLT, Int.reduceLE, Int.reduceEq, ↓reduceIte, not_true, not_false_eq_true, not_true_eq_false, and_self, true_and, and_true, false_and, and_false, Decidable.not_not, stv1, stv2, stv3, stv4]
    repeat (first | rw [if_pos (by omega)] | rw [if_neg (by omega)])
  | d + 1, i, N + 1, σ, h, h2, h0 => by
    have c1 : ¬ (n : Int) ≤ (i : Int) := by omega
    rw [← ifl_step (f := fun _ => (0 : Int)) (v := 0) (show i < n by omega) rfl, ← zfX_L (K := K) (z := z) hn d (i + 1) N _ (by omega) (by omega) (by rw [iw_ne (by omega)]; exact h0), mm_lk_s, fX1_findCompanies_L8]
    simp (implicitDefEqProofs := false) (maxSteps := 1000000) (disch := omega) only [h0, c1, cast_s, ↓mm_lt_s, ↓cl_in, ↓cl_wi, ↓cl_has, ↓cl_isP, mL_le, lit_n, litL_n, mL_mI, mL_neg, mm_cl_s, mI_lt, mI_le, mI_eq, enc_at, enc_wr, enc_cp, mI_neg, mI_add, mI_sub, mI_mul, mI_ix, mm_ck_ok, mm_nz_ok, mm_bo_c, mm_bo_m0, mm_bo_m1, b01, Int.toNat_natCast, Int.reduceToNat, Int.reduceNeg, Int.reduceSub, Int.reduceAdd, Int.reduceMul, Int.reduceLT, Int.reduceLE, Int.reduceEq, ↓reduceIte, not_true, not_false_eq_true, not_true_eq_false, and_self, true_and, and_true, false_and, and_false, Decidable.not_not, stv1, stv2, stv3, stv4]
theorem zfM_L {K : Mm → Aa} {z : Int32 → Mm → Aa} : ∀ (d i N : Nat) (τ : IM), i + d = 6 → d < N → mm_lk z (fX7_soonest_L30 K) N (mI i) (enc τ) = K (enc (ifl τ 20 i 6 (fun _ => 0)))
  | d, i, 0, τ, _, h => absurd h (Nat.not_lt_zero d)
  | 0, i, N + 1, τ, h, _ => by
    rw [mm_lk_s, fX7_soonest_L30, ifl_nil (by omega)]
    simp (implicitDefEqProofs := false) (maxSteps := 1000000) (disch := omega) only [↓mm_lt_s, ↓cl_in, ↓cl_wi, ↓cl_has, ↓cl_isP, mL_le, lit_n, litL_n, mL_mI, mL_neg, mm_cl_s, mI_lt, mI_le, mI_eq, enc_at, enc_wr, enc_cp, mI_neg, mI_add, mI_sub, mI_mul, mI_ix, mm_ck_ok, mm_nz_ok, mm_bo_c, mm_bo_m0, mm_bo_m1, b01, Int.toNat_natCast, Int.reduceToNat, Int.reduceNeg, Int.reduceSub, Int.reduceAdd, Int.reduceMul, Int.reduceLT, Int.reduceLE, Int.reduceEq, ↓reduceIte, not_true, not_false_eq_true, not_true_eq_false, and_self, true_and, and_true, false_and, and_false, Decidable.not_not, stv1, stv2, stv3, stv4]
    repeat (first | rw [if_pos (by omega)] | rw [if_neg (by omega)])
  | d + 1, i, N + 1, τ, h, h2 => by
    have c1 : ¬ (6 : Int) ≤ (i : Int) := by omega
    rw [← ifl_step (f := fun _ => (0 : Int)) (v := 0) (show i < 6 by omega) rfl, ← zfM_L (K := K) (z := z) d (i + 1) N _ (by omega) (by omega), mm_lk_s, fX7_soonest_L30]
    simp (implicitDefEqProofs := false) (maxSteps := 1000000) (disch := omega) only [c1, cast_s, ↓mm_lt_s, ↓cl_in, ↓cl_wi, ↓cl_has, ↓cl_isP, mL_le, lit_n, litL_n, mL_mI, mL_neg, mm_cl_s, mI_lt, mI_le, mI_eq, enc_at, enc_wr, enc_cp, mI_neg, mI_add, mI_sub, mI_mul, mI_ix, mm_ck_ok, mm_nz_ok, mm_bo_c, mm_bo_m0, mm_bo_m1, b01, Int.toNat_natCast, Int.reduceToNat, Int.reduceNeg, Int.reduceSub, Int.reduceAdd, Int.reduceMul, Int.reduceLT, Int.reduceLE, Int.reduceEq, ↓reduceIte, not_true, not_false_eq_true, not_true_eq_false, and_self, true_and, and_true, false_and, and_false, Decidable.not_not, stv1, stv2, stv3, stv4]
theorem dg_0 (k : Nat) : dg 0 k = 0 := by
  unfold dg
  rw [Nat.zero_div]
theorem soon_a1 {s i : Int} {σ : IM} (x1 : fX1_choose (mI s) (enc σ 1 1) (enc σ) = some (mI 0, enc σ)) : fX6_soonest (mI s) (mI i) (enc σ) = some (mI (-1), enc σ) := by
  unfold fX6_soonest
  rw [x1]
  rfl
theorem soon_a2 {s i : Int} {τ τ1 : IM} (x2 : fX7_takeSome (mI s) (enc τ) = some (mI 0, enc τ1)) : fX7_soonest (mI s) (mI i) (enc τ) = some (mI (-1), enc τ1) := by
  unfold fX7_soonest
  rw [x2]
  rfl
theorem soon_b1 {s i : Int} {n : Nat} {σ σ1 : IM} (hi : I32 i) (hn : n ≤ 6) (x1 : fX1_choose (mI s) (enc σ 1 1) (enc σ) = some (mI 1, enc σ1)) (x4 : σ1 44 0 = (n : Int)) (c : ¬ (-2 ≤ i ∧ i < n)) : fX6_soonest (mI s) (mI i) (enc σ) = some (mI (-1), enc σ1) := by
  have o : ¬ (1 : Int) = 0 := by omega
  unfold fX6_soonest
  rw [x1]
  by_cases c1 : i < -2
  · simp (implicitDefEqProofs := false) (maxSteps := 1000000) (disch := omega) only [o, c1, ↓mm_lt_s, ↓cl_in, ↓cl_wi, ↓cl_has, ↓cl_isP, mL_le, lit_n, litL_n, mL_mI, mL_neg, mm_cl_s, mI_lt, mI_le, mI_eq, enc_at, enc_wr, enc_cp, mI_neg, mI_add, mI_sub, mI_mul, mI_ix, mm_ck_ok, mm_nz_ok, mm_bo_c, mm_bo_m0, mm_bo_m1, b01, Int.toNat_natCast, Int.reduceToNat, Int.reduceNeg, Int.reduceSub, Int.reduceAdd, Int.reduceMul, Int.reduceLT, Int.reduceLE, Int.reduceEq, ↓reduceIte, not_true, not_false_eq_true, not_true_eq_false, and_self, true_and, and_true, false_and, and_false, Decidable.not_not, stv1, stv2, stv3, stv4]
  · have c2 : ¬ i < (n : Int) := by omega
    simp (implicitDefEqProofs := false) (maxSteps := 1000000) (disch := omega) only [o, c1, x4, c2, ↓mm_lt_s, ↓cl_in, ↓cl_wi, ↓cl_has, ↓cl_isP, mL_le, lit_n, litL_n, mL_mI, mL_neg, mm_cl_s, mI_lt, mI_le, mI_eq, enc_at, enc_wr, enc_cp, mI_neg, mI_add, mI_sub, mI_mul, mI_ix, mm_ck_ok, mm_nz_ok, mm_bo_c, mm_bo_m0, mm_bo_m1, b01, Int.toNat_natCast, Int.reduceToNat, Int.reduceNeg, Int.reduceSub, Int.reduceAdd, Int.reduceMul, Int.reduceLT, Int.reduceLE, Int.reduceEq, ↓reduceIte, not_true, not_false_eq_true, not_true_eq_false, and_self, true_and, and_true, false_and, and_false, Decidable.not_not, stv1, stv2, stv3, stv4]
theorem soon_b2 {s i : Int} {n : Nat} {τ τ1 : IM} (hi : I32 i) (hn : n ≤ 6) (x2 : fX7_takeSome (mI s) (enc τ) = some (mI 1, enc τ1)) (x5 : τ1 0 29 = (n : Int)) (c : ¬ (-2 ≤ i ∧ i < n)) : fX7_soonest (mI s) (mI i) (enc τ) = some (mI (-1), enc τ1) := by
  have P : ¬ ((-2 : Int64) ≤ (mI i).toInt64 ∧ (mI i).toInt64 ≤ ((enc τ1 0 29) - 1).toInt64) := by
    have c1 : ¬ (-2 ≤ i ∧ i ≤ (n : Int) - 1) := by omega
    simp (implicitDefEqProofs := false) (maxSteps := 1000000) (disch := omega) only [x5, ↓mm_lt_s, ↓cl_in, ↓cl_wi, ↓cl_has, ↓cl_isP, mL_le, lit_n, litL_n, mL_mI, mL_neg, mm_cl_s, mI_lt, mI_le, mI_eq, enc_at, enc_wr, enc_cp, mI_neg, mI_add, mI_sub, mI_mul, mI_ix, mm_ck_ok, mm_nz_ok, mm_bo_c, mm_bo_m0, mm_bo_m1, b01, Int.toNat_natCast, Int.reduceToNat, Int.reduceNeg, Int.reduceSub, Int.reduceAdd, Int.reduceMul, Int.reduceLT, Int.reduceLE, Int.reduceEq, ↓reduceIte, not_true, not_false_eq_true, not_true_eq_false, and_self, true_and, and_true, false_and, and_false, Decidable.not_not, stv1, stv2, stv3, stv4]
    exact c1
  unfold fX7_soonest
  generalize hfu : mm_fu = NF; have hNF : 4096 ≤ NF := by rw [← hfu]; exact Nat.le_refl _
  rw [x2, mm_cl_s, mm_lt_s, if_neg (show ¬ mI 1 = 0 by decide), cl_in, if_neg P, if_pos rfl]
  rfl
theorem soon_c2 {s i : Int} {n : Nat} {τ τ1 τ2 : IM} (hi : I32 i) (hn : n ≤ 6) (x2 : fX7_takeSome (mI s) (enc τ) = some (mI 1, enc τ1)) (x5 : τ1 0 29 = (n : Int)) (c : -2 ≤ i ∧ i < n) (F : ∀ NF, 4096 ≤ NF → ∀ K z z2, mm_lk z (fX7_soonest_L30 (fun m7 => mm_lk z2 (fX7_soonest_L56 K) NF (mI 1) (mm_wr m7 0 33 (mI (-1))))) NF (mI 0) (enc τ1) = K (enc τ2)) : fX7_soonest (mI s) (mI i) (enc τ) = (if mI i = -1 then some (enc τ2 0 33, enc τ2) else if mI i = -2 then some (enc τ2 0 34, enc τ2) else mm_ck (mI i) 6 (some (enc τ2 21 (mI i).toNatClampNeg, enc τ2))) := by
  have P : ((-2 : Int64) ≤ (mI i).toInt64 ∧ (mI i).toInt64 ≤ ((enc τ1 0 29) - 1).toInt64) := by
    have c1 : (-2 ≤ i ∧ i ≤ (n : Int) - 1) := by omega
    simp (implicitDefEqProofs := false) (maxSteps := 1000000) (disch := omega) only [x5, ↓mm_lt_s, ↓cl_in, ↓cl_wi, ↓cl_has, ↓cl_isP, mL_le, lit_n, litL_n, mL_mI, mL_neg, mm_cl_s, mI_lt, mI_le, mI_eq, enc_at, enc_wr, enc_cp, mI_neg, mI_add, mI_sub, mI_mul, mI_ix, mm_ck_ok, mm_nz_ok, mm_bo_c, mm_bo_m0, mm_bo_m1, b01, Int.toNat_natCast, Int.reduceToNat, Int.reduceNeg, Int.reduceSub, Int.reduceAdd, Int.reduceMul, Int.reduceLT, Int.reduceLE, Int.reduceEq, ↓reduceIte, not_true, not_false_eq_true, not_true_eq_false, and_self, true_and, and_true, false_and, and_false, Decidable.not_not, stv1, stv2, stv3, stv4]
    exact c1
  unfold fX7_soonest
  generalize hfu : mm_fu = NF; have hNF : 4096 ≤ NF := by rw [← hfu]; exact Nat.le_refl _
  rw [x2, mm_cl_s, mm_lt_s, if_neg (show ¬ mI 1 = 0 by decide), cl_in, if_pos P, if_neg (by decide), mm_lt_s, mm_lt_s]
  exact F NF hNF (fun m10 => if mI i = -1 then some (m10 0 33, m10) else if mI i = -2 then some (m10 0 34, m10) else mm_ck (mI i) 6 (some (m10 21 (mI i).toNatClampNeg, m10))) (fun _ _ => none) (fun _ _ => none)
theorem coEnds {n : Nat} (hn : 1 ≤ n ∧ n ≤ 6) : ∃ f, f ≤ 1000 ∧ ends (nxC n) (okC n) f 0 = true := ⟨1000, Nat.le_refl _, ends_C n (Nat.lt_succ_of_le hn.2) hn.1⟩
theorem findX {σ σ1 σ' : IM} {n fl : Nat} (hn : n ≤ 6) (hfl : fl ≤ 1000) (B : fX1_begin (enc σ) = some (mI 0, enc σ1)) (q4 : σ1 44 0 = (n : Int)) (i4 : ∀ (N : Nat), fl < N → ∀ (K1 K2 : Mm → Aa) (z : Int32 → Mm → Aa), mm_lk z (fX1_findCompanies_L31 K1 K2) N (mI 0) (enc (ifl σ1 47 0 n (fun _ => 0))) = K1 (enc σ')) : fX1_findCompanies (enc σ) = some (mI 0, enc σ') := by
  have ZX := fun K z NF (hNF : n < NF) => zfX_L (K := K) (z := z) hn n 0 NF σ1 (by omega) hNF q4
  rw [cast0] at ZX
  unfold fX1_findCompanies
  generalize hfu : mm_fu = NF; have hNF : 4096 ≤ NF := by rw [← hfu]; exact Nat.le_refl _
  rw [B, mm_cl_s, mm_lt_s, mm_lt_s]
  refine Eq.trans (ZX _ (fun _ _ => none) NF (by omega)) ?_
  rw [mm_lt_s, mm_lt_s, mm_lt_s]
  exact i4 NF (by omega) _ _ _
/-- the whole search for companies -/
theorem coFind {σ τ : IM} {n : Nat} {w : Nat → Nat} (h : RX σ τ) (hn : 1 ≤ n ∧ n ≤ 6) (h0 : σ 44 0 = (n : Int)) (h29 : τ 0 29 = (n : Int)) (hw : ∀ k, k < n → ((w k : Nat) : Int) < τ 0 1 ∧ σ 46 k = (w k : Int) ∧ τ 19 k = (w k : Int)) : ∃ σ' τ' : IM, fX1_findCompanies (enc σ) = some (mI 0, enc σ') ∧ (∀ NF, 4096 ≤ NF → ∀ K z z2, mm_lk z (fX7_soonest_L30 (fun m7 => mm_lk z2 (fX7_soonest_L56 K) NF (mI 1) (mm_wr m7 0 33 (mI (-1))))) NF (mI 0) (enc τ) = K (enc τ')) ∧ RX σ' τ' ∧ BR σ' τ' n ∧ τ' 0 33 ≠ -1 := by
  have B := onceX h hn.2 h0 (fun k hk => ⟨(hw k hk).1, (hw k hk).2.1⟩)
  have R0 : ∀ k, k < n → onceF n w σ (34 + k) 0 = 0 := fun k hk => by
    have := (hw k hk).1
    have := h.now
    rw [onceF_row hk hn.2 (by omega)]
    rfl
  obtain ⟨Q, b2, b3⟩ := QL.mk0 h hn h0 h29 hw
  generalize onceF n w σ = σ1 at *
  have q4 := Q.2.1.2.2.1
  have Q1 : QL (ifl σ1 47 0 n (fun _ => 0)) (iw (ifl τ 20 0 6 (fun _ => 0)) 0 33 (-1)) n w := Q.cong (fun a b hh => ifl_ne (by unfold keepX at hh; omega)) (fun a b hh => by rw [iw_ne (by unfold keepM at hh; omega), ifl_ne (by unfold keepM at hh; omega)])
  obtain ⟨fl, hfl, hE⟩ := coEnds hn
  obtain ⟨σ', τ', i1, i2, i3, i4, i5⟩ := coLoop (n := n) (w := w) fl 0 0 (ifl σ1 47 0 n (fun _ => 0)) (iw (ifl τ 20 0 6 (fun _ => 0)) 0 33 (-1)) hE (by omega) Q1 (fun k hk => by
    rw [ifl_ne (by omega)]
    exact R0 k hk) (fun k hk => by
    rw [ifl_in (by omega) hk, iw_ne (by omega), ifl_in (by omega) (by omega), dg_0]
    exact ⟨rfl, rfl⟩) (Or.inl ⟨by rw [iw_eq rfl rfl], by rw [ifl_ne (by omega)]; exact b2, by rw [ifl_ne (by omega)]; exact b3⟩)
  have ZM := fun K z NF (hNF : 6 < NF) => zfM_L (K := K) (z := z) 6 0 NF τ (by omega) hNF
  rw [cast0] at ZM
  rw [cast0] at i4
  refine ⟨σ', τ', findX hn.2 hfl B q4 i4, fun NF hNF K z z2 => ?_, i1.1, i2, i3⟩
  rw [ZM _ _ NF (by omega), enc_wr]
  exact i5 NF (by omega) K z2
