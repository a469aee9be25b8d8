/-! soonest, order: who is chosen -/
theorem popF_s {s i : Nat} : popF s (i + 1) = popF s i + s / 2 ^ i % 2 := rfl
theorem popF_mono {s : Nat} : ∀ d i, popF s i ≤ popF s (i + d)
  | 0, i => Nat.le_refl _
  | d + 1, i => by
    have := popF_mono (s := s) d (i + 1)
    rw [popF_s] at this
    rw [show i + (d + 1) = i + 1 + d by omega]
    omega
theorem popF_all : ∀ m, m < 11 → ∀ s, s < 2 ^ m → popF s m = popc s := by decide +kernel
theorem popc_pos : ∀ s, s < 1024 → 1 ≤ s → 1 ≤ popc s := by decide +kernel
theorem bitZ_n (s i : Nat) : bitZ (s : Int) i = ((s / 2 ^ i % 2 : Nat) : Int) := by
  unfold bitZ
  rw [Int.toNat_natCast]
theorem chooX_L {m s : Nat} (hm : m ≤ 10) (hs : s < 1024) (h6 : popF s m ≤ 6) : ∀ (d i : Nat) (σ : IM), i + d = m → σ 44 0 = (popF s i : Int) → (∀ q, q < i → s / 2 ^ q % 2 = 1 → σ 46 (popF s q) = (q : Int)) → ∃ σ' : IM, (∀ (N : Nat), d < N → ∀ (K : Mm → Aa) (z : Int32 → Mm → Aa), mm_lk z (fX1_choose_L29 (mI s) (mI m) K) N (mI i) (enc σ) = K (enc σ')) ∧ σ' 44 0 = (popF s m : Int) ∧ (∀ q, q < m → s / 2 ^ q % 2 = 1 → σ' 46 (popF s q) = (q : Int)) ∧ ∀ a b, ¬ (a = 44 ∧ b = 0) → ¬ (a = 46 ∧ b < 6) → σ' a b = σ a b := by
  intro d
  induction d with
  | zero =>
    intro i σ h h0 hq
    have e : i = m := by omega
    subst e
    refine ⟨σ, fun N hN K z => ?_, h0, hq, fun _ _ _ _ => rfl⟩
    obtain ⟨N, rfl⟩ : ∃ M, N = M + 1 := ⟨N - 1, by omega⟩
    rw [mm_lk_s, fX1_choose_L29]
    simp (implicitDefEqProofs := false) (maxSteps := 1000000) (disch := omega) only [↓mm_lt_s, ↓cl_in, ↓cl_wi, ↓cl_has, ↓cl_isP, mL_le, lit_n, litL_n, mL_mI, mL_neg, mm_cl_s, mI_lt, mI_le, mI_eq, enc_at, enc_wr, enc_cp, mI_neg, mI_add, mI_sub, mI_mul, mI_ix, mm_ck_ok, mm_nz_ok, mm_bo_c, mm_bo_m0, mm_bo_m1, b01, Int.toNat_natCast, Int.reduceToNat, Int.reduceNeg, Int.reduceSub, Int.reduceAdd, Int.reduceMul, Int.reduceLT, Int.reduceLE, Int.reduceEq, ↓reduceIte, not_true, not_false_eq_true, not_true_eq_false, and_self, true_and, and_true, false_and, and_false, Decidable.not_not, stv1, stv2, stv3, stv4]
    repeat (first | rw [if_pos (by omega)] | rw [if_neg (by omega)])
  | succ d ih =>
    intro i σ h h0 hq
    have B := bit_i (s := (s : Int)) (i := i) (by omega) (by omega) (by omega)
    rw [bitZ_n] at B
    have p1 := popF_s (s := s) (i := i)
    have p2 := popF_mono (s := s) d (i + 1)
    rw [show i + 1 + d = m by omega] at p2
    have c1 : ¬ (m : Int) ≤ (i : Int) := by omega
    by_cases c6 : popF s i = 6
    · refine ⟨σ, fun N hN K z => ?_, by omega, fun q hq2 hb => ?_, fun _ _ _ _ => rfl⟩
      · obtain ⟨N, rfl⟩ : ∃ M, N = M + 1 := ⟨N - 1, by omega⟩
        have g : (6 : Int) ≤ (popF s i : Int) := by omega
        rw [mm_lk_s, fX1_choose_L29]
        simp (implicitDefEqProofs := false) (maxSteps := 1000000) (disch := omega) only [c1, h0, g, ↓mm_lt_s, ↓cl_in, ↓cl_wi, ↓cl_has, ↓cl_isP, mL_le, lit_n, litL_n, mL_mI, mL_neg, mm_cl_s, mI_lt, mI_le, mI_eq, enc_at, enc_wr, enc_cp, mI_neg, mI_add, mI_sub, mI_mul, mI_ix, mm_ck_ok, mm_nz_ok, mm_bo_c, mm_bo_m0, mm_bo_m1, b01, Int.toNat_natCast, Int.reduceToNat, Int.reduceNeg, Int.reduceSub, Int.reduceAdd, Int.reduceMul, Int.reduceLT, Int.reduceLE, Int.reduceEq, ↓reduceIte, not_true, not_false_eq_true, not_true_eq_false, and_self, true_and, and_true, false_and, and_false, Decidable.not_not, stv1, stv2, stv3, stv4]
      · by_cases c : q < i
        · exact hq q c hb
        · exfalso
          have k1 := popF_mono (s := s) (q - i) i
          have k2 := popF_s (s := s) (i := q)
          have k3 := popF_mono (s := s) (m - (q + 1)) (q + 1)
          rw [show i + (q - i) = q by omega] at k1
          rw [show q + 1 + (m - (q + 1)) = m by omega] at k3
          omega
    · have g : ¬ (6 : Int) ≤ (popF s i : Int) := by omega
      have lt6 : popF s i < 6 := by omega
      by_cases b : s / 2 ^ i % 2 = 1
      · rw [b] at B p1
        rw [show (((1 : Nat) : Int)) = 1 from rfl] at B
        obtain ⟨σ', k1, k2, k3, k4⟩ := ih (i + 1) (iw (iw σ 46 (popF s i) i) 44 0 ((popF s i : Int) + 1)) (by omega) (by rw [iw_eq rfl rfl, p1]; omega) (fun q hq1 hb => by
          rw [iw_ne (by omega)]
          by_cases e : q = i
          · rw [e, iw_eq rfl rfl]
          · rw [iw_ne (fun x => by
              have y1 := popF_s (s := s) (i := q)
              have y2 := popF_mono (s := s) (i - (q + 1)) (q + 1)
              rw [show q + 1 + (i - (q + 1)) = i by omega] at y2
              omega)]
            exact hq q (by omega) hb)
        refine ⟨σ', fun N hN K z => ?_, k2, k3, fun a b h1 h2 => ?_⟩
        · obtain ⟨N, rfl⟩ : ∃ M, N = M + 1 := ⟨N - 1, by omega⟩
          have e1 : iw σ 46 (popF s i) i 44 0 = (popF s i : Int) := by rw [iw_ne (by omega)]; exact h0
          rw [← k1 N (by omega) K z, mm_lk_s, fX1_choose_L29]
          simp (implicitDefEqProofs := false) (maxSteps := 1000000) (disch := omega) only [c1, h0, g, B, e1, cast_s, ↓mm_lt_s, ↓cl_in, ↓cl_wi, ↓cl_has, ↓cl_isP, mL_le, lit_n, litL_n, mL_mI, mL_neg, mm_cl_s, mI_lt, mI_le, mI_eq, enc_at, enc_wr, enc_cp, mI_neg, mI_add, mI_sub, mI_mul, mI_ix, mm_ck_ok, mm_nz_ok, mm_bo_c, mm_bo_m0, mm_bo_m1, b01, Int.toNat_natCast, Int.reduceToNat, Int.reduceNeg, Int.reduceSub, Int.reduceAdd, Int.reduceMul, Int.reduceLT, Int.reduceLE, Int.reduceEq, ↓reduceIte, not_true, not_false_eq_true, not_true_eq_false, and_self, true_and, and_true, false_and, and_false, Decidable.not_not, stv1, stv2, stv3, stv4]
        · rw [k4 a b h1 h2, iw_ne h1, iw_ne (by omega)]
      · have b0 : s / 2 ^ i % 2 = 0 := by omega
        rw [b0] at B p1
        rw [cast0] at B
        obtain ⟨σ', k1, k2, k3, k4⟩ := ih (i + 1) σ (by omega) (by rw [h0, p1]; omega) (fun q hq1 hb => by
          by_cases e : q = i
          · subst e
            omega
          · exact hq q (by omega) hb)
        refine ⟨σ', fun N hN K z => ?_, k2, k3, k4⟩
        obtain ⟨N, rfl⟩ : ∃ M, N = M + 1 := ⟨N - 1, by omega⟩
        rw [← k1 N (by omega) K z, mm_lk_s, fX1_choose_L29]
        simp (implicitDefEqProofs := false) (maxSteps := 1000000) (disch := omega) only [c1, h0, g, B, cast_s, ↓mm_lt_s, ↓cl_in, ↓cl_wi, ↓cl_has, ↓cl_isP, mL_le, lit_n, litL_n, mL_mI, mL_neg, mm_cl_s, mI_lt, mI_le, mI_eq, enc_at, enc_wr, enc_cp, mI_neg, mI_add, mI_sub, mI_mul, mI_ix, mm_ck_ok, mm_nz_ok, mm_bo_c, mm_bo_m0, mm_bo_m1, b01, Int.toNat_natCast, Int.reduceToNat, Int.reduceNeg, Int.reduceSub, Int.reduceAdd, Int.reduceMul, Int.reduceLT, Int.reduceLE, Int.reduceEq, ↓reduceIte, not_true, not_false_eq_true, not_true_eq_false, and_self, true_and, and_true, false_and, and_false, Decidable.not_not, stv1, stv2, stv3, stv4]
/-- the reference takes any set -/
theorem takM_any {m : Nat} {s : Int32} (hm : m ≤ 10) : ∀ (d i : Nat) (τ : IM), i + d = m → τ 0 1 = (m : Int) → (0 ≤ τ 0 29 ∧ τ 0 29 ≤ 6) → ∃ τ' : IM, (∀ (N : Nat), d < N → ∀ (K : Mm → Aa) (z : Int32 → Mm → Aa), mm_lk z (fX7_takeSome_L7 s K) N (mI i) (enc τ) = K (enc τ')) ∧ ∀ a b, ¬ (a = 0 ∧ b = 29) → a ≠ 19 → τ' a b = τ a b := by
  intro d
  induction d with
  | zero =>
    intro i τ h h1 h29
    refine ⟨τ, fun N hN K z => ?_, fun _ _ _ _ => rfl⟩
    obtain ⟨N, rfl⟩ : ∃ M, N = M + 1 := ⟨N - 1, by omega⟩
    rw [mm_lk_s, fX7_takeSome_L7]
    simp (implicitDefEqProofs := false) (maxSteps := 1000000) (disch := omega) only [h1, ↓mm_lt_s, ↓cl_in, ↓cl_wi, ↓cl_has, ↓cl_isP, mL_le, lit_n, litL_n, mL_mI, mL_neg, mm_cl_s, mI_lt, mI_le, mI_eq, enc_at, enc_wr, enc_cp, mI_neg, mI_add, mI_sub, mI_mul, mI_ix, mm_ck_ok, mm_nz_ok, mm_bo_c, mm_bo_m0, mm_bo_m1, b01, Int.toNat_natCast, Int.reduceToNat, Int.reduceNeg, Int.reduceSub, Int.reduceAdd, Int.reduceMul, Int.reduceLT, Int.reduceLE, Int.reduceEq, ↓reduceIte, not_true, not_false_eq_true, not_true_eq_false, and_self, true_and, and_true, false_and, and_false, Decidable.not_not, stv1, stv2, stv3, stv4]
    repeat (first | rw [if_pos (by omega)] | rw [if_neg (by omega)])
  | succ d ih =>
    intro i τ h h1 h29
    have c1 : ¬ (m : Int) ≤ (i : Int) := by omega
    by_cases b : (s >>> (mI (i : Int) &&& mI 31)) &&& mI 1 = mI 1
    · have H : fX7_has s (mI i) (enc τ) = some (mI 1, enc τ) := by
        unfold fX7_has
        simp (implicitDefEqProofs := false) (maxSteps := 1000000) (disch := omega) only [b, ↓mm_lt_s, ↓cl_in, ↓cl_wi, ↓cl_has, ↓cl_isP, mL_le, lit_n, litL_n, mL_mI, mL_neg, mm_cl_s, mI_lt, mI_le, mI_eq, enc_at, enc_wr, enc_cp, mI_neg, mI_add, mI_sub, mI_mul, mI_ix, mm_ck_ok, mm_nz_ok, mm_bo_c, mm_bo_m0, mm_bo_m1, b01, Int.toNat_natCast, Int.reduceToNat, Int.reduceNeg, Int.reduceSub, Int.reduceAdd, Int.reduceMul, Int.reduceLT, Int.reduceLE, Int.reduceEq, ↓reduceIte, not_true, not_false_eq_true, not_true_eq_false, and_self, true_and, and_true, false_and, and_false, Decidable.not_not, stv1, stv2, stv3, stv4]
      by_cases g : 6 ≤ τ 0 29
      · obtain ⟨τ', k1, k2⟩ := ih (i + 1) τ (by omega) h1 h29
        refine ⟨τ', fun N hN K z => ?_, k2⟩
        obtain ⟨N, rfl⟩ : ∃ M, N = M + 1 := ⟨N - 1, by omega⟩
        rw [← k1 N (by omega) K z, mm_lk_s, fX7_takeSome_L7]
        simp (implicitDefEqProofs := false) (maxSteps := 1000000) (disch := omega) only [h1, c1, ↓mm_lt_s, ↓cl_in, ↓cl_wi, ↓cl_has, ↓cl_isP, mL_le, lit_n, litL_n, mL_mI, mL_neg, mm_cl_s, mI_lt, mI_le, mI_eq, enc_at, enc_wr, enc_cp, mI_neg, mI_add, mI_sub, mI_mul, mI_ix, mm_ck_ok, mm_nz_ok, mm_bo_c, mm_bo_m0, mm_bo_m1, b01, Int.toNat_natCast, Int.reduceToNat, Int.reduceNeg, Int.reduceSub, Int.reduceAdd, Int.reduceMul, Int.reduceLT, Int.reduceLE, Int.reduceEq, ↓reduceIte, not_true, not_false_eq_true, not_true_eq_false, and_self, true_and, and_true, false_and, and_false, Decidable.not_not, stv1, stv2, stv3, stv4]
        rw [H]
        simp (implicitDefEqProofs := false) (maxSteps := 1000000) (disch := omega) only [g, cast_s, ↓mm_lt_s, ↓cl_in, ↓cl_wi, ↓cl_has, ↓cl_isP, mL_le, lit_n, litL_n, mL_mI, mL_neg, mm_cl_s, mI_lt, mI_le, mI_eq, enc_at, enc_wr, enc_cp, mI_neg, mI_add, mI_sub, mI_mul, mI_ix, mm_ck_ok, mm_nz_ok, mm_bo_c, mm_bo_m0, mm_bo_m1, b01, Int.toNat_natCast, Int.reduceToNat, Int.reduceNeg, Int.reduceSub, Int.reduceAdd, Int.reduceMul, Int.reduceLT, Int.reduceLE, Int.reduceEq, ↓reduceIte, not_true, not_false_eq_true, not_true_eq_false, and_self, true_and, and_true, false_and, and_false, Decidable.not_not, stv1, stv2, stv3, stv4]
      · obtain ⟨c, hc⟩ := Int.eq_ofNat_of_zero_le h29.1
        obtain ⟨τ', k1, k2⟩ := ih (i + 1) (iw (iw τ 19 c i) 0 29 ((c : Int) + 1)) (by omega) (by rw [iw_ne (by omega), iw_ne (by omega)]; exact h1) (by rw [iw_eq rfl rfl]; omega)
        refine ⟨τ', fun N hN K z => ?_, fun a b h1 h2 => by rw [k2 a b h1 h2, iw_ne h1, iw_ne (by omega)]⟩
        obtain ⟨N, rfl⟩ : ∃ M, N = M + 1 := ⟨N - 1, by omega⟩
        have e1 : iw τ 19 c i 0 29 = (c : Int) := by rw [iw_ne (by omega)]; exact hc
        rw [← k1 N (by omega) K z, mm_lk_s, fX7_takeSome_L7]
        rw [hc] at g
        simp (implicitDefEqProofs := false) (maxSteps := 1000000) (disch := omega) only [h1, c1, ↓mm_lt_s, ↓cl_in, ↓cl_wi, ↓cl_has, ↓cl_isP, mL_le, lit_n, litL_n, mL_mI, mL_neg, mm_cl_s, mI_lt, mI_le, mI_eq, enc_at, enc_wr, enc_cp, mI_neg, mI_add, mI_sub, mI_mul, mI_ix, mm_ck_ok, mm_nz_ok, mm_bo_c, mm_bo_m0, mm_bo_m1, b01, Int.toNat_natCast, Int.reduceToNat, Int.reduceNeg, Int.reduceSub, Int.reduceAdd, Int.reduceMul, Int.reduceLT, Int.reduceLE, Int.reduceEq, ↓reduceIte, not_true, not_false_eq_true, not_true_eq_false, and_self, true_and, and_true, false_and, and_false, Decidable.not_not, stv1, stv2, stv3, stv4]
        rw [H]
        simp (implicitDefEqProofs := false) (maxSteps := 1000000) (disch := omega) only [hc, g, e1, cast_s, ↓mm_lt_s, ↓cl_in, ↓cl_wi, ↓cl_has, ↓cl_isP, mL_le, lit_n, litL_n, mL_mI, mL_neg, mm_cl_s, mI_lt, mI_le, mI_eq, enc_at, enc_wr, enc_cp, mI_neg, mI_add, mI_sub, mI_mul, mI_ix, mm_ck_ok, mm_nz_ok, mm_bo_c, mm_bo_m0, mm_bo_m1, b01, Int.toNat_natCast, Int.reduceToNat, Int.reduceNeg, Int.reduceSub, Int.reduceAdd, Int.reduceMul, Int.reduceLT, Int.reduceLE, Int.reduceEq, ↓reduceIte, not_true, not_false_eq_true, not_true_eq_false, and_self, true_and, and_true, false_and, and_false, Decidable.not_not, stv1, stv2, stv3, stv4]
    · have H : fX7_has s (mI i) (enc τ) = some (mI 0, enc τ) := by
        unfold fX7_has
        simp (implicitDefEqProofs := false) (maxSteps := 1000000) (disch := omega) only [b, ↓mm_lt_s, ↓cl_in, ↓cl_wi, ↓cl_has, ↓cl_isP, mL_le, lit_n, litL_n, mL_mI, mL_neg, mm_cl_s, mI_lt, mI_le, mI_eq, enc_at, enc_wr, enc_cp, mI_neg, mI_add, mI_sub, mI_mul, mI_ix, mm_ck_ok, mm_nz_ok, mm_bo_c, mm_bo_m0, mm_bo_m1, b01, Int.toNat_natCast, Int.reduceToNat, Int.reduceNeg, Int.reduceSub, Int.reduceAdd, Int.reduceMul, Int.reduceLT, Int.reduceLE, Int.reduceEq, ↓reduceIte, not_true, not_false_eq_true, not_true_eq_false, and_self, true_and, and_true, false_and, and_false, Decidable.not_not, stv1, stv2, stv3, stv4]
      obtain ⟨τ', k1, k2⟩ := ih (i + 1) τ (by omega) h1 h29
      refine ⟨τ', fun N hN K z => ?_, k2⟩
      obtain ⟨N, rfl⟩ : ∃ M, N = M + 1 := ⟨N - 1, by omega⟩
      rw [← k1 N (by omega) K z, mm_lk_s, fX7_takeSome_L7]
      simp (implicitDefEqProofs := false) (maxSteps := 1000000) (disch := omega) only [h1, c1, ↓mm_lt_s, ↓cl_in, ↓cl_wi, ↓cl_has, ↓cl_isP, mL_le, lit_n, litL_n, mL_mI, mL_neg, mm_cl_s, mI_lt, mI_le, mI_eq, enc_at, enc_wr, enc_cp, mI_neg, mI_add, mI_sub, mI_mul, mI_ix, mm_ck_ok, mm_nz_ok, mm_bo_c, mm_bo_m0, mm_bo_m1, b01, Int.toNat_natCast, Int.reduceToNat, Int.reduceNeg, Int.reduceSub, Int.reduceAdd, Int.reduceMul, Int.reduceLT, Int.reduceLE, Int.reduceEq, ↓reduceIte, not_true, not_false_eq_true, not_true_eq_false, and_self, true_and, and_true, false_and, and_false, Decidable.not_not, stv1, stv2, stv3, stv4]
      rw [H]
      simp (implicitDefEqProofs := false) (maxSteps := 1000000) (disch := omega) only [cast_s, ↓mm_lt_s, ↓cl_in, ↓cl_wi, ↓cl_has, ↓cl_isP, mL_le, lit_n, litL_n, mL_mI, mL_neg, mm_cl_s, mI_lt, mI_le, mI_eq, enc_at, enc_wr, enc_cp, mI_neg, mI_add, mI_sub, mI_mul, mI_ix, mm_ck_ok, mm_nz_ok, mm_bo_c, mm_bo_m0, mm_bo_m1, b01, Int.toNat_natCast, Int.reduceToNat, Int.reduceNeg, Int.reduceSub, Int.reduceAdd, Int.reduceMul, Int.reduceLT, Int.reduceLE, Int.reduceEq, ↓reduceIte, not_true, not_false_eq_true, not_true_eq_false, and_self, true_and, and_true, false_and, and_false, Decidable.not_not, stv1, stv2, stv3, stv4]
theorem takM_L {m s : Nat} (hm : m ≤ 10) (hs : s < 1024) (h6 : popF s m ≤ 6) : ∀ (d i : Nat) (τ : IM), i + d = m → τ 0 1 = (m : Int) → τ 0 29 = (popF s i : Int) → (∀ q, q < i → s / 2 ^ q % 2 = 1 → τ 19 (popF s q) = (q : Int)) → ∃ τ' : IM, (∀ (N : Nat), d < N → ∀ (K : Mm → Aa) (z : Int32 → Mm → Aa), mm_lk z (fX7_takeSome_L7 (mI s) K) N (mI i) (enc τ) = K (enc τ')) ∧ τ' 0 29 = (popF s m : Int) ∧ (∀ q, q < m → s / 2 ^ q % 2 = 1 → τ' 19 (popF s q) = (q : Int)) ∧ ∀ a b, ¬ (a = 0 ∧ b = 29) → ¬ (a = 19 ∧ b < 6) → τ' a b = τ a b := by
  intro d
  induction d with
  | zero =>
    intro i τ h h1 h0 hq
    have e : i = m := by omega
    subst e
    refine ⟨τ, fun N hN K z => ?_, h0, hq, fun _ _ _ _ => rfl⟩
    obtain ⟨N, rfl⟩ : ∃ M, N = M + 1 := ⟨N - 1, by omega⟩
    rw [mm_lk_s, fX7_takeSome_L7]
    simp (implicitDefEqProofs := false) (maxSteps := 1000000) (disch := omega) only [h1, ↓mm_lt_s, ↓cl_in, ↓cl_wi, ↓cl_has, ↓cl_isP, mL_le, lit_n, litL_n, mL_mI, mL_neg, mm_cl_s, mI_lt, mI_le, mI_eq, enc_at, enc_wr, enc_cp, mI_neg, mI_add, mI_sub, mI_mul, mI_ix, mm_ck_ok, mm_nz_ok, mm_bo_c, mm_bo_m0, mm_bo_m1, b01, Int.toNat_natCast, Int.reduceToNat, Int.reduceNeg, Int.reduceSub, Int.reduceAdd, Int.reduceMul, Int.reduceLT, Int.reduceLE, Int.reduceEq, ↓reduceIte, not_true, not_false_eq_true, not_true_eq_false, and_self, true_and, and_true, false_and, and_false, Decidable.not_not, stv1, stv2, stv3, stv4]
    repeat (first | rw [if_pos (by omega)] | rw [if_neg (by omega)])
  | succ d ih =>
    intro i τ h h1 h0 hq
    have H := has_M (s := (s : Int)) (i := i) (enc τ) (by omega) (by omega) (by omega)
    rw [bitZ_n] at H
    have p1 := popF_s (s := s) (i := i)
    have p2 := popF_mono (s := s) d (i + 1)
    rw [show i + 1 + d = m by omega] at p2
    have c1 : ¬ (m : Int) ≤ (i : Int) := by omega
    by_cases b : s / 2 ^ i % 2 = 1
    · rw [b] at H p1
      rw [show (((1 : Nat) : Int)) = 1 from rfl] at H
      have g : ¬ (6 : Int) ≤ (popF s i : Int) := by omega
      have lt6 : popF s i < 6 := by omega
      obtain ⟨τ', k1, k2, k3, k4⟩ := ih (i + 1) (iw (iw τ 19 (popF s i) i) 0 29 ((popF s i : Int) + 1)) (by omega) (by rw [iw_ne (by omega), iw_ne (by omega)]; exact h1) (by rw [iw_eq rfl rfl, p1]; omega) (fun q hq1 hb => by
        rw [iw_ne (by omega)]
        by_cases e : q = i
        · rw [e, iw_eq rfl rfl]
        · rw [iw_ne (fun x => by
            have y1 := popF_s (s := s) (i := q)
            have y2 := popF_mono (s := s) (i - (q + 1)) (q + 1)
            rw [show q + 1 + (i - (q + 1)) = i by omega] at y2
            omega)]
          exact hq q (by omega) hb)
      refine ⟨τ', fun N hN K z => ?_, k2, k3, fun a b h1 h2 => ?_⟩
      · obtain ⟨N, rfl⟩ : ∃ M, N = M + 1 := ⟨N - 1, by omega⟩
        have e1 : iw τ 19 (popF s i) i 0 29 = (popF s i : Int) := by rw [iw_ne (by omega)]; exact h0
        rw [← k1 N (by omega) K z, mm_lk_s, fX7_takeSome_L7]
        simp (implicitDefEqProofs := false) (maxSteps := 1000000) (disch := omega) only [h1, c1, ↓mm_lt_s, ↓cl_in, ↓cl_wi, ↓cl_has, ↓cl_isP, mL_le, lit_n, litL_n, mL_mI, mL_neg, mm_cl_s, mI_lt, mI_le, mI_eq, enc_at, enc_wr, enc_cp, mI_neg, mI_add, mI_sub, mI_mul, mI_ix, mm_ck_ok, mm_nz_ok, mm_bo_c, mm_bo_m0, mm_bo_m1, b01, Int.toNat_natCast, Int.reduceToNat, Int.reduceNeg, Int.reduceSub, Int.reduceAdd, Int.reduceMul, Int.reduceLT, Int.reduceLE, Int.reduceEq, ↓reduceIte, not_true, not_false_eq_true, not_true_eq_false, and_self, true_and, and_true, false_and, and_false, Decidable.not_not, stv1, stv2, stv3, stv4]
        rw [H]
        simp (implicitDefEqProofs := false) (maxSteps := 1000000) (disch := omega) only [h0, g, e1, cast_s, ↓mm_lt_s, ↓cl_in, ↓cl_wi, ↓cl_has, ↓cl_isP, mL_le, lit_n, litL_n, mL_mI, mL_neg, mm_cl_s, mI_lt, mI_le, mI_eq, enc_at, enc_wr, enc_cp, mI_neg, mI_add, mI_sub, mI_mul, mI_ix, mm_ck_ok, mm_nz_ok, mm_bo_c, mm_bo_m0, mm_bo_m1, b01, Int.toNat_natCast, Int.reduceToNat, Int.reduceNeg, Int.reduceSub, Int.reduceAdd, Int.reduceMul, Int.reduceLT, Int.reduceLE, Int.reduceEq, ↓reduceIte, not_true, not_false_eq_true, not_true_eq_false, and_self, true_and, and_true, false_and, and_false, Decidable.not_not, stv1, stv2, stv3, stv4]
      · rw [k4 a b h1 h2, iw_ne h1, iw_ne (by omega)]
    · have b0 : s / 2 ^ i % 2 = 0 := by omega
      rw [b0] at H p1
      rw [cast0] at H
      obtain ⟨τ', k1, k2, k3, k4⟩ := ih (i + 1) τ (by omega) h1 (by rw [h0, p1]; omega) (fun q hq1 hb => by
        by_cases e : q = i
        · subst e
          omega
        · exact hq q (by omega) hb)
      refine ⟨τ', fun N hN K z => ?_, k2, k3, k4⟩
      obtain ⟨N, rfl⟩ : ∃ M, N = M + 1 := ⟨N - 1, by omega⟩
      rw [← k1 N (by omega) K z, mm_lk_s, fX7_takeSome_L7]
      simp (implicitDefEqProofs := false) (maxSteps := 1000000) (disch := omega) only [h1, c1, ↓mm_lt_s, ↓cl_in, ↓cl_wi, ↓cl_has, ↓cl_isP, mL_le, lit_n, litL_n, mL_mI, mL_neg, mm_cl_s, mI_lt, mI_le, mI_eq, enc_at, enc_wr, enc_cp, mI_neg, mI_add, mI_sub, mI_mul, mI_ix, mm_ck_ok, mm_nz_ok, mm_bo_c, mm_bo_m0, mm_bo_m1, b01, Int.toNat_natCast, Int.reduceToNat, Int.reduceNeg, Int.reduceSub, Int.reduceAdd, Int.reduceMul, Int.reduceLT, Int.reduceLE, Int.reduceEq, ↓reduceIte, not_true, not_false_eq_true, not_true_eq_false, and_self, true_and, and_true, false_and, and_false, Decidable.not_not, stv1, stv2, stv3, stv4]
      rw [H]
      simp (implicitDefEqProofs := false) (maxSteps := 1000000) (disch := omega) only [cast_s, ↓mm_lt_s, ↓cl_in, ↓cl_wi, ↓cl_has, ↓cl_isP, mL_le, lit_n, litL_n, mL_mI, mL_neg, mm_cl_s, mI_lt, mI_le, mI_eq, enc_at, enc_wr, enc_cp, mI_neg, mI_add, mI_sub, mI_mul, mI_ix, mm_ck_ok, mm_nz_ok, mm_bo_c, mm_bo_m0, mm_bo_m1, b01, Int.toNat_natCast, Int.reduceToNat, Int.reduceNeg, Int.reduceSub, Int.reduceAdd, Int.reduceMul, Int.reduceLT, Int.reduceLE, Int.reduceEq, ↓reduceIte, not_true, not_false_eq_true, not_true_eq_false, and_self, true_and, and_true, false_and, and_false, Decidable.not_not, stv1, stv2, stv3, stv4]
/-- each place has its person -/
theorem popF_sur {s : Nat} : ∀ m k, k < popF s m → ∃ q, q < m ∧ s / 2 ^ q % 2 = 1 ∧ popF s q = k
  | 0, k, h => absurd h (Nat.not_lt_zero k)
  | m + 1, k, h => by
    rw [popF_s] at h
    by_cases c : k < popF s m
    · obtain ⟨q, h1, h2⟩ := popF_sur m k c
      exact ⟨q, by omega, h2⟩
    · exact ⟨m, by omega, by omega, by omega⟩
/-- both choose alike -/
theorem chooR {σ τ : IM} {s : Int} (hs : I32 s) (h : RX σ τ) : (fX1_choose (mI s) (enc σ 1 1) (enc σ) = some (mI 0, enc σ) ∧ ∃ τ' : IM, fX7_takeSome (mI s) (enc τ) = some (mI 0, enc τ') ∧ RX σ τ') ∨ ∃ (σ' τ' : IM) (n : Nat) (w : Nat → Nat), (1 ≤ n ∧ n ≤ 6) ∧ fX1_choose (mI s) (enc σ 1 1) (enc σ) = some (mI 1, enc σ') ∧ fX7_takeSome (mI s) (enc τ) = some (mI 1, enc τ') ∧ RX σ' τ' ∧ σ' 44 0 = (n : Int) ∧ τ' 0 29 = (n : Int) ∧ ∀ k, k < n → ((w k : Nat) : Int) < τ' 0 1 ∧ σ' 46 k = (w k : Int) ∧ τ' 19 k = (w k : Int) := by
  obtain ⟨⟨n1, n2, n3⟩, n4, n5, n6⟩ := h.now
  obtain ⟨m, hm⟩ := Int.eq_ofNat_of_zero_le n5
  have hm10 : m ≤ 10 := by omega
  have n4' : σ 1 1 = (m : Int) := by omega
  have le : 2 ^ m ≤ 2 ^ 10 := Nat.pow_le_pow_right (by decide) hm10
  have pos : 0 < 2 ^ m := Nat.pow_pos (by decide)
  have sh : (mI 1 <<< (mI (m : Int) &&& mI 31)) = mI ((2 ^ m : Nat) : Int) := by
    have key : ∀ k, k < 11 → (mI 1 <<< (mI ((k : Nat) : Int) &&& mI 31)) = mI ((2 ^ k : Nat) : Int) := by decide +kernel
    exact key m (by omega)
  have t29 : iw τ 0 29 0 0 1 = (m : Int) := by rw [iw_ne (by omega)]; exact hm
  have RXa : ∀ τ' : IM, (∀ a b, ¬ (a = 0 ∧ b = 29) → a ≠ 19 → τ' a b = iw τ 0 29 0 a b) → RX σ τ' := fun τ' hf => h.cong (fun _ _ _ => rfl) (fun k j hk => by
    unfold keepM at hk
    rw [hf k j (by omega) (by omega), iw_ne (by omega)])
  obtain ⟨τa, A1, A2⟩ := takM_any (m := m) (s := mI s) hm10 m 0 (iw τ 0 29 0) (by omega) t29 (by rw [iw_eq rfl rfl]; omega)
  have ta1 : τa 0 1 = (m : Int) := by rw [A2 _ _ (by omega) (by omega)]; exact t29
  have le' : ((2 ^ m : Nat) : Int) ≤ 1024 := by omega
  have pos' : 1 ≤ ((2 ^ m : Nat) : Int) := by omega
  by_cases c0 : 1 ≤ s ∧ s < ((2 ^ m : Nat) : Int)
  · obtain ⟨S, rfl⟩ := Int.eq_ofNat_of_zero_le (show 0 ≤ s by omega)
    have s10 : S < 1024 := by omega
    have BS := bc_s s10
    have OS := onesM s10
    have PA := popF_all m (by omega) S (by omega)
    have pp := popc_pos S s10 (by omega)
    have pl := popc_le S
    have x0 : ¬ (S : Int) ≤ 0 := by omega
    have x1 : ¬ ((2 ^ m : Nat) : Int) ≤ (S : Int) := by omega
    by_cases c6 : popc S ≤ 6
    · obtain ⟨σ', k1, k2, k3, k4⟩ := chooX_L (m := m) (s := S) hm10 s10 (by omega) m 0 (iw σ 44 0 0) (by omega) (by rw [iw_eq rfl rfl]; rfl) (fun q hq => by omega)
      obtain ⟨τ', j1, j2, j3, j4⟩ := takM_L (m := m) (s := S) hm10 s10 (by omega) m 0 (iw τ 0 29 0) (by omega) t29 (by rw [iw_eq rfl rfl]; rfl) (fun q hq => by omega)
      have tt : τ' 0 1 = (m : Int) := by rw [j4 _ _ (by omega) (by omega)]; exact t29
      have R : RX σ' τ' := h.cong (fun k j hk => by
        unfold keepX at hk
        rw [k4 k j (by omega) (by omega), iw_ne (by omega)]) (fun k j hk => by
        unfold keepM at hk
        rw [j4 k j (by omega) (by omega), iw_ne (by omega)])
      have sur : ∀ k, k < popc S → ∃ q : Nat, q < m ∧ σ' 46 k = (q : Int) ∧ τ' 19 k = (q : Int) := fun k hk => by
        obtain ⟨q, q1, q2, q3⟩ := popF_sur (s := S) m k (by omega)
        subst q3
        exact ⟨q, q1, k3 q q1 q2, j3 q q1 q2⟩
      refine Or.inr ⟨σ', τ', popc S, fun k => (σ' 46 k).toNat, ⟨pp, c6⟩, ?_, ?_, R, by rw [k2, PA], by rw [j2, PA], fun k hk => ?_⟩
      · have g6 : (popc S : Int) ≤ 6 := by omega
        generalize hK : ((2 ^ m : Nat) : Int) = tm at *
        unfold fX1_choose
        generalize hfu : mm_fu = NF; have hNF : 4096 ≤ NF := by rw [← hfu]; exact Nat.le_refl _
        simp (implicitDefEqProofs := false) (maxSteps := 1000000) (disch := omega) only [n4', x0, sh, x1, ↓mm_lt_s, ↓cl_in, ↓cl_wi, ↓cl_has, ↓cl_isP, mL_le, lit_n, litL_n, mL_mI, mL_neg, mm_cl_s, mI_lt, mI_le, mI_eq, enc_at, enc_wr, enc_cp, mI_neg, mI_add, mI_sub, mI_mul, mI_ix, mm_ck_ok, mm_nz_ok, mm_bo_c, mm_bo_m0, mm_bo_m1, b01, Int.toNat_natCast, Int.reduceToNat, Int.reduceNeg, Int.reduceSub, Int.reduceAdd, Int.reduceMul, Int.reduceLT, Int.reduceLE, Int.reduceEq, ↓reduceIte, not_true, not_false_eq_true, not_true_eq_false, and_self, true_and, and_true, false_and, and_false, Decidable.not_not, stv1, stv2, stv3, stv4]
        rw [BS]
        simp (implicitDefEqProofs := false) (maxSteps := 1000000) (disch := omega) only [g6, ↓mm_lt_s, ↓cl_in, ↓cl_wi, ↓cl_has, ↓cl_isP, mL_le, lit_n, litL_n, mL_mI, mL_neg, mm_cl_s, mI_lt, mI_le, mI_eq, enc_at, enc_wr, enc_cp, mI_neg, mI_add, mI_sub, mI_mul, mI_ix, mm_ck_ok, mm_nz_ok, mm_bo_c, mm_bo_m0, mm_bo_m1, b01, Int.toNat_natCast, Int.reduceToNat, Int.reduceNeg, Int.reduceSub, Int.reduceAdd, Int.reduceMul, Int.reduceLT, Int.reduceLE, Int.reduceEq, ↓reduceIte, not_true, not_false_eq_true, not_true_eq_false, and_self, true_and, and_true, false_and, and_false, Decidable.not_not, stv1, stv2, stv3, stv4]
        have E := k1 NF (by omega) (fun m6 => some (mI 1, m6)) (fun _ _ => none)
        rw [cast0] at E
        rw [n4']
        exact E
      · have g6 : ¬ 6 < (popc S : Int) := by omega
        have E := fun K z NF (hNF : m < NF) => j1 NF hNF K z
        rw [cast0] at E
        unfold fX7_takeSome
        generalize hfu : mm_fu = NF; have hNF : 4096 ≤ NF := by rw [← hfu]; exact Nat.le_refl _
        simp (implicitDefEqProofs := false) (maxSteps := 1000000) (disch := omega) only [↓mm_lt_s, ↓cl_in, ↓cl_wi, ↓cl_has, ↓cl_isP, mL_le, lit_n, litL_n, mL_mI, mL_neg, mm_cl_s, mI_lt, mI_le, mI_eq, enc_at, enc_wr, enc_cp, mI_neg, mI_add, mI_sub, mI_mul, mI_ix, mm_ck_ok, mm_nz_ok, mm_bo_c, mm_bo_m0, mm_bo_m1, b01, Int.toNat_natCast, Int.reduceToNat, Int.reduceNeg, Int.reduceSub, Int.reduceAdd, Int.reduceMul, Int.reduceLT, Int.reduceLE, Int.reduceEq, ↓reduceIte, not_true, not_false_eq_true, not_true_eq_false, and_self, true_and, and_true, false_and, and_false, Decidable.not_not, stv1, stv2, stv3, stv4]
        rw [E _ _ NF (by omega)]
        generalize hK : ((2 ^ m : Nat) : Int) = tm at *
        have y1 : (1 : Int) ≤ S := by omega
        have y2 : (S : Int) ≤ tm - 1 := by omega
        simp (implicitDefEqProofs := false) (maxSteps := 1000000) (disch := omega) only [tt, sh, y1, y2, ↓mm_lt_s, ↓cl_in, ↓cl_wi, ↓cl_has, ↓cl_isP, mL_le, lit_n, litL_n, mL_mI, mL_neg, mm_cl_s, mI_lt, mI_le, mI_eq, enc_at, enc_wr, enc_cp, mI_neg, mI_add, mI_sub, mI_mul, mI_ix, mm_ck_ok, mm_nz_ok, mm_bo_c, mm_bo_m0, mm_bo_m1, b01, Int.toNat_natCast, Int.reduceToNat, Int.reduceNeg, Int.reduceSub, Int.reduceAdd, Int.reduceMul, Int.reduceLT, Int.reduceLE, Int.reduceEq, ↓reduceIte, not_true, not_false_eq_true, not_true_eq_false, and_self, true_and, and_true, false_and, and_false, Decidable.not_not, stv1, stv2, stv3, stv4]
        rw [OS]
        simp (implicitDefEqProofs := false) (maxSteps := 1000000) (disch := omega) only [g6, ↓mm_lt_s, ↓cl_in, ↓cl_wi, ↓cl_has, ↓cl_isP, mL_le, lit_n, litL_n, mL_mI, mL_neg, mm_cl_s, mI_lt, mI_le, mI_eq, enc_at, enc_wr, enc_cp, mI_neg, mI_add, mI_sub, mI_mul, mI_ix, mm_ck_ok, mm_nz_ok, mm_bo_c, mm_bo_m0, mm_bo_m1, b01, Int.toNat_natCast, Int.reduceToNat, Int.reduceNeg, Int.reduceSub, Int.reduceAdd, Int.reduceMul, Int.reduceLT, Int.reduceLE, Int.reduceEq, ↓reduceIte, not_true, not_false_eq_true, not_true_eq_false, and_self, true_and, and_true, false_and, and_false, Decidable.not_not, stv1, stv2, stv3, stv4]
      · obtain ⟨q, q1, q2, q3⟩ := sur k hk
        dsimp only
        rw [q2, q3, tt, Int.toNat_natCast]
        exact ⟨by omega, rfl, rfl⟩
    · have g6 : ¬ (popc S : Int) ≤ 6 := by omega
      refine Or.inl ⟨?_, τa, ?_, RXa τa A2⟩
      · generalize hK : ((2 ^ m : Nat) : Int) = tm at *
        unfold fX1_choose
        simp (implicitDefEqProofs := false) (maxSteps := 1000000) (disch := omega) only [n4', x0, sh, x1, ↓mm_lt_s, ↓cl_in, ↓cl_wi, ↓cl_has, ↓cl_isP, mL_le, lit_n, litL_n, mL_mI, mL_neg, mm_cl_s, mI_lt, mI_le, mI_eq, enc_at, enc_wr, enc_cp, mI_neg, mI_add, mI_sub, mI_mul, mI_ix, mm_ck_ok, mm_nz_ok, mm_bo_c, mm_bo_m0, mm_bo_m1, b01, Int.toNat_natCast, Int.reduceToNat, Int.reduceNeg, Int.reduceSub, Int.reduceAdd, Int.reduceMul, Int.reduceLT, Int.reduceLE, Int.reduceEq, ↓reduceIte, not_true, not_false_eq_true, not_true_eq_false, and_self, true_and, and_true, false_and, and_false, Decidable.not_not, stv1, stv2, stv3, stv4]
        rw [BS]
        simp (implicitDefEqProofs := false) (maxSteps := 1000000) (disch := omega) only [g6, ↓mm_lt_s, ↓cl_in, ↓cl_wi, ↓cl_has, ↓cl_isP, mL_le, lit_n, litL_n, mL_mI, mL_neg, mm_cl_s, mI_lt, mI_le, mI_eq, enc_at, enc_wr, enc_cp, mI_neg, mI_add, mI_sub, mI_mul, mI_ix, mm_ck_ok, mm_nz_ok, mm_bo_c, mm_bo_m0, mm_bo_m1, b01, Int.toNat_natCast, Int.reduceToNat, Int.reduceNeg, Int.reduceSub, Int.reduceAdd, Int.reduceMul, Int.reduceLT, Int.reduceLE, Int.reduceEq, ↓reduceIte, not_true, not_false_eq_true, not_true_eq_false, and_self, true_and, and_true, false_and, and_false, Decidable.not_not, stv1, stv2, stv3, stv4]
      · have g6 : 6 < (popc S : Int) := by omega
        have E := fun K z NF (hNF : m < NF) => A1 NF hNF K z
        rw [cast0] at E
        unfold fX7_takeSome
        generalize hfu : mm_fu = NF; have hNF : 4096 ≤ NF := by rw [← hfu]; exact Nat.le_refl _
        simp (implicitDefEqProofs := false) (maxSteps := 1000000) (disch := omega) only [↓mm_lt_s, ↓cl_in, ↓cl_wi, ↓cl_has, ↓cl_isP, mL_le, lit_n, litL_n, mL_mI, mL_neg, mm_cl_s, mI_lt, mI_le, mI_eq, enc_at, enc_wr, enc_cp, mI_neg, mI_add, mI_sub, mI_mul, mI_ix, mm_ck_ok, mm_nz_ok, mm_bo_c, mm_bo_m0, mm_bo_m1, b01, Int.toNat_natCast, Int.reduceToNat, Int.reduceNeg, Int.reduceSub, Int.reduceAdd, Int.reduceMul, Int.reduceLT, Int.reduceLE, Int.reduceEq, ↓reduceIte, not_true, not_false_eq_true, not_true_eq_false, and_self, true_and, and_true, false_and, and_false, Decidable.not_not, stv1, stv2, stv3, stv4]
        rw [E _ _ NF (by omega)]
        generalize hK : ((2 ^ m : Nat) : Int) = tm at *
        have y1 : (1 : Int) ≤ S := by omega
        have y2 : (S : Int) ≤ tm - 1 := by omega
        simp (implicitDefEqProofs := false) (maxSteps := 1000000) (disch := omega) only [ta1, sh, y1, y2, ↓mm_lt_s, ↓cl_in, ↓cl_wi, ↓cl_has, ↓cl_isP, mL_le, lit_n, litL_n, mL_mI, mL_neg, mm_cl_s, mI_lt, mI_le, mI_eq, enc_at, enc_wr, enc_cp, mI_neg, mI_add, mI_sub, mI_mul, mI_ix, mm_ck_ok, mm_nz_ok, mm_bo_c, mm_bo_m0, mm_bo_m1, b01, Int.toNat_natCast, Int.reduceToNat, Int.reduceNeg, Int.reduceSub, Int.reduceAdd, Int.reduceMul, Int.reduceLT, Int.reduceLE, Int.reduceEq, ↓reduceIte, not_true, not_false_eq_true, not_true_eq_false, and_self, true_and, and_true, false_and, and_false, Decidable.not_not, stv1, stv2, stv3, stv4]
        rw [OS]
        simp (implicitDefEqProofs := false) (maxSteps := 1000000) (disch := omega) only [g6, ↓mm_lt_s, ↓cl_in, ↓cl_wi, ↓cl_has, ↓cl_isP, mL_le, lit_n, litL_n, mL_mI, mL_neg, mm_cl_s, mI_lt, mI_le, mI_eq, enc_at, enc_wr, enc_cp, mI_neg, mI_add, mI_sub, mI_mul, mI_ix, mm_ck_ok, mm_nz_ok, mm_bo_c, mm_bo_m0, mm_bo_m1, b01, Int.toNat_natCast, Int.reduceToNat, Int.reduceNeg, Int.reduceSub, Int.reduceAdd, Int.reduceMul, Int.reduceLT, Int.reduceLE, Int.reduceEq, ↓reduceIte, not_true, not_false_eq_true, not_true_eq_false, and_self, true_and, and_true, false_and, and_false, Decidable.not_not, stv1, stv2, stv3, stv4]
  · refine Or.inl ⟨?_, τa, ?_, RXa τa A2⟩
    · generalize hK : ((2 ^ m : Nat) : Int) = tm at *
      unfold fX1_choose
      by_cases x0 : s ≤ 0
      · simp (implicitDefEqProofs := false) (maxSteps := 1000000) (disch := omega) only [x0, ↓mm_lt_s, ↓cl_in, ↓cl_wi, ↓cl_has, ↓cl_isP, mL_le, lit_n, litL_n, mL_mI, mL_neg, mm_cl_s, mI_lt, mI_le, mI_eq, enc_at, enc_wr, enc_cp, mI_neg, mI_add, mI_sub, mI_mul, mI_ix, mm_ck_ok, mm_nz_ok, mm_bo_c, mm_bo_m0, mm_bo_m1, b01, Int.toNat_natCast, Int.reduceToNat, Int.reduceNeg, Int.reduceSub, Int.reduceAdd, Int.reduceMul, Int.reduceLT, Int.reduceLE, Int.reduceEq, ↓reduceIte, not_true, not_false_eq_true, not_true_eq_false, and_self, true_and, and_true, false_and, and_false, Decidable.not_not, stv1, stv2, stv3, stv4]
      · have x1 : tm ≤ s := by omega
        simp (implicitDefEqProofs := false) (maxSteps := 1000000) (disch := omega) only [n4', x0, sh, x1, ↓mm_lt_s, ↓cl_in, ↓cl_wi, ↓cl_has, ↓cl_isP, mL_le, lit_n, litL_n, mL_mI, mL_neg, mm_cl_s, mI_lt, mI_le, mI_eq, enc_at, enc_wr, enc_cp, mI_neg, mI_add, mI_sub, mI_mul, mI_ix, mm_ck_ok, mm_nz_ok, mm_bo_c, mm_bo_m0, mm_bo_m1, b01, Int.toNat_natCast, Int.reduceToNat, Int.reduceNeg, Int.reduceSub, Int.reduceAdd, Int.reduceMul, Int.reduceLT, Int.reduceLE, Int.reduceEq, ↓reduceIte, not_true, not_false_eq_true, not_true_eq_false, and_self, true_and, and_true, false_and, and_false, Decidable.not_not, stv1, stv2, stv3, stv4]
    · have E := fun K z NF (hNF : m < NF) => A1 NF hNF K z
      rw [cast0] at E
      unfold fX7_takeSome
      generalize hfu : mm_fu = NF; have hNF : 4096 ≤ NF := by rw [← hfu]; exact Nat.le_refl _
      simp (implicitDefEqProofs := false) (maxSteps := 1000000) (disch := omega) only [↓mm_lt_s, ↓cl_in, ↓cl_wi, ↓cl_has, ↓cl_isP, mL_le, lit_n, litL_n, mL_mI, mL_neg, mm_cl_s, mI_lt, mI_le, mI_eq, enc_at, enc_wr, enc_cp, mI_neg, mI_add, mI_sub, mI_mul, mI_ix, mm_ck_ok, mm_nz_ok, mm_bo_c, mm_bo_m0, mm_bo_m1, b01, Int.toNat_natCast, Int.reduceToNat, Int.reduceNeg, Int.reduceSub, Int.reduceAdd, Int.reduceMul, Int.reduceLT, Int.reduceLE, Int.reduceEq, ↓reduceIte, not_true, not_false_eq_true, not_true_eq_false, and_self, true_and, and_true, false_and, and_false, Decidable.not_not, stv1, stv2, stv3, stv4]
      rw [E _ _ NF (by omega)]
      generalize hK : ((2 ^ m : Nat) : Int) = tm at *
      have y : ¬ (1 ≤ s ∧ s ≤ tm - 1) := by omega
      simp (implicitDefEqProofs := false) (maxSteps := 1000000) (disch := omega) only [ta1, sh, y, ↓mm_lt_s, ↓cl_in, ↓cl_wi, ↓cl_has, ↓cl_isP, mL_le, lit_n, litL_n, mL_mI, mL_neg, mm_cl_s, mI_lt, mI_le, mI_eq, enc_at, enc_wr, enc_cp, mI_neg, mI_add, mI_sub, mI_mul, mI_ix, mm_ck_ok, mm_nz_ok, mm_bo_c, mm_bo_m0, mm_bo_m1, b01, Int.toNat_natCast, Int.reduceToNat, Int.reduceNeg, Int.reduceSub, Int.reduceAdd, Int.reduceMul, Int.reduceLT, Int.reduceLE, Int.reduceEq, ↓reduceIte, not_true, not_false_eq_true, not_true_eq_false, and_self, true_and, and_true, false_and, and_false, Decidable.not_not, stv1, stv2, stv3, stv4]
