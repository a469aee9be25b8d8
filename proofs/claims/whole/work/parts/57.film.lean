theorem filmL {m s f : Nat} {b : Int} (hm : m ≤ 10) (hs : s < 4) (hb : 0 ≤ b ∧ b ≤ 2) : ∀ (d i : Nat) (σ τ : IM), i + d = m → RX σ τ → τ 0 1 = (m : Int) → τ 25 s = b → ((f + m : Nat) : Int) ≤ τ 26 s → (∀ p, p < m → (if 0 ≤ τ 15 p then τ 15 p else 1000) = σ (34 + p) 14 ∧ (-4 ≤ τ 15 p ∧ τ 15 p ≤ 1000) ∧ (0 ≤ σ (34 + p) 14 ∧ σ (34 + p) 14 ≤ 1000)) → ∃ σ' τ' : IM, RX σ' τ' ∧ τ' 0 1 = (m : Int) ∧ (∀ (N : Nat), d < N → ∀ (K : Mm → Aa) (z : Int32 → Mm → Aa), mm_lk z (fX6_film_L48 (mI s) (mI f) K) N (mI i) (enc σ) = K (enc σ')) ∧ (∀ (N : Nat), d < N → ∀ (K : Mm → Aa) (z : Int32 → Mm → Aa), mm_lk z (fX7_film_L38 (mI s) (mI b) (mI f) K) N (mI i) (enc τ) = K (enc τ')) := by
  intro d
  induction d with
  | zero =>
    intro i σ τ h hR h1 h2 h3 ho
    have hx := hR.now.2.1
    refine ⟨σ, τ, hR, h1, fun N hN K z => ?_, fun N hN K z => ?_⟩
    · obtain ⟨N, rfl⟩ : ∃ M, N = M + 1 := ⟨N - 1, by omega⟩
      rw [mm_lk_s, fX6_film_L48]
      simp (implicitDefEqProofs := false) (maxSteps := 1000000) (disch := omega) only [hx, h1, ↓mm_lt_s, ↓cl_in, ↓cl_wi, ↓cl_has, ↓cl_isP, mL_le, lit_n, litL_n, mL_mI, mL_neg, mm_cl_s, mI_lt, mI_le, mI_eq, enc_at, enc_wr, enc_cp, mI_neg, mI_add, mI_sub, mI_mul, mI_ix, mm_ck_ok, mm_nz_ok, mm_bo_c, mm_bo_m0, mm_bo_m1, b01, Int.toNat_natCast, Int.reduceToNat, Int.reduceNeg, Int.reduceSub, Int.reduceAdd, Int.reduceMul, Int.reduceLT, Int.reduceLE, Int.reduceEq, ↓reduceIte, not_true, not_false_eq_true, not_true_eq_false, and_self, true_and, and_true, false_and, and_false, Decidable.not_not, stv1, stv2, stv3, stv4]
      repeat (first | rw [if_pos (by omega)] | rw [if_neg (by omega)])
    · obtain ⟨N, rfl⟩ : ∃ M, N = M + 1 := ⟨N - 1, by omega⟩
      rw [mm_lk_s, fX7_film_L38]
      simp (implicitDefEqProofs := false) (maxSteps := 1000000) (disch := omega) only [h1, ↓mm_lt_s, ↓cl_in, ↓cl_wi, ↓cl_has, ↓cl_isP, mL_le, lit_n, litL_n, mL_mI, mL_neg, mm_cl_s, mI_lt, mI_le, mI_eq, enc_at, enc_wr, enc_cp, mI_neg, mI_add, mI_sub, mI_mul, mI_ix, mm_ck_ok, mm_nz_ok, mm_bo_c, mm_bo_m0, mm_bo_m1, b01, Int.toNat_natCast, Int.reduceToNat, Int.reduceNeg, Int.reduceSub, Int.reduceAdd, Int.reduceMul, Int.reduceLT, Int.reduceLE, Int.reduceEq, ↓reduceIte, not_true, not_false_eq_true, not_true_eq_false, and_self, true_and, and_true, false_and, and_false, Decidable.not_not, stv1, stv2, stv3, stv4]
      repeat (first | rw [if_pos (by omega)] | rw [if_neg (by omega)])
  | succ d ih =>
    intro i σ τ h hR h1 h2 h3 ho
    have hx := hR.now.2.1
    obtain ⟨b1, b2, b3, b4⟩ := hR.2.2.2 s hs
    obtain ⟨⟨d1, d2, d3⟩, d4⟩ := b4 (by omega)
    obtain ⟨o1, o2, o3⟩ := ho i (by omega)
    have hv : I32 (σ (34 + i) 14) := ⟨by omega, by omega⟩
    have hR1 := hR.item s (f + i) hs (by omega) (lan b (σ (34 + i) 14)) (lan_rng b _ hv)
    have P := putR hR s (f + i) hs (σ (34 + i) 14) hv (by omega) (by omega)
    rw [h2] at P
    obtain ⟨σ', τ', k1, k2, k3, k4⟩ := ih (i + 1) _ _ (by omega) hR1 (by rw [iw_ne (by omega)]; exact h1) (by rw [iw_ne (by omega)]; exact h2) (by rw [iw_ne (by omega)]; exact h3) (fun p hp => by rw [iw_ne (by omega), iw_ne (by omega)]; exact ho p hp)
    have c1 : ¬ (m : Int) ≤ (i : Int) := by omega
    have e1 : (f : Int) + (i : Int) = ((f + i : Nat) : Int) := by omega
    have e2 : (24 * (s : Int) + (f : Int) + (i : Int)).toNat = 24 * s + (f + i) := by omega
    refine ⟨σ', τ', k1, k2, fun N hN K z => ?_, fun N hN K z => ?_⟩
    · obtain ⟨N, rfl⟩ : ∃ M, N = M + 1 := ⟨N - 1, by omega⟩
      rw [← k3 N (by omega) K z, mm_lk_s, fX6_film_L48]
      simp (implicitDefEqProofs := false) (maxSteps := 1000000) (disch := omega) only [hx, h1, c1, e1, ↓mm_lt_s, ↓cl_in, ↓cl_wi, ↓cl_has, ↓cl_isP, mL_le, lit_n, litL_n, mL_mI, mL_neg, mm_cl_s, mI_lt, mI_le, mI_eq, enc_at, enc_wr, enc_cp, mI_neg, mI_add, mI_sub, mI_mul, mI_ix, mm_ck_ok, mm_nz_ok, mm_bo_c, mm_bo_m0, mm_bo_m1, b01, Int.toNat_natCast, Int.reduceToNat, Int.reduceNeg, Int.reduceSub, Int.reduceAdd, Int.reduceMul, Int.reduceLT, Int.reduceLE, Int.reduceEq, ↓reduceIte, not_true, not_false_eq_true, not_true_eq_false, and_self, true_and, and_true, false_and, and_false, Decidable.not_not, stv1, stv2, stv3, stv4]
      rw [P]
      simp (implicitDefEqProofs := false) (maxSteps := 1000000) (disch := omega) only [cast_s, ↓mm_lt_s, ↓cl_in, ↓cl_wi, ↓cl_has, ↓cl_isP, mL_le, lit_n, litL_n, mL_mI, mL_neg, mm_cl_s, mI_lt, mI_le, mI_eq, enc_at, enc_wr, enc_cp, mI_neg, mI_add, mI_sub, mI_mul, mI_ix, mm_ck_ok, mm_nz_ok, mm_bo_c, mm_bo_m0, mm_bo_m1, b01, Int.toNat_natCast, Int.reduceToNat, Int.reduceNeg, Int.reduceSub, Int.reduceAdd, Int.reduceMul, Int.reduceLT, Int.reduceLE, Int.reduceEq, ↓reduceIte, not_true, not_false_eq_true, not_true_eq_false, and_self, true_and, and_true, false_and, and_false, Decidable.not_not, stv1, stv2, stv3, stv4]
    · obtain ⟨N, rfl⟩ : ∃ M, N = M + 1 := ⟨N - 1, by omega⟩
      rw [← k4 N (by omega) K z, mm_lk_s, fX7_film_L38]
      by_cases c : 0 ≤ τ 15 i
      · rw [if_pos c] at o1
        have L := asLane_s b (σ (34 + i) 14) ⟨by omega, by omega⟩ (enc τ)
        simp (implicitDefEqProofs := false) (maxSteps := 1000000) (disch := omega) only [h1, c1, o1, o3.1, ↓mm_lt_s, ↓cl_in, ↓cl_wi, ↓cl_has, ↓cl_isP, mL_le, lit_n, litL_n, mL_mI, mL_neg, mm_cl_s, mI_lt, mI_le, mI_eq, enc_at, enc_wr, enc_cp, mI_neg, mI_add, mI_sub, mI_mul, mI_ix, mm_ck_ok, mm_nz_ok, mm_bo_c, mm_bo_m0, mm_bo_m1, b01, Int.toNat_natCast, Int.reduceToNat, Int.reduceNeg, Int.reduceSub, Int.reduceAdd, Int.reduceMul, Int.reduceLT, Int.reduceLE, Int.reduceEq, ↓reduceIte, not_true, not_false_eq_true, not_true_eq_false, and_self, true_and, and_true, false_and, and_false, Decidable.not_not, stv1, stv2, stv3, stv4]
        rw [L]
        simp (implicitDefEqProofs := false) (maxSteps := 1000000) (disch := omega) only [e2, cast_s, ↓mm_lt_s, ↓cl_in, ↓cl_wi, ↓cl_has, ↓cl_isP, mL_le, lit_n, litL_n, mL_mI, mL_neg, mm_cl_s, mI_lt, mI_le, mI_eq, enc_at, enc_wr, enc_cp, mI_neg, mI_add, mI_sub, mI_mul, mI_ix, mm_ck_ok, mm_nz_ok, mm_bo_c, mm_bo_m0, mm_bo_m1, b01, Int.toNat_natCast, Int.reduceToNat, Int.reduceNeg, Int.reduceSub, Int.reduceAdd, Int.reduceMul, Int.reduceLT, Int.reduceLE, Int.reduceEq, ↓reduceIte, not_true, not_false_eq_true, not_true_eq_false, and_self, true_and, and_true, false_and, and_false, Decidable.not_not, stv1, stv2, stv3, stv4]
      · rw [if_neg c] at o1
        have L := asLane_s b 1000 ⟨by omega, by omega⟩ (enc τ)
        rw [← o1]
        simp (implicitDefEqProofs := false) (maxSteps := 1000000) (disch := omega) only [h1, c1, c, ↓mm_lt_s, ↓cl_in, ↓cl_wi, ↓cl_has, ↓cl_isP, mL_le, lit_n, litL_n, mL_mI, mL_neg, mm_cl_s, mI_lt, mI_le, mI_eq, enc_at, enc_wr, enc_cp, mI_neg, mI_add, mI_sub, mI_mul, mI_ix, mm_ck_ok, mm_nz_ok, mm_bo_c, mm_bo_m0, mm_bo_m1, b01, Int.toNat_natCast, Int.reduceToNat, Int.reduceNeg, Int.reduceSub, Int.reduceAdd, Int.reduceMul, Int.reduceLT, Int.reduceLE, Int.reduceEq, ↓reduceIte, not_true, not_false_eq_true, not_true_eq_false, and_self, true_and, and_true, false_and, and_false, Decidable.not_not, stv1, stv2, stv3, stv4]
        rw [L]
        simp (implicitDefEqProofs := false) (maxSteps := 1000000) (disch := omega) only [e2, cast_s, ↓mm_lt_s, ↓cl_in, ↓cl_wi, ↓cl_has, ↓cl_isP, mL_le, lit_n, litL_n, mL_mI, mL_neg, mm_cl_s, mI_lt, mI_le, mI_eq, enc_at, enc_wr, enc_cp, mI_neg, mI_add, mI_sub, mI_mul, mI_ix, mm_ck_ok, mm_nz_ok, mm_bo_c, mm_bo_m0, mm_bo_m1, b01, Int.toNat_natCast, Int.reduceToNat, Int.reduceNeg, Int.reduceSub, Int.reduceAdd, Int.reduceMul, Int.reduceLT, Int.reduceLE, Int.reduceEq, ↓reduceIte, not_true, not_false_eq_true, not_true_eq_false, and_self, true_and, and_true, false_and, and_false, Decidable.not_not, stv1, stv2, stv3, stv4]
theorem q_film (a b c : Int) (ha : I32 a) (hb : I32 b) (hc : I32 c) {σ τ : IM} (h : RX σ τ) : Like (fX6_film (mI a) (mI b) (mI c) (enc σ)) (fX7_film (mI a) (mI b) (mI c) (enc τ)) := by
  obtain ⟨⟨n1, n2, n3⟩, n4, n5, n6⟩ := h.now
  obtain ⟨m, hm⟩ := Int.eq_ofNat_of_zero_le n5
  obtain ⟨r, r1, r2, r3, r4, r5⟩ := rr h a b c m ha hb hc (by omega)
  have n4' : σ 1 1 = (m : Int) := by omega
  unfold fX6_film fX7_film
  generalize hfu : mm_fu = NF; have hNF : 4096 ≤ NF := by rw [← hfu]; exact Nat.le_refl _
  simp (implicitDefEqProofs := false) (maxSteps := 1000000) (disch := omega) only [n4', ↓mm_lt_s, ↓cl_in, ↓cl_wi, ↓cl_has, ↓cl_isP, mL_le, lit_n, litL_n, mL_mI, mL_neg, mm_cl_s, mI_lt, mI_le, mI_eq, enc_at, enc_wr, enc_cp, mI_neg, mI_add, mI_sub, mI_mul, mI_ix, mm_ck_ok, mm_nz_ok, mm_bo_c, mm_bo_m0, mm_bo_m1, b01, Int.toNat_natCast, Int.reduceToNat, Int.reduceNeg, Int.reduceSub, Int.reduceAdd, Int.reduceMul, Int.reduceLT, Int.reduceLE, Int.reduceEq, ↓reduceIte, not_true, not_false_eq_true, not_true_eq_false, and_self, true_and, and_true, false_and, and_false, Decidable.not_not, stv1, stv2, stv3, stv4]
  rw [r1, isSheet_s a b ha hb]
  simp (implicitDefEqProofs := false) (maxSteps := 1000000) (disch := omega) only [hm, ↓mm_lt_s, ↓cl_in, ↓cl_wi, ↓cl_has, ↓cl_isP, mL_le, lit_n, litL_n, mL_mI, mL_neg, mm_cl_s, mI_lt, mI_le, mI_eq, enc_at, enc_wr, enc_cp, mI_neg, mI_add, mI_sub, mI_mul, mI_ix, mm_ck_ok, mm_nz_ok, mm_bo_c, mm_bo_m0, mm_bo_m1, b01, Int.toNat_natCast, Int.reduceToNat, Int.reduceNeg, Int.reduceSub, Int.reduceAdd, Int.reduceMul, Int.reduceLT, Int.reduceLE, Int.reduceEq, ↓reduceIte, not_true, not_false_eq_true, not_true_eq_false, and_self, true_and, and_true, false_and, and_false, Decidable.not_not, stv1, stv2, stv3, stv4]
  by_cases c0 : (0 ≤ a ∧ a ≤ 3) ∧ 0 ≤ b ∧ b ≤ 2
  · rw [r4 c0]
    simp (implicitDefEqProofs := false) (maxSteps := 1000000) (disch := omega) only [↓mm_lt_s, ↓cl_in, ↓cl_wi, ↓cl_has, ↓cl_isP, mL_le, lit_n, litL_n, mL_mI, mL_neg, mm_cl_s, mI_lt, mI_le, mI_eq, enc_at, enc_wr, enc_cp, mI_neg, mI_add, mI_sub, mI_mul, mI_ix, mm_ck_ok, mm_nz_ok, mm_bo_c, mm_bo_m0, mm_bo_m1, b01, Int.toNat_natCast, Int.reduceToNat, Int.reduceNeg, Int.reduceSub, Int.reduceAdd, Int.reduceMul, Int.reduceLT, Int.reduceLE, Int.reduceEq, ↓reduceIte, not_true, not_false_eq_true, not_true_eq_false, and_self, true_and, and_true, false_and, and_false, Decidable.not_not, stv1, stv2, stv3, stv4]
    by_cases c1 : r = 0
    · obtain ⟨s, hs, rfl, e1, e2, e3, e4, e5⟩ := r5 c1
      obtain ⟨f, rfl⟩ := Int.eq_ofNat_of_zero_le e4
      obtain ⟨σ', τ', d1, d2, d3, d4, d5, d6, d7, d8, d9⟩ := dayPf (last := 999) h hm (by omega) (by omega)
      have GA := goAll_s d3 d4
      obtain ⟨σ2, τ2, k1, k2, k3, k4⟩ := filmL (m := m) (s := s) (f := f) (b := b) (by omega) hs ⟨e2, e3⟩ m 0 σ' τ' (by omega) d8 d6.1.2.1 (by rw [d9 _ _ ⟨by omega, by omega⟩]; exact e1) (by rw [d9 _ _ ⟨by omega, by omega⟩]; omega) (fun p hp => over_f (by omega) d7 hp)
      have k3' := k3 NF (by omega)
      have k4' := k4 NF (by omega)
      rw [cast0] at k3' k4'
      have x1 : σ2 1 1 = (m : Int) := by rw [k1.now.2.1, k2]
      repeat (first | rw [if_pos (by omega)] | rw [if_neg (by omega)])
      rw [d1, GA]
      simp (implicitDefEqProofs := false) (maxSteps := 1000000) (disch := omega) only [↓mm_lt_s, ↓cl_in, ↓cl_wi, ↓cl_has, ↓cl_isP, mL_le, lit_n, litL_n, mL_mI, mL_neg, mm_cl_s, mI_lt, mI_le, mI_eq, enc_at, enc_wr, enc_cp, mI_neg, mI_add, mI_sub, mI_mul, mI_ix, mm_ck_ok, mm_nz_ok, mm_bo_c, mm_bo_m0, mm_bo_m1, b01, Int.toNat_natCast, Int.reduceToNat, Int.reduceNeg, Int.reduceSub, Int.reduceAdd, Int.reduceMul, Int.reduceLT, Int.reduceLE, Int.reduceEq, ↓reduceIte, not_true, not_false_eq_true, not_true_eq_false, and_self, true_and, and_true, false_and, and_false, Decidable.not_not, stv1, stv2, stv3, stv4]
      rw [d2, k4']
      simp (implicitDefEqProofs := false) (maxSteps := 1000000) (disch := omega) only [↓mm_lt_s, ↓cl_in, ↓cl_wi, ↓cl_has, ↓cl_isP, mL_le, lit_n, litL_n, mL_mI, mL_neg, mm_cl_s, mI_lt, mI_le, mI_eq, enc_at, enc_wr, enc_cp, mI_neg, mI_add, mI_sub, mI_mul, mI_ix, mm_ck_ok, mm_nz_ok, mm_bo_c, mm_bo_m0, mm_bo_m1, b01, Int.toNat_natCast, Int.reduceToNat, Int.reduceNeg, Int.reduceSub, Int.reduceAdd, Int.reduceMul, Int.reduceLT, Int.reduceLE, Int.reduceEq, ↓reduceIte, not_true, not_false_eq_true, not_true_eq_false, and_self, true_and, and_true, false_and, and_false, Decidable.not_not, stv1, stv2, stv3, stv4]
      rw [k3']
      simp (implicitDefEqProofs := false) (maxSteps := 1000000) (disch := omega) only [k2, x1, ↓mm_lt_s, ↓cl_in, ↓cl_wi, ↓cl_has, ↓cl_isP, mL_le, lit_n, litL_n, mL_mI, mL_neg, mm_cl_s, mI_lt, mI_le, mI_eq, enc_at, enc_wr, enc_cp, mI_neg, mI_add, mI_sub, mI_mul, mI_ix, mm_ck_ok, mm_nz_ok, mm_bo_c, mm_bo_m0, mm_bo_m1, b01, Int.toNat_natCast, Int.reduceToNat, Int.reduceNeg, Int.reduceSub, Int.reduceAdd, Int.reduceMul, Int.reduceLT, Int.reduceLE, Int.reduceEq, ↓reduceIte, not_true, not_false_eq_true, not_true_eq_false, and_self, true_and, and_true, false_and, and_false, Decidable.not_not, stv1, stv2, stv3, stv4]
      exact Like.mk rfl rfl k1
    · repeat (first | rw [if_pos (by omega)] | rw [if_neg (by omega)])
      exact Like.mk rfl rfl h
  · have e1 := r3 c0
    subst e1
    repeat (first | rw [if_pos (by omega)] | rw [if_neg (by omega)])
    exact Like.mk rfl rfl h
