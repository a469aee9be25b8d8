/-! days: the class's run -/
theorem minF_ne {t : Int} {m a b : Nat} {σ : IM} (h : ¬ (34 ≤ a ∧ a < 34 + m)) (h2 : ¬ (a = 33 ∧ b < 2)) (h3 : ¬ (a = 30 ∧ (b = 3 ∨ b = 4 ∨ b = 5))) : minF t m σ a b = σ a b := by
  unfold minF
  rw [stF_ne m 0 _ a b (by omega) (by omega), fordF_ne h, offF_ne h h2 (by omega), walkF_ne h, nightF_ne (by omega)]
theorem stF_lo {t : Int} : ∀ (d i : Nat) (σ : IM) (p b : Nat), b < 8 → stF t d i σ (34 + p) b = σ (34 + p) b
  | 0, _, _, _, _, _ => rfl
  | d + 1, i, σ, p, b, hb => by
    unfold stF
    rw [stF_lo d (i + 1) _ p b hb]
    by_cases e : p = i
    · subst e
      rw [stS_i, stR_lo hb]
    · exact stS_ne (by omega) (by omega)
theorem minF_lo {t : Int} {m p b : Nat} {σ : IM} (hp : p < m) (hb : b < 8) : minF t m σ (34 + p) b = σ (34 + p) b := by
  unfold minF
  rw [stF_lo m 0 _ p b hb, fordF_row hp, fordR_lo hb, offF_row hp, offR_lo hb, walkF_row hp]
  unfold wlkR
  split
  · rw [if_neg (by omega), if_neg (by omega), nightF_ne (by omega)]
  · rw [nightF_ne (by omega)]
/-- q quiet minutes, one by one -/
theorem quiet_run {P : Int → IM → Prop} {m : Nat} {last t : Int} {σ : IM} (hl : last ≤ 999) (hs : ∀ t σ, 0 ≤ t → t ≤ last → XI σ m t → P t σ → P (t + 1) (minF t m σ)) (ht : 0 ≤ t ∧ t ≤ last) (hX : XI σ m (t + 1)) (hH : HI σ m) (hI : PI σ m) (hP : P (t + 1) σ) {Q : Int} (hN : t + Q < (t / 240 + 1) * 240) (hq : ∀ p, p < m → 0 < Q → t + Q < nxt t (σ 30 3) (σ (34 + p))) (hQl : t + Q ≤ last) : ∀ q : Nat, (q : Int) ≤ Q → P (t + 1 + q) (passF q m σ) ∧ XI (passF q m σ) m (t + 1 + q) := by
  intro q
  induction q with
  | zero =>
    intro _
    rw [show ((0 : Nat) : Int) = 0 from rfl, passF_0, Int.add_zero]
    exact ⟨hP, hX⟩
  | succ q ih =>
    intro hqQ
    obtain ⟨i1, i2⟩ := ih (by omega)
    have E := quiet_min (m := m) (t := t) (j := q) (σ := σ) (by omega) (by omega) hX.1 hX.2 hH hI (by omega) (fun p hp => by have := hq p hp (by omega); omega)
    have e1 : t + 1 + (q : Int) = t + ((q : Int) + 1) := by omega
    have k1 := hs (t + 1 + q) (passF q m σ) (by omega) (by omega) i2 i1
    have k2 := (minX (m := m) (t := t + 1 + q) (σ := passF q m σ) (by omega) i2).2.1
    rw [e1, E] at k1 k2
    rw [show ((q + 1 : Nat) : Int) = (q : Int) + 1 by omega]
    rw [show t + 1 + ((q : Int) + 1) = t + ((q : Int) + 1) + 1 by omega]
    exact ⟨k1, k2⟩
theorem runL {P : Int → IM → Prop} {m : Nat} {last : Int} (hl : last ≤ 999) (hs : ∀ t σ, 0 ≤ t → t ≤ last → XI σ m t → P t σ → P (t + 1) (minF t m σ)) : ∀ (d : Nat) (t : Int) (σ : IM), last + 1 - t ≤ d → 0 ≤ t → t ≤ last + 1 → XI σ m t → P t σ → ∃ σ' : IM, (∀ (N : Nat), d < N → ∀ (K : Mm → Aa) (z : Int32 → Mm → Aa), mm_lk z (fX0_run_L6 (mI last) K) N (mI t) (enc σ) = K (enc σ')) ∧ XI σ' m (last + 1) ∧ P (last + 1) σ' := by
  have fin : ∀ (t : Int) (σ : IM), 0 ≤ t → t = last + 1 → XI σ m t → P t σ → ∃ σ' : IM, (∀ (N : Nat), 0 < N → ∀ (K : Mm → Aa) (z : Int32 → Mm → Aa), mm_lk z (fX0_run_L6 (mI last) K) N (mI t) (enc σ) = K (enc σ')) ∧ XI σ' m (last + 1) ∧ P (last + 1) σ' := fun t σ h0 h1 hX hP => by
    subst h1
    refine ⟨σ, fun N hN K z => ?_, hX, hP⟩
    obtain ⟨N, rfl⟩ : ∃ M, N = M + 1 := ⟨N - 1, by omega⟩
    have c : last < last + 1 := by omega
    rw [mm_lk_s, fX0_run_L6]
    simp (implicitDefEqProofs := false) (maxSteps := 1000000) (disch := omega) only [c, ↓mm_lt_s, ↓cl_in, ↓cl_wi, ↓cl_has, ↓cl_isP, mL_le, lit_n, litL_n, mL_mI, mL_neg, mm_cl_s, mI_lt, mI_le, mI_eq, enc_at, enc_wr, enc_cp, mI_neg, mI_add, mI_sub, mI_mul, mI_ix, mm_ck_ok, mm_nz_ok, mm_bo_c, mm_bo_m0, mm_bo_m1, b01, Int.toNat_natCast, Int.reduceToNat, Int.reduceNeg, Int.reduceSub, Int.reduceAdd, Int.reduceMul, Int.reduceLT, Int.reduceLE, Int.reduceEq, ↓reduceIte, not_true, not_false_eq_true, not_true_eq_false, and_self, true_and, and_true, false_and, and_false, Decidable.not_not, stv1, stv2, stv3, stv4]
  intro d
  induction d with
  | zero =>
    intro t σ h h0 h1 hX hP
    exact fin t σ h0 (by omega) hX hP
  | succ d ih =>
    intro t σ h h0 h1 hX hP
    by_cases c : t = last + 1
    · obtain ⟨σ', a1, a2⟩ := fin t σ h0 c hX hP
      exact ⟨σ', fun N hN => a1 N (by omega), a2⟩
    · obtain ⟨⟨E1, E2, E3, E4, E5⟩, M1, M2⟩ := minX (m := m) (t := t) (σ := σ) (by omega) hX
      have M3 := minF_PI (m := m) (t := t) (σ := σ) (by omega) hX
      have MP := hs t σ h0 (by omega) hX hP
      obtain ⟨⟨⟨g1, hm⟩, g3, -⟩, hR⟩ := id M1
      obtain ⟨Q1, Q2, Q3, Q4⟩ := quietX (m := m) (t := t) (σ := minF t m σ) hm (by omega) g1 g3 (fun p hp => (hR p hp).2) M3
      generalize quF t m (minF t m σ) = Q at *
      generalize minF t m σ = σ1 at *
      have key : ∀ q : Nat, (q : Int) = (if last - t < Q then last - t else Q) → ∃ σ' : IM, (∀ (N : Nat), d < N → ∀ (K : Mm → Aa) (z : Int32 → Mm → Aa), mm_lk z (fX0_run_L6 (mI last) K) N (mI (t + q + 1)) (enc (passF q m σ1)) = K (enc σ')) ∧ XI σ' m (last + 1) ∧ P (last + 1) σ' := fun q hq => by
        have hq2 : (q : Int) ≤ Q ∧ t + q ≤ last := by
          rw [hq]
          split <;> omega
        obtain ⟨k1, k2⟩ := quiet_run (P := P) (Q := q) hl hs ⟨h0, by omega⟩ M1 M2 M3 MP (by omega) (fun p hp hpos => by have := Q4 p hp (by omega); omega) hq2.2 q (Int.le_refl _)
        have e1 : t + 1 + (q : Int) = t + q + 1 := by omega
        rw [e1] at k1 k2
        exact ih (t + q + 1) (passF q m σ1) (by omega) (by omega) (by omega) k2 k1
      obtain ⟨q, hq⟩ : ∃ q : Nat, (q : Int) = (if last - t < Q then last - t else Q) := ⟨(if last - t < Q then last - t else Q).toNat, by split <;> omega⟩
      obtain ⟨σ', a1, a2⟩ := key q hq
      refine ⟨σ', fun N hN K z => ?_, a2⟩
      obtain ⟨N, rfl⟩ : ∃ M, N = M + 1 := ⟨N - 1, by omega⟩
      rw [← a1 N (by omega) K z]
      have hq3 : 0 ≤ (q : Int) ∧ (q : Int) ≤ 240 := by
        rw [hq]
        split <;> omega
      have c0 : ¬ last < t := by omega
      have PL := fun (K : Mm → Aa) z NF (h : m < NF) => passL (K := K) (z := z) (m := m) (q := q) hm (by omega) m 0 NF σ1 (by omega) h g1 (fun p _ hp => (hR p hp).2.WB (by omega))
      have pf : each σ1 0 m (passR q σ1) = passF q m σ1 := rfl
      rw [mm_lk_s, fX0_run_L6]
      simp (implicitDefEqProofs := false) (maxSteps := 1000000) (disch := omega) only [c0, ↓mm_lt_s, ↓cl_in, ↓cl_wi, ↓cl_has, ↓cl_isP, mL_le, lit_n, litL_n, mL_mI, mL_neg, mm_cl_s, mI_lt, mI_le, mI_eq, enc_at, enc_wr, enc_cp, mI_neg, mI_add, mI_sub, mI_mul, mI_ix, mm_ck_ok, mm_nz_ok, mm_bo_c, mm_bo_m0, mm_bo_m1, b01, Int.toNat_natCast, Int.reduceToNat, Int.reduceNeg, Int.reduceSub, Int.reduceAdd, Int.reduceMul, Int.reduceLT, Int.reduceLE, Int.reduceEq, ↓reduceIte, not_true, not_false_eq_true, not_true_eq_false, and_self, true_and, and_true, false_and, and_false, Decidable.not_not, stv1, stv2, stv3, stv4]
      rw [E1]
      simp (implicitDefEqProofs := false) (maxSteps := 1000000) (disch := omega) only [↓mm_lt_s, ↓cl_in, ↓cl_wi, ↓cl_has, ↓cl_isP, mL_le, lit_n, litL_n, mL_mI, mL_neg, mm_cl_s, mI_lt, mI_le, mI_eq, enc_at, enc_wr, enc_cp, mI_neg, mI_add, mI_sub, mI_mul, mI_ix, mm_ck_ok, mm_nz_ok, mm_bo_c, mm_bo_m0, mm_bo_m1, b01, Int.toNat_natCast, Int.reduceToNat, Int.reduceNeg, Int.reduceSub, Int.reduceAdd, Int.reduceMul, Int.reduceLT, Int.reduceLE, Int.reduceEq, ↓reduceIte, not_true, not_false_eq_true, not_true_eq_false, and_self, true_and, and_true, false_and, and_false, Decidable.not_not, stv1, stv2, stv3, stv4]
      rw [E2]
      simp (implicitDefEqProofs := false) (maxSteps := 1000000) (disch := omega) only [↓mm_lt_s, ↓cl_in, ↓cl_wi, ↓cl_has, ↓cl_isP, mL_le, lit_n, litL_n, mL_mI, mL_neg, mm_cl_s, mI_lt, mI_le, mI_eq, enc_at, enc_wr, enc_cp, mI_neg, mI_add, mI_sub, mI_mul, mI_ix, mm_ck_ok, mm_nz_ok, mm_bo_c, mm_bo_m0, mm_bo_m1, b01, Int.toNat_natCast, Int.reduceToNat, Int.reduceNeg, Int.reduceSub, Int.reduceAdd, Int.reduceMul, Int.reduceLT, Int.reduceLE, Int.reduceEq, ↓reduceIte, not_true, not_false_eq_true, not_true_eq_false, and_self, true_and, and_true, false_and, and_false, Decidable.not_not, stv1, stv2, stv3, stv4]
      rw [E3]
      simp (implicitDefEqProofs := false) (maxSteps := 1000000) (disch := omega) only [↓mm_lt_s, ↓cl_in, ↓cl_wi, ↓cl_has, ↓cl_isP, mL_le, lit_n, litL_n, mL_mI, mL_neg, mm_cl_s, mI_lt, mI_le, mI_eq, enc_at, enc_wr, enc_cp, mI_neg, mI_add, mI_sub, mI_mul, mI_ix, mm_ck_ok, mm_nz_ok, mm_bo_c, mm_bo_m0, mm_bo_m1, b01, Int.toNat_natCast, Int.reduceToNat, Int.reduceNeg, Int.reduceSub, Int.reduceAdd, Int.reduceMul, Int.reduceLT, Int.reduceLE, Int.reduceEq, ↓reduceIte, not_true, not_false_eq_true, not_true_eq_false, and_self, true_and, and_true, false_and, and_false, Decidable.not_not, stv1, stv2, stv3, stv4]
      rw [E4]
      simp (implicitDefEqProofs := false) (maxSteps := 1000000) (disch := omega) only [↓mm_lt_s, ↓cl_in, ↓cl_wi, ↓cl_has, ↓cl_isP, mL_le, lit_n, litL_n, mL_mI, mL_neg, mm_cl_s, mI_lt, mI_le, mI_eq, enc_at, enc_wr, enc_cp, mI_neg, mI_add, mI_sub, mI_mul, mI_ix, mm_ck_ok, mm_nz_ok, mm_bo_c, mm_bo_m0, mm_bo_m1, b01, Int.toNat_natCast, Int.reduceToNat, Int.reduceNeg, Int.reduceSub, Int.reduceAdd, Int.reduceMul, Int.reduceLT, Int.reduceLE, Int.reduceEq, ↓reduceIte, not_true, not_false_eq_true, not_true_eq_false, and_self, true_and, and_true, false_and, and_false, Decidable.not_not, stv1, stv2, stv3, stv4]
      rw [E5]
      simp (implicitDefEqProofs := false) (maxSteps := 1000000) (disch := omega) only [↓mm_lt_s, ↓cl_in, ↓cl_wi, ↓cl_has, ↓cl_isP, mL_le, lit_n, litL_n, mL_mI, mL_neg, mm_cl_s, mI_lt, mI_le, mI_eq, enc_at, enc_wr, enc_cp, mI_neg, mI_add, mI_sub, mI_mul, mI_ix, mm_ck_ok, mm_nz_ok, mm_bo_c, mm_bo_m0, mm_bo_m1, b01, Int.toNat_natCast, Int.reduceToNat, Int.reduceNeg, Int.reduceSub, Int.reduceAdd, Int.reduceMul, Int.reduceLT, Int.reduceLE, Int.reduceEq, ↓reduceIte, not_true, not_false_eq_true, not_true_eq_false, and_self, true_and, and_true, false_and, and_false, Decidable.not_not, stv1, stv2, stv3, stv4]
      rw [Q1]
      generalize hfu : mm_fu = NF; have hNF : 4096 ≤ NF := by rw [← hfu]; exact Nat.le_refl _
      by_cases cq : last - t < Q
      · rw [if_pos cq] at hq
        simp (implicitDefEqProofs := false) (maxSteps := 1000000) (disch := omega) only [cq, ↓mm_lt_s, ↓cl_in, ↓cl_wi, ↓cl_has, ↓cl_isP, mL_le, lit_n, litL_n, mL_mI, mL_neg, mm_cl_s, mI_lt, mI_le, mI_eq, enc_at, enc_wr, enc_cp, mI_neg, mI_add, mI_sub, mI_mul, mI_ix, mm_ck_ok, mm_nz_ok, mm_bo_c, mm_bo_m0, mm_bo_m1, b01, Int.toNat_natCast, Int.reduceToNat, Int.reduceNeg, Int.reduceSub, Int.reduceAdd, Int.reduceMul, Int.reduceLT, Int.reduceLE, Int.reduceEq, ↓reduceIte, not_true, not_false_eq_true, not_true_eq_false, and_self, true_and, and_true, false_and, and_false, Decidable.not_not, stv1, stv2, stv3, stv4]
        rw [← hq]
        have PL1 := PL (fun m21 => mm_lk z (fX0_run_L6 (mI last) K) N (mI (t + q + 1)) m21) (fun _ _ => none) NF (by omega)
        rw [cast0] at PL1
        exact PL1
      · rw [if_neg cq] at hq
        simp (implicitDefEqProofs := false) (maxSteps := 1000000) (disch := omega) only [cq, ↓mm_lt_s, ↓cl_in, ↓cl_wi, ↓cl_has, ↓cl_isP, mL_le, lit_n, litL_n, mL_mI, mL_neg, mm_cl_s, mI_lt, mI_le, mI_eq, enc_at, enc_wr, enc_cp, mI_neg, mI_add, mI_sub, mI_mul, mI_ix, mm_ck_ok, mm_nz_ok, mm_bo_c, mm_bo_m0, mm_bo_m1, b01, Int.toNat_natCast, Int.reduceToNat, Int.reduceNeg, Int.reduceSub, Int.reduceAdd, Int.reduceMul, Int.reduceLT, Int.reduceLE, Int.reduceEq, ↓reduceIte, not_true, not_false_eq_true, not_true_eq_false, and_self, true_and, and_true, false_and, and_false, Decidable.not_not, stv1, stv2, stv3, stv4]
        rw [← hq]
        have PL1 := PL (fun m21 => mm_lk z (fX0_run_L6 (mI last) K) N (mI (t + q + 1)) m21) (fun _ _ => none) NF (by omega)
        rw [cast0] at PL1
        exact PL1
