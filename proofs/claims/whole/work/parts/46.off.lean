/-- those whose flag stands come over, in the reference -/
def offC (t tr : Int) (y : Nat → Int) (a : Nat) : Int := if y 17 = 1 then comeC t tr y a else y a
theorem offM_L {K : Mm → Aa} {z : Int32 → Mm → Aa} {m : Nat} {t : Int} (hm : m ≤ 10) (ht : 0 ≤ t ∧ t ≤ 1000) : ∀ (d i N : Nat) (τ : IM), i + d = m → d < N → τ 0 1 = (m : Int) → (∀ p, i ≤ p → p < m → CB (fun a => τ a p) (fun j => τ 1 (7 * p + j)) ∧ 0 ≤ τ 17 p ∧ τ 17 p ≤ 1) → mm_lk z (fX7_stepOff_L237 (mI t) K) N (mI i) (enc τ) = K (enc (eachM τ i m (fun p => offC t (τ 1 (7 * p + 4)) (fun a => τ a p))))
  | d, i, 0, τ, _, h, _, _ => absurd h (Nat.not_lt_zero d)
  | 0, i, N + 1, τ, h, _, hs, _ => by
    have e : i = m := by omega
    subst e
    rw [mm_lk_s, fX7_stepOff_L237, eachM_nil]
    simp (implicitDefEqProofs := false) (maxSteps := 1000000) (disch := omega) only [hs, ↓mm_lt_s, ↓cl_in, ↓cl_wi, ↓cl_has, ↓cl_isP, mL_le, lit_n, litL_n, mL_mI, mL_neg, mm_cl_s, mI_lt, mI_le, mI_eq, enc_at, enc_wr, enc_cp, mI_neg, mI_add, mI_sub, mI_mul, mI_ix, mm_ck_ok, mm_nz_ok, mm_bo_c, mm_bo_m0, mm_bo_m1, b01, Int.toNat_natCast, Int.reduceToNat, Int.reduceNeg, Int.reduceSub, Int.reduceAdd, Int.reduceMul, Int.reduceLT, Int.reduceLE, Int.reduceEq, ↓reduceIte, not_true, not_false_eq_true, not_true_eq_false, and_self, true_and, and_true, false_and, and_false, Decidable.not_not, stv1, stv2, stv3, stv4]
    repeat (first | rw [if_pos (by omega)] | rw [if_neg (by omega)])
  | d + 1, i, N + 1, τ, h, h2, hs, hW => by
    obtain ⟨⟨w5, w6, w9, w10, w12, w14, u0, u2, u3, u4, u5⟩, w17⟩ := hW i (by omega) (by omega)
    dsimp only at *
    have c1 : ¬ (m : Int) ≤ (i : Int) := by omega
    have fin : ∀ τ1 : IM, (∀ a, 5 ≤ a → a ≤ 17 → τ1 a i = offC t (τ 1 (7 * i + 4)) (fun a => τ a i) a) → (∀ a b, ¬ ((5 ≤ a ∧ a ≤ 17) ∧ b = i) → τ1 a b = τ a b) → mm_lk z (fX7_stepOff_L237 (mI t) K) N (mI ((i + 1 : Nat) : Int)) (enc τ1) = K (enc (eachM τ i m (fun p => offC t (τ 1 (7 * p + 4)) (fun a => τ a p)))) := fun τ1 k1 k2 => by
      have r : ∀ p, p ≠ i → (fun a => τ1 a p) = (fun a => τ a p) := fun p hp => funext fun a => k2 _ _ (by omega)
      have r2 : ∀ j, τ1 1 j = τ 1 j := fun j => k2 _ _ (by omega)
      rw [← eachM_step (g := fun τ p => offC t (τ 1 (7 * p + 4)) (fun a => τ a p)) (by omega) k1 k2 (fun p b hp => by rw [r p hp, r2])]
      exact offM_L hm ht d (i + 1) N τ1 (by omega) (by omega) (by rw [k2 _ _ (by omega)]; exact hs) (fun p hp hp2 => by rw [r p (by omega), funext (fun j => r2 (7 * p + j)), k2 17 p (by omega)]; exact hW p (by omega) hp2)
    rw [mm_lk_s, fX7_stepOff_L237]
    by_cases c2 : τ 17 i = 1
    · obtain ⟨τ1, p1, p2, p3⟩ := comeM (τ := τ) (p := i) (by omega) ht w9 w6 u4
      simp (implicitDefEqProofs := false) (maxSteps := 1000000) (disch := omega) only [hs, c1, eq_true c2, ↓mm_lt_s, ↓cl_in, ↓cl_wi, ↓cl_has, ↓cl_isP, mL_le, lit_n, litL_n, mL_mI, mL_neg, mm_cl_s, mI_lt, mI_le, mI_eq, enc_at, enc_wr, enc_cp, mI_neg, mI_add, mI_sub, mI_mul, mI_ix, mm_ck_ok, mm_nz_ok, mm_bo_c, mm_bo_m0, mm_bo_m1, b01, Int.toNat_natCast, Int.reduceToNat, Int.reduceNeg, Int.reduceSub, Int.reduceAdd, Int.reduceMul, Int.reduceLT, Int.reduceLE, Int.reduceEq, ↓reduceIte, not_true, not_false_eq_true, not_true_eq_false, and_self, true_and, and_true, false_and, and_false, Decidable.not_not, stv1, stv2, stv3, stv4]
      rw [p1]
      simp (implicitDefEqProofs := false) (maxSteps := 1000000) (disch := omega) only [cast_s, ↓mm_lt_s, ↓cl_in, ↓cl_wi, ↓cl_has, ↓cl_isP, mL_le, lit_n, litL_n, mL_mI, mL_neg, mm_cl_s, mI_lt, mI_le, mI_eq, enc_at, enc_wr, enc_cp, mI_neg, mI_add, mI_sub, mI_mul, mI_ix, mm_ck_ok, mm_nz_ok, mm_bo_c, mm_bo_m0, mm_bo_m1, b01, Int.toNat_natCast, Int.reduceToNat, Int.reduceNeg, Int.reduceSub, Int.reduceAdd, Int.reduceMul, Int.reduceLT, Int.reduceLE, Int.reduceEq, ↓reduceIte, not_true, not_false_eq_true, not_true_eq_false, and_self, true_and, and_true, false_and, and_false, Decidable.not_not, stv1, stv2, stv3, stv4]
      refine fin τ1 (fun a h5 h6 => ?_) p3
      rw [p2 a h5 h6]
      unfold offC
      rw [if_pos c2]
    · simp (implicitDefEqProofs := false) (maxSteps := 1000000) (disch := omega) only [hs, c1, c2, cast_s, ↓mm_lt_s, ↓cl_in, ↓cl_wi, ↓cl_has, ↓cl_isP, mL_le, lit_n, litL_n, mL_mI, mL_neg, mm_cl_s, mI_lt, mI_le, mI_eq, enc_at, enc_wr, enc_cp, mI_neg, mI_add, mI_sub, mI_mul, mI_ix, mm_ck_ok, mm_nz_ok, mm_bo_c, mm_bo_m0, mm_bo_m1, b01, Int.toNat_natCast, Int.reduceToNat, Int.reduceNeg, Int.reduceSub, Int.reduceAdd, Int.reduceMul, Int.reduceLT, Int.reduceLE, Int.reduceEq, ↓reduceIte, not_true, not_false_eq_true, not_true_eq_false, and_self, true_and, and_true, false_and, and_false, Decidable.not_not, stv1, stv2, stv3, stv4]
      exact fin τ (fun b _ _ => by unfold offC; dsimp only; rw [if_neg c2]) (fun _ _ _ => rfl)
