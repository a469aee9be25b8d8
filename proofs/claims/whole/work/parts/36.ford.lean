/-- what a row of the class, a column of the reference keep to -/
def RB (x : Nat → Int) : Prop := (0 ≤ x 8 ∧ x 8 ≤ 4) ∧ (0 ≤ x 9 ∧ x 9 ≤ 1) ∧ (0 ≤ x 10 ∧ x 10 ≤ 10) ∧ (0 ≤ x 11 ∧ x 11 ≤ 2000) ∧ (0 ≤ x 15 ∧ x 15 ≤ 1000) ∧ (0 ≤ x 17 ∧ x 17 ≤ 1000) ∧ (1 ≤ x 2 ∧ x 2 ≤ 40) ∧ (0 ≤ x 3 ∧ x 3 ≤ 10) ∧ (0 ≤ x 4 ∧ x 4 ≤ 60)
def CB (y pe : Nat → Int) : Prop := (0 ≤ y 5 ∧ y 5 ≤ 4) ∧ (0 ≤ y 6 ∧ y 6 ≤ 1) ∧ (0 ≤ y 9 ∧ y 9 ≤ 10) ∧ ((y 5 = 1 ∨ y 5 = 3) → 0 ≤ y 10 ∧ y 10 ≤ 2000) ∧ (0 ≤ y 12 ∧ y 12 ≤ 1000) ∧ (0 ≤ y 14 ∧ y 14 ≤ 1000) ∧ (0 ≤ pe 0 ∧ pe 0 ≤ 499) ∧ (0 ≤ pe 2 ∧ pe 2 ≤ 3) ∧ (1 ≤ pe 3 ∧ pe 3 ≤ 20) ∧ (0 ≤ pe 4 ∧ pe 4 ≤ 10) ∧ (0 ≤ pe 5 ∧ pe 5 ≤ 60)
theorem WD.RB {x y pe : Nat → Int} {u w : Int} (hs : WS x pe) (h : WD x y pe u w) (hu : u ≤ 1000) (hw : w ≤ 1000) : RB x := by
  obtain ⟨s1, s2, s3, s4, s5⟩ := hs
  obtain ⟨⟨a1, a2⟩, a3, ⟨a4, a5, a6⟩, ⟨a7, a8, a9, a10⟩, a11⟩ := h
  have a12 : x 15 ≤ y 12 := by split at a6 <;> omega
  refine ⟨?_, ?_, ?_, ?_, ?_, ?_, ?_, ?_, ?_⟩
  · omega
  · omega
  · omega
  · omega
  · omega
  · omega
  · omega
  · omega
  · omega
def fordR (t : Int) (x : Nat → Int) (b : Nat) : Int := if x 8 = 3 ∧ x 11 = t then comeR t (fun b => if b = 15 then x 15 + 1 else x b) b else x b
def fordC (t tr : Int) (y : Nat → Int) (a : Nat) : Int := if y 5 = 3 ∧ y 10 = t then comeC t tr y a else y a
theorem fordX_L {K : Mm → Aa} {z : Int32 → Mm → Aa} {m : Nat} {t : Int} (hm : m ≤ 10) (ht : 0 ≤ t ∧ t ≤ 1000) : ∀ (d i N : Nat) (σ : IM), i + d = m → d < N → σ 30 6 = (m : Int) → (∀ p, i ≤ p → p < m → RB (σ (34 + p))) → mm_lk z (fX0_comeByFord_L2 (mI t) K) N (mI i) (enc σ) = K (enc (each σ i m (fun p => fordR t (σ (34 + p)))))
  | d, i, 0, σ, _, h, _, _ => absurd h (Nat.not_lt_zero d)
  | 0, i, N + 1, σ, h, _, hs, _ => by
    have e : i = m := by omega
    subst e
    rw [mm_lk_s, fX0_comeByFord_L2, each_nil]
    simp (implicitDefEqProofs := false) (maxSteps := 1000000) (disch := omega) only [hs, ↓mm_lt_s, ↓cl_in, ↓cl_wi, ↓cl_has, ↓cl_isP, mL_le, lit_n, litL_n, mL_mI, mL_neg, mm_cl_s, mI_lt, mI_le, mI_eq, enc_at, enc_wr, enc_cp, mI_neg, mI_add, mI_sub, mI_mul, mI_ix, mm_ck_ok, mm_nz_ok, mm_bo_c, mm_bo_m0, mm_bo_m1, b01, Int.toNat_natCast, Int.reduceToNat, Int.reduceNeg, Int.reduceSub, Int.reduceAdd, Int.reduceMul, Int.reduceLT, Int.reduceLE, Int.reduceEq, ↓reduceIte, not_true, not_false_eq_true, not_true_eq_false, and_self, true_and, and_true, false_and, and_false, Decidable.not_not, stv1, stv2, stv3, stv4]
    repeat (first | rw [if_pos (by omega)] | rw [if_neg (by omega)])
  | d + 1, i, N + 1, σ, h, h2, hs, hW => by
    obtain ⟨w8, w9, w10, w11, w15, w17, w2, w3, w4⟩ := hW i (by omega) (by omega)
    have c1 : ¬ (m : Int) ≤ (i : Int) := by omega
    have fin : ∀ σ1 : IM, (∀ b, σ1 (34 + i) b = fordR t (σ (34 + i)) b) → (∀ a b, a ≠ 34 + i → σ1 a b = σ a b) → mm_lk z (fX0_comeByFord_L2 (mI t) K) N (mI ((i + 1 : Nat) : Int)) (enc σ1) = K (enc (each σ i m (fun p => fordR t (σ (34 + p))))) := fun σ1 k1 k2 => by
      have r : ∀ p, p ≠ i → σ1 (34 + p) = σ (34 + p) := fun p hp => funext fun b => k2 _ _ (by omega)
      rw [← each_step (g := fun σ p => fordR t (σ (34 + p))) (by omega) k1 k2 (fun p b hp => by rw [r p hp])]
      exact fordX_L hm ht d (i + 1) N σ1 (by omega) (by omega) (by rw [k2 _ _ (by omega)]; exact hs) (fun p hp hp2 => by rw [r p (by omega)]; exact hW p (by omega) hp2)
    rw [mm_lk_s, fX0_comeByFord_L2]
    by_cases c2 : σ (34 + i) 8 = 3
    · by_cases c3 : σ (34 + i) 11 = t
      · have e1 : ∀ b, b ≠ 15 → iw σ (34 + i) 15 (σ (34 + i) 15 + 1) (34 + i) b = σ (34 + i) b := fun b hb => iw_ne (by omega)
        obtain ⟨σ1, p1, p2, p3⟩ := comeX (σ := iw σ (34 + i) 15 (σ (34 + i) 15 + 1)) (p := i) ht (by rw [e1 _ (by omega)]; exact w10) (by rw [e1 _ (by omega)]; exact w9) (by rw [e1 _ (by omega)]; exact w3) (by rw [e1 _ (by omega)]; exact w4)
        simp (implicitDefEqProofs := false) (maxSteps := 1000000) (disch := omega) only [hs, c1, eq_true c2, eq_true c3, ↓mm_lt_s, ↓cl_in, ↓cl_wi, ↓cl_has, ↓cl_isP, mL_le, lit_n, litL_n, mL_mI, mL_neg, mm_cl_s, mI_lt, mI_le, mI_eq, enc_at, enc_wr, enc_cp, mI_neg, mI_add, mI_sub, mI_mul, mI_ix, mm_ck_ok, mm_nz_ok, mm_bo_c, mm_bo_m0, mm_bo_m1, b01, Int.toNat_natCast, Int.reduceToNat, Int.reduceNeg, Int.reduceSub, Int.reduceAdd, Int.reduceMul, Int.reduceLT, Int.reduceLE, Int.reduceEq, ↓reduceIte, not_true, not_false_eq_true, not_true_eq_false, and_self, true_and, and_true, false_and, and_false, Decidable.not_not, stv1, stv2, stv3, stv4]
        rw [p1]
        simp (implicitDefEqProofs := false) (maxSteps := 1000000) (disch := omega) only [cast_s, ↓mm_lt_s, ↓cl_in, ↓cl_wi, ↓cl_has, ↓cl_isP, mL_le, lit_n, litL_n, mL_mI, mL_neg, mm_cl_s, mI_lt, mI_le, mI_eq, enc_at, enc_wr, enc_cp, mI_neg, mI_add, mI_sub, mI_mul, mI_ix, mm_ck_ok, mm_nz_ok, mm_bo_c, mm_bo_m0, mm_bo_m1, b01, Int.toNat_natCast, Int.reduceToNat, Int.reduceNeg, Int.reduceSub, Int.reduceAdd, Int.reduceMul, Int.reduceLT, Int.reduceLE, Int.reduceEq, ↓reduceIte, not_true, not_false_eq_true, not_true_eq_false, and_self, true_and, and_true, false_and, and_false, Decidable.not_not, stv1, stv2, stv3, stv4]
        refine fin σ1 (fun b => ?_) (fun a b hab => by rw [p3 _ _ hab, iw_ne (by omega)])
        rw [p2]
        unfold fordR
        rw [if_pos ⟨c2, c3⟩]
        congr 1
        funext b
        by_cases c5 : b = 15
        · rw [if_pos c5, c5, iw_eq rfl rfl]
        · rw [if_neg c5, e1 _ c5]
      · simp (implicitDefEqProofs := false) (maxSteps := 1000000) (disch := omega) only [hs, c1, eq_true c2, c3, cast_s, ↓mm_lt_s, ↓cl_in, ↓cl_wi, ↓cl_has, ↓cl_isP, mL_le, lit_n, litL_n, mL_mI, mL_neg, mm_cl_s, mI_lt, mI_le, mI_eq, enc_at, enc_wr, enc_cp, mI_neg, mI_add, mI_sub, mI_mul, mI_ix, mm_ck_ok, mm_nz_ok, mm_bo_c, mm_bo_m0, mm_bo_m1, b01, Int.toNat_natCast, Int.reduceToNat, Int.reduceNeg, Int.reduceSub, Int.reduceAdd, Int.reduceMul, Int.reduceLT, Int.reduceLE, Int.reduceEq, ↓reduceIte, not_true, not_false_eq_true, not_true_eq_false, and_self, true_and, and_true, false_and, and_false, Decidable.not_not, stv1, stv2, stv3, stv4]
        exact fin σ (fun b => by unfold fordR; rw [if_neg (by omega)]) (fun _ _ _ => rfl)
    · simp (implicitDefEqProofs := false) (maxSteps := 1000000) (disch := omega) only [hs, c1, c2, cast_s, ↓mm_lt_s, ↓cl_in, ↓cl_wi, ↓cl_has, ↓cl_isP, mL_le, lit_n, litL_n, mL_mI, mL_neg, mm_cl_s, mI_lt, mI_le, mI_eq, enc_at, enc_wr, enc_cp, mI_neg, mI_add, mI_sub, mI_mul, mI_ix, mm_ck_ok, mm_nz_ok, mm_bo_c, mm_bo_m0, mm_bo_m1, b01, Int.toNat_natCast, Int.reduceToNat, Int.reduceNeg, Int.reduceSub, Int.reduceAdd, Int.reduceMul, Int.reduceLT, Int.reduceLE, Int.reduceEq, ↓reduceIte, not_true, not_false_eq_true, not_true_eq_false, and_self, true_and, and_true, false_and, and_false, Decidable.not_not, stv1, stv2, stv3, stv4]
      exact fin σ (fun b => by unfold fordR; rw [if_neg (by omega)]) (fun _ _ _ => rfl)
theorem fordM_L {K : Mm → Aa} {z : Int32 → Mm → Aa} {m : Nat} {t : Int} (hm : m ≤ 10) (ht : 0 ≤ t ∧ t ≤ 1000) : ∀ (d i N : Nat) (τ : IM), i + d = m → d < N → τ 0 1 = (m : Int) → (∀ p, i ≤ p → p < m → CB (fun a => τ a p) (fun j => τ 1 (7 * p + j))) → mm_lk z (fX7_startAll_L2 (mI t) K) N (mI i) (enc τ) = K (enc (eachM τ i m (fun p => fordC t (τ 1 (7 * p + 4)) (fun a => τ a p))))
  | d, i, 0, τ, _, h, _, _ => absurd h (Nat.not_lt_zero d)
  | 0, i, N + 1, τ, h, _, hs, _ => by
    have e : i = m := by omega
    subst e
    rw [mm_lk_s, fX7_startAll_L2, eachM_nil]
    simp (implicitDefEqProofs := false) (maxSteps := 1000000) (disch := omega) only [hs, ↓mm_lt_s, ↓cl_in, ↓cl_wi, ↓cl_has, ↓cl_isP, mL_le, lit_n, litL_n, mL_mI, mL_neg, mm_cl_s, mI_lt, mI_le, mI_eq, enc_at, enc_wr, enc_cp, mI_neg, mI_add, mI_sub, mI_mul, mI_ix, mm_ck_ok, mm_nz_ok, mm_bo_c, mm_bo_m0, mm_bo_m1, b01, Int.toNat_natCast, Int.reduceToNat, Int.reduceNeg, Int.reduceSub, Int.reduceAdd, Int.reduceMul, Int.reduceLT, Int.reduceLE, Int.reduceEq, ↓reduceIte, not_true, not_false_eq_true, not_true_eq_false, and_self, true_and, and_true, false_and, and_false, Decidable.not_not, stv1, stv2, stv3, stv4]
    repeat (first | rw [if_pos (by omega)] | rw [if_neg (by omega)])
  | d + 1, i, N + 1, τ, h, h2, hs, hW => by
    obtain ⟨w5, w6, w9, w10, w12, w14, u0, u2, u3, u4, u5⟩ := hW i (by omega) (by omega)
    dsimp only at *
    have c1 : ¬ (m : Int) ≤ (i : Int) := by omega
    have fin : ∀ τ1 : IM, (∀ a, 5 ≤ a → a ≤ 17 → τ1 a i = fordC t (τ 1 (7 * i + 4)) (fun a => τ a i) a) → (∀ a b, ¬ ((5 ≤ a ∧ a ≤ 17) ∧ b = i) → τ1 a b = τ a b) → mm_lk z (fX7_startAll_L2 (mI t) K) N (mI ((i + 1 : Nat) : Int)) (enc τ1) = K (enc (eachM τ i m (fun p => fordC t (τ 1 (7 * p + 4)) (fun a => τ a p)))) := fun τ1 k1 k2 => by
      have r : ∀ p, p ≠ i → (fun a => τ1 a p) = (fun a => τ a p) := fun p hp => funext fun a => k2 _ _ (by omega)
      have r2 : ∀ j, τ1 1 j = τ 1 j := fun j => k2 _ _ (by omega)
      rw [← eachM_step (g := fun τ p => fordC t (τ 1 (7 * p + 4)) (fun a => τ a p)) (by omega) k1 k2 (fun p b hp => by rw [r p hp, r2])]
      exact fordM_L hm ht d (i + 1) N τ1 (by omega) (by omega) (by rw [k2 _ _ (by omega)]; exact hs) (fun p hp hp2 => by rw [r p (by omega), funext (fun j => r2 (7 * p + j))]; exact hW p (by omega) hp2)
    rw [mm_lk_s, fX7_startAll_L2]
    by_cases c2 : τ 5 i = 3
    · have w10 := w10 (Or.inr c2)
      by_cases c3 : τ 10 i = t
      · obtain ⟨τ1, p1, p2, p3⟩ := comeM (τ := τ) (p := i) (by omega) ht w9 w6 u4
        simp (implicitDefEqProofs := false) (maxSteps := 1000000) (disch := omega) only [hs, c1, eq_true c2, eq_true c3, ↓mm_lt_s, ↓cl_in, ↓cl_wi, ↓cl_has, ↓cl_isP, mL_le, lit_n, litL_n, mL_mI, mL_neg, mm_cl_s, mI_lt, mI_le, mI_eq, enc_at, enc_wr, enc_cp, mI_neg, mI_add, mI_sub, mI_mul, mI_ix, mm_ck_ok, mm_nz_ok, mm_bo_c, mm_bo_m0, mm_bo_m1, b01, Int.toNat_natCast, Int.reduceToNat, Int.reduceNeg, Int.reduceSub, Int.reduceAdd, Int.reduceMul, Int.reduceLT, Int.reduceLE, Int.reduceEq, ↓reduceIte, not_true, not_false_eq_true, not_true_eq_false, and_self, true_and, and_true, false_and, and_false, Decidable.not_not, stv1, stv2, stv3, stv4]
        rw [p1]
        simp (implicitDefEqProofs := false) (maxSteps := 1000000) (disch := omega) only [cast_s, ↓mm_lt_s, ↓cl_in, ↓cl_wi, ↓cl_has, ↓cl_isP, mL_le, lit_n, litL_n, mL_mI, mL_neg, mm_cl_s, mI_lt, mI_le, mI_eq, enc_at, enc_wr, enc_cp, mI_neg, mI_add, mI_sub, mI_mul, mI_ix, mm_ck_ok, mm_nz_ok, mm_bo_c, mm_bo_m0, mm_bo_m1, b01, Int.toNat_natCast, Int.reduceToNat, Int.reduceNeg, Int.reduceSub, Int.reduceAdd, Int.reduceMul, Int.reduceLT, Int.reduceLE, Int.reduceEq, ↓reduceIte, not_true, not_false_eq_true, not_true_eq_false, and_self, true_and, and_true, false_and, and_false, Decidable.not_not, stv1, stv2, stv3, stv4]
        refine fin τ1 (fun a h5 h6 => ?_) p3
        rw [p2 a h5 h6]
        unfold fordC
        rw [if_pos ⟨c2, c3⟩]
      · simp (implicitDefEqProofs := false) (maxSteps := 1000000) (disch := omega) only [hs, c1, eq_true c2, c3, cast_s, ↓mm_lt_s, ↓cl_in, ↓cl_wi, ↓cl_has, ↓cl_isP, mL_le, lit_n, litL_n, mL_mI, mL_neg, mm_cl_s, mI_lt, mI_le, mI_eq, enc_at, enc_wr, enc_cp, mI_neg, mI_add, mI_sub, mI_mul, mI_ix, mm_ck_ok, mm_nz_ok, mm_bo_c, mm_bo_m0, mm_bo_m1, b01, Int.toNat_natCast, Int.reduceToNat, Int.reduceNeg, Int.reduceSub, Int.reduceAdd, Int.reduceMul, Int.reduceLT, Int.reduceLE, Int.reduceEq, ↓reduceIte, not_true, not_false_eq_true, not_true_eq_false, and_self, true_and, and_true, false_and, and_false, Decidable.not_not, stv1, stv2, stv3, stv4]
        exact fin τ (fun b _ _ => by unfold fordC; dsimp only; rw [if_neg (by omega)]) (fun _ _ _ => rfl)
    · simp (implicitDefEqProofs := false) (maxSteps := 1000000) (disch := omega) only [hs, c1, c2, cast_s, ↓mm_lt_s, ↓cl_in, ↓cl_wi, ↓cl_has, ↓cl_isP, mL_le, lit_n, litL_n, mL_mI, mL_neg, mm_cl_s, mI_lt, mI_le, mI_eq, enc_at, enc_wr, enc_cp, mI_neg, mI_add, mI_sub, mI_mul, mI_ix, mm_ck_ok, mm_nz_ok, mm_bo_c, mm_bo_m0, mm_bo_m1, b01, Int.toNat_natCast, Int.reduceToNat, Int.reduceNeg, Int.reduceSub, Int.reduceAdd, Int.reduceMul, Int.reduceLT, Int.reduceLE, Int.reduceEq, ↓reduceIte, not_true, not_false_eq_true, not_true_eq_false, and_self, true_and, and_true, false_and, and_false, Decidable.not_not, stv1, stv2, stv3, stv4]
      exact fin τ (fun b _ _ => by unfold fordC; dsimp only; rw [if_neg (by omega)]) (fun _ _ _ => rfl)
/-- the ford of a minute, in both -/
theorem WD.ford {x y pe : Nat → Int} {t : Int} (hs : WS x pe) (h : WD x y pe t (t + 1)) (ht : 0 ≤ t ∧ t ≤ 1000) : WD (fordR t x) (fordC t (pe 4) y) pe t (t + 1) := by
  have hs' := hs
  obtain ⟨s1, s2, s3, s4, s5⟩ := hs
  obtain ⟨⟨a1, a2⟩, a3, ⟨a4, a5, a6⟩, ⟨a7, a8, a9, a10⟩, a11⟩ := id h
  by_cases c : x 8 = 3 ∧ x 11 = t
  · have c1 : y 5 = 3 ∧ y 10 = t := by omega
    rw [if_pos c1.1] at a6
    unfold WD fordR fordC
    rw [if_pos c, if_pos c1]
    by_cases d : y 9 + 1 = pe 4
    · have d1 : ¬ x 10 + 1 < x 3 := by omega
      simp (implicitDefEqProofs := false) only [comeR, comeC, if_pos c, if_pos c1, if_pos d, if_neg d1, Nat.reduceEqDiff, Int.reduceEq, ne_eq, not_true_eq_false, not_false_eq_true, true_and, and_true, false_and, and_false, or_false, false_or, false_implies, if_true, if_false, ↓reduceIte]
      omega
    · have d1 : x 10 + 1 < x 3 := by omega
      simp (implicitDefEqProofs := false) only [comeR, comeC, if_pos c, if_pos c1, if_neg d, if_pos d1, Nat.reduceEqDiff, Int.reduceEq, ne_eq, not_true_eq_false, not_false_eq_true, true_and, and_true, false_and, and_false, or_false, false_or, false_implies, if_true, if_false, ↓reduceIte]
      omega
  · have c1 : ¬ (y 5 = 3 ∧ y 10 = t) := by omega
    have e1 : fordR t x = x := funext fun b => by unfold fordR; rw [if_neg c]
    have e2 : fordC t (pe 4) y = y := funext fun a => by unfold fordC; rw [if_neg c1]
    rw [e1, e2]
    exact h
