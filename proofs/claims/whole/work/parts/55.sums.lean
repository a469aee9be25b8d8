/-! days: sums and sets, in both -/
def ovF (f : Nat → Int) : Nat → Nat → Int → Int
  | 0, _, s => s
  | d + 1, i, s => ovF f d (i + 1) (s + f i)
theorem ovF_rng {f : Nat → Int} {B : Int} (hB : 0 ≤ B ∧ B ≤ 1000) : ∀ d i s, (∀ p, i ≤ p → p < i + d → 0 ≤ f p ∧ f p ≤ B) → s ≤ ovF f d i s ∧ ovF f d i s ≤ s + 1000 * d
  | 0, _, s, _ => by
    unfold ovF
    omega
  | d + 1, i, s, h => by
    unfold ovF
    have a := h i (by omega) (by omega)
    have b := ovF_rng hB d (i + 1) (s + f i) (fun p h1 h2 => h p (by omega) (by omega))
    omega
theorem sumX_L {K : Int32 → Mm → Aa} {z : Int32 → Int32 → Mm → Aa} {m : Nat} {f : Nat → Int} {σ : IM} (hm : m ≤ 10) (hs : σ 30 6 = (m : Int)) (hf : ∀ p, p < m → σ (34 + p) 14 = f p ∧ 0 ≤ f p ∧ f p ≤ 1000) : ∀ (d i N : Nat) (s : Int), i + d = m → d < N → (0 ≤ s ∧ s ≤ 1000 * i) → mm_lk z (fX0_sumOfOver_L4 K) N (mI s) (mI i) (enc σ) = K (mI (ovF f d i s)) (enc σ)
  | d, i, 0, s, _, h, _ => absurd h (Nat.not_lt_zero d)
  | 0, i, N + 1, s, h, _, _ => by
    rw [mm_lk_s, fX0_sumOfOver_L4]
    simp (implicitDefEqProofs := false) (maxSteps := 1000000) (disch := omega) only [hs, ↓mm_lt_s, ↓cl_in, ↓cl_wi, ↓cl_has, ↓cl_isP, mL_le, lit_n, litL_n, mL_mI, mL_neg, mm_cl_s, mI_lt, mI_le, mI_eq, enc_at, enc_wr, enc_cp, mI_neg, mI_add, mI_sub, mI_mul, mI_ix, mm_ck_ok, mm_nz_ok, mm_bo_c, mm_bo_m0, mm_bo_m1, b01, Int.toNat_natCast, Int.reduceToNat, Int.reduceNeg, Int.reduceSub, Int.reduceAdd, Int.reduceMul, Int.reduceLT, Int.reduceLE, Int.reduceEq, ↓reduceIte, not_true, not_false_eq_true, not_true_eq_false, and_self, true_and, and_true, false_and, and_false, Decidable.not_not, stv1, stv2, stv3, stv4]
    repeat (first | rw [if_pos (by omega)] | rw [if_neg (by omega)])
    rfl
  | d + 1, i, N + 1, s, h, h2, hn => by
    have c1 : ¬ (m : Int) ≤ (i : Int) := by omega
    obtain ⟨f1, f2⟩ := hf i (by omega)
    have e : ovF f (d + 1) i s = ovF f d (i + 1) (s + f i) := rfl
    rw [e, ← sumX_L (K := K) (z := z) hm hs hf d (i + 1) N (s + f i) (by omega) (by omega) (by omega), mm_lk_s, fX0_sumOfOver_L4]
    simp (implicitDefEqProofs := false) (maxSteps := 1000000) (disch := omega) only [hs, c1, f1, cast_s, ↓mm_lt_s, ↓cl_in, ↓cl_wi, ↓cl_has, ↓cl_isP, mL_le, lit_n, litL_n, mL_mI, mL_neg, mm_cl_s, mI_lt, mI_le, mI_eq, enc_at, enc_wr, enc_cp, mI_neg, mI_add, mI_sub, mI_mul, mI_ix, mm_ck_ok, mm_nz_ok, mm_bo_c, mm_bo_m0, mm_bo_m1, b01, Int.toNat_natCast, Int.reduceToNat, Int.reduceNeg, Int.reduceSub, Int.reduceAdd, Int.reduceMul, Int.reduceLT, Int.reduceLE, Int.reduceEq, ↓reduceIte, not_true, not_false_eq_true, not_true_eq_false, and_self, true_and, and_true, false_and, and_false, Decidable.not_not, stv1, stv2, stv3, stv4]
theorem sumM_L {K : Int32 → Mm → Aa} {z : Int32 → Int32 → Mm → Aa} {m : Nat} {f : Nat → Int} {τ : IM} (hm : m ≤ 10) (hs : τ 0 1 = (m : Int)) (hf : ∀ p, p < m → (if 0 ≤ τ 15 p then τ 15 p else 1000) = f p ∧ (-4 ≤ τ 15 p ∧ τ 15 p ≤ 1000)) : ∀ (d i N : Nat) (s : Int), i + d = m → d < N → (0 ≤ s ∧ s ≤ 1000 * i) → mm_lk z (fX7_sumOver_L4 K) N (mI s) (mI i) (enc τ) = K (mI (ovF f d i s)) (enc τ)
  | d, i, 0, s, _, h, _ => absurd h (Nat.not_lt_zero d)
  | 0, i, N + 1, s, h, _, _ => by
    rw [mm_lk_s, fX7_sumOver_L4]
    simp (implicitDefEqProofs := false) (maxSteps := 1000000) (disch := omega) only [hs, ↓mm_lt_s, ↓cl_in, ↓cl_wi, ↓cl_has, ↓cl_isP, mL_le, lit_n, litL_n, mL_mI, mL_neg, mm_cl_s, mI_lt, mI_le, mI_eq, enc_at, enc_wr, enc_cp, mI_neg, mI_add, mI_sub, mI_mul, mI_ix, mm_ck_ok, mm_nz_ok, mm_bo_c, mm_bo_m0, mm_bo_m1, b01, Int.toNat_natCast, Int.reduceToNat, Int.reduceNeg, Int.reduceSub, Int.reduceAdd, Int.reduceMul, Int.reduceLT, Int.reduceLE, Int.reduceEq, ↓reduceIte, not_true, not_false_eq_true, not_true_eq_false, and_self, true_and, and_true, false_and, and_false, Decidable.not_not, stv1, stv2, stv3, stv4]
    repeat (first | rw [if_pos (by omega)] | rw [if_neg (by omega)])
    rfl
  | d + 1, i, N + 1, s, h, h2, hn => by
    have c1 : ¬ (m : Int) ≤ (i : Int) := by omega
    obtain ⟨f1, f2⟩ := hf i (by omega)
    have f3 : 0 ≤ f i ∧ f i ≤ 1000 := by
      rw [← f1]
      split <;> omega
    have e : ovF f (d + 1) i s = ovF f d (i + 1) (s + f i) := rfl
    rw [e, ← sumM_L (K := K) (z := z) hm hs hf d (i + 1) N (s + f i) (by omega) (by omega) (by omega), mm_lk_s, fX7_sumOver_L4]
    by_cases c : 0 ≤ τ 15 i
    · rw [if_pos c] at f1
      simp (implicitDefEqProofs := false) (maxSteps := 1000000) (disch := omega) only [hs, c1, c, f1, f3.1, cast_s, ↓mm_lt_s, ↓cl_in, ↓cl_wi, ↓cl_has, ↓cl_isP, mL_le, lit_n, litL_n, mL_mI, mL_neg, mm_cl_s, mI_lt, mI_le, mI_eq, enc_at, enc_wr, enc_cp, mI_neg, mI_add, mI_sub, mI_mul, mI_ix, mm_ck_ok, mm_nz_ok, mm_bo_c, mm_bo_m0, mm_bo_m1, b01, Int.toNat_natCast, Int.reduceToNat, Int.reduceNeg, Int.reduceSub, Int.reduceAdd, Int.reduceMul, Int.reduceLT, Int.reduceLE, Int.reduceEq, ↓reduceIte, not_true, not_false_eq_true, not_true_eq_false, and_self, true_and, and_true, false_and, and_false, Decidable.not_not, stv1, stv2, stv3, stv4]
    · rw [if_neg c] at f1
      rw [← f1]
      simp (implicitDefEqProofs := false) (maxSteps := 1000000) (disch := omega) only [hs, c1, c, cast_s, ↓mm_lt_s, ↓cl_in, ↓cl_wi, ↓cl_has, ↓cl_isP, mL_le, lit_n, litL_n, mL_mI, mL_neg, mm_cl_s, mI_lt, mI_le, mI_eq, enc_at, enc_wr, enc_cp, mI_neg, mI_add, mI_sub, mI_mul, mI_ix, mm_ck_ok, mm_nz_ok, mm_bo_c, mm_bo_m0, mm_bo_m1, b01, Int.toNat_natCast, Int.reduceToNat, Int.reduceNeg, Int.reduceSub, Int.reduceAdd, Int.reduceMul, Int.reduceLT, Int.reduceLE, Int.reduceEq, ↓reduceIte, not_true, not_false_eq_true, not_true_eq_false, and_self, true_and, and_true, false_and, and_false, Decidable.not_not, stv1, stv2, stv3, stv4]
/-- when one is over, in both -/
theorem over_f {σ τ : IM} {m p : Nat} {u : Nat → Int} {w : Int} (hw : w ≤ 1000) (hW : DW σ τ m u w) (hp : p < m) : (if 0 ≤ τ 15 p then τ 15 p else 1000) = σ (34 + p) 14 ∧ (-4 ≤ τ 15 p ∧ τ 15 p ≤ 1000) ∧ (0 ≤ σ (34 + p) 14 ∧ σ (34 + p) 14 ≤ 1000) := by
  obtain ⟨-, a3, -⟩ := (hW p hp).2
  dsimp only at a3
  rcases a3 with ⟨b1, b2, b3⟩ | ⟨b1, b2, b3, b4⟩
  · rw [if_neg (by omega)]
    omega
  · rw [if_pos (by omega)]
    omega
def sumO (σ : IM) (m : Nat) : Int := ovF (fun p => σ (34 + p) 14) m 0 0
theorem sumR {σ τ : IM} {m : Nat} {u : Nat → Int} {w : Int} (hw : w ≤ 1000) (hG : DG σ τ m) (hW : DW σ τ m u w) : fX0_sumOfOver (enc σ) = some (mI (sumO σ m), enc σ) ∧ fX7_sumOver (enc τ) = some (mI (sumO σ m), enc τ) ∧ 0 ≤ sumO σ m ∧ sumO σ m ≤ 10000 := by
  obtain ⟨⟨g1, g2, hm⟩, -⟩ := hG
  refine ⟨?_, ?_, ?_⟩
  · unfold fX0_sumOfOver
    generalize hfu : mm_fu = NF; have hNF : 4096 ≤ NF := by rw [← hfu]; exact Nat.le_refl _
    simp (implicitDefEqProofs := false) (maxSteps := 1000000) (disch := omega) only [↓mm_lt_s, ↓cl_in, ↓cl_wi, ↓cl_has, ↓cl_isP, mL_le, lit_n, litL_n, mL_mI, mL_neg, mm_cl_s, mI_lt, mI_le, mI_eq, enc_at, enc_wr, enc_cp, mI_neg, mI_add, mI_sub, mI_mul, mI_ix, mm_ck_ok, mm_nz_ok, mm_bo_c, mm_bo_m0, mm_bo_m1, b01, Int.toNat_natCast, Int.reduceToNat, Int.reduceNeg, Int.reduceSub, Int.reduceAdd, Int.reduceMul, Int.reduceLT, Int.reduceLE, Int.reduceEq, ↓reduceIte, not_true, not_false_eq_true, not_true_eq_false, and_self, true_and, and_true, false_and, and_false, Decidable.not_not, stv1, stv2, stv3, stv4]
    have E := sumX_L (K := fun x3 m4 => some (x3, m4)) (z := fun _ _ _ => none) (f := fun p => σ (34 + p) 14) hm g1 (fun p hp => ⟨rfl, (over_f hw hW hp).2.2⟩) m 0 NF 0 (by omega) (by omega) (by omega)
    rw [cast0] at E
    exact E
  · unfold fX7_sumOver
    generalize hfu : mm_fu = NF; have hNF : 4096 ≤ NF := by rw [← hfu]; exact Nat.le_refl _
    simp (implicitDefEqProofs := false) (maxSteps := 1000000) (disch := omega) only [↓mm_lt_s, ↓cl_in, ↓cl_wi, ↓cl_has, ↓cl_isP, mL_le, lit_n, litL_n, mL_mI, mL_neg, mm_cl_s, mI_lt, mI_le, mI_eq, enc_at, enc_wr, enc_cp, mI_neg, mI_add, mI_sub, mI_mul, mI_ix, mm_ck_ok, mm_nz_ok, mm_bo_c, mm_bo_m0, mm_bo_m1, b01, Int.toNat_natCast, Int.reduceToNat, Int.reduceNeg, Int.reduceSub, Int.reduceAdd, Int.reduceMul, Int.reduceLT, Int.reduceLE, Int.reduceEq, ↓reduceIte, not_true, not_false_eq_true, not_true_eq_false, and_self, true_and, and_true, false_and, and_false, Decidable.not_not, stv1, stv2, stv3, stv4]
    have E := sumM_L (K := fun x3 m4 => some (x3, m4)) (z := fun _ _ _ => none) (f := fun p => σ (34 + p) 14) hm g2 (fun p hp => ⟨(over_f hw hW hp).1, (over_f hw hW hp).2.1⟩) m 0 NF 0 (by omega) (by omega) (by omega)
    rw [cast0] at E
    exact E
  · have := ovF_rng (f := fun p => σ (34 + p) 14) (B := 1000) (by omega) m 0 0 (fun p _ hp => (over_f hw hW (by omega)).2.2)
    unfold sumO
    omega
/-- the last -/
def lsF (f : Nat → Int) : Nat → Nat → Int → Int
  | 0, _, s => s
  | d + 1, i, s => lsF f d (i + 1) (if s < f i then f i else s)
theorem lsF_rng {f : Nat → Int} : ∀ d i s, (0 ≤ s ∧ s ≤ 1000) → (∀ p, i ≤ p → p < i + d → 0 ≤ f p ∧ f p ≤ 1000) → 0 ≤ lsF f d i s ∧ lsF f d i s ≤ 1000
  | 0, _, s, hs, _ => hs
  | d + 1, i, s, hs, h => by
    unfold lsF
    have a := h i (by omega) (by omega)
    exact lsF_rng d (i + 1) _ (by split <;> omega) (fun p h1 h2 => h p (by omega) (by omega))
theorem lastX_L {K : Int32 → Mm → Aa} {z : Int32 → Int32 → Mm → Aa} {m : Nat} {f : Nat → Int} {σ : IM} (hm : m ≤ 10) (hs : σ 30 6 = (m : Int)) (hf : ∀ p, p < m → σ (34 + p) 14 = f p ∧ 0 ≤ f p ∧ f p ≤ 1000) : ∀ (d i N : Nat) (s : Int), i + d = m → d < N → (0 ≤ s ∧ s ≤ 1000) → mm_lk z (fX0_lastOver_L4 K) N (mI s) (mI i) (enc σ) = K (mI (lsF f d i s)) (enc σ)
  | d, i, 0, s, _, h, _ => absurd h (Nat.not_lt_zero d)
  | 0, i, N + 1, s, h, _, _ => by
    rw [mm_lk_s, fX0_lastOver_L4]
    simp (implicitDefEqProofs := false) (maxSteps := 1000000) (disch := omega) only [hs, ↓mm_lt_s, ↓cl_in, ↓cl_wi, ↓cl_has, ↓cl_isP, mL_le, lit_n, litL_n, mL_mI, mL_neg, mm_cl_s, mI_lt, mI_le, mI_eq, enc_at, enc_wr, enc_cp, mI_neg, mI_add, mI_sub, mI_mul, mI_ix, mm_ck_ok, mm_nz_ok, mm_bo_c, mm_bo_m0, mm_bo_m1, b01, Int.toNat_natCast, Int.reduceToNat, Int.reduceNeg, Int.reduceSub, Int.reduceAdd, Int.reduceMul, Int.reduceLT, Int.reduceLE, Int.reduceEq, ↓reduceIte, not_true, not_false_eq_true, not_true_eq_false, and_self, true_and, and_true, false_and, and_false, Decidable.not_not, stv1, stv2, stv3, stv4]
    repeat (first | rw [if_pos (by omega)] | rw [if_neg (by omega)])
    rfl
  | d + 1, i, N + 1, s, h, h2, hn => by
    have c1 : ¬ (m : Int) ≤ (i : Int) := by omega
    obtain ⟨f1, f2⟩ := hf i (by omega)
    have e : lsF f (d + 1) i s = lsF f d (i + 1) (if s < f i then f i else s) := rfl
    rw [e, ← lastX_L (K := K) (z := z) hm hs hf d (i + 1) N _ (by omega) (by omega) (by split <;> omega), mm_lk_s, fX0_lastOver_L4]
    by_cases c : s < f i
    · simp (implicitDefEqProofs := false) (maxSteps := 1000000) (disch := omega) only [hs, c1, f1, c, cast_s, ↓mm_lt_s, ↓cl_in, ↓cl_wi, ↓cl_has, ↓cl_isP, mL_le, lit_n, litL_n, mL_mI, mL_neg, mm_cl_s, mI_lt, mI_le, mI_eq, enc_at, enc_wr, enc_cp, mI_neg, mI_add, mI_sub, mI_mul, mI_ix, mm_ck_ok, mm_nz_ok, mm_bo_c, mm_bo_m0, mm_bo_m1, b01, Int.toNat_natCast, Int.reduceToNat, Int.reduceNeg, Int.reduceSub, Int.reduceAdd, Int.reduceMul, Int.reduceLT, Int.reduceLE, Int.reduceEq, ↓reduceIte, not_true, not_false_eq_true, not_true_eq_false, and_self, true_and, and_true, false_and, and_false, Decidable.not_not, stv1, stv2, stv3, stv4]
    · simp (implicitDefEqProofs := false) (maxSteps := 1000000) (disch := omega) only [hs, c1, f1, c, cast_s, ↓mm_lt_s, ↓cl_in, ↓cl_wi, ↓cl_has, ↓cl_isP, mL_le, lit_n, litL_n, mL_mI, mL_neg, mm_cl_s, mI_lt, mI_le, mI_eq, enc_at, enc_wr, enc_cp, mI_neg, mI_add, mI_sub, mI_mul, mI_ix, mm_ck_ok, mm_nz_ok, mm_bo_c, mm_bo_m0, mm_bo_m1, b01, Int.toNat_natCast, Int.reduceToNat, Int.reduceNeg, Int.reduceSub, Int.reduceAdd, Int.reduceMul, Int.reduceLT, Int.reduceLE, Int.reduceEq, ↓reduceIte, not_true, not_false_eq_true, not_true_eq_false, and_self, true_and, and_true, false_and, and_false, Decidable.not_not, stv1, stv2, stv3, stv4]
theorem lastM_L {K : Int32 → Mm → Aa} {z : Int32 → Int32 → Mm → Aa} {m : Nat} {f : Nat → Int} {τ : IM} (hm : m ≤ 10) (hs : τ 0 1 = (m : Int)) (hf : ∀ p, p < m → (if 0 ≤ τ 15 p then τ 15 p else 1000) = f p ∧ (-4 ≤ τ 15 p ∧ τ 15 p ≤ 1000)) : ∀ (d i N : Nat) (s : Int), i + d = m → d < N → (0 ≤ s ∧ s ≤ 1000) → mm_lk z (fX7_lastOver_L4 K) N (mI s) (mI i) (enc τ) = K (mI (lsF f d i s)) (enc τ)
  | d, i, 0, s, _, h, _ => absurd h (Nat.not_lt_zero d)
  | 0, i, N + 1, s, h, _, _ => by
    rw [mm_lk_s, fX7_lastOver_L4]
    simp (implicitDefEqProofs := false) (maxSteps := 1000000) (disch := omega) only [hs, ↓mm_lt_s, ↓cl_in, ↓cl_wi, ↓cl_has, ↓cl_isP, mL_le, lit_n, litL_n, mL_mI, mL_neg, mm_cl_s, mI_lt, mI_le, mI_eq, enc_at, enc_wr, enc_cp, mI_neg, mI_add, mI_sub, mI_mul, mI_ix, mm_ck_ok, mm_nz_ok, mm_bo_c, mm_bo_m0, mm_bo_m1, b01, Int.toNat_natCast, Int.reduceToNat, Int.reduceNeg, Int.reduceSub, Int.reduceAdd, Int.reduceMul, Int.reduceLT, Int.reduceLE, Int.reduceEq, ↓reduceIte, not_true, not_false_eq_true, not_true_eq_false, and_self, true_and, and_true, false_and, and_false, Decidable.not_not, stv1, stv2, stv3, stv4]
    repeat (first | rw [if_pos (by omega)] | rw [if_neg (by omega)])
    rfl
  | d + 1, i, N + 1, s, h, h2, hn => by
    have c1 : ¬ (m : Int) ≤ (i : Int) := by omega
    obtain ⟨f1, f2⟩ := hf i (by omega)
    have f3 : 0 ≤ f i ∧ f i ≤ 1000 := by
      rw [← f1]
      split <;> omega
    have e : lsF f (d + 1) i s = lsF f d (i + 1) (if s < f i then f i else s) := rfl
    have e2 : (if f i < s then s else f i) = (if s < f i then f i else s) := by
      split <;> split <;> omega
    rw [e, ← lastM_L (K := K) (z := z) hm hs hf d (i + 1) N _ (by omega) (by omega) (by split <;> omega), ← e2, mm_lk_s, fX7_lastOver_L4]
    by_cases c : 0 ≤ τ 15 i
    · rw [if_pos c] at f1
      simp (implicitDefEqProofs := false) (maxSteps := 1000000) (disch := omega) only [hs, c1, c, f1, f3.1, most_s, cast_s, ↓mm_lt_s, ↓cl_in, ↓cl_wi, ↓cl_has, ↓cl_isP, mL_le, lit_n, litL_n, mL_mI, mL_neg, mm_cl_s, mI_lt, mI_le, mI_eq, enc_at, enc_wr, enc_cp, mI_neg, mI_add, mI_sub, mI_mul, mI_ix, mm_ck_ok, mm_nz_ok, mm_bo_c, mm_bo_m0, mm_bo_m1, b01, Int.toNat_natCast, Int.reduceToNat, Int.reduceNeg, Int.reduceSub, Int.reduceAdd, Int.reduceMul, Int.reduceLT, Int.reduceLE, Int.reduceEq, ↓reduceIte, not_true, not_false_eq_true, not_true_eq_false, and_self, true_and, and_true, false_and, and_false, Decidable.not_not, stv1, stv2, stv3, stv4]
    · rw [if_neg c] at f1
      rw [← f1]
      simp (implicitDefEqProofs := false) (maxSteps := 1000000) (disch := omega) only [hs, c1, c, most_s, cast_s, ↓mm_lt_s, ↓cl_in, ↓cl_wi, ↓cl_has, ↓cl_isP, mL_le, lit_n, litL_n, mL_mI, mL_neg, mm_cl_s, mI_lt, mI_le, mI_eq, enc_at, enc_wr, enc_cp, mI_neg, mI_add, mI_sub, mI_mul, mI_ix, mm_ck_ok, mm_nz_ok, mm_bo_c, mm_bo_m0, mm_bo_m1, b01, Int.toNat_natCast, Int.reduceToNat, Int.reduceNeg, Int.reduceSub, Int.reduceAdd, Int.reduceMul, Int.reduceLT, Int.reduceLE, Int.reduceEq, ↓reduceIte, not_true, not_false_eq_true, not_true_eq_false, and_self, true_and, and_true, false_and, and_false, Decidable.not_not, stv1, stv2, stv3, stv4]
def lasO (σ : IM) (m : Nat) : Int := lsF (fun p => σ (34 + p) 14) m 0 0
theorem lasR {σ τ : IM} {m : Nat} {u : Nat → Int} {w : Int} (hw : w ≤ 1000) (hG : DG σ τ m) (hW : DW σ τ m u w) : fX0_lastOver (enc σ) = some (mI (lasO σ m), enc σ) ∧ fX7_lastOver (enc τ) = some (mI (lasO σ m), enc τ) := by
  obtain ⟨⟨g1, g2, hm⟩, -⟩ := hG
  refine ⟨?_, ?_⟩
  · unfold fX0_lastOver
    generalize hfu : mm_fu = NF; have hNF : 4096 ≤ NF := by rw [← hfu]; exact Nat.le_refl _
    simp (implicitDefEqProofs := false) (maxSteps := 1000000) (disch := omega) only [↓mm_lt_s, ↓cl_in, ↓cl_wi, ↓cl_has, ↓cl_isP, mL_le, lit_n, litL_n, mL_mI, mL_neg, mm_cl_s, mI_lt, mI_le, mI_eq, enc_at, enc_wr, enc_cp, mI_neg, mI_add, mI_sub, mI_mul, mI_ix, mm_ck_ok, mm_nz_ok, mm_bo_c, mm_bo_m0, mm_bo_m1, b01, Int.toNat_natCast, Int.reduceToNat, Int.reduceNeg, Int.reduceSub, Int.reduceAdd, Int.reduceMul, Int.reduceLT, Int.reduceLE, Int.reduceEq, ↓reduceIte, not_true, not_false_eq_true, not_true_eq_false, and_self, true_and, and_true, false_and, and_false, Decidable.not_not, stv1, stv2, stv3, stv4]
    have E := lastX_L (K := fun x3 m4 => some (x3, m4)) (z := fun _ _ _ => none) (f := fun p => σ (34 + p) 14) hm g1 (fun p hp => ⟨rfl, (over_f hw hW hp).2.2⟩) m 0 NF 0 (by omega) (by omega) (by omega)
    rw [cast0] at E
    exact E
  · unfold fX7_lastOver
    generalize hfu : mm_fu = NF; have hNF : 4096 ≤ NF := by rw [← hfu]; exact Nat.le_refl _
    simp (implicitDefEqProofs := false) (maxSteps := 1000000) (disch := omega) only [↓mm_lt_s, ↓cl_in, ↓cl_wi, ↓cl_has, ↓cl_isP, mL_le, lit_n, litL_n, mL_mI, mL_neg, mm_cl_s, mI_lt, mI_le, mI_eq, enc_at, enc_wr, enc_cp, mI_neg, mI_add, mI_sub, mI_mul, mI_ix, mm_ck_ok, mm_nz_ok, mm_bo_c, mm_bo_m0, mm_bo_m1, b01, Int.toNat_natCast, Int.reduceToNat, Int.reduceNeg, Int.reduceSub, Int.reduceAdd, Int.reduceMul, Int.reduceLT, Int.reduceLE, Int.reduceEq, ↓reduceIte, not_true, not_false_eq_true, not_true_eq_false, and_self, true_and, and_true, false_and, and_false, Decidable.not_not, stv1, stv2, stv3, stv4]
    have E := lastM_L (K := fun x3 m4 => some (x3, m4)) (z := fun _ _ _ => none) (f := fun p => σ (34 + p) 14) hm g2 (fun p hp => ⟨(over_f hw hW hp).1, (over_f hw hW hp).2.1⟩) m 0 NF 0 (by omega) (by omega) (by omega)
    rw [cast0] at E
    exact E
/-- the fords -/
theorem fdsX_L {K : Int32 → Mm → Aa} {z : Int32 → Int32 → Mm → Aa} {m : Nat} {f : Nat → Int} {σ : IM} (hm : m ≤ 10) (hs : σ 30 6 = (m : Int)) (hf : ∀ p, p < m → σ (34 + p) 15 = f p ∧ 0 ≤ f p ∧ f p ≤ 1000) : ∀ (d i N : Nat) (s : Int), i + d = m → d < N → (0 ≤ s ∧ s ≤ 1000 * i) → mm_lk z (fX0_sumOfFords_L4 K) N (mI s) (mI i) (enc σ) = K (mI (ovF f d i s)) (enc σ)
  | d, i, 0, s, _, h, _ => absurd h (Nat.not_lt_zero d)
  | 0, i, N + 1, s, h, _, _ => by
    rw [mm_lk_s, fX0_sumOfFords_L4]
    simp (implicitDefEqProofs := false) (maxSteps := 1000000) (disch := omega) only [hs, ↓mm_lt_s, ↓cl_in, ↓cl_wi, ↓cl_has, ↓cl_isP, mL_le, lit_n, litL_n, mL_mI, mL_neg, mm_cl_s, mI_lt, mI_le, mI_eq, enc_at, enc_wr, enc_cp, mI_neg, mI_add, mI_sub, mI_mul, mI_ix, mm_ck_ok, mm_nz_ok, mm_bo_c, mm_bo_m0, mm_bo_m1, b01, Int.toNat_natCast, Int.reduceToNat, Int.reduceNeg, Int.reduceSub, Int.reduceAdd, Int.reduceMul, Int.reduceLT, Int.reduceLE, Int.reduceEq, ↓reduceIte, not_true, not_false_eq_true, not_true_eq_false, and_self, true_and, and_true, false_and, and_false, Decidable.not_not, stv1, stv2, stv3, stv4]
    repeat (first | rw [if_pos (by omega)] | rw [if_neg (by omega)])
    rfl
  | d + 1, i, N + 1, s, h, h2, hn => by
    have c1 : ¬ (m : Int) ≤ (i : Int) := by omega
    obtain ⟨f1, f2⟩ := hf i (by omega)
    have e : ovF f (d + 1) i s = ovF f d (i + 1) (s + f i) := rfl
    rw [e, ← fdsX_L (K := K) (z := z) hm hs hf d (i + 1) N (s + f i) (by omega) (by omega) (by omega), mm_lk_s, fX0_sumOfFords_L4]
    simp (implicitDefEqProofs := false) (maxSteps := 1000000) (disch := omega) only [hs, c1, f1, cast_s, ↓mm_lt_s, ↓cl_in, ↓cl_wi, ↓cl_has, ↓cl_isP, mL_le, lit_n, litL_n, mL_mI, mL_neg, mm_cl_s, mI_lt, mI_le, mI_eq, enc_at, enc_wr, enc_cp, mI_neg, mI_add, mI_sub, mI_mul, mI_ix, mm_ck_ok, mm_nz_ok, mm_bo_c, mm_bo_m0, mm_bo_m1, b01, Int.toNat_natCast, Int.reduceToNat, Int.reduceNeg, Int.reduceSub, Int.reduceAdd, Int.reduceMul, Int.reduceLT, Int.reduceLE, Int.reduceEq, ↓reduceIte, not_true, not_false_eq_true, not_true_eq_false, and_self, true_and, and_true, false_and, and_false, Decidable.not_not, stv1, stv2, stv3, stv4]
theorem wetM {τ : IM} {p : Nat} {v : Int} (hp : p < 10) (h5 : 0 ≤ τ 5 p ∧ τ 5 p ≤ 4) (hv : v = τ 12 p - (if τ 5 p = 3 then 1 else 0)) : fX7_wetOf (mI p) (enc τ) = some (mI v, enc τ) := by
  subst hv
  unfold fX7_wetOf
  by_cases c : τ 5 p = 3
  · simp (implicitDefEqProofs := false) (maxSteps := 1000000) (disch := omega) only [c, ↓mm_lt_s, ↓cl_in, ↓cl_wi, ↓cl_has, ↓cl_isP, mL_le, lit_n, litL_n, mL_mI, mL_neg, mm_cl_s, mI_lt, mI_le, mI_eq, enc_at, enc_wr, enc_cp, mI_neg, mI_add, mI_sub, mI_mul, mI_ix, mm_ck_ok, mm_nz_ok, mm_bo_c, mm_bo_m0, mm_bo_m1, b01, Int.toNat_natCast, Int.reduceToNat, Int.reduceNeg, Int.reduceSub, Int.reduceAdd, Int.reduceMul, Int.reduceLT, Int.reduceLE, Int.reduceEq, ↓reduceIte, not_true, not_false_eq_true, not_true_eq_false, and_self, true_and, and_true, false_and, and_false, Decidable.not_not, stv1, stv2, stv3, stv4]
  · simp (implicitDefEqProofs := false) (maxSteps := 1000000) (disch := omega) only [c, ↓mm_lt_s, ↓cl_in, ↓cl_wi, ↓cl_has, ↓cl_isP, mL_le, lit_n, litL_n, mL_mI, mL_neg, mm_cl_s, mI_lt, mI_le, mI_eq, enc_at, enc_wr, enc_cp, mI_neg, mI_add, mI_sub, mI_mul, mI_ix, mm_ck_ok, mm_nz_ok, mm_bo_c, mm_bo_m0, mm_bo_m1, b01, Int.toNat_natCast, Int.reduceToNat, Int.reduceNeg, Int.reduceSub, Int.reduceAdd, Int.reduceMul, Int.reduceLT, Int.reduceLE, Int.reduceEq, ↓reduceIte, not_true, not_false_eq_true, not_true_eq_false, and_self, true_and, and_true, false_and, and_false, Decidable.not_not, stv1, stv2, stv3, stv4]
theorem fdsM_L {K : Int32 → Mm → Aa} {z : Int32 → Int32 → Mm → Aa} {m : Nat} {f : Nat → Int} {τ : IM} (hm : m ≤ 10) (hs : τ 0 1 = (m : Int)) (hf : ∀ p, p < m → f p = τ 12 p - (if τ 5 p = 3 then 1 else 0) ∧ (0 ≤ τ 5 p ∧ τ 5 p ≤ 4) ∧ (0 ≤ f p ∧ f p ≤ 1000)) : ∀ (d i N : Nat) (s : Int), i + d = m → d < N → (0 ≤ s ∧ s ≤ 1000 * i) → mm_lk z (fX7_all_L22 K) N (mI s) (mI i) (enc τ) = K (mI (ovF f d i s)) (enc τ)
  | d, i, 0, s, _, h, _ => absurd h (Nat.not_lt_zero d)
  | 0, i, N + 1, s, h, _, _ => by
    rw [mm_lk_s, fX7_all_L22]
    simp (implicitDefEqProofs := false) (maxSteps := 1000000) (disch := omega) only [hs, ↓mm_lt_s, ↓cl_in, ↓cl_wi, ↓cl_has, ↓cl_isP, mL_le, lit_n, litL_n, mL_mI, mL_neg, mm_cl_s, mI_lt, mI_le, mI_eq, enc_at, enc_wr, enc_cp, mI_neg, mI_add, mI_sub, mI_mul, mI_ix, mm_ck_ok, mm_nz_ok, mm_bo_c, mm_bo_m0, mm_bo_m1, b01, Int.toNat_natCast, Int.reduceToNat, Int.reduceNeg, Int.reduceSub, Int.reduceAdd, Int.reduceMul, Int.reduceLT, Int.reduceLE, Int.reduceEq, ↓reduceIte, not_true, not_false_eq_true, not_true_eq_false, and_self, true_and, and_true, false_and, and_false, Decidable.not_not, stv1, stv2, stv3, stv4]
    repeat (first | rw [if_pos (by omega)] | rw [if_neg (by omega)])
    rfl
  | d + 1, i, N + 1, s, h, h2, hn => by
    have c1 : ¬ (m : Int) ≤ (i : Int) := by omega
    obtain ⟨f1, f2, f3⟩ := hf i (by omega)
    have W := wetM (p := i) (τ := τ) (by omega) f2 f1
    have e : ovF f (d + 1) i s = ovF f d (i + 1) (s + f i) := rfl
    rw [e, ← fdsM_L (K := K) (z := z) hm hs hf d (i + 1) N (s + f i) (by omega) (by omega) (by omega), mm_lk_s, fX7_all_L22]
    simp (implicitDefEqProofs := false) (maxSteps := 1000000) (disch := omega) only [hs, c1, ↓mm_lt_s, ↓cl_in, ↓cl_wi, ↓cl_has, ↓cl_isP, mL_le, lit_n, litL_n, mL_mI, mL_neg, mm_cl_s, mI_lt, mI_le, mI_eq, enc_at, enc_wr, enc_cp, mI_neg, mI_add, mI_sub, mI_mul, mI_ix, mm_ck_ok, mm_nz_ok, mm_bo_c, mm_bo_m0, mm_bo_m1, b01, Int.toNat_natCast, Int.reduceToNat, Int.reduceNeg, Int.reduceSub, Int.reduceAdd, Int.reduceMul, Int.reduceLT, Int.reduceLE, Int.reduceEq, ↓reduceIte, not_true, not_false_eq_true, not_true_eq_false, and_self, true_and, and_true, false_and, and_false, Decidable.not_not, stv1, stv2, stv3, stv4]
    rw [W]
    simp (implicitDefEqProofs := false) (maxSteps := 1000000) (disch := omega) only [cast_s, ↓mm_lt_s, ↓cl_in, ↓cl_wi, ↓cl_has, ↓cl_isP, mL_le, lit_n, litL_n, mL_mI, mL_neg, mm_cl_s, mI_lt, mI_le, mI_eq, enc_at, enc_wr, enc_cp, mI_neg, mI_add, mI_sub, mI_mul, mI_ix, mm_ck_ok, mm_nz_ok, mm_bo_c, mm_bo_m0, mm_bo_m1, b01, Int.toNat_natCast, Int.reduceToNat, Int.reduceNeg, Int.reduceSub, Int.reduceAdd, Int.reduceMul, Int.reduceLT, Int.reduceLE, Int.reduceEq, ↓reduceIte, not_true, not_false_eq_true, not_true_eq_false, and_self, true_and, and_true, false_and, and_false, Decidable.not_not, stv1, stv2, stv3, stv4]
/-- sets -/
def seF (g : Nat → Bool) : Nat → Nat → Nat → Nat
  | 0, _, c => c
  | d + 1, i, c => seF g d (i + 1) (if g i = true then c ||| 2 ^ i else c)
theorem onbX_L {K : Int32 → Mm → Aa} {z : Int32 → Int32 → Mm → Aa} {m : Nat} {g : Nat → Bool} {B : Int} {σ : IM} (hB : 0 ≤ B ∧ B ≤ 1) (hm : m ≤ 10) (hs : σ 30 6 = (m : Int)) (hf : ∀ p, p < m → (g p = true ↔ ((σ (34 + p) 8 = 1 ∨ σ (34 + p) 8 = 2) ∧ σ (34 + p) 9 = B)) ∧ (0 ≤ σ (34 + p) 8 ∧ σ (34 + p) 8 ≤ 4) ∧ (0 ≤ σ (34 + p) 9 ∧ σ (34 + p) 9 ≤ 1)) : ∀ (d i N c : Nat), i + d = m → d < N → c < 1024 → mm_lk z (fX0_onBridgeFrom_L4 (mI B) K) N (mI c) (mI i) (enc σ) = K (mI (seF g d i c)) (enc σ)
  | d, i, 0, s, _, h, _ => absurd h (Nat.not_lt_zero d)
  | 0, i, N + 1, s, h, _, _ => by
    rw [mm_lk_s, fX0_onBridgeFrom_L4]
    simp (implicitDefEqProofs := false) (maxSteps := 1000000) (disch := omega) only [hs, ↓mm_lt_s, ↓cl_in, ↓cl_wi, ↓cl_has, ↓cl_isP, mL_le, lit_n, litL_n, mL_mI, mL_neg, mm_cl_s, mI_lt, mI_le, mI_eq, enc_at, enc_wr, enc_cp, mI_neg, mI_add, mI_sub, mI_mul, mI_ix, mm_ck_ok, mm_nz_ok, mm_bo_c, mm_bo_m0, mm_bo_m1, b01, Int.toNat_natCast, Int.reduceToNat, Int.reduceNeg, Int.reduceSub, Int.reduceAdd, Int.reduceMul, Int.reduceLT, Int.reduceLE, Int.reduceEq, ↓reduceIte, not_true, not_false_eq_true, not_true_eq_false, and_self, true_and, and_true, false_and, and_false, Decidable.not_not, stv1, stv2, stv3, stv4]
    repeat (first | rw [if_pos (by omega)] | rw [if_neg (by omega)])
    rfl
  | d + 1, i, N + 1, c, h, h2, hc => by
    have c1 : ¬ (m : Int) ≤ (i : Int) := by omega
    obtain ⟨f1, f2, f3⟩ := hf i (by omega)
    have O := or_all c hc i (by omega)
    have e : seF g (d + 1) i c = seF g d (i + 1) (if g i = true then c ||| 2 ^ i else c) := rfl
    have ol := or_lt hc (show i < 10 by omega)
    have ON : fX5_isOnBridge (34 + i) (enc σ) = some (mI (if σ (34 + i) 8 = 1 ∨ σ (34 + i) 8 = 2 then 1 else 0), enc σ) := by
      unfold fX5_isOnBridge
      by_cases d1 : σ (34 + i) 8 = 1
      · rw [if_pos (Or.inl d1)]
        simp (implicitDefEqProofs := false) (maxSteps := 1000000) (disch := omega) only [d1, ↓mm_lt_s, ↓cl_in, ↓cl_wi, ↓cl_has, ↓cl_isP, mL_le, lit_n, litL_n, mL_mI, mL_neg, mm_cl_s, mI_lt, mI_le, mI_eq, enc_at, enc_wr, enc_cp, mI_neg, mI_add, mI_sub, mI_mul, mI_ix, mm_ck_ok, mm_nz_ok, mm_bo_c, mm_bo_m0, mm_bo_m1, b01, Int.toNat_natCast, Int.reduceToNat, Int.reduceNeg, Int.reduceSub, Int.reduceAdd, Int.reduceMul, Int.reduceLT, Int.reduceLE, Int.reduceEq, ↓reduceIte, not_true, not_false_eq_true, not_true_eq_false, and_self, true_and, and_true, false_and, and_false, Decidable.not_not, stv1, stv2, stv3, stv4]
      · by_cases d2 : σ (34 + i) 8 = 2
        · rw [if_pos (Or.inr d2)]
          simp (implicitDefEqProofs := false) (maxSteps := 1000000) (disch := omega) only [d2, ↓mm_lt_s, ↓cl_in, ↓cl_wi, ↓cl_has, ↓cl_isP, mL_le, lit_n, litL_n, mL_mI, mL_neg, mm_cl_s, mI_lt, mI_le, mI_eq, enc_at, enc_wr, enc_cp, mI_neg, mI_add, mI_sub, mI_mul, mI_ix, mm_ck_ok, mm_nz_ok, mm_bo_c, mm_bo_m0, mm_bo_m1, b01, Int.toNat_natCast, Int.reduceToNat, Int.reduceNeg, Int.reduceSub, Int.reduceAdd, Int.reduceMul, Int.reduceLT, Int.reduceLE, Int.reduceEq, ↓reduceIte, not_true, not_false_eq_true, not_true_eq_false, and_self, true_and, and_true, false_and, and_false, Decidable.not_not, stv1, stv2, stv3, stv4]
        · rw [if_neg (fun x => x.elim d1 d2)]
          simp (implicitDefEqProofs := false) (maxSteps := 1000000) (disch := omega) only [d1, d2, ↓mm_lt_s, ↓cl_in, ↓cl_wi, ↓cl_has, ↓cl_isP, mL_le, lit_n, litL_n, mL_mI, mL_neg, mm_cl_s, mI_lt, mI_le, mI_eq, enc_at, enc_wr, enc_cp, mI_neg, mI_add, mI_sub, mI_mul, mI_ix, mm_ck_ok, mm_nz_ok, mm_bo_c, mm_bo_m0, mm_bo_m1, b01, Int.toNat_natCast, Int.reduceToNat, Int.reduceNeg, Int.reduceSub, Int.reduceAdd, Int.reduceMul, Int.reduceLT, Int.reduceLE, Int.reduceEq, ↓reduceIte, not_true, not_false_eq_true, not_true_eq_false, and_self, true_and, and_true, false_and, and_false, Decidable.not_not, stv1, stv2, stv3, stv4]
    rw [e, ← onbX_L (K := K) (z := z) hB hm hs hf d (i + 1) N _ (by omega) (by omega) (by split <;> omega), mm_lk_s, fX0_onBridgeFrom_L4]
    by_cases a : σ (34 + i) 8 = 1 ∨ σ (34 + i) 8 = 2
    · rw [if_pos a] at ON
      have o : ¬ (1 : Int) = 0 := by omega
      by_cases b : σ (34 + i) 9 = B
      · rw [if_pos (f1.2 ⟨a, b⟩)]
        simp (implicitDefEqProofs := false) (maxSteps := 1000000) (disch := omega) only [hs, c1, ↓mm_lt_s, ↓cl_in, ↓cl_wi, ↓cl_has, ↓cl_isP, mL_le, lit_n, litL_n, mL_mI, mL_neg, mm_cl_s, mI_lt, mI_le, mI_eq, enc_at, enc_wr, enc_cp, mI_neg, mI_add, mI_sub, mI_mul, mI_ix, mm_ck_ok, mm_nz_ok, mm_bo_c, mm_bo_m0, mm_bo_m1, b01, Int.toNat_natCast, Int.reduceToNat, Int.reduceNeg, Int.reduceSub, Int.reduceAdd, Int.reduceMul, Int.reduceLT, Int.reduceLE, Int.reduceEq, ↓reduceIte, not_true, not_false_eq_true, not_true_eq_false, and_self, true_and, and_true, false_and, and_false, Decidable.not_not, stv1, stv2, stv3, stv4]
        rw [ON]
        simp (implicitDefEqProofs := false) (maxSteps := 1000000) (disch := omega) only [o, eq_true b, O, cast_s, ↓mm_lt_s, ↓cl_in, ↓cl_wi, ↓cl_has, ↓cl_isP, mL_le, lit_n, litL_n, mL_mI, mL_neg, mm_cl_s, mI_lt, mI_le, mI_eq, enc_at, enc_wr, enc_cp, mI_neg, mI_add, mI_sub, mI_mul, mI_ix, mm_ck_ok, mm_nz_ok, mm_bo_c, mm_bo_m0, mm_bo_m1, b01, Int.toNat_natCast, Int.reduceToNat, Int.reduceNeg, Int.reduceSub, Int.reduceAdd, Int.reduceMul, Int.reduceLT, Int.reduceLE, Int.reduceEq, ↓reduceIte, not_true, not_false_eq_true, not_true_eq_false, and_self, true_and, and_true, false_and, and_false, Decidable.not_not, stv1, stv2, stv3, stv4]
      · rw [if_neg (fun x => b (f1.1 x).2)]
        simp (implicitDefEqProofs := false) (maxSteps := 1000000) (disch := omega) only [hs, c1, ↓mm_lt_s, ↓cl_in, ↓cl_wi, ↓cl_has, ↓cl_isP, mL_le, lit_n, litL_n, mL_mI, mL_neg, mm_cl_s, mI_lt, mI_le, mI_eq, enc_at, enc_wr, enc_cp, mI_neg, mI_add, mI_sub, mI_mul, mI_ix, mm_ck_ok, mm_nz_ok, mm_bo_c, mm_bo_m0, mm_bo_m1, b01, Int.toNat_natCast, Int.reduceToNat, Int.reduceNeg, Int.reduceSub, Int.reduceAdd, Int.reduceMul, Int.reduceLT, Int.reduceLE, Int.reduceEq, ↓reduceIte, not_true, not_false_eq_true, not_true_eq_false, and_self, true_and, and_true, false_and, and_false, Decidable.not_not, stv1, stv2, stv3, stv4]
        rw [ON]
        simp (implicitDefEqProofs := false) (maxSteps := 1000000) (disch := omega) only [o, b, cast_s, ↓mm_lt_s, ↓cl_in, ↓cl_wi, ↓cl_has, ↓cl_isP, mL_le, lit_n, litL_n, mL_mI, mL_neg, mm_cl_s, mI_lt, mI_le, mI_eq, enc_at, enc_wr, enc_cp, mI_neg, mI_add, mI_sub, mI_mul, mI_ix, mm_ck_ok, mm_nz_ok, mm_bo_c, mm_bo_m0, mm_bo_m1, b01, Int.toNat_natCast, Int.reduceToNat, Int.reduceNeg, Int.reduceSub, Int.reduceAdd, Int.reduceMul, Int.reduceLT, Int.reduceLE, Int.reduceEq, ↓reduceIte, not_true, not_false_eq_true, not_true_eq_false, and_self, true_and, and_true, false_and, and_false, Decidable.not_not, stv1, stv2, stv3, stv4]
    · rw [if_neg a] at ON
      rw [if_neg (fun x => a (f1.1 x).1)]
      simp (implicitDefEqProofs := false) (maxSteps := 1000000) (disch := omega) only [hs, c1, ↓mm_lt_s, ↓cl_in, ↓cl_wi, ↓cl_has, ↓cl_isP, mL_le, lit_n, litL_n, mL_mI, mL_neg, mm_cl_s, mI_lt, mI_le, mI_eq, enc_at, enc_wr, enc_cp, mI_neg, mI_add, mI_sub, mI_mul, mI_ix, mm_ck_ok, mm_nz_ok, mm_bo_c, mm_bo_m0, mm_bo_m1, b01, Int.toNat_natCast, Int.reduceToNat, Int.reduceNeg, Int.reduceSub, Int.reduceAdd, Int.reduceMul, Int.reduceLT, Int.reduceLE, Int.reduceEq, ↓reduceIte, not_true, not_false_eq_true, not_true_eq_false, and_self, true_and, and_true, false_and, and_false, Decidable.not_not, stv1, stv2, stv3, stv4]
      rw [ON]
      simp (implicitDefEqProofs := false) (maxSteps := 1000000) (disch := omega) only [cast_s, ↓mm_lt_s, ↓cl_in, ↓cl_wi, ↓cl_has, ↓cl_isP, mL_le, lit_n, litL_n, mL_mI, mL_neg, mm_cl_s, mI_lt, mI_le, mI_eq, enc_at, enc_wr, enc_cp, mI_neg, mI_add, mI_sub, mI_mul, mI_ix, mm_ck_ok, mm_nz_ok, mm_bo_c, mm_bo_m0, mm_bo_m1, b01, Int.toNat_natCast, Int.reduceToNat, Int.reduceNeg, Int.reduceSub, Int.reduceAdd, Int.reduceMul, Int.reduceLT, Int.reduceLE, Int.reduceEq, ↓reduceIte, not_true, not_false_eq_true, not_true_eq_false, and_self, true_and, and_true, false_and, and_false, Decidable.not_not, stv1, stv2, stv3, stv4]
theorem whoX_L {K : Int32 → Mm → Aa} {z : Int32 → Int32 → Mm → Aa} {m : Nat} {g : Nat → Bool} {B : Int} {σ : IM} (hB : 0 ≤ B ∧ B ≤ 4) (hm : m ≤ 10) (hs : σ 30 6 = (m : Int)) (hf : ∀ p, p < m → (g p = true ↔ σ (34 + p) 8 = B) ∧ (0 ≤ σ (34 + p) 8 ∧ σ (34 + p) 8 ≤ 4)) : ∀ (d i N c : Nat), i + d = m → d < N → c < 1024 → mm_lk z (fX0_whoIs_L4 (mI B) K) N (mI c) (mI i) (enc σ) = K (mI (seF g d i c)) (enc σ)
  | d, i, 0, s, _, h, _ => absurd h (Nat.not_lt_zero d)
  | 0, i, N + 1, s, h, _, _ => by
    rw [mm_lk_s, fX0_whoIs_L4]
    simp (implicitDefEqProofs := false) (maxSteps := 1000000) (disch := omega) only [hs, ↓mm_lt_s, ↓cl_in, ↓cl_wi, ↓cl_has, ↓cl_isP, mL_le, lit_n, litL_n, mL_mI, mL_neg, mm_cl_s, mI_lt, mI_le, mI_eq, enc_at, enc_wr, enc_cp, mI_neg, mI_add, mI_sub, mI_mul, mI_ix, mm_ck_ok, mm_nz_ok, mm_bo_c, mm_bo_m0, mm_bo_m1, b01, Int.toNat_natCast, Int.reduceToNat, Int.reduceNeg, Int.reduceSub, Int.reduceAdd, Int.reduceMul, Int.reduceLT, Int.reduceLE, Int.reduceEq, ↓reduceIte, not_true, not_false_eq_true, not_true_eq_false, and_self, true_and, and_true, false_and, and_false, Decidable.not_not, stv1, stv2, stv3, stv4]
    repeat (first | rw [if_pos (by omega)] | rw [if_neg (by omega)])
    rfl
  | d + 1, i, N + 1, c, h, h2, hc => by
    have c1 : ¬ (m : Int) ≤ (i : Int) := by omega
    obtain ⟨f1, f2⟩ := hf i (by omega)
    have O := or_all c hc i (by omega)
    have e : seF g (d + 1) i c = seF g d (i + 1) (if g i = true then c ||| 2 ^ i else c) := rfl
    have ol := or_lt hc (show i < 10 by omega)
    rw [e, ← whoX_L (K := K) (z := z) hB hm hs hf d (i + 1) N _ (by omega) (by omega) (by split <;> omega), mm_lk_s, fX0_whoIs_L4]
    by_cases a : σ (34 + i) 8 = B
    · rw [if_pos (f1.2 a)]
      simp (implicitDefEqProofs := false) (maxSteps := 1000000) (disch := omega) only [hs, c1, eq_true a, O, cast_s, ↓mm_lt_s, ↓cl_in, ↓cl_wi, ↓cl_has, ↓cl_isP, mL_le, lit_n, litL_n, mL_mI, mL_neg, mm_cl_s, mI_lt, mI_le, mI_eq, enc_at, enc_wr, enc_cp, mI_neg, mI_add, mI_sub, mI_mul, mI_ix, mm_ck_ok, mm_nz_ok, mm_bo_c, mm_bo_m0, mm_bo_m1, b01, Int.toNat_natCast, Int.reduceToNat, Int.reduceNeg, Int.reduceSub, Int.reduceAdd, Int.reduceMul, Int.reduceLT, Int.reduceLE, Int.reduceEq, ↓reduceIte, not_true, not_false_eq_true, not_true_eq_false, and_self, true_and, and_true, false_and, and_false, Decidable.not_not, stv1, stv2, stv3, stv4]
    · rw [if_neg (fun x => a (f1.1 x))]
      simp (implicitDefEqProofs := false) (maxSteps := 1000000) (disch := omega) only [hs, c1, a, cast_s, ↓mm_lt_s, ↓cl_in, ↓cl_wi, ↓cl_has, ↓cl_isP, mL_le, lit_n, litL_n, mL_mI, mL_neg, mm_cl_s, mI_lt, mI_le, mI_eq, enc_at, enc_wr, enc_cp, mI_neg, mI_add, mI_sub, mI_mul, mI_ix, mm_ck_ok, mm_nz_ok, mm_bo_c, mm_bo_m0, mm_bo_m1, b01, Int.toNat_natCast, Int.reduceToNat, Int.reduceNeg, Int.reduceSub, Int.reduceAdd, Int.reduceMul, Int.reduceLT, Int.reduceLE, Int.reduceEq, ↓reduceIte, not_true, not_false_eq_true, not_true_eq_false, and_self, true_and, and_true, false_and, and_false, Decidable.not_not, stv1, stv2, stv3, stv4]
/-- the reference's sets: what it asks -/
abbrev atQ (τ : IM) (w : Int) (p : Nat) : Prop := (w = 1 ∧ τ 5 p = 2 ∧ τ 6 p = 0) ∨ (w = 2 ∧ τ 5 p = 2 ∧ τ 6 p = 1) ∨ (w = 3 ∧ τ 5 p = 2 ∧ τ 8 p = 1) ∨ (w = 5 ∧ τ 5 p = 4)
theorem whoM_L {K : Int32 → Mm → Aa} {z : Int32 → Int32 → Mm → Aa} {m : Nat} {g : Nat → Bool} {w : Int} {τ : IM} (hw : w = 1 ∨ w = 2 ∨ w = 3 ∨ w = 5) (hm : m ≤ 10) (hs : τ 0 1 = (m : Int)) (hf : ∀ p, p < m → (g p = true ↔ atQ τ w p) ∧ (0 ≤ τ 5 p ∧ τ 5 p ≤ 4) ∧ (0 ≤ τ 6 p ∧ τ 6 p ≤ 1) ∧ (0 ≤ τ 8 p ∧ τ 8 p ≤ 1)) : ∀ (d i N c : Nat), i + d = m → d < N → c < 1024 → mm_lk z (fX7_at_L65 (mI w) K) N (mI c) (mI i) (enc τ) = K (mI (seF g d i c)) (enc τ)
  | d, i, 0, s, _, h, _ => absurd h (Nat.not_lt_zero d)
  | 0, i, N + 1, s, h, _, _ => by
    rw [mm_lk_s, fX7_at_L65]
    simp (implicitDefEqProofs := false) (maxSteps := 1000000) (disch := omega) only [hs, ↓mm_lt_s, ↓cl_in, ↓cl_wi, ↓cl_has, ↓cl_isP, mL_le, lit_n, litL_n, mL_mI, mL_neg, mm_cl_s, mI_lt, mI_le, mI_eq, enc_at, enc_wr, enc_cp, mI_neg, mI_add, mI_sub, mI_mul, mI_ix, mm_ck_ok, mm_nz_ok, mm_bo_c, mm_bo_m0, mm_bo_m1, b01, Int.toNat_natCast, Int.reduceToNat, Int.reduceNeg, Int.reduceSub, Int.reduceAdd, Int.reduceMul, Int.reduceLT, Int.reduceLE, Int.reduceEq, ↓reduceIte, not_true, not_false_eq_true, not_true_eq_false, and_self, true_and, and_true, false_and, and_false, Decidable.not_not, stv1, stv2, stv3, stv4]
    repeat (first | rw [if_pos (by omega)] | rw [if_neg (by omega)])
    rfl
  | d + 1, i, N + 1, c, h, h2, hc => by
    have c1 : ¬ (m : Int) ≤ (i : Int) := by omega
    obtain ⟨f1, f5, f6, f8⟩ := hf i (by omega)
    have O := or_all c hc i (by omega)
    have e : seF g (d + 1) i c = seF g d (i + 1) (if g i = true then c ||| 2 ^ i else c) := rfl
    have ol := or_lt hc (show i < 10 by omega)
    have o : ¬ (1 : Int) = 0 := by omega
    have Z : mI (c : Int) ||| mI 0 = mI c := by
      have key : ∀ c, c < 1024 → mI ((c : Nat) : Int) ||| mI 0 = mI ((c : Nat) : Int) := by decide +kernel
      exact key c hc
    rw [e, ← whoM_L (K := K) (z := z) hw hm hs hf d (i + 1) N _ (by omega) (by omega) (by split <;> omega), mm_lk_s, fX7_at_L65]
    by_cases a : atQ τ w i
    · rw [if_pos (f1.2 a)]
      rcases a with ⟨a1, a2, a3⟩ | ⟨a1, a2, a3⟩ | ⟨a1, a2, a3⟩ | ⟨a1, a2⟩
      · simp (implicitDefEqProofs := false) (maxSteps := 1000000) (disch := omega) only [hs, c1, a1, eq_true a2, eq_true a3, o, O, cast_s, ↓mm_lt_s, ↓cl_in, ↓cl_wi, ↓cl_has, ↓cl_isP, mL_le, lit_n, litL_n, mL_mI, mL_neg, mm_cl_s, mI_lt, mI_le, mI_eq, enc_at, enc_wr, enc_cp, mI_neg, mI_add, mI_sub, mI_mul, mI_ix, mm_ck_ok, mm_nz_ok, mm_bo_c, mm_bo_m0, mm_bo_m1, b01, Int.toNat_natCast, Int.reduceToNat, Int.reduceNeg, Int.reduceSub, Int.reduceAdd, Int.reduceMul, Int.reduceLT, Int.reduceLE, Int.reduceEq, ↓reduceIte, not_true, not_false_eq_true, not_true_eq_false, and_self, true_and, and_true, false_and, and_false, Decidable.not_not, stv1, stv2, stv3, stv4]
      · simp (implicitDefEqProofs := false) (maxSteps := 1000000) (disch := omega) only [hs, c1, a1, eq_true a2, eq_true a3, o, O, cast_s, ↓mm_lt_s, ↓cl_in, ↓cl_wi, ↓cl_has, ↓cl_isP, mL_le, lit_n, litL_n, mL_mI, mL_neg, mm_cl_s, mI_lt, mI_le, mI_eq, enc_at, enc_wr, enc_cp, mI_neg, mI_add, mI_sub, mI_mul, mI_ix, mm_ck_ok, mm_nz_ok, mm_bo_c, mm_bo_m0, mm_bo_m1, b01, Int.toNat_natCast, Int.reduceToNat, Int.reduceNeg, Int.reduceSub, Int.reduceAdd, Int.reduceMul, Int.reduceLT, Int.reduceLE, Int.reduceEq, ↓reduceIte, not_true, not_false_eq_true, not_true_eq_false, and_self, true_and, and_true, false_and, and_false, Decidable.not_not, stv1, stv2, stv3, stv4]
      · simp (implicitDefEqProofs := false) (maxSteps := 1000000) (disch := omega) only [hs, c1, a1, eq_true a2, eq_true a3, o, O, cast_s, ↓mm_lt_s, ↓cl_in, ↓cl_wi, ↓cl_has, ↓cl_isP, mL_le, lit_n, litL_n, mL_mI, mL_neg, mm_cl_s, mI_lt, mI_le, mI_eq, enc_at, enc_wr, enc_cp, mI_neg, mI_add, mI_sub, mI_mul, mI_ix, mm_ck_ok, mm_nz_ok, mm_bo_c, mm_bo_m0, mm_bo_m1, b01, Int.toNat_natCast, Int.reduceToNat, Int.reduceNeg, Int.reduceSub, Int.reduceAdd, Int.reduceMul, Int.reduceLT, Int.reduceLE, Int.reduceEq, ↓reduceIte, not_true, not_false_eq_true, not_true_eq_false, and_self, true_and, and_true, false_and, and_false, Decidable.not_not, stv1, stv2, stv3, stv4]
      · simp (implicitDefEqProofs := false) (maxSteps := 1000000) (disch := omega) only [hs, c1, a1, a2, o, O, cast_s, ↓mm_lt_s, ↓cl_in, ↓cl_wi, ↓cl_has, ↓cl_isP, mL_le, lit_n, litL_n, mL_mI, mL_neg, mm_cl_s, mI_lt, mI_le, mI_eq, enc_at, enc_wr, enc_cp, mI_neg, mI_add, mI_sub, mI_mul, mI_ix, mm_ck_ok, mm_nz_ok, mm_bo_c, mm_bo_m0, mm_bo_m1, b01, Int.toNat_natCast, Int.reduceToNat, Int.reduceNeg, Int.reduceSub, Int.reduceAdd, Int.reduceMul, Int.reduceLT, Int.reduceLE, Int.reduceEq, ↓reduceIte, not_true, not_false_eq_true, not_true_eq_false, and_self, true_and, and_true, false_and, and_false, Decidable.not_not, stv1, stv2, stv3, stv4]
    · rw [if_neg (fun x => a (f1.1 x))]
      unfold atQ at a
      rcases hw with w1 | w1 | w1 | w1
      · by_cases a2 : τ 5 i = 2
        · have a3 : ¬ τ 6 i = 0 := by omega
          simp (implicitDefEqProofs := false) (maxSteps := 1000000) (disch := omega) only [hs, c1, w1, eq_true a2, a3, o, Z, cast_s, ↓mm_lt_s, ↓cl_in, ↓cl_wi, ↓cl_has, ↓cl_isP, mL_le, lit_n, litL_n, mL_mI, mL_neg, mm_cl_s, mI_lt, mI_le, mI_eq, enc_at, enc_wr, enc_cp, mI_neg, mI_add, mI_sub, mI_mul, mI_ix, mm_ck_ok, mm_nz_ok, mm_bo_c, mm_bo_m0, mm_bo_m1, b01, Int.toNat_natCast, Int.reduceToNat, Int.reduceNeg, Int.reduceSub, Int.reduceAdd, Int.reduceMul, Int.reduceLT, Int.reduceLE, Int.reduceEq, ↓reduceIte, not_true, not_false_eq_true, not_true_eq_false, and_self, true_and, and_true, false_and, and_false, Decidable.not_not, stv1, stv2, stv3, stv4]
        · simp (implicitDefEqProofs := false) (maxSteps := 1000000) (disch := omega) only [hs, c1, w1, a2, o, Z, cast_s, ↓mm_lt_s, ↓cl_in, ↓cl_wi, ↓cl_has, ↓cl_isP, mL_le, lit_n, litL_n, mL_mI, mL_neg, mm_cl_s, mI_lt, mI_le, mI_eq, enc_at, enc_wr, enc_cp, mI_neg, mI_add, mI_sub, mI_mul, mI_ix, mm_ck_ok, mm_nz_ok, mm_bo_c, mm_bo_m0, mm_bo_m1, b01, Int.toNat_natCast, Int.reduceToNat, Int.reduceNeg, Int.reduceSub, Int.reduceAdd, Int.reduceMul, Int.reduceLT, Int.reduceLE, Int.reduceEq, ↓reduceIte, not_true, not_false_eq_true, not_true_eq_false, and_self, true_and, and_true, false_and, and_false, Decidable.not_not, stv1, stv2, stv3, stv4]
      · by_cases a2 : τ 5 i = 2
        · have a3 : ¬ τ 6 i = 1 := by omega
          simp (implicitDefEqProofs := false) (maxSteps := 1000000) (disch := omega) only [hs, c1, w1, eq_true a2, a3, o, Z, cast_s, ↓mm_lt_s, ↓cl_in, ↓cl_wi, ↓cl_has, ↓cl_isP, mL_le, lit_n, litL_n, mL_mI, mL_neg, mm_cl_s, mI_lt, mI_le, mI_eq, enc_at, enc_wr, enc_cp, mI_neg, mI_add, mI_sub, mI_mul, mI_ix, mm_ck_ok, mm_nz_ok, mm_bo_c, mm_bo_m0, mm_bo_m1, b01, Int.toNat_natCast, Int.reduceToNat, Int.reduceNeg, Int.reduceSub, Int.reduceAdd, Int.reduceMul, Int.reduceLT, Int.reduceLE, Int.reduceEq, ↓reduceIte, not_true, not_false_eq_true, not_true_eq_false, and_self, true_and, and_true, false_and, and_false, Decidable.not_not, stv1, stv2, stv3, stv4]
        · simp (implicitDefEqProofs := false) (maxSteps := 1000000) (disch := omega) only [hs, c1, w1, a2, o, Z, cast_s, ↓mm_lt_s, ↓cl_in, ↓cl_wi, ↓cl_has, ↓cl_isP, mL_le, lit_n, litL_n, mL_mI, mL_neg, mm_cl_s, mI_lt, mI_le, mI_eq, enc_at, enc_wr, enc_cp, mI_neg, mI_add, mI_sub, mI_mul, mI_ix, mm_ck_ok, mm_nz_ok, mm_bo_c, mm_bo_m0, mm_bo_m1, b01, Int.toNat_natCast, Int.reduceToNat, Int.reduceNeg, Int.reduceSub, Int.reduceAdd, Int.reduceMul, Int.reduceLT, Int.reduceLE, Int.reduceEq, ↓reduceIte, not_true, not_false_eq_true, not_true_eq_false, and_self, true_and, and_true, false_and, and_false, Decidable.not_not, stv1, stv2, stv3, stv4]
      · by_cases a2 : τ 5 i = 2
        · have a3 : ¬ τ 8 i = 1 := by omega
          simp (implicitDefEqProofs := false) (maxSteps := 1000000) (disch := omega) only [hs, c1, w1, eq_true a2, a3, o, Z, cast_s, ↓mm_lt_s, ↓cl_in, ↓cl_wi, ↓cl_has, ↓cl_isP, mL_le, lit_n, litL_n, mL_mI, mL_neg, mm_cl_s, mI_lt, mI_le, mI_eq, enc_at, enc_wr, enc_cp, mI_neg, mI_add, mI_sub, mI_mul, mI_ix, mm_ck_ok, mm_nz_ok, mm_bo_c, mm_bo_m0, mm_bo_m1, b01, Int.toNat_natCast, Int.reduceToNat, Int.reduceNeg, Int.reduceSub, Int.reduceAdd, Int.reduceMul, Int.reduceLT, Int.reduceLE, Int.reduceEq, ↓reduceIte, not_true, not_false_eq_true, not_true_eq_false, and_self, true_and, and_true, false_and, and_false, Decidable.not_not, stv1, stv2, stv3, stv4]
        · simp (implicitDefEqProofs := false) (maxSteps := 1000000) (disch := omega) only [hs, c1, w1, a2, o, Z, cast_s, ↓mm_lt_s, ↓cl_in, ↓cl_wi, ↓cl_has, ↓cl_isP, mL_le, lit_n, litL_n, mL_mI, mL_neg, mm_cl_s, mI_lt, mI_le, mI_eq, enc_at, enc_wr, enc_cp, mI_neg, mI_add, mI_sub, mI_mul, mI_ix, mm_ck_ok, mm_nz_ok, mm_bo_c, mm_bo_m0, mm_bo_m1, b01, Int.toNat_natCast, Int.reduceToNat, Int.reduceNeg, Int.reduceSub, Int.reduceAdd, Int.reduceMul, Int.reduceLT, Int.reduceLE, Int.reduceEq, ↓reduceIte, not_true, not_false_eq_true, not_true_eq_false, and_self, true_and, and_true, false_and, and_false, Decidable.not_not, stv1, stv2, stv3, stv4]
      · have a2 : ¬ τ 5 i = 4 := by omega
        by_cases a3 : τ 5 i = 2
        · simp (implicitDefEqProofs := false) (maxSteps := 1000000) (disch := omega) only [hs, c1, w1, a3, o, Z, cast_s, ↓mm_lt_s, ↓cl_in, ↓cl_wi, ↓cl_has, ↓cl_isP, mL_le, lit_n, litL_n, mL_mI, mL_neg, mm_cl_s, mI_lt, mI_le, mI_eq, enc_at, enc_wr, enc_cp, mI_neg, mI_add, mI_sub, mI_mul, mI_ix, mm_ck_ok, mm_nz_ok, mm_bo_c, mm_bo_m0, mm_bo_m1, b01, Int.toNat_natCast, Int.reduceToNat, Int.reduceNeg, Int.reduceSub, Int.reduceAdd, Int.reduceMul, Int.reduceLT, Int.reduceLE, Int.reduceEq, ↓reduceIte, not_true, not_false_eq_true, not_true_eq_false, and_self, true_and, and_true, false_and, and_false, Decidable.not_not, stv1, stv2, stv3, stv4]
        · simp (implicitDefEqProofs := false) (maxSteps := 1000000) (disch := omega) only [hs, c1, w1, a2, a3, o, Z, cast_s, ↓mm_lt_s, ↓cl_in, ↓cl_wi, ↓cl_has, ↓cl_isP, mL_le, lit_n, litL_n, mL_mI, mL_neg, mm_cl_s, mI_lt, mI_le, mI_eq, enc_at, enc_wr, enc_cp, mI_neg, mI_add, mI_sub, mI_mul, mI_ix, mm_ck_ok, mm_nz_ok, mm_bo_c, mm_bo_m0, mm_bo_m1, b01, Int.toNat_natCast, Int.reduceToNat, Int.reduceNeg, Int.reduceSub, Int.reduceAdd, Int.reduceMul, Int.reduceLT, Int.reduceLE, Int.reduceEq, ↓reduceIte, not_true, not_false_eq_true, not_true_eq_false, and_self, true_and, and_true, false_and, and_false, Decidable.not_not, stv1, stv2, stv3, stv4]
