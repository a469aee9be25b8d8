/-! days: what is done for each walker, in both -/
def each (σ : IM) (lo hi : Nat) (g : Nat → Nat → Int) : IM := fun a b => if 34 + lo ≤ a ∧ a < 34 + hi then g (a - 34) b else σ a b
def eachM (τ : IM) (lo hi : Nat) (g : Nat → Nat → Int) : IM := fun a b => if (5 ≤ a ∧ a ≤ 17) ∧ lo ≤ b ∧ b < hi then g b a else τ a b
theorem each_nil {σ : IM} {i : Nat} {g : Nat → Nat → Int} : each σ i i g = σ := by
  funext a b
  unfold each
  rw [if_neg (by omega)]
theorem eachM_nil {τ : IM} {i : Nat} {g : Nat → Nat → Int} : eachM τ i i g = τ := by
  funext a b
  unfold eachM
  rw [if_neg (by omega)]
theorem each_in {σ : IM} {lo hi p b : Nat} {g : Nat → Nat → Int} (h1 : lo ≤ p) (h2 : p < hi) : each σ lo hi g (34 + p) b = g p b := by
  unfold each
  rw [if_pos (by omega), show 34 + p - 34 = p by omega]
theorem each_ne {σ : IM} {lo hi a b : Nat} {g : Nat → Nat → Int} (h : ¬ (34 + lo ≤ a ∧ a < 34 + hi)) : each σ lo hi g a b = σ a b := if_neg h
theorem eachM_in {τ : IM} {lo hi a p : Nat} {g : Nat → Nat → Int} (h0 : 5 ≤ a ∧ a ≤ 17) (h1 : lo ≤ p) (h2 : p < hi) : eachM τ lo hi g a p = g p a := if_pos ⟨h0, h1, h2⟩
theorem eachM_ne {τ : IM} {lo hi a b : Nat} {g : Nat → Nat → Int} (h : ¬ ((5 ≤ a ∧ a ≤ 17) ∧ lo ≤ b ∧ b < hi)) : eachM τ lo hi g a b = τ a b := if_neg h
theorem each_step {σ σ1 : IM} {i m : Nat} {g : IM → Nat → Nat → Int} (hi : i < m) (h1 : ∀ b, σ1 (34 + i) b = g σ i b) (h2 : ∀ a b, a ≠ 34 + i → σ1 a b = σ a b) (h3 : ∀ p b, p ≠ i → g σ1 p b = g σ p b) : each σ1 (i + 1) m (g σ1) = each σ i m (g σ) := by
  funext a b
  unfold each
  by_cases c : a = 34 + i
  · rw [if_neg (by omega), if_pos (by omega), c, h1, show 34 + i - 34 = i by omega]
  · by_cases c2 : 34 + i ≤ a ∧ a < 34 + m
    · rw [if_pos (by omega), if_pos c2, h3 _ _ (by omega)]
    · rw [if_neg (by omega), if_neg c2, h2 _ _ c]
theorem eachM_step {τ τ1 : IM} {i m : Nat} {g : IM → Nat → Nat → Int} (hi : i < m) (h1 : ∀ a, 5 ≤ a → a ≤ 17 → τ1 a i = g τ i a) (h2 : ∀ a b, ¬ ((5 ≤ a ∧ a ≤ 17) ∧ b = i) → τ1 a b = τ a b) (h3 : ∀ p a, p ≠ i → g τ1 p a = g τ p a) : eachM τ1 (i + 1) m (g τ1) = eachM τ i m (g τ) := by
  funext a b
  unfold eachM
  by_cases c : (5 ≤ a ∧ a ≤ 17) ∧ b = i
  · rw [if_neg (by omega), if_pos (by omega), c.2, h1 a c.1.1 c.1.2]
  · by_cases c2 : (5 ≤ a ∧ a ≤ 17) ∧ i ≤ b ∧ b < m
    · rw [if_pos (by omega), if_pos c2, h3 _ _ (by omega)]
    · rw [if_neg (by omega), if_neg c2, h2 _ _ c]
/-- a row that walks on for q minutes -/
def passR (q : Int) (σ : IM) (p b : Nat) : Int := if σ (34 + p) 8 = 1 then (if b = 12 then σ (34 + p) 12 + σ (34 + p) 13 * q else σ (34 + p) b) else if σ (34 + p) 8 = 2 then (if b = 16 then σ (34 + p) 16 + q else σ (34 + p) b) else σ (34 + p) b
/-- what a walker's numbers keep to -/
def WB (σ : IM) (p : Nat) : Prop := (0 ≤ σ (34 + p) 8 ∧ σ (34 + p) 8 ≤ 4) ∧ (0 ≤ σ (34 + p) 12 ∧ σ (34 + p) 12 ≤ 1000) ∧ (1 ≤ σ (34 + p) 13 ∧ σ (34 + p) 13 ≤ 40) ∧ (0 ≤ σ (34 + p) 16 ∧ σ (34 + p) 16 ≤ 1000)
theorem pass_s {σ : IM} {p : Nat} {q : Int} (h : WB σ p) (hq : 0 ≤ q ∧ q ≤ 500) : ∃ σ1 : IM, fX5_pass (34 + p) (mI q) (enc σ) = some (mI 0, enc σ1) ∧ (∀ b, σ1 (34 + p) b = passR q σ p b) ∧ ∀ a b, a ≠ 34 + p → σ1 a b = σ a b := by
  obtain ⟨h1, h2, h3, h4⟩ := h
  have m1 : 0 ≤ σ (34 + p) 13 * q := Int.mul_nonneg (by omega) hq.1
  have m2 : σ (34 + p) 13 * q ≤ 40 * 500 := Int.mul_le_mul (by omega) hq.2 hq.1 (by omega)
  unfold fX5_pass passR
  by_cases c1 : σ (34 + p) 8 = 1
  · refine ⟨iw σ (34 + p) 12 (σ (34 + p) 12 + σ (34 + p) 13 * q), ?_, fun b => ?_, fun a b hab => iw_ne (by omega)⟩
    · simp (implicitDefEqProofs := false) (maxSteps := 1000000) (disch := omega) only [c1, ↓mm_lt_s, ↓cl_in, ↓cl_wi, ↓cl_has, ↓cl_isP, mL_le, lit_n, litL_n, mL_mI, mL_neg, mm_cl_s, mI_lt, mI_le, mI_eq, enc_at, enc_wr, enc_cp, mI_neg, mI_add, mI_sub, mI_mul, mI_ix, mm_ck_ok, mm_nz_ok, mm_bo_c, mm_bo_m0, mm_bo_m1, b01, Int.toNat_natCast, Int.reduceToNat, Int.reduceNeg, Int.reduceSub, Int.reduceAdd, Int.reduceMul, Int.reduceLT, Int.reduceLE, Int.reduceEq, ↓reduceIte, not_true, not_false_eq_true, not_true_eq_false, and_self, true_and, and_true, false_and, and_false, Decidable.not_not, stv1, stv2, stv3, stv4]
    · rw [if_pos c1]
      unfold iw
      by_cases c : b = 12
      · rw [if_pos ⟨rfl, c⟩, if_pos c]
      · rw [if_neg (by omega), if_neg c]
  · by_cases c2 : σ (34 + p) 8 = 2
    · refine ⟨iw σ (34 + p) 16 (σ (34 + p) 16 + q), ?_, fun b => ?_, fun a b hab => iw_ne (by omega)⟩
      · have c3 : ¬ (2 : Int) = 1 := by omega
        simp (implicitDefEqProofs := false) (maxSteps := 1000000) (disch := omega) only [c2, c3, ↓mm_lt_s, ↓cl_in, ↓cl_wi, ↓cl_has, ↓cl_isP, mL_le, lit_n, litL_n, mL_mI, mL_neg, mm_cl_s, mI_lt, mI_le, mI_eq, enc_at, enc_wr, enc_cp, mI_neg, mI_add, mI_sub, mI_mul, mI_ix, mm_ck_ok, mm_nz_ok, mm_bo_c, mm_bo_m0, mm_bo_m1, b01, Int.toNat_natCast, Int.reduceToNat, Int.reduceNeg, Int.reduceSub, Int.reduceAdd, Int.reduceMul, Int.reduceLT, Int.reduceLE, Int.reduceEq, ↓reduceIte, not_true, not_false_eq_true, not_true_eq_false, and_self, true_and, and_true, false_and, and_false, Decidable.not_not, stv1, stv2, stv3, stv4]
      · rw [if_neg c1, if_pos c2]
        unfold iw
        by_cases c : b = 16
        · rw [if_pos ⟨rfl, c⟩, if_pos c]
        · rw [if_neg (by omega), if_neg c]
    · refine ⟨σ, ?_, fun b => ?_, fun a b hab => rfl⟩
      · simp (implicitDefEqProofs := false) (maxSteps := 1000000) (disch := omega) only [c1, c2, ↓mm_lt_s, ↓cl_in, ↓cl_wi, ↓cl_has, ↓cl_isP, mL_le, lit_n, litL_n, mL_mI, mL_neg, mm_cl_s, mI_lt, mI_le, mI_eq, enc_at, enc_wr, enc_cp, mI_neg, mI_add, mI_sub, mI_mul, mI_ix, mm_ck_ok, mm_nz_ok, mm_bo_c, mm_bo_m0, mm_bo_m1, b01, Int.toNat_natCast, Int.reduceToNat, Int.reduceNeg, Int.reduceSub, Int.reduceAdd, Int.reduceMul, Int.reduceLT, Int.reduceLE, Int.reduceEq, ↓reduceIte, not_true, not_false_eq_true, not_true_eq_false, and_self, true_and, and_true, false_and, and_false, Decidable.not_not, stv1, stv2, stv3, stv4]
      · rw [if_neg c1, if_neg c2]
theorem passR_o {q : Int} {σ σ1 : IM} {p b : Nat} (h : ∀ b, σ1 (34 + p) b = σ (34 + p) b) : passR q σ1 p b = passR q σ p b := by
  unfold passR
  rw [h, h, h, h, h]
theorem WB_o {σ σ1 : IM} {p : Nat} (h : ∀ b, σ1 (34 + p) b = σ (34 + p) b) (hW : WB σ p) : WB σ1 p := by
  unfold WB at *
  rw [h, h, h, h]
  exact hW
theorem passL {K : Mm → Aa} {z : Int32 → Mm → Aa} {m : Nat} {q : Int} (hm : m ≤ 10) (hq : 0 ≤ q ∧ q ≤ 500) : ∀ (d i N : Nat) (σ : IM), i + d = m → d < N → σ 30 6 = (m : Int) → (∀ p, i ≤ p → p < m → WB σ p) → mm_lk z (fX0_run_L50 (mI q) K) N (mI i) (enc σ) = K (enc (each σ i m (passR q σ)))
  | d, i, 0, σ, _, h, _, _ => absurd h (Nat.not_lt_zero d)
  | 0, i, N + 1, σ, h, _, hs, _ => by
    have e : i = m := by omega
    subst e
    rw [mm_lk_s, fX0_run_L50, each_nil]
    simp (implicitDefEqProofs := false) (maxSteps := 1000000) (disch := omega) only [hs, ↓mm_lt_s, ↓cl_in, ↓cl_wi, ↓cl_has, ↓cl_isP, mL_le, lit_n, litL_n, mL_mI, mL_neg, mm_cl_s, mI_lt, mI_le, mI_eq, enc_at, enc_wr, enc_cp, mI_neg, mI_add, mI_sub, mI_mul, mI_ix, mm_ck_ok, mm_nz_ok, mm_bo_c, mm_bo_m0, mm_bo_m1, b01, Int.toNat_natCast, Int.reduceToNat, Int.reduceNeg, Int.reduceSub, Int.reduceAdd, Int.reduceMul, Int.reduceLT, Int.reduceLE, Int.reduceEq, ↓reduceIte, not_true, not_false_eq_true, not_true_eq_false, and_self, true_and, and_true, false_and, and_false, Decidable.not_not, stv1, stv2, stv3, stv4]
    repeat (first | rw [if_pos (by omega)] | rw [if_neg (by omega)])
  | d + 1, i, N + 1, σ, h, h2, hs, hW => by
    obtain ⟨σ1, p1, p2, p3⟩ := pass_s (hW i (by omega) (by omega)) hq
    have c1 : ¬ (m : Int) ≤ (i : Int) := by omega
    rw [mm_lk_s, fX0_run_L50]
    simp (implicitDefEqProofs := false) (maxSteps := 1000000) (disch := omega) only [hs, c1, ↓mm_lt_s, ↓cl_in, ↓cl_wi, ↓cl_has, ↓cl_isP, mL_le, lit_n, litL_n, mL_mI, mL_neg, mm_cl_s, mI_lt, mI_le, mI_eq, enc_at, enc_wr, enc_cp, mI_neg, mI_add, mI_sub, mI_mul, mI_ix, mm_ck_ok, mm_nz_ok, mm_bo_c, mm_bo_m0, mm_bo_m1, b01, Int.toNat_natCast, Int.reduceToNat, Int.reduceNeg, Int.reduceSub, Int.reduceAdd, Int.reduceMul, Int.reduceLT, Int.reduceLE, Int.reduceEq, ↓reduceIte, not_true, not_false_eq_true, not_true_eq_false, and_self, true_and, and_true, false_and, and_false, Decidable.not_not, stv1, stv2, stv3, stv4]
    rw [p1]
    simp (implicitDefEqProofs := false) (maxSteps := 1000000) (disch := omega) only [cast_s, ↓mm_lt_s, ↓cl_in, ↓cl_wi, ↓cl_has, ↓cl_isP, mL_le, lit_n, litL_n, mL_mI, mL_neg, mm_cl_s, mI_lt, mI_le, mI_eq, enc_at, enc_wr, enc_cp, mI_neg, mI_add, mI_sub, mI_mul, mI_ix, mm_ck_ok, mm_nz_ok, mm_bo_c, mm_bo_m0, mm_bo_m1, b01, Int.toNat_natCast, Int.reduceToNat, Int.reduceNeg, Int.reduceSub, Int.reduceAdd, Int.reduceMul, Int.reduceLT, Int.reduceLE, Int.reduceEq, ↓reduceIte, not_true, not_false_eq_true, not_true_eq_false, and_self, true_and, and_true, false_and, and_false, Decidable.not_not, stv1, stv2, stv3, stv4]
    rw [← each_step (g := passR q) (by omega) p2 p3 (fun p b hp => passR_o (fun b => p3 _ _ (by omega)))]
    refine passL hm hq d (i + 1) N σ1 (by omega) (by omega) (by rw [p3 _ _ (by omega)]; exact hs) (fun p hp hp2 => WB_o (fun b => p3 _ _ (by omega)) (hW p (by omega) hp2))
/-- a row in the minute's walk -/
def walkR (σ : IM) (p b : Nat) : Int := if σ (34 + p) 8 = 1 then (if b = 12 then σ (34 + p) 12 + σ (34 + p) 13 else if b = 8 then (if σ (34 + p) 12 + σ (34 + p) 13 < σ 30 3 then 1 else 2) else σ (34 + p) b) else σ (34 + p) b
theorem walkR_o {σ σ1 : IM} {p b : Nat} (h : ∀ b, σ1 (34 + p) b = σ (34 + p) b) (h3 : σ1 30 3 = σ 30 3) : walkR σ1 p b = walkR σ p b := by
  unfold walkR
  rw [h, h, h, h, h3]
theorem walkX_L {K : Mm → Aa} {z : Int32 → Mm → Aa} {m : Nat} (hm : m ≤ 10) : ∀ (d i N : Nat) (σ : IM), i + d = m → d < N → σ 30 6 = (m : Int) → (1 ≤ σ 30 3 ∧ σ 30 3 ≤ 400) → (∀ p, i ≤ p → p < m → WB σ p) → mm_lk z (fX0_walk_L2 K) N (mI i) (enc σ) = K (enc (each σ i m (walkR σ)))
  | d, i, 0, σ, _, h, _, _, _ => absurd h (Nat.not_lt_zero d)
  | 0, i, N + 1, σ, h, _, hs, _, _ => by
    have e : i = m := by omega
    subst e
    rw [mm_lk_s, fX0_walk_L2, each_nil]
    simp (implicitDefEqProofs := false) (maxSteps := 1000000) (disch := omega) only [hs, ↓mm_lt_s, ↓cl_in, ↓cl_wi, ↓cl_has, ↓cl_isP, mL_le, lit_n, litL_n, mL_mI, mL_neg, mm_cl_s, mI_lt, mI_le, mI_eq, enc_at, enc_wr, enc_cp, mI_neg, mI_add, mI_sub, mI_mul, mI_ix, mm_ck_ok, mm_nz_ok, mm_bo_c, mm_bo_m0, mm_bo_m1, b01, Int.toNat_natCast, Int.reduceToNat, Int.reduceNeg, Int.reduceSub, Int.reduceAdd, Int.reduceMul, Int.reduceLT, Int.reduceLE, Int.reduceEq, ↓reduceIte, not_true, not_false_eq_true, not_true_eq_false, and_self, true_and, and_true, false_and, and_false, Decidable.not_not, stv1, stv2, stv3, stv4]
    repeat (first | rw [if_pos (by omega)] | rw [if_neg (by omega)])
  | d + 1, i, N + 1, σ, h, h2, hs, h3, hW => by
    obtain ⟨w1, w2, w3, w4⟩ := hW i (by omega) (by omega)
    have c1 : ¬ (m : Int) ≤ (i : Int) := by omega
    by_cases c2 : σ (34 + i) 8 = 1
    · obtain ⟨σ1, p1, p2, p3⟩ := pass_s (q := 1) (hW i (by omega) (by omega)) (by omega)
      have e1 : σ1 (34 + i) 12 = σ (34 + i) 12 + σ (34 + i) 13 := by
        rw [p2]; unfold passR; rw [if_pos c2, if_pos rfl, Int.mul_one]
      have e2 : σ1 30 3 = σ 30 3 := p3 _ _ (by omega)
      have st : ∀ v : Int, (if σ (34 + i) 12 + σ (34 + i) 13 < σ 30 3 then 1 else 2) = v → each (iw σ1 (34 + i) 8 v) (i + 1) m (walkR (iw σ1 (34 + i) 8 v)) = each σ i m (walkR σ) := fun v hv => by
        refine each_step (g := walkR) (by omega) (fun b => ?_) (fun a b hab => ?_) (fun p b hp => walkR_o (fun b => ?_) ?_)
        · unfold iw walkR
          rw [if_pos c2]
          by_cases c8 : b = 8
          · rw [if_pos ⟨rfl, c8⟩, if_neg (by omega), if_pos c8, hv]
          · rw [if_neg (by omega), p2]
            unfold passR
            rw [if_pos c2]
            by_cases c12 : b = 12
            · rw [if_pos c12, if_pos c12, Int.mul_one]
            · rw [if_neg c12, if_neg c12, if_neg c8]
        · rw [iw_ne (by omega)]; exact p3 _ _ hab
        · rw [iw_ne (by omega)]; exact p3 _ _ (by omega)
        · rw [iw_ne (by omega)]; exact e2
      have hR : ∀ v : Int, mm_lk z (fX0_walk_L2 K) N (mI ((i + 1 : Nat) : Int)) (enc (iw σ1 (34 + i) 8 v)) = K (enc (each (iw σ1 (34 + i) 8 v) (i + 1) m (walkR (iw σ1 (34 + i) 8 v)))) := fun v => by
        refine walkX_L hm d (i + 1) N _ (by omega) (by omega) (by rw [iw_ne (by omega), p3 _ _ (by omega)]; exact hs) (by rw [iw_ne (by omega), e2]; exact h3) (fun p hp hp2 => WB_o (fun b => ?_) (hW p (by omega) hp2))
        rw [iw_ne (by omega)]; exact p3 _ _ (by omega)
      rw [mm_lk_s, fX0_walk_L2]
      simp (implicitDefEqProofs := false) (maxSteps := 1000000) (disch := omega) only [hs, c1, c2, ↓mm_lt_s, ↓cl_in, ↓cl_wi, ↓cl_has, ↓cl_isP, mL_le, lit_n, litL_n, mL_mI, mL_neg, mm_cl_s, mI_lt, mI_le, mI_eq, enc_at, enc_wr, enc_cp, mI_neg, mI_add, mI_sub, mI_mul, mI_ix, mm_ck_ok, mm_nz_ok, mm_bo_c, mm_bo_m0, mm_bo_m1, b01, Int.toNat_natCast, Int.reduceToNat, Int.reduceNeg, Int.reduceSub, Int.reduceAdd, Int.reduceMul, Int.reduceLT, Int.reduceLE, Int.reduceEq, ↓reduceIte, not_true, not_false_eq_true, not_true_eq_false, and_self, true_and, and_true, false_and, and_false, Decidable.not_not, stv1, stv2, stv3, stv4]
      rw [p1]
      by_cases c4 : σ (34 + i) 12 + σ (34 + i) 13 < σ 30 3
      · simp (implicitDefEqProofs := false) (maxSteps := 1000000) (disch := omega) only [e1, e2, c4, cast_s, ↓mm_lt_s, ↓cl_in, ↓cl_wi, ↓cl_has, ↓cl_isP, mL_le, lit_n, litL_n, mL_mI, mL_neg, mm_cl_s, mI_lt, mI_le, mI_eq, enc_at, enc_wr, enc_cp, mI_neg, mI_add, mI_sub, mI_mul, mI_ix, mm_ck_ok, mm_nz_ok, mm_bo_c, mm_bo_m0, mm_bo_m1, b01, Int.toNat_natCast, Int.reduceToNat, Int.reduceNeg, Int.reduceSub, Int.reduceAdd, Int.reduceMul, Int.reduceLT, Int.reduceLE, Int.reduceEq, ↓reduceIte, not_true, not_false_eq_true, not_true_eq_false, and_self, true_and, and_true, false_and, and_false, Decidable.not_not, stv1, stv2, stv3, stv4]
        rw [hR, st 1 (if_pos c4)]
      · simp (implicitDefEqProofs := false) (maxSteps := 1000000) (disch := omega) only [e1, e2, c4, cast_s, ↓mm_lt_s, ↓cl_in, ↓cl_wi, ↓cl_has, ↓cl_isP, mL_le, lit_n, litL_n, mL_mI, mL_neg, mm_cl_s, mI_lt, mI_le, mI_eq, enc_at, enc_wr, enc_cp, mI_neg, mI_add, mI_sub, mI_mul, mI_ix, mm_ck_ok, mm_nz_ok, mm_bo_c, mm_bo_m0, mm_bo_m1, b01, Int.toNat_natCast, Int.reduceToNat, Int.reduceNeg, Int.reduceSub, Int.reduceAdd, Int.reduceMul, Int.reduceLT, Int.reduceLE, Int.reduceEq, ↓reduceIte, not_true, not_false_eq_true, not_true_eq_false, and_self, true_and, and_true, false_and, and_false, Decidable.not_not, stv1, stv2, stv3, stv4]
        rw [hR, st 2 (if_neg c4)]
    · rw [mm_lk_s, fX0_walk_L2]
      simp (implicitDefEqProofs := false) (maxSteps := 1000000) (disch := omega) only [hs, c1, c2, cast_s, ↓mm_lt_s, ↓cl_in, ↓cl_wi, ↓cl_has, ↓cl_isP, mL_le, lit_n, litL_n, mL_mI, mL_neg, mm_cl_s, mI_lt, mI_le, mI_eq, enc_at, enc_wr, enc_cp, mI_neg, mI_add, mI_sub, mI_mul, mI_ix, mm_ck_ok, mm_nz_ok, mm_bo_c, mm_bo_m0, mm_bo_m1, b01, Int.toNat_natCast, Int.reduceToNat, Int.reduceNeg, Int.reduceSub, Int.reduceAdd, Int.reduceMul, Int.reduceLT, Int.reduceLE, Int.reduceEq, ↓reduceIte, not_true, not_false_eq_true, not_true_eq_false, and_self, true_and, and_true, false_and, and_false, Decidable.not_not, stv1, stv2, stv3, stv4]
      rw [walkX_L hm d (i + 1) N σ (by omega) (by omega) hs h3 (fun p hp hp2 => hW p (by omega) hp2)]
      rw [each_step (g := walkR) (by omega) (fun b => ?_) (fun a b hab => rfl) (fun p b hp => rfl)]
      unfold walkR
      rw [if_neg c2]
theorem walk_s {σ : IM} {m : Nat} (hm : m ≤ 10) (hs : σ 30 6 = (m : Int)) (h3 : 1 ≤ σ 30 3 ∧ σ 30 3 ≤ 400) (hW : ∀ p, p < m → WB σ p) : fX0_walk (enc σ) = some (mI 0, enc (each σ 0 m (walkR σ))) := by
  unfold fX0_walk
  generalize hfu : mm_fu = NF; have hNF : 4096 ≤ NF := by rw [← hfu]; exact Nat.le_refl _
  simp (implicitDefEqProofs := false) (maxSteps := 1000000) (disch := omega) only [↓mm_lt_s, ↓cl_in, ↓cl_wi, ↓cl_has, ↓cl_isP, mL_le, lit_n, litL_n, mL_mI, mL_neg, mm_cl_s, mI_lt, mI_le, mI_eq, enc_at, enc_wr, enc_cp, mI_neg, mI_add, mI_sub, mI_mul, mI_ix, mm_ck_ok, mm_nz_ok, mm_bo_c, mm_bo_m0, mm_bo_m1, b01, Int.toNat_natCast, Int.reduceToNat, Int.reduceNeg, Int.reduceSub, Int.reduceAdd, Int.reduceMul, Int.reduceLT, Int.reduceLE, Int.reduceEq, ↓reduceIte, not_true, not_false_eq_true, not_true_eq_false, and_self, true_and, and_true, false_and, and_false, Decidable.not_not, stv1, stv2, stv3, stv4]
  have E := walkX_L (K := fun m2 => some (mI 0, m2)) (z := fun _ _ => none) hm m 0 NF σ (by omega) (by omega) hs h3 (fun p _ hp => hW p hp)
  rw [cast0] at E
  exact E
/-- the same in the reference -/
def WM (τ : IM) (p : Nat) : Prop := (0 ≤ τ 5 p ∧ τ 5 p ≤ 4) ∧ (0 ≤ τ 8 p ∧ τ 8 p ≤ 1) ∧ (0 ≤ τ 7 p ∧ τ 7 p ≤ 1000) ∧ (τ 5 p = 2 → 1 ≤ τ 11 p ∧ τ 11 p ≤ 40)
def goR (τ : IM) (p a : Nat) : Int := if τ 5 p = 2 ∧ τ 8 p = 0 then (if a = 7 then τ 7 p + τ 11 p else if a = 8 then (if τ 7 p + τ 11 p < τ 0 23 then 0 else 1) else τ a p) else τ a p
theorem goR_o {τ τ1 : IM} {p a : Nat} (h : ∀ a, τ1 a p = τ a p) (h3 : τ1 0 23 = τ 0 23) : goR τ1 p a = goR τ p a := by
  unfold goR
  rw [h, h, h, h, h, h3]
theorem goOn_L {K : Mm → Aa} {z : Int32 → Mm → Aa} {m : Nat} (hm : m ≤ 10) : ∀ (d i N : Nat) (τ : IM), i + d = m → d < N → τ 0 1 = (m : Int) → (1 ≤ τ 0 23 ∧ τ 0 23 ≤ 400) → (∀ p, i ≤ p → p < m → WM τ p) → mm_lk z (fX7_goOn_L2 K) N (mI i) (enc τ) = K (enc (eachM τ i m (goR τ)))
  | d, i, 0, τ, _, h, _, _, _ => absurd h (Nat.not_lt_zero d)
  | 0, i, N + 1, τ, h, _, hs, _, _ => by
    have e : i = m := by omega
    subst e
    rw [mm_lk_s, fX7_goOn_L2, eachM_nil]
    simp (implicitDefEqProofs := false) (maxSteps := 1000000) (disch := omega) only [hs, ↓mm_lt_s, ↓cl_in, ↓cl_wi, ↓cl_has, ↓cl_isP, mL_le, lit_n, litL_n, mL_mI, mL_neg, mm_cl_s, mI_lt, mI_le, mI_eq, enc_at, enc_wr, enc_cp, mI_neg, mI_add, mI_sub, mI_mul, mI_ix, mm_ck_ok, mm_nz_ok, mm_bo_c, mm_bo_m0, mm_bo_m1, b01, Int.toNat_natCast, Int.reduceToNat, Int.reduceNeg, Int.reduceSub, Int.reduceAdd, Int.reduceMul, Int.reduceLT, Int.reduceLE, Int.reduceEq, ↓reduceIte, not_true, not_false_eq_true, not_true_eq_false, and_self, true_and, and_true, false_and, and_false, Decidable.not_not, stv1, stv2, stv3, stv4]
    repeat (first | rw [if_pos (by omega)] | rw [if_neg (by omega)])
  | d + 1, i, N + 1, τ, h, h2, hs, h3, hW => by
    obtain ⟨w1, w2, w3, w4⟩ := hW i (by omega) (by omega)
    have c1 : ¬ (m : Int) ≤ (i : Int) := by omega
    by_cases c2 : τ 5 i = 2 ∧ τ 8 i = 0
    · have w5 := w4 c2.1
      have e1 : iw τ 7 i (τ 7 i + τ 11 i) 7 i = τ 7 i + τ 11 i := iw_eq rfl rfl
      have e2 : iw τ 7 i (τ 7 i + τ 11 i) 0 23 = τ 0 23 := iw_ne (by omega)
      have st : ∀ v : Int, (if τ 7 i + τ 11 i < τ 0 23 then 0 else 1) = v → eachM (iw (iw τ 7 i (τ 7 i + τ 11 i)) 8 i v) (i + 1) m (goR (iw (iw τ 7 i (τ 7 i + τ 11 i)) 8 i v)) = eachM τ i m (goR τ) := fun v hv => by
        refine eachM_step (g := goR) (by omega) (fun a _ _ => ?_) (fun a b hab => ?_) (fun p b hp => goR_o (fun a => ?_) ?_)
        · unfold iw goR
          rw [if_pos c2]
          by_cases c8 : a = 8
          · rw [if_pos ⟨c8, rfl⟩, if_neg (by omega), if_pos c8, hv]
          · rw [if_neg (by omega)]
            by_cases c12 : a = 7
            · rw [if_pos ⟨c12, rfl⟩, if_pos c12]
            · rw [if_neg (by omega), if_neg c12, if_neg c8]
        · rw [iw_ne (by omega), iw_ne (by omega)]
        · rw [iw_ne (by omega), iw_ne (by omega)]
        · rw [iw_ne (by omega), iw_ne (by omega)]
      have hR : ∀ v : Int, mm_lk z (fX7_goOn_L2 K) N (mI ((i + 1 : Nat) : Int)) (enc (iw (iw τ 7 i (τ 7 i + τ 11 i)) 8 i v)) = K (enc (eachM (iw (iw τ 7 i (τ 7 i + τ 11 i)) 8 i v) (i + 1) m (goR (iw (iw τ 7 i (τ 7 i + τ 11 i)) 8 i v)))) := fun v => by
        refine goOn_L hm d (i + 1) N _ (by omega) (by omega) (by rw [iw_ne (by omega), iw_ne (by omega)]; exact hs) (by rw [iw_ne (by omega), iw_ne (by omega)]; exact h3) (fun p hp hp2 => ?_)
        have := hW p (by omega) hp2
        unfold WM at *
        rw [iw_ne (by omega), iw_ne (by omega), iw_ne (by omega), iw_ne (by omega), iw_ne (by omega), iw_ne (by omega), iw_ne (by omega), iw_ne (by omega)]
        exact this
      rw [mm_lk_s, fX7_goOn_L2]
      by_cases c4 : τ 7 i + τ 11 i < τ 0 23
      · simp (implicitDefEqProofs := false) (maxSteps := 1000000) (disch := omega) only [hs, c1, c2.1, c2.2, e1, e2, c4, cast_s, ↓mm_lt_s, ↓cl_in, ↓cl_wi, ↓cl_has, ↓cl_isP, mL_le, lit_n, litL_n, mL_mI, mL_neg, mm_cl_s, mI_lt, mI_le, mI_eq, enc_at, enc_wr, enc_cp, mI_neg, mI_add, mI_sub, mI_mul, mI_ix, mm_ck_ok, mm_nz_ok, mm_bo_c, mm_bo_m0, mm_bo_m1, b01, Int.toNat_natCast, Int.reduceToNat, Int.reduceNeg, Int.reduceSub, Int.reduceAdd, Int.reduceMul, Int.reduceLT, Int.reduceLE, Int.reduceEq, ↓reduceIte, not_true, not_false_eq_true, not_true_eq_false, and_self, true_and, and_true, false_and, and_false, Decidable.not_not, stv1, stv2, stv3, stv4]
        rw [hR, st 0 (if_pos c4)]
      · simp (implicitDefEqProofs := false) (maxSteps := 1000000) (disch := omega) only [hs, c1, c2.1, c2.2, e1, e2, c4, cast_s, ↓mm_lt_s, ↓cl_in, ↓cl_wi, ↓cl_has, ↓cl_isP, mL_le, lit_n, litL_n, mL_mI, mL_neg, mm_cl_s, mI_lt, mI_le, mI_eq, enc_at, enc_wr, enc_cp, mI_neg, mI_add, mI_sub, mI_mul, mI_ix, mm_ck_ok, mm_nz_ok, mm_bo_c, mm_bo_m0, mm_bo_m1, b01, Int.toNat_natCast, Int.reduceToNat, Int.reduceNeg, Int.reduceSub, Int.reduceAdd, Int.reduceMul, Int.reduceLT, Int.reduceLE, Int.reduceEq, ↓reduceIte, not_true, not_false_eq_true, not_true_eq_false, and_self, true_and, and_true, false_and, and_false, Decidable.not_not, stv1, stv2, stv3, stv4]
        rw [hR, st 1 (if_neg c4)]
    · have hE : eachM τ (i + 1) m (goR τ) = eachM τ i m (goR τ) := by
        refine eachM_step (g := goR) (by omega) (fun a _ _ => ?_) (fun a b hab => rfl) (fun p b hp => rfl)
        unfold goR
        rw [if_neg c2]
      rw [← hE, ← goOn_L (K := K) (z := z) hm d (i + 1) N τ (by omega) (by omega) hs h3 (fun p hp hp2 => hW p (by omega) hp2), mm_lk_s, fX7_goOn_L2]
      by_cases c5 : τ 5 i = 2
      · have c6 : ¬ τ 8 i = 0 := fun e => c2 ⟨c5, e⟩
        simp (implicitDefEqProofs := false) (maxSteps := 1000000) (disch := omega) only [hs, c1, c5, c6, cast_s, ↓mm_lt_s, ↓cl_in, ↓cl_wi, ↓cl_has, ↓cl_isP, mL_le, lit_n, litL_n, mL_mI, mL_neg, mm_cl_s, mI_lt, mI_le, mI_eq, enc_at, enc_wr, enc_cp, mI_neg, mI_add, mI_sub, mI_mul, mI_ix, mm_ck_ok, mm_nz_ok, mm_bo_c, mm_bo_m0, mm_bo_m1, b01, Int.toNat_natCast, Int.reduceToNat, Int.reduceNeg, Int.reduceSub, Int.reduceAdd, Int.reduceMul, Int.reduceLT, Int.reduceLE, Int.reduceEq, ↓reduceIte, not_true, not_false_eq_true, not_true_eq_false, and_self, true_and, and_true, false_and, and_false, Decidable.not_not, stv1, stv2, stv3, stv4]
      · simp (implicitDefEqProofs := false) (maxSteps := 1000000) (disch := omega) only [hs, c1, c5, cast_s, ↓mm_lt_s, ↓cl_in, ↓cl_wi, ↓cl_has, ↓cl_isP, mL_le, lit_n, litL_n, mL_mI, mL_neg, mm_cl_s, mI_lt, mI_le, mI_eq, enc_at, enc_wr, enc_cp, mI_neg, mI_add, mI_sub, mI_mul, mI_ix, mm_ck_ok, mm_nz_ok, mm_bo_c, mm_bo_m0, mm_bo_m1, b01, Int.toNat_natCast, Int.reduceToNat, Int.reduceNeg, Int.reduceSub, Int.reduceAdd, Int.reduceMul, Int.reduceLT, Int.reduceLE, Int.reduceEq, ↓reduceIte, not_true, not_false_eq_true, not_true_eq_false, and_self, true_and, and_true, false_and, and_false, Decidable.not_not, stv1, stv2, stv3, stv4]
theorem goOn_s {τ : IM} {m : Nat} (hm : m ≤ 10) (hs : τ 0 1 = (m : Int)) (h3 : 1 ≤ τ 0 23 ∧ τ 0 23 ≤ 400) (hW : ∀ p, p < m → WM τ p) : fX7_goOn (enc τ) = some (mI 0, enc (eachM τ 0 m (goR τ))) := by
  unfold fX7_goOn
  generalize hfu : mm_fu = NF; have hNF : 4096 ≤ NF := by rw [← hfu]; exact Nat.le_refl _
  simp (implicitDefEqProofs := false) (maxSteps := 1000000) (disch := omega) only [↓mm_lt_s, ↓cl_in, ↓cl_wi, ↓cl_has, ↓cl_isP, mL_le, lit_n, litL_n, mL_mI, mL_neg, mm_cl_s, mI_lt, mI_le, mI_eq, enc_at, enc_wr, enc_cp, mI_neg, mI_add, mI_sub, mI_mul, mI_ix, mm_ck_ok, mm_nz_ok, mm_bo_c, mm_bo_m0, mm_bo_m1, b01, Int.toNat_natCast, Int.reduceToNat, Int.reduceNeg, Int.reduceSub, Int.reduceAdd, Int.reduceMul, Int.reduceLT, Int.reduceLE, Int.reduceEq, ↓reduceIte, not_true, not_false_eq_true, not_true_eq_false, and_self, true_and, and_true, false_and, and_false, Decidable.not_not, stv1, stv2, stv3, stv4]
  have E := goOn_L (K := fun m2 => some (mI 0, m2)) (z := fun _ _ => none) hm m 0 NF τ (by omega) (by omega) hs h3 (fun p _ hp => hW p hp)
  rw [cast0] at E
  exact E
