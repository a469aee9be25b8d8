/-! soonest: one minute of both -/
theorem turnC {n : Nat} {w : Nat → Nat} {t left : Int} {τ : IM} (ht : 1 ≤ t ∧ t ≤ 999) (hW : WK τ n w) (hl : 0 < left ∧ left ≤ 6) (hB : ∀ k, k < n → (0 ≤ τ 20 k ∧ τ 20 k < n) ∧ (-1 ≤ τ 22 k ∧ τ 22 k ≤ 1000) ∧ (0 ≤ τ 8 k ∧ τ 8 k ≤ 1) ∧ (0 ≤ τ 7 k ∧ τ 7 k ≤ 1000)) (h23 : 1 ≤ τ 0 23 ∧ τ 0 23 ≤ 400) (h26 : 0 ≤ τ 0 26 ∧ τ 0 26 ≤ 2) (h0 : 0 ≤ τ 2 0 ∧ τ 2 0 ≤ 200) (h2 : 0 ≤ τ 2 2 ∧ τ 2 2 ≤ 200) (h18 : -1000 ≤ τ 18 0 ∧ τ 18 0 ≤ 1000) {τ1 : IM} (hτ1 : τ1 = eachM τ 0 n (fun k => gsC (τ 0 23) (pcW τ w k) (fun a => τ a k))) : ∃ τ' : IM, (∀ (N : Nat) (K : Mm → Aa) (z : Int32 → Int32 → Mm → Aa), mm_lk z (fX7_goCompanies_L11 K) (N + 1) (mI left) (mI t) (enc τ) = mm_lk z (fX7_goCompanies_L11 K) N (mI (left - (lfC τ1 n n : Int))) (mI (t + 1)) (enc τ')) ∧ (∀ k, k < n → τ' 7 k = τ1 7 k ∧ τ' 8 k = τ1 8 k ∧ τ' 22 k = (if gonP τ1 n n k then t else τ 22 k)) ∧ τ' 18 0 = (if τ 0 26 = 2 ∧ ¬ (plC τ1 w n n : Int) = 0 ∧ ¬ t - τ 2 2 ≤ τ 18 0 then t else τ 18 0) ∧ τ' 0 23 = (if τ 0 23 + τ 2 0 * (cntV (plC τ1 w n n : Int) t (τ 18 0) (τ 0 26) (τ 2 2) + (spC τ1 w n n : Int)) < 400 then τ 0 23 + τ 2 0 * (cntV (plC τ1 w n n : Int) t (τ 18 0) (τ 0 26) (τ 2 2) + (spC τ1 w n n : Int)) else 400) ∧ ∀ a b, ¬ ((a = 7 ∨ a = 8 ∨ a = 22) ∧ b < n) → ¬ (a = 18 ∧ b = 0) → ¬ (a = 0 ∧ b = 23) → τ' a b = τ a b := by
  have h29 := hW.1.1
  have h6 := hW.1.2
  have k2 : ∀ a b, ¬ ((a = 7 ∨ a = 8) ∧ b < n) → τ1 a b = τ a b := fun a b hab => by
    rw [hτ1]
    by_cases c : (5 ≤ a ∧ a ≤ 17) ∧ b < n
    · rw [eachM_in c.1 (by omega) c.2]
      unfold gsC
      dsimp only
      split
      · rw [if_neg (by omega), if_neg (by omega)]
      · rfl
    · rw [eachM_ne (by omega)]
  have k8 : ∀ k, k < n → 0 ≤ τ1 8 k ∧ τ1 8 k ≤ 1 := fun k hk => by
    rw [hτ1, eachM_in (by omega) (by omega) hk]
    unfold gsC
    dsimp only
    have := (hB k hk).2.2.1
    split
    · rw [if_neg (by omega), if_pos rfl]
      split <;> omega
    · exact this
  have W1 : WK τ1 n w := hW.cong (k2 _ _ (by omega)) (fun b => k2 _ _ (by omega)) (fun b => k2 _ _ (by omega))
  have G := fun K z NF (hNF : n < NF) => gsM_L (K := K) (z := z) (n := n) (w := w) n 0 NF τ (by omega) hNF hW (fun k _ hk => ⟨(hB k hk).2.2.2, (hB k hk).2.2.1⟩) h23
  rw [← hτ1, cast0] at G
  have S := fun K z NF (hNF : n < NF) => stageL (n := n) (w := w) (t := t) (left := left) (τ := τ1) (by omega) W1 (by omega) (fun k hk => by
    rw [k2 20 _ (by omega), k2 22 _ (by omega)]
    exact ⟨(hB k hk).1, (hB k hk).2.1, k8 k hk⟩) n 0 (by omega) NF hNF K z
  have z1 : lfC τ1 n 0 = 0 := cN_0 n (fun k hk x => by
    have := x.1
    rw [k2 20 _ (by omega)] at this
    have := (hB k hk).1
    omega)
  have z2 : plC τ1 w n 0 = 0 := rfl
  have z3 : spC τ1 w n 0 = 0 := cN_0 n (fun k hk x => by
    have := x.1.1
    rw [k2 20 _ (by omega)] at this
    have := (hB k hk).1
    omega)
  have z4 : SC τ1 t n 0 = τ1 := by
    funext a b
    refine if_neg (fun x => ?_)
    have y := x.2.2.1
    rw [k2 20 _ (by omega)] at y
    have := (hB b x.2.1).1
    omega
  rw [z1, z2, z3, z4, cast0, show left - ((0 : Nat) : Int) = left by omega] at S
  have pb : plC τ1 w n n ≤ n := cN_le n
  have sb : spC τ1 w n n ≤ n := cN_le n
  have f2 : ∀ a b, ¬ ((a = 7 ∨ a = 8 ∨ a = 22) ∧ b < n) → SC τ1 t n n a b = τ a b := fun a b hab => by rw [SC_ne (by omega), k2 a b (by omega)]
  obtain ⟨τ3, C1, C2, C3⟩ := countM (τ := SC τ1 t n n) (l := 0) (c := (plC τ1 w n n : Int)) (s := (spC τ1 w n n : Int)) (t := t) (by omega) (by omega) (by omega) (by omega) (by rw [f2 _ _ (by omega)]; omega) (by rw [f2 _ _ (by omega)]; omega) (by rw [f2 _ _ (by omega)]; exact h18)
  rw [f2 18 0 (by omega), f2 0 26 (by omega), f2 2 2 (by omega)] at C1 C3
  have cr := cntV_rng (c := (plC τ1 w n n : Int)) (t := t) (last := τ 18 0) (l1 := τ 0 26) (l2 := τ 2 2) (by omega)
  generalize hcv : cntV (plC τ1 w n n : Int) t (τ 18 0) (τ 0 26) (τ 2 2) + (spC τ1 w n n : Int) = cv at *
  have cvb : 0 ≤ cv ∧ cv ≤ 20 := by omega
  have m1 : 0 ≤ τ 2 0 * cv := Int.mul_nonneg h0.1 cvb.1
  have m2 : τ 2 0 * cv ≤ 200 * 20 := Int.mul_le_mul h0.2 cvb.2 cvb.1 (by omega)
  have lb : lfC τ1 n n ≤ n := cN_le n
  have g23 : SC τ1 t n n 0 23 = τ 0 23 := f2 _ _ (by omega)
  have g20 : SC τ1 t n n 2 0 = τ 2 0 := f2 _ _ (by omega)
  have e3 : (if 400 < τ 0 23 + τ 2 0 * cv then 400 else τ 0 23 + τ 2 0 * cv) = (if τ 0 23 + τ 2 0 * cv < 400 then τ 0 23 + τ 2 0 * cv else 400) := by
    generalize τ 0 23 + τ 2 0 * cv = v
    split <;> split <;> omega
  refine ⟨iw τ3 0 23 (if τ 0 23 + τ 2 0 * cv < 400 then τ 0 23 + τ 2 0 * cv else 400), fun N K z => ?_, fun k hk => ?_, ?_, ?_, fun a b hab h1 h2 => ?_⟩
  · have nl : ¬ left ≤ 0 := by omega
    rw [show (((0 : Nat) : Int)) = 0 from rfl] at C1
    rw [← e3, mm_lk_s, fX7_goCompanies_L11]
    generalize left - (lfC τ1 n n : Int) = lv at *
    generalize hfu : mm_fu = NF; have hNF : 4096 ≤ NF := by rw [← hfu]; exact Nat.le_refl _
    simp (implicitDefEqProofs := false) (maxSteps := 1000000) (disch := omega) only [nl, ↓mm_lt_s, ↓cl_in, ↓cl_wi, ↓cl_has, ↓cl_isP, mL_le, lit_n, litL_n, mL_mI, mL_neg, mm_cl_s, mI_lt, mI_le, mI_eq, enc_at, enc_wr, enc_cp, mI_neg, mI_add, mI_sub, mI_mul, mI_ix, mm_ck_ok, mm_nz_ok, mm_bo_c, mm_bo_m0, mm_bo_m1, b01, Int.toNat_natCast, Int.reduceToNat, Int.reduceNeg, Int.reduceSub, Int.reduceAdd, Int.reduceMul, Int.reduceLT, Int.reduceLE, Int.reduceEq, ↓reduceIte, not_true, not_false_eq_true, not_true_eq_false, and_self, true_and, and_true, false_and, and_false, Decidable.not_not, stv1, stv2, stv3, stv4]
    rw [G _ _ NF (by omega)]
    rw [S _ _ NF (by omega)]
    simp (implicitDefEqProofs := false) (maxSteps := 1000000) (disch := omega) only [↓mm_lt_s, ↓cl_in, ↓cl_wi, ↓cl_has, ↓cl_isP, mL_le, lit_n, litL_n, mL_mI, mL_neg, mm_cl_s, mI_lt, mI_le, mI_eq, enc_at, enc_wr, enc_cp, mI_neg, mI_add, mI_sub, mI_mul, mI_ix, mm_ck_ok, mm_nz_ok, mm_bo_c, mm_bo_m0, mm_bo_m1, b01, Int.toNat_natCast, Int.reduceToNat, Int.reduceNeg, Int.reduceSub, Int.reduceAdd, Int.reduceMul, Int.reduceLT, Int.reduceLE, Int.reduceEq, ↓reduceIte, not_true, not_false_eq_true, not_true_eq_false, and_self, true_and, and_true, false_and, and_false, Decidable.not_not, stv1, stv2, stv3, stv4]
    rw [C1]
    simp (implicitDefEqProofs := false) (maxSteps := 1000000) (disch := omega) only [g23, g20, least_s, ↓mm_lt_s, ↓cl_in, ↓cl_wi, ↓cl_has, ↓cl_isP, mL_le, lit_n, litL_n, mL_mI, mL_neg, mm_cl_s, mI_lt, mI_le, mI_eq, enc_at, enc_wr, enc_cp, mI_neg, mI_add, mI_sub, mI_mul, mI_ix, mm_ck_ok, mm_nz_ok, mm_bo_c, mm_bo_m0, mm_bo_m1, b01, Int.toNat_natCast, Int.reduceToNat, Int.reduceNeg, Int.reduceSub, Int.reduceAdd, Int.reduceMul, Int.reduceLT, Int.reduceLE, Int.reduceEq, ↓reduceIte, not_true, not_false_eq_true, not_true_eq_false, and_self, true_and, and_true, false_and, and_false, Decidable.not_not, stv1, stv2, stv3, stv4]
  · rw [iw_ne (by omega), iw_ne (by omega), iw_ne (by omega), C2 _ _ (by omega), C2 _ _ (by omega), C2 _ _ (by omega), SC_ne (by omega), SC_ne (by omega)]
    refine ⟨rfl, rfl, ?_⟩
    unfold SC
    by_cases c : gonP τ1 n n k
    · rw [if_pos c, if_pos ⟨rfl, hk, c⟩]
    · rw [if_neg c, if_neg (fun x => c x.2.2), k2 _ _ (by omega)]
  · rw [iw_ne (by omega)]; exact C3
  · rw [iw_eq rfl rfl]
  · rw [iw_ne h2, C2 a b h1, f2 a b hab]
