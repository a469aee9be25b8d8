/-! the minutes of a search -/
def stQ (t : Int) (x : Nat → Int) : Nat → Int := if x 8 = 0 ∧ x 11 = t then onR 1 x else x
theorem ones_all : ∀ n, n < 7 → ∀ i, i < n → (2 ^ n - 1) / 2 ^ i % 2 = 1 := by decide +kernel
theorem stF_q {t : Int} {n : Nat} (hn : n ≤ 6) : ∀ (d i : Nat) (σ : IM), i + d = n → σ 30 2 = ((2 ^ n : Nat) : Int) - 1 → σ 32 5 = 0 → stF t d i σ = each σ i n (fun k => stQ t (σ (34 + k)))
  | 0, i, σ, h, _, _ => by
    have e : i = n := by omega
    subst e
    rw [each_nil]
    rfl
  | d + 1, i, σ, h, h2, h5 => by
    have pos : 0 < 2 ^ n := Nat.pow_pos (by decide)
    have e2 : σ 30 2 = ((2 ^ n - 1 : Nat) : Int) := by rw [h2]; omega
    have b1 : ropv (σ 30 2) (σ 30 4) i = 1 := by
      unfold ropv
      rw [if_neg (by omega), e2, bitZ_n, ones_all n (by omega) i (by omega)]
      rfl
    have b2 : ropd (σ 30 2) (σ 30 4) i = 0 := by
      unfold ropd
      rw [if_neg (by omega)]
    have nb : ¬ byFd (σ 30 3) (σ (34 + i) 2) (σ 32 5) := by
      unfold byFd
      omega
    have S : stS t σ i = setR σ i (stQ t (σ (34 + i))) := by
      unfold stS stQ
      by_cases c : σ (34 + i) 8 = 0 ∧ σ (34 + i) 11 = t
      · rw [if_pos c, if_pos c, if_neg nb, b1, b2, iw_self (by omega)]
      · rw [if_neg c, if_neg c]
        exact setR_of (fun _ => rfl) (fun _ _ _ => rfl)
    unfold stF
    rw [S, stF_q hn d (i + 1) _ (by omega) (by rw [setR_ne (by omega)]; exact h2) (by rw [setR_ne (by omega)]; exact h5)]
    refine each_step (g := fun σ k => stQ t (σ (34 + k))) (by omega) (fun b => by rw [setR_i]) (fun a b hab => setR_ne hab) (fun p b hp => ?_)
    rw [show setR σ i (stQ t (σ (34 + i))) (34 + p) = σ (34 + p) from funext fun b => setR_ne (by omega)]
theorem offR_ne3 {t h P : Int} {x : Nat → Int} (h8 : x 8 ≠ 3) : offR t h (wlkR P x) 8 ≠ 3 := by
  have w8 : wlkR P x 8 ≠ 3 := by
    unfold wlkR
    by_cases c : x 8 = 1
    · rw [if_pos c, if_neg (by decide), if_pos rfl]
      split <;> decide
    · rw [if_neg c]; exact h8
  by_cases c : wlkR P x 8 = 2
  · have := offR_8 (t := t) (h := h) c
    omega
  · rw [offR_no c]; exact w8
theorem minF_q {t : Int} {n : Nat} {σ : IM} (hn : n ≤ 6) (h2 : σ 30 2 = ((2 ^ n : Nat) : Int) - 1) (h3 : σ 32 3 = 0) (h5 : σ 32 5 = 0) (hP : 1 ≤ σ 30 3) (h8 : ∀ k, k < n → σ (34 + k) 8 ≠ 3) : minF t n σ = each (offF t n (walkF n σ)) 0 n (fun k => stQ t (offF t n (walkF n σ) (34 + k))) := by
  have e1 : nightF t σ = σ := by
    unfold nightF
    split
    · refine iw_self ?_
      rw [h3]
      split <;> omega
    · rfl
  unfold minF
  rw [e1]
  have e2 : fordF t n (offF t n (walkF n σ)) = offF t n (walkF n σ) := by
    refine IMext n (fun k hk => ?_) (fun a b h => fordF_ne h)
    rw [fordF_row hk]
    funext b
    unfold fordR
    rw [if_neg (fun x => ?_)]
    rw [offF_row hk, walkF_row hk] at x
    exact offR_ne3 (h8 k hk) x.1
  rw [e2]
  have ox : ∀ a b, ¬ (34 ≤ a ∧ a < 34 + n) → ¬ (a = 33 ∧ b < 2) → ¬ (a = 30 ∧ (b = 3 ∨ b = 5)) → offF t n (walkF n σ) a b = σ a b := fun a b x1 x2 x3 => by rw [offF_ne x1 x2 x3, walkF_ne x1]
  exact stF_q hn n 0 _ (by omega) (by rw [ox _ _ (by omega) (by omega) (by omega)]; exact h2) (by rw [ox _ _ (by omega) (by omega) (by omega)]; exact h5)
theorem minF_qr {t : Int} {n k : Nat} {σ : IM} (hn : n ≤ 6) (h2 : σ 30 2 = ((2 ^ n : Nat) : Int) - 1) (h3 : σ 32 3 = 0) (h5 : σ 32 5 = 0) (hP : 1 ≤ σ 30 3) (h8 : ∀ k, k < n → σ (34 + k) 8 ≠ 3) (hk : k < n) : minF t n σ (34 + k) = stQ t (offR t (hv n (walkF n σ) k) (wlkR (σ 30 3) (σ (34 + k)))) := by
  rw [minF_q hn h2 h3 h5 hP h8]
  funext b
  rw [each_in (by omega) hk, offF_row hk, walkF_row hk]
theorem minF_qn {t : Int} {n a b : Nat} {σ : IM} (hn : n ≤ 6) (h2 : σ 30 2 = ((2 ^ n : Nat) : Int) - 1) (h3 : σ 32 3 = 0) (h5 : σ 32 5 = 0) (hP : 1 ≤ σ 30 3) (h8 : ∀ k, k < n → σ (34 + k) 8 ≠ 3) (h : ¬ (34 ≤ a ∧ a < 34 + n)) : minF t n σ a b = offF t n (walkF n σ) a b := by
  rw [minF_q hn h2 h3 h5 hP h8, each_ne (by omega)]
/-- the pace of one that is chosen -/
def pcW (τ : IM) (w : Nat → Nat) (k : Nat) : Int := pac (τ 1 (7 * w k + 2)) (τ 1 (7 * w k + 3))
/-- what the reference knows of those who are chosen -/
def WK (τ : IM) (n : Nat) (w : Nat → Nat) : Prop := (τ 0 29 = (n : Int) ∧ n ≤ 6) ∧ ∀ k, k < n → w k < 10 ∧ τ 19 k = (w k : Int) ∧ (0 ≤ τ 1 (7 * w k + 2) ∧ τ 1 (7 * w k + 2) ≤ 3) ∧ (1 ≤ τ 1 (7 * w k + 3) ∧ τ 1 (7 * w k + 3) ≤ 20)
theorem WK.pc {τ : IM} {n k : Nat} {w : Nat → Nat} (h : WK τ n w) (hk : k < n) : 1 ≤ pcW τ w k ∧ pcW τ w k ≤ 40 := pac_rng (h.2 k hk).2.2.2.1 (h.2 k hk).2.2.2.2
theorem WK.cong {τ τ' : IM} {n : Nat} {w : Nat → Nat} (h : WK τ n w) (h1 : τ' 0 29 = τ 0 29) (h2 : ∀ b, τ' 19 b = τ 19 b) (h3 : ∀ b, τ' 1 b = τ 1 b) : WK τ' n w := by
  obtain ⟨a1, a2⟩ := h
  refine ⟨by rw [h1]; exact a1, fun k hk => ?_⟩
  rw [h2, h3, h3]
  exact a2 k hk
/-- one goes on, if it isn't at the end -/
def gsC (P pc : Int) (y : Nat → Int) (a : Nat) : Int := if y 8 = 0 then (if a = 7 then y 7 + pc else if a = 8 then (if y 7 + pc < P then 0 else 1) else y a) else y a
theorem gsM {τ : IM} {n k : Nat} {w : Nat → Nat} (hW : WK τ n w) (hk : k < n) (h7 : 0 ≤ τ 7 k ∧ τ 7 k ≤ 1000) (h8 : 0 ≤ τ 8 k ∧ τ 8 k ≤ 1) (h23 : 1 ≤ τ 0 23 ∧ τ 0 23 ≤ 400) : fX7_goSome (mI k) (enc τ) = some (mI 0, enc (setC τ k (gsC (τ 0 23) (pcW τ w k) (fun a => τ a k)))) := by
  obtain ⟨⟨w0, hn⟩, w1⟩ := hW
  obtain ⟨a1, a2, a3, a4⟩ := w1 k hk
  have P := paceM (w k) τ a1 a3 a4
  have pr := pac_rng (kind := τ 1 (7 * w k + 2)) a4.1 a4.2
  unfold pcW
  generalize pac (τ 1 (7 * w k + 2)) (τ 1 (7 * w k + 3)) = pc at *
  unfold fX7_goSome
  by_cases c : τ 8 k = 0
  · have e1 : iw τ 7 k (τ 7 k + pc) 7 k = τ 7 k + pc := iw_eq rfl rfl
    have e2 : iw τ 7 k (τ 7 k + pc) 0 23 = τ 0 23 := iw_ne (by omega)
    have fin : ∀ v, (if τ 7 k + pc < τ 0 23 then (0 : Int) else 1) = v → iw (iw τ 7 k (τ 7 k + pc)) 8 k v = setC τ k (gsC (τ 0 23) pc (fun a => τ a k)) := fun v hv => by
      refine setC_of (fun a h5 h6 => ?_) (fun a b hab => by rw [iw_ne (by omega), iw_ne (by omega)])
      unfold gsC
      dsimp only
      rw [if_pos c, hv]
      by_cases a7 : a = 7
      · rw [if_pos a7, iw_ne (by omega), a7, iw_eq rfl rfl]
      · by_cases a8 : a = 8
        · rw [if_neg a7, if_pos a8, a8, iw_eq rfl rfl]
        · rw [if_neg a7, if_neg a8, iw_ne (by omega), iw_ne (by omega)]
    by_cases d : τ 7 k + pc < τ 0 23
    · rw [← fin 0 (if_pos d)]
      simp (implicitDefEqProofs := false) (maxSteps := 1000000) (disch := omega) only [eq_true c, a2, ↓mm_lt_s, ↓cl_in, ↓cl_wi, ↓cl_has, ↓cl_isP, mL_le, lit_n, litL_n, mL_mI, mL_neg, mm_cl_s, mI_lt, mI_le, mI_eq, enc_at, enc_wr, enc_cp, mI_neg, mI_add, mI_sub, mI_mul, mI_ix, mm_ck_ok, mm_nz_ok, mm_bo_c, mm_bo_m0, mm_bo_m1, b01, Int.toNat_natCast, Int.reduceToNat, Int.reduceNeg, Int.reduceSub, Int.reduceAdd, Int.reduceMul, Int.reduceLT, Int.reduceLE, Int.reduceEq, ↓reduceIte, not_true, not_false_eq_true, not_true_eq_false, and_self, true_and, and_true, false_and, and_false, Decidable.not_not, stv1, stv2, stv3, stv4]
      rw [P]
      simp (implicitDefEqProofs := false) (maxSteps := 1000000) (disch := omega) only [e1, e2, d, ↓mm_lt_s, ↓cl_in, ↓cl_wi, ↓cl_has, ↓cl_isP, mL_le, lit_n, litL_n, mL_mI, mL_neg, mm_cl_s, mI_lt, mI_le, mI_eq, enc_at, enc_wr, enc_cp, mI_neg, mI_add, mI_sub, mI_mul, mI_ix, mm_ck_ok, mm_nz_ok, mm_bo_c, mm_bo_m0, mm_bo_m1, b01, Int.toNat_natCast, Int.reduceToNat, Int.reduceNeg, Int.reduceSub, Int.reduceAdd, Int.reduceMul, Int.reduceLT, Int.reduceLE, Int.reduceEq, ↓reduceIte, not_true, not_false_eq_true, not_true_eq_false, and_self, true_and, and_true, false_and, and_false, Decidable.not_not, stv1, stv2, stv3, stv4]
    · rw [← fin 1 (if_neg d)]
      simp (implicitDefEqProofs := false) (maxSteps := 1000000) (disch := omega) only [eq_true c, a2, ↓mm_lt_s, ↓cl_in, ↓cl_wi, ↓cl_has, ↓cl_isP, mL_le, lit_n, litL_n, mL_mI, mL_neg, mm_cl_s, mI_lt, mI_le, mI_eq, enc_at, enc_wr, enc_cp, mI_neg, mI_add, mI_sub, mI_mul, mI_ix, mm_ck_ok, mm_nz_ok, mm_bo_c, mm_bo_m0, mm_bo_m1, b01, Int.toNat_natCast, Int.reduceToNat, Int.reduceNeg, Int.reduceSub, Int.reduceAdd, Int.reduceMul, Int.reduceLT, Int.reduceLE, Int.reduceEq, ↓reduceIte, not_true, not_false_eq_true, not_true_eq_false, and_self, true_and, and_true, false_and, and_false, Decidable.not_not, stv1, stv2, stv3, stv4]
      rw [P]
      simp (implicitDefEqProofs := false) (maxSteps := 1000000) (disch := omega) only [e1, e2, d, ↓mm_lt_s, ↓cl_in, ↓cl_wi, ↓cl_has, ↓cl_isP, mL_le, lit_n, litL_n, mL_mI, mL_neg, mm_cl_s, mI_lt, mI_le, mI_eq, enc_at, enc_wr, enc_cp, mI_neg, mI_add, mI_sub, mI_mul, mI_ix, mm_ck_ok, mm_nz_ok, mm_bo_c, mm_bo_m0, mm_bo_m1, b01, Int.toNat_natCast, Int.reduceToNat, Int.reduceNeg, Int.reduceSub, Int.reduceAdd, Int.reduceMul, Int.reduceLT, Int.reduceLE, Int.reduceEq, ↓reduceIte, not_true, not_false_eq_true, not_true_eq_false, and_self, true_and, and_true, false_and, and_false, Decidable.not_not, stv1, stv2, stv3, stv4]
  · have e : setC τ k (gsC (τ 0 23) pc (fun a => τ a k)) = τ := by
      refine (setC_of (fun a h5 h6 => ?_) (fun _ _ _ => rfl)).symm
      unfold gsC
      dsimp only
      rw [if_neg c]
    rw [e]
    simp (implicitDefEqProofs := false) (maxSteps := 1000000) (disch := omega) only [c, ↓mm_lt_s, ↓cl_in, ↓cl_wi, ↓cl_has, ↓cl_isP, mL_le, lit_n, litL_n, mL_mI, mL_neg, mm_cl_s, mI_lt, mI_le, mI_eq, enc_at, enc_wr, enc_cp, mI_neg, mI_add, mI_sub, mI_mul, mI_ix, mm_ck_ok, mm_nz_ok, mm_bo_c, mm_bo_m0, mm_bo_m1, b01, Int.toNat_natCast, Int.reduceToNat, Int.reduceNeg, Int.reduceSub, Int.reduceAdd, Int.reduceMul, Int.reduceLT, Int.reduceLE, Int.reduceEq, ↓reduceIte, not_true, not_false_eq_true, not_true_eq_false, and_self, true_and, and_true, false_and, and_false, Decidable.not_not, stv1, stv2, stv3, stv4]
theorem gsM_L {K : Mm → Aa} {z : Int32 → Mm → Aa} {n : Nat} {w : Nat → Nat} : ∀ (d i N : Nat) (τ : IM), i + d = n → d < N → WK τ n w → (∀ k, i ≤ k → k < n → (0 ≤ τ 7 k ∧ τ 7 k ≤ 1000) ∧ (0 ≤ τ 8 k ∧ τ 8 k ≤ 1)) → (1 ≤ τ 0 23 ∧ τ 0 23 ≤ 400) → mm_lk z (fX7_goCompanies_L17 K) N (mI i) (enc τ) = K (enc (eachM τ i n (fun k => gsC (τ 0 23) (pcW τ w k) (fun a => τ a k))))
  | d, i, 0, τ, _, h, _, _, _ => absurd h (Nat.not_lt_zero d)
  | 0, i, N + 1, τ, h, _, hW, _, _ => by
    have e : i = n := by omega
    subst e
    have h29 := hW.1.1
    have h6 := hW.1.2
    rw [mm_lk_s, fX7_goCompanies_L17, eachM_nil]
    simp (implicitDefEqProofs := false) (maxSteps := 1000000) (disch := omega) only [h29, ↓mm_lt_s, ↓cl_in, ↓cl_wi, ↓cl_has, ↓cl_isP, mL_le, lit_n, litL_n, mL_mI, mL_neg, mm_cl_s, mI_lt, mI_le, mI_eq, enc_at, enc_wr, enc_cp, mI_neg, mI_add, mI_sub, mI_mul, mI_ix, mm_ck_ok, mm_nz_ok, mm_bo_c, mm_bo_m0, mm_bo_m1, b01, Int.toNat_natCast, Int.reduceToNat, Int.reduceNeg, Int.reduceSub, Int.reduceAdd, Int.reduceMul, Int.reduceLT, Int.reduceLE, Int.reduceEq, ↓reduceIte, not_true, not_false_eq_true, not_true_eq_false, and_self, true_and, and_true, false_and, and_false, Decidable.not_not, stv1, stv2, stv3, stv4]
    repeat (first | rw [if_pos (by omega)] | rw [if_neg (by omega)])
  | d + 1, i, N + 1, τ, h, h2, hW, hB, hP => by
    have h29 := hW.1.1
    have h6 := hW.1.2
    have c1 : ¬ (n : Int) ≤ (i : Int) := by omega
    have hi : i < n := by omega
    have G := gsM (k := i) hW hi (hB i (by omega) hi).1 (hB i (by omega) hi).2 hP
    generalize hτ1 : setC τ i (gsC (τ 0 23) (pcW τ w i) (fun a => τ a i)) = τ1 at *
    have k1 : ∀ a, 5 ≤ a → a ≤ 17 → τ1 a i = gsC (τ 0 23) (pcW τ w i) (fun a => τ a i) a := fun a h5 h6 => by rw [← hτ1, setC_i h5 h6]
    have k2 : ∀ a b, ¬ ((5 ≤ a ∧ a ≤ 17) ∧ b = i) → τ1 a b = τ a b := fun a b h => by rw [← hτ1, setC_ne h]
    have pw : ∀ k, pcW τ1 w k = pcW τ w k := fun k => by
      unfold pcW
      rw [k2 _ _ (by omega), k2 _ _ (by omega)]
    rw [← eachM_step (g := fun τ k => gsC (τ 0 23) (pcW τ w k) (fun a => τ a k)) hi k1 k2 (fun p b hp => by
      rw [k2 0 23 (by omega), pw, show (fun a => τ1 a p) = (fun a => τ a p) from funext fun a => k2 _ _ (by omega)])]
    have pr := hW.pc hi
    rw [← gsM_L (K := K) (z := z) (w := w) d (i + 1) N τ1 (by omega) (by omega) (hW.cong (k2 _ _ (by omega)) (fun b => k2 _ _ (by omega)) (fun b => k2 _ _ (by omega))) (fun k hk1 hk => by
      rw [k2 7 _ (by omega), k2 8 _ (by omega)]
      exact hB k (by omega) hk) (by rw [k2 _ _ (by omega)]; exact hP)]
    rw [mm_lk_s, fX7_goCompanies_L17]
    simp (implicitDefEqProofs := false) (maxSteps := 1000000) (disch := omega) only [h29, c1, ↓mm_lt_s, ↓cl_in, ↓cl_wi, ↓cl_has, ↓cl_isP, mL_le, lit_n, litL_n, mL_mI, mL_neg, mm_cl_s, mI_lt, mI_le, mI_eq, enc_at, enc_wr, enc_cp, mI_neg, mI_add, mI_sub, mI_mul, mI_ix, mm_ck_ok, mm_nz_ok, mm_bo_c, mm_bo_m0, mm_bo_m1, b01, Int.toNat_natCast, Int.reduceToNat, Int.reduceNeg, Int.reduceSub, Int.reduceAdd, Int.reduceMul, Int.reduceLT, Int.reduceLE, Int.reduceEq, ↓reduceIte, not_true, not_false_eq_true, not_true_eq_false, and_self, true_and, and_true, false_and, and_false, Decidable.not_not, stv1, stv2, stv3, stv4]
    rw [G]
    simp (implicitDefEqProofs := false) (maxSteps := 1000000) (disch := omega) only [cast_s, ↓mm_lt_s, ↓cl_in, ↓cl_wi, ↓cl_has, ↓cl_isP, mL_le, lit_n, litL_n, mL_mI, mL_neg, mm_cl_s, mI_lt, mI_le, mI_eq, enc_at, enc_wr, enc_cp, mI_neg, mI_add, mI_sub, mI_mul, mI_ix, mm_ck_ok, mm_nz_ok, mm_bo_c, mm_bo_m0, mm_bo_m1, b01, Int.toNat_natCast, Int.reduceToNat, Int.reduceNeg, Int.reduceSub, Int.reduceAdd, Int.reduceMul, Int.reduceLT, Int.reduceLE, Int.reduceEq, ↓reduceIte, not_true, not_false_eq_true, not_true_eq_false, and_self, true_and, and_true, false_and, and_false, Decidable.not_not, stv1, stv2, stv3, stv4]
